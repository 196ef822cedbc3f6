set_option maxHeartbeats 4000000 in
set_option maxRecDepth 100000 in
theorem c_X10_mends (l : Launch) (G : LG) (b0 : Nat) (V : St) (x1 : Int32) (x2 : Int32) (x3 : Int32) (x4 : Int32) (res : Int32 × St) (hr : f_X10_mends V x1 x2 x3 x4 = some res) : Met l yX10_mends (wy yX10_mends cX10_mends 9 (some .int)) (rm 2) (va_Pc [.ref (b0 + 208), .int x1, .int x2, .int x3, .int x4] (Iv G b0 V)) (QI G b0 res.1 res.2) 0 0 (Ab b0) := by
  refine mk_m (by decide +kernel) (Nat.le_of_ble_eq_true rfl) ?_
  intro p e s m below meth c C hV hS ls hl
  obtain ⟨args, hargs⟩ : ∃ z, z = ([.ref (b0 + 208), .int x1, .int x2, .int x3, .int x4] : List Value).toArray := ⟨_, rfl⟩
  rw [← hargs] at C ⊢
  obtain ⟨hx, hb, hrt, hml, hown, hts, hlocks, hK, hSv⟩ := id C
  have hl : lv_has ls 9 [(0, .ref (b0 + 208)), (1, .int x1), (2, .int x2), (3, .int x3), (4, .int x4)] := hl
  have K_137 : ∀ (V : St) (x1 : Int32) (x4 : Int32) (x5 : Int32) (x6 : Int32) (y0 : Int32), f_X10_mends_b137 V x1 x4 x5 x6 y0 = some res → ∀ (H : Heap) (locs : List Loc) (ls : Array Slot), Hd G b0 V H → va_S (Ab b0) s.heap H locs → lv_has ls 9 [(0, .ref (b0 + 208)), (1, .int x1), (4, .int x4), (5, .int x5), (6, .int x6)] → W p l e (rm 2) s m args below meth c H locs 0 0 (MQ below (QI G b0 res.1 res.2) args s 0 0 (Ab b0)) (F0 m 137 ls [.int y0]) := by
    intro V x1 x4 x5 x6 y0 hr H locs ls hV hS hl
    unfold f_X10_mends_b137 at hr
    refine lv_istore (lv' := [(7, .int y0), (0, .ref (b0 + 208)), (1, .int x1), (4, .int x4), (5, .int x5), (6, .int x6)]) hx hb dX10_mends_137 hl (by decide) rfl (fun ls hl => ?_)
    refine lv_aload_n hx hb dX10_mends_139 rfl (lv_at hl 1 rfl) ?_
    refine g_X10_1 C hV q_1392 dX10_mends_140 ?_
    refine lv_bipush (v := 21) hx hb dX10_mends_143 (by decide) ?_
    refine lv_iconst (v := 2) hx hb dX10_mends_145 (by decide) ?_
    refine lv_iload hx hb dX10_mends_146 (lv_at hl 3 rfl) ?_
    refine lv_imul hx hb dX10_mends_148 ?_
    refine lv_iadd hx hb dX10_mends_149 ?_
    obtain ⟨j1, e1, hr⟩ := ob hr
    refine a_21 (k := 209) (i := (21 + (2 * x4))) (j := j1) C hV z_209 e1 dX10_mends_150 ?_
    refine lv_istore (lv' := [(8, .int (V 209 j1)), (7, .int y0), (0, .ref (b0 + 208)), (1, .int x1), (4, .int x4), (5, .int x5), (6, .int x6)]) hx hb dX10_mends_151 hl (by decide) rfl (fun ls hl => ?_)
    refine lv_iload hx hb dX10_mends_153 (lv_at hl 0 rfl) ?_
    refine lv_iload hx hb dX10_mends_155 (lv_at hl 1 rfl) ?_
    refine lv_icmp_ge (tgt := 169) hx hb dX10_mends_157 (by decide) (fun b_2 => ?_) (fun b_2 => ?_)
    · have hr := it b_2 hr
      refine lv_aload_n hx hb dX10_mends_169 rfl (lv_at hl 2 rfl) ?_
      refine lv_iload_n hx hb dX10_mends_170 rfl (lv_at hl 3 rfl) ?_
      refine lv_iload hx hb dX10_mends_171 (lv_at hl 5 rfl) ?_
      refine lv_iload hx hb dX10_mends_173 (lv_at hl 6 rfl) ?_
      refine lv_iconst (v := 0) hx hb dX10_mends_175 (by decide) ?_
      obtain ⟨q3, e3, hr⟩ := ob hr
      refine cal_v (run_V (As := [.int x1, .int x5, .int x6, .int 0]) (rest := []) C hV hS (c_X10_sets l G b0 V x1 x5 x6 0 q3 e3) (rcv hK hV (kd_lt z_208 (by decide)) (cel_20 z_208) rfl) q_1507 q_1509 q_99 q_151 q_1510 dk_X10_sets (rm_ok (by decide) (by decide)) hl.1 rfl (Nat.le_of_ble_eq_true rfl) dX10_mends_176 ⟨Nat.zero_le _, Nat.zero_le _⟩) hS (fun H locs hV hS => ?_)
      refine lv_aload_n hx hb dX10_mends_179 rfl (lv_at hl 2 rfl) ?_
      refine g_X10_1 C hV q_1392 dX10_mends_180 ?_
      refine lv_bipush (v := 21) hx hb dX10_mends_183 (by decide) ?_
      refine lv_iconst (v := 2) hx hb dX10_mends_185 (by decide) ?_
      refine lv_iload hx hb dX10_mends_186 (lv_at hl 4 rfl) ?_
      refine lv_imul hx hb dX10_mends_188 ?_
      refine lv_iadd hx hb dX10_mends_189 ?_
      refine lv_iload hx hb dX10_mends_190 (lv_at hl 0 rfl) ?_
      refine lv_iload hx hb dX10_mends_192 (lv_at hl 1 rfl) ?_
      refine lv_isub hx hb dX10_mends_194 ?_
      obtain ⟨j4, e4, hr⟩ := ob hr
      refine s_21 (k := 209) (i := (21 + (2 * x4))) (j := j4) (x := ((V 209 j1) - y0)) C hV hS z_209 e4 dX10_mends_195 (fun H locs hV hS => ?_)
      refine lv_aload_n hx hb dX10_mends_196 rfl (lv_at hl 2 rfl) ?_
      refine g_X10_1 C hV q_1392 dX10_mends_197 ?_
      refine lv_bipush (v := 21) hx hb dX10_mends_200 (by decide) ?_
      refine lv_iconst (v := 2) hx hb dX10_mends_202 (by decide) ?_
      refine lv_iload hx hb dX10_mends_203 (lv_at hl 4 rfl) ?_
      refine lv_imul hx hb dX10_mends_205 ?_
      refine lv_iadd hx hb dX10_mends_206 ?_
      refine lv_iconst (v := 1) hx hb dX10_mends_207 (by decide) ?_
      refine lv_iadd hx hb dX10_mends_208 ?_
      refine lv_dup2_11 hx hb dX10_mends_209 rfl rfl ?_
      obtain ⟨j5, e5, hr⟩ := ob hr
      refine a_21 (k := 209) (i := ((21 + (2 * x4)) + 1)) (j := j5) C hV z_209 e5 dX10_mends_210 ?_
      refine lv_iconst (v := 1) hx hb dX10_mends_211 (by decide) ?_
      refine lv_iadd hx hb dX10_mends_212 ?_
      obtain ⟨j6, e6, hr⟩ := ob hr
      refine s_21 (k := 209) (i := ((21 + (2 * x4)) + 1)) (j := j6) (x := (((up q3 209 j4 ((V 209 j1) - y0)) 209 j5) + 1)) C hV hS z_209 e6 dX10_mends_213 (fun H locs hV hS => ?_)
      refine lv_aload_n hx hb dX10_mends_214 rfl (lv_at hl 2 rfl) ?_
      refine g_X10_1 C hV q_1392 dX10_mends_215 ?_
      refine lv_iconst (v := 4) hx hb dX10_mends_218 (by decide) ?_
      refine lv_dup2_11 hx hb dX10_mends_219 rfl rfl ?_
      refine a_21 (k := 209) (i := 4) (j := 4) C hV z_209 (by decide) dX10_mends_220 ?_
      refine lv_iconst (v := 1) hx hb dX10_mends_221 (by decide) ?_
      refine lv_iadd hx hb dX10_mends_222 ?_
      refine s_21 (k := 209) (i := 4) (j := 4) (x := (((up (up q3 209 j4 ((V 209 j1) - y0)) 209 j6 (((up q3 209 j4 ((V 209 j1) - y0)) 209 j5) + 1)) 209 4) + 1)) C hV hS z_209 (by decide) dX10_mends_223 (fun H locs hV hS => ?_)
      refine lv_aload_n hx hb dX10_mends_224 rfl (lv_at hl 2 rfl) ?_
      refine g_X10_1 C hV q_1392 dX10_mends_225 ?_
      refine lv_iconst (v := 5) hx hb dX10_mends_228 (by decide) ?_
      refine lv_dup2_11 hx hb dX10_mends_229 rfl rfl ?_
      refine a_21 (k := 209) (i := 5) (j := 5) C hV z_209 (by decide) dX10_mends_230 ?_
      refine lv_iload hx hb dX10_mends_231 (lv_at hl 1 rfl) ?_
      refine lv_iadd hx hb dX10_mends_233 ?_
      refine s_21 (k := 209) (i := 5) (j := 5) (x := (((up (up (up q3 209 j4 ((V 209 j1) - y0)) 209 j6 (((up q3 209 j4 ((V 209 j1) - y0)) 209 j5) + 1)) 209 4 (((up (up q3 209 j4 ((V 209 j1) - y0)) 209 j6 (((up q3 209 j4 ((V 209 j1) - y0)) 209 j5) + 1)) 209 4) + 1)) 209 5) + y0)) C hV hS z_209 (by decide) dX10_mends_234 (fun H locs hV hS => ?_)
      refine lv_aload_n hx hb dX10_mends_235 rfl (lv_at hl 2 rfl) ?_
      refine lv_iload hx hb dX10_mends_236 (lv_at hl 0 rfl) ?_
      refine lv_iload hx hb dX10_mends_238 (lv_at hl 1 rfl) ?_
      refine lv_isub hx hb dX10_mends_240 ?_
      obtain ⟨q7, e7, hr⟩ := ob hr
      refine cal_i (run_V (As := [.int ((V 209 j1) - y0)]) (rest := []) C hV hS (c_X10_done l G b0 (up (up (up (up q3 209 j4 ((V 209 j1) - y0)) 209 j6 (((up q3 209 j4 ((V 209 j1) - y0)) 209 j5) + 1)) 209 4 (((up (up q3 209 j4 ((V 209 j1) - y0)) 209 j6 (((up q3 209 j4 ((V 209 j1) - y0)) 209 j5) + 1)) 209 4) + 1)) 209 5 (((up (up (up q3 209 j4 ((V 209 j1) - y0)) 209 j6 (((up q3 209 j4 ((V 209 j1) - y0)) 209 j5) + 1)) 209 4 (((up (up q3 209 j4 ((V 209 j1) - y0)) 209 j6 (((up q3 209 j4 ((V 209 j1) - y0)) 209 j5) + 1)) 209 4) + 1)) 209 5) + y0)) ((V 209 j1) - y0) q7 e7) (rcv hK hV (kd_lt z_208 (by decide)) (cel_20 z_208) rfl) q_1511 q_1513 q_100 q_151 q_1514 dk_X10_done (rm_ok (by decide) (by decide)) hl.1 rfl (Nat.le_of_ble_eq_true rfl) dX10_mends_241 ⟨Nat.zero_le _, Nat.zero_le _⟩) hS (fun H locs hV hS => ?_)
      rw [← Option.some.inj hr]
      exact fin_i C hV hS rfl dX10_mends_244
    · have hr := ie b_2 hr
      refine lv_aload_n hx hb dX10_mends_160 rfl (lv_at hl 2 rfl) ?_
      refine lv_bipush (v := 6) hx hb dX10_mends_161 (by decide) ?_
      refine lv_iload hx hb dX10_mends_163 (lv_at hl 0 rfl) ?_
      obtain ⟨q8, e8, hr⟩ := ob hr
      refine cal_i (run_V (As := [.int 6, .int (V 209 j1)]) (rest := []) C hV hS (c_X10_refused l G b0 V 6 (V 209 j1) q8 e8) (rcv hK hV (kd_lt z_208 (by decide)) (cel_20 z_208) rfl) q_1492 q_1494 q_96 q_151 q_1495 dk_X10_refused (rm_ok (by decide) (by decide)) hl.1 rfl (Nat.le_of_ble_eq_true rfl) dX10_mends_165 ⟨Nat.zero_le _, Nat.zero_le _⟩) hS (fun H locs hV hS => ?_)
      rw [← Option.some.inj hr]
      exact fin_i C hV hS rfl dX10_mends_168
  have K_97 : ∀ (V : St) (x1 : Int32) (x2 : Int32) (x3 : Int32) (x4 : Int32) (x5 : Int32) (y0 : Int32), f_X10_mends_b97 V x1 x2 x3 x4 x5 y0 = some res → ∀ (H : Heap) (locs : List Loc) (ls : Array Slot), Hd G b0 V H → va_S (Ab b0) s.heap H locs → lv_has ls 9 [(0, .ref (b0 + 208)), (1, .int x1), (2, .int x2), (3, .int x3), (4, .int x4), (5, .int x5)] → W p l e (rm 2) s m args below meth c H locs 0 0 (MQ below (QI G b0 res.1 res.2) args s 0 0 (Ab b0)) (F0 m 97 ls [.int y0]) := by
    intro V x1 x2 x3 x4 x5 y0 hr H locs ls hV hS hl
    unfold f_X10_mends_b97 at hr
    refine lv_istore (lv' := [(6, .int y0), (0, .ref (b0 + 208)), (1, .int x1), (2, .int x2), (3, .int x3), (4, .int x4), (5, .int x5)]) hx hb dX10_mends_97 hl (by decide) rfl (fun ls hl => ?_)
    refine lv_aload_n hx hb dX10_mends_99 rfl (lv_at hl 1 rfl) ?_
    refine lv_iload_n hx hb dX10_mends_100 rfl (lv_at hl 2 rfl) ?_
    refine lv_iload hx hb dX10_mends_101 (lv_at hl 6 rfl) ?_
    obtain ⟨q9, e9, hr⟩ := ob hr
    refine cal_i (run_V (As := [.int x1, .int x5]) (rest := []) C hV hS (c_X10_of l G b0 V x1 x5 q9 e9) (rcv hK hV (kd_lt z_208 (by decide)) (cel_20 z_208) rfl) q_1503 q_1505 q_98 q_151 q_1506 dk_X10_of (rm_ok (by decide) (by decide)) hl.1 rfl (Nat.le_of_ble_eq_true rfl) dX10_mends_103 ⟨Nat.zero_le _, Nat.zero_le _⟩) hS (fun H locs hV hS => ?_)
    refine lv_iload hx hb dX10_mends_106 (lv_at hl 0 rfl) ?_
    refine lv_ishr hx hb dX10_mends_108 ?_
    refine lv_iconst (v := 1) hx hb dX10_mends_109 (by decide) ?_
    refine lv_iand hx hb dX10_mends_110 ?_
    refine lv_if_ne (tgt := 126) hx hb dX10_mends_111 (by decide) (fun b_10 => ?_) (fun b_10 => ?_)
    · have hr := ie b_10 hr
      refine lv_iload hx hb dX10_mends_126 (lv_at hl 6 rfl) ?_
      refine lv_iconst (v := 2) hx hb dX10_mends_128 (by decide) ?_
      refine lv_icmp_ne (tgt := 136) hx hb dX10_mends_129 (by decide) (fun b_11 => ?_) (fun b_11 => ?_)
      · have hr := ie b_11 hr
        refine lv_iconst (v := 2) hx hb dX10_mends_136 (by decide) ?_
        exact K_137 _ x1 x4 x5 y0 2 hr _ _ ls hV hS (lv_sub hl [1, 2, 5, 6, 0] rfl)
      · have hr := it b_11 hr
        refine lv_iconst (v := 1) hx hb dX10_mends_132 (by decide) ?_
        refine lv_goto (tgt := 137) hx hb dX10_mends_133 (by decide) ?_
        exact K_137 _ x1 x4 x5 y0 1 hr _ _ ls hV hS (lv_sub hl [1, 2, 5, 6, 0] rfl)
    · have hr := it b_10 hr
      refine lv_aload_n hx hb dX10_mends_114 rfl (lv_at hl 1 rfl) ?_
      refine lv_iconst (v := 4) hx hb dX10_mends_115 (by decide) ?_
      refine lv_iload_n hx hb dX10_mends_116 rfl (lv_at hl 3 rfl) ?_
      refine lv_iload_n hx hb dX10_mends_117 rfl (lv_at hl 4 rfl) ?_
      refine lv_iadd hx hb dX10_mends_118 ?_
      refine lv_iload hx hb dX10_mends_119 (lv_at hl 0 rfl) ?_
      refine lv_isub hx hb dX10_mends_121 ?_
      obtain ⟨q12, e12, hr⟩ := ob hr
      refine cal_i (run_V (As := [.int 4, .int ((x2 + x3) - y0)]) (rest := []) C hV hS (c_X10_refused l G b0 V 4 ((x2 + x3) - y0) q12 e12) (rcv hK hV (kd_lt z_208 (by decide)) (cel_20 z_208) rfl) q_1492 q_1494 q_96 q_151 q_1495 dk_X10_refused (rm_ok (by decide) (by decide)) hl.1 rfl (Nat.le_of_ble_eq_true rfl) dX10_mends_122 ⟨Nat.zero_le _, Nat.zero_le _⟩) hS (fun H locs hV hS => ?_)
      rw [← Option.some.inj hr]
      exact fin_i C hV hS rfl dX10_mends_125
  unfold f_X10_mends at hr
  refine lv_iload_n hx hb dX10_mends_0 rfl (lv_at hl 1 rfl) ?_
  obtain ⟨q13, e13, hr⟩ := ob hr
  refine cal_i (run_S (As := [.int x1]) (rest := []) C hV hS (c_X10_isNet l G b0 V x1 q13 e13) q_1486 q_1487 q_151 q_1488 dk_X10_isNet (rm_ok (by decide) (by decide)) hl.1 rfl (Nat.le_of_ble_eq_true rfl) dX10_mends_1 ⟨Nat.zero_le _, Nat.zero_le _⟩) hS (fun H locs hV hS => ?_)
  refine lv_if_ne (tgt := 14) hx hb dX10_mends_4 (by decide) (fun b_14 => ?_) (fun b_14 => ?_)
  · have hr := ie b_14 hr
    refine lv_iload_n hx hb dX10_mends_14 rfl (lv_at hl 2 rfl) ?_
    obtain ⟨q15, e15, hr⟩ := ob hr
    refine cal_i (run_S (As := [.int x2]) (rest := []) C hV hS (c_X10_isPlace l G b0 V x2 q15 e15) q_1496 q_1497 q_151 q_1498 dk_X10_isPlace (rm_ok (by decide) (by decide)) hl.1 rfl (Nat.le_of_ble_eq_true rfl) dX10_mends_15 ⟨Nat.zero_le _, Nat.zero_le _⟩) hS (fun H locs hV hS => ?_)
    refine lv_if_ne (tgt := 28) hx hb dX10_mends_18 (by decide) (fun b_16 => ?_) (fun b_16 => ?_)
    · have hr := ie b_16 hr
      refine lv_iload_n hx hb dX10_mends_28 rfl (lv_at hl 3 rfl) ?_
      obtain ⟨q17, e17, hr⟩ := ob hr
      refine cal_i (run_S (As := [.int x3]) (rest := []) C hV hS (c_X10_isPlace l G b0 V x3 q17 e17) q_1496 q_1497 q_151 q_1498 dk_X10_isPlace (rm_ok (by decide) (by decide)) hl.1 rfl (Nat.le_of_ble_eq_true rfl) dX10_mends_29 ⟨Nat.zero_le _, Nat.zero_le _⟩) hS (fun H locs hV hS => ?_)
      refine lv_if_ne (tgt := 42) hx hb dX10_mends_32 (by decide) (fun b_18 => ?_) (fun b_18 => ?_)
      · have hr := ie b_18 hr
        refine lv_iload hx hb dX10_mends_42 (lv_at hl 4 rfl) ?_
        refine lv_iconst (v := 0) hx hb dX10_mends_44 (by decide) ?_
        refine lv_aload_n hx hb dX10_mends_45 rfl (lv_at hl 0 rfl) ?_
        refine g_X10_1 C hV q_1392 dX10_mends_46 ?_
        refine lv_iconst (v := 1) hx hb dX10_mends_49 (by decide) ?_
        refine a_21 (k := 209) (i := 1) (j := 1) C hV z_209 (by decide) dX10_mends_50 ?_
        refine lv_iconst (v := 1) hx hb dX10_mends_51 (by decide) ?_
        refine lv_isub hx hb dX10_mends_52 ?_
        obtain ⟨q19, e19, hr⟩ := ob hr
        refine cal_i (run_S (As := [.int x4, .int 0, .int ((V 209 1) - 1)]) (rest := []) C hV hS (c_X10_in l G b0 V x4 0 ((V 209 1) - 1) q19 e19) q_1489 q_1490 q_151 q_1491 dk_X10_in (rm_ok (by decide) (by decide)) hl.1 rfl (Nat.le_of_ble_eq_true rfl) dX10_mends_53 ⟨Nat.zero_le _, Nat.zero_le _⟩) hS (fun H locs hV hS => ?_)
        refine lv_if_ne (tgt := 67) hx hb dX10_mends_56 (by decide) (fun b_20 => ?_) (fun b_20 => ?_)
        · have hr := ie b_20 hr
          refine lv_iload_n hx hb dX10_mends_67 rfl (lv_at hl 2 rfl) ?_
          refine lv_iload_n hx hb dX10_mends_68 rfl (lv_at hl 3 rfl) ?_
          obtain ⟨q21, e21, hr⟩ := ob hr
          refine cal_i (run_S (As := [.int x2, .int x3]) (rest := []) C hV hS (c_X10_stringFor l G b0 V x2 x3 q21 e21) q_1535 q_1536 q_151 q_1537 dk_X10_stringFor (rm_ok (by decide) (by decide)) hl.1 rfl (Nat.le_of_ble_eq_true rfl) dX10_mends_69 ⟨Nat.zero_le _, Nat.zero_le _⟩) hS (fun H locs hV hS => ?_)
          refine lv_istore (lv' := [(5, .int q21), (0, .ref (b0 + 208)), (1, .int x1), (2, .int x2), (3, .int x3), (4, .int x4)]) hx hb dX10_mends_72 hl (by decide) rfl (fun ls hl => ?_)
          refine lv_iload hx hb dX10_mends_74 (lv_at hl 0 rfl) ?_
          refine lv_iconst (v := (-1)) hx hb dX10_mends_76 (by decide) ?_
          refine lv_icmp_ne (tgt := 87) hx hb dX10_mends_77 (by decide) (fun b_22 => ?_) (fun b_22 => ?_)
          · have hr := ie b_22 hr
            refine lv_iload_n hx hb dX10_mends_87 rfl (lv_at hl 3 rfl) ?_
            refine lv_iload_n hx hb dX10_mends_88 rfl (lv_at hl 4 rfl) ?_
            refine lv_icmp_ge (tgt := 96) hx hb dX10_mends_89 (by decide) (fun b_23 => ?_) (fun b_23 => ?_)
            · have hr := it b_23 hr
              refine lv_iload_n hx hb dX10_mends_96 rfl (lv_at hl 4 rfl) ?_
              exact K_97 _ x1 x2 x3 x4 q21 x3 hr _ _ ls hV hS (lv_sub hl [1, 2, 3, 4, 5, 0] rfl)
            · have hr := ie b_23 hr
              refine lv_iload_n hx hb dX10_mends_92 rfl (lv_at hl 3 rfl) ?_
              refine lv_goto (tgt := 97) hx hb dX10_mends_93 (by decide) ?_
              exact K_97 _ x1 x2 x3 x4 q21 x2 hr _ _ ls hV hS (lv_sub hl [1, 2, 3, 4, 5, 0] rfl)
          · have hr := it b_22 hr
            refine lv_aload_n hx hb dX10_mends_80 rfl (lv_at hl 1 rfl) ?_
            refine lv_iconst (v := 5) hx hb dX10_mends_81 (by decide) ?_
            refine lv_iload_n hx hb dX10_mends_82 rfl (lv_at hl 4 rfl) ?_
            obtain ⟨q24, e24, hr⟩ := ob hr
            refine cal_i (run_V (As := [.int 5, .int x3]) (rest := []) C hV hS (c_X10_refused l G b0 V 5 x3 q24 e24) (rcv hK hV (kd_lt z_208 (by decide)) (cel_20 z_208) rfl) q_1492 q_1494 q_96 q_151 q_1495 dk_X10_refused (rm_ok (by decide) (by decide)) hl.1 rfl (Nat.le_of_ble_eq_true rfl) dX10_mends_83 ⟨Nat.zero_le _, Nat.zero_le _⟩) hS (fun H locs hV hS => ?_)
            rw [← Option.some.inj hr]
            exact fin_i C hV hS rfl dX10_mends_86
        · have hr := it b_20 hr
          refine lv_aload_n hx hb dX10_mends_59 rfl (lv_at hl 0 rfl) ?_
          refine lv_iconst (v := 2) hx hb dX10_mends_60 (by decide) ?_
          refine lv_iload hx hb dX10_mends_61 (lv_at hl 4 rfl) ?_
          obtain ⟨q25, e25, hr⟩ := ob hr
          refine cal_i (run_V (As := [.int 2, .int x4]) (rest := []) C hV hS (c_X10_refused l G b0 V 2 x4 q25 e25) (rcv hK hV (kd_lt z_208 (by decide)) (cel_20 z_208) rfl) q_1492 q_1494 q_96 q_151 q_1495 dk_X10_refused (rm_ok (by decide) (by decide)) hl.1 rfl (Nat.le_of_ble_eq_true rfl) dX10_mends_63 ⟨Nat.zero_le _, Nat.zero_le _⟩) hS (fun H locs hV hS => ?_)
          rw [← Option.some.inj hr]
          exact fin_i C hV hS rfl dX10_mends_66
      · have hr := it b_18 hr
        refine lv_aload_n hx hb dX10_mends_35 rfl (lv_at hl 0 rfl) ?_
        refine lv_iconst (v := 2) hx hb dX10_mends_36 (by decide) ?_
        refine lv_iload_n hx hb dX10_mends_37 rfl (lv_at hl 3 rfl) ?_
        obtain ⟨q26, e26, hr⟩ := ob hr
        refine cal_i (run_V (As := [.int 2, .int x3]) (rest := []) C hV hS (c_X10_refused l G b0 V 2 x3 q26 e26) (rcv hK hV (kd_lt z_208 (by decide)) (cel_20 z_208) rfl) q_1492 q_1494 q_96 q_151 q_1495 dk_X10_refused (rm_ok (by decide) (by decide)) hl.1 rfl (Nat.le_of_ble_eq_true rfl) dX10_mends_38 ⟨Nat.zero_le _, Nat.zero_le _⟩) hS (fun H locs hV hS => ?_)
        rw [← Option.some.inj hr]
        exact fin_i C hV hS rfl dX10_mends_41
    · have hr := it b_16 hr
      refine lv_aload_n hx hb dX10_mends_21 rfl (lv_at hl 0 rfl) ?_
      refine lv_iconst (v := 2) hx hb dX10_mends_22 (by decide) ?_
      refine lv_iload_n hx hb dX10_mends_23 rfl (lv_at hl 2 rfl) ?_
      obtain ⟨q27, e27, hr⟩ := ob hr
      refine cal_i (run_V (As := [.int 2, .int x2]) (rest := []) C hV hS (c_X10_refused l G b0 V 2 x2 q27 e27) (rcv hK hV (kd_lt z_208 (by decide)) (cel_20 z_208) rfl) q_1492 q_1494 q_96 q_151 q_1495 dk_X10_refused (rm_ok (by decide) (by decide)) hl.1 rfl (Nat.le_of_ble_eq_true rfl) dX10_mends_24 ⟨Nat.zero_le _, Nat.zero_le _⟩) hS (fun H locs hV hS => ?_)
      rw [← Option.some.inj hr]
      exact fin_i C hV hS rfl dX10_mends_27
  · have hr := it b_14 hr
    refine lv_aload_n hx hb dX10_mends_7 rfl (lv_at hl 0 rfl) ?_
    refine lv_iconst (v := 2) hx hb dX10_mends_8 (by decide) ?_
    refine lv_iload_n hx hb dX10_mends_9 rfl (lv_at hl 1 rfl) ?_
    obtain ⟨q28, e28, hr⟩ := ob hr
    refine cal_i (run_V (As := [.int 2, .int x1]) (rest := []) C hV hS (c_X10_refused l G b0 V 2 x1 q28 e28) (rcv hK hV (kd_lt z_208 (by decide)) (cel_20 z_208) rfl) q_1492 q_1494 q_96 q_151 q_1495 dk_X10_refused (rm_ok (by decide) (by decide)) hl.1 rfl (Nat.le_of_ble_eq_true rfl) dX10_mends_10 ⟨Nat.zero_le _, Nat.zero_le _⟩) hS (fun H locs hV hS => ?_)
    rw [← Option.some.inj hr]
    exact fin_i C hV hS rfl dX10_mends_13
set_option maxHeartbeats 4000000 in
set_option maxRecDepth 100000 in
theorem c_X10_comes (l : Launch) (G : LG) (b0 : Nat) (V : St) (x1 : Int32) (res : Int32 × St) (hr : f_X10_comes V x1 = some res) : Met l yX10_comes (wy yX10_comes cX10_comes 3 (some .int)) (rm 1) (va_Pc [.ref (b0 + 208), .int x1] (Iv G b0 V)) (QI G b0 res.1 res.2) 0 0 (Ab b0) := by
  refine mk_m (by decide +kernel) (Nat.le_of_ble_eq_true rfl) ?_
  intro p e s m below meth c C hV hS ls hl
  obtain ⟨args, hargs⟩ : ∃ z, z = ([.ref (b0 + 208), .int x1] : List Value).toArray := ⟨_, rfl⟩
  rw [← hargs] at C ⊢
  obtain ⟨hx, hb, hrt, hml, hown, hts, hlocks, hK, hSv⟩ := id C
  have hl : lv_has ls 3 [(0, .ref (b0 + 208)), (1, .int x1)] := hl
  unfold f_X10_comes at hr
  refine lv_iload_n hx hb dX10_comes_0 rfl (lv_at hl 1 rfl) ?_
  refine lv_iconst (v := 0) hx hb dX10_comes_1 (by decide) ?_
  refine lv_bipush (v := 99) hx hb dX10_comes_2 (by decide) ?_
  obtain ⟨q1, e1, hr⟩ := ob hr
  refine cal_i (run_S (As := [.int x1, .int 0, .int 99]) (rest := []) C hV hS (c_X10_in l G b0 V x1 0 99 q1 e1) q_1489 q_1490 q_151 q_1491 dk_X10_in (rm_ok (by decide) (by decide)) hl.1 rfl (Nat.le_of_ble_eq_true rfl) dX10_comes_4 ⟨Nat.zero_le _, Nat.zero_le _⟩) hS (fun H locs hV hS => ?_)
  refine lv_if_ne (tgt := 17) hx hb dX10_comes_7 (by decide) (fun b_2 => ?_) (fun b_2 => ?_)
  · have hr := ie b_2 hr
    refine lv_aload_n hx hb dX10_comes_17 rfl (lv_at hl 0 rfl) ?_
    refine g_X10_1 C hV q_1392 dX10_comes_18 ?_
    refine lv_iconst (v := 1) hx hb dX10_comes_21 (by decide) ?_
    refine a_21 (k := 209) (i := 1) (j := 1) C hV z_209 (by decide) dX10_comes_22 ?_
    refine lv_istore_n (lv' := [(2, .int (V 209 1)), (0, .ref (b0 + 208)), (1, .int x1)]) hx hb dX10_comes_23 rfl hl (by decide) rfl (fun ls hl => ?_)
    refine lv_iload_n hx hb dX10_comes_24 rfl (lv_at hl 0 rfl) ?_
    refine lv_iconst (v := 4) hx hb dX10_comes_25 (by decide) ?_
    refine lv_icmp_ne (tgt := 36) hx hb dX10_comes_26 (by decide) (fun b_3 => ?_) (fun b_3 => ?_)
    · have hr := ie b_3 hr
      refine lv_aload_n hx hb dX10_comes_36 rfl (lv_at hl 1 rfl) ?_
      refine g_X10_1 C hV q_1392 dX10_comes_37 ?_
      refine lv_bipush (v := 21) hx hb dX10_comes_40 (by decide) ?_
      refine lv_iconst (v := 2) hx hb dX10_comes_42 (by decide) ?_
      refine lv_iload_n hx hb dX10_comes_43 rfl (lv_at hl 0 rfl) ?_
      refine lv_imul hx hb dX10_comes_44 ?_
      refine lv_iadd hx hb dX10_comes_45 ?_
      refine lv_iload_n hx hb dX10_comes_46 rfl (lv_at hl 2 rfl) ?_
      obtain ⟨j4, e4, hr⟩ := ob hr
      refine s_21 (k := 209) (i := (21 + (2 * (V 209 1)))) (j := j4) (x := x1) C hV hS z_209 e4 dX10_comes_47 (fun H locs hV hS => ?_)
      refine lv_aload_n hx hb dX10_comes_48 rfl (lv_at hl 1 rfl) ?_
      refine g_X10_1 C hV q_1392 dX10_comes_49 ?_
      refine lv_bipush (v := 21) hx hb dX10_comes_52 (by decide) ?_
      refine lv_iconst (v := 2) hx hb dX10_comes_54 (by decide) ?_
      refine lv_iload_n hx hb dX10_comes_55 rfl (lv_at hl 0 rfl) ?_
      refine lv_imul hx hb dX10_comes_56 ?_
      refine lv_iadd hx hb dX10_comes_57 ?_
      refine lv_iconst (v := 1) hx hb dX10_comes_58 (by decide) ?_
      refine lv_iadd hx hb dX10_comes_59 ?_
      refine lv_iconst (v := 0) hx hb dX10_comes_60 (by decide) ?_
      obtain ⟨j5, e5, hr⟩ := ob hr
      refine s_21 (k := 209) (i := ((21 + (2 * (V 209 1))) + 1)) (j := j5) (x := 0) C hV hS z_209 e5 dX10_comes_61 (fun H locs hV hS => ?_)
      refine lv_aload_n hx hb dX10_comes_62 rfl (lv_at hl 1 rfl) ?_
      refine g_X10_1 C hV q_1392 dX10_comes_63 ?_
      refine lv_iconst (v := 1) hx hb dX10_comes_66 (by decide) ?_
      refine lv_iload_n hx hb dX10_comes_67 rfl (lv_at hl 0 rfl) ?_
      refine lv_iconst (v := 1) hx hb dX10_comes_68 (by decide) ?_
      refine lv_iadd hx hb dX10_comes_69 ?_
      refine s_21 (k := 209) (i := 1) (j := 1) (x := ((V 209 1) + 1)) C hV hS z_209 (by decide) dX10_comes_70 (fun H locs hV hS => ?_)
      refine lv_aload_n hx hb dX10_comes_71 rfl (lv_at hl 1 rfl) ?_
      refine lv_iload_n hx hb dX10_comes_72 rfl (lv_at hl 0 rfl) ?_
      obtain ⟨q6, e6, hr⟩ := ob hr
      refine cal_i (run_V (As := [.int (V 209 1)]) (rest := []) C hV hS (c_X10_done l G b0 (up (up (up V 209 j4 x1) 209 j5 0) 209 1 ((V 209 1) + 1)) (V 209 1) q6 e6) (rcv hK hV (kd_lt z_208 (by decide)) (cel_20 z_208) rfl) q_1511 q_1513 q_100 q_151 q_1514 dk_X10_done (rm_ok (by decide) (by decide)) hl.1 rfl (Nat.le_of_ble_eq_true rfl) dX10_comes_73 ⟨Nat.zero_le _, Nat.zero_le _⟩) hS (fun H locs hV hS => ?_)
      rw [← Option.some.inj hr]
      exact fin_i C hV hS rfl dX10_comes_76
    · have hr := it b_3 hr
      refine lv_aload_n hx hb dX10_comes_29 rfl (lv_at hl 1 rfl) ?_
      refine lv_iconst (v := 1) hx hb dX10_comes_30 (by decide) ?_
      refine lv_iconst (v := 4) hx hb dX10_comes_31 (by decide) ?_
      obtain ⟨q7, e7, hr⟩ := ob hr
      refine cal_i (run_V (As := [.int 1, .int 4]) (rest := []) C hV hS (c_X10_refused l G b0 V 1 4 q7 e7) (rcv hK hV (kd_lt z_208 (by decide)) (cel_20 z_208) rfl) q_1492 q_1494 q_96 q_151 q_1495 dk_X10_refused (rm_ok (by decide) (by decide)) hl.1 rfl (Nat.le_of_ble_eq_true rfl) dX10_comes_32 ⟨Nat.zero_le _, Nat.zero_le _⟩) hS (fun H locs hV hS => ?_)
      rw [← Option.some.inj hr]
      exact fin_i C hV hS rfl dX10_comes_35
  · have hr := it b_2 hr
    refine lv_aload_n hx hb dX10_comes_10 rfl (lv_at hl 0 rfl) ?_
    refine lv_iconst (v := 3) hx hb dX10_comes_11 (by decide) ?_
    refine lv_iload_n hx hb dX10_comes_12 rfl (lv_at hl 1 rfl) ?_
    obtain ⟨q8, e8, hr⟩ := ob hr
    refine cal_i (run_V (As := [.int 3, .int x1]) (rest := []) C hV hS (c_X10_refused l G b0 V 3 x1 q8 e8) (rcv hK hV (kd_lt z_208 (by decide)) (cel_20 z_208) rfl) q_1492 q_1494 q_96 q_151 q_1495 dk_X10_refused (rm_ok (by decide) (by decide)) hl.1 rfl (Nat.le_of_ble_eq_true rfl) dX10_comes_13 ⟨Nat.zero_le _, Nat.zero_le _⟩) hS (fun H locs hV hS => ?_)
    rw [← Option.some.inj hr]
    exact fin_i C hV hS rfl dX10_comes_16
set_option maxHeartbeats 4000000 in
set_option maxRecDepth 100000 in
theorem c_X10_readable (l : Launch) (G : LG) (b0 : Nat) (V : St) (x1 : Int32) (res : Int32) (hr : f_X10_readable V x1 = some res) : Met l yX10_readable (wy yX10_readable cX10_readable 2 (some .int)) (rm 3) (va_Pc [.ref (b0 + 208), .int x1] (Iv G b0 V)) (QI G b0 res V) 0 0 (Ab b0) := by
  refine mk_m (by decide +kernel) (Nat.le_of_ble_eq_true rfl) ?_
  intro p e s m below meth c C hV hS ls hl
  obtain ⟨args, hargs⟩ : ∃ z, z = ([.ref (b0 + 208), .int x1] : List Value).toArray := ⟨_, rfl⟩
  rw [← hargs] at C ⊢
  obtain ⟨hx, hb, hrt, hml, hown, hts, hlocks, hK, hSv⟩ := id C
  have hl : lv_has ls 2 [(0, .ref (b0 + 208)), (1, .int x1)] := hl
  unfold f_X10_readable at hr
  refine lv_aload_n hx hb dX10_readable_0 rfl (lv_at hl 0 rfl) ?_
  refine lv_iload_n hx hb dX10_readable_1 rfl (lv_at hl 1 rfl) ?_
  refine lv_iconst (v := 0) hx hb dX10_readable_2 (by decide) ?_
  obtain ⟨q1, e1, hr⟩ := ob hr
  refine cal_i (run_V (As := [.int x1, .int 0]) (rest := []) C hV hS (c_X10_of l G b0 V x1 0 q1 e1) (rcv hK hV (kd_lt z_208 (by decide)) (cel_20 z_208) rfl) q_1503 q_1505 q_98 q_151 q_1506 dk_X10_of (rm_ok (by decide) (by decide)) hl.1 rfl (Nat.le_of_ble_eq_true rfl) dX10_readable_3 ⟨Nat.zero_le _, Nat.zero_le _⟩) hS (fun H locs hV hS => ?_)
  refine lv_aload_n hx hb dX10_readable_6 rfl (lv_at hl 0 rfl) ?_
  refine lv_iload_n hx hb dX10_readable_7 rfl (lv_at hl 1 rfl) ?_
  refine lv_iconst (v := 1) hx hb dX10_readable_8 (by decide) ?_
  obtain ⟨q2, e2, hr⟩ := ob hr
  refine cal_i (run_V (As := [.int x1, .int 1]) (rest := [.int q1]) C hV hS (c_X10_of l G b0 V x1 1 q2 e2) (rcv hK hV (kd_lt z_208 (by decide)) (cel_20 z_208) rfl) q_1503 q_1505 q_98 q_151 q_1506 dk_X10_of (rm_ok (by decide) (by decide)) hl.1 rfl (Nat.le_of_ble_eq_true rfl) dX10_readable_9 ⟨Nat.zero_le _, Nat.zero_le _⟩) hS (fun H locs hV hS => ?_)
  refine lv_ior hx hb dX10_readable_12 ?_
  refine lv_aload_n hx hb dX10_readable_13 rfl (lv_at hl 0 rfl) ?_
  refine lv_iload_n hx hb dX10_readable_14 rfl (lv_at hl 1 rfl) ?_
  obtain ⟨q3, e3, hr⟩ := ob hr
  refine cal_i (run_V (As := [.int x1]) (rest := [.int (q1 ||| q2)]) C hV hS (c_X10_dry l G b0 V x1 q3 e3) (rcv hK hV (kd_lt z_208 (by decide)) (cel_20 z_208) rfl) q_1587 q_1589 q_113 q_151 q_1590 dk_X10_dry (rm_ok (by decide) (by decide)) hl.1 rfl (Nat.le_of_ble_eq_true rfl) dX10_readable_15 ⟨Nat.zero_le _, Nat.zero_le _⟩) hS (fun H locs hV hS => ?_)
  refine lv_iand hx hb dX10_readable_18 ?_
  obtain ⟨q4, e4, hr⟩ := ob hr
  refine cal_i (run_S (As := [.int ((q1 ||| q2) &&& q3)]) (rest := []) C hV hS (c_X10_bits l G b0 V ((q1 ||| q2) &&& q3) q4 e4) q_1595 q_1596 q_151 q_1597 dk_X10_bits (rm_ok (by decide) (by decide)) hl.1 rfl (Nat.le_of_ble_eq_true rfl) dX10_readable_19 ⟨Nat.zero_le _, Nat.zero_le _⟩) hS (fun H locs hV hS => ?_)
  exact fin_i C hV hS (Option.some.inj hr) dX10_readable_22
set_option maxHeartbeats 4000000 in
set_option maxRecDepth 100000 in
theorem c_X10_turns (l : Launch) (G : LG) (b0 : Nat) (V : St) (x1 : Int32) (res : Int32 × St) (hr : f_X10_turns V x1 = some res) : Met l yX10_turns (wy yX10_turns cX10_turns 2 (some .int)) (rm 4) (va_Pc [.ref (b0 + 208), .int x1] (Iv G b0 V)) (QI G b0 res.1 res.2) 0 0 (Ab b0) := by
  refine mk_m (by decide +kernel) (Nat.le_of_ble_eq_true rfl) ?_
  intro p e s m below meth c C hV hS ls hl
  obtain ⟨args, hargs⟩ : ∃ z, z = ([.ref (b0 + 208), .int x1] : List Value).toArray := ⟨_, rfl⟩
  rw [← hargs] at C ⊢
  obtain ⟨hx, hb, hrt, hml, hown, hts, hlocks, hK, hSv⟩ := id C
  have hl : lv_has ls 2 [(0, .ref (b0 + 208)), (1, .int x1)] := hl
  unfold f_X10_turns at hr
  refine lv_iload_n hx hb dX10_turns_0 rfl (lv_at hl 1 rfl) ?_
  refine lv_iconst (v := 0) hx hb dX10_turns_1 (by decide) ?_
  refine lv_iconst (v := 4) hx hb dX10_turns_2 (by decide) ?_
  obtain ⟨q1, e1, hr⟩ := ob hr
  refine cal_i (run_S (As := [.int x1, .int 0, .int 4]) (rest := []) C hV hS (c_X10_in l G b0 V x1 0 4 q1 e1) q_1489 q_1490 q_151 q_1491 dk_X10_in (rm_ok (by decide) (by decide)) hl.1 rfl (Nat.le_of_ble_eq_true rfl) dX10_turns_3 ⟨Nat.zero_le _, Nat.zero_le _⟩) hS (fun H locs hV hS => ?_)
  refine lv_if_ne (tgt := 16) hx hb dX10_turns_6 (by decide) (fun b_2 => ?_) (fun b_2 => ?_)
  · have hr := ie b_2 hr
    refine lv_aload_n hx hb dX10_turns_16 rfl (lv_at hl 0 rfl) ?_
    refine g_X10_1 C hV q_1392 dX10_turns_17 ?_
    refine lv_iconst (v := 0) hx hb dX10_turns_20 (by decide) ?_
    refine a_21 (k := 209) (i := 0) (j := 0) C hV z_209 (by decide) dX10_turns_21 ?_
    refine lv_iload_n hx hb dX10_turns_22 rfl (lv_at hl 1 rfl) ?_
    refine lv_icmp_ne (tgt := 33) hx hb dX10_turns_23 (by decide) (fun b_3 => ?_) (fun b_3 => ?_)
    · have hr := ie b_3 hr
      refine lv_aload_n hx hb dX10_turns_33 rfl (lv_at hl 0 rfl) ?_
      refine g_X10_1 C hV q_1392 dX10_turns_34 ?_
      refine lv_iconst (v := 0) hx hb dX10_turns_37 (by decide) ?_
      refine lv_iload_n hx hb dX10_turns_38 rfl (lv_at hl 1 rfl) ?_
      refine s_21 (k := 209) (i := 0) (j := 0) (x := x1) C hV hS z_209 (by decide) dX10_turns_39 (fun H locs hV hS => ?_)
      refine lv_aload_n hx hb dX10_turns_40 rfl (lv_at hl 0 rfl) ?_
      refine lv_aload_n hx hb dX10_turns_41 rfl (lv_at hl 0 rfl) ?_
      refine lv_iconst (v := 0) hx hb dX10_turns_42 (by decide) ?_
      obtain ⟨q4, e4, hr⟩ := ob hr
      refine cal_i (run_V (As := [.int 0]) (rest := [.ref (b0 + 208)]) C hV hS (c_X10_readable l G b0 (up V 209 0 x1) 0 q4 e4) (rcv hK hV (kd_lt z_208 (by decide)) (cel_20 z_208) rfl) q_1583 q_1585 q_112 q_151 q_1586 dk_X10_readable (rm_ok (by decide) (by decide)) hl.1 rfl (Nat.le_of_ble_eq_true rfl) dX10_turns_43 ⟨Nat.zero_le _, Nat.zero_le _⟩) hS (fun H locs hV hS => ?_)
      refine lv_aload_n hx hb dX10_turns_46 rfl (lv_at hl 0 rfl) ?_
      refine lv_iconst (v := 1) hx hb dX10_turns_47 (by decide) ?_
      obtain ⟨q5, e5, hr⟩ := ob hr
      refine cal_i (run_V (As := [.int 1]) (rest := [.int q4, .ref (b0 + 208)]) C hV hS (c_X10_readable l G b0 (up V 209 0 x1) 1 q5 e5) (rcv hK hV (kd_lt z_208 (by decide)) (cel_20 z_208) rfl) q_1583 q_1585 q_112 q_151 q_1586 dk_X10_readable (rm_ok (by decide) (by decide)) hl.1 rfl (Nat.le_of_ble_eq_true rfl) dX10_turns_48 ⟨Nat.zero_le _, Nat.zero_le _⟩) hS (fun H locs hV hS => ?_)
      refine lv_iadd hx hb dX10_turns_51 ?_
      refine lv_aload_n hx hb dX10_turns_52 rfl (lv_at hl 0 rfl) ?_
      refine lv_iconst (v := 2) hx hb dX10_turns_53 (by decide) ?_
      obtain ⟨q6, e6, hr⟩ := ob hr
      refine cal_i (run_V (As := [.int 2]) (rest := [.int (q4 + q5), .ref (b0 + 208)]) C hV hS (c_X10_readable l G b0 (up V 209 0 x1) 2 q6 e6) (rcv hK hV (kd_lt z_208 (by decide)) (cel_20 z_208) rfl) q_1583 q_1585 q_112 q_151 q_1586 dk_X10_readable (rm_ok (by decide) (by decide)) hl.1 rfl (Nat.le_of_ble_eq_true rfl) dX10_turns_54 ⟨Nat.zero_le _, Nat.zero_le _⟩) hS (fun H locs hV hS => ?_)
      refine lv_iadd hx hb dX10_turns_57 ?_
      obtain ⟨q7, e7, hr⟩ := ob hr
      refine cal_i (run_V (As := [.int ((q4 + q5) + q6)]) (rest := []) C hV hS (c_X10_done l G b0 (up V 209 0 x1) ((q4 + q5) + q6) q7 e7) (rcv hK hV (kd_lt z_208 (by decide)) (cel_20 z_208) rfl) q_1511 q_1513 q_100 q_151 q_1514 dk_X10_done (rm_ok (by decide) (by decide)) hl.1 rfl (Nat.le_of_ble_eq_true rfl) dX10_turns_58 ⟨Nat.zero_le _, Nat.zero_le _⟩) hS (fun H locs hV hS => ?_)
      rw [← Option.some.inj hr]
      exact fin_i C hV hS rfl dX10_turns_61
    · have hr := it b_3 hr
      refine lv_aload_n hx hb dX10_turns_26 rfl (lv_at hl 0 rfl) ?_
      refine lv_iconst (v := 4) hx hb dX10_turns_27 (by decide) ?_
      refine lv_iload_n hx hb dX10_turns_28 rfl (lv_at hl 1 rfl) ?_
      obtain ⟨q8, e8, hr⟩ := ob hr
      refine cal_i (run_V (As := [.int 4, .int x1]) (rest := []) C hV hS (c_X10_refused l G b0 V 4 x1 q8 e8) (rcv hK hV (kd_lt z_208 (by decide)) (cel_20 z_208) rfl) q_1492 q_1494 q_96 q_151 q_1495 dk_X10_refused (rm_ok (by decide) (by decide)) hl.1 rfl (Nat.le_of_ble_eq_true rfl) dX10_turns_29 ⟨Nat.zero_le _, Nat.zero_le _⟩) hS (fun H locs hV hS => ?_)
      rw [← Option.some.inj hr]
      exact fin_i C hV hS rfl dX10_turns_32
  · have hr := it b_2 hr
    refine lv_aload_n hx hb dX10_turns_9 rfl (lv_at hl 0 rfl) ?_
    refine lv_iconst (v := 3) hx hb dX10_turns_10 (by decide) ?_
    refine lv_iload_n hx hb dX10_turns_11 rfl (lv_at hl 1 rfl) ?_
    obtain ⟨q9, e9, hr⟩ := ob hr
    refine cal_i (run_V (As := [.int 3, .int x1]) (rest := []) C hV hS (c_X10_refused l G b0 V 3 x1 q9 e9) (rcv hK hV (kd_lt z_208 (by decide)) (cel_20 z_208) rfl) q_1492 q_1494 q_96 q_151 q_1495 dk_X10_refused (rm_ok (by decide) (by decide)) hl.1 rfl (Nat.le_of_ble_eq_true rfl) dX10_turns_12 ⟨Nat.zero_le _, Nat.zero_le _⟩) hS (fun H locs hV hS => ?_)
    rw [← Option.some.inj hr]
    exact fin_i C hV hS rfl dX10_turns_15
set_option maxHeartbeats 4000000 in
set_option maxRecDepth 100000 in
theorem c_X10_sinks (l : Launch) (G : LG) (b0 : Nat) (V : St) (x1 : Int32) (x2 : Int32) (res : Int32 × St) (hr : f_X10_sinks V x1 x2 = some res) : Met l yX10_sinks (wy yX10_sinks cX10_sinks 3 (some .int)) (rm 2) (va_Pc [.ref (b0 + 208), .int x1, .int x2] (Iv G b0 V)) (QI G b0 res.1 res.2) 0 0 (Ab b0) := by
  refine mk_m (by decide +kernel) (Nat.le_of_ble_eq_true rfl) ?_
  intro p e s m below meth c C hV hS ls hl
  obtain ⟨args, hargs⟩ : ∃ z, z = ([.ref (b0 + 208), .int x1, .int x2] : List Value).toArray := ⟨_, rfl⟩
  rw [← hargs] at C ⊢
  obtain ⟨hx, hb, hrt, hml, hown, hts, hlocks, hK, hSv⟩ := id C
  have hl : lv_has ls 3 [(0, .ref (b0 + 208)), (1, .int x1), (2, .int x2)] := hl
  unfold f_X10_sinks at hr
  refine lv_iload_n hx hb dX10_sinks_0 rfl (lv_at hl 1 rfl) ?_
  obtain ⟨q1, e1, hr⟩ := ob hr
  refine cal_i (run_S (As := [.int x1]) (rest := []) C hV hS (c_X10_isNet l G b0 V x1 q1 e1) q_1486 q_1487 q_151 q_1488 dk_X10_isNet (rm_ok (by decide) (by decide)) hl.1 rfl (Nat.le_of_ble_eq_true rfl) dX10_sinks_1 ⟨Nat.zero_le _, Nat.zero_le _⟩) hS (fun H locs hV hS => ?_)
  refine lv_if_ne (tgt := 14) hx hb dX10_sinks_4 (by decide) (fun b_2 => ?_) (fun b_2 => ?_)
  · have hr := ie b_2 hr
    refine lv_iload_n hx hb dX10_sinks_14 rfl (lv_at hl 2 rfl) ?_
    refine lv_iconst (v := 0) hx hb dX10_sinks_15 (by decide) ?_
    refine lv_iconst (v := 4) hx hb dX10_sinks_16 (by decide) ?_
    obtain ⟨q3, e3, hr⟩ := ob hr
    refine cal_i (run_S (As := [.int x2, .int 0, .int 4]) (rest := []) C hV hS (c_X10_in l G b0 V x2 0 4 q3 e3) q_1489 q_1490 q_151 q_1491 dk_X10_in (rm_ok (by decide) (by decide)) hl.1 rfl (Nat.le_of_ble_eq_true rfl) dX10_sinks_17 ⟨Nat.zero_le _, Nat.zero_le _⟩) hS (fun H locs hV hS => ?_)
    refine lv_if_ne (tgt := 30) hx hb dX10_sinks_20 (by decide) (fun b_4 => ?_) (fun b_4 => ?_)
    · have hr := ie b_4 hr
      refine lv_aload_n hx hb dX10_sinks_30 rfl (lv_at hl 0 rfl) ?_
      refine lv_iload_n hx hb dX10_sinks_31 rfl (lv_at hl 1 rfl) ?_
      refine lv_iconst (v := 4) hx hb dX10_sinks_32 (by decide) ?_
      obtain ⟨q5, e5, hr⟩ := ob hr
      refine cal_i (run_V (As := [.int x1, .int 4]) (rest := []) C hV hS (c_X10_of l G b0 V x1 4 q5 e5) (rcv hK hV (kd_lt z_208 (by decide)) (cel_20 z_208) rfl) q_1503 q_1505 q_98 q_151 q_1506 dk_X10_of (rm_ok (by decide) (by decide)) hl.1 rfl (Nat.le_of_ble_eq_true rfl) dX10_sinks_33 ⟨Nat.zero_le _, Nat.zero_le _⟩) hS (fun H locs hV hS => ?_)
      refine lv_iload_n hx hb dX10_sinks_36 rfl (lv_at hl 2 rfl) ?_
      refine lv_icmp_ne (tgt := 47) hx hb dX10_sinks_37 (by decide) (fun b_6 => ?_) (fun b_6 => ?_)
      · have hr := ie b_6 hr
        refine lv_aload_n hx hb dX10_sinks_47 rfl (lv_at hl 0 rfl) ?_
        refine g_X10_1 C hV q_1392 dX10_sinks_48 ?_
        refine lv_bipush (v := 6) hx hb dX10_sinks_51 (by decide) ?_
        refine lv_iconst (v := 5) hx hb dX10_sinks_53 (by decide) ?_
        refine lv_iload_n hx hb dX10_sinks_54 rfl (lv_at hl 1 rfl) ?_
        refine lv_imul hx hb dX10_sinks_55 ?_
        refine lv_iadd hx hb dX10_sinks_56 ?_
        refine lv_iconst (v := 4) hx hb dX10_sinks_57 (by decide) ?_
        refine lv_iadd hx hb dX10_sinks_58 ?_
        refine lv_iload_n hx hb dX10_sinks_59 rfl (lv_at hl 2 rfl) ?_
        obtain ⟨j7, e7, hr⟩ := ob hr
        refine s_21 (k := 209) (i := ((6 + (5 * x1)) + 4)) (j := j7) (x := x2) C hV hS z_209 e7 dX10_sinks_60 (fun H locs hV hS => ?_)
        refine lv_aload_n hx hb dX10_sinks_61 rfl (lv_at hl 0 rfl) ?_
        refine lv_aload_n hx hb dX10_sinks_62 rfl (lv_at hl 0 rfl) ?_
        refine lv_iload_n hx hb dX10_sinks_63 rfl (lv_at hl 1 rfl) ?_
        obtain ⟨q8, e8, hr⟩ := ob hr
        refine cal_i (run_V (As := [.int x1]) (rest := [.ref (b0 + 208)]) C hV hS (c_X10_underWater l G b0 (up V 209 j7 x2) x1 q8 e8) (rcv hK hV (kd_lt z_208 (by decide)) (cel_20 z_208) rfl) q_1591 q_1593 q_114 q_151 q_1594 dk_X10_underWater (rm_ok (by decide) (by decide)) hl.1 rfl (Nat.le_of_ble_eq_true rfl) dX10_sinks_64 ⟨Nat.zero_le _, Nat.zero_le _⟩) hS (fun H locs hV hS => ?_)
        obtain ⟨q9, e9, hr⟩ := ob hr
        refine cal_i (run_V (As := [.int q8]) (rest := []) C hV hS (c_X10_done l G b0 (up V 209 j7 x2) q8 q9 e9) (rcv hK hV (kd_lt z_208 (by decide)) (cel_20 z_208) rfl) q_1511 q_1513 q_100 q_151 q_1514 dk_X10_done (rm_ok (by decide) (by decide)) hl.1 rfl (Nat.le_of_ble_eq_true rfl) dX10_sinks_67 ⟨Nat.zero_le _, Nat.zero_le _⟩) hS (fun H locs hV hS => ?_)
        rw [← Option.some.inj hr]
        exact fin_i C hV hS rfl dX10_sinks_70
      · have hr := it b_6 hr
        refine lv_aload_n hx hb dX10_sinks_40 rfl (lv_at hl 0 rfl) ?_
        refine lv_iconst (v := 4) hx hb dX10_sinks_41 (by decide) ?_
        refine lv_iload_n hx hb dX10_sinks_42 rfl (lv_at hl 2 rfl) ?_
        obtain ⟨q10, e10, hr⟩ := ob hr
        refine cal_i (run_V (As := [.int 4, .int x2]) (rest := []) C hV hS (c_X10_refused l G b0 V 4 x2 q10 e10) (rcv hK hV (kd_lt z_208 (by decide)) (cel_20 z_208) rfl) q_1492 q_1494 q_96 q_151 q_1495 dk_X10_refused (rm_ok (by decide) (by decide)) hl.1 rfl (Nat.le_of_ble_eq_true rfl) dX10_sinks_43 ⟨Nat.zero_le _, Nat.zero_le _⟩) hS (fun H locs hV hS => ?_)
        rw [← Option.some.inj hr]
        exact fin_i C hV hS rfl dX10_sinks_46
    · have hr := it b_4 hr
      refine lv_aload_n hx hb dX10_sinks_23 rfl (lv_at hl 0 rfl) ?_
      refine lv_iconst (v := 3) hx hb dX10_sinks_24 (by decide) ?_
      refine lv_iload_n hx hb dX10_sinks_25 rfl (lv_at hl 2 rfl) ?_
      obtain ⟨q11, e11, hr⟩ := ob hr
      refine cal_i (run_V (As := [.int 3, .int x2]) (rest := []) C hV hS (c_X10_refused l G b0 V 3 x2 q11 e11) (rcv hK hV (kd_lt z_208 (by decide)) (cel_20 z_208) rfl) q_1492 q_1494 q_96 q_151 q_1495 dk_X10_refused (rm_ok (by decide) (by decide)) hl.1 rfl (Nat.le_of_ble_eq_true rfl) dX10_sinks_26 ⟨Nat.zero_le _, Nat.zero_le _⟩) hS (fun H locs hV hS => ?_)
      rw [← Option.some.inj hr]
      exact fin_i C hV hS rfl dX10_sinks_29
  · have hr := it b_2 hr
    refine lv_aload_n hx hb dX10_sinks_7 rfl (lv_at hl 0 rfl) ?_
    refine lv_iconst (v := 2) hx hb dX10_sinks_8 (by decide) ?_
    refine lv_iload_n hx hb dX10_sinks_9 rfl (lv_at hl 1 rfl) ?_
    obtain ⟨q12, e12, hr⟩ := ob hr
    refine cal_i (run_V (As := [.int 2, .int x1]) (rest := []) C hV hS (c_X10_refused l G b0 V 2 x1 q12 e12) (rcv hK hV (kd_lt z_208 (by decide)) (cel_20 z_208) rfl) q_1492 q_1494 q_96 q_151 q_1495 dk_X10_refused (rm_ok (by decide) (by decide)) hl.1 rfl (Nat.le_of_ble_eq_true rfl) dX10_sinks_10 ⟨Nat.zero_le _, Nat.zero_le _⟩) hS (fun H locs hV hS => ?_)
    rw [← Option.some.inj hr]
    exact fin_i C hV hS rfl dX10_sinks_13
set_option maxHeartbeats 4000000 in
set_option maxRecDepth 100000 in
theorem c_X10_ofNote (l : Launch) (G : LG) (b0 : Nat) (V : St) (x1 : Int32) (x2 : Int32) (res : Int32) (hr : f_X10_ofNote V x1 x2 = some res) : Met l yX10_ofNote (wy yX10_ofNote cX10_ofNote 3 (some .int)) (rm 0) (va_Pc [.ref (b0 + 208), .int x1, .int x2] (Iv G b0 V)) (QI G b0 res V) 0 0 (Ab b0) := by
  refine mk_m (by decide +kernel) (Nat.le_of_ble_eq_true rfl) ?_
  intro p e s m below meth c C hV hS ls hl
  obtain ⟨args, hargs⟩ : ∃ z, z = ([.ref (b0 + 208), .int x1, .int x2] : List Value).toArray := ⟨_, rfl⟩
  rw [← hargs] at C ⊢
  obtain ⟨hx, hb, hrt, hml, hown, hts, hlocks, hK, hSv⟩ := id C
  have hl : lv_has ls 3 [(0, .ref (b0 + 208)), (1, .int x1), (2, .int x2)] := hl
  unfold f_X10_ofNote at hr
  refine lv_aload_n hx hb dX10_ofNote_0 rfl (lv_at hl 0 rfl) ?_
  refine g_X10_1 C hV q_1392 dX10_ofNote_1 ?_
  refine lv_bipush (v := 29) hx hb dX10_ofNote_4 (by decide) ?_
  refine lv_iconst (v := 4) hx hb dX10_ofNote_6 (by decide) ?_
  refine lv_iload_n hx hb dX10_ofNote_7 rfl (lv_at hl 1 rfl) ?_
  refine lv_imul hx hb dX10_ofNote_8 ?_
  refine lv_iadd hx hb dX10_ofNote_9 ?_
  refine lv_iload_n hx hb dX10_ofNote_10 rfl (lv_at hl 2 rfl) ?_
  refine lv_iadd hx hb dX10_ofNote_11 ?_
  obtain ⟨j1, e1, hr⟩ := ob hr
  refine a_21 (k := 209) (i := ((29 + (4 * x1)) + x2)) (j := j1) C hV z_209 e1 dX10_ofNote_12 ?_
  exact fin_i C hV hS (Option.some.inj hr) dX10_ofNote_13
