set_option maxHeartbeats 4000000 in
set_option maxRecDepth 100000 in
theorem c_X10_notes (l : Launch) (G : LG) (b0 : Nat) (V : St) (x1 : Int32) (x2 : Int32) (res : Int32 × St) (hr : f_X10_notes V x1 x2 = some res) : Met l yX10_notes (wy yX10_notes cX10_notes 8 (some .int)) (rm 2) (va_Pc [.ref (b0 + 208), .int x1, .int x2] (Iv G b0 V)) (QI G b0 res.1 res.2) 0 0 (Ab b0) := by
  refine mk_m (by decide +kernel) (Nat.le_of_ble_eq_true rfl) ?_
  intro p e s m below meth c C hV hS ls hl
  obtain ⟨args, hargs⟩ : ∃ z, z = ([.ref (b0 + 208), .int x1, .int x2] : List Value).toArray := ⟨_, rfl⟩
  rw [← hargs] at C ⊢
  obtain ⟨hx, hb, hrt, hml, hown, hts, hlocks, hK, hSv⟩ := id C
  have hl : lv_has ls 8 [(0, .ref (b0 + 208)), (1, .int x1), (2, .int x2)] := hl
  have K_153 : ∀ (c_91 : St → Int32 → Int32 → Int32 → Int32 → Int32 → Int32 → Option (Int32 × St)) (hc_91 : ∀ (V : St) (x1 : Int32) (x3 : Int32) (x4 : Int32) (x5 : Int32) (x6 : Int32) (x7 : Int32), c_91 V x1 x3 x4 x5 x6 x7 = some res → ∀ (H : Heap) (locs : List Loc) (ls : Array Slot), Hd G b0 V H → va_S (Ab b0) s.heap H locs → lv_has ls 8 [(0, .ref (b0 + 208)), (1, .int x1), (3, .int x3), (4, .int x4), (5, .int x5), (6, .int x6), (7, .int x7)] → W p l e (rm 2) s m args below meth c H locs 0 0 (MQ below (QI G b0 res.1 res.2) args s 0 0 (Ab b0)) (F0 m 91 ls [])) (V : St) (x1 : Int32) (x3 : Int32) (x4 : Int32) (x5 : Int32) (x6 : Int32) (x7 : Int32), f_X10_notes_b153 c_91 V x1 x3 x4 x5 x6 x7 = some res → ∀ (H : Heap) (locs : List Loc) (ls : Array Slot), Hd G b0 V H → va_S (Ab b0) s.heap H locs → lv_has ls 8 [(0, .ref (b0 + 208)), (1, .int x1), (3, .int x3), (4, .int x4), (5, .int x5), (6, .int x6), (7, .int x7)] → W p l e (rm 2) s m args below meth c H locs 0 0 (MQ below (QI G b0 res.1 res.2) args s 0 0 (Ab b0)) (F0 m 153 ls []) := by
    intro c_91 hc_91 V x1 x3 x4 x5 x6 x7 hr H locs ls hV hS hl
    unfold f_X10_notes_b153 at hr
    refine lv_iinc (v := x7 + 1) (lv' := [(7, .int (x7 + 1)), (0, .ref (b0 + 208)), (1, .int x1), (3, .int x3), (4, .int x4), (5, .int x5), (6, .int x6)]) hx hb dX10_notes_153 hl (k := 6) rfl rfl (by decide) rfl (fun ls hl => ?_)
    refine lv_goto (tgt := 91) hx hb dX10_notes_156 (by decide) ?_
    exact hc_91 _ x1 x3 x4 x5 x6 (x7 + 1) hr _ _ ls hV hS (lv_sub hl [1, 2, 3, 4, 5, 6, 0] rfl)
  have K_91 : ∀ (n : Nat) (V : St) (x1 : Int32) (x3 : Int32) (x4 : Int32) (x5 : Int32) (x6 : Int32) (x7 : Int32), f_X10_notes_b91 n V x1 x3 x4 x5 x6 x7 = some res → ∀ (H : Heap) (locs : List Loc) (ls : Array Slot), Hd G b0 V H → va_S (Ab b0) s.heap H locs → lv_has ls 8 [(0, .ref (b0 + 208)), (1, .int x1), (3, .int x3), (4, .int x4), (5, .int x5), (6, .int x6), (7, .int x7)] → W p l e (rm 2) s m args below meth c H locs 0 0 (MQ below (QI G b0 res.1 res.2) args s 0 0 (Ab b0)) (F0 m 91 ls []) := by
    intro  n
    induction n with
    | zero =>
      intro V x1 x3 x4 x5 x6 x7 hr
      rw [f_X10_notes_b91] at hr
      cases hr
    | succ n ih =>
      intro V x1 x3 x4 x5 x6 x7 hr H locs ls hV hS hl
      rw [f_X10_notes_b91] at hr
      refine lv_iload hx hb dX10_notes_91 (lv_at hl 6 rfl) ?_
      refine lv_iload hx hb dX10_notes_93 (lv_at hl 5 rfl) ?_
      refine lv_icmp_ge (tgt := 159) hx hb dX10_notes_95 (by decide) (fun b_1 => ?_) (fun b_1 => ?_)
      · have hr := it b_1 hr
        refine lv_iload hx hb dX10_notes_159 (lv_at hl 5 rfl) ?_
        refine lv_bipush (v := 6) hx hb dX10_notes_161 (by decide) ?_
        refine lv_icmp_ne (tgt := 174) hx hb dX10_notes_163 (by decide) (fun b_2 => ?_) (fun b_2 => ?_)
        · have hr := ie b_2 hr
          refine lv_aload_n hx hb dX10_notes_174 rfl (lv_at hl 0 rfl) ?_
          refine g_X10_1 C hV q_1392 dX10_notes_175 ?_
          refine lv_bipush (v := 29) hx hb dX10_notes_178 (by decide) ?_
          refine lv_iconst (v := 4) hx hb dX10_notes_180 (by decide) ?_
          refine lv_iload hx hb dX10_notes_181 (lv_at hl 5 rfl) ?_
          refine lv_imul hx hb dX10_notes_183 ?_
          refine lv_iadd hx hb dX10_notes_184 ?_
          refine lv_iload_n hx hb dX10_notes_185 rfl (lv_at hl 1 rfl) ?_
          obtain ⟨j3, e3, hr⟩ := ob hr
          refine s_21 (k := 209) (i := (29 + (4 * x6))) (j := j3) (x := x1) C hV hS z_209 e3 dX10_notes_186 (fun H locs hV hS => ?_)
          refine lv_aload_n hx hb dX10_notes_187 rfl (lv_at hl 0 rfl) ?_
          refine g_X10_1 C hV q_1392 dX10_notes_188 ?_
          refine lv_bipush (v := 29) hx hb dX10_notes_191 (by decide) ?_
          refine lv_iconst (v := 4) hx hb dX10_notes_193 (by decide) ?_
          refine lv_iload hx hb dX10_notes_194 (lv_at hl 5 rfl) ?_
          refine lv_imul hx hb dX10_notes_196 ?_
          refine lv_iadd hx hb dX10_notes_197 ?_
          refine lv_iconst (v := 1) hx hb dX10_notes_198 (by decide) ?_
          refine lv_iadd hx hb dX10_notes_199 ?_
          refine lv_iload_n hx hb dX10_notes_200 rfl (lv_at hl 2 rfl) ?_
          obtain ⟨j4, e4, hr⟩ := ob hr
          refine s_21 (k := 209) (i := ((29 + (4 * x6)) + 1)) (j := j4) (x := x3) C hV hS z_209 e4 dX10_notes_201 (fun H locs hV hS => ?_)
          refine lv_aload_n hx hb dX10_notes_202 rfl (lv_at hl 0 rfl) ?_
          refine g_X10_1 C hV q_1392 dX10_notes_203 ?_
          refine lv_bipush (v := 29) hx hb dX10_notes_206 (by decide) ?_
          refine lv_iconst (v := 4) hx hb dX10_notes_208 (by decide) ?_
          refine lv_iload hx hb dX10_notes_209 (lv_at hl 5 rfl) ?_
          refine lv_imul hx hb dX10_notes_211 ?_
          refine lv_iadd hx hb dX10_notes_212 ?_
          refine lv_iconst (v := 2) hx hb dX10_notes_213 (by decide) ?_
          refine lv_iadd hx hb dX10_notes_214 ?_
          refine lv_iload hx hb dX10_notes_215 (lv_at hl 3 rfl) ?_
          obtain ⟨j5, e5, hr⟩ := ob hr
          refine s_21 (k := 209) (i := ((29 + (4 * x6)) + 2)) (j := j5) (x := x4) C hV hS z_209 e5 dX10_notes_217 (fun H locs hV hS => ?_)
          refine lv_aload_n hx hb dX10_notes_218 rfl (lv_at hl 0 rfl) ?_
          refine g_X10_1 C hV q_1392 dX10_notes_219 ?_
          refine lv_bipush (v := 29) hx hb dX10_notes_222 (by decide) ?_
          refine lv_iconst (v := 4) hx hb dX10_notes_224 (by decide) ?_
          refine lv_iload hx hb dX10_notes_225 (lv_at hl 5 rfl) ?_
          refine lv_imul hx hb dX10_notes_227 ?_
          refine lv_iadd hx hb dX10_notes_228 ?_
          refine lv_iconst (v := 3) hx hb dX10_notes_229 (by decide) ?_
          refine lv_iadd hx hb dX10_notes_230 ?_
          refine lv_iload hx hb dX10_notes_231 (lv_at hl 4 rfl) ?_
          obtain ⟨j6, e6, hr⟩ := ob hr
          refine s_21 (k := 209) (i := ((29 + (4 * x6)) + 3)) (j := j6) (x := x5) C hV hS z_209 e6 dX10_notes_233 (fun H locs hV hS => ?_)
          refine lv_aload_n hx hb dX10_notes_234 rfl (lv_at hl 0 rfl) ?_
          refine g_X10_1 C hV q_1392 dX10_notes_235 ?_
          refine lv_iconst (v := 2) hx hb dX10_notes_238 (by decide) ?_
          refine lv_iload hx hb dX10_notes_239 (lv_at hl 5 rfl) ?_
          refine lv_iconst (v := 1) hx hb dX10_notes_241 (by decide) ?_
          refine lv_iadd hx hb dX10_notes_242 ?_
          refine s_21 (k := 209) (i := 2) (j := 2) (x := (x6 + 1)) C hV hS z_209 (by decide) dX10_notes_243 (fun H locs hV hS => ?_)
          refine lv_aload_n hx hb dX10_notes_244 rfl (lv_at hl 0 rfl) ?_
          refine lv_iload hx hb dX10_notes_245 (lv_at hl 5 rfl) ?_
          obtain ⟨q7, e7, hr⟩ := ob hr
          refine cal_i (run_V (As := [.int x6]) (rest := []) C hV hS (c_X10_done l G b0 (up (up (up (up (up V 209 j3 x1) 209 j4 x3) 209 j5 x4) 209 j6 x5) 209 2 (x6 + 1)) x6 q7 e7) (rcv hK hV (kd_lt z_208 (by decide)) (cel_20 z_208) rfl) q_1511 q_1513 q_100 q_151 q_1514 dk_X10_done (rm_ok (by decide) (by decide)) hl.1 rfl (Nat.le_of_ble_eq_true rfl) dX10_notes_247 ⟨Nat.zero_le _, Nat.zero_le _⟩) hS (fun H locs hV hS => ?_)
          rw [← Option.some.inj hr]
          exact fin_i C hV hS rfl dX10_notes_250
        · have hr := it b_2 hr
          refine lv_aload_n hx hb dX10_notes_166 rfl (lv_at hl 0 rfl) ?_
          refine lv_iconst (v := 1) hx hb dX10_notes_167 (by decide) ?_
          refine lv_bipush (v := 6) hx hb dX10_notes_168 (by decide) ?_
          obtain ⟨q8, e8, hr⟩ := ob hr
          refine cal_i (run_V (As := [.int 1, .int 6]) (rest := []) C hV hS (c_X10_refused l G b0 V 1 6 q8 e8) (rcv hK hV (kd_lt z_208 (by decide)) (cel_20 z_208) rfl) q_1492 q_1494 q_96 q_151 q_1495 dk_X10_refused (rm_ok (by decide) (by decide)) hl.1 rfl (Nat.le_of_ble_eq_true rfl) dX10_notes_170 ⟨Nat.zero_le _, Nat.zero_le _⟩) hS (fun H locs hV hS => ?_)
          rw [← Option.some.inj hr]
          exact fin_i C hV hS rfl dX10_notes_173
      · have hr := ie b_1 hr
        refine lv_aload_n hx hb dX10_notes_98 rfl (lv_at hl 0 rfl) ?_
        refine lv_iload hx hb dX10_notes_99 (lv_at hl 6 rfl) ?_
        refine lv_iconst (v := 0) hx hb dX10_notes_101 (by decide) ?_
        obtain ⟨q9, e9, hr⟩ := ob hr
        refine cal_i (run_V (As := [.int x7, .int 0]) (rest := []) C hV hS (c_X10_ofNote l G b0 V x7 0 q9 e9) (rcv hK hV (kd_lt z_208 (by decide)) (cel_20 z_208) rfl) q_1614 q_1616 q_117 q_151 q_1617 dk_X10_ofNote (rm_ok (by decide) (by decide)) hl.1 rfl (Nat.le_of_ble_eq_true rfl) dX10_notes_102 ⟨Nat.zero_le _, Nat.zero_le _⟩) hS (fun H locs hV hS => ?_)
        refine lv_iload_n hx hb dX10_notes_105 rfl (lv_at hl 1 rfl) ?_
        refine lv_icmp_ne (tgt := 153) hx hb dX10_notes_106 (by decide) (fun b_10 => ?_) (fun b_10 => ?_)
        · have hr := ie b_10 hr
          exact K_153 (fun V x1 x3 x4 x5 x6 x7 => f_X10_notes_b91 n V x1 x3 x4 x5 x6 x7) (fun V x1 x3 x4 x5 x6 x7 hr => ih V x1 x3 x4 x5 x6 x7 hr) _ x1 x3 x4 x5 x6 x7 hr _ _ ls hV hS (lv_sub hl [0, 1, 2, 3, 4, 5, 6] rfl)
        · have hr := it b_10 hr
          refine lv_aload_n hx hb dX10_notes_109 rfl (lv_at hl 0 rfl) ?_
          refine lv_iload hx hb dX10_notes_110 (lv_at hl 6 rfl) ?_
          refine lv_iconst (v := 1) hx hb dX10_notes_112 (by decide) ?_
          obtain ⟨q11, e11, hr⟩ := ob hr
          refine cal_i (run_V (As := [.int x7, .int 1]) (rest := []) C hV hS (c_X10_ofNote l G b0 V x7 1 q11 e11) (rcv hK hV (kd_lt z_208 (by decide)) (cel_20 z_208) rfl) q_1614 q_1616 q_117 q_151 q_1617 dk_X10_ofNote (rm_ok (by decide) (by decide)) hl.1 rfl (Nat.le_of_ble_eq_true rfl) dX10_notes_113 ⟨Nat.zero_le _, Nat.zero_le _⟩) hS (fun H locs hV hS => ?_)
          refine lv_iload_n hx hb dX10_notes_116 rfl (lv_at hl 2 rfl) ?_
          refine lv_icmp_ne (tgt := 153) hx hb dX10_notes_117 (by decide) (fun b_12 => ?_) (fun b_12 => ?_)
          · have hr := ie b_12 hr
            exact K_153 (fun V x1 x3 x4 x5 x6 x7 => f_X10_notes_b91 n V x1 x3 x4 x5 x6 x7) (fun V x1 x3 x4 x5 x6 x7 hr => ih V x1 x3 x4 x5 x6 x7 hr) _ x1 x3 x4 x5 x6 x7 hr _ _ ls hV hS (lv_sub hl [0, 1, 2, 3, 4, 5, 6] rfl)
          · have hr := it b_12 hr
            refine lv_aload_n hx hb dX10_notes_120 rfl (lv_at hl 0 rfl) ?_
            refine lv_iload hx hb dX10_notes_121 (lv_at hl 6 rfl) ?_
            refine lv_iconst (v := 2) hx hb dX10_notes_123 (by decide) ?_
            obtain ⟨q13, e13, hr⟩ := ob hr
            refine cal_i (run_V (As := [.int x7, .int 2]) (rest := []) C hV hS (c_X10_ofNote l G b0 V x7 2 q13 e13) (rcv hK hV (kd_lt z_208 (by decide)) (cel_20 z_208) rfl) q_1614 q_1616 q_117 q_151 q_1617 dk_X10_ofNote (rm_ok (by decide) (by decide)) hl.1 rfl (Nat.le_of_ble_eq_true rfl) dX10_notes_124 ⟨Nat.zero_le _, Nat.zero_le _⟩) hS (fun H locs hV hS => ?_)
            refine lv_iload hx hb dX10_notes_127 (lv_at hl 3 rfl) ?_
            refine lv_icmp_ne (tgt := 153) hx hb dX10_notes_129 (by decide) (fun b_14 => ?_) (fun b_14 => ?_)
            · have hr := ie b_14 hr
              exact K_153 (fun V x1 x3 x4 x5 x6 x7 => f_X10_notes_b91 n V x1 x3 x4 x5 x6 x7) (fun V x1 x3 x4 x5 x6 x7 hr => ih V x1 x3 x4 x5 x6 x7 hr) _ x1 x3 x4 x5 x6 x7 hr _ _ ls hV hS (lv_sub hl [0, 1, 2, 3, 4, 5, 6] rfl)
            · have hr := it b_14 hr
              refine lv_aload_n hx hb dX10_notes_132 rfl (lv_at hl 0 rfl) ?_
              refine lv_iload hx hb dX10_notes_133 (lv_at hl 6 rfl) ?_
              refine lv_iconst (v := 3) hx hb dX10_notes_135 (by decide) ?_
              obtain ⟨q15, e15, hr⟩ := ob hr
              refine cal_i (run_V (As := [.int x7, .int 3]) (rest := []) C hV hS (c_X10_ofNote l G b0 V x7 3 q15 e15) (rcv hK hV (kd_lt z_208 (by decide)) (cel_20 z_208) rfl) q_1614 q_1616 q_117 q_151 q_1617 dk_X10_ofNote (rm_ok (by decide) (by decide)) hl.1 rfl (Nat.le_of_ble_eq_true rfl) dX10_notes_136 ⟨Nat.zero_le _, Nat.zero_le _⟩) hS (fun H locs hV hS => ?_)
              refine lv_iload hx hb dX10_notes_139 (lv_at hl 4 rfl) ?_
              refine lv_icmp_ne (tgt := 153) hx hb dX10_notes_141 (by decide) (fun b_16 => ?_) (fun b_16 => ?_)
              · have hr := ie b_16 hr
                exact K_153 (fun V x1 x3 x4 x5 x6 x7 => f_X10_notes_b91 n V x1 x3 x4 x5 x6 x7) (fun V x1 x3 x4 x5 x6 x7 hr => ih V x1 x3 x4 x5 x6 x7 hr) _ x1 x3 x4 x5 x6 x7 hr _ _ ls hV hS (lv_sub hl [0, 1, 2, 3, 4, 5, 6] rfl)
              · have hr := it b_16 hr
                refine lv_aload_n hx hb dX10_notes_144 rfl (lv_at hl 0 rfl) ?_
                refine lv_bipush (v := 8) hx hb dX10_notes_145 (by decide) ?_
                refine lv_iload hx hb dX10_notes_147 (lv_at hl 6 rfl) ?_
                obtain ⟨q17, e17, hr⟩ := ob hr
                refine cal_i (run_V (As := [.int 8, .int x7]) (rest := []) C hV hS (c_X10_refused l G b0 V 8 x7 q17 e17) (rcv hK hV (kd_lt z_208 (by decide)) (cel_20 z_208) rfl) q_1492 q_1494 q_96 q_151 q_1495 dk_X10_refused (rm_ok (by decide) (by decide)) hl.1 rfl (Nat.le_of_ble_eq_true rfl) dX10_notes_149 ⟨Nat.zero_le _, Nat.zero_le _⟩) hS (fun H locs hV hS => ?_)
                rw [← Option.some.inj hr]
                exact fin_i C hV hS rfl dX10_notes_152
  unfold f_X10_notes at hr
  refine lv_iload_n hx hb dX10_notes_0 rfl (lv_at hl 1 rfl) ?_
  obtain ⟨q18, e18, hr⟩ := ob hr
  refine cal_i (run_S (As := [.int x1]) (rest := []) C hV hS (c_X10_isNet l G b0 V x1 q18 e18) q_1486 q_1487 q_151 q_1488 dk_X10_isNet (rm_ok (by decide) (by decide)) hl.1 rfl (Nat.le_of_ble_eq_true rfl) dX10_notes_1 ⟨Nat.zero_le _, Nat.zero_le _⟩) hS (fun H locs hV hS => ?_)
  refine lv_if_ne (tgt := 14) hx hb dX10_notes_4 (by decide) (fun b_19 => ?_) (fun b_19 => ?_)
  · have hr := ie b_19 hr
    refine lv_iload_n hx hb dX10_notes_14 rfl (lv_at hl 2 rfl) ?_
    obtain ⟨q20, e20, hr⟩ := ob hr
    refine cal_i (run_S (As := [.int x2]) (rest := []) C hV hS (c_X10_isPlace l G b0 V x2 q20 e20) q_1496 q_1497 q_151 q_1498 dk_X10_isPlace (rm_ok (by decide) (by decide)) hl.1 rfl (Nat.le_of_ble_eq_true rfl) dX10_notes_15 ⟨Nat.zero_le _, Nat.zero_le _⟩) hS (fun H locs hV hS => ?_)
    refine lv_if_ne (tgt := 28) hx hb dX10_notes_18 (by decide) (fun b_21 => ?_) (fun b_21 => ?_)
    · have hr := ie b_21 hr
      refine lv_aload_n hx hb dX10_notes_28 rfl (lv_at hl 0 rfl) ?_
      refine lv_iload_n hx hb dX10_notes_29 rfl (lv_at hl 1 rfl) ?_
      refine lv_iload_n hx hb dX10_notes_30 rfl (lv_at hl 2 rfl) ?_
      obtain ⟨q22, e22, hr⟩ := ob hr
      refine cal_i (run_V (As := [.int x1, .int x2]) (rest := []) C hV hS (c_X10_kind l G b0 V x1 x2 q22 e22) (rcv hK hV (kd_lt z_208 (by decide)) (cel_20 z_208) rfl) q_1499 q_1501 q_97 q_151 q_1502 dk_X10_kind (rm_ok (by decide) (by decide)) hl.1 rfl (Nat.le_of_ble_eq_true rfl) dX10_notes_31 ⟨Nat.zero_le _, Nat.zero_le _⟩) hS (fun H locs hV hS => ?_)
      refine lv_if_ne (tgt := 45) hx hb dX10_notes_34 (by decide) (fun b_23 => ?_) (fun b_23 => ?_)
      · have hr := ie b_23 hr
        refine lv_aload_n hx hb dX10_notes_45 rfl (lv_at hl 0 rfl) ?_
        refine lv_iload_n hx hb dX10_notes_46 rfl (lv_at hl 1 rfl) ?_
        obtain ⟨q24, e24, hr⟩ := ob hr
        refine cal_v (run_V (As := [.int x1]) (rest := []) C hV hS (c_X10_looksAt l G b0 V x1 q24 e24) (rcv hK hV (kd_lt z_208 (by decide)) (cel_20 z_208) rfl) q_1538 q_1540 q_105 q_151 q_1541 dk_X10_looksAt (rm_ok (by decide) (by decide)) hl.1 rfl (Nat.le_of_ble_eq_true rfl) dX10_notes_47 ⟨Nat.zero_le _, Nat.zero_le _⟩) hS (fun H locs hV hS => ?_)
        refine lv_aload_n hx hb dX10_notes_50 rfl (lv_at hl 0 rfl) ?_
        refine lv_iload_n hx hb dX10_notes_51 rfl (lv_at hl 2 rfl) ?_
        refine lv_aload_n hx hb dX10_notes_52 rfl (lv_at hl 0 rfl) ?_
        refine g_X10_19 C hV q_1410 dX10_notes_53 ?_
        obtain ⟨q25, e25, hr⟩ := ob hr
        refine cal_i (run_V (As := [.int x2, .int (q24 208 19)]) (rest := []) C hV hS (c_X10_together l G b0 q24 x2 (q24 208 19) q25 e25) (rcv hK hV (kd_lt z_208 (by decide)) (cel_20 z_208) rfl) q_1551 q_1553 q_107 q_151 q_1554 dk_X10_together (rm_ok (by decide) (by decide)) hl.1 rfl (Nat.le_of_ble_eq_true rfl) dX10_notes_56 ⟨Nat.zero_le _, Nat.zero_le _⟩) hS (fun H locs hV hS => ?_)
        refine lv_istore_n (lv' := [(3, .int q25), (0, .ref (b0 + 208)), (1, .int x1), (2, .int x2)]) hx hb dX10_notes_59 rfl hl (by decide) rfl (fun ls hl => ?_)
        refine lv_aload_n hx hb dX10_notes_60 rfl (lv_at hl 1 rfl) ?_
        refine lv_iload_n hx hb dX10_notes_61 rfl (lv_at hl 2 rfl) ?_
        refine lv_iconst (v := 0) hx hb dX10_notes_62 (by decide) ?_
        obtain ⟨q26, e26, hr⟩ := ob hr
        refine cal_i (run_V (As := [.int x1, .int 0]) (rest := []) C hV hS (c_X10_of l G b0 q24 x1 0 q26 e26) (rcv hK hV (kd_lt z_208 (by decide)) (cel_20 z_208) rfl) q_1503 q_1505 q_98 q_151 q_1506 dk_X10_of (rm_ok (by decide) (by decide)) hl.1 rfl (Nat.le_of_ble_eq_true rfl) dX10_notes_63 ⟨Nat.zero_le _, Nat.zero_le _⟩) hS (fun H locs hV hS => ?_)
        refine lv_iload_n hx hb dX10_notes_66 rfl (lv_at hl 0 rfl) ?_
        refine lv_iand hx hb dX10_notes_67 ?_
        refine lv_istore (lv' := [(4, .int (q26 &&& q25)), (3, .int q25), (0, .ref (b0 + 208)), (1, .int x1), (2, .int x2)]) hx hb dX10_notes_68 hl (by decide) rfl (fun ls hl => ?_)
        refine lv_aload_n hx hb dX10_notes_70 rfl (lv_at hl 2 rfl) ?_
        refine lv_iload_n hx hb dX10_notes_71 rfl (lv_at hl 3 rfl) ?_
        refine lv_iconst (v := 1) hx hb dX10_notes_72 (by decide) ?_
        obtain ⟨q27, e27, hr⟩ := ob hr
        refine cal_i (run_V (As := [.int x1, .int 1]) (rest := []) C hV hS (c_X10_of l G b0 q24 x1 1 q27 e27) (rcv hK hV (kd_lt z_208 (by decide)) (cel_20 z_208) rfl) q_1503 q_1505 q_98 q_151 q_1506 dk_X10_of (rm_ok (by decide) (by decide)) hl.1 rfl (Nat.le_of_ble_eq_true rfl) dX10_notes_73 ⟨Nat.zero_le _, Nat.zero_le _⟩) hS (fun H locs hV hS => ?_)
        refine lv_iload_n hx hb dX10_notes_76 rfl (lv_at hl 1 rfl) ?_
        refine lv_iand hx hb dX10_notes_77 ?_
        refine lv_istore (lv' := [(5, .int (q27 &&& q25)), (4, .int (q26 &&& q25)), (3, .int q25), (0, .ref (b0 + 208)), (1, .int x1), (2, .int x2)]) hx hb dX10_notes_78 hl (by decide) rfl (fun ls hl => ?_)
        refine lv_aload_n hx hb dX10_notes_80 rfl (lv_at hl 3 rfl) ?_
        refine g_X10_1 C hV q_1392 dX10_notes_81 ?_
        refine lv_iconst (v := 2) hx hb dX10_notes_84 (by decide) ?_
        refine a_21 (k := 209) (i := 2) (j := 2) C hV z_209 (by decide) dX10_notes_85 ?_
        refine lv_istore (lv' := [(6, .int (q24 209 2)), (5, .int (q27 &&& q25)), (4, .int (q26 &&& q25)), (3, .int q25), (0, .ref (b0 + 208)), (1, .int x1), (2, .int x2)]) hx hb dX10_notes_86 hl (by decide) rfl (fun ls hl => ?_)
        refine lv_iconst (v := 0) hx hb dX10_notes_88 (by decide) ?_
        refine lv_istore (lv' := [(7, .int 0), (6, .int (q24 209 2)), (5, .int (q27 &&& q25)), (4, .int (q26 &&& q25)), (3, .int q25), (0, .ref (b0 + 208)), (1, .int x1), (2, .int x2)]) hx hb dX10_notes_89 hl (by decide) rfl (fun ls hl => ?_)
        exact K_91 500 _ x1 q25 (q26 &&& q25) (q27 &&& q25) (q24 209 2) 0 hr _ _ ls hV hS (lv_sub hl [5, 6, 4, 3, 2, 1, 0] rfl)
      · have hr := it b_23 hr
        refine lv_aload_n hx hb dX10_notes_37 rfl (lv_at hl 0 rfl) ?_
        refine lv_bipush (v := 7) hx hb dX10_notes_38 (by decide) ?_
        refine lv_iload_n hx hb dX10_notes_40 rfl (lv_at hl 2 rfl) ?_
        obtain ⟨q28, e28, hr⟩ := ob hr
        refine cal_i (run_V (As := [.int 7, .int x2]) (rest := []) C hV hS (c_X10_refused l G b0 V 7 x2 q28 e28) (rcv hK hV (kd_lt z_208 (by decide)) (cel_20 z_208) rfl) q_1492 q_1494 q_96 q_151 q_1495 dk_X10_refused (rm_ok (by decide) (by decide)) hl.1 rfl (Nat.le_of_ble_eq_true rfl) dX10_notes_41 ⟨Nat.zero_le _, Nat.zero_le _⟩) hS (fun H locs hV hS => ?_)
        rw [← Option.some.inj hr]
        exact fin_i C hV hS rfl dX10_notes_44
    · have hr := it b_21 hr
      refine lv_aload_n hx hb dX10_notes_21 rfl (lv_at hl 0 rfl) ?_
      refine lv_iconst (v := 2) hx hb dX10_notes_22 (by decide) ?_
      refine lv_iload_n hx hb dX10_notes_23 rfl (lv_at hl 2 rfl) ?_
      obtain ⟨q29, e29, hr⟩ := ob hr
      refine cal_i (run_V (As := [.int 2, .int x2]) (rest := []) C hV hS (c_X10_refused l G b0 V 2 x2 q29 e29) (rcv hK hV (kd_lt z_208 (by decide)) (cel_20 z_208) rfl) q_1492 q_1494 q_96 q_151 q_1495 dk_X10_refused (rm_ok (by decide) (by decide)) hl.1 rfl (Nat.le_of_ble_eq_true rfl) dX10_notes_24 ⟨Nat.zero_le _, Nat.zero_le _⟩) hS (fun H locs hV hS => ?_)
      rw [← Option.some.inj hr]
      exact fin_i C hV hS rfl dX10_notes_27
  · have hr := it b_19 hr
    refine lv_aload_n hx hb dX10_notes_7 rfl (lv_at hl 0 rfl) ?_
    refine lv_iconst (v := 2) hx hb dX10_notes_8 (by decide) ?_
    refine lv_iload_n hx hb dX10_notes_9 rfl (lv_at hl 1 rfl) ?_
    obtain ⟨q30, e30, hr⟩ := ob hr
    refine cal_i (run_V (As := [.int 2, .int x1]) (rest := []) C hV hS (c_X10_refused l G b0 V 2 x1 q30 e30) (rcv hK hV (kd_lt z_208 (by decide)) (cel_20 z_208) rfl) q_1492 q_1494 q_96 q_151 q_1495 dk_X10_refused (rm_ok (by decide) (by decide)) hl.1 rfl (Nat.le_of_ble_eq_true rfl) dX10_notes_10 ⟨Nat.zero_le _, Nat.zero_le _⟩) hS (fun H locs hV hS => ?_)
    rw [← Option.some.inj hr]
    exact fin_i C hV hS rfl dX10_notes_13
set_option maxHeartbeats 4000000 in
set_option maxRecDepth 100000 in
theorem c_X10_drops (l : Launch) (G : LG) (b0 : Nat) (V : St) (x1 : Int32) (res : Int32 × St) (hr : f_X10_drops V x1 = some res) : Met l yX10_drops (wy yX10_drops cX10_drops 4 (some .int)) (rm 1) (va_Pc [.ref (b0 + 208), .int x1] (Iv G b0 V)) (QI G b0 res.1 res.2) 0 0 (Ab b0) := by
  refine mk_m (by decide +kernel) (Nat.le_of_ble_eq_true rfl) ?_
  intro p e s m below meth c C hV hS ls hl
  obtain ⟨args, hargs⟩ : ∃ z, z = ([.ref (b0 + 208), .int x1] : List Value).toArray := ⟨_, rfl⟩
  rw [← hargs] at C ⊢
  obtain ⟨hx, hb, hrt, hml, hown, hts, hlocks, hK, hSv⟩ := id C
  have hl : lv_has ls 4 [(0, .ref (b0 + 208)), (1, .int x1)] := hl
  have K_71 : ∀ (n : Nat) (V : St) (x2 : Int32) (x3 : Int32), f_X10_drops_b71 n V x2 x3 = some res → ∀ (H : Heap) (locs : List Loc) (ls : Array Slot), Hd G b0 V H → va_S (Ab b0) s.heap H locs → lv_has ls 4 [(0, .ref (b0 + 208)), (2, .int x2), (3, .int x3)] → W p l e (rm 1) s m args below meth c H locs 0 0 (MQ below (QI G b0 res.1 res.2) args s 0 0 (Ab b0)) (F0 m 71 ls []) := by
    intro  n
    induction n with
    | zero =>
      intro V x2 x3 hr
      rw [f_X10_drops_b71] at hr
      cases hr
    | succ n ih =>
      intro V x2 x3 hr H locs ls hV hS hl
      rw [f_X10_drops_b71] at hr
      refine lv_iload_n hx hb dX10_drops_71 rfl (lv_at hl 2 rfl) ?_
      refine lv_iconst (v := 4) hx hb dX10_drops_72 (by decide) ?_
      refine lv_icmp_ge (tgt := 96) hx hb dX10_drops_73 (by decide) (fun b_1 => ?_) (fun b_1 => ?_)
      · have hr := it b_1 hr
        refine lv_aload_n hx hb dX10_drops_96 rfl (lv_at hl 0 rfl) ?_
        refine g_X10_1 C hV q_1392 dX10_drops_97 ?_
        refine lv_iconst (v := 2) hx hb dX10_drops_100 (by decide) ?_
        refine lv_iload_n hx hb dX10_drops_101 rfl (lv_at hl 1 rfl) ?_
        refine s_21 (k := 209) (i := 2) (j := 2) (x := x2) C hV hS z_209 (by decide) dX10_drops_102 (fun H locs hV hS => ?_)
        refine lv_aload_n hx hb dX10_drops_103 rfl (lv_at hl 0 rfl) ?_
        refine lv_iload_n hx hb dX10_drops_104 rfl (lv_at hl 1 rfl) ?_
        obtain ⟨q2, e2, hr⟩ := ob hr
        refine cal_i (run_V (As := [.int x2]) (rest := []) C hV hS (c_X10_done l G b0 (up V 209 2 x2) x2 q2 e2) (rcv hK hV (kd_lt z_208 (by decide)) (cel_20 z_208) rfl) q_1511 q_1513 q_100 q_151 q_1514 dk_X10_done (rm_ok (by decide) (by decide)) hl.1 rfl (Nat.le_of_ble_eq_true rfl) dX10_drops_105 ⟨Nat.zero_le _, Nat.zero_le _⟩) hS (fun H locs hV hS => ?_)
        rw [← Option.some.inj hr]
        exact fin_i C hV hS rfl dX10_drops_108
      · have hr := ie b_1 hr
        refine lv_aload_n hx hb dX10_drops_76 rfl (lv_at hl 0 rfl) ?_
        refine g_X10_1 C hV q_1392 dX10_drops_77 ?_
        refine lv_bipush (v := 29) hx hb dX10_drops_80 (by decide) ?_
        refine lv_iconst (v := 4) hx hb dX10_drops_82 (by decide) ?_
        refine lv_iload_n hx hb dX10_drops_83 rfl (lv_at hl 1 rfl) ?_
        refine lv_imul hx hb dX10_drops_84 ?_
        refine lv_iadd hx hb dX10_drops_85 ?_
        refine lv_iload_n hx hb dX10_drops_86 rfl (lv_at hl 2 rfl) ?_
        refine lv_iadd hx hb dX10_drops_87 ?_
        refine lv_iconst (v := 0) hx hb dX10_drops_88 (by decide) ?_
        obtain ⟨j3, e3, hr⟩ := ob hr
        refine s_21 (k := 209) (i := ((29 + (4 * x2)) + x3)) (j := j3) (x := 0) C hV hS z_209 e3 dX10_drops_89 (fun H locs hV hS => ?_)
        refine lv_iinc (v := x3 + 1) (lv' := [(3, .int (x3 + 1)), (0, .ref (b0 + 208)), (2, .int x2)]) hx hb dX10_drops_90 hl (k := 2) rfl rfl (by decide) rfl (fun ls hl => ?_)
        refine lv_goto (tgt := 71) hx hb dX10_drops_93 (by decide) ?_
        exact ih _ x2 (x3 + 1) hr _ _ ls hV hS (lv_sub hl [1, 2, 0] rfl)
  have K_36 : ∀ (n : Nat) (V : St) (x2 : Int32) (x3 : Int32), f_X10_drops_b36 n V x2 x3 = some res → ∀ (H : Heap) (locs : List Loc) (ls : Array Slot), Hd G b0 V H → va_S (Ab b0) s.heap H locs → lv_has ls 4 [(0, .ref (b0 + 208)), (2, .int x2), (3, .int x3)] → W p l e (rm 1) s m args below meth c H locs 0 0 (MQ below (QI G b0 res.1 res.2) args s 0 0 (Ab b0)) (F0 m 36 ls []) := by
    intro  n
    induction n with
    | zero =>
      intro V x2 x3 hr
      rw [f_X10_drops_b36] at hr
      cases hr
    | succ n ih =>
      intro V x2 x3 hr H locs ls hV hS hl
      rw [f_X10_drops_b36] at hr
      refine lv_iload_n hx hb dX10_drops_36 rfl (lv_at hl 2 rfl) ?_
      refine lv_iconst (v := 4) hx hb dX10_drops_37 (by decide) ?_
      refine lv_iload_n hx hb dX10_drops_38 rfl (lv_at hl 1 rfl) ?_
      refine lv_imul hx hb dX10_drops_39 ?_
      refine lv_icmp_ge (tgt := 69) hx hb dX10_drops_40 (by decide) (fun b_4 => ?_) (fun b_4 => ?_)
      · have hr := it b_4 hr
        refine lv_iconst (v := 0) hx hb dX10_drops_69 (by decide) ?_
        refine lv_istore_n (lv' := [(3, .int 0), (0, .ref (b0 + 208)), (2, .int x2)]) hx hb dX10_drops_70 rfl hl (by decide) rfl (fun ls hl => ?_)
        exact K_71 500 _ x2 0 hr _ _ ls hV hS (lv_sub hl [1, 2, 0] rfl)
      · have hr := ie b_4 hr
        refine lv_aload_n hx hb dX10_drops_43 rfl (lv_at hl 0 rfl) ?_
        refine g_X10_1 C hV q_1392 dX10_drops_44 ?_
        refine lv_bipush (v := 29) hx hb dX10_drops_47 (by decide) ?_
        refine lv_iload_n hx hb dX10_drops_49 rfl (lv_at hl 2 rfl) ?_
        refine lv_iadd hx hb dX10_drops_50 ?_
        refine lv_aload_n hx hb dX10_drops_51 rfl (lv_at hl 0 rfl) ?_
        refine g_X10_1 C hV q_1392 dX10_drops_52 ?_
        refine lv_bipush (v := 29) hx hb dX10_drops_55 (by decide) ?_
        refine lv_iload_n hx hb dX10_drops_57 rfl (lv_at hl 2 rfl) ?_
        refine lv_iadd hx hb dX10_drops_58 ?_
        refine lv_iconst (v := 4) hx hb dX10_drops_59 (by decide) ?_
        refine lv_iadd hx hb dX10_drops_60 ?_
        obtain ⟨j5, e5, hr⟩ := ob hr
        refine a_21 (k := 209) (i := ((29 + x3) + 4)) (j := j5) C hV z_209 e5 dX10_drops_61 ?_
        obtain ⟨j6, e6, hr⟩ := ob hr
        refine s_21 (k := 209) (i := (29 + x3)) (j := j6) (x := (V 209 j5)) C hV hS z_209 e6 dX10_drops_62 (fun H locs hV hS => ?_)
        refine lv_iinc (v := x3 + 1) (lv' := [(3, .int (x3 + 1)), (0, .ref (b0 + 208)), (2, .int x2)]) hx hb dX10_drops_63 hl (k := 2) rfl rfl (by decide) rfl (fun ls hl => ?_)
        refine lv_goto (tgt := 36) hx hb dX10_drops_66 (by decide) ?_
        exact ih _ x2 (x3 + 1) hr _ _ ls hV hS (lv_sub hl [1, 2, 0] rfl)
  unfold f_X10_drops at hr
  refine lv_iload_n hx hb dX10_drops_0 rfl (lv_at hl 1 rfl) ?_
  refine lv_iconst (v := 0) hx hb dX10_drops_1 (by decide) ?_
  refine lv_aload_n hx hb dX10_drops_2 rfl (lv_at hl 0 rfl) ?_
  refine g_X10_1 C hV q_1392 dX10_drops_3 ?_
  refine lv_iconst (v := 2) hx hb dX10_drops_6 (by decide) ?_
  refine a_21 (k := 209) (i := 2) (j := 2) C hV z_209 (by decide) dX10_drops_7 ?_
  refine lv_iconst (v := 1) hx hb dX10_drops_8 (by decide) ?_
  refine lv_isub hx hb dX10_drops_9 ?_
  obtain ⟨q7, e7, hr⟩ := ob hr
  refine cal_i (run_S (As := [.int x1, .int 0, .int ((V 209 2) - 1)]) (rest := []) C hV hS (c_X10_in l G b0 V x1 0 ((V 209 2) - 1) q7 e7) q_1489 q_1490 q_151 q_1491 dk_X10_in (rm_ok (by decide) (by decide)) hl.1 rfl (Nat.le_of_ble_eq_true rfl) dX10_drops_10 ⟨Nat.zero_le _, Nat.zero_le _⟩) hS (fun H locs hV hS => ?_)
  refine lv_if_ne (tgt := 23) hx hb dX10_drops_13 (by decide) (fun b_8 => ?_) (fun b_8 => ?_)
  · have hr := ie b_8 hr
    refine lv_aload_n hx hb dX10_drops_23 rfl (lv_at hl 0 rfl) ?_
    refine g_X10_1 C hV q_1392 dX10_drops_24 ?_
    refine lv_iconst (v := 2) hx hb dX10_drops_27 (by decide) ?_
    refine a_21 (k := 209) (i := 2) (j := 2) C hV z_209 (by decide) dX10_drops_28 ?_
    refine lv_iconst (v := 1) hx hb dX10_drops_29 (by decide) ?_
    refine lv_isub hx hb dX10_drops_30 ?_
    refine lv_istore_n (lv' := [(2, .int ((V 209 2) - 1)), (0, .ref (b0 + 208)), (1, .int x1)]) hx hb dX10_drops_31 rfl hl (by decide) rfl (fun ls hl => ?_)
    refine lv_iconst (v := 4) hx hb dX10_drops_32 (by decide) ?_
    refine lv_iload_n hx hb dX10_drops_33 rfl (lv_at hl 2 rfl) ?_
    refine lv_imul hx hb dX10_drops_34 ?_
    refine lv_istore_n (lv' := [(3, .int (4 * x1)), (2, .int ((V 209 2) - 1)), (0, .ref (b0 + 208)), (1, .int x1)]) hx hb dX10_drops_35 rfl hl (by decide) rfl (fun ls hl => ?_)
    exact K_36 500 _ ((V 209 2) - 1) (4 * x1) hr _ _ ls hV hS (lv_sub hl [2, 1, 0] rfl)
  · have hr := it b_8 hr
    refine lv_aload_n hx hb dX10_drops_16 rfl (lv_at hl 0 rfl) ?_
    refine lv_iconst (v := 2) hx hb dX10_drops_17 (by decide) ?_
    refine lv_iload_n hx hb dX10_drops_18 rfl (lv_at hl 1 rfl) ?_
    obtain ⟨q9, e9, hr⟩ := ob hr
    refine cal_i (run_V (As := [.int 2, .int x1]) (rest := []) C hV hS (c_X10_refused l G b0 V 2 x1 q9 e9) (rcv hK hV (kd_lt z_208 (by decide)) (cel_20 z_208) rfl) q_1492 q_1494 q_96 q_151 q_1495 dk_X10_refused (rm_ok (by decide) (by decide)) hl.1 rfl (Nat.le_of_ble_eq_true rfl) dX10_drops_19 ⟨Nat.zero_le _, Nat.zero_le _⟩) hS (fun H locs hV hS => ?_)
    rw [← Option.some.inj hr]
    exact fin_i C hV hS rfl dX10_drops_22
set_option maxHeartbeats 4000000 in
set_option maxRecDepth 100000 in
theorem c_X10_knot (l : Launch) (G : LG) (b0 : Nat) (V : St) (x1 : Int32) (x2 : Int32) (x3 : Int32) (res : Int32 × St) (hr : f_X10_knot V x1 x2 x3 = some res) : Met l yX10_knot (wy yX10_knot cX10_knot 4 (some .int)) (rm 3) (va_Pc [.ref (b0 + 208), .int x1, .int x2, .int x3] (Iv G b0 V)) (QI G b0 res.1 res.2) 0 0 (Ab b0) := by
  refine mk_m (by decide +kernel) (Nat.le_of_ble_eq_true rfl) ?_
  intro p e s m below meth c C hV hS ls hl
  obtain ⟨args, hargs⟩ : ∃ z, z = ([.ref (b0 + 208), .int x1, .int x2, .int x3] : List Value).toArray := ⟨_, rfl⟩
  rw [← hargs] at C ⊢
  obtain ⟨hx, hb, hrt, hml, hown, hts, hlocks, hK, hSv⟩ := id C
  have hl : lv_has ls 4 [(0, .ref (b0 + 208)), (1, .int x1), (2, .int x2), (3, .int x3)] := hl
  unfold f_X10_knot at hr
  refine lv_aload_n hx hb dX10_knot_0 rfl (lv_at hl 0 rfl) ?_
  obtain ⟨q1, e1, hr⟩ := ob hr
  refine cal_v (run_V (As := []) (rest := []) C hV hS (c_X10_remembers l G b0 V q1 e1) (rcv hK hV (kd_lt z_208 (by decide)) (cel_20 z_208) rfl) q_1478 q_1480 q_94 q_151 q_1481 dk_X10_remembers (rm_ok (by decide) (by decide)) hl.1 rfl (Nat.le_of_ble_eq_true rfl) dX10_knot_1 ⟨Nat.zero_le _, Nat.zero_le _⟩) hS (fun H locs hV hS => ?_)
  refine lv_aload_n hx hb dX10_knot_4 rfl (lv_at hl 0 rfl) ?_
  refine lv_aload_n hx hb dX10_knot_5 rfl (lv_at hl 0 rfl) ?_
  refine lv_iload_n hx hb dX10_knot_6 rfl (lv_at hl 1 rfl) ?_
  refine lv_iload_n hx hb dX10_knot_7 rfl (lv_at hl 2 rfl) ?_
  refine lv_iload_n hx hb dX10_knot_8 rfl (lv_at hl 3 rfl) ?_
  obtain ⟨q2, e2, hr⟩ := ob hr
  refine cal_i (run_V (As := [.int x1, .int x2, .int x3]) (rest := [.ref (b0 + 208)]) C hV hS (c_X10_ties l G b0 q1 x1 x2 x3 q2 e2) (rcv hK hV (kd_lt z_208 (by decide)) (cel_20 z_208) rfl) q_1482 q_1484 q_95 q_151 q_1485 dk_X10_ties (rm_ok (by decide) (by decide)) hl.1 rfl (Nat.le_of_ble_eq_true rfl) dX10_knot_9 ⟨Nat.zero_le _, Nat.zero_le _⟩) hS (fun H locs hV hS => ?_)
  obtain ⟨q3, e3, hr⟩ := ob hr
  refine cal_i (run_V (As := [.int q2.1]) (rest := []) C hV hS (c_X10_ends l G b0 q2.2 q2.1 q3 e3) (rcv hK hV (kd_lt z_208 (by decide)) (cel_20 z_208) rfl) q_1515 q_1517 q_101 q_151 q_1518 dk_X10_ends (rm_ok (by decide) (by decide)) hl.1 rfl (Nat.le_of_ble_eq_true rfl) dX10_knot_12 ⟨Nat.zero_le _, Nat.zero_le _⟩) hS (fun H locs hV hS => ?_)
  rw [← Option.some.inj hr]
  exact fin_i C hV hS rfl dX10_knot_15
set_option maxHeartbeats 4000000 in
set_option maxRecDepth 100000 in
theorem c_X10_tear (l : Launch) (G : LG) (b0 : Nat) (V : St) (x1 : Int32) (x2 : Int32) (x3 : Int32) (res : Int32 × St) (hr : f_X10_tear V x1 x2 x3 = some res) : Met l yX10_tear (wy yX10_tear cX10_tear 4 (some .int)) (rm 4) (va_Pc [.ref (b0 + 208), .int x1, .int x2, .int x3] (Iv G b0 V)) (QI G b0 res.1 res.2) 0 0 (Ab b0) := by
  refine mk_m (by decide +kernel) (Nat.le_of_ble_eq_true rfl) ?_
  intro p e s m below meth c C hV hS ls hl
  obtain ⟨args, hargs⟩ : ∃ z, z = ([.ref (b0 + 208), .int x1, .int x2, .int x3] : List Value).toArray := ⟨_, rfl⟩
  rw [← hargs] at C ⊢
  obtain ⟨hx, hb, hrt, hml, hown, hts, hlocks, hK, hSv⟩ := id C
  have hl : lv_has ls 4 [(0, .ref (b0 + 208)), (1, .int x1), (2, .int x2), (3, .int x3)] := hl
  unfold f_X10_tear at hr
  refine lv_aload_n hx hb dX10_tear_0 rfl (lv_at hl 0 rfl) ?_
  obtain ⟨q1, e1, hr⟩ := ob hr
  refine cal_v (run_V (As := []) (rest := []) C hV hS (c_X10_remembers l G b0 V q1 e1) (rcv hK hV (kd_lt z_208 (by decide)) (cel_20 z_208) rfl) q_1478 q_1480 q_94 q_151 q_1481 dk_X10_remembers (rm_ok (by decide) (by decide)) hl.1 rfl (Nat.le_of_ble_eq_true rfl) dX10_tear_1 ⟨Nat.zero_le _, Nat.zero_le _⟩) hS (fun H locs hV hS => ?_)
  refine lv_aload_n hx hb dX10_tear_4 rfl (lv_at hl 0 rfl) ?_
  refine lv_aload_n hx hb dX10_tear_5 rfl (lv_at hl 0 rfl) ?_
  refine lv_iload_n hx hb dX10_tear_6 rfl (lv_at hl 1 rfl) ?_
  refine lv_iload_n hx hb dX10_tear_7 rfl (lv_at hl 2 rfl) ?_
  refine lv_iload_n hx hb dX10_tear_8 rfl (lv_at hl 3 rfl) ?_
  obtain ⟨q2, e2, hr⟩ := ob hr
  refine cal_i (run_V (As := [.int x1, .int x2, .int x3]) (rest := [.ref (b0 + 208)]) C hV hS (c_X10_tears l G b0 q1 x1 x2 x3 q2 e2) (rcv hK hV (kd_lt z_208 (by decide)) (cel_20 z_208) rfl) q_1531 q_1533 q_104 q_151 q_1534 dk_X10_tears (rm_ok (by decide) (by decide)) hl.1 rfl (Nat.le_of_ble_eq_true rfl) dX10_tear_9 ⟨Nat.zero_le _, Nat.zero_le _⟩) hS (fun H locs hV hS => ?_)
  obtain ⟨q3, e3, hr⟩ := ob hr
  refine cal_i (run_V (As := [.int q2.1]) (rest := []) C hV hS (c_X10_ends l G b0 q2.2 q2.1 q3 e3) (rcv hK hV (kd_lt z_208 (by decide)) (cel_20 z_208) rfl) q_1515 q_1517 q_101 q_151 q_1518 dk_X10_ends (rm_ok (by decide) (by decide)) hl.1 rfl (Nat.le_of_ble_eq_true rfl) dX10_tear_12 ⟨Nat.zero_le _, Nat.zero_le _⟩) hS (fun H locs hV hS => ?_)
  rw [← Option.some.inj hr]
  exact fin_i C hV hS rfl dX10_tear_15
set_option maxHeartbeats 4000000 in
set_option maxRecDepth 100000 in
theorem c_X10_mend (l : Launch) (G : LG) (b0 : Nat) (V : St) (x1 : Int32) (x2 : Int32) (x3 : Int32) (x4 : Int32) (res : Int32 × St) (hr : f_X10_mend V x1 x2 x3 x4 = some res) : Met l yX10_mend (wy yX10_mend cX10_mend 5 (some .int)) (rm 3) (va_Pc [.ref (b0 + 208), .int x1, .int x2, .int x3, .int x4] (Iv G b0 V)) (QI G b0 res.1 res.2) 0 0 (Ab b0) := by
  refine mk_m (by decide +kernel) (Nat.le_of_ble_eq_true rfl) ?_
  intro p e s m below meth c C hV hS ls hl
  obtain ⟨args, hargs⟩ : ∃ z, z = ([.ref (b0 + 208), .int x1, .int x2, .int x3, .int x4] : List Value).toArray := ⟨_, rfl⟩
  rw [← hargs] at C ⊢
  obtain ⟨hx, hb, hrt, hml, hown, hts, hlocks, hK, hSv⟩ := id C
  have hl : lv_has ls 5 [(0, .ref (b0 + 208)), (1, .int x1), (2, .int x2), (3, .int x3), (4, .int x4)] := hl
  unfold f_X10_mend at hr
  refine lv_aload_n hx hb dX10_mend_0 rfl (lv_at hl 0 rfl) ?_
  obtain ⟨q1, e1, hr⟩ := ob hr
  refine cal_v (run_V (As := []) (rest := []) C hV hS (c_X10_remembers l G b0 V q1 e1) (rcv hK hV (kd_lt z_208 (by decide)) (cel_20 z_208) rfl) q_1478 q_1480 q_94 q_151 q_1481 dk_X10_remembers (rm_ok (by decide) (by decide)) hl.1 rfl (Nat.le_of_ble_eq_true rfl) dX10_mend_1 ⟨Nat.zero_le _, Nat.zero_le _⟩) hS (fun H locs hV hS => ?_)
  refine lv_aload_n hx hb dX10_mend_4 rfl (lv_at hl 0 rfl) ?_
  refine lv_aload_n hx hb dX10_mend_5 rfl (lv_at hl 0 rfl) ?_
  refine lv_iload_n hx hb dX10_mend_6 rfl (lv_at hl 1 rfl) ?_
  refine lv_iload_n hx hb dX10_mend_7 rfl (lv_at hl 2 rfl) ?_
  refine lv_iload_n hx hb dX10_mend_8 rfl (lv_at hl 3 rfl) ?_
  refine lv_iload hx hb dX10_mend_9 (lv_at hl 4 rfl) ?_
  obtain ⟨q2, e2, hr⟩ := ob hr
  refine cal_i (run_V (As := [.int x1, .int x2, .int x3, .int x4]) (rest := [.ref (b0 + 208)]) C hV hS (c_X10_mends l G b0 q1 x1 x2 x3 x4 q2 e2) (rcv hK hV (kd_lt z_208 (by decide)) (cel_20 z_208) rfl) q_1563 q_1565 q_109 q_151 q_1566 dk_X10_mends (rm_ok (by decide) (by decide)) hl.1 rfl (Nat.le_of_ble_eq_true rfl) dX10_mend_11 ⟨Nat.zero_le _, Nat.zero_le _⟩) hS (fun H locs hV hS => ?_)
  obtain ⟨q3, e3, hr⟩ := ob hr
  refine cal_i (run_V (As := [.int q2.1]) (rest := []) C hV hS (c_X10_ends l G b0 q2.2 q2.1 q3 e3) (rcv hK hV (kd_lt z_208 (by decide)) (cel_20 z_208) rfl) q_1515 q_1517 q_101 q_151 q_1518 dk_X10_ends (rm_ok (by decide) (by decide)) hl.1 rfl (Nat.le_of_ble_eq_true rfl) dX10_mend_14 ⟨Nat.zero_le _, Nat.zero_le _⟩) hS (fun H locs hV hS => ?_)
  rw [← Option.some.inj hr]
  exact fin_i C hV hS rfl dX10_mend_17
set_option maxHeartbeats 4000000 in
set_option maxRecDepth 100000 in
theorem c_X10_editor (l : Launch) (G : LG) (b0 : Nat) (V : St) (x1 : Int32) (res : Int32 × St) (hr : f_X10_editor V x1 = some res) : Met l yX10_editor (wy yX10_editor cX10_editor 2 (some .int)) (rm 2) (va_Pc [.ref (b0 + 208), .int x1] (Iv G b0 V)) (QI G b0 res.1 res.2) 0 0 (Ab b0) := by
  refine mk_m (by decide +kernel) (Nat.le_of_ble_eq_true rfl) ?_
  intro p e s m below meth c C hV hS ls hl
  obtain ⟨args, hargs⟩ : ∃ z, z = ([.ref (b0 + 208), .int x1] : List Value).toArray := ⟨_, rfl⟩
  rw [← hargs] at C ⊢
  obtain ⟨hx, hb, hrt, hml, hown, hts, hlocks, hK, hSv⟩ := id C
  have hl : lv_has ls 2 [(0, .ref (b0 + 208)), (1, .int x1)] := hl
  unfold f_X10_editor at hr
  refine lv_aload_n hx hb dX10_editor_0 rfl (lv_at hl 0 rfl) ?_
  obtain ⟨q1, e1, hr⟩ := ob hr
  refine cal_v (run_V (As := []) (rest := []) C hV hS (c_X10_remembers l G b0 V q1 e1) (rcv hK hV (kd_lt z_208 (by decide)) (cel_20 z_208) rfl) q_1478 q_1480 q_94 q_151 q_1481 dk_X10_remembers (rm_ok (by decide) (by decide)) hl.1 rfl (Nat.le_of_ble_eq_true rfl) dX10_editor_1 ⟨Nat.zero_le _, Nat.zero_le _⟩) hS (fun H locs hV hS => ?_)
  refine lv_aload_n hx hb dX10_editor_4 rfl (lv_at hl 0 rfl) ?_
  refine lv_aload_n hx hb dX10_editor_5 rfl (lv_at hl 0 rfl) ?_
  refine lv_iload_n hx hb dX10_editor_6 rfl (lv_at hl 1 rfl) ?_
  obtain ⟨q2, e2, hr⟩ := ob hr
  refine cal_i (run_V (As := [.int x1]) (rest := [.ref (b0 + 208)]) C hV hS (c_X10_comes l G b0 q1 x1 q2 e2) (rcv hK hV (kd_lt z_208 (by decide)) (cel_20 z_208) rfl) q_1571 q_1573 q_110 q_151 q_1574 dk_X10_comes (rm_ok (by decide) (by decide)) hl.1 rfl (Nat.le_of_ble_eq_true rfl) dX10_editor_7 ⟨Nat.zero_le _, Nat.zero_le _⟩) hS (fun H locs hV hS => ?_)
  obtain ⟨q3, e3, hr⟩ := ob hr
  refine cal_i (run_V (As := [.int q2.1]) (rest := []) C hV hS (c_X10_ends l G b0 q2.2 q2.1 q3 e3) (rcv hK hV (kd_lt z_208 (by decide)) (cel_20 z_208) rfl) q_1515 q_1517 q_101 q_151 q_1518 dk_X10_ends (rm_ok (by decide) (by decide)) hl.1 rfl (Nat.le_of_ble_eq_true rfl) dX10_editor_10 ⟨Nat.zero_le _, Nat.zero_le _⟩) hS (fun H locs hV hS => ?_)
  rw [← Option.some.inj hr]
  exact fin_i C hV hS rfl dX10_editor_13
set_option maxHeartbeats 4000000 in
set_option maxRecDepth 100000 in
theorem c_X10_tide (l : Launch) (G : LG) (b0 : Nat) (V : St) (x1 : Int32) (res : Int32 × St) (hr : f_X10_tide V x1 = some res) : Met l yX10_tide (wy yX10_tide cX10_tide 2 (some .int)) (rm 5) (va_Pc [.ref (b0 + 208), .int x1] (Iv G b0 V)) (QI G b0 res.1 res.2) 0 0 (Ab b0) := by
  refine mk_m (by decide +kernel) (Nat.le_of_ble_eq_true rfl) ?_
  intro p e s m below meth c C hV hS ls hl
  obtain ⟨args, hargs⟩ : ∃ z, z = ([.ref (b0 + 208), .int x1] : List Value).toArray := ⟨_, rfl⟩
  rw [← hargs] at C ⊢
  obtain ⟨hx, hb, hrt, hml, hown, hts, hlocks, hK, hSv⟩ := id C
  have hl : lv_has ls 2 [(0, .ref (b0 + 208)), (1, .int x1)] := hl
  unfold f_X10_tide at hr
  refine lv_aload_n hx hb dX10_tide_0 rfl (lv_at hl 0 rfl) ?_
  obtain ⟨q1, e1, hr⟩ := ob hr
  refine cal_v (run_V (As := []) (rest := []) C hV hS (c_X10_remembers l G b0 V q1 e1) (rcv hK hV (kd_lt z_208 (by decide)) (cel_20 z_208) rfl) q_1478 q_1480 q_94 q_151 q_1481 dk_X10_remembers (rm_ok (by decide) (by decide)) hl.1 rfl (Nat.le_of_ble_eq_true rfl) dX10_tide_1 ⟨Nat.zero_le _, Nat.zero_le _⟩) hS (fun H locs hV hS => ?_)
  refine lv_aload_n hx hb dX10_tide_4 rfl (lv_at hl 0 rfl) ?_
  refine lv_aload_n hx hb dX10_tide_5 rfl (lv_at hl 0 rfl) ?_
  refine lv_iload_n hx hb dX10_tide_6 rfl (lv_at hl 1 rfl) ?_
  obtain ⟨q2, e2, hr⟩ := ob hr
  refine cal_i (run_V (As := [.int x1]) (rest := [.ref (b0 + 208)]) C hV hS (c_X10_turns l G b0 q1 x1 q2 e2) (rcv hK hV (kd_lt z_208 (by decide)) (cel_20 z_208) rfl) q_1579 q_1581 q_111 q_151 q_1582 dk_X10_turns (rm_ok (by decide) (by decide)) hl.1 rfl (Nat.le_of_ble_eq_true rfl) dX10_tide_7 ⟨Nat.zero_le _, Nat.zero_le _⟩) hS (fun H locs hV hS => ?_)
  obtain ⟨q3, e3, hr⟩ := ob hr
  refine cal_i (run_V (As := [.int q2.1]) (rest := []) C hV hS (c_X10_ends l G b0 q2.2 q2.1 q3 e3) (rcv hK hV (kd_lt z_208 (by decide)) (cel_20 z_208) rfl) q_1515 q_1517 q_101 q_151 q_1518 dk_X10_ends (rm_ok (by decide) (by decide)) hl.1 rfl (Nat.le_of_ble_eq_true rfl) dX10_tide_10 ⟨Nat.zero_le _, Nat.zero_le _⟩) hS (fun H locs hV hS => ?_)
  rw [← Option.some.inj hr]
  exact fin_i C hV hS rfl dX10_tide_13
set_option maxHeartbeats 4000000 in
set_option maxRecDepth 100000 in
theorem c_X10_sink (l : Launch) (G : LG) (b0 : Nat) (V : St) (x1 : Int32) (x2 : Int32) (res : Int32 × St) (hr : f_X10_sink V x1 x2 = some res) : Met l yX10_sink (wy yX10_sink cX10_sink 3 (some .int)) (rm 3) (va_Pc [.ref (b0 + 208), .int x1, .int x2] (Iv G b0 V)) (QI G b0 res.1 res.2) 0 0 (Ab b0) := by
  refine mk_m (by decide +kernel) (Nat.le_of_ble_eq_true rfl) ?_
  intro p e s m below meth c C hV hS ls hl
  obtain ⟨args, hargs⟩ : ∃ z, z = ([.ref (b0 + 208), .int x1, .int x2] : List Value).toArray := ⟨_, rfl⟩
  rw [← hargs] at C ⊢
  obtain ⟨hx, hb, hrt, hml, hown, hts, hlocks, hK, hSv⟩ := id C
  have hl : lv_has ls 3 [(0, .ref (b0 + 208)), (1, .int x1), (2, .int x2)] := hl
  unfold f_X10_sink at hr
  refine lv_aload_n hx hb dX10_sink_0 rfl (lv_at hl 0 rfl) ?_
  obtain ⟨q1, e1, hr⟩ := ob hr
  refine cal_v (run_V (As := []) (rest := []) C hV hS (c_X10_remembers l G b0 V q1 e1) (rcv hK hV (kd_lt z_208 (by decide)) (cel_20 z_208) rfl) q_1478 q_1480 q_94 q_151 q_1481 dk_X10_remembers (rm_ok (by decide) (by decide)) hl.1 rfl (Nat.le_of_ble_eq_true rfl) dX10_sink_1 ⟨Nat.zero_le _, Nat.zero_le _⟩) hS (fun H locs hV hS => ?_)
  refine lv_aload_n hx hb dX10_sink_4 rfl (lv_at hl 0 rfl) ?_
  refine lv_aload_n hx hb dX10_sink_5 rfl (lv_at hl 0 rfl) ?_
  refine lv_iload_n hx hb dX10_sink_6 rfl (lv_at hl 1 rfl) ?_
  refine lv_iload_n hx hb dX10_sink_7 rfl (lv_at hl 2 rfl) ?_
  obtain ⟨q2, e2, hr⟩ := ob hr
  refine cal_i (run_V (As := [.int x1, .int x2]) (rest := [.ref (b0 + 208)]) C hV hS (c_X10_sinks l G b0 q1 x1 x2 q2 e2) (rcv hK hV (kd_lt z_208 (by decide)) (cel_20 z_208) rfl) q_1602 q_1604 q_115 q_151 q_1605 dk_X10_sinks (rm_ok (by decide) (by decide)) hl.1 rfl (Nat.le_of_ble_eq_true rfl) dX10_sink_8 ⟨Nat.zero_le _, Nat.zero_le _⟩) hS (fun H locs hV hS => ?_)
  obtain ⟨q3, e3, hr⟩ := ob hr
  refine cal_i (run_V (As := [.int q2.1]) (rest := []) C hV hS (c_X10_ends l G b0 q2.2 q2.1 q3 e3) (rcv hK hV (kd_lt z_208 (by decide)) (cel_20 z_208) rfl) q_1515 q_1517 q_101 q_151 q_1518 dk_X10_ends (rm_ok (by decide) (by decide)) hl.1 rfl (Nat.le_of_ble_eq_true rfl) dX10_sink_11 ⟨Nat.zero_le _, Nat.zero_le _⟩) hS (fun H locs hV hS => ?_)
  rw [← Option.some.inj hr]
  exact fin_i C hV hS rfl dX10_sink_14
set_option maxHeartbeats 4000000 in
set_option maxRecDepth 100000 in
theorem c_X10_note (l : Launch) (G : LG) (b0 : Nat) (V : St) (x1 : Int32) (x2 : Int32) (res : Int32 × St) (hr : f_X10_note V x1 x2 = some res) : Met l yX10_note (wy yX10_note cX10_note 3 (some .int)) (rm 3) (va_Pc [.ref (b0 + 208), .int x1, .int x2] (Iv G b0 V)) (QI G b0 res.1 res.2) 0 0 (Ab b0) := by
  refine mk_m (by decide +kernel) (Nat.le_of_ble_eq_true rfl) ?_
  intro p e s m below meth c C hV hS ls hl
  obtain ⟨args, hargs⟩ : ∃ z, z = ([.ref (b0 + 208), .int x1, .int x2] : List Value).toArray := ⟨_, rfl⟩
  rw [← hargs] at C ⊢
  obtain ⟨hx, hb, hrt, hml, hown, hts, hlocks, hK, hSv⟩ := id C
  have hl : lv_has ls 3 [(0, .ref (b0 + 208)), (1, .int x1), (2, .int x2)] := hl
  unfold f_X10_note at hr
  refine lv_aload_n hx hb dX10_note_0 rfl (lv_at hl 0 rfl) ?_
  obtain ⟨q1, e1, hr⟩ := ob hr
  refine cal_v (run_V (As := []) (rest := []) C hV hS (c_X10_remembers l G b0 V q1 e1) (rcv hK hV (kd_lt z_208 (by decide)) (cel_20 z_208) rfl) q_1478 q_1480 q_94 q_151 q_1481 dk_X10_remembers (rm_ok (by decide) (by decide)) hl.1 rfl (Nat.le_of_ble_eq_true rfl) dX10_note_1 ⟨Nat.zero_le _, Nat.zero_le _⟩) hS (fun H locs hV hS => ?_)
  refine lv_aload_n hx hb dX10_note_4 rfl (lv_at hl 0 rfl) ?_
  refine lv_aload_n hx hb dX10_note_5 rfl (lv_at hl 0 rfl) ?_
  refine lv_iload_n hx hb dX10_note_6 rfl (lv_at hl 1 rfl) ?_
  refine lv_iload_n hx hb dX10_note_7 rfl (lv_at hl 2 rfl) ?_
  obtain ⟨q2, e2, hr⟩ := ob hr
  refine cal_i (run_V (As := [.int x1, .int x2]) (rest := [.ref (b0 + 208)]) C hV hS (c_X10_notes l G b0 q1 x1 x2 q2 e2) (rcv hK hV (kd_lt z_208 (by decide)) (cel_20 z_208) rfl) q_1610 q_1612 q_116 q_151 q_1613 dk_X10_notes (rm_ok (by decide) (by decide)) hl.1 rfl (Nat.le_of_ble_eq_true rfl) dX10_note_8 ⟨Nat.zero_le _, Nat.zero_le _⟩) hS (fun H locs hV hS => ?_)
  obtain ⟨q3, e3, hr⟩ := ob hr
  refine cal_i (run_V (As := [.int q2.1]) (rest := []) C hV hS (c_X10_ends l G b0 q2.2 q2.1 q3 e3) (rcv hK hV (kd_lt z_208 (by decide)) (cel_20 z_208) rfl) q_1515 q_1517 q_101 q_151 q_1518 dk_X10_ends (rm_ok (by decide) (by decide)) hl.1 rfl (Nat.le_of_ble_eq_true rfl) dX10_note_11 ⟨Nat.zero_le _, Nat.zero_le _⟩) hS (fun H locs hV hS => ?_)
  rw [← Option.some.inj hr]
  exact fin_i C hV hS rfl dX10_note_14
set_option maxHeartbeats 4000000 in
set_option maxRecDepth 100000 in
theorem c_X10_drop (l : Launch) (G : LG) (b0 : Nat) (V : St) (x1 : Int32) (res : Int32 × St) (hr : f_X10_drop V x1 = some res) : Met l yX10_drop (wy yX10_drop cX10_drop 2 (some .int)) (rm 2) (va_Pc [.ref (b0 + 208), .int x1] (Iv G b0 V)) (QI G b0 res.1 res.2) 0 0 (Ab b0) := by
  refine mk_m (by decide +kernel) (Nat.le_of_ble_eq_true rfl) ?_
  intro p e s m below meth c C hV hS ls hl
  obtain ⟨args, hargs⟩ : ∃ z, z = ([.ref (b0 + 208), .int x1] : List Value).toArray := ⟨_, rfl⟩
  rw [← hargs] at C ⊢
  obtain ⟨hx, hb, hrt, hml, hown, hts, hlocks, hK, hSv⟩ := id C
  have hl : lv_has ls 2 [(0, .ref (b0 + 208)), (1, .int x1)] := hl
  unfold f_X10_drop at hr
  refine lv_aload_n hx hb dX10_drop_0 rfl (lv_at hl 0 rfl) ?_
  obtain ⟨q1, e1, hr⟩ := ob hr
  refine cal_v (run_V (As := []) (rest := []) C hV hS (c_X10_remembers l G b0 V q1 e1) (rcv hK hV (kd_lt z_208 (by decide)) (cel_20 z_208) rfl) q_1478 q_1480 q_94 q_151 q_1481 dk_X10_remembers (rm_ok (by decide) (by decide)) hl.1 rfl (Nat.le_of_ble_eq_true rfl) dX10_drop_1 ⟨Nat.zero_le _, Nat.zero_le _⟩) hS (fun H locs hV hS => ?_)
  refine lv_aload_n hx hb dX10_drop_4 rfl (lv_at hl 0 rfl) ?_
  refine lv_aload_n hx hb dX10_drop_5 rfl (lv_at hl 0 rfl) ?_
  refine lv_iload_n hx hb dX10_drop_6 rfl (lv_at hl 1 rfl) ?_
  obtain ⟨q2, e2, hr⟩ := ob hr
  refine cal_i (run_V (As := [.int x1]) (rest := [.ref (b0 + 208)]) C hV hS (c_X10_drops l G b0 q1 x1 q2 e2) (rcv hK hV (kd_lt z_208 (by decide)) (cel_20 z_208) rfl) q_1622 q_1624 q_118 q_151 q_1625 dk_X10_drops (rm_ok (by decide) (by decide)) hl.1 rfl (Nat.le_of_ble_eq_true rfl) dX10_drop_7 ⟨Nat.zero_le _, Nat.zero_le _⟩) hS (fun H locs hV hS => ?_)
  obtain ⟨q3, e3, hr⟩ := ob hr
  refine cal_i (run_V (As := [.int q2.1]) (rest := []) C hV hS (c_X10_ends l G b0 q2.2 q2.1 q3 e3) (rcv hK hV (kd_lt z_208 (by decide)) (cel_20 z_208) rfl) q_1515 q_1517 q_101 q_151 q_1518 dk_X10_ends (rm_ok (by decide) (by decide)) hl.1 rfl (Nat.le_of_ble_eq_true rfl) dX10_drop_10 ⟨Nat.zero_le _, Nat.zero_le _⟩) hS (fun H locs hV hS => ?_)
  rw [← Option.some.inj hr]
  exact fin_i C hV hS rfl dX10_drop_13
set_option maxHeartbeats 4000000 in
set_option maxRecDepth 100000 in
theorem c_X10_kindOf (l : Launch) (G : LG) (b0 : Nat) (V : St) (x1 : Int32) (x2 : Int32) (res : Int32 × St) (hr : f_X10_kindOf V x1 x2 = some res) : Met l yX10_kindOf (wy yX10_kindOf cX10_kindOf 3 (some .int)) (rm 2) (va_Pc [.ref (b0 + 208), .int x1, .int x2] (Iv G b0 V)) (QI G b0 res.1 res.2) 0 0 (Ab b0) := by
  refine mk_m (by decide +kernel) (Nat.le_of_ble_eq_true rfl) ?_
  intro p e s m below meth c C hV hS ls hl
  obtain ⟨args, hargs⟩ : ∃ z, z = ([.ref (b0 + 208), .int x1, .int x2] : List Value).toArray := ⟨_, rfl⟩
  rw [← hargs] at C ⊢
  obtain ⟨hx, hb, hrt, hml, hown, hts, hlocks, hK, hSv⟩ := id C
  have hl : lv_has ls 3 [(0, .ref (b0 + 208)), (1, .int x1), (2, .int x2)] := hl
  have K_20 : ∀ (V : St) (x1 : Int32) (x2 : Int32) (y0 : Int32), f_X10_kindOf_b20 V x1 x2 y0 = some res → ∀ (H : Heap) (locs : List Loc) (ls : Array Slot), Hd G b0 V H → va_S (Ab b0) s.heap H locs → lv_has ls 3 [(0, .ref (b0 + 208)), (1, .int x1), (2, .int x2)] → W p l e (rm 2) s m args below meth c H locs 0 0 (MQ below (QI G b0 res.1 res.2) args s 0 0 (Ab b0)) (F0 m 20 ls [.int y0, .ref (b0 + 208)]) := by
    intro V x1 x2 y0 hr H locs ls hV hS hl
    unfold f_X10_kindOf_b20 at hr
    refine p_X10_0 (x := y0) C hV hS q_1391 dX10_kindOf_20 (fun H locs hV hS => ?_)
    refine lv_aload_n hx hb dX10_kindOf_23 rfl (lv_at hl 0 rfl) ?_
    refine g_X10_0 C hV q_1391 dX10_kindOf_24 ?_
    refine lv_if_le (tgt := 34) hx hb dX10_kindOf_27 (by decide) (fun b_1 => ?_) (fun b_1 => ?_)
    · have hr := it b_1 hr
      refine lv_aload_n hx hb dX10_kindOf_34 rfl (lv_at hl 0 rfl) ?_
      refine lv_iload_n hx hb dX10_kindOf_35 rfl (lv_at hl 1 rfl) ?_
      refine lv_iload_n hx hb dX10_kindOf_36 rfl (lv_at hl 2 rfl) ?_
      obtain ⟨q2, e2, hr⟩ := ob hr
      refine cal_i (run_V (As := [.int x1, .int x2]) (rest := []) C hV hS (c_X10_kind l G b0 (up V 208 0 y0) x1 x2 q2 e2) (rcv hK hV (kd_lt z_208 (by decide)) (cel_20 z_208) rfl) q_1499 q_1501 q_97 q_151 q_1502 dk_X10_kind (rm_ok (by decide) (by decide)) hl.1 rfl (Nat.le_of_ble_eq_true rfl) dX10_kindOf_37 ⟨Nat.zero_le _, Nat.zero_le _⟩) hS (fun H locs hV hS => ?_)
      rw [← Option.some.inj hr]
      exact fin_i C hV hS rfl dX10_kindOf_40
    · have hr := ie b_1 hr
      refine lv_iconst (v := 0) hx hb dX10_kindOf_30 (by decide) ?_
      refine lv_goto (tgt := 40) hx hb dX10_kindOf_31 (by decide) ?_
      rw [← Option.some.inj hr]
      exact fin_i C hV hS rfl dX10_kindOf_40
  have K_19 : ∀ (V : St) (x1 : Int32) (x2 : Int32), f_X10_kindOf_b19 V x1 x2 = some res → ∀ (H : Heap) (locs : List Loc) (ls : Array Slot), Hd G b0 V H → va_S (Ab b0) s.heap H locs → lv_has ls 3 [(0, .ref (b0 + 208)), (1, .int x1), (2, .int x2)] → W p l e (rm 2) s m args below meth c H locs 0 0 (MQ below (QI G b0 res.1 res.2) args s 0 0 (Ab b0)) (F0 m 19 ls [.ref (b0 + 208)]) := by
    intro V x1 x2 hr H locs ls hV hS hl
    unfold f_X10_kindOf_b19 at hr
    refine lv_iconst (v := 1) hx hb dX10_kindOf_19 (by decide) ?_
    exact K_20 _ x1 x2 1 hr _ _ ls hV hS (lv_sub hl [0, 1, 2] rfl)
  unfold f_X10_kindOf at hr
  refine lv_aload_n hx hb dX10_kindOf_0 rfl (lv_at hl 0 rfl) ?_
  refine lv_iload_n hx hb dX10_kindOf_1 rfl (lv_at hl 1 rfl) ?_
  obtain ⟨q3, e3, hr⟩ := ob hr
  refine cal_i (run_S (As := [.int x1]) (rest := [.ref (b0 + 208)]) C hV hS (c_X10_isNet l G b0 V x1 q3 e3) q_1486 q_1487 q_151 q_1488 dk_X10_isNet (rm_ok (by decide) (by decide)) hl.1 rfl (Nat.le_of_ble_eq_true rfl) dX10_kindOf_2 ⟨Nat.zero_le _, Nat.zero_le _⟩) hS (fun H locs hV hS => ?_)
  refine lv_if_eq (tgt := 19) hx hb dX10_kindOf_5 (by decide) (fun b_4 => ?_) (fun b_4 => ?_)
  · have hr := it b_4 hr
    exact K_19 _ x1 x2 hr _ _ ls hV hS (lv_sub hl [0, 1, 2] rfl)
  · have hr := ie b_4 hr
    refine lv_iload_n hx hb dX10_kindOf_8 rfl (lv_at hl 2 rfl) ?_
    obtain ⟨q5, e5, hr⟩ := ob hr
    refine cal_i (run_S (As := [.int x2]) (rest := [.ref (b0 + 208)]) C hV hS (c_X10_isPlace l G b0 V x2 q5 e5) q_1496 q_1497 q_151 q_1498 dk_X10_isPlace (rm_ok (by decide) (by decide)) hl.1 rfl (Nat.le_of_ble_eq_true rfl) dX10_kindOf_9 ⟨Nat.zero_le _, Nat.zero_le _⟩) hS (fun H locs hV hS => ?_)
    refine lv_if_eq (tgt := 19) hx hb dX10_kindOf_12 (by decide) (fun b_6 => ?_) (fun b_6 => ?_)
    · have hr := it b_6 hr
      exact K_19 _ x1 x2 hr _ _ ls hV hS (lv_sub hl [0, 1, 2] rfl)
    · have hr := ie b_6 hr
      refine lv_iconst (v := 0) hx hb dX10_kindOf_15 (by decide) ?_
      refine lv_goto (tgt := 20) hx hb dX10_kindOf_16 (by decide) ?_
      exact K_20 _ x1 x2 0 hr _ _ ls hV hS (lv_sub hl [0, 1, 2] rfl)
