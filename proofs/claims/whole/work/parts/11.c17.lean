set_option maxHeartbeats 4000000 in
set_option maxRecDepth 100000 in
theorem c_X10_readsOne (l : Launch) (G : LG) (b0 : Nat) (V : St) (res : St) (hr : f_X10_readsOne V = some res) : Met l yX10_readsOne (wy yX10_readsOne cX10_readsOne 3 none) (rm 7) (va_Pc [.ref (b0 + 208)] (Iv G b0 V)) (QV G b0 res) 0 0 (Ab b0) := by
  refine mk_m (by decide +kernel) (Nat.le_of_ble_eq_true rfl) ?_
  intro p e s m below meth c C hV hS ls hl
  obtain ⟨args, hargs⟩ : ∃ z, z = ([.ref (b0 + 208)] : List Value).toArray := ⟨_, rfl⟩
  rw [← hargs] at C ⊢
  obtain ⟨hx, hb, hrt, hml, hown, hts, hlocks, hK, hSv⟩ := id C
  have hl : lv_has ls 3 [(0, .ref (b0 + 208))] := hl
  have K_283 : ∀ (V : St), f_X10_readsOne_b283 V = some res → ∀ (H : Heap) (locs : List Loc) (ls : Array Slot), Hd G b0 V H → va_S (Ab b0) s.heap H locs → lv_has ls 3 [(0, .ref (b0 + 208))] → W p l e (rm 7) s m args below meth c H locs 0 0 (MQ below (QV G b0 res) args s 0 0 (Ab b0)) (F0 m 283 ls []) := by
    intro V hr H locs ls hV hS hl
    unfold f_X10_readsOne_b283 at hr
    refine lv_aload_n hx hb dX10_readsOne_283 rfl (lv_at hl 0 rfl) ?_
    refine lv_dup hx hb dX10_readsOne_284 rfl ?_
    refine g_X10_24 C hV q_1415 dX10_readsOne_285 ?_
    refine lv_iconst (v := 1) hx hb dX10_readsOne_288 (by decide) ?_
    refine lv_iadd hx hb dX10_readsOne_289 ?_
    refine p_X10_24 (x := ((V 208 24) + 1)) C hV hS q_1415 dX10_readsOne_290 (fun H locs hV hS => ?_)
    exact fin_v C hV hS (Option.some.inj hr) dX10_readsOne_293
  have K_59 : ∀ (V : St) (x1 : Int32) (y0 : Int32), f_X10_readsOne_b59 V x1 y0 = some res → ∀ (H : Heap) (locs : List Loc) (ls : Array Slot), Hd G b0 V H → va_S (Ab b0) s.heap H locs → lv_has ls 3 [(0, .ref (b0 + 208)), (1, .int x1)] → W p l e (rm 7) s m args below meth c H locs 0 0 (MQ below (QV G b0 res) args s 0 0 (Ab b0)) (F0 m 59 ls [.int y0]) := by
    intro V x1 y0 hr H locs ls hV hS hl
    unfold f_X10_readsOne_b59 at hr
    by_cases b_1 : y0 = 100
    · have hr := it b_1 hr
      refine lv_tableIn (off := 208) (tgt := 267) hx hb dX10_readsOne_59 (by rw [b_1]; decide) (by rw [b_1]; decide) (by rw [b_1]; decide +kernel) (by decide) ?_
      refine lv_aload_n hx hb dX10_readsOne_267 rfl (lv_at hl 0 rfl) ?_
      refine va_ldcwS hx hb hown (st_49 hK) dX10_readsOne_268 ?_
      refine lv_iconst (v := 1) hx hb dX10_readsOne_271 (by decide) ?_
      obtain ⟨q2, e2, hr⟩ := ob hr
      refine cal_v (run_V (As := [.ref (G.2.2 49), .int 1]) (rest := []) C hV hS (c_X10_one l G b0 V 49 1 q2 e2) (rcv hK hV (kd_lt z_208 (by decide)) (cel_20 z_208) rfl) q_1750 q_1752 q_133 q_151 q_1753 dk_X10_one (rm_ok (by decide) (by decide)) hl.1 rfl (Nat.le_of_ble_eq_true rfl) dX10_readsOne_272 ⟨Nat.zero_le _, Nat.zero_le _⟩) hS (fun H locs hV hS => ?_)
      refine lv_goto (tgt := 283) hx hb dX10_readsOne_275 (by decide) ?_
      exact K_283 _ hr _ _ ls hV hS (lv_sub hl [0] rfl)
    have hr := ie b_1 hr
    by_cases b_3 : y0 = 101
    · have hr := it b_3 hr
      refine lv_tableIn (off := 147) (tgt := 206) hx hb dX10_readsOne_59 (by rw [b_3]; decide) (by rw [b_3]; decide) (by rw [b_3]; decide +kernel) (by decide) ?_
      refine lv_aload_n hx hb dX10_readsOne_206 rfl (lv_at hl 0 rfl) ?_
      refine va_ldcS hx hb hown (st_45 hK) dX10_readsOne_207 ?_
      refine lv_iconst (v := 2) hx hb dX10_readsOne_209 (by decide) ?_
      obtain ⟨q4, e4, hr⟩ := ob hr
      refine cal_v (run_V (As := [.ref (G.2.2 45), .int 2]) (rest := []) C hV hS (c_X10_one l G b0 V 45 2 q4 e4) (rcv hK hV (kd_lt z_208 (by decide)) (cel_20 z_208) rfl) q_1750 q_1752 q_133 q_151 q_1753 dk_X10_one (rm_ok (by decide) (by decide)) hl.1 rfl (Nat.le_of_ble_eq_true rfl) dX10_readsOne_210 ⟨Nat.zero_le _, Nat.zero_le _⟩) hS (fun H locs hV hS => ?_)
      refine lv_goto (tgt := 283) hx hb dX10_readsOne_213 (by decide) ?_
      exact K_283 _ hr _ _ ls hV hS (lv_sub hl [0] rfl)
    have hr := ie b_3 hr
    by_cases b_5 : y0 = 102
    · have hr := it b_5 hr
      refine lv_tableIn (off := 219) (tgt := 278) hx hb dX10_readsOne_59 (by rw [b_5]; decide) (by rw [b_5]; decide) (by rw [b_5]; decide +kernel) (by decide) ?_
      refine lv_aload_n hx hb dX10_readsOne_278 rfl (lv_at hl 0 rfl) ?_
      refine lv_iconst (v := 1) hx hb dX10_readsOne_279 (by decide) ?_
      refine p_X10_25 (x := 1) C hV hS q_1416 (by decide) dX10_readsOne_280 (fun H locs hV hS => ?_)
      exact K_283 _ hr _ _ ls hV hS (lv_sub hl [0] rfl)
    have hr := ie b_5 hr
    by_cases b_6 : y0 = 103
    · have hr := it b_6 hr
      refine lv_tableIn (off := 219) (tgt := 278) hx hb dX10_readsOne_59 (by rw [b_6]; decide) (by rw [b_6]; decide) (by rw [b_6]; decide +kernel) (by decide) ?_
      refine lv_aload_n hx hb dX10_readsOne_278 rfl (lv_at hl 0 rfl) ?_
      refine lv_iconst (v := 1) hx hb dX10_readsOne_279 (by decide) ?_
      refine p_X10_25 (x := 1) C hV hS q_1416 (by decide) dX10_readsOne_280 (fun H locs hV hS => ?_)
      exact K_283 _ hr _ _ ls hV hS (lv_sub hl [0] rfl)
    have hr := ie b_6 hr
    by_cases b_7 : y0 = 104
    · have hr := it b_7 hr
      refine lv_tableIn (off := 219) (tgt := 278) hx hb dX10_readsOne_59 (by rw [b_7]; decide) (by rw [b_7]; decide) (by rw [b_7]; decide +kernel) (by decide) ?_
      refine lv_aload_n hx hb dX10_readsOne_278 rfl (lv_at hl 0 rfl) ?_
      refine lv_iconst (v := 1) hx hb dX10_readsOne_279 (by decide) ?_
      refine p_X10_25 (x := 1) C hV hS q_1416 (by decide) dX10_readsOne_280 (fun H locs hV hS => ?_)
      exact K_283 _ hr _ _ ls hV hS (lv_sub hl [0] rfl)
    have hr := ie b_7 hr
    by_cases b_8 : y0 = 105
    · have hr := it b_8 hr
      refine lv_tableIn (off := 219) (tgt := 278) hx hb dX10_readsOne_59 (by rw [b_8]; decide) (by rw [b_8]; decide) (by rw [b_8]; decide +kernel) (by decide) ?_
      refine lv_aload_n hx hb dX10_readsOne_278 rfl (lv_at hl 0 rfl) ?_
      refine lv_iconst (v := 1) hx hb dX10_readsOne_279 (by decide) ?_
      refine p_X10_25 (x := 1) C hV hS q_1416 (by decide) dX10_readsOne_280 (fun H locs hV hS => ?_)
      exact K_283 _ hr _ _ ls hV hS (lv_sub hl [0] rfl)
    have hr := ie b_8 hr
    by_cases b_9 : y0 = 106
    · have hr := it b_9 hr
      refine lv_tableIn (off := 219) (tgt := 278) hx hb dX10_readsOne_59 (by rw [b_9]; decide) (by rw [b_9]; decide) (by rw [b_9]; decide +kernel) (by decide) ?_
      refine lv_aload_n hx hb dX10_readsOne_278 rfl (lv_at hl 0 rfl) ?_
      refine lv_iconst (v := 1) hx hb dX10_readsOne_279 (by decide) ?_
      refine p_X10_25 (x := 1) C hV hS q_1416 (by decide) dX10_readsOne_280 (fun H locs hV hS => ?_)
      exact K_283 _ hr _ _ ls hV hS (lv_sub hl [0] rfl)
    have hr := ie b_9 hr
    by_cases b_10 : y0 = 107
    · have hr := it b_10 hr
      refine lv_tableIn (off := 93) (tgt := 152) hx hb dX10_readsOne_59 (by rw [b_10]; decide) (by rw [b_10]; decide) (by rw [b_10]; decide +kernel) (by decide) ?_
      refine lv_aload_n hx hb dX10_readsOne_152 rfl (lv_at hl 0 rfl) ?_
      refine va_ldcS hx hb hown (st_38 hK) dX10_readsOne_153 ?_
      refine va_ldcS hx hb hown (st_39 hK) dX10_readsOne_155 ?_
      refine lv_iconst (v := 2) hx hb dX10_readsOne_157 (by decide) ?_
      obtain ⟨q11, e11, hr⟩ := ob hr
      refine cal_v (run_V (As := [.ref (G.2.2 38), .ref (G.2.2 39), .int 2]) (rest := []) C hV hS (c_X10_two l G b0 V 38 39 2 q11 e11) (rcv hK hV (kd_lt z_208 (by decide)) (cel_20 z_208) rfl) q_1726 q_1728 q_129 q_151 q_1729 dk_X10_two (rm_ok (by decide) (by decide)) hl.1 rfl (Nat.le_of_ble_eq_true rfl) dX10_readsOne_158 ⟨Nat.zero_le _, Nat.zero_le _⟩) hS (fun H locs hV hS => ?_)
      refine lv_aload_n hx hb dX10_readsOne_161 rfl (lv_at hl 0 rfl) ?_
      refine va_ldcS hx hb hown (st_40 hK) dX10_readsOne_162 ?_
      obtain ⟨q12, e12, hr⟩ := ob hr
      refine cal_v (run_V (As := [.ref (G.2.2 40)]) (rest := []) C hV hS (c_X10_says l G b0 q11 40 q12 e12) (rcv hK hV (kd_lt z_208 (by decide)) (cel_20 z_208) rfl) q_1730 q_1732 q_130 q_151 q_1733 dk_X10_says (rm_ok (by decide) (by decide)) hl.1 rfl (Nat.le_of_ble_eq_true rfl) dX10_readsOne_164 ⟨Nat.zero_le _, Nat.zero_le _⟩) hS (fun H locs hV hS => ?_)
      refine lv_aload_n hx hb dX10_readsOne_167 rfl (lv_at hl 0 rfl) ?_
      refine lv_iconst (v := 3) hx hb dX10_readsOne_168 (by decide) ?_
      refine lv_iconst (v := 1) hx hb dX10_readsOne_169 (by decide) ?_
      obtain ⟨q13, e13, hr⟩ := ob hr
      refine cal_v (run_V (As := [.int 3, .int 1]) (rest := []) C hV hS (c_X10_figure l G b0 q12 3 1 q13 e13) (rcv hK hV (kd_lt z_208 (by decide)) (cel_20 z_208) rfl) q_1736 q_1738 q_131 q_151 q_1739 dk_X10_figure (rm_ok (by decide) (by decide)) hl.1 rfl (Nat.le_of_ble_eq_true rfl) dX10_readsOne_170 ⟨Nat.zero_le _, Nat.zero_le _⟩) hS (fun H locs hV hS => ?_)
      refine lv_goto (tgt := 283) hx hb dX10_readsOne_173 (by decide) ?_
      exact K_283 _ hr _ _ ls hV hS (lv_sub hl [0] rfl)
    have hr := ie b_10 hr
    by_cases b_14 : y0 = 108
    · have hr := it b_14 hr
      refine lv_tableIn (off := 219) (tgt := 278) hx hb dX10_readsOne_59 (by rw [b_14]; decide) (by rw [b_14]; decide) (by rw [b_14]; decide +kernel) (by decide) ?_
      refine lv_aload_n hx hb dX10_readsOne_278 rfl (lv_at hl 0 rfl) ?_
      refine lv_iconst (v := 1) hx hb dX10_readsOne_279 (by decide) ?_
      refine p_X10_25 (x := 1) C hV hS q_1416 (by decide) dX10_readsOne_280 (fun H locs hV hS => ?_)
      exact K_283 _ hr _ _ ls hV hS (lv_sub hl [0] rfl)
    have hr := ie b_14 hr
    by_cases b_15 : y0 = 109
    · have hr := it b_15 hr
      refine lv_tableIn (off := 126) (tgt := 185) hx hb dX10_readsOne_59 (by rw [b_15]; decide) (by rw [b_15]; decide) (by rw [b_15]; decide +kernel) (by decide) ?_
      refine lv_aload_n hx hb dX10_readsOne_185 rfl (lv_at hl 0 rfl) ?_
      refine va_ldcS hx hb hown (st_43 hK) dX10_readsOne_186 ?_
      obtain ⟨q16, e16, hr⟩ := ob hr
      refine cal_v (run_V (As := [.ref (G.2.2 43)]) (rest := []) C hV hS (c_X10_string l G b0 V 43 q16 e16) (rcv hK hV (kd_lt z_208 (by decide)) (cel_20 z_208) rfl) q_1742 q_1744 q_132 q_151 q_1745 dk_X10_string (rm_ok (by decide) (by decide)) hl.1 rfl (Nat.le_of_ble_eq_true rfl) dX10_readsOne_188 ⟨Nat.zero_le _, Nat.zero_le _⟩) hS (fun H locs hV hS => ?_)
      refine lv_aload_n hx hb dX10_readsOne_191 rfl (lv_at hl 0 rfl) ?_
      refine va_ldcS hx hb hown (st_44 hK) dX10_readsOne_192 ?_
      obtain ⟨q17, e17, hr⟩ := ob hr
      refine cal_v (run_V (As := [.ref (G.2.2 44)]) (rest := []) C hV hS (c_X10_says l G b0 q16 44 q17 e17) (rcv hK hV (kd_lt z_208 (by decide)) (cel_20 z_208) rfl) q_1730 q_1732 q_130 q_151 q_1733 dk_X10_says (rm_ok (by decide) (by decide)) hl.1 rfl (Nat.le_of_ble_eq_true rfl) dX10_readsOne_194 ⟨Nat.zero_le _, Nat.zero_le _⟩) hS (fun H locs hV hS => ?_)
      refine lv_aload_n hx hb dX10_readsOne_197 rfl (lv_at hl 0 rfl) ?_
      refine lv_iconst (v := 4) hx hb dX10_readsOne_198 (by decide) ?_
      refine lv_iconst (v := 1) hx hb dX10_readsOne_199 (by decide) ?_
      obtain ⟨q18, e18, hr⟩ := ob hr
      refine cal_v (run_V (As := [.int 4, .int 1]) (rest := []) C hV hS (c_X10_figure l G b0 q17 4 1 q18 e18) (rcv hK hV (kd_lt z_208 (by decide)) (cel_20 z_208) rfl) q_1736 q_1738 q_131 q_151 q_1739 dk_X10_figure (rm_ok (by decide) (by decide)) hl.1 rfl (Nat.le_of_ble_eq_true rfl) dX10_readsOne_200 ⟨Nat.zero_le _, Nat.zero_le _⟩) hS (fun H locs hV hS => ?_)
      refine lv_goto (tgt := 283) hx hb dX10_readsOne_203 (by decide) ?_
      exact K_283 _ hr _ _ ls hV hS (lv_sub hl [0] rfl)
    have hr := ie b_15 hr
    by_cases b_19 : y0 = 110
    · have hr := it b_19 hr
      refine lv_tableIn (off := 195) (tgt := 254) hx hb dX10_readsOne_59 (by rw [b_19]; decide) (by rw [b_19]; decide) (by rw [b_19]; decide +kernel) (by decide) ?_
      refine lv_aload_n hx hb dX10_readsOne_254 rfl (lv_at hl 0 rfl) ?_
      refine va_ldcwS hx hb hown (st_48 hK) dX10_readsOne_255 ?_
      refine va_ldcS hx hb hown (st_39 hK) dX10_readsOne_258 ?_
      refine lv_iconst (v := 2) hx hb dX10_readsOne_260 (by decide) ?_
      obtain ⟨q20, e20, hr⟩ := ob hr
      refine cal_v (run_V (As := [.ref (G.2.2 48), .ref (G.2.2 39), .int 2]) (rest := []) C hV hS (c_X10_two l G b0 V 48 39 2 q20 e20) (rcv hK hV (kd_lt z_208 (by decide)) (cel_20 z_208) rfl) q_1726 q_1728 q_129 q_151 q_1729 dk_X10_two (rm_ok (by decide) (by decide)) hl.1 rfl (Nat.le_of_ble_eq_true rfl) dX10_readsOne_261 ⟨Nat.zero_le _, Nat.zero_le _⟩) hS (fun H locs hV hS => ?_)
      refine lv_goto (tgt := 283) hx hb dX10_readsOne_264 (by decide) ?_
      exact K_283 _ hr _ _ ls hV hS (lv_sub hl [0] rfl)
    have hr := ie b_19 hr
    by_cases b_21 : y0 = 111
    · have hr := it b_21 hr
      refine lv_tableIn (off := 219) (tgt := 278) hx hb dX10_readsOne_59 (by rw [b_21]; decide) (by rw [b_21]; decide) (by rw [b_21]; decide +kernel) (by decide) ?_
      refine lv_aload_n hx hb dX10_readsOne_278 rfl (lv_at hl 0 rfl) ?_
      refine lv_iconst (v := 1) hx hb dX10_readsOne_279 (by decide) ?_
      refine p_X10_25 (x := 1) C hV hS q_1416 (by decide) dX10_readsOne_280 (fun H locs hV hS => ?_)
      exact K_283 _ hr _ _ ls hV hS (lv_sub hl [0] rfl)
    have hr := ie b_21 hr
    by_cases b_22 : y0 = 112
    · have hr := it b_22 hr
      refine lv_tableIn (off := 219) (tgt := 278) hx hb dX10_readsOne_59 (by rw [b_22]; decide) (by rw [b_22]; decide) (by rw [b_22]; decide +kernel) (by decide) ?_
      refine lv_aload_n hx hb dX10_readsOne_278 rfl (lv_at hl 0 rfl) ?_
      refine lv_iconst (v := 1) hx hb dX10_readsOne_279 (by decide) ?_
      refine p_X10_25 (x := 1) C hV hS q_1416 (by decide) dX10_readsOne_280 (fun H locs hV hS => ?_)
      exact K_283 _ hr _ _ ls hV hS (lv_sub hl [0] rfl)
    have hr := ie b_22 hr
    by_cases b_23 : y0 = 113
    · have hr := it b_23 hr
      refine lv_tableIn (off := 219) (tgt := 278) hx hb dX10_readsOne_59 (by rw [b_23]; decide) (by rw [b_23]; decide) (by rw [b_23]; decide +kernel) (by decide) ?_
      refine lv_aload_n hx hb dX10_readsOne_278 rfl (lv_at hl 0 rfl) ?_
      refine lv_iconst (v := 1) hx hb dX10_readsOne_279 (by decide) ?_
      refine p_X10_25 (x := 1) C hV hS q_1416 (by decide) dX10_readsOne_280 (fun H locs hV hS => ?_)
      exact K_283 _ hr _ _ ls hV hS (lv_sub hl [0] rfl)
    have hr := ie b_23 hr
    by_cases b_24 : y0 = 114
    · have hr := it b_24 hr
      refine lv_tableIn (off := 219) (tgt := 278) hx hb dX10_readsOne_59 (by rw [b_24]; decide) (by rw [b_24]; decide) (by rw [b_24]; decide +kernel) (by decide) ?_
      refine lv_aload_n hx hb dX10_readsOne_278 rfl (lv_at hl 0 rfl) ?_
      refine lv_iconst (v := 1) hx hb dX10_readsOne_279 (by decide) ?_
      refine p_X10_25 (x := 1) C hV hS q_1416 (by decide) dX10_readsOne_280 (fun H locs hV hS => ?_)
      exact K_283 _ hr _ _ ls hV hS (lv_sub hl [0] rfl)
    have hr := ie b_24 hr
    by_cases b_25 : y0 = 115
    · have hr := it b_25 hr
      refine lv_tableIn (off := 182) (tgt := 241) hx hb dX10_readsOne_59 (by rw [b_25]; decide) (by rw [b_25]; decide) (by rw [b_25]; decide +kernel) (by decide) ?_
      refine lv_aload_n hx hb dX10_readsOne_241 rfl (lv_at hl 0 rfl) ?_
      refine va_ldcwS hx hb hown (st_47 hK) dX10_readsOne_242 ?_
      refine va_ldcS hx hb hown (st_40 hK) dX10_readsOne_245 ?_
      refine lv_iconst (v := 1) hx hb dX10_readsOne_247 (by decide) ?_
      obtain ⟨q26, e26, hr⟩ := ob hr
      refine cal_v (run_V (As := [.ref (G.2.2 47), .ref (G.2.2 40), .int 1]) (rest := []) C hV hS (c_X10_two l G b0 V 47 40 1 q26 e26) (rcv hK hV (kd_lt z_208 (by decide)) (cel_20 z_208) rfl) q_1726 q_1728 q_129 q_151 q_1729 dk_X10_two (rm_ok (by decide) (by decide)) hl.1 rfl (Nat.le_of_ble_eq_true rfl) dX10_readsOne_248 ⟨Nat.zero_le _, Nat.zero_le _⟩) hS (fun H locs hV hS => ?_)
      refine lv_goto (tgt := 283) hx hb dX10_readsOne_251 (by decide) ?_
      exact K_283 _ hr _ _ ls hV hS (lv_sub hl [0] rfl)
    have hr := ie b_25 hr
    by_cases b_27 : y0 = 116
    · have hr := it b_27 hr
      refine lv_tableIn (off := 117) (tgt := 176) hx hb dX10_readsOne_59 (by rw [b_27]; decide) (by rw [b_27]; decide) (by rw [b_27]; decide +kernel) (by decide) ?_
      refine lv_aload_n hx hb dX10_readsOne_176 rfl (lv_at hl 0 rfl) ?_
      refine va_ldcS hx hb hown (st_41 hK) dX10_readsOne_177 ?_
      obtain ⟨q28, e28, hr⟩ := ob hr
      refine cal_v (run_V (As := [.ref (G.2.2 41)]) (rest := []) C hV hS (c_X10_string l G b0 V 41 q28 e28) (rcv hK hV (kd_lt z_208 (by decide)) (cel_20 z_208) rfl) q_1742 q_1744 q_132 q_151 q_1745 dk_X10_string (rm_ok (by decide) (by decide)) hl.1 rfl (Nat.le_of_ble_eq_true rfl) dX10_readsOne_179 ⟨Nat.zero_le _, Nat.zero_le _⟩) hS (fun H locs hV hS => ?_)
      refine lv_goto (tgt := 283) hx hb dX10_readsOne_182 (by decide) ?_
      exact K_283 _ hr _ _ ls hV hS (lv_sub hl [0] rfl)
    have hr := ie b_27 hr
    by_cases b_29 : y0 = 117
    · have hr := it b_29 hr
      refine lv_tableIn (off := 219) (tgt := 278) hx hb dX10_readsOne_59 (by rw [b_29]; decide) (by rw [b_29]; decide) (by rw [b_29]; decide +kernel) (by decide) ?_
      refine lv_aload_n hx hb dX10_readsOne_278 rfl (lv_at hl 0 rfl) ?_
      refine lv_iconst (v := 1) hx hb dX10_readsOne_279 (by decide) ?_
      refine p_X10_25 (x := 1) C hV hS q_1416 (by decide) dX10_readsOne_280 (fun H locs hV hS => ?_)
      exact K_283 _ hr _ _ ls hV hS (lv_sub hl [0] rfl)
    have hr := ie b_29 hr
    by_cases b_30 : y0 = 118
    · have hr := it b_30 hr
      refine lv_tableIn (off := 219) (tgt := 278) hx hb dX10_readsOne_59 (by rw [b_30]; decide) (by rw [b_30]; decide) (by rw [b_30]; decide +kernel) (by decide) ?_
      refine lv_aload_n hx hb dX10_readsOne_278 rfl (lv_at hl 0 rfl) ?_
      refine lv_iconst (v := 1) hx hb dX10_readsOne_279 (by decide) ?_
      refine p_X10_25 (x := 1) C hV hS q_1416 (by decide) dX10_readsOne_280 (fun H locs hV hS => ?_)
      exact K_283 _ hr _ _ ls hV hS (lv_sub hl [0] rfl)
    have hr := ie b_30 hr
    by_cases b_31 : y0 = 119
    · have hr := it b_31 hr
      refine lv_tableIn (off := 157) (tgt := 216) hx hb dX10_readsOne_59 (by rw [b_31]; decide) (by rw [b_31]; decide) (by rw [b_31]; decide +kernel) (by decide) ?_
      refine lv_iload_n hx hb dX10_readsOne_216 rfl (lv_at hl 1 rfl) ?_
      refine lv_bipush (v := 119) hx hb dX10_readsOne_217 (by decide) ?_
      refine lv_icmp_ne (tgt := 230) hx hb dX10_readsOne_219 (by decide) (fun b_32 => ?_) (fun b_32 => ?_)
      · have hr := ie b_32 hr
        refine lv_aload_n hx hb dX10_readsOne_230 rfl (lv_at hl 0 rfl) ?_
        refine va_ldcwS hx hb hown (st_46 hK) dX10_readsOne_231 ?_
        refine lv_iconst (v := 1) hx hb dX10_readsOne_234 (by decide) ?_
        obtain ⟨q33, e33, hr⟩ := ob hr
        refine cal_v (run_V (As := [.ref (G.2.2 46), .int 1]) (rest := []) C hV hS (c_X10_one l G b0 V 46 1 q33 e33) (rcv hK hV (kd_lt z_208 (by decide)) (cel_20 z_208) rfl) q_1750 q_1752 q_133 q_151 q_1753 dk_X10_one (rm_ok (by decide) (by decide)) hl.1 rfl (Nat.le_of_ble_eq_true rfl) dX10_readsOne_235 ⟨Nat.zero_le _, Nat.zero_le _⟩) hS (fun H locs hV hS => ?_)
        refine lv_goto (tgt := 283) hx hb dX10_readsOne_238 (by decide) ?_
        exact K_283 _ hr _ _ ls hV hS (lv_sub hl [0] rfl)
      · have hr := it b_32 hr
        refine lv_aload_n hx hb dX10_readsOne_222 rfl (lv_at hl 0 rfl) ?_
        refine lv_iconst (v := 1) hx hb dX10_readsOne_223 (by decide) ?_
        refine p_X10_25 (x := 1) C hV hS q_1416 (by decide) dX10_readsOne_224 (fun H locs hV hS => ?_)
        refine lv_goto (tgt := 283) hx hb dX10_readsOne_227 (by decide) ?_
        exact K_283 _ hr _ _ ls hV hS (lv_sub hl [0] rfl)
    have hr := ie b_31 hr
    have n_1 := lv_neT (a := 100) b_1 (by decide)
    have n_3 := lv_neT (a := 101) b_3 (by decide)
    have n_5 := lv_neT (a := 102) b_5 (by decide)
    have n_6 := lv_neT (a := 103) b_6 (by decide)
    have n_7 := lv_neT (a := 104) b_7 (by decide)
    have n_8 := lv_neT (a := 105) b_8 (by decide)
    have n_9 := lv_neT (a := 106) b_9 (by decide)
    have n_10 := lv_neT (a := 107) b_10 (by decide)
    have n_14 := lv_neT (a := 108) b_14 (by decide)
    have n_15 := lv_neT (a := 109) b_15 (by decide)
    have n_19 := lv_neT (a := 110) b_19 (by decide)
    have n_21 := lv_neT (a := 111) b_21 (by decide)
    have n_22 := lv_neT (a := 112) b_22 (by decide)
    have n_23 := lv_neT (a := 113) b_23 (by decide)
    have n_24 := lv_neT (a := 114) b_24 (by decide)
    have n_25 := lv_neT (a := 115) b_25 (by decide)
    have n_27 := lv_neT (a := 116) b_27 (by decide)
    have n_29 := lv_neT (a := 117) b_29 (by decide)
    have n_30 := lv_neT (a := 118) b_30 (by decide)
    have n_31 := lv_neT (a := 119) b_31 (by decide)
    refine lv_tableOut (tgt := 278) hx hb dX10_readsOne_59 (by omega) (by decide) ?_
    refine lv_aload_n hx hb dX10_readsOne_278 rfl (lv_at hl 0 rfl) ?_
    refine lv_iconst (v := 1) hx hb dX10_readsOne_279 (by decide) ?_
    refine p_X10_25 (x := 1) C hV hS q_1416 (by decide) dX10_readsOne_280 (fun H locs hV hS => ?_)
    exact K_283 _ hr _ _ ls hV hS (lv_sub hl [0] rfl)
  have K_48 : ∀ (V : St) (x1 : Int32) (x2 : Int32) (y0 : Int32) (y1 : Int32), f_X10_readsOne_b48 V x1 x2 y0 y1 = some res → ∀ (H : Heap) (locs : List Loc) (ls : Array Slot), Hd G b0 V H → va_S (Ab b0) s.heap H locs → lv_has ls 3 [(0, .ref (b0 + 208)), (1, .int x1), (2, .int x2)] → W p l e (rm 7) s m args below meth c H locs 0 0 (MQ below (QV G b0 res) args s 0 0 (Ab b0)) (F0 m 48 ls [.int y0, .int y1, .ref (b0 + 214)]) := by
    intro V x1 x2 y0 y1 hr H locs ls hV hS hl
    unfold f_X10_readsOne_b48 at hr
    obtain ⟨j34, e34, hr⟩ := ob hr
    refine s_26 (k := 214) (i := y1) (j := j34) (x := y0) C hV hS z_214 e34 dX10_readsOne_48 (fun H locs hV hS => ?_)
    refine lv_iload_n hx hb dX10_readsOne_49 rfl (lv_at hl 2 rfl) ?_
    refine lv_if_eq (tgt := 58) hx hb dX10_readsOne_50 (by decide) (fun b_35 => ?_) (fun b_35 => ?_)
    · have hr := it b_35 hr
      refine lv_iload_n hx hb dX10_readsOne_58 rfl (lv_at hl 1 rfl) ?_
      exact K_59 _ x1 x1 hr _ _ ls hV hS (lv_sub hl [0, 1] rfl)
    · have hr := ie b_35 hr
      refine lv_bipush (v := 119) hx hb dX10_readsOne_53 (by decide) ?_
      refine lv_goto (tgt := 59) hx hb dX10_readsOne_55 (by decide) ?_
      exact K_59 _ x1 119 hr _ _ ls hV hS (lv_sub hl [0, 1] rfl)
  have K_27 : ∀ (V : St) (x1 : Int32) (y0 : Int32), f_X10_readsOne_b27 V x1 y0 = some res → ∀ (H : Heap) (locs : List Loc) (ls : Array Slot), Hd G b0 V H → va_S (Ab b0) s.heap H locs → lv_has ls 3 [(0, .ref (b0 + 208)), (1, .int x1)] → W p l e (rm 7) s m args below meth c H locs 0 0 (MQ below (QV G b0 res) args s 0 0 (Ab b0)) (F0 m 27 ls [.int y0]) := by
    intro V x1 y0 hr H locs ls hV hS hl
    unfold f_X10_readsOne_b27 at hr
    refine lv_istore_n (lv' := [(2, .int y0), (0, .ref (b0 + 208)), (1, .int x1)]) hx hb dX10_readsOne_27 rfl hl (by decide) rfl (fun ls hl => ?_)
    refine lv_aload_n hx hb dX10_readsOne_28 rfl (lv_at hl 1 rfl) ?_
    refine g_X10_8 C hV q_1399 dX10_readsOne_29 ?_
    refine lv_iconst (v := 5) hx hb dX10_readsOne_32 (by decide) ?_
    refine lv_aload_n hx hb dX10_readsOne_33 rfl (lv_at hl 1 rfl) ?_
    refine g_X10_24 C hV q_1415 dX10_readsOne_34 ?_
    refine lv_imul hx hb dX10_readsOne_37 ?_
    refine lv_iload_n hx hb dX10_readsOne_38 rfl (lv_at hl 0 rfl) ?_
    refine lv_if_eq (tgt := 47) hx hb dX10_readsOne_39 (by decide) (fun b_36 => ?_) (fun b_36 => ?_)
    · have hr := it b_36 hr
      refine lv_iload_n hx hb dX10_readsOne_47 rfl (lv_at hl 2 rfl) ?_
      exact K_48 _ x1 y0 x1 (5 * (V 208 24)) hr _ _ ls hV hS (lv_sub hl [1, 2, 0] rfl)
    · have hr := ie b_36 hr
      refine lv_bipush (v := 119) hx hb dX10_readsOne_42 (by decide) ?_
      refine lv_goto (tgt := 48) hx hb dX10_readsOne_44 (by decide) ?_
      exact K_48 _ x1 y0 119 (5 * (V 208 24)) hr _ _ ls hV hS (lv_sub hl [1, 2, 0] rfl)
  have K_26 : ∀ (V : St) (x1 : Int32), f_X10_readsOne_b26 V x1 = some res → ∀ (H : Heap) (locs : List Loc) (ls : Array Slot), Hd G b0 V H → va_S (Ab b0) s.heap H locs → lv_has ls 3 [(0, .ref (b0 + 208)), (1, .int x1)] → W p l e (rm 7) s m args below meth c H locs 0 0 (MQ below (QV G b0 res) args s 0 0 (Ab b0)) (F0 m 26 ls []) := by
    intro V x1 hr H locs ls hV hS hl
    unfold f_X10_readsOne_b26 at hr
    refine lv_iconst (v := 0) hx hb dX10_readsOne_26 (by decide) ?_
    exact K_27 _ x1 0 hr _ _ ls hV hS (lv_sub hl [0, 1] rfl)
  unfold f_X10_readsOne at hr
  refine lv_aload_n hx hb dX10_readsOne_0 rfl (lv_at hl 0 rfl) ?_
  refine lv_iconst (v := 0) hx hb dX10_readsOne_1 (by decide) ?_
  obtain ⟨q37, e37, hr⟩ := ob hr
  refine cal_i (run_V (As := [.int 0]) (rest := []) C hV hS (c_X10_here l G b0 V 0 q37 e37) (rcv hK hV (kd_lt z_208 (by decide)) (cel_20 z_208) rfl) q_1720 q_1722 q_128 q_151 q_1723 dk_X10_here (rm_ok (by decide) (by decide)) hl.1 rfl (Nat.le_of_ble_eq_true rfl) dX10_readsOne_2 ⟨Nat.zero_le _, Nat.zero_le _⟩) hS (fun H locs hV hS => ?_)
  refine lv_istore_n (lv' := [(1, .int q37), (0, .ref (b0 + 208))]) hx hb dX10_readsOne_5 rfl hl (by decide) rfl (fun ls hl => ?_)
  refine lv_iload_n hx hb dX10_readsOne_6 rfl (lv_at hl 0 rfl) ?_
  refine lv_bipush (v := 116) hx hb dX10_readsOne_7 (by decide) ?_
  refine lv_icmp_ne (tgt := 26) hx hb dX10_readsOne_9 (by decide) (fun b_38 => ?_) (fun b_38 => ?_)
  · have hr := ie b_38 hr
    exact K_26 _ q37 hr _ _ ls hV hS (lv_sub hl [1, 0] rfl)
  · have hr := it b_38 hr
    refine lv_aload_n hx hb dX10_readsOne_12 rfl (lv_at hl 1 rfl) ?_
    refine lv_iconst (v := 1) hx hb dX10_readsOne_13 (by decide) ?_
    obtain ⟨q39, e39, hr⟩ := ob hr
    refine cal_i (run_V (As := [.int 1]) (rest := []) C hV hS (c_X10_here l G b0 V 1 q39 e39) (rcv hK hV (kd_lt z_208 (by decide)) (cel_20 z_208) rfl) q_1720 q_1722 q_128 q_151 q_1723 dk_X10_here (rm_ok (by decide) (by decide)) hl.1 rfl (Nat.le_of_ble_eq_true rfl) dX10_readsOne_14 ⟨Nat.zero_le _, Nat.zero_le _⟩) hS (fun H locs hV hS => ?_)
    refine lv_bipush (v := 105) hx hb dX10_readsOne_17 (by decide) ?_
    refine lv_icmp_ne (tgt := 26) hx hb dX10_readsOne_19 (by decide) (fun b_40 => ?_) (fun b_40 => ?_)
    · have hr := ie b_40 hr
      exact K_26 _ q37 hr _ _ ls hV hS (lv_sub hl [1, 0] rfl)
    · have hr := it b_40 hr
      refine lv_iconst (v := 1) hx hb dX10_readsOne_22 (by decide) ?_
      refine lv_goto (tgt := 27) hx hb dX10_readsOne_23 (by decide) ?_
      exact K_27 _ q37 1 hr _ _ ls hV hS (lv_sub hl [1, 0] rfl)
set_option maxHeartbeats 4000000 in
set_option maxRecDepth 100000 in
theorem c_X10_does (l : Launch) (G : LG) (b0 : Nat) (V : St) (x1 : Int32) (res : Int32 × St) (hr : f_X10_does V x1 = some res) : Met l yX10_does (wy yX10_does cX10_does 5 (some .int)) (rm 5) (va_Pc [.ref (b0 + 208), .int x1] (Iv G b0 V)) (QI G b0 res.1 res.2) 0 0 (Ab b0) := by
  refine mk_m (by decide +kernel) (Nat.le_of_ble_eq_true rfl) ?_
  intro p e s m below meth c C hV hS ls hl
  obtain ⟨args, hargs⟩ : ∃ z, z = ([.ref (b0 + 208), .int x1] : List Value).toArray := ⟨_, rfl⟩
  rw [← hargs] at C ⊢
  obtain ⟨hx, hb, hrt, hml, hown, hts, hlocks, hK, hSv⟩ := id C
  have hl : lv_has ls 5 [(0, .ref (b0 + 208)), (1, .int x1)] := hl
  unfold f_X10_does at hr
  refine lv_aload_n hx hb dX10_does_0 rfl (lv_at hl 0 rfl) ?_
  refine g_X10_8 C hV q_1399 dX10_does_1 ?_
  refine lv_iconst (v := 5) hx hb dX10_does_4 (by decide) ?_
  refine lv_iload_n hx hb dX10_does_5 rfl (lv_at hl 1 rfl) ?_
  refine lv_imul hx hb dX10_does_6 ?_
  refine lv_iconst (v := 1) hx hb dX10_does_7 (by decide) ?_
  refine lv_iadd hx hb dX10_does_8 ?_
  obtain ⟨j1, e1, hr⟩ := ob hr
  refine a_26 (k := 214) (i := ((5 * x1) + 1)) (j := j1) C hV z_214 e1 dX10_does_9 ?_
  refine lv_istore_n (lv' := [(2, .int (V 214 j1)), (0, .ref (b0 + 208)), (1, .int x1)]) hx hb dX10_does_10 rfl hl (by decide) rfl (fun ls hl => ?_)
  refine lv_aload_n hx hb dX10_does_11 rfl (lv_at hl 1 rfl) ?_
  refine g_X10_8 C hV q_1399 dX10_does_12 ?_
  refine lv_iconst (v := 5) hx hb dX10_does_15 (by decide) ?_
  refine lv_iload_n hx hb dX10_does_16 rfl (lv_at hl 2 rfl) ?_
  refine lv_imul hx hb dX10_does_17 ?_
  refine lv_iconst (v := 2) hx hb dX10_does_18 (by decide) ?_
  refine lv_iadd hx hb dX10_does_19 ?_
  obtain ⟨j2, e2, hr⟩ := ob hr
  refine a_26 (k := 214) (i := ((5 * x1) + 2)) (j := j2) C hV z_214 e2 dX10_does_20 ?_
  refine lv_istore_n (lv' := [(3, .int (V 214 j2)), (2, .int (V 214 j1)), (0, .ref (b0 + 208)), (1, .int x1)]) hx hb dX10_does_21 rfl hl (by decide) rfl (fun ls hl => ?_)
  refine lv_aload_n hx hb dX10_does_22 rfl (lv_at hl 2 rfl) ?_
  refine g_X10_8 C hV q_1399 dX10_does_23 ?_
  refine lv_iconst (v := 5) hx hb dX10_does_26 (by decide) ?_
  refine lv_iload_n hx hb dX10_does_27 rfl (lv_at hl 3 rfl) ?_
  refine lv_imul hx hb dX10_does_28 ?_
  refine lv_iconst (v := 3) hx hb dX10_does_29 (by decide) ?_
  refine lv_iadd hx hb dX10_does_30 ?_
  obtain ⟨j3, e3, hr⟩ := ob hr
  refine a_26 (k := 214) (i := ((5 * x1) + 3)) (j := j3) C hV z_214 e3 dX10_does_31 ?_
  refine lv_istore (lv' := [(4, .int (V 214 j3)), (3, .int (V 214 j2)), (2, .int (V 214 j1)), (0, .ref (b0 + 208)), (1, .int x1)]) hx hb dX10_does_32 hl (by decide) rfl (fun ls hl => ?_)
  refine lv_aload_n hx hb dX10_does_34 rfl (lv_at hl 3 rfl) ?_
  refine g_X10_8 C hV q_1399 dX10_does_35 ?_
  refine lv_iconst (v := 5) hx hb dX10_does_38 (by decide) ?_
  refine lv_iload_n hx hb dX10_does_39 rfl (lv_at hl 4 rfl) ?_
  refine lv_imul hx hb dX10_does_40 ?_
  obtain ⟨j4, e4, hr⟩ := ob hr
  refine a_26 (k := 214) (i := (5 * x1)) (j := j4) C hV z_214 e4 dX10_does_41 ?_
  by_cases b_5 : (V 214 j4) = 101
  · have hr := it b_5 hr
    refine lv_tableIn (off := 127) (tgt := 169) hx hb dX10_does_42 (by rw [b_5]; decide) (by rw [b_5]; decide) (by rw [b_5]; decide +kernel) (by decide) ?_
    refine lv_aload_n hx hb dX10_does_169 rfl (lv_at hl 3 rfl) ?_
    refine lv_iload_n hx hb dX10_does_170 rfl (lv_at hl 2 rfl) ?_
    obtain ⟨q6, e6, hr⟩ := ob hr
    refine cal_i (run_V (As := [.int (V 214 j1)]) (rest := []) C hV hS (c_X10_comes l G b0 V (V 214 j1) q6 e6) (rcv hK hV (kd_lt z_208 (by decide)) (cel_20 z_208) rfl) q_1571 q_1573 q_110 q_151 q_1574 dk_X10_comes (rm_ok (by decide) (by decide)) hl.1 rfl (Nat.le_of_ble_eq_true rfl) dX10_does_171 ⟨Nat.zero_le _, Nat.zero_le _⟩) hS (fun H locs hV hS => ?_)
    rw [← Option.some.inj hr]
    exact fin_i C hV hS rfl dX10_does_174
  have hr := ie b_5 hr
  by_cases b_7 : (V 214 j4) = 102
  · have hr := it b_7 hr
    refine lv_tableIn (off := 153) (tgt := 195) hx hb dX10_does_42 (by rw [b_7]; decide) (by rw [b_7]; decide) (by rw [b_7]; decide +kernel) (by decide) ?_
    refine lv_aload_n hx hb dX10_does_195 rfl (lv_at hl 3 rfl) ?_
    refine lv_iload_n hx hb dX10_does_196 rfl (lv_at hl 2 rfl) ?_
    obtain ⟨q8, e8, hr⟩ := ob hr
    refine cal_i (run_V (As := [.int (V 214 j1)]) (rest := []) C hV hS (c_X10_drops l G b0 V (V 214 j1) q8 e8) (rcv hK hV (kd_lt z_208 (by decide)) (cel_20 z_208) rfl) q_1622 q_1624 q_118 q_151 q_1625 dk_X10_drops (rm_ok (by decide) (by decide)) hl.1 rfl (Nat.le_of_ble_eq_true rfl) dX10_does_197 ⟨Nat.zero_le _, Nat.zero_le _⟩) hS (fun H locs hV hS => ?_)
    rw [← Option.some.inj hr]
    exact fin_i C hV hS rfl dX10_does_200
  have hr := ie b_7 hr
  by_cases b_9 : (V 214 j4) = 103
  · have hr := it b_9 hr
    refine lv_tableIn (off := 153) (tgt := 195) hx hb dX10_does_42 (by rw [b_9]; decide) (by rw [b_9]; decide) (by rw [b_9]; decide +kernel) (by decide) ?_
    refine lv_aload_n hx hb dX10_does_195 rfl (lv_at hl 3 rfl) ?_
    refine lv_iload_n hx hb dX10_does_196 rfl (lv_at hl 2 rfl) ?_
    obtain ⟨q10, e10, hr⟩ := ob hr
    refine cal_i (run_V (As := [.int (V 214 j1)]) (rest := []) C hV hS (c_X10_drops l G b0 V (V 214 j1) q10 e10) (rcv hK hV (kd_lt z_208 (by decide)) (cel_20 z_208) rfl) q_1622 q_1624 q_118 q_151 q_1625 dk_X10_drops (rm_ok (by decide) (by decide)) hl.1 rfl (Nat.le_of_ble_eq_true rfl) dX10_does_197 ⟨Nat.zero_le _, Nat.zero_le _⟩) hS (fun H locs hV hS => ?_)
    rw [← Option.some.inj hr]
    exact fin_i C hV hS rfl dX10_does_200
  have hr := ie b_9 hr
  by_cases b_11 : (V 214 j4) = 104
  · have hr := it b_11 hr
    refine lv_tableIn (off := 153) (tgt := 195) hx hb dX10_does_42 (by rw [b_11]; decide) (by rw [b_11]; decide) (by rw [b_11]; decide +kernel) (by decide) ?_
    refine lv_aload_n hx hb dX10_does_195 rfl (lv_at hl 3 rfl) ?_
    refine lv_iload_n hx hb dX10_does_196 rfl (lv_at hl 2 rfl) ?_
    obtain ⟨q12, e12, hr⟩ := ob hr
    refine cal_i (run_V (As := [.int (V 214 j1)]) (rest := []) C hV hS (c_X10_drops l G b0 V (V 214 j1) q12 e12) (rcv hK hV (kd_lt z_208 (by decide)) (cel_20 z_208) rfl) q_1622 q_1624 q_118 q_151 q_1625 dk_X10_drops (rm_ok (by decide) (by decide)) hl.1 rfl (Nat.le_of_ble_eq_true rfl) dX10_does_197 ⟨Nat.zero_le _, Nat.zero_le _⟩) hS (fun H locs hV hS => ?_)
    rw [← Option.some.inj hr]
    exact fin_i C hV hS rfl dX10_does_200
  have hr := ie b_11 hr
  by_cases b_13 : (V 214 j4) = 105
  · have hr := it b_13 hr
    refine lv_tableIn (off := 153) (tgt := 195) hx hb dX10_does_42 (by rw [b_13]; decide) (by rw [b_13]; decide) (by rw [b_13]; decide +kernel) (by decide) ?_
    refine lv_aload_n hx hb dX10_does_195 rfl (lv_at hl 3 rfl) ?_
    refine lv_iload_n hx hb dX10_does_196 rfl (lv_at hl 2 rfl) ?_
    obtain ⟨q14, e14, hr⟩ := ob hr
    refine cal_i (run_V (As := [.int (V 214 j1)]) (rest := []) C hV hS (c_X10_drops l G b0 V (V 214 j1) q14 e14) (rcv hK hV (kd_lt z_208 (by decide)) (cel_20 z_208) rfl) q_1622 q_1624 q_118 q_151 q_1625 dk_X10_drops (rm_ok (by decide) (by decide)) hl.1 rfl (Nat.le_of_ble_eq_true rfl) dX10_does_197 ⟨Nat.zero_le _, Nat.zero_le _⟩) hS (fun H locs hV hS => ?_)
    rw [← Option.some.inj hr]
    exact fin_i C hV hS rfl dX10_does_200
  have hr := ie b_13 hr
  by_cases b_15 : (V 214 j4) = 106
  · have hr := it b_15 hr
    refine lv_tableIn (off := 153) (tgt := 195) hx hb dX10_does_42 (by rw [b_15]; decide) (by rw [b_15]; decide) (by rw [b_15]; decide +kernel) (by decide) ?_
    refine lv_aload_n hx hb dX10_does_195 rfl (lv_at hl 3 rfl) ?_
    refine lv_iload_n hx hb dX10_does_196 rfl (lv_at hl 2 rfl) ?_
    obtain ⟨q16, e16, hr⟩ := ob hr
    refine cal_i (run_V (As := [.int (V 214 j1)]) (rest := []) C hV hS (c_X10_drops l G b0 V (V 214 j1) q16 e16) (rcv hK hV (kd_lt z_208 (by decide)) (cel_20 z_208) rfl) q_1622 q_1624 q_118 q_151 q_1625 dk_X10_drops (rm_ok (by decide) (by decide)) hl.1 rfl (Nat.le_of_ble_eq_true rfl) dX10_does_197 ⟨Nat.zero_le _, Nat.zero_le _⟩) hS (fun H locs hV hS => ?_)
    rw [← Option.some.inj hr]
    exact fin_i C hV hS rfl dX10_does_200
  have hr := ie b_15 hr
  by_cases b_17 : (V 214 j4) = 107
  · have hr := it b_17 hr
    refine lv_tableIn (off := 90) (tgt := 132) hx hb dX10_does_42 (by rw [b_17]; decide) (by rw [b_17]; decide) (by rw [b_17]; decide +kernel) (by decide) ?_
    refine lv_aload_n hx hb dX10_does_132 rfl (lv_at hl 3 rfl) ?_
    refine lv_iload_n hx hb dX10_does_133 rfl (lv_at hl 2 rfl) ?_
    refine lv_iload_n hx hb dX10_does_134 rfl (lv_at hl 1 rfl) ?_
    refine lv_iload hx hb dX10_does_135 (lv_at hl 0 rfl) ?_
    obtain ⟨q18, e18, hr⟩ := ob hr
    refine cal_i (run_V (As := [.int (V 214 j1), .int (V 214 j2), .int (V 214 j3)]) (rest := []) C hV hS (c_X10_ties l G b0 V (V 214 j1) (V 214 j2) (V 214 j3) q18 e18) (rcv hK hV (kd_lt z_208 (by decide)) (cel_20 z_208) rfl) q_1482 q_1484 q_95 q_151 q_1485 dk_X10_ties (rm_ok (by decide) (by decide)) hl.1 rfl (Nat.le_of_ble_eq_true rfl) dX10_does_137 ⟨Nat.zero_le _, Nat.zero_le _⟩) hS (fun H locs hV hS => ?_)
    rw [← Option.some.inj hr]
    exact fin_i C hV hS rfl dX10_does_140
  have hr := ie b_17 hr
  by_cases b_19 : (V 214 j4) = 108
  · have hr := it b_19 hr
    refine lv_tableIn (off := 153) (tgt := 195) hx hb dX10_does_42 (by rw [b_19]; decide) (by rw [b_19]; decide) (by rw [b_19]; decide +kernel) (by decide) ?_
    refine lv_aload_n hx hb dX10_does_195 rfl (lv_at hl 3 rfl) ?_
    refine lv_iload_n hx hb dX10_does_196 rfl (lv_at hl 2 rfl) ?_
    obtain ⟨q20, e20, hr⟩ := ob hr
    refine cal_i (run_V (As := [.int (V 214 j1)]) (rest := []) C hV hS (c_X10_drops l G b0 V (V 214 j1) q20 e20) (rcv hK hV (kd_lt z_208 (by decide)) (cel_20 z_208) rfl) q_1622 q_1624 q_118 q_151 q_1625 dk_X10_drops (rm_ok (by decide) (by decide)) hl.1 rfl (Nat.le_of_ble_eq_true rfl) dX10_does_197 ⟨Nat.zero_le _, Nat.zero_le _⟩) hS (fun H locs hV hS => ?_)
    rw [← Option.some.inj hr]
    exact fin_i C hV hS rfl dX10_does_200
  have hr := ie b_19 hr
  by_cases b_21 : (V 214 j4) = 109
  · have hr := it b_21 hr
    refine lv_tableIn (off := 108) (tgt := 150) hx hb dX10_does_42 (by rw [b_21]; decide) (by rw [b_21]; decide) (by rw [b_21]; decide +kernel) (by decide) ?_
    refine lv_aload_n hx hb dX10_does_150 rfl (lv_at hl 3 rfl) ?_
    refine lv_iload_n hx hb dX10_does_151 rfl (lv_at hl 2 rfl) ?_
    refine lv_iload_n hx hb dX10_does_152 rfl (lv_at hl 1 rfl) ?_
    refine lv_iload hx hb dX10_does_153 (lv_at hl 0 rfl) ?_
    refine lv_aload_n hx hb dX10_does_155 rfl (lv_at hl 3 rfl) ?_
    refine g_X10_8 C hV q_1399 dX10_does_156 ?_
    refine lv_iconst (v := 5) hx hb dX10_does_159 (by decide) ?_
    refine lv_iload_n hx hb dX10_does_160 rfl (lv_at hl 4 rfl) ?_
    refine lv_imul hx hb dX10_does_161 ?_
    refine lv_iconst (v := 4) hx hb dX10_does_162 (by decide) ?_
    refine lv_iadd hx hb dX10_does_163 ?_
    obtain ⟨j22, e22, hr⟩ := ob hr
    refine a_26 (k := 214) (i := ((5 * x1) + 4)) (j := j22) C hV z_214 e22 dX10_does_164 ?_
    obtain ⟨q23, e23, hr⟩ := ob hr
    refine cal_i (run_V (As := [.int (V 214 j1), .int (V 214 j2), .int (V 214 j3), .int (V 214 j22)]) (rest := []) C hV hS (c_X10_mends l G b0 V (V 214 j1) (V 214 j2) (V 214 j3) (V 214 j22) q23 e23) (rcv hK hV (kd_lt z_208 (by decide)) (cel_20 z_208) rfl) q_1563 q_1565 q_109 q_151 q_1566 dk_X10_mends (rm_ok (by decide) (by decide)) hl.1 rfl (Nat.le_of_ble_eq_true rfl) dX10_does_165 ⟨Nat.zero_le _, Nat.zero_le _⟩) hS (fun H locs hV hS => ?_)
    rw [← Option.some.inj hr]
    exact fin_i C hV hS rfl dX10_does_168
  have hr := ie b_21 hr
  by_cases b_24 : (V 214 j4) = 110
  · have hr := it b_24 hr
    refine lv_tableIn (off := 146) (tgt := 188) hx hb dX10_does_42 (by rw [b_24]; decide) (by rw [b_24]; decide) (by rw [b_24]; decide +kernel) (by decide) ?_
    refine lv_aload_n hx hb dX10_does_188 rfl (lv_at hl 3 rfl) ?_
    refine lv_iload_n hx hb dX10_does_189 rfl (lv_at hl 2 rfl) ?_
    refine lv_iload_n hx hb dX10_does_190 rfl (lv_at hl 1 rfl) ?_
    obtain ⟨q25, e25, hr⟩ := ob hr
    refine cal_i (run_V (As := [.int (V 214 j1), .int (V 214 j2)]) (rest := []) C hV hS (c_X10_notes l G b0 V (V 214 j1) (V 214 j2) q25 e25) (rcv hK hV (kd_lt z_208 (by decide)) (cel_20 z_208) rfl) q_1610 q_1612 q_116 q_151 q_1613 dk_X10_notes (rm_ok (by decide) (by decide)) hl.1 rfl (Nat.le_of_ble_eq_true rfl) dX10_does_191 ⟨Nat.zero_le _, Nat.zero_le _⟩) hS (fun H locs hV hS => ?_)
    rw [← Option.some.inj hr]
    exact fin_i C hV hS rfl dX10_does_194
  have hr := ie b_24 hr
  by_cases b_26 : (V 214 j4) = 111
  · have hr := it b_26 hr
    refine lv_tableIn (off := 153) (tgt := 195) hx hb dX10_does_42 (by rw [b_26]; decide) (by rw [b_26]; decide) (by rw [b_26]; decide +kernel) (by decide) ?_
    refine lv_aload_n hx hb dX10_does_195 rfl (lv_at hl 3 rfl) ?_
    refine lv_iload_n hx hb dX10_does_196 rfl (lv_at hl 2 rfl) ?_
    obtain ⟨q27, e27, hr⟩ := ob hr
    refine cal_i (run_V (As := [.int (V 214 j1)]) (rest := []) C hV hS (c_X10_drops l G b0 V (V 214 j1) q27 e27) (rcv hK hV (kd_lt z_208 (by decide)) (cel_20 z_208) rfl) q_1622 q_1624 q_118 q_151 q_1625 dk_X10_drops (rm_ok (by decide) (by decide)) hl.1 rfl (Nat.le_of_ble_eq_true rfl) dX10_does_197 ⟨Nat.zero_le _, Nat.zero_le _⟩) hS (fun H locs hV hS => ?_)
    rw [← Option.some.inj hr]
    exact fin_i C hV hS rfl dX10_does_200
  have hr := ie b_26 hr
  by_cases b_28 : (V 214 j4) = 112
  · have hr := it b_28 hr
    refine lv_tableIn (off := 153) (tgt := 195) hx hb dX10_does_42 (by rw [b_28]; decide) (by rw [b_28]; decide) (by rw [b_28]; decide +kernel) (by decide) ?_
    refine lv_aload_n hx hb dX10_does_195 rfl (lv_at hl 3 rfl) ?_
    refine lv_iload_n hx hb dX10_does_196 rfl (lv_at hl 2 rfl) ?_
    obtain ⟨q29, e29, hr⟩ := ob hr
    refine cal_i (run_V (As := [.int (V 214 j1)]) (rest := []) C hV hS (c_X10_drops l G b0 V (V 214 j1) q29 e29) (rcv hK hV (kd_lt z_208 (by decide)) (cel_20 z_208) rfl) q_1622 q_1624 q_118 q_151 q_1625 dk_X10_drops (rm_ok (by decide) (by decide)) hl.1 rfl (Nat.le_of_ble_eq_true rfl) dX10_does_197 ⟨Nat.zero_le _, Nat.zero_le _⟩) hS (fun H locs hV hS => ?_)
    rw [← Option.some.inj hr]
    exact fin_i C hV hS rfl dX10_does_200
  have hr := ie b_28 hr
  by_cases b_30 : (V 214 j4) = 113
  · have hr := it b_30 hr
    refine lv_tableIn (off := 153) (tgt := 195) hx hb dX10_does_42 (by rw [b_30]; decide) (by rw [b_30]; decide) (by rw [b_30]; decide +kernel) (by decide) ?_
    refine lv_aload_n hx hb dX10_does_195 rfl (lv_at hl 3 rfl) ?_
    refine lv_iload_n hx hb dX10_does_196 rfl (lv_at hl 2 rfl) ?_
    obtain ⟨q31, e31, hr⟩ := ob hr
    refine cal_i (run_V (As := [.int (V 214 j1)]) (rest := []) C hV hS (c_X10_drops l G b0 V (V 214 j1) q31 e31) (rcv hK hV (kd_lt z_208 (by decide)) (cel_20 z_208) rfl) q_1622 q_1624 q_118 q_151 q_1625 dk_X10_drops (rm_ok (by decide) (by decide)) hl.1 rfl (Nat.le_of_ble_eq_true rfl) dX10_does_197 ⟨Nat.zero_le _, Nat.zero_le _⟩) hS (fun H locs hV hS => ?_)
    rw [← Option.some.inj hr]
    exact fin_i C hV hS rfl dX10_does_200
  have hr := ie b_30 hr
  by_cases b_32 : (V 214 j4) = 114
  · have hr := it b_32 hr
    refine lv_tableIn (off := 153) (tgt := 195) hx hb dX10_does_42 (by rw [b_32]; decide) (by rw [b_32]; decide) (by rw [b_32]; decide +kernel) (by decide) ?_
    refine lv_aload_n hx hb dX10_does_195 rfl (lv_at hl 3 rfl) ?_
    refine lv_iload_n hx hb dX10_does_196 rfl (lv_at hl 2 rfl) ?_
    obtain ⟨q33, e33, hr⟩ := ob hr
    refine cal_i (run_V (As := [.int (V 214 j1)]) (rest := []) C hV hS (c_X10_drops l G b0 V (V 214 j1) q33 e33) (rcv hK hV (kd_lt z_208 (by decide)) (cel_20 z_208) rfl) q_1622 q_1624 q_118 q_151 q_1625 dk_X10_drops (rm_ok (by decide) (by decide)) hl.1 rfl (Nat.le_of_ble_eq_true rfl) dX10_does_197 ⟨Nat.zero_le _, Nat.zero_le _⟩) hS (fun H locs hV hS => ?_)
    rw [← Option.some.inj hr]
    exact fin_i C hV hS rfl dX10_does_200
  have hr := ie b_32 hr
  by_cases b_34 : (V 214 j4) = 115
  · have hr := it b_34 hr
    refine lv_tableIn (off := 139) (tgt := 181) hx hb dX10_does_42 (by rw [b_34]; decide) (by rw [b_34]; decide) (by rw [b_34]; decide +kernel) (by decide) ?_
    refine lv_aload_n hx hb dX10_does_181 rfl (lv_at hl 3 rfl) ?_
    refine lv_iload_n hx hb dX10_does_182 rfl (lv_at hl 2 rfl) ?_
    refine lv_iload_n hx hb dX10_does_183 rfl (lv_at hl 1 rfl) ?_
    obtain ⟨q35, e35, hr⟩ := ob hr
    refine cal_i (run_V (As := [.int (V 214 j1), .int (V 214 j2)]) (rest := []) C hV hS (c_X10_sinks l G b0 V (V 214 j1) (V 214 j2) q35 e35) (rcv hK hV (kd_lt z_208 (by decide)) (cel_20 z_208) rfl) q_1602 q_1604 q_115 q_151 q_1605 dk_X10_sinks (rm_ok (by decide) (by decide)) hl.1 rfl (Nat.le_of_ble_eq_true rfl) dX10_does_184 ⟨Nat.zero_le _, Nat.zero_le _⟩) hS (fun H locs hV hS => ?_)
    rw [← Option.some.inj hr]
    exact fin_i C hV hS rfl dX10_does_187
  have hr := ie b_34 hr
  by_cases b_36 : (V 214 j4) = 116
  · have hr := it b_36 hr
    refine lv_tableIn (off := 99) (tgt := 141) hx hb dX10_does_42 (by rw [b_36]; decide) (by rw [b_36]; decide) (by rw [b_36]; decide +kernel) (by decide) ?_
    refine lv_aload_n hx hb dX10_does_141 rfl (lv_at hl 3 rfl) ?_
    refine lv_iload_n hx hb dX10_does_142 rfl (lv_at hl 2 rfl) ?_
    refine lv_iload_n hx hb dX10_does_143 rfl (lv_at hl 1 rfl) ?_
    refine lv_iload hx hb dX10_does_144 (lv_at hl 0 rfl) ?_
    obtain ⟨q37, e37, hr⟩ := ob hr
    refine cal_i (run_V (As := [.int (V 214 j1), .int (V 214 j2), .int (V 214 j3)]) (rest := []) C hV hS (c_X10_tears l G b0 V (V 214 j1) (V 214 j2) (V 214 j3) q37 e37) (rcv hK hV (kd_lt z_208 (by decide)) (cel_20 z_208) rfl) q_1531 q_1533 q_104 q_151 q_1534 dk_X10_tears (rm_ok (by decide) (by decide)) hl.1 rfl (Nat.le_of_ble_eq_true rfl) dX10_does_146 ⟨Nat.zero_le _, Nat.zero_le _⟩) hS (fun H locs hV hS => ?_)
    rw [← Option.some.inj hr]
    exact fin_i C hV hS rfl dX10_does_149
  have hr := ie b_36 hr
  by_cases b_38 : (V 214 j4) = 117
  · have hr := it b_38 hr
    refine lv_tableIn (off := 153) (tgt := 195) hx hb dX10_does_42 (by rw [b_38]; decide) (by rw [b_38]; decide) (by rw [b_38]; decide +kernel) (by decide) ?_
    refine lv_aload_n hx hb dX10_does_195 rfl (lv_at hl 3 rfl) ?_
    refine lv_iload_n hx hb dX10_does_196 rfl (lv_at hl 2 rfl) ?_
    obtain ⟨q39, e39, hr⟩ := ob hr
    refine cal_i (run_V (As := [.int (V 214 j1)]) (rest := []) C hV hS (c_X10_drops l G b0 V (V 214 j1) q39 e39) (rcv hK hV (kd_lt z_208 (by decide)) (cel_20 z_208) rfl) q_1622 q_1624 q_118 q_151 q_1625 dk_X10_drops (rm_ok (by decide) (by decide)) hl.1 rfl (Nat.le_of_ble_eq_true rfl) dX10_does_197 ⟨Nat.zero_le _, Nat.zero_le _⟩) hS (fun H locs hV hS => ?_)
    rw [← Option.some.inj hr]
    exact fin_i C hV hS rfl dX10_does_200
  have hr := ie b_38 hr
  by_cases b_40 : (V 214 j4) = 118
  · have hr := it b_40 hr
    refine lv_tableIn (off := 153) (tgt := 195) hx hb dX10_does_42 (by rw [b_40]; decide) (by rw [b_40]; decide) (by rw [b_40]; decide +kernel) (by decide) ?_
    refine lv_aload_n hx hb dX10_does_195 rfl (lv_at hl 3 rfl) ?_
    refine lv_iload_n hx hb dX10_does_196 rfl (lv_at hl 2 rfl) ?_
    obtain ⟨q41, e41, hr⟩ := ob hr
    refine cal_i (run_V (As := [.int (V 214 j1)]) (rest := []) C hV hS (c_X10_drops l G b0 V (V 214 j1) q41 e41) (rcv hK hV (kd_lt z_208 (by decide)) (cel_20 z_208) rfl) q_1622 q_1624 q_118 q_151 q_1625 dk_X10_drops (rm_ok (by decide) (by decide)) hl.1 rfl (Nat.le_of_ble_eq_true rfl) dX10_does_197 ⟨Nat.zero_le _, Nat.zero_le _⟩) hS (fun H locs hV hS => ?_)
    rw [← Option.some.inj hr]
    exact fin_i C hV hS rfl dX10_does_200
  have hr := ie b_40 hr
  by_cases b_42 : (V 214 j4) = 119
  · have hr := it b_42 hr
    refine lv_tableIn (off := 133) (tgt := 175) hx hb dX10_does_42 (by rw [b_42]; decide) (by rw [b_42]; decide) (by rw [b_42]; decide +kernel) (by decide) ?_
    refine lv_aload_n hx hb dX10_does_175 rfl (lv_at hl 3 rfl) ?_
    refine lv_iload_n hx hb dX10_does_176 rfl (lv_at hl 2 rfl) ?_
    obtain ⟨q43, e43, hr⟩ := ob hr
    refine cal_i (run_V (As := [.int (V 214 j1)]) (rest := []) C hV hS (c_X10_turns l G b0 V (V 214 j1) q43 e43) (rcv hK hV (kd_lt z_208 (by decide)) (cel_20 z_208) rfl) q_1579 q_1581 q_111 q_151 q_1582 dk_X10_turns (rm_ok (by decide) (by decide)) hl.1 rfl (Nat.le_of_ble_eq_true rfl) dX10_does_177 ⟨Nat.zero_le _, Nat.zero_le _⟩) hS (fun H locs hV hS => ?_)
    rw [← Option.some.inj hr]
    exact fin_i C hV hS rfl dX10_does_180
  have hr := ie b_42 hr
  have n_5 := lv_neT (a := 101) b_5 (by decide)
  have n_7 := lv_neT (a := 102) b_7 (by decide)
  have n_9 := lv_neT (a := 103) b_9 (by decide)
  have n_11 := lv_neT (a := 104) b_11 (by decide)
  have n_13 := lv_neT (a := 105) b_13 (by decide)
  have n_15 := lv_neT (a := 106) b_15 (by decide)
  have n_17 := lv_neT (a := 107) b_17 (by decide)
  have n_19 := lv_neT (a := 108) b_19 (by decide)
  have n_21 := lv_neT (a := 109) b_21 (by decide)
  have n_24 := lv_neT (a := 110) b_24 (by decide)
  have n_26 := lv_neT (a := 111) b_26 (by decide)
  have n_28 := lv_neT (a := 112) b_28 (by decide)
  have n_30 := lv_neT (a := 113) b_30 (by decide)
  have n_32 := lv_neT (a := 114) b_32 (by decide)
  have n_34 := lv_neT (a := 115) b_34 (by decide)
  have n_36 := lv_neT (a := 116) b_36 (by decide)
  have n_38 := lv_neT (a := 117) b_38 (by decide)
  have n_40 := lv_neT (a := 118) b_40 (by decide)
  have n_42 := lv_neT (a := 119) b_42 (by decide)
  refine lv_tableOut (tgt := 195) hx hb dX10_does_42 (by omega) (by decide) ?_
  refine lv_aload_n hx hb dX10_does_195 rfl (lv_at hl 3 rfl) ?_
  refine lv_iload_n hx hb dX10_does_196 rfl (lv_at hl 2 rfl) ?_
  obtain ⟨q44, e44, hr⟩ := ob hr
  refine cal_i (run_V (As := [.int (V 214 j1)]) (rest := []) C hV hS (c_X10_drops l G b0 V (V 214 j1) q44 e44) (rcv hK hV (kd_lt z_208 (by decide)) (cel_20 z_208) rfl) q_1622 q_1624 q_118 q_151 q_1625 dk_X10_drops (rm_ok (by decide) (by decide)) hl.1 rfl (Nat.le_of_ble_eq_true rfl) dX10_does_197 ⟨Nat.zero_le _, Nat.zero_le _⟩) hS (fun H locs hV hS => ?_)
  rw [← Option.some.inj hr]
  exact fin_i C hV hS rfl dX10_does_200
