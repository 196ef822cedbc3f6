def f_L_does_b199 (L : Nat) (xs : Nat → Int32) (V : St) (y0 : Int32) (y1 : Int32) (y2 : Int32) : Option (Int32 × St) :=
  (f_L_knot V y2 y1 y0).bind fun q1 =>
  some (q1.1, q1.2)
def f_L_does_b164 (L : Nat) (xs : Nat → Int32) (V : St) (x4 : Int32) (x5 : Int32) (x6 : Int32) : Option (Int32 × St) :=
  if (x6 - x6 / 9 * 9) = 0 then
    f_L_does_b199 L xs V 0 x5 x4
  else
    if (x6 - x6 / 17 * 17) = 0 then
      f_L_does_b199 L xs V 4 x5 x4
    else
      f_L_does_b199 L xs V (1 + (x6 - x6 / 3 * 3)) x5 x4
def f_L_does_b280 (L : Nat) (xs : Nat → Int32) (V : St) (x4 : Int32) (x5 : Int32) (x6 : Int32) (x7 : Int32) : Option (Int32 × St) :=
  (txt x4 x5 x6 x7).bind fun ts => f_L_reads ts V
def f_L_does_b49 (L : Nat) (xs : Nat → Int32) (V : St) (x2 : Int32) (x4 : Int32) (x5 : Int32) (x6 : Int32) (y0 : Int32) : Option (Int32 × St) :=
  if x2 = 0 then
    f_L_does_b164 L xs V x4 x5 x6
  else
  if x2 = 1 then
    f_L_does_b164 L xs V x4 x5 x6
  else
  if x2 = 2 then
    f_L_does_b164 L xs V x4 x5 x6
  else
  if x2 = 3 then
    f_L_does_b164 L xs V x4 x5 x6
  else
  if x2 = 4 then
    f_L_does_b164 L xs V x4 x5 x6
  else
  if x2 = 5 then
    f_L_does_b164 L xs V x4 x5 x6
  else
  if x2 = 6 then
    f_L_does_b164 L xs V x4 x5 x6
  else
  if x2 = 7 then
    f_L_does_b164 L xs V x4 x5 x6
  else
  if x2 = 8 then
    (f_L_tear V x4 x5 y0).bind fun q13 =>
    some (q13.1, q13.2)
  else
  if x2 = 9 then
    (f_L_tear V x4 x5 y0).bind fun q15 =>
    some (q15.1, q15.2)
  else
  if x2 = 10 then
    (f_L_tear V x4 x5 y0).bind fun q17 =>
    some (q17.1, q17.2)
  else
  if x2 = 11 then
    (f_L_tear V x4 x5 y0).bind fun q19 =>
    some (q19.1, q19.2)
  else
  if x2 = 12 then
    (f_L_tear V x4 x5 y0).bind fun q21 =>
    some (q21.1, q21.2)
  else
  if x2 = 13 then
    (f_L_mend V x4 y0 x5 (x6 - x6 / 3 * 3)).bind fun q23 =>
    some (q23.1, q23.2)
  else
  if x2 = 14 then
    (f_L_mend V x4 y0 x5 (x6 - x6 / 3 * 3)).bind fun q25 =>
    some (q25.1, q25.2)
  else
  if x2 = 15 then
    (f_L_mend V x4 y0 x5 (x6 - x6 / 3 * 3)).bind fun q27 =>
    some (q27.1, q27.2)
  else
  if x2 = 16 then
    (f_L_editor V (x6 - x6 / 13 * 13)).bind fun q29 =>
    some (q29.1, q29.2)
  else
  if x2 = 17 then
    (f_L_tide V (x6 - x6 / 6 * 6)).bind fun q31 =>
    some (q31.1, q31.2)
  else
  if x2 = 18 then
    (f_L_sink V x4 (x6 - x6 / 6 * 6)).bind fun q33 =>
    some (q33.1, q33.2)
  else
  if x2 = 19 then
    (f_L_note V x4 x5).bind fun q35 =>
    some (q35.1, q35.2)
  else
  if x2 = 20 then
    (f_L_note V x4 x5).bind fun q37 =>
    some (q37.1, q37.2)
  else
  if x2 = 21 then
    (f_L_note V x4 x5).bind fun q39 =>
    some (q39.1, q39.2)
  else
  if x2 = 22 then
    (f_L_note V x4 x5).bind fun q41 =>
    some (q41.1, q41.2)
  else
  if x2 = 23 then
    (f_L_drop V (x6 - x6 / 7 * 7)).bind fun q43 =>
    some (q43.1, q43.2)
  else
  f_L_does_b280 L xs V x4 x5 x6 y0
def f_L_does (L : Nat) (xs : Nat → Int32) (V : St) (x1 : Int32) (x2 : Int32) (x4 : Int32) (x5 : Int32) : Option (Int32 × St) :=
  (f_L_pick L xs (x1 + 1) 1000).bind fun q44 =>
  if (q44 - q44 / 5 * 5) = 0 then
    f_L_does_b49 L xs V x2 x4 x5 q44 (q44 - q44 / 25 * 25)
  else
    if (q44 - q44 / 2 * 2) = 0 then
      f_L_does_b49 L xs V x2 x4 x5 q44 (x5 + 1)
    else
      f_L_does_b49 L xs V x2 x4 x5 q44 ((x5 + 6) - (x5 + 6) / 24 * 24)
set_option maxHeartbeats 8000000 in
set_option maxRecDepth 100000 in
theorem c_L_does (l : Launch) (hfl : l.stackTraces = false) (G : LG) (b0 : Nat) (V : St) (x1 : Int32) (x2 : Int32) (x4 : Int32) (x5 : Int32) (res : Int32 × St) (hr : f_L_does G.2.2.2.2.2.1 G.2.2.2.2.2.2 V x1 x2 x4 x5 = some res) : Met l yL_does (wy yL_does cL_does 8 (some .int)) (rmc 14 184) (va_Pc [.ref G.2.2.2.2.1, .int x1, .int x2, .ref (b0 + 0), .int x4, .int x5] (Iv G b0 V)) (QI G b0 res.1 res.2) 184 (6 * 184) (Ab b0) := by
  refine mk_c (by decide +kernel) (Nat.le_of_ble_eq_true rfl) ?_
  intro p e s m below meth c C hV hS ls hl
  obtain ⟨args, hargs⟩ : ∃ z, z = ([.ref G.2.2.2.2.1, .int x1, .int x2, .ref (b0 + 0), .int x4, .int x5] : List Value).toArray := ⟨_, rfl⟩
  rw [← hargs] at C ⊢
  obtain ⟨hx, hb, hrt, hml, hown, hts, hlocks, hK, hSv⟩ := id C
  have hl : lv_has ls 8 [(0, .ref G.2.2.2.2.1), (1, .int x1), (2, .int x2), (3, .ref (b0 + 0)), (4, .int x4), (5, .int x5)] := hl
  have K_199 : ∀ (w : Nat) (V : St) (y0 : Int32) (y1 : Int32) (y2 : Int32), w + 1 ≤ 184 → f_L_does_b199 G.2.2.2.2.2.1 G.2.2.2.2.2.2 V y0 y1 y2 = some res → ∀ (H : Heap) (locs : List Loc) (ls : Array Slot), Hd G b0 V H → va_S (Ab b0) s.heap H locs → lv_has ls 8 [] → W p l e (rmc 14 184) s m args below meth c H locs w (6 * w) (MQ below (QI G b0 res.1 res.2) args s 184 (6 * 184) (Ab b0)) (F0 m 199 ls [.int y0, .int y1, .int y2, .ref (b0 + 0)]) := by
    intro w V y0 y1 y2 hw hr H locs ls hV hS hl
    unfold f_L_does_b199 at hr
    obtain ⟨q1, e1, hr⟩ := ob hr
    refine cal_ic (run_HC (As := [.ref (b0 + 0), .int y2, .int y1, .int y0]) (rest := []) C hV hS (c_L_knot l hfl G b0 V y2 y1 y0 q1 e1) q_600 q_601 q_92 q_602 dk_L_knot (rmc_ok (by decide) (by decide)) hl.1 rfl (Nat.le_of_ble_eq_true rfl) dL_does_199 (rmc_cs (by omega))) hS (fun H locs hV hS => ?_)
    rw [← Option.some.inj hr]
    exact fin_ic (w := w + 1) C hV hS (by omega) rfl dL_does_202
  have K_164 : ∀ (w : Nat) (V : St) (x4 : Int32) (x5 : Int32) (x6 : Int32), w + 1 ≤ 184 → f_L_does_b164 G.2.2.2.2.2.1 G.2.2.2.2.2.2 V x4 x5 x6 = some res → ∀ (H : Heap) (locs : List Loc) (ls : Array Slot), Hd G b0 V H → va_S (Ab b0) s.heap H locs → lv_has ls 8 [(3, .ref (b0 + 0)), (4, .int x4), (5, .int x5), (6, .int x6)] → W p l e (rmc 14 184) s m args below meth c H locs w (6 * w) (MQ below (QI G b0 res.1 res.2) args s 184 (6 * 184) (Ab b0)) (F0 m 164 ls []) := by
    intro w V x4 x5 x6 hw hr H locs ls hV hS hl
    unfold f_L_does_b164 at hr
    refine lv_aload_n hx hb dL_does_164 rfl (lv_at hl 0 rfl) ?_
    refine lv_iload hx hb dL_does_165 (lv_at hl 1 rfl) ?_
    refine lv_iload hx hb dL_does_167 (lv_at hl 2 rfl) ?_
    refine lv_iload hx hb dL_does_169 (lv_at hl 3 rfl) ?_
    refine lv_bipush (v := 9) hx hb dL_does_171 (by decide) ?_
    refine lv_irem hx hb dL_does_173 (by decide) ?_
    refine lv_if_ne (tgt := 181) hx hb dL_does_174 (by decide) (fun b_2 => ?_) (fun b_2 => ?_)
    · have hr := ie b_2 hr
      refine lv_iload hx hb dL_does_181 (lv_at hl 3 rfl) ?_
      refine lv_bipush (v := 17) hx hb dL_does_183 (by decide) ?_
      refine lv_irem hx hb dL_does_185 (by decide) ?_
      refine lv_if_ne (tgt := 193) hx hb dL_does_186 (by decide) (fun b_3 => ?_) (fun b_3 => ?_)
      · have hr := ie b_3 hr
        refine lv_iconst (v := 1) hx hb dL_does_193 (by decide) ?_
        refine lv_iload hx hb dL_does_194 (lv_at hl 3 rfl) ?_
        refine lv_iconst (v := 3) hx hb dL_does_196 (by decide) ?_
        refine lv_irem hx hb dL_does_197 (by decide) ?_
        refine lv_iadd hx hb dL_does_198 ?_
        exact K_199 w _ (1 + (x6 - x6 / 3 * 3)) x5 x4 (by omega) hr _ _ ls hV hS (lv_sub hl [] rfl)
      · have hr := it b_3 hr
        refine lv_iconst (v := 4) hx hb dL_does_189 (by decide) ?_
        refine lv_goto (tgt := 199) hx hb dL_does_190 (by decide) ?_
        exact K_199 w _ 4 x5 x4 (by omega) hr _ _ ls hV hS (lv_sub hl [] rfl)
    · have hr := it b_2 hr
      refine lv_iconst (v := 0) hx hb dL_does_177 (by decide) ?_
      refine lv_goto (tgt := 199) hx hb dL_does_178 (by decide) ?_
      exact K_199 w _ 0 x5 x4 (by omega) hr _ _ ls hV hS (lv_sub hl [] rfl)
  have K_280 : ∀ (w : Nat) (V : St) (x4 : Int32) (x5 : Int32) (x6 : Int32) (x7 : Int32), w + 184 ≤ 184 → f_L_does_b280 G.2.2.2.2.2.1 G.2.2.2.2.2.2 V x4 x5 x6 x7 = some res → ∀ (H : Heap) (locs : List Loc) (ls : Array Slot), Hd G b0 V H → va_S (Ab b0) s.heap H locs → lv_has ls 8 [(3, .ref (b0 + 0)), (4, .int x4), (5, .int x5), (6, .int x6), (7, .int x7)] → W p l e (rmc 14 184) s m args below meth c H locs w (6 * w) (MQ below (QI G b0 res.1 res.2) args s 184 (6 * 184) (Ab b0)) (F0 m 280 ls []) := by
    intro w V x4 x5 x6 x7 hw hr H locs ls hV hS hl
    unfold f_L_does_b280 at hr
    exact does_txt hfl C hV hS hl (by omega) hr
  have K_49 : ∀ (w : Nat) (V : St) (x2 : Int32) (x4 : Int32) (x5 : Int32) (x6 : Int32) (y0 : Int32), w + 184 ≤ 184 → f_L_does_b49 G.2.2.2.2.2.1 G.2.2.2.2.2.2 V x2 x4 x5 x6 y0 = some res → ∀ (H : Heap) (locs : List Loc) (ls : Array Slot), Hd G b0 V H → va_S (Ab b0) s.heap H locs → lv_has ls 8 [(2, .int x2), (3, .ref (b0 + 0)), (4, .int x4), (5, .int x5), (6, .int x6)] → W p l e (rmc 14 184) s m args below meth c H locs w (6 * w) (MQ below (QI G b0 res.1 res.2) args s 184 (6 * 184) (Ab b0)) (F0 m 49 ls [.int y0]) := by
    intro w V x2 x4 x5 x6 y0 hw hr H locs ls hV hS hl
    unfold f_L_does_b49 at hr
    refine lv_istore (lv' := [(7, .int y0), (2, .int x2), (3, .ref (b0 + 0)), (4, .int x4), (5, .int x5), (6, .int x6)]) hx hb dL_does_49 hl (by decide) rfl (fun ls hl => ?_)
    refine lv_iload_n hx hb dL_does_51 rfl (lv_at hl 1 rfl) ?_
    by_cases b_4 : x2 = 0
    · have hr := it b_4 hr
      refine lv_tableIn (off := 112) (tgt := 164) hx hb dL_does_52 (by rw [b_4]; decide) (by rw [b_4]; decide) (by rw [b_4]; decide +kernel) (by decide) ?_
      exact K_164 w _ x4 x5 x6 (by omega) hr _ _ ls hV hS (lv_sub hl [2, 3, 4, 5] rfl)
    have hr := ie b_4 hr
    by_cases b_5 : x2 = 1
    · have hr := it b_5 hr
      refine lv_tableIn (off := 112) (tgt := 164) hx hb dL_does_52 (by rw [b_5]; decide) (by rw [b_5]; decide) (by rw [b_5]; decide +kernel) (by decide) ?_
      exact K_164 w _ x4 x5 x6 (by omega) hr _ _ ls hV hS (lv_sub hl [2, 3, 4, 5] rfl)
    have hr := ie b_5 hr
    by_cases b_6 : x2 = 2
    · have hr := it b_6 hr
      refine lv_tableIn (off := 112) (tgt := 164) hx hb dL_does_52 (by rw [b_6]; decide) (by rw [b_6]; decide) (by rw [b_6]; decide +kernel) (by decide) ?_
      exact K_164 w _ x4 x5 x6 (by omega) hr _ _ ls hV hS (lv_sub hl [2, 3, 4, 5] rfl)
    have hr := ie b_6 hr
    by_cases b_7 : x2 = 3
    · have hr := it b_7 hr
      refine lv_tableIn (off := 112) (tgt := 164) hx hb dL_does_52 (by rw [b_7]; decide) (by rw [b_7]; decide) (by rw [b_7]; decide +kernel) (by decide) ?_
      exact K_164 w _ x4 x5 x6 (by omega) hr _ _ ls hV hS (lv_sub hl [2, 3, 4, 5] rfl)
    have hr := ie b_7 hr
    by_cases b_8 : x2 = 4
    · have hr := it b_8 hr
      refine lv_tableIn (off := 112) (tgt := 164) hx hb dL_does_52 (by rw [b_8]; decide) (by rw [b_8]; decide) (by rw [b_8]; decide +kernel) (by decide) ?_
      exact K_164 w _ x4 x5 x6 (by omega) hr _ _ ls hV hS (lv_sub hl [2, 3, 4, 5] rfl)
    have hr := ie b_8 hr
    by_cases b_9 : x2 = 5
    · have hr := it b_9 hr
      refine lv_tableIn (off := 112) (tgt := 164) hx hb dL_does_52 (by rw [b_9]; decide) (by rw [b_9]; decide) (by rw [b_9]; decide +kernel) (by decide) ?_
      exact K_164 w _ x4 x5 x6 (by omega) hr _ _ ls hV hS (lv_sub hl [2, 3, 4, 5] rfl)
    have hr := ie b_9 hr
    by_cases b_10 : x2 = 6
    · have hr := it b_10 hr
      refine lv_tableIn (off := 112) (tgt := 164) hx hb dL_does_52 (by rw [b_10]; decide) (by rw [b_10]; decide) (by rw [b_10]; decide +kernel) (by decide) ?_
      exact K_164 w _ x4 x5 x6 (by omega) hr _ _ ls hV hS (lv_sub hl [2, 3, 4, 5] rfl)
    have hr := ie b_10 hr
    by_cases b_11 : x2 = 7
    · have hr := it b_11 hr
      refine lv_tableIn (off := 112) (tgt := 164) hx hb dL_does_52 (by rw [b_11]; decide) (by rw [b_11]; decide) (by rw [b_11]; decide +kernel) (by decide) ?_
      exact K_164 w _ x4 x5 x6 (by omega) hr _ _ ls hV hS (lv_sub hl [2, 3, 4, 5] rfl)
    have hr := ie b_11 hr
    by_cases b_12 : x2 = 8
    · have hr := it b_12 hr
      refine lv_tableIn (off := 151) (tgt := 203) hx hb dL_does_52 (by rw [b_12]; decide) (by rw [b_12]; decide) (by rw [b_12]; decide +kernel) (by decide) ?_
      refine lv_aload_n hx hb dL_does_203 rfl (lv_at hl 2 rfl) ?_
      refine lv_iload hx hb dL_does_204 (lv_at hl 3 rfl) ?_
      refine lv_iload hx hb dL_does_206 (lv_at hl 4 rfl) ?_
      refine lv_iload hx hb dL_does_208 (lv_at hl 0 rfl) ?_
      obtain ⟨q13, e13, hr⟩ := ob hr
      refine cal_ic (run_HC (As := [.ref (b0 + 0), .int x4, .int x5, .int y0]) (rest := []) C hV hS (c_L_tear l hfl G b0 V x4 x5 y0 q13 e13) q_680 q_681 q_92 q_682 dk_L_tear (rmc_ok (by decide) (by decide)) hl.1 rfl (Nat.le_of_ble_eq_true rfl) dL_does_210 (rmc_cs (by omega))) hS (fun H locs hV hS => ?_)
      rw [← Option.some.inj hr]
      exact fin_ic (w := w + 1) C hV hS (by omega) rfl dL_does_213
    have hr := ie b_12 hr
    by_cases b_14 : x2 = 9
    · have hr := it b_14 hr
      refine lv_tableIn (off := 151) (tgt := 203) hx hb dL_does_52 (by rw [b_14]; decide) (by rw [b_14]; decide) (by rw [b_14]; decide +kernel) (by decide) ?_
      refine lv_aload_n hx hb dL_does_203 rfl (lv_at hl 2 rfl) ?_
      refine lv_iload hx hb dL_does_204 (lv_at hl 3 rfl) ?_
      refine lv_iload hx hb dL_does_206 (lv_at hl 4 rfl) ?_
      refine lv_iload hx hb dL_does_208 (lv_at hl 0 rfl) ?_
      obtain ⟨q15, e15, hr⟩ := ob hr
      refine cal_ic (run_HC (As := [.ref (b0 + 0), .int x4, .int x5, .int y0]) (rest := []) C hV hS (c_L_tear l hfl G b0 V x4 x5 y0 q15 e15) q_680 q_681 q_92 q_682 dk_L_tear (rmc_ok (by decide) (by decide)) hl.1 rfl (Nat.le_of_ble_eq_true rfl) dL_does_210 (rmc_cs (by omega))) hS (fun H locs hV hS => ?_)
      rw [← Option.some.inj hr]
      exact fin_ic (w := w + 1) C hV hS (by omega) rfl dL_does_213
    have hr := ie b_14 hr
    by_cases b_16 : x2 = 10
    · have hr := it b_16 hr
      refine lv_tableIn (off := 151) (tgt := 203) hx hb dL_does_52 (by rw [b_16]; decide) (by rw [b_16]; decide) (by rw [b_16]; decide +kernel) (by decide) ?_
      refine lv_aload_n hx hb dL_does_203 rfl (lv_at hl 2 rfl) ?_
      refine lv_iload hx hb dL_does_204 (lv_at hl 3 rfl) ?_
      refine lv_iload hx hb dL_does_206 (lv_at hl 4 rfl) ?_
      refine lv_iload hx hb dL_does_208 (lv_at hl 0 rfl) ?_
      obtain ⟨q17, e17, hr⟩ := ob hr
      refine cal_ic (run_HC (As := [.ref (b0 + 0), .int x4, .int x5, .int y0]) (rest := []) C hV hS (c_L_tear l hfl G b0 V x4 x5 y0 q17 e17) q_680 q_681 q_92 q_682 dk_L_tear (rmc_ok (by decide) (by decide)) hl.1 rfl (Nat.le_of_ble_eq_true rfl) dL_does_210 (rmc_cs (by omega))) hS (fun H locs hV hS => ?_)
      rw [← Option.some.inj hr]
      exact fin_ic (w := w + 1) C hV hS (by omega) rfl dL_does_213
    have hr := ie b_16 hr
    by_cases b_18 : x2 = 11
    · have hr := it b_18 hr
      refine lv_tableIn (off := 151) (tgt := 203) hx hb dL_does_52 (by rw [b_18]; decide) (by rw [b_18]; decide) (by rw [b_18]; decide +kernel) (by decide) ?_
      refine lv_aload_n hx hb dL_does_203 rfl (lv_at hl 2 rfl) ?_
      refine lv_iload hx hb dL_does_204 (lv_at hl 3 rfl) ?_
      refine lv_iload hx hb dL_does_206 (lv_at hl 4 rfl) ?_
      refine lv_iload hx hb dL_does_208 (lv_at hl 0 rfl) ?_
      obtain ⟨q19, e19, hr⟩ := ob hr
      refine cal_ic (run_HC (As := [.ref (b0 + 0), .int x4, .int x5, .int y0]) (rest := []) C hV hS (c_L_tear l hfl G b0 V x4 x5 y0 q19 e19) q_680 q_681 q_92 q_682 dk_L_tear (rmc_ok (by decide) (by decide)) hl.1 rfl (Nat.le_of_ble_eq_true rfl) dL_does_210 (rmc_cs (by omega))) hS (fun H locs hV hS => ?_)
      rw [← Option.some.inj hr]
      exact fin_ic (w := w + 1) C hV hS (by omega) rfl dL_does_213
    have hr := ie b_18 hr
    by_cases b_20 : x2 = 12
    · have hr := it b_20 hr
      refine lv_tableIn (off := 151) (tgt := 203) hx hb dL_does_52 (by rw [b_20]; decide) (by rw [b_20]; decide) (by rw [b_20]; decide +kernel) (by decide) ?_
      refine lv_aload_n hx hb dL_does_203 rfl (lv_at hl 2 rfl) ?_
      refine lv_iload hx hb dL_does_204 (lv_at hl 3 rfl) ?_
      refine lv_iload hx hb dL_does_206 (lv_at hl 4 rfl) ?_
      refine lv_iload hx hb dL_does_208 (lv_at hl 0 rfl) ?_
      obtain ⟨q21, e21, hr⟩ := ob hr
      refine cal_ic (run_HC (As := [.ref (b0 + 0), .int x4, .int x5, .int y0]) (rest := []) C hV hS (c_L_tear l hfl G b0 V x4 x5 y0 q21 e21) q_680 q_681 q_92 q_682 dk_L_tear (rmc_ok (by decide) (by decide)) hl.1 rfl (Nat.le_of_ble_eq_true rfl) dL_does_210 (rmc_cs (by omega))) hS (fun H locs hV hS => ?_)
      rw [← Option.some.inj hr]
      exact fin_ic (w := w + 1) C hV hS (by omega) rfl dL_does_213
    have hr := ie b_20 hr
    by_cases b_22 : x2 = 13
    · have hr := it b_22 hr
      refine lv_tableIn (off := 162) (tgt := 214) hx hb dL_does_52 (by rw [b_22]; decide) (by rw [b_22]; decide) (by rw [b_22]; decide +kernel) (by decide) ?_
      refine lv_aload_n hx hb dL_does_214 rfl (lv_at hl 2 rfl) ?_
      refine lv_iload hx hb dL_does_215 (lv_at hl 3 rfl) ?_
      refine lv_iload hx hb dL_does_217 (lv_at hl 0 rfl) ?_
      refine lv_iload hx hb dL_does_219 (lv_at hl 4 rfl) ?_
      refine lv_iload hx hb dL_does_221 (lv_at hl 5 rfl) ?_
      refine lv_iconst (v := 3) hx hb dL_does_223 (by decide) ?_
      refine lv_irem hx hb dL_does_224 (by decide) ?_
      obtain ⟨q23, e23, hr⟩ := ob hr
      refine cal_ic (run_HC (As := [.ref (b0 + 0), .int x4, .int y0, .int x5, .int (x6 - x6 / 3 * 3)]) (rest := []) C hV hS (c_L_mend l hfl G b0 V x4 y0 x5 (x6 - x6 / 3 * 3) q23 e23) q_727 q_728 q_92 q_729 dk_L_mend (rmc_ok (by decide) (by decide)) hl.1 rfl (Nat.le_of_ble_eq_true rfl) dL_does_225 (rmc_cs (by omega))) hS (fun H locs hV hS => ?_)
      rw [← Option.some.inj hr]
      exact fin_ic (w := w + 1) C hV hS (by omega) rfl dL_does_228
    have hr := ie b_22 hr
    by_cases b_24 : x2 = 14
    · have hr := it b_24 hr
      refine lv_tableIn (off := 162) (tgt := 214) hx hb dL_does_52 (by rw [b_24]; decide) (by rw [b_24]; decide) (by rw [b_24]; decide +kernel) (by decide) ?_
      refine lv_aload_n hx hb dL_does_214 rfl (lv_at hl 2 rfl) ?_
      refine lv_iload hx hb dL_does_215 (lv_at hl 3 rfl) ?_
      refine lv_iload hx hb dL_does_217 (lv_at hl 0 rfl) ?_
      refine lv_iload hx hb dL_does_219 (lv_at hl 4 rfl) ?_
      refine lv_iload hx hb dL_does_221 (lv_at hl 5 rfl) ?_
      refine lv_iconst (v := 3) hx hb dL_does_223 (by decide) ?_
      refine lv_irem hx hb dL_does_224 (by decide) ?_
      obtain ⟨q25, e25, hr⟩ := ob hr
      refine cal_ic (run_HC (As := [.ref (b0 + 0), .int x4, .int y0, .int x5, .int (x6 - x6 / 3 * 3)]) (rest := []) C hV hS (c_L_mend l hfl G b0 V x4 y0 x5 (x6 - x6 / 3 * 3) q25 e25) q_727 q_728 q_92 q_729 dk_L_mend (rmc_ok (by decide) (by decide)) hl.1 rfl (Nat.le_of_ble_eq_true rfl) dL_does_225 (rmc_cs (by omega))) hS (fun H locs hV hS => ?_)
      rw [← Option.some.inj hr]
      exact fin_ic (w := w + 1) C hV hS (by omega) rfl dL_does_228
    have hr := ie b_24 hr
    by_cases b_26 : x2 = 15
    · have hr := it b_26 hr
      refine lv_tableIn (off := 162) (tgt := 214) hx hb dL_does_52 (by rw [b_26]; decide) (by rw [b_26]; decide) (by rw [b_26]; decide +kernel) (by decide) ?_
      refine lv_aload_n hx hb dL_does_214 rfl (lv_at hl 2 rfl) ?_
      refine lv_iload hx hb dL_does_215 (lv_at hl 3 rfl) ?_
      refine lv_iload hx hb dL_does_217 (lv_at hl 0 rfl) ?_
      refine lv_iload hx hb dL_does_219 (lv_at hl 4 rfl) ?_
      refine lv_iload hx hb dL_does_221 (lv_at hl 5 rfl) ?_
      refine lv_iconst (v := 3) hx hb dL_does_223 (by decide) ?_
      refine lv_irem hx hb dL_does_224 (by decide) ?_
      obtain ⟨q27, e27, hr⟩ := ob hr
      refine cal_ic (run_HC (As := [.ref (b0 + 0), .int x4, .int y0, .int x5, .int (x6 - x6 / 3 * 3)]) (rest := []) C hV hS (c_L_mend l hfl G b0 V x4 y0 x5 (x6 - x6 / 3 * 3) q27 e27) q_727 q_728 q_92 q_729 dk_L_mend (rmc_ok (by decide) (by decide)) hl.1 rfl (Nat.le_of_ble_eq_true rfl) dL_does_225 (rmc_cs (by omega))) hS (fun H locs hV hS => ?_)
      rw [← Option.some.inj hr]
      exact fin_ic (w := w + 1) C hV hS (by omega) rfl dL_does_228
    have hr := ie b_26 hr
    by_cases b_28 : x2 = 16
    · have hr := it b_28 hr
      refine lv_tableIn (off := 177) (tgt := 229) hx hb dL_does_52 (by rw [b_28]; decide) (by rw [b_28]; decide) (by rw [b_28]; decide +kernel) (by decide) ?_
      refine lv_aload_n hx hb dL_does_229 rfl (lv_at hl 2 rfl) ?_
      refine lv_iload hx hb dL_does_230 (lv_at hl 5 rfl) ?_
      refine lv_bipush (v := 13) hx hb dL_does_232 (by decide) ?_
      refine lv_irem hx hb dL_does_234 (by decide) ?_
      obtain ⟨q29, e29, hr⟩ := ob hr
      refine cal_ic (run_HC (As := [.ref (b0 + 0), .int (x6 - x6 / 13 * 13)]) (rest := []) C hV hS (c_L_editor l hfl G b0 V (x6 - x6 / 13 * 13) q29 e29) q_753 q_754 q_92 q_755 dk_L_editor (rmc_ok (by decide) (by decide)) hl.1 rfl (Nat.le_of_ble_eq_true rfl) dL_does_235 (rmc_cs (by omega))) hS (fun H locs hV hS => ?_)
      rw [← Option.some.inj hr]
      exact fin_ic (w := w + 1) C hV hS (by omega) rfl dL_does_238
    have hr := ie b_28 hr
    by_cases b_30 : x2 = 17
    · have hr := it b_30 hr
      refine lv_tableIn (off := 187) (tgt := 239) hx hb dL_does_52 (by rw [b_30]; decide) (by rw [b_30]; decide) (by rw [b_30]; decide +kernel) (by decide) ?_
      refine lv_aload_n hx hb dL_does_239 rfl (lv_at hl 2 rfl) ?_
      refine lv_iload hx hb dL_does_240 (lv_at hl 5 rfl) ?_
      refine lv_bipush (v := 6) hx hb dL_does_242 (by decide) ?_
      refine lv_irem hx hb dL_does_244 (by decide) ?_
      obtain ⟨q31, e31, hr⟩ := ob hr
      refine cal_ic (run_HC (As := [.ref (b0 + 0), .int (x6 - x6 / 6 * 6)]) (rest := []) C hV hS (c_L_tide l hfl G b0 V (x6 - x6 / 6 * 6) q31 e31) q_769 q_770 q_92 q_771 dk_L_tide (rmc_ok (by decide) (by decide)) hl.1 rfl (Nat.le_of_ble_eq_true rfl) dL_does_245 (rmc_cs (by omega))) hS (fun H locs hV hS => ?_)
      rw [← Option.some.inj hr]
      exact fin_ic (w := w + 1) C hV hS (by omega) rfl dL_does_248
    have hr := ie b_30 hr
    by_cases b_32 : x2 = 18
    · have hr := it b_32 hr
      refine lv_tableIn (off := 197) (tgt := 249) hx hb dL_does_52 (by rw [b_32]; decide) (by rw [b_32]; decide) (by rw [b_32]; decide +kernel) (by decide) ?_
      refine lv_aload_n hx hb dL_does_249 rfl (lv_at hl 2 rfl) ?_
      refine lv_iload hx hb dL_does_250 (lv_at hl 3 rfl) ?_
      refine lv_iload hx hb dL_does_252 (lv_at hl 5 rfl) ?_
      refine lv_bipush (v := 6) hx hb dL_does_254 (by decide) ?_
      refine lv_irem hx hb dL_does_256 (by decide) ?_
      obtain ⟨q33, e33, hr⟩ := ob hr
      refine cal_ic (run_HC (As := [.ref (b0 + 0), .int x4, .int (x6 - x6 / 6 * 6)]) (rest := []) C hV hS (c_L_sink l hfl G b0 V x4 (x6 - x6 / 6 * 6) q33 e33) q_794 q_795 q_92 q_796 dk_L_sink (rmc_ok (by decide) (by decide)) hl.1 rfl (Nat.le_of_ble_eq_true rfl) dL_does_257 (rmc_cs (by omega))) hS (fun H locs hV hS => ?_)
      rw [← Option.some.inj hr]
      exact fin_ic (w := w + 1) C hV hS (by omega) rfl dL_does_260
    have hr := ie b_32 hr
    by_cases b_34 : x2 = 19
    · have hr := it b_34 hr
      refine lv_tableIn (off := 209) (tgt := 261) hx hb dL_does_52 (by rw [b_34]; decide) (by rw [b_34]; decide) (by rw [b_34]; decide +kernel) (by decide) ?_
      refine lv_aload_n hx hb dL_does_261 rfl (lv_at hl 2 rfl) ?_
      refine lv_iload hx hb dL_does_262 (lv_at hl 3 rfl) ?_
      refine lv_iload hx hb dL_does_264 (lv_at hl 4 rfl) ?_
      obtain ⟨q35, e35, hr⟩ := ob hr
      refine cal_ic (run_HC (As := [.ref (b0 + 0), .int x4, .int x5]) (rest := []) C hV hS (c_L_note l hfl G b0 V x4 x5 q35 e35) q_807 q_808 q_92 q_809 dk_L_note (rmc_ok (by decide) (by decide)) hl.1 rfl (Nat.le_of_ble_eq_true rfl) dL_does_266 (rmc_cs (by omega))) hS (fun H locs hV hS => ?_)
      rw [← Option.some.inj hr]
      exact fin_ic (w := w + 1) C hV hS (by omega) rfl dL_does_269
    have hr := ie b_34 hr
    by_cases b_36 : x2 = 20
    · have hr := it b_36 hr
      refine lv_tableIn (off := 209) (tgt := 261) hx hb dL_does_52 (by rw [b_36]; decide) (by rw [b_36]; decide) (by rw [b_36]; decide +kernel) (by decide) ?_
      refine lv_aload_n hx hb dL_does_261 rfl (lv_at hl 2 rfl) ?_
      refine lv_iload hx hb dL_does_262 (lv_at hl 3 rfl) ?_
      refine lv_iload hx hb dL_does_264 (lv_at hl 4 rfl) ?_
      obtain ⟨q37, e37, hr⟩ := ob hr
      refine cal_ic (run_HC (As := [.ref (b0 + 0), .int x4, .int x5]) (rest := []) C hV hS (c_L_note l hfl G b0 V x4 x5 q37 e37) q_807 q_808 q_92 q_809 dk_L_note (rmc_ok (by decide) (by decide)) hl.1 rfl (Nat.le_of_ble_eq_true rfl) dL_does_266 (rmc_cs (by omega))) hS (fun H locs hV hS => ?_)
      rw [← Option.some.inj hr]
      exact fin_ic (w := w + 1) C hV hS (by omega) rfl dL_does_269
    have hr := ie b_36 hr
    by_cases b_38 : x2 = 21
    · have hr := it b_38 hr
      refine lv_tableIn (off := 209) (tgt := 261) hx hb dL_does_52 (by rw [b_38]; decide) (by rw [b_38]; decide) (by rw [b_38]; decide +kernel) (by decide) ?_
      refine lv_aload_n hx hb dL_does_261 rfl (lv_at hl 2 rfl) ?_
      refine lv_iload hx hb dL_does_262 (lv_at hl 3 rfl) ?_
      refine lv_iload hx hb dL_does_264 (lv_at hl 4 rfl) ?_
      obtain ⟨q39, e39, hr⟩ := ob hr
      refine cal_ic (run_HC (As := [.ref (b0 + 0), .int x4, .int x5]) (rest := []) C hV hS (c_L_note l hfl G b0 V x4 x5 q39 e39) q_807 q_808 q_92 q_809 dk_L_note (rmc_ok (by decide) (by decide)) hl.1 rfl (Nat.le_of_ble_eq_true rfl) dL_does_266 (rmc_cs (by omega))) hS (fun H locs hV hS => ?_)
      rw [← Option.some.inj hr]
      exact fin_ic (w := w + 1) C hV hS (by omega) rfl dL_does_269
    have hr := ie b_38 hr
    by_cases b_40 : x2 = 22
    · have hr := it b_40 hr
      refine lv_tableIn (off := 209) (tgt := 261) hx hb dL_does_52 (by rw [b_40]; decide) (by rw [b_40]; decide) (by rw [b_40]; decide +kernel) (by decide) ?_
      refine lv_aload_n hx hb dL_does_261 rfl (lv_at hl 2 rfl) ?_
      refine lv_iload hx hb dL_does_262 (lv_at hl 3 rfl) ?_
      refine lv_iload hx hb dL_does_264 (lv_at hl 4 rfl) ?_
      obtain ⟨q41, e41, hr⟩ := ob hr
      refine cal_ic (run_HC (As := [.ref (b0 + 0), .int x4, .int x5]) (rest := []) C hV hS (c_L_note l hfl G b0 V x4 x5 q41 e41) q_807 q_808 q_92 q_809 dk_L_note (rmc_ok (by decide) (by decide)) hl.1 rfl (Nat.le_of_ble_eq_true rfl) dL_does_266 (rmc_cs (by omega))) hS (fun H locs hV hS => ?_)
      rw [← Option.some.inj hr]
      exact fin_ic (w := w + 1) C hV hS (by omega) rfl dL_does_269
    have hr := ie b_40 hr
    by_cases b_42 : x2 = 23
    · have hr := it b_42 hr
      refine lv_tableIn (off := 218) (tgt := 270) hx hb dL_does_52 (by rw [b_42]; decide) (by rw [b_42]; decide) (by rw [b_42]; decide +kernel) (by decide) ?_
      refine lv_aload_n hx hb dL_does_270 rfl (lv_at hl 2 rfl) ?_
      refine lv_iload hx hb dL_does_271 (lv_at hl 5 rfl) ?_
      refine lv_bipush (v := 7) hx hb dL_does_273 (by decide) ?_
      refine lv_irem hx hb dL_does_275 (by decide) ?_
      obtain ⟨q43, e43, hr⟩ := ob hr
      refine cal_ic (run_HC (As := [.ref (b0 + 0), .int (x6 - x6 / 7 * 7)]) (rest := []) C hV hS (c_L_drop l hfl G b0 V (x6 - x6 / 7 * 7) q43 e43) q_828 q_829 q_92 q_830 dk_L_drop (rmc_ok (by decide) (by decide)) hl.1 rfl (Nat.le_of_ble_eq_true rfl) dL_does_276 (rmc_cs (by omega))) hS (fun H locs hV hS => ?_)
      rw [← Option.some.inj hr]
      exact fin_ic (w := w + 1) C hV hS (by omega) rfl dL_does_279
    have hr := ie b_42 hr
    have n_4 := lv_neT (a := 0) b_4 (by decide)
    have n_5 := lv_neT (a := 1) b_5 (by decide)
    have n_6 := lv_neT (a := 2) b_6 (by decide)
    have n_7 := lv_neT (a := 3) b_7 (by decide)
    have n_8 := lv_neT (a := 4) b_8 (by decide)
    have n_9 := lv_neT (a := 5) b_9 (by decide)
    have n_10 := lv_neT (a := 6) b_10 (by decide)
    have n_11 := lv_neT (a := 7) b_11 (by decide)
    have n_12 := lv_neT (a := 8) b_12 (by decide)
    have n_14 := lv_neT (a := 9) b_14 (by decide)
    have n_16 := lv_neT (a := 10) b_16 (by decide)
    have n_18 := lv_neT (a := 11) b_18 (by decide)
    have n_20 := lv_neT (a := 12) b_20 (by decide)
    have n_22 := lv_neT (a := 13) b_22 (by decide)
    have n_24 := lv_neT (a := 14) b_24 (by decide)
    have n_26 := lv_neT (a := 15) b_26 (by decide)
    have n_28 := lv_neT (a := 16) b_28 (by decide)
    have n_30 := lv_neT (a := 17) b_30 (by decide)
    have n_32 := lv_neT (a := 18) b_32 (by decide)
    have n_34 := lv_neT (a := 19) b_34 (by decide)
    have n_36 := lv_neT (a := 20) b_36 (by decide)
    have n_38 := lv_neT (a := 21) b_38 (by decide)
    have n_40 := lv_neT (a := 22) b_40 (by decide)
    have n_42 := lv_neT (a := 23) b_42 (by decide)
    refine lv_tableOut (tgt := 280) hx hb dL_does_52 (by omega) (by decide) ?_
    exact K_280 w _ x4 x5 x6 y0 (by omega) hr _ _ ls hV hS (lv_sub hl [2, 3, 4, 5, 0] rfl)
  unfold f_L_does at hr
  refine lv_aload_n hx hb dL_does_0 rfl (lv_at hl 0 rfl) ?_
  refine lv_iload_n hx hb dL_does_1 rfl (lv_at hl 1 rfl) ?_
  refine lv_iconst (v := 1) hx hb dL_does_2 (by decide) ?_
  refine lv_iadd hx hb dL_does_3 ?_
  refine lv_sipush (v := 1000) hx hb dL_does_4 (by decide) ?_
  obtain ⟨q44, e44, hr⟩ := ob hr
  refine cal_ic (run_C (As := [.ref G.2.2.2.2.1, .int (x1 + 1), .int 1000]) (rest := []) C hV hS (c_L_pick l G b0 V (x1 + 1) 1000 q44 e44) q_373 q_374 q_92 q_375 dk_L_pick (rmc_ok (by decide) (by decide)) hl.1 rfl (Nat.le_of_ble_eq_true rfl) dL_does_7 (rmc_cs (by omega))) hS (fun H locs hV hS => ?_)
  refine lv_istore (lv' := [(6, .int q44), (0, .ref G.2.2.2.2.1), (1, .int x1), (2, .int x2), (3, .ref (b0 + 0)), (4, .int x4), (5, .int x5)]) hx hb dL_does_10 hl (by decide) rfl (fun ls hl => ?_)
  refine lv_iload hx hb dL_does_12 (lv_at hl 0 rfl) ?_
  refine lv_iconst (v := 5) hx hb dL_does_14 (by decide) ?_
  refine lv_irem hx hb dL_does_15 (by decide) ?_
  refine lv_if_ne (tgt := 27) hx hb dL_does_16 (by decide) (fun b_45 => ?_) (fun b_45 => ?_)
  · have hr := ie b_45 hr
    refine lv_iload hx hb dL_does_27 (lv_at hl 0 rfl) ?_
    refine lv_iconst (v := 2) hx hb dL_does_29 (by decide) ?_
    refine lv_irem hx hb dL_does_30 (by decide) ?_
    refine lv_if_ne (tgt := 41) hx hb dL_does_31 (by decide) (fun b_46 => ?_) (fun b_46 => ?_)
    · have hr := ie b_46 hr
      refine lv_iload hx hb dL_does_41 (lv_at hl 6 rfl) ?_
      refine lv_bipush (v := 6) hx hb dL_does_43 (by decide) ?_
      refine lv_iadd hx hb dL_does_45 ?_
      refine lv_bipush (v := 24) hx hb dL_does_46 (by decide) ?_
      refine lv_irem hx hb dL_does_48 (by decide) ?_
      exact K_49 (0 + 0) _ x2 x4 x5 q44 ((x5 + 6) - (x5 + 6) / 24 * 24) (by omega) hr _ _ ls hV hS (lv_sub hl [3, 4, 5, 6, 0] rfl)
    · have hr := it b_46 hr
      refine lv_iload hx hb dL_does_34 (lv_at hl 6 rfl) ?_
      refine lv_iconst (v := 1) hx hb dL_does_36 (by decide) ?_
      refine lv_iadd hx hb dL_does_37 ?_
      refine lv_goto (tgt := 49) hx hb dL_does_38 (by decide) ?_
      exact K_49 (0 + 0) _ x2 x4 x5 q44 (x5 + 1) (by omega) hr _ _ ls hV hS (lv_sub hl [3, 4, 5, 6, 0] rfl)
  · have hr := it b_45 hr
    refine lv_iload hx hb dL_does_19 (lv_at hl 0 rfl) ?_
    refine lv_bipush (v := 25) hx hb dL_does_21 (by decide) ?_
    refine lv_irem hx hb dL_does_23 (by decide) ?_
    refine lv_goto (tgt := 49) hx hb dL_does_24 (by decide) ?_
    exact K_49 (0 + 0) _ x2 x4 x5 q44 (q44 - q44 / 25 * 25) (by omega) hr _ _ ls hV hS (lv_sub hl [3, 4, 5, 6, 0] rfl)
