def f_L_cell (L : Nat) (xs : Nat → Int32) (x1 : Int32) : Option (Int32) :=
  if (Int32.ofNat L) ≤ x1 then
    some (40503 * x1)
  else
    (ix x1 L).bind fun j2 =>
    some (xs j2)
set_option maxHeartbeats 8000000 in
set_option maxRecDepth 100000 in
theorem c_L_cell (l : Launch) (G : LG) (b0 : Nat) (V : St) (x1 : Int32) (res : Int32) (hr : f_L_cell G.2.2.2.2.2.1 G.2.2.2.2.2.2 x1 = some res) : Met l yL_cell (wy yL_cell cL_cell 2 (some .int)) (rmc 1 0) (va_Pc [.ref G.2.2.2.2.1, .int x1] (Iv G b0 V)) (QI G b0 res V) 0 (6 * 0) (Ab b0) := by
  refine mk_c (by decide +kernel) (Nat.le_of_ble_eq_true rfl) ?_
  intro p e s m below meth c C hV hS ls hl
  obtain ⟨args, hargs⟩ : ∃ z, z = ([.ref G.2.2.2.2.1, .int x1] : List Value).toArray := ⟨_, rfl⟩
  rw [← hargs] at C ⊢
  obtain ⟨hx, hb, hrt, hml, hown, hts, hlocks, hK, hSv⟩ := id C
  have hl : lv_has ls 2 [(0, .ref G.2.2.2.2.1), (1, .int x1)] := hl
  unfold f_L_cell at hr
  refine lv_iload_n hx hb dL_cell_0 rfl (lv_at hl 1 rfl) ?_
  refine lv_aload_n hx hb dL_cell_1 rfl (lv_at hl 0 rfl) ?_
  refine x_slen C hS dL_cell_2 ?_
  refine lv_icmp_ge (tgt := 12) hx hb dL_cell_3 (by decide) (fun b_1 => ?_) (fun b_1 => ?_)
  · have hr := it b_1 hr
    refine lv_ldc (v := 40503) hx hb hown (hts _ q_379) dL_cell_12 ?_
    refine lv_iload_n hx hb dL_cell_14 rfl (lv_at hl 1 rfl) ?_
    refine lv_imul hx hb dL_cell_15 ?_
    rw [← Option.some.inj hr]
    exact fin_ic (w := 0) C hV hS (by omega) rfl dL_cell_16
  · have hr := ie b_1 hr
    refine lv_aload_n hx hb dL_cell_6 rfl (lv_at hl 0 rfl) ?_
    refine lv_iload_n hx hb dL_cell_7 rfl (lv_at hl 1 rfl) ?_
    obtain ⟨j2, e2, hr⟩ := ob hr
    refine x_sld (n := 0) C hS e2 dL_cell_8 ?_
    refine lv_goto (tgt := 16) hx hb dL_cell_9 (by decide) ?_
    rw [← Option.some.inj hr]
    exact fin_ic (w := 0) C hV hS (by omega) rfl dL_cell_16
def f_L_pick (L : Nat) (xs : Nat → Int32) (x1 : Int32) (x2 : Int32) : Option (Int32) :=
  (f_L_cell L xs x1).bind fun q1 =>
  if x2 = 0 then none else
  some ((ush q1 1) - (ush q1 1) / x2 * x2)
set_option maxHeartbeats 8000000 in
set_option maxRecDepth 100000 in
theorem c_L_pick (l : Launch) (G : LG) (b0 : Nat) (V : St) (x1 : Int32) (x2 : Int32) (res : Int32) (hr : f_L_pick G.2.2.2.2.2.1 G.2.2.2.2.2.2 x1 x2 = some res) : Met l yL_pick (wy yL_pick cL_pick 3 (some .int)) (rmc 2 0) (va_Pc [.ref G.2.2.2.2.1, .int x1, .int x2] (Iv G b0 V)) (QI G b0 res V) 0 (6 * 0) (Ab b0) := by
  refine mk_c (by decide +kernel) (Nat.le_of_ble_eq_true rfl) ?_
  intro p e s m below meth c C hV hS ls hl
  obtain ⟨args, hargs⟩ : ∃ z, z = ([.ref G.2.2.2.2.1, .int x1, .int x2] : List Value).toArray := ⟨_, rfl⟩
  rw [← hargs] at C ⊢
  obtain ⟨hx, hb, hrt, hml, hown, hts, hlocks, hK, hSv⟩ := id C
  have hl : lv_has ls 3 [(0, .ref G.2.2.2.2.1), (1, .int x1), (2, .int x2)] := hl
  unfold f_L_pick at hr
  refine lv_aload_n hx hb dL_pick_0 rfl (lv_at hl 0 rfl) ?_
  refine lv_iload_n hx hb dL_pick_1 rfl (lv_at hl 1 rfl) ?_
  obtain ⟨q1, e1, hr⟩ := ob hr
  refine cal_ic (run_C (As := [.ref G.2.2.2.2.1, .int x1]) (rest := []) C hV hS (c_L_cell l G b0 V x1 q1 e1) q_376 q_377 q_92 q_378 dk_L_cell (rmc_ok (by decide) (by decide)) hl.1 rfl (Nat.le_of_ble_eq_true rfl) dL_pick_2 (rmc_cs (by omega))) hS (fun H locs hV hS => ?_)
  refine lv_iconst (v := 1) hx hb dL_pick_5 (by decide) ?_
  refine lv_iushr (v := ush q1 1) hx hb dL_pick_6 rfl ?_
  refine lv_iload_n hx hb dL_pick_7 rfl (lv_at hl 2 rfl) ?_
  by_cases b_2 : x2 = 0
  · have hr := it b_2 hr
    cases hr
  have hr := ie b_2 hr
  refine lv_irem hx hb dL_pick_8 b_2 ?_
  rw [← Option.some.inj hr]
  exact fin_ic (w := 0 + 0) C hV hS (by omega) rfl dL_pick_9
def f_L_sum_b211 : Nat → St → Int64 → Int32 → Option (Int64 × St)
  | 0, _, _, _ => none
  | n + 1, V, x1, x3 =>
    (f_L_account V 3).bind fun q1 =>
    if q1 ≤ x3 then
      some (x1, V)
    else
      (f_L_editorOf V x3 0).bind fun q3 =>
      (f_L_editorOf V x3 1).bind fun q4 =>
      f_L_sum_b211 n V (((31 * x1) + (17 * (Int32.toInt64 q3))) + (Int32.toInt64 q4)) (x3 + 1)
def f_L_sum_b145 : Nat → St → Int64 → Int32 → Option (Int64 × St)
  | 0, _, _, _ => none
  | n + 1, V, x1, x3 =>
    (f_L_account V 5).bind fun q5 =>
    if q5 ≤ x3 then
      f_L_sum_b211 5 V x1 0
    else
      (f_L_noteOf V x3 0).bind fun q7 =>
      (f_L_noteOf V x3 1).bind fun q8 =>
      (f_L_noteOf V x3 2).bind fun q9 =>
      (f_L_noteLine V x3).bind fun q10 =>
      f_L_sum_b145 n q10.2 (((((31 * x1) + (1009 * (Int32.toInt64 q7))) + (31 * (Int32.toInt64 q8))) + (Int32.toInt64 q9)) + (7 * (Int32.toInt64 q10.1))) (x3 + 1)
def f_L_sum_b128 (c_53 : St → Int64 → Int32 → Int32 → Option (Int64 × St)) (c_31 : St → Int64 → Int32 → Option (Int64 × St)) (V : St) (x3 : Int32) (x4 : Int32) (y0 : Int32) (y1 : Int64) : Option (Int64 × St) :=
  c_53 V (y1 + (Int32.toInt64 y0)) x3 (x4 + 1)
def f_L_sum_b100 (c_53 : St → Int64 → Int32 → Int32 → Option (Int64 × St)) (c_31 : St → Int64 → Int32 → Option (Int64 × St)) (V : St) (x3 : Int32) (x4 : Int32) (y0 : Int32) (y1 : Int64) : Option (Int64 × St) :=
  if x4 ≤ 17 then
    (f_L_torn V x3 x4 (x4 + 6)).bind fun q12 =>
    f_L_sum_b128 c_53 c_31 V x3 x4 (11 * q12) (y1 + (Int32.toInt64 y0))
  else
    f_L_sum_b128 c_53 c_31 V x3 x4 0 (y1 + (Int32.toInt64 y0))
def f_L_sum_b53 (c_31 : St → Int64 → Int32 → Option (Int64 × St)) : Nat → St → Int64 → Int32 → Int32 → Option (Int64 × St)
  | 0, _, _, _, _ => none
  | n + 1, V, x1, x3, x4 =>
    if 24 ≤ x4 then
      c_31 V x1 (x3 + 1)
    else
      (f_L_kindOf V x3 x4).bind fun q14 =>
      if (x4 - x4 / 6 * 6) = 5 then
        f_L_sum_b100 (fun V x1 x3 x4 => f_L_sum_b53 c_31 n V x1 x3 x4) c_31 V x3 x4 0 ((31 * x1) + (Int32.toInt64 q14))
      else
        (f_L_torn V x3 x4 (x4 + 1)).bind fun q16 =>
        f_L_sum_b100 (fun V x1 x3 x4 => f_L_sum_b53 c_31 n V x1 x3 x4) c_31 V x3 x4 (5 * q16) ((31 * x1) + (Int32.toInt64 q14))
def f_L_sum_b31 : Nat → St → Int64 → Int32 → Option (Int64 × St)
  | 0, _, _, _ => none
  | n + 1, V, x1, x3 =>
    if 3 ≤ x3 then
      f_L_sum_b145 7 V x1 0
    else
      (f_L_netOf V x3 3).bind fun q18 =>
      f_L_sum_b53 (fun V x1 x3 => f_L_sum_b31 n V x1 x3) 25 V ((31 * x1) + (Int32.toInt64 q18)) x3 0
def f_L_sum_b4 : Nat → St → Int64 → Int32 → Option (Int64 × St)
  | 0, _, _, _ => none
  | n + 1, V, x1, x3 =>
    if 11 ≤ x3 then
      f_L_sum_b31 4 V x1 0
    else
      (f_L_account V x3).bind fun q20 =>
      f_L_sum_b4 n V ((31 * x1) + (Int32.toInt64 q20)) (x3 + 1)
def f_L_sum (V : St) : Option (Int64 × St) :=
  f_L_sum_b4 12 V 0 0
set_option maxHeartbeats 8000000 in
set_option maxRecDepth 100000 in
theorem c_L_sum (l : Launch) (hfl : l.stackTraces = false) (G : LG) (b0 : Nat) (V : St) (res : Int64 × St) (hr : f_L_sum V = some res) : Met l yL_sum (wy yL_sum cL_sum 5 (some .long)) (rmc 8 366) (va_Pc [.ref (b0 + 0)] (Iv G b0 V)) (QL G b0 res.1 res.2) 366 (6 * 366) (Ab b0) := by
  refine mk_c (by decide +kernel) (Nat.le_of_ble_eq_true rfl) ?_
  intro p e s m below meth c C hV hS ls hl
  obtain ⟨args, hargs⟩ : ∃ z, z = ([.ref (b0 + 0)] : List Value).toArray := ⟨_, rfl⟩
  rw [← hargs] at C ⊢
  obtain ⟨hx, hb, hrt, hml, hown, hts, hlocks, hK, hSv⟩ := id C
  have hl : lv_has ls 5 [(0, .ref (b0 + 0))] := hl
  have K_211 : ∀ (n : Nat) (w : Nat) (V : St) (x1 : Int64) (x3 : Int32), w + n * 3 + 0 ≤ 366 → f_L_sum_b211 n V x1 x3 = some res → ∀ (H : Heap) (locs : List Loc) (ls : Array Slot), Hd G b0 V H → va_S (Ab b0) s.heap H locs → lv_has ls 5 [(0, .ref (b0 + 0)), (1, .long x1), (3, .int x3)] → W p l e (rmc 8 366) s m args below meth c H locs w (6 * w) (MQ below (QL G b0 res.1 res.2) args s 366 (6 * 366) (Ab b0)) (F0 m 211 ls []) := by
    intro  n
    induction n with
    | zero =>
      intro w V x1 x3 hw hr
      rw [f_L_sum_b211] at hr
      cases hr
    | succ n ih =>
      intro w V x1 x3 hw hr H locs ls hV hS hl
      rw [f_L_sum_b211] at hr
      refine lv_iload_n hx hb dL_sum_211 rfl (lv_at hl 2 rfl) ?_
      refine lv_aload_n hx hb dL_sum_212 rfl (lv_at hl 0 rfl) ?_
      refine lv_iconst (v := 3) hx hb dL_sum_213 (by decide) ?_
      obtain ⟨q1, e1, hr⟩ := ob hr
      refine cal_ic (run_HC (As := [.ref (b0 + 0), .int 3]) (rest := [.int x3]) C hV hS (c_L_account l hfl G b0 V 3 q1 e1) q_522 q_523 q_92 q_524 dk_L_account (rmc_ok (by decide) (by decide)) hl.1 rfl (Nat.le_of_ble_eq_true rfl) dL_sum_214 (rmc_cs (by omega))) hS (fun H locs hV hS => ?_)
      refine lv_icmp_ge (tgt := 252) hx hb dL_sum_217 (by decide) (fun b_2 => ?_) (fun b_2 => ?_)
      · have hr := it b_2 hr
        refine lv_lload_n hx hb dL_sum_252 rfl (lv_at hl 1 rfl) ?_
        rw [← Option.some.inj hr]
        exact fin_lc (w := w + 1) C hV hS (by omega) rfl dL_sum_253
      · have hr := ie b_2 hr
        refine lv_ldc2 (v := 31) hx hb hown (hts _ q_1238) dL_sum_220 ?_
        refine lv_lload_n hx hb dL_sum_223 rfl (lv_at hl 1 rfl) ?_
        refine lv_lmul hx hb dL_sum_224 ?_
        refine lv_ldc2 (v := 17) hx hb hown (hts _ q_1327) dL_sum_225 ?_
        refine lv_aload_n hx hb dL_sum_228 rfl (lv_at hl 0 rfl) ?_
        refine lv_iload_n hx hb dL_sum_229 rfl (lv_at hl 2 rfl) ?_
        refine lv_iconst (v := 0) hx hb dL_sum_230 (by decide) ?_
        obtain ⟨q3, e3, hr⟩ := ob hr
        refine cal_ic (run_HC (As := [.ref (b0 + 0), .int x3, .int 0]) (rest := [.long 17, .long (31 * x1)]) C hV hS (c_L_editorOf l hfl G b0 V x3 0 q3 e3) q_1328 q_1329 q_92 q_1330 dk_L_editorOf (rmc_ok (by decide) (by decide)) hl.1 rfl (Nat.le_of_ble_eq_true rfl) dL_sum_231 (rmc_cs (by omega))) hS (fun H locs hV hS => ?_)
        refine lv_i2l (v := Int32.toInt64 q3) hx hb dL_sum_234 rfl ?_
        refine lv_lmul hx hb dL_sum_235 ?_
        refine lv_ladd hx hb dL_sum_236 ?_
        refine lv_aload_n hx hb dL_sum_237 rfl (lv_at hl 0 rfl) ?_
        refine lv_iload_n hx hb dL_sum_238 rfl (lv_at hl 2 rfl) ?_
        refine lv_iconst (v := 1) hx hb dL_sum_239 (by decide) ?_
        obtain ⟨q4, e4, hr⟩ := ob hr
        refine cal_ic (run_HC (As := [.ref (b0 + 0), .int x3, .int 1]) (rest := [.long ((31 * x1) + (17 * (Int32.toInt64 q3)))]) C hV hS (c_L_editorOf l hfl G b0 V x3 1 q4 e4) q_1328 q_1329 q_92 q_1330 dk_L_editorOf (rmc_ok (by decide) (by decide)) hl.1 rfl (Nat.le_of_ble_eq_true rfl) dL_sum_240 (rmc_cs (by omega))) hS (fun H locs hV hS => ?_)
        refine lv_i2l (v := Int32.toInt64 q4) hx hb dL_sum_243 rfl ?_
        refine lv_ladd hx hb dL_sum_244 ?_
        refine lv_lstore_n (lv' := [(1, .long (((31 * x1) + (17 * (Int32.toInt64 q3))) + (Int32.toInt64 q4))), (0, .ref (b0 + 0)), (3, .int x3)]) hx hb dL_sum_245 rfl hl (by decide) rfl (fun ls hl => ?_)
        refine lv_iinc (v := x3 + 1) (lv' := [(3, .int (x3 + 1)), (1, .long (((31 * x1) + (17 * (Int32.toInt64 q3))) + (Int32.toInt64 q4))), (0, .ref (b0 + 0))]) hx hb dL_sum_246 hl (k := 2) rfl rfl (by decide) rfl (fun ls hl => ?_)
        refine lv_goto (tgt := 211) hx hb dL_sum_249 (by decide) ?_
        exact ih (w + 1 + 1 + 1) _ (((31 * x1) + (17 * (Int32.toInt64 q3))) + (Int32.toInt64 q4)) (x3 + 1) (by omega) hr _ _ ls hV hS (lv_sub hl [2, 1, 0] rfl)
  have K_145 : ∀ (n : Nat) (w : Nat) (V : St) (x1 : Int64) (x3 : Int32), w + n * 5 + 15 ≤ 366 → f_L_sum_b145 n V x1 x3 = some res → ∀ (H : Heap) (locs : List Loc) (ls : Array Slot), Hd G b0 V H → va_S (Ab b0) s.heap H locs → lv_has ls 5 [(0, .ref (b0 + 0)), (1, .long x1), (3, .int x3)] → W p l e (rmc 8 366) s m args below meth c H locs w (6 * w) (MQ below (QL G b0 res.1 res.2) args s 366 (6 * 366) (Ab b0)) (F0 m 145 ls []) := by
    intro  n
    induction n with
    | zero =>
      intro w V x1 x3 hw hr
      rw [f_L_sum_b145] at hr
      cases hr
    | succ n ih =>
      intro w V x1 x3 hw hr H locs ls hV hS hl
      rw [f_L_sum_b145] at hr
      refine lv_iload_n hx hb dL_sum_145 rfl (lv_at hl 2 rfl) ?_
      refine lv_aload_n hx hb dL_sum_146 rfl (lv_at hl 0 rfl) ?_
      refine lv_iconst (v := 5) hx hb dL_sum_147 (by decide) ?_
      obtain ⟨q5, e5, hr⟩ := ob hr
      refine cal_ic (run_HC (As := [.ref (b0 + 0), .int 5]) (rest := [.int x3]) C hV hS (c_L_account l hfl G b0 V 5 q5 e5) q_522 q_523 q_92 q_524 dk_L_account (rmc_ok (by decide) (by decide)) hl.1 rfl (Nat.le_of_ble_eq_true rfl) dL_sum_148 (rmc_cs (by omega))) hS (fun H locs hV hS => ?_)
      refine lv_icmp_ge (tgt := 209) hx hb dL_sum_151 (by decide) (fun b_6 => ?_) (fun b_6 => ?_)
      · have hr := it b_6 hr
        refine lv_iconst (v := 0) hx hb dL_sum_209 (by decide) ?_
        refine lv_istore_n (lv' := [(3, .int 0), (0, .ref (b0 + 0)), (1, .long x1)]) hx hb dL_sum_210 rfl hl (by decide) rfl (fun ls hl => ?_)
        exact K_211 5 (w + 1) _ x1 0 (by omega) hr _ _ ls hV hS (lv_sub hl [1, 2, 0] rfl)
      · have hr := ie b_6 hr
        refine lv_ldc2 (v := 31) hx hb hown (hts _ q_1238) dL_sum_154 ?_
        refine lv_lload_n hx hb dL_sum_157 rfl (lv_at hl 1 rfl) ?_
        refine lv_lmul hx hb dL_sum_158 ?_
        refine lv_ldc2 (v := 1009) hx hb hown (hts _ q_1289) dL_sum_159 ?_
        refine lv_aload_n hx hb dL_sum_162 rfl (lv_at hl 0 rfl) ?_
        refine lv_iload_n hx hb dL_sum_163 rfl (lv_at hl 2 rfl) ?_
        refine lv_iconst (v := 0) hx hb dL_sum_164 (by decide) ?_
        obtain ⟨q7, e7, hr⟩ := ob hr
        refine cal_ic (run_HC (As := [.ref (b0 + 0), .int x3, .int 0]) (rest := [.long 1009, .long (31 * x1)]) C hV hS (c_L_noteOf l hfl G b0 V x3 0 q7 e7) q_1290 q_1291 q_92 q_1292 dk_L_noteOf (rmc_ok (by decide) (by decide)) hl.1 rfl (Nat.le_of_ble_eq_true rfl) dL_sum_165 (rmc_cs (by omega))) hS (fun H locs hV hS => ?_)
        refine lv_i2l (v := Int32.toInt64 q7) hx hb dL_sum_168 rfl ?_
        refine lv_lmul hx hb dL_sum_169 ?_
        refine lv_ladd hx hb dL_sum_170 ?_
        refine lv_ldc2 (v := 31) hx hb hown (hts _ q_1238) dL_sum_171 ?_
        refine lv_aload_n hx hb dL_sum_174 rfl (lv_at hl 0 rfl) ?_
        refine lv_iload_n hx hb dL_sum_175 rfl (lv_at hl 2 rfl) ?_
        refine lv_iconst (v := 1) hx hb dL_sum_176 (by decide) ?_
        obtain ⟨q8, e8, hr⟩ := ob hr
        refine cal_ic (run_HC (As := [.ref (b0 + 0), .int x3, .int 1]) (rest := [.long 31, .long ((31 * x1) + (1009 * (Int32.toInt64 q7)))]) C hV hS (c_L_noteOf l hfl G b0 V x3 1 q8 e8) q_1290 q_1291 q_92 q_1292 dk_L_noteOf (rmc_ok (by decide) (by decide)) hl.1 rfl (Nat.le_of_ble_eq_true rfl) dL_sum_177 (rmc_cs (by omega))) hS (fun H locs hV hS => ?_)
        refine lv_i2l (v := Int32.toInt64 q8) hx hb dL_sum_180 rfl ?_
        refine lv_lmul hx hb dL_sum_181 ?_
        refine lv_ladd hx hb dL_sum_182 ?_
        refine lv_aload_n hx hb dL_sum_183 rfl (lv_at hl 0 rfl) ?_
        refine lv_iload_n hx hb dL_sum_184 rfl (lv_at hl 2 rfl) ?_
        refine lv_iconst (v := 2) hx hb dL_sum_185 (by decide) ?_
        obtain ⟨q9, e9, hr⟩ := ob hr
        refine cal_ic (run_HC (As := [.ref (b0 + 0), .int x3, .int 2]) (rest := [.long (((31 * x1) + (1009 * (Int32.toInt64 q7))) + (31 * (Int32.toInt64 q8)))]) C hV hS (c_L_noteOf l hfl G b0 V x3 2 q9 e9) q_1290 q_1291 q_92 q_1292 dk_L_noteOf (rmc_ok (by decide) (by decide)) hl.1 rfl (Nat.le_of_ble_eq_true rfl) dL_sum_186 (rmc_cs (by omega))) hS (fun H locs hV hS => ?_)
        refine lv_i2l (v := Int32.toInt64 q9) hx hb dL_sum_189 rfl ?_
        refine lv_ladd hx hb dL_sum_190 ?_
        refine lv_ldc2 (v := 7) hx hb hown (hts _ q_1302) dL_sum_191 ?_
        refine lv_aload_n hx hb dL_sum_194 rfl (lv_at hl 0 rfl) ?_
        refine lv_iload_n hx hb dL_sum_195 rfl (lv_at hl 2 rfl) ?_
        obtain ⟨q10, e10, hr⟩ := ob hr
        refine cal_ic (run_HC (As := [.ref (b0 + 0), .int x3]) (rest := [.long 7, .long ((((31 * x1) + (1009 * (Int32.toInt64 q7))) + (31 * (Int32.toInt64 q8))) + (Int32.toInt64 q9))]) C hV hS (c_L_noteLine l hfl G b0 V x3 q10 e10) q_1303 q_1304 q_92 q_1305 dk_L_noteLine (rmc_ok (by decide) (by decide)) hl.1 rfl (Nat.le_of_ble_eq_true rfl) dL_sum_196 (rmc_cs (by omega))) hS (fun H locs hV hS => ?_)
        refine lv_i2l (v := Int32.toInt64 q10.1) hx hb dL_sum_199 rfl ?_
        refine lv_lmul hx hb dL_sum_200 ?_
        refine lv_ladd hx hb dL_sum_201 ?_
        refine lv_lstore_n (lv' := [(1, .long (((((31 * x1) + (1009 * (Int32.toInt64 q7))) + (31 * (Int32.toInt64 q8))) + (Int32.toInt64 q9)) + (7 * (Int32.toInt64 q10.1)))), (0, .ref (b0 + 0)), (3, .int x3)]) hx hb dL_sum_202 rfl hl (by decide) rfl (fun ls hl => ?_)
        refine lv_iinc (v := x3 + 1) (lv' := [(3, .int (x3 + 1)), (1, .long (((((31 * x1) + (1009 * (Int32.toInt64 q7))) + (31 * (Int32.toInt64 q8))) + (Int32.toInt64 q9)) + (7 * (Int32.toInt64 q10.1)))), (0, .ref (b0 + 0))]) hx hb dL_sum_203 hl (k := 2) rfl rfl (by decide) rfl (fun ls hl => ?_)
        refine lv_goto (tgt := 145) hx hb dL_sum_206 (by decide) ?_
        exact ih (w + 1 + 1 + 1 + 1 + 1) _ (((((31 * x1) + (1009 * (Int32.toInt64 q7))) + (31 * (Int32.toInt64 q8))) + (Int32.toInt64 q9)) + (7 * (Int32.toInt64 q10.1))) (x3 + 1) (by omega) hr _ _ ls hV hS (lv_sub hl [2, 1, 0] rfl)
  have K_128 : ∀ (X_53 : Nat) (c_53 : St → Int64 → Int32 → Int32 → Option (Int64 × St)) (hc_53 : ∀ (w : Nat) (V : St) (x1 : Int64) (x3 : Int32) (x4 : Int32), w + X_53 ≤ 366 → c_53 V x1 x3 x4 = some res → ∀ (H : Heap) (locs : List Loc) (ls : Array Slot), Hd G b0 V H → va_S (Ab b0) s.heap H locs → lv_has ls 5 [(0, .ref (b0 + 0)), (1, .long x1), (3, .int x3), (4, .int x4)] → W p l e (rmc 8 366) s m args below meth c H locs w (6 * w) (MQ below (QL G b0 res.1 res.2) args s 366 (6 * 366) (Ab b0)) (F0 m 53 ls [])) (X_31 : Nat) (c_31 : St → Int64 → Int32 → Option (Int64 × St)) (hc_31 : ∀ (w : Nat) (V : St) (x1 : Int64) (x3 : Int32), w + X_31 ≤ 366 → c_31 V x1 x3 = some res → ∀ (H : Heap) (locs : List Loc) (ls : Array Slot), Hd G b0 V H → va_S (Ab b0) s.heap H locs → lv_has ls 5 [(0, .ref (b0 + 0)), (1, .long x1), (3, .int x3)] → W p l e (rmc 8 366) s m args below meth c H locs w (6 * w) (MQ below (QL G b0 res.1 res.2) args s 366 (6 * 366) (Ab b0)) (F0 m 31 ls [])) (w : Nat) (V : St) (x3 : Int32) (x4 : Int32) (y0 : Int32) (y1 : Int64), w + 0 + X_53 ≤ 366 → f_L_sum_b128 c_53 c_31 V x3 x4 y0 y1 = some res → ∀ (H : Heap) (locs : List Loc) (ls : Array Slot), Hd G b0 V H → va_S (Ab b0) s.heap H locs → lv_has ls 5 [(0, .ref (b0 + 0)), (3, .int x3), (4, .int x4)] → W p l e (rmc 8 366) s m args below meth c H locs w (6 * w) (MQ below (QL G b0 res.1 res.2) args s 366 (6 * 366) (Ab b0)) (F0 m 128 ls [.int y0, .long y1]) := by
    intro X_53 c_53 hc_53 X_31 c_31 hc_31 w V x3 x4 y0 y1 hw hr H locs ls hV hS hl
    unfold f_L_sum_b128 at hr
    refine lv_i2l (v := Int32.toInt64 y0) hx hb dL_sum_128 rfl ?_
    refine lv_ladd hx hb dL_sum_129 ?_
    refine lv_lstore_n (lv' := [(1, .long (y1 + (Int32.toInt64 y0))), (0, .ref (b0 + 0)), (3, .int x3), (4, .int x4)]) hx hb dL_sum_130 rfl hl (by decide) rfl (fun ls hl => ?_)
    refine lv_iinc (v := x4 + 1) (lv' := [(4, .int (x4 + 1)), (1, .long (y1 + (Int32.toInt64 y0))), (0, .ref (b0 + 0)), (3, .int x3)]) hx hb dL_sum_131 hl (k := 3) rfl rfl (by decide) rfl (fun ls hl => ?_)
    refine lv_goto (tgt := 53) hx hb dL_sum_134 (by decide) ?_
    exact hc_53 w _ (y1 + (Int32.toInt64 y0)) x3 (x4 + 1) (by omega) hr _ _ ls hV hS (lv_sub hl [2, 1, 3, 0] rfl)
  have K_100 : ∀ (X_53 : Nat) (c_53 : St → Int64 → Int32 → Int32 → Option (Int64 × St)) (hc_53 : ∀ (w : Nat) (V : St) (x1 : Int64) (x3 : Int32) (x4 : Int32), w + X_53 ≤ 366 → c_53 V x1 x3 x4 = some res → ∀ (H : Heap) (locs : List Loc) (ls : Array Slot), Hd G b0 V H → va_S (Ab b0) s.heap H locs → lv_has ls 5 [(0, .ref (b0 + 0)), (1, .long x1), (3, .int x3), (4, .int x4)] → W p l e (rmc 8 366) s m args below meth c H locs w (6 * w) (MQ below (QL G b0 res.1 res.2) args s 366 (6 * 366) (Ab b0)) (F0 m 53 ls [])) (X_31 : Nat) (c_31 : St → Int64 → Int32 → Option (Int64 × St)) (hc_31 : ∀ (w : Nat) (V : St) (x1 : Int64) (x3 : Int32), w + X_31 ≤ 366 → c_31 V x1 x3 = some res → ∀ (H : Heap) (locs : List Loc) (ls : Array Slot), Hd G b0 V H → va_S (Ab b0) s.heap H locs → lv_has ls 5 [(0, .ref (b0 + 0)), (1, .long x1), (3, .int x3)] → W p l e (rmc 8 366) s m args below meth c H locs w (6 * w) (MQ below (QL G b0 res.1 res.2) args s 366 (6 * 366) (Ab b0)) (F0 m 31 ls [])) (w : Nat) (V : St) (x3 : Int32) (x4 : Int32) (y0 : Int32) (y1 : Int64), w + 1 + X_53 ≤ 366 → f_L_sum_b100 c_53 c_31 V x3 x4 y0 y1 = some res → ∀ (H : Heap) (locs : List Loc) (ls : Array Slot), Hd G b0 V H → va_S (Ab b0) s.heap H locs → lv_has ls 5 [(0, .ref (b0 + 0)), (3, .int x3), (4, .int x4)] → W p l e (rmc 8 366) s m args below meth c H locs w (6 * w) (MQ below (QL G b0 res.1 res.2) args s 366 (6 * 366) (Ab b0)) (F0 m 100 ls [.int y0, .long y1]) := by
    intro X_53 c_53 hc_53 X_31 c_31 hc_31 w V x3 x4 y0 y1 hw hr H locs ls hV hS hl
    unfold f_L_sum_b100 at hr
    refine lv_i2l (v := Int32.toInt64 y0) hx hb dL_sum_100 rfl ?_
    refine lv_ladd hx hb dL_sum_101 ?_
    refine lv_iload hx hb dL_sum_102 (lv_at hl 2 rfl) ?_
    refine lv_bipush (v := 17) hx hb dL_sum_104 (by decide) ?_
    refine lv_icmp_le (tgt := 113) hx hb dL_sum_106 (by decide) (fun b_11 => ?_) (fun b_11 => ?_)
    · have hr := it b_11 hr
      refine lv_bipush (v := 11) hx hb dL_sum_113 (by decide) ?_
      refine lv_aload_n hx hb dL_sum_115 rfl (lv_at hl 0 rfl) ?_
      refine lv_iload_n hx hb dL_sum_116 rfl (lv_at hl 1 rfl) ?_
      refine lv_iload hx hb dL_sum_117 (lv_at hl 2 rfl) ?_
      refine lv_iload hx hb dL_sum_119 (lv_at hl 2 rfl) ?_
      refine lv_bipush (v := 6) hx hb dL_sum_121 (by decide) ?_
      refine lv_iadd hx hb dL_sum_123 ?_
      obtain ⟨q12, e12, hr⟩ := ob hr
      refine cal_ic (run_HC (As := [.ref (b0 + 0), .int x3, .int x4, .int (x4 + 6)]) (rest := [.int 11, .long (y1 + (Int32.toInt64 y0))]) C hV hS (c_L_torn l hfl G b0 V x3 x4 (x4 + 6) q12 e12) q_1265 q_1266 q_92 q_1267 dk_L_torn (rmc_ok (by decide) (by decide)) hl.1 rfl (Nat.le_of_ble_eq_true rfl) dL_sum_124 (rmc_cs (by omega))) hS (fun H locs hV hS => ?_)
      refine lv_imul hx hb dL_sum_127 ?_
      exact K_128 X_53 c_53 hc_53 X_31 c_31 hc_31 (w + 1) _ x3 x4 (11 * q12) (y1 + (Int32.toInt64 y0)) (by omega) hr _ _ ls hV hS (lv_sub hl [0, 1, 2] rfl)
    · have hr := ie b_11 hr
      refine lv_iconst (v := 0) hx hb dL_sum_109 (by decide) ?_
      refine lv_goto (tgt := 128) hx hb dL_sum_110 (by decide) ?_
      exact K_128 X_53 c_53 hc_53 X_31 c_31 hc_31 w _ x3 x4 0 (y1 + (Int32.toInt64 y0)) (by omega) hr _ _ ls hV hS (lv_sub hl [0, 1, 2] rfl)
  have K_53 : ∀ (X_31 : Nat) (c_31 : St → Int64 → Int32 → Option (Int64 × St)) (hc_31 : ∀ (w : Nat) (V : St) (x1 : Int64) (x3 : Int32), w + X_31 ≤ 366 → c_31 V x1 x3 = some res → ∀ (H : Heap) (locs : List Loc) (ls : Array Slot), Hd G b0 V H → va_S (Ab b0) s.heap H locs → lv_has ls 5 [(0, .ref (b0 + 0)), (1, .long x1), (3, .int x3)] → W p l e (rmc 8 366) s m args below meth c H locs w (6 * w) (MQ below (QL G b0 res.1 res.2) args s 366 (6 * 366) (Ab b0)) (F0 m 31 ls [])) (n : Nat) (w : Nat) (V : St) (x1 : Int64) (x3 : Int32) (x4 : Int32), w + n * 3 + 0 + X_31 ≤ 366 → f_L_sum_b53 c_31 n V x1 x3 x4 = some res → ∀ (H : Heap) (locs : List Loc) (ls : Array Slot), Hd G b0 V H → va_S (Ab b0) s.heap H locs → lv_has ls 5 [(0, .ref (b0 + 0)), (1, .long x1), (3, .int x3), (4, .int x4)] → W p l e (rmc 8 366) s m args below meth c H locs w (6 * w) (MQ below (QL G b0 res.1 res.2) args s 366 (6 * 366) (Ab b0)) (F0 m 53 ls []) := by
    intro X_31 c_31 hc_31 n
    induction n with
    | zero =>
      intro w V x1 x3 x4 hw hr
      rw [f_L_sum_b53] at hr
      cases hr
    | succ n ih =>
      intro w V x1 x3 x4 hw hr H locs ls hV hS hl
      rw [f_L_sum_b53] at hr
      refine lv_iload hx hb dL_sum_53 (lv_at hl 3 rfl) ?_
      refine lv_bipush (v := 24) hx hb dL_sum_55 (by decide) ?_
      refine lv_icmp_ge (tgt := 137) hx hb dL_sum_57 (by decide) (fun b_13 => ?_) (fun b_13 => ?_)
      · have hr := it b_13 hr
        refine lv_iinc (v := x3 + 1) (lv' := [(3, .int (x3 + 1)), (0, .ref (b0 + 0)), (1, .long x1), (4, .int x4)]) hx hb dL_sum_137 hl (k := 2) rfl rfl (by decide) rfl (fun ls hl => ?_)
        refine lv_goto (tgt := 31) hx hb dL_sum_140 (by decide) ?_
        exact hc_31 w _ x1 (x3 + 1) (by omega) hr _ _ ls hV hS (lv_sub hl [1, 2, 0] rfl)
      · have hr := ie b_13 hr
        refine lv_ldc2 (v := 31) hx hb hown (hts _ q_1238) dL_sum_60 ?_
        refine lv_lload_n hx hb dL_sum_63 rfl (lv_at hl 1 rfl) ?_
        refine lv_lmul hx hb dL_sum_64 ?_
        refine lv_aload_n hx hb dL_sum_65 rfl (lv_at hl 0 rfl) ?_
        refine lv_iload_n hx hb dL_sum_66 rfl (lv_at hl 2 rfl) ?_
        refine lv_iload hx hb dL_sum_67 (lv_at hl 3 rfl) ?_
        obtain ⟨q14, e14, hr⟩ := ob hr
        refine cal_ic (run_HC (As := [.ref (b0 + 0), .int x3, .int x4]) (rest := [.long (31 * x1)]) C hV hS (c_L_kindOf l hfl G b0 V x3 x4 q14 e14) q_1257 q_1258 q_92 q_1259 dk_L_kindOf (rmc_ok (by decide) (by decide)) hl.1 rfl (Nat.le_of_ble_eq_true rfl) dL_sum_69 (rmc_cs (by omega))) hS (fun H locs hV hS => ?_)
        refine lv_i2l (v := Int32.toInt64 q14) hx hb dL_sum_72 rfl ?_
        refine lv_ladd hx hb dL_sum_73 ?_
        refine lv_iload hx hb dL_sum_74 (lv_at hl 3 rfl) ?_
        refine lv_bipush (v := 6) hx hb dL_sum_76 (by decide) ?_
        refine lv_irem hx hb dL_sum_78 (by decide) ?_
        refine lv_iconst (v := 5) hx hb dL_sum_79 (by decide) ?_
        refine lv_icmp_ne (tgt := 87) hx hb dL_sum_80 (by decide) (fun b_15 => ?_) (fun b_15 => ?_)
        · have hr := ie b_15 hr
          refine lv_iconst (v := 5) hx hb dL_sum_87 (by decide) ?_
          refine lv_aload_n hx hb dL_sum_88 rfl (lv_at hl 0 rfl) ?_
          refine lv_iload_n hx hb dL_sum_89 rfl (lv_at hl 2 rfl) ?_
          refine lv_iload hx hb dL_sum_90 (lv_at hl 3 rfl) ?_
          refine lv_iload hx hb dL_sum_92 (lv_at hl 3 rfl) ?_
          refine lv_iconst (v := 1) hx hb dL_sum_94 (by decide) ?_
          refine lv_iadd hx hb dL_sum_95 ?_
          obtain ⟨q16, e16, hr⟩ := ob hr
          refine cal_ic (run_HC (As := [.ref (b0 + 0), .int x3, .int x4, .int (x4 + 1)]) (rest := [.int 5, .long ((31 * x1) + (Int32.toInt64 q14))]) C hV hS (c_L_torn l hfl G b0 V x3 x4 (x4 + 1) q16 e16) q_1265 q_1266 q_92 q_1267 dk_L_torn (rmc_ok (by decide) (by decide)) hl.1 rfl (Nat.le_of_ble_eq_true rfl) dL_sum_96 (rmc_cs (by omega))) hS (fun H locs hV hS => ?_)
          refine lv_imul hx hb dL_sum_99 ?_
          exact K_100 (n * 3 + 0 + X_31) (fun V x1 x3 x4 => f_L_sum_b53 c_31 n V x1 x3 x4) (fun w V x1 x3 x4 hw hr => ih w V x1 x3 x4 (by omega) hr) X_31 c_31 hc_31 (w + 1 + 1) _ x3 x4 (5 * q16) ((31 * x1) + (Int32.toInt64 q14)) (by omega) hr _ _ ls hV hS (lv_sub hl [0, 2, 3] rfl)
        · have hr := it b_15 hr
          refine lv_iconst (v := 0) hx hb dL_sum_83 (by decide) ?_
          refine lv_goto (tgt := 100) hx hb dL_sum_84 (by decide) ?_
          exact K_100 (n * 3 + 0 + X_31) (fun V x1 x3 x4 => f_L_sum_b53 c_31 n V x1 x3 x4) (fun w V x1 x3 x4 hw hr => ih w V x1 x3 x4 (by omega) hr) X_31 c_31 hc_31 (w + 1) _ x3 x4 0 ((31 * x1) + (Int32.toInt64 q14)) (by omega) hr _ _ ls hV hS (lv_sub hl [0, 2, 3] rfl)
  have K_31 : ∀ (n : Nat) (w : Nat) (V : St) (x1 : Int64) (x3 : Int32), w + n * 76 + 50 ≤ 366 → f_L_sum_b31 n V x1 x3 = some res → ∀ (H : Heap) (locs : List Loc) (ls : Array Slot), Hd G b0 V H → va_S (Ab b0) s.heap H locs → lv_has ls 5 [(0, .ref (b0 + 0)), (1, .long x1), (3, .int x3)] → W p l e (rmc 8 366) s m args below meth c H locs w (6 * w) (MQ below (QL G b0 res.1 res.2) args s 366 (6 * 366) (Ab b0)) (F0 m 31 ls []) := by
    intro  n
    induction n with
    | zero =>
      intro w V x1 x3 hw hr
      rw [f_L_sum_b31] at hr
      cases hr
    | succ n ih =>
      intro w V x1 x3 hw hr H locs ls hV hS hl
      rw [f_L_sum_b31] at hr
      refine lv_iload_n hx hb dL_sum_31 rfl (lv_at hl 2 rfl) ?_
      refine lv_iconst (v := 3) hx hb dL_sum_32 (by decide) ?_
      refine lv_icmp_ge (tgt := 143) hx hb dL_sum_33 (by decide) (fun b_17 => ?_) (fun b_17 => ?_)
      · have hr := it b_17 hr
        refine lv_iconst (v := 0) hx hb dL_sum_143 (by decide) ?_
        refine lv_istore_n (lv' := [(3, .int 0), (0, .ref (b0 + 0)), (1, .long x1)]) hx hb dL_sum_144 rfl hl (by decide) rfl (fun ls hl => ?_)
        exact K_145 7 w _ x1 0 (by omega) hr _ _ ls hV hS (lv_sub hl [1, 2, 0] rfl)
      · have hr := ie b_17 hr
        refine lv_ldc2 (v := 31) hx hb hown (hts _ q_1238) dL_sum_36 ?_
        refine lv_lload_n hx hb dL_sum_39 rfl (lv_at hl 1 rfl) ?_
        refine lv_lmul hx hb dL_sum_40 ?_
        refine lv_aload_n hx hb dL_sum_41 rfl (lv_at hl 0 rfl) ?_
        refine lv_iload_n hx hb dL_sum_42 rfl (lv_at hl 2 rfl) ?_
        refine lv_iconst (v := 3) hx hb dL_sum_43 (by decide) ?_
        obtain ⟨q18, e18, hr⟩ := ob hr
        refine cal_ic (run_HC (As := [.ref (b0 + 0), .int x3, .int 3]) (rest := [.long (31 * x1)]) C hV hS (c_L_netOf l hfl G b0 V x3 3 q18 e18) q_1239 q_1240 q_92 q_1241 dk_L_netOf (rmc_ok (by decide) (by decide)) hl.1 rfl (Nat.le_of_ble_eq_true rfl) dL_sum_44 (rmc_cs (by omega))) hS (fun H locs hV hS => ?_)
        refine lv_i2l (v := Int32.toInt64 q18) hx hb dL_sum_47 rfl ?_
        refine lv_ladd hx hb dL_sum_48 ?_
        refine lv_lstore_n (lv' := [(1, .long ((31 * x1) + (Int32.toInt64 q18))), (0, .ref (b0 + 0)), (3, .int x3)]) hx hb dL_sum_49 rfl hl (by decide) rfl (fun ls hl => ?_)
        refine lv_iconst (v := 0) hx hb dL_sum_50 (by decide) ?_
        refine lv_istore (lv' := [(4, .int 0), (1, .long ((31 * x1) + (Int32.toInt64 q18))), (0, .ref (b0 + 0)), (3, .int x3)]) hx hb dL_sum_51 hl (by decide) rfl (fun ls hl => ?_)
        exact K_53 (n * 76 + 50) (fun V x1 x3 => f_L_sum_b31 n V x1 x3) (fun w V x1 x3 hw hr => ih w V x1 x3 (by omega) hr) 25 (w + 1) _ ((31 * x1) + (Int32.toInt64 q18)) x3 0 (by omega) hr _ _ ls hV hS (lv_sub hl [2, 1, 3, 0] rfl)
  have K_4 : ∀ (n : Nat) (w : Nat) (V : St) (x1 : Int64) (x3 : Int32), w + n * 1 + 354 ≤ 366 → f_L_sum_b4 n V x1 x3 = some res → ∀ (H : Heap) (locs : List Loc) (ls : Array Slot), Hd G b0 V H → va_S (Ab b0) s.heap H locs → lv_has ls 5 [(0, .ref (b0 + 0)), (1, .long x1), (3, .int x3)] → W p l e (rmc 8 366) s m args below meth c H locs w (6 * w) (MQ below (QL G b0 res.1 res.2) args s 366 (6 * 366) (Ab b0)) (F0 m 4 ls []) := by
    intro  n
    induction n with
    | zero =>
      intro w V x1 x3 hw hr
      rw [f_L_sum_b4] at hr
      cases hr
    | succ n ih =>
      intro w V x1 x3 hw hr H locs ls hV hS hl
      rw [f_L_sum_b4] at hr
      refine lv_iload_n hx hb dL_sum_4 rfl (lv_at hl 2 rfl) ?_
      refine lv_bipush (v := 11) hx hb dL_sum_5 (by decide) ?_
      refine lv_icmp_ge (tgt := 29) hx hb dL_sum_7 (by decide) (fun b_19 => ?_) (fun b_19 => ?_)
      · have hr := it b_19 hr
        refine lv_iconst (v := 0) hx hb dL_sum_29 (by decide) ?_
        refine lv_istore_n (lv' := [(3, .int 0), (0, .ref (b0 + 0)), (1, .long x1)]) hx hb dL_sum_30 rfl hl (by decide) rfl (fun ls hl => ?_)
        exact K_31 4 w _ x1 0 (by omega) hr _ _ ls hV hS (lv_sub hl [1, 2, 0] rfl)
      · have hr := ie b_19 hr
        refine lv_ldc2 (v := 31) hx hb hown (hts _ q_1238) dL_sum_10 ?_
        refine lv_lload_n hx hb dL_sum_13 rfl (lv_at hl 1 rfl) ?_
        refine lv_lmul hx hb dL_sum_14 ?_
        refine lv_aload_n hx hb dL_sum_15 rfl (lv_at hl 0 rfl) ?_
        refine lv_iload_n hx hb dL_sum_16 rfl (lv_at hl 2 rfl) ?_
        obtain ⟨q20, e20, hr⟩ := ob hr
        refine cal_ic (run_HC (As := [.ref (b0 + 0), .int x3]) (rest := [.long (31 * x1)]) C hV hS (c_L_account l hfl G b0 V x3 q20 e20) q_522 q_523 q_92 q_524 dk_L_account (rmc_ok (by decide) (by decide)) hl.1 rfl (Nat.le_of_ble_eq_true rfl) dL_sum_17 (rmc_cs (by omega))) hS (fun H locs hV hS => ?_)
        refine lv_i2l (v := Int32.toInt64 q20) hx hb dL_sum_20 rfl ?_
        refine lv_ladd hx hb dL_sum_21 ?_
        refine lv_lstore_n (lv' := [(1, .long ((31 * x1) + (Int32.toInt64 q20))), (0, .ref (b0 + 0)), (3, .int x3)]) hx hb dL_sum_22 rfl hl (by decide) rfl (fun ls hl => ?_)
        refine lv_iinc (v := x3 + 1) (lv' := [(3, .int (x3 + 1)), (1, .long ((31 * x1) + (Int32.toInt64 q20))), (0, .ref (b0 + 0))]) hx hb dL_sum_23 hl (k := 2) rfl rfl (by decide) rfl (fun ls hl => ?_)
        refine lv_goto (tgt := 4) hx hb dL_sum_26 (by decide) ?_
        exact ih (w + 1) _ ((31 * x1) + (Int32.toInt64 q20)) (x3 + 1) (by omega) hr _ _ ls hV hS (lv_sub hl [2, 1, 0] rfl)
  unfold f_L_sum at hr
  refine lv_lconst (v := 0) hx hb dL_sum_0 rfl ?_
  refine lv_lstore_n (lv' := [(1, .long 0), (0, .ref (b0 + 0))]) hx hb dL_sum_1 rfl hl (by decide) rfl (fun ls hl => ?_)
  refine lv_iconst (v := 0) hx hb dL_sum_2 (by decide) ?_
  refine lv_istore_n (lv' := [(3, .int 0), (1, .long 0), (0, .ref (b0 + 0))]) hx hb dL_sum_3 rfl hl (by decide) rfl (fun ls hl => ?_)
  exact K_4 12 0 _ 0 0 (by omega) hr _ _ ls hV hS (lv_sub hl [2, 1, 0] rfl)
