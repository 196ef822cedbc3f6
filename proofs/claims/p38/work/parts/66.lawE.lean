def f_L_law_b359 (L : Nat) (xs : Nat → Int32) (c_28 : St → (Nat → Int64) → Int32 → Int32 → Int32 → Option (Int32)) (V : St) (A : Nat → Int64) (x3 : Int32) (x4 : Int32) (x5 : Int32) : Option (Int32) :=
  c_28 V A x3 x4 (x5 + 1)
def f_L_law_b300 (L : Nat) (xs : Nat → Int32) (c_28 : St → (Nat → Int64) → Int32 → Int32 → Int32 → Option (Int32)) (V : St) (A : Nat → Int64) (x3 : Int32) (x4 : Int32) (x5 : Int32) (x6 : Int64) (x8 : Int32) (x11 : Int32) (x14 : Int32) (y0 : Int32) : Option (Int32) :=
  (f_L_isWhole V y0 x11).bind fun q1 =>
  if q1.1 = 0 then
    some 0
  else
    if (-74) < x14 then
      (f_L_sum q1.2).bind fun q4 =>
      (ix (x3 + 1) 60).bind fun j5 =>
      f_L_law_b359 L xs c_28 q4.2 (updA A j5 q4.1) (x3 + 1) x4 x5
    else
      (f_L_sum q1.2).bind fun q6 =>
      if (lg_cmp q6.1 x6) = 0 then
        (f_L_account q6.2 12).bind fun q8 =>
        if q8 = x8 then
          (f_L_account q6.2 11).bind fun q10 =>
          if q10 = 0 then
            f_L_law_b359 L xs c_28 q6.2 A x3 x4 x5
          else
            some 0
        else
          some 0
      else
        some 0
def f_L_law_b276 (L : Nat) (xs : Nat → Int32) (c_28 : St → (Nat → Int64) → Int32 → Int32 → Int32 → Option (Int32)) (V : St) (A : Nat → Int64) (x3 : Int32) (x4 : Int32) (x5 : Int32) (x6 : Int64) (x8 : Int32) (x11 : Int32) (x14 : Int32) (y0 : Int32) : Option (Int32) :=
  if y0 = 0 then
    some 0
  else
    if (x5 - x5 / 4 * 4) = 3 then
      f_L_law_b300 L xs c_28 V A x3 (x4 + 5) x5 x6 x8 x11 x14 2
    else
      f_L_law_b300 L xs c_28 V A x3 (x4 + 5) x5 x6 x8 x11 x14 0
def f_L_law_b271 (L : Nat) (xs : Nat → Int32) (c_28 : St → (Nat → Int64) → Int32 → Int32 → Int32 → Option (Int32)) (V : St) (A : Nat → Int64) (x3 : Int32) (x4 : Int32) (x5 : Int32) (x6 : Int64) (x8 : Int32) (x11 : Int32) (x14 : Int32) : Option (Int32) :=
  f_L_law_b276 L xs c_28 V A x3 x4 x5 x6 x8 x11 x14 1
def f_L_law_b275 (L : Nat) (xs : Nat → Int32) (c_28 : St → (Nat → Int64) → Int32 → Int32 → Int32 → Option (Int32)) (V : St) (A : Nat → Int64) (x3 : Int32) (x4 : Int32) (x5 : Int32) (x6 : Int64) (x8 : Int32) (x11 : Int32) (x14 : Int32) : Option (Int32) :=
  f_L_law_b276 L xs c_28 V A x3 x4 x5 x6 x8 x11 x14 0
def f_L_law_b239 (L : Nat) (xs : Nat → Int32) (c_28 : St → (Nat → Int64) → Int32 → Int32 → Int32 → Option (Int32)) (V : St) (A : Nat → Int64) (x3 : Int32) (x4 : Int32) (x5 : Int32) (x6 : Int64) (x8 : Int32) (x10 : Int32) (x11 : Int32) (x13 : Int32) (x14 : Int32) (x16 : Int32) : Option (Int32) :=
  if x16 = 0 then
    f_L_law_b271 L xs c_28 V A x3 x4 x5 x6 x8 x11 x14
  else
    (f_L_chapters V x10).bind fun q15 =>
    if x14 = q15 then
      if x14 < x13 then
        f_L_law_b275 L xs c_28 V A x3 x4 x5 x6 x8 x11 x14
      else
        if (x13 + 1) < x14 then
          f_L_law_b275 L xs c_28 V A x3 x4 x5 x6 x8 x11 x14
        else
          f_L_law_b271 L xs c_28 V A x3 x4 x5 x6 x8 x11 x14
    else
      f_L_law_b275 L xs c_28 V A x3 x4 x5 x6 x8 x11 x14
def f_L_law_b198 (L : Nat) (xs : Nat → Int32) (c_28 : St → (Nat → Int64) → Int32 → Int32 → Int32 → Option (Int32)) (V : St) (A : Nat → Int64) (x3 : Int32) (x4 : Int32) (x5 : Int32) (x6 : Int64) (x8 : Int32) (x10 : Int32) (x11 : Int32) (x12 : Int32) (x13 : Int32) (x14 : Int32) (x15 : Int32) (y0 : Int32) : Option (Int32) :=
  if x15 = 0 then
    f_L_law_b239 L xs c_28 V A x3 x4 x5 x6 x8 x10 x11 x13 x14 y0
  else
    (f_L_account V 4).bind fun q20 =>
    if x12 ≤ q20 then
      f_L_law_b275 L xs c_28 V A x3 x4 x5 x6 x8 x11 x14
    else
      (f_L_chapters V x10).bind fun q22 =>
      if q22 < (x13 - 1) then
        f_L_law_b275 L xs c_28 V A x3 x4 x5 x6 x8 x11 x14
      else
        (f_L_chapters V x10).bind fun q24 =>
        if x13 < q24 then
          f_L_law_b275 L xs c_28 V A x3 x4 x5 x6 x8 x11 x14
        else
          f_L_law_b239 L xs c_28 V A x3 x4 x5 x6 x8 x10 x11 x13 x14 y0
def f_L_law_b197 (L : Nat) (xs : Nat → Int32) (c_28 : St → (Nat → Int64) → Int32 → Int32 → Int32 → Option (Int32)) (V : St) (A : Nat → Int64) (x3 : Int32) (x4 : Int32) (x5 : Int32) (x6 : Int64) (x8 : Int32) (x10 : Int32) (x11 : Int32) (x12 : Int32) (x13 : Int32) (x14 : Int32) (x15 : Int32) : Option (Int32) :=
  f_L_law_b198 L xs c_28 V A x3 x4 x5 x6 x8 x10 x11 x12 x13 x14 x15 0
def f_L_law_b170 (L : Nat) (xs : Nat → Int32) (c_28 : St → (Nat → Int64) → Int32 → Int32 → Int32 → Option (Int32)) (V : St) (A : Nat → Int64) (x3 : Int32) (x4 : Int32) (x5 : Int32) (x6 : Int64) (x8 : Int32) (x9 : Int32) (x10 : Int32) (x11 : Int32) (x12 : Int32) (x13 : Int32) (x14 : Int32) (y0 : Int32) : Option (Int32) :=
  if x9 ≤ 7 then
    f_L_law_b197 L xs c_28 V A x3 x4 x5 x6 x8 x10 x11 x12 x13 x14 y0
  else
    if 13 ≤ x9 then
      f_L_law_b197 L xs c_28 V A x3 x4 x5 x6 x8 x10 x11 x12 x13 x14 y0
    else
      if x14 ≤ (-70) then
        f_L_law_b197 L xs c_28 V A x3 x4 x5 x6 x8 x10 x11 x12 x13 x14 y0
      else
        f_L_law_b198 L xs c_28 V A x3 x4 x5 x6 x8 x10 x11 x12 x13 x14 y0 1
def f_L_law_b169 (L : Nat) (xs : Nat → Int32) (c_28 : St → (Nat → Int64) → Int32 → Int32 → Int32 → Option (Int32)) (V : St) (A : Nat → Int64) (x3 : Int32) (x4 : Int32) (x5 : Int32) (x6 : Int64) (x8 : Int32) (x9 : Int32) (x10 : Int32) (x11 : Int32) (x12 : Int32) (x13 : Int32) (x14 : Int32) : Option (Int32) :=
  f_L_law_b170 L xs c_28 V A x3 x4 x5 x6 x8 x9 x10 x11 x12 x13 x14 0
def f_L_law_b100 (L : Nat) (xs : Nat → Int32) (c_28 : St → (Nat → Int64) → Int32 → Int32 → Int32 → Option (Int32)) (V : St) (A : Nat → Int64) (x3 : Int32) (x4 : Int32) (x5 : Int32) (x6 : Int64) (x8 : Int32) (x9 : Int32) (y0 : Int32) : Option (Int32) :=
  (f_L_pick L xs (x4 + 3) 24).bind fun q29 =>
  (f_L_account V 4).bind fun q30 =>
  (f_L_chapters V y0).bind fun q31 =>
  (f_L_does L xs V x4 x9 y0 q29).bind fun q32 =>
  if x9 ≤ 12 then
    f_L_law_b169 L xs c_28 q32.2 A x3 x4 x5 x6 x8 x9 y0 q29 q30 q31 q32.1
  else
    if 16 ≤ x9 then
      f_L_law_b169 L xs c_28 q32.2 A x3 x4 x5 x6 x8 x9 y0 q29 q30 q31 q32.1
    else
      if q32.1 ≤ (-70) then
        f_L_law_b169 L xs c_28 q32.2 A x3 x4 x5 x6 x8 x9 y0 q29 q30 q31 q32.1
      else
        f_L_law_b170 L xs c_28 q32.2 A x3 x4 x5 x6 x8 x9 y0 q29 q30 q31 q32.1 1
def f_L_law_b80 (L : Nat) (xs : Nat → Int32) (c_28 : St → (Nat → Int64) → Int32 → Int32 → Int32 → Option (Int32)) (V : St) (A : Nat → Int64) (x3 : Int32) (x4 : Int32) (x5 : Int32) (x6 : Int64) (x8 : Int32) (y0 : Int32) : Option (Int32) :=
  (f_L_pick L xs (x4 + 2) 9).bind fun q36 =>
  if q36 = 0 then
    f_L_law_b100 L xs c_28 V A x3 x4 x5 x6 x8 y0 1
  else
    f_L_law_b100 L xs c_28 V A x3 x4 x5 x6 x8 y0 0
def f_L_law_b28 (L : Nat) (xs : Nat → Int32) : Nat → St → (Nat → Int64) → Int32 → Int32 → Int32 → Option (Int32)
  | 0, _, _, _, _, _ => none
  | n + 1, V, A, x3, x4, x5 =>
    if 46 ≤ x5 then
      (f_L_isKept A V x3).bind fun q39 =>
      some q39.1
    else
      (f_L_sum V).bind fun q40 =>
      (f_L_account q40.2 12).bind fun q41 =>
      if 7 ≤ x5 then
        if 9 ≤ x5 then
          (f_L_pick L xs x4 27).bind fun q44 =>
          f_L_law_b80 L xs (fun V A x3 x4 x5 => f_L_law_b28 L xs n V A x3 x4 x5) q40.2 A x3 x4 x5 q40.1 q41 q44
        else
          f_L_law_b80 L xs (fun V A x3 x4 x5 => f_L_law_b28 L xs n V A x3 x4 x5) q40.2 A x3 x4 x5 q40.1 q41 16
      else
        f_L_law_b80 L xs (fun V A x3 x4 x5 => f_L_law_b28 L xs n V A x3 x4 x5) q40.2 A x3 x4 x5 q40.1 q41 0
section LLW
variable {p : Program} {l : Launch} {e : Env} {R : Room} {s : State} {m : MethodId} {args : Array Value} {below : List Frame} {meth : Method} {c : Code} {Q : State → Prop}
variable {G : LG} {b0 N : Nat} {ret0 : Option FieldType}
set_option maxHeartbeats 8000000 in
set_option maxRecDepth 100000 in
theorem law_loop (hfl : l.stackTraces = false) (C : Cx p l s m args meth c G b0 RL cL_law 18 ret0) (hRm : 60 ≤ R.frames ∧ 3600 ≤ R.locals ∧ N ≤ R.cells ∧ 6 * N ≤ R.slots) {res : Int32} (hres : res = 1)
    (hend : ∀ (H1 : Heap) (locs1 : List Loc) (ls : Array Slot) (w : Nat), w ≤ N → va_S (Ab b0) s.heap H1 locs1 → W p l e R s m args below meth c H1 locs1 w (6 * w) Q (F0 m 371 ls [.int 1])) :
    ∀ (n : Nat) (w : Nat) (V : St) (a9 : Nat) (hF : Fr G b0 a9) (A : Nat → Int64) (x3 : Int32) (x4 : Int32) (x5 : Int32), w + n * 3323 + 0 ≤ N → f_L_law_b28 G.2.2.2.2.2.1 G.2.2.2.2.2.2 n V A x3 x4 x5 = some res → ∀ (H : Heap) (locs : List Loc) (ls : Array Slot), Hd (xg G a9 (al G 60 A)) b0 V H → va_S (Ab b0) s.heap H locs → lv_has ls 18 [(0, .ref G.2.2.2.2.1), (1, .ref (b0 + 0)), (2, .ref a9), (3, .int x3), (4, .int x4), (5, .int x5)] → W p l e R s m args below meth c H locs w (6 * w) Q (F0 m 28 ls []) := by
  obtain ⟨hx, hb, hrt, hml, hown, hts, hlocks, hK, hSv⟩ := id C
  have K_359 : ∀ (X_28 : Nat) (c_28 : St → (Nat → Int64) → Int32 → Int32 → Int32 → Option (Int32)) (hc_28 : ∀ (w : Nat) (V : St) (a9 : Nat) (hF : Fr G b0 a9) (A : Nat → Int64) (x3 : Int32) (x4 : Int32) (x5 : Int32), w + X_28 ≤ N → c_28 V A x3 x4 x5 = some res → ∀ (H : Heap) (locs : List Loc) (ls : Array Slot), Hd (xg G a9 (al G 60 A)) b0 V H → va_S (Ab b0) s.heap H locs → lv_has ls 18 [(0, .ref G.2.2.2.2.1), (1, .ref (b0 + 0)), (2, .ref a9), (3, .int x3), (4, .int x4), (5, .int x5)] → W p l e R s m args below meth c H locs w (6 * w) Q (F0 m 28 ls [])) (w : Nat) (V : St) (a9 : Nat) (hF : Fr G b0 a9) (A : Nat → Int64) (x3 : Int32) (x4 : Int32) (x5 : Int32), w + 0 + X_28 ≤ N → f_L_law_b359 G.2.2.2.2.2.1 G.2.2.2.2.2.2 c_28 V A x3 x4 x5 = some res → ∀ (H : Heap) (locs : List Loc) (ls : Array Slot), Hd (xg G a9 (al G 60 A)) b0 V H → va_S (Ab b0) s.heap H locs → lv_has ls 18 [(0, .ref G.2.2.2.2.1), (1, .ref (b0 + 0)), (2, .ref a9), (3, .int x3), (4, .int x4), (5, .int x5)] → W p l e R s m args below meth c H locs w (6 * w) Q (F0 m 359 ls []) := by
    intro X_28 c_28 hc_28 w V a9 hF A x3 x4 x5 hw hr H locs ls hV hS hl
    unfold f_L_law_b359 at hr
    refine lv_iinc (v := x5 + 1) (lv' := [(5, .int (x5 + 1)), (0, .ref G.2.2.2.2.1), (1, .ref (b0 + 0)), (2, .ref a9), (3, .int x3), (4, .int x4)]) hx hb dL_law_359 hl (k := 5) rfl rfl (by decide) rfl (fun ls hl => ?_)
    refine lv_goto (tgt := 28) hx hb dL_law_362 (by decide) ?_
    exact hc_28 w _ _ hF _ x3 x4 (x5 + 1) (by omega) hr _ _ ls hV hS (lv_sub hl [1, 2, 3, 4, 5, 0] rfl)
  have K_300 : ∀ (X_28 : Nat) (c_28 : St → (Nat → Int64) → Int32 → Int32 → Int32 → Option (Int32)) (hc_28 : ∀ (w : Nat) (V : St) (a9 : Nat) (hF : Fr G b0 a9) (A : Nat → Int64) (x3 : Int32) (x4 : Int32) (x5 : Int32), w + X_28 ≤ N → c_28 V A x3 x4 x5 = some res → ∀ (H : Heap) (locs : List Loc) (ls : Array Slot), Hd (xg G a9 (al G 60 A)) b0 V H → va_S (Ab b0) s.heap H locs → lv_has ls 18 [(0, .ref G.2.2.2.2.1), (1, .ref (b0 + 0)), (2, .ref a9), (3, .int x3), (4, .int x4), (5, .int x5)] → W p l e R s m args below meth c H locs w (6 * w) Q (F0 m 28 ls [])) (w : Nat) (V : St) (a9 : Nat) (hF : Fr G b0 a9) (A : Nat → Int64) (x3 : Int32) (x4 : Int32) (x5 : Int32) (x6 : Int64) (x8 : Int32) (x11 : Int32) (x14 : Int32) (y0 : Int32), w + 2096 + X_28 ≤ N → f_L_law_b300 G.2.2.2.2.2.1 G.2.2.2.2.2.2 c_28 V A x3 x4 x5 x6 x8 x11 x14 y0 = some res → ∀ (H : Heap) (locs : List Loc) (ls : Array Slot), Hd (xg G a9 (al G 60 A)) b0 V H → va_S (Ab b0) s.heap H locs → lv_has ls 18 [(0, .ref G.2.2.2.2.1), (1, .ref (b0 + 0)), (2, .ref a9), (3, .int x3), (4, .int x4), (5, .int x5), (6, .long x6), (8, .int x8), (11, .int x11), (14, .int x14)] → W p l e R s m args below meth c H locs w (6 * w) Q (F0 m 300 ls [.int y0, .ref (b0 + 0)]) := by
    intro X_28 c_28 hc_28 w V a9 hF A x3 x4 x5 x6 x8 x11 x14 y0 hw hr H locs ls hV hS hl
    unfold f_L_law_b300 at hr
    refine lv_iload hx hb dL_law_300 (lv_at hl 8 rfl) ?_
    obtain ⟨q1, e1, hr⟩ := ob hr
    refine cal_ic (run_C (As := [.ref (b0 + 0), .int y0, .int x11]) (rest := []) C.x hV hS (c_L_isWhole l hfl (xg G a9 (al G 60 A)) b0 V y0 x11 q1 e1) q_1336 q_1337 q_92 q_1338 dk_L_isWhole (room_ok hRm (by decide) (by decide)) hl.1 rfl (Nat.le_of_ble_eq_true rfl) dL_law_302 (room_cs hRm (by omega))) hS (fun H locs hV hS => ?_)
    refine lv_if_ne (tgt := 310) hx hb dL_law_305 (by decide) (fun b_2 => ?_) (fun b_2 => ?_)
    · have hr := ie b_2 hr
      refine lv_iload hx hb dL_law_310 (lv_at hl 9 rfl) ?_
      refine lv_bipush (v := (-74)) hx hb dL_law_312 (by decide) ?_
      refine lv_icmp_gt (tgt := 349) hx hb dL_law_314 (by decide) (fun b_3 => ?_) (fun b_3 => ?_)
      · have hr := it b_3 hr
        refine lv_iinc (v := x3 + 1) (lv' := [(3, .int (x3 + 1)), (0, .ref G.2.2.2.2.1), (1, .ref (b0 + 0)), (2, .ref a9), (4, .int x4), (5, .int x5), (6, .long x6), (8, .int x8), (11, .int x11), (14, .int x14)]) hx hb dL_law_349 hl (k := 3) rfl rfl (by decide) rfl (fun ls hl => ?_)
        refine lv_aload_n hx hb dL_law_352 rfl (lv_at hl 3 rfl) ?_
        refine lv_iload_n hx hb dL_law_353 rfl (lv_at hl 0 rfl) ?_
        refine lv_aload_n hx hb dL_law_354 rfl (lv_at hl 2 rfl) ?_
        obtain ⟨q4, e4, hr⟩ := ob hr
        refine cal_lc (run_C (As := [.ref (b0 + 0)]) (rest := [.int (x3 + 1), .ref a9]) C.x hV hS (c_L_sum l hfl (xg G a9 (al G 60 A)) b0 q1.2 q4 e4) q_1235 q_1236 q_92 q_1237 dk_L_sum (room_ok hRm (by decide) (by decide)) hl.1 rfl (Nat.le_of_ble_eq_true rfl) dL_law_355 (room_cs hRm (by omega))) hS (fun H locs hV hS => ?_)
        obtain ⟨j5, e5, hr⟩ := ob hr
        refine x_last C hV hF hS e5 dL_law_358 (fun H locs hV hS => ?_)
        exact K_359 X_28 c_28 hc_28 (w + 1728 + 366) _ _ hF _ (x3 + 1) x4 x5 (by omega) hr _ _ ls hV hS (lv_sub hl [1, 2, 3, 0, 4, 5] rfl)
      · have hr := ie b_3 hr
        refine lv_aload_n hx hb dL_law_317 rfl (lv_at hl 1 rfl) ?_
        obtain ⟨q6, e6, hr⟩ := ob hr
        refine cal_lc (run_C (As := [.ref (b0 + 0)]) (rest := []) C.x hV hS (c_L_sum l hfl (xg G a9 (al G 60 A)) b0 q1.2 q6 e6) q_1235 q_1236 q_92 q_1237 dk_L_sum (room_ok hRm (by decide) (by decide)) hl.1 rfl (Nat.le_of_ble_eq_true rfl) dL_law_318 (room_cs hRm (by omega))) hS (fun H locs hV hS => ?_)
        refine lv_lload hx hb dL_law_321 (lv_at hl 6 rfl) ?_
        refine W.lcmp hx hb dL_law_323 ?_
        refine W.eq (g2 := F0 m 324 ls [.int (lg_cmp q6.1 x6)]) rfl ?_
        refine lv_if_ne (tgt := 347) hx hb dL_law_324 (by decide) (fun b_7 => ?_) (fun b_7 => ?_)
        · have hr := ie b_7 hr
          refine lv_iconst (v := 0) hx hb dL_law_347 (by decide) ?_
          exact absurd (hres.symm.trans (Option.some.inj hr).symm) (by decide)
        · have hr := it b_7 hr
          refine lv_aload_n hx hb dL_law_327 rfl (lv_at hl 1 rfl) ?_
          refine lv_bipush (v := 12) hx hb dL_law_328 (by decide) ?_
          obtain ⟨q8, e8, hr⟩ := ob hr
          refine cal_ic (run_HC (As := [.ref (b0 + 0), .int 12]) (rest := []) C.x hV hS (c_L_account l hfl (xg G a9 (al G 60 A)) b0 q6.2 12 q8 e8) q_522 q_523 q_92 q_524 dk_L_account (room_ok hRm (by decide) (by decide)) hl.1 rfl (Nat.le_of_ble_eq_true rfl) dL_law_330 (room_cs hRm (by omega))) hS (fun H locs hV hS => ?_)
          refine lv_iload hx hb dL_law_333 (lv_at hl 7 rfl) ?_
          refine lv_icmp_ne (tgt := 347) hx hb dL_law_335 (by decide) (fun b_9 => ?_) (fun b_9 => ?_)
          · have hr := ie b_9 hr
            refine lv_iconst (v := 0) hx hb dL_law_347 (by decide) ?_
            exact absurd (hres.symm.trans (Option.some.inj hr).symm) (by decide)
          · have hr := it b_9 hr
            refine lv_aload_n hx hb dL_law_338 rfl (lv_at hl 1 rfl) ?_
            refine lv_bipush (v := 11) hx hb dL_law_339 (by decide) ?_
            obtain ⟨q10, e10, hr⟩ := ob hr
            refine cal_ic (run_HC (As := [.ref (b0 + 0), .int 11]) (rest := []) C.x hV hS (c_L_account l hfl (xg G a9 (al G 60 A)) b0 q6.2 11 q10 e10) q_522 q_523 q_92 q_524 dk_L_account (room_ok hRm (by decide) (by decide)) hl.1 rfl (Nat.le_of_ble_eq_true rfl) dL_law_341 (room_cs hRm (by omega))) hS (fun H locs hV hS => ?_)
            refine lv_if_eq (tgt := 359) hx hb dL_law_344 (by decide) (fun b_11 => ?_) (fun b_11 => ?_)
            · have hr := it b_11 hr
              exact K_359 X_28 c_28 hc_28 (w + 1728 + 366 + 1 + 1) _ _ hF _ x3 x4 x5 (by omega) hr _ _ ls hV hS (lv_sub hl [0, 1, 2, 3, 4, 5] rfl)
            · have hr := ie b_11 hr
              refine lv_iconst (v := 0) hx hb dL_law_347 (by decide) ?_
              exact absurd (hres.symm.trans (Option.some.inj hr).symm) (by decide)
    · have hr := it b_2 hr
      refine lv_iconst (v := 0) hx hb dL_law_308 (by decide) ?_
      exact absurd (hres.symm.trans (Option.some.inj hr).symm) (by decide)
  have K_276 : ∀ (X_28 : Nat) (c_28 : St → (Nat → Int64) → Int32 → Int32 → Int32 → Option (Int32)) (hc_28 : ∀ (w : Nat) (V : St) (a9 : Nat) (hF : Fr G b0 a9) (A : Nat → Int64) (x3 : Int32) (x4 : Int32) (x5 : Int32), w + X_28 ≤ N → c_28 V A x3 x4 x5 = some res → ∀ (H : Heap) (locs : List Loc) (ls : Array Slot), Hd (xg G a9 (al G 60 A)) b0 V H → va_S (Ab b0) s.heap H locs → lv_has ls 18 [(0, .ref G.2.2.2.2.1), (1, .ref (b0 + 0)), (2, .ref a9), (3, .int x3), (4, .int x4), (5, .int x5)] → W p l e R s m args below meth c H locs w (6 * w) Q (F0 m 28 ls [])) (w : Nat) (V : St) (a9 : Nat) (hF : Fr G b0 a9) (A : Nat → Int64) (x3 : Int32) (x4 : Int32) (x5 : Int32) (x6 : Int64) (x8 : Int32) (x11 : Int32) (x14 : Int32) (y0 : Int32), w + 2096 + X_28 ≤ N → f_L_law_b276 G.2.2.2.2.2.1 G.2.2.2.2.2.2 c_28 V A x3 x4 x5 x6 x8 x11 x14 y0 = some res → ∀ (H : Heap) (locs : List Loc) (ls : Array Slot), Hd (xg G a9 (al G 60 A)) b0 V H → va_S (Ab b0) s.heap H locs → lv_has ls 18 [(0, .ref G.2.2.2.2.1), (1, .ref (b0 + 0)), (2, .ref a9), (3, .int x3), (4, .int x4), (5, .int x5), (6, .long x6), (8, .int x8), (11, .int x11), (14, .int x14)] → W p l e R s m args below meth c H locs w (6 * w) Q (F0 m 276 ls [.int y0]) := by
    intro X_28 c_28 hc_28 w V a9 hF A x3 x4 x5 x6 x8 x11 x14 y0 hw hr H locs ls hV hS hl
    unfold f_L_law_b276 at hr
    refine lv_istore (lv' := [(17, .int y0), (0, .ref G.2.2.2.2.1), (1, .ref (b0 + 0)), (2, .ref a9), (3, .int x3), (4, .int x4), (5, .int x5), (6, .long x6), (8, .int x8), (11, .int x11), (14, .int x14)]) hx hb dL_law_276 hl (by decide) rfl (fun ls hl => ?_)
    refine lv_iinc (v := x4 + 5) (lv' := [(4, .int (x4 + 5)), (17, .int y0), (0, .ref G.2.2.2.2.1), (1, .ref (b0 + 0)), (2, .ref a9), (3, .int x3), (5, .int x5), (6, .long x6), (8, .int x8), (11, .int x11), (14, .int x14)]) hx hb dL_law_278 hl (k := 5) rfl rfl (by decide) rfl (fun ls hl => ?_)
    refine lv_iload hx hb dL_law_281 (lv_at hl 1 rfl) ?_
    refine lv_if_eq (tgt := 308) hx hb dL_law_283 (by decide) (fun b_12 => ?_) (fun b_12 => ?_)
    · have hr := it b_12 hr
      refine lv_iconst (v := 0) hx hb dL_law_308 (by decide) ?_
      exact absurd (hres.symm.trans (Option.some.inj hr).symm) (by decide)
    · have hr := ie b_12 hr
      refine lv_aload_n hx hb dL_law_286 rfl (lv_at hl 3 rfl) ?_
      refine lv_iload hx hb dL_law_287 (lv_at hl 6 rfl) ?_
      refine lv_iconst (v := 4) hx hb dL_law_289 (by decide) ?_
      refine lv_irem hx hb dL_law_290 (by decide) ?_
      refine lv_iconst (v := 3) hx hb dL_law_291 (by decide) ?_
      refine lv_icmp_ne (tgt := 299) hx hb dL_law_292 (by decide) (fun b_13 => ?_) (fun b_13 => ?_)
      · have hr := ie b_13 hr
        refine lv_iconst (v := 0) hx hb dL_law_299 (by decide) ?_
        exact K_300 X_28 c_28 hc_28 w _ _ hF _ x3 (x4 + 5) x5 x6 x8 x11 x14 0 (by omega) hr _ _ ls hV hS (lv_sub hl [2, 3, 4, 5, 0, 6, 7, 8, 9, 10] rfl)
      · have hr := it b_13 hr
        refine lv_iconst (v := 2) hx hb dL_law_295 (by decide) ?_
        refine lv_goto (tgt := 300) hx hb dL_law_296 (by decide) ?_
        exact K_300 X_28 c_28 hc_28 w _ _ hF _ x3 (x4 + 5) x5 x6 x8 x11 x14 2 (by omega) hr _ _ ls hV hS (lv_sub hl [2, 3, 4, 5, 0, 6, 7, 8, 9, 10] rfl)
  have K_271 : ∀ (X_28 : Nat) (c_28 : St → (Nat → Int64) → Int32 → Int32 → Int32 → Option (Int32)) (hc_28 : ∀ (w : Nat) (V : St) (a9 : Nat) (hF : Fr G b0 a9) (A : Nat → Int64) (x3 : Int32) (x4 : Int32) (x5 : Int32), w + X_28 ≤ N → c_28 V A x3 x4 x5 = some res → ∀ (H : Heap) (locs : List Loc) (ls : Array Slot), Hd (xg G a9 (al G 60 A)) b0 V H → va_S (Ab b0) s.heap H locs → lv_has ls 18 [(0, .ref G.2.2.2.2.1), (1, .ref (b0 + 0)), (2, .ref a9), (3, .int x3), (4, .int x4), (5, .int x5)] → W p l e R s m args below meth c H locs w (6 * w) Q (F0 m 28 ls [])) (w : Nat) (V : St) (a9 : Nat) (hF : Fr G b0 a9) (A : Nat → Int64) (x3 : Int32) (x4 : Int32) (x5 : Int32) (x6 : Int64) (x8 : Int32) (x11 : Int32) (x14 : Int32), w + 2096 + X_28 ≤ N → f_L_law_b271 G.2.2.2.2.2.1 G.2.2.2.2.2.2 c_28 V A x3 x4 x5 x6 x8 x11 x14 = some res → ∀ (H : Heap) (locs : List Loc) (ls : Array Slot), Hd (xg G a9 (al G 60 A)) b0 V H → va_S (Ab b0) s.heap H locs → lv_has ls 18 [(0, .ref G.2.2.2.2.1), (1, .ref (b0 + 0)), (2, .ref a9), (3, .int x3), (4, .int x4), (5, .int x5), (6, .long x6), (8, .int x8), (11, .int x11), (14, .int x14)] → W p l e R s m args below meth c H locs w (6 * w) Q (F0 m 271 ls []) := by
    intro X_28 c_28 hc_28 w V a9 hF A x3 x4 x5 x6 x8 x11 x14 hw hr H locs ls hV hS hl
    unfold f_L_law_b271 at hr
    refine lv_iconst (v := 1) hx hb dL_law_271 (by decide) ?_
    refine lv_goto (tgt := 276) hx hb dL_law_272 (by decide) ?_
    exact K_276 X_28 c_28 hc_28 w _ _ hF _ x3 x4 x5 x6 x8 x11 x14 1 (by omega) hr _ _ ls hV hS (lv_sub hl [0, 1, 2, 3, 4, 5, 6, 7, 8, 9] rfl)
  have K_275 : ∀ (X_28 : Nat) (c_28 : St → (Nat → Int64) → Int32 → Int32 → Int32 → Option (Int32)) (hc_28 : ∀ (w : Nat) (V : St) (a9 : Nat) (hF : Fr G b0 a9) (A : Nat → Int64) (x3 : Int32) (x4 : Int32) (x5 : Int32), w + X_28 ≤ N → c_28 V A x3 x4 x5 = some res → ∀ (H : Heap) (locs : List Loc) (ls : Array Slot), Hd (xg G a9 (al G 60 A)) b0 V H → va_S (Ab b0) s.heap H locs → lv_has ls 18 [(0, .ref G.2.2.2.2.1), (1, .ref (b0 + 0)), (2, .ref a9), (3, .int x3), (4, .int x4), (5, .int x5)] → W p l e R s m args below meth c H locs w (6 * w) Q (F0 m 28 ls [])) (w : Nat) (V : St) (a9 : Nat) (hF : Fr G b0 a9) (A : Nat → Int64) (x3 : Int32) (x4 : Int32) (x5 : Int32) (x6 : Int64) (x8 : Int32) (x11 : Int32) (x14 : Int32), w + 2096 + X_28 ≤ N → f_L_law_b275 G.2.2.2.2.2.1 G.2.2.2.2.2.2 c_28 V A x3 x4 x5 x6 x8 x11 x14 = some res → ∀ (H : Heap) (locs : List Loc) (ls : Array Slot), Hd (xg G a9 (al G 60 A)) b0 V H → va_S (Ab b0) s.heap H locs → lv_has ls 18 [(0, .ref G.2.2.2.2.1), (1, .ref (b0 + 0)), (2, .ref a9), (3, .int x3), (4, .int x4), (5, .int x5), (6, .long x6), (8, .int x8), (11, .int x11), (14, .int x14)] → W p l e R s m args below meth c H locs w (6 * w) Q (F0 m 275 ls []) := by
    intro X_28 c_28 hc_28 w V a9 hF A x3 x4 x5 x6 x8 x11 x14 hw hr H locs ls hV hS hl
    unfold f_L_law_b275 at hr
    refine lv_iconst (v := 0) hx hb dL_law_275 (by decide) ?_
    exact K_276 X_28 c_28 hc_28 w _ _ hF _ x3 x4 x5 x6 x8 x11 x14 0 (by omega) hr _ _ ls hV hS (lv_sub hl [0, 1, 2, 3, 4, 5, 6, 7, 8, 9] rfl)
  have K_239 : ∀ (X_28 : Nat) (c_28 : St → (Nat → Int64) → Int32 → Int32 → Int32 → Option (Int32)) (hc_28 : ∀ (w : Nat) (V : St) (a9 : Nat) (hF : Fr G b0 a9) (A : Nat → Int64) (x3 : Int32) (x4 : Int32) (x5 : Int32), w + X_28 ≤ N → c_28 V A x3 x4 x5 = some res → ∀ (H : Heap) (locs : List Loc) (ls : Array Slot), Hd (xg G a9 (al G 60 A)) b0 V H → va_S (Ab b0) s.heap H locs → lv_has ls 18 [(0, .ref G.2.2.2.2.1), (1, .ref (b0 + 0)), (2, .ref a9), (3, .int x3), (4, .int x4), (5, .int x5)] → W p l e R s m args below meth c H locs w (6 * w) Q (F0 m 28 ls [])) (w : Nat) (V : St) (a9 : Nat) (hF : Fr G b0 a9) (A : Nat → Int64) (x3 : Int32) (x4 : Int32) (x5 : Int32) (x6 : Int64) (x8 : Int32) (x10 : Int32) (x11 : Int32) (x13 : Int32) (x14 : Int32) (x16 : Int32), w + 2097 + X_28 ≤ N → f_L_law_b239 G.2.2.2.2.2.1 G.2.2.2.2.2.2 c_28 V A x3 x4 x5 x6 x8 x10 x11 x13 x14 x16 = some res → ∀ (H : Heap) (locs : List Loc) (ls : Array Slot), Hd (xg G a9 (al G 60 A)) b0 V H → va_S (Ab b0) s.heap H locs → lv_has ls 18 [(0, .ref G.2.2.2.2.1), (1, .ref (b0 + 0)), (2, .ref a9), (3, .int x3), (4, .int x4), (5, .int x5), (6, .long x6), (8, .int x8), (10, .int x10), (11, .int x11), (13, .int x13), (14, .int x14), (16, .int x16)] → W p l e R s m args below meth c H locs w (6 * w) Q (F0 m 239 ls []) := by
    intro X_28 c_28 hc_28 w V a9 hF A x3 x4 x5 x6 x8 x10 x11 x13 x14 x16 hw hr H locs ls hV hS hl
    unfold f_L_law_b239 at hr
    refine lv_iload hx hb dL_law_239 (lv_at hl 12 rfl) ?_
    refine lv_if_eq (tgt := 271) hx hb dL_law_241 (by decide) (fun b_14 => ?_) (fun b_14 => ?_)
    · have hr := it b_14 hr
      exact K_271 X_28 c_28 hc_28 w _ _ hF _ x3 x4 x5 x6 x8 x11 x14 (by omega) hr _ _ ls hV hS (lv_sub hl [0, 1, 2, 3, 4, 5, 6, 7, 9, 11] rfl)
    · have hr := ie b_14 hr
      refine lv_iload hx hb dL_law_244 (lv_at hl 11 rfl) ?_
      refine lv_aload_n hx hb dL_law_246 rfl (lv_at hl 1 rfl) ?_
      refine lv_iload hx hb dL_law_247 (lv_at hl 8 rfl) ?_
      obtain ⟨q15, e15, hr⟩ := ob hr
      refine cal_ic (run_HC (As := [.ref (b0 + 0), .int x10]) (rest := [.int x14]) C.x hV hS (c_L_chapters l hfl (xg G a9 (al G 60 A)) b0 V x10 q15 e15) q_380 q_381 q_92 q_382 dk_L_chapters (room_ok hRm (by decide) (by decide)) hl.1 rfl (Nat.le_of_ble_eq_true rfl) dL_law_249 (room_cs hRm (by omega))) hS (fun H locs hV hS => ?_)
      refine lv_icmp_ne (tgt := 275) hx hb dL_law_252 (by decide) (fun b_16 => ?_) (fun b_16 => ?_)
      · have hr := ie b_16 hr
        exact K_275 X_28 c_28 hc_28 (w + 1) _ _ hF _ x3 x4 x5 x6 x8 x11 x14 (by omega) hr _ _ ls hV hS (lv_sub hl [0, 1, 2, 3, 4, 5, 6, 7, 9, 11] rfl)
      · have hr := it b_16 hr
        refine lv_iload hx hb dL_law_255 (lv_at hl 11 rfl) ?_
        refine lv_iload hx hb dL_law_257 (lv_at hl 10 rfl) ?_
        refine lv_icmp_lt (tgt := 275) hx hb dL_law_259 (by decide) (fun b_17 => ?_) (fun b_17 => ?_)
        · have hr := it b_17 hr
          exact K_275 X_28 c_28 hc_28 (w + 1) _ _ hF _ x3 x4 x5 x6 x8 x11 x14 (by omega) hr _ _ ls hV hS (lv_sub hl [0, 1, 2, 3, 4, 5, 6, 7, 9, 11] rfl)
        · have hr := ie b_17 hr
          refine lv_iload hx hb dL_law_262 (lv_at hl 11 rfl) ?_
          refine lv_iload hx hb dL_law_264 (lv_at hl 10 rfl) ?_
          refine lv_iconst (v := 1) hx hb dL_law_266 (by decide) ?_
          refine lv_iadd hx hb dL_law_267 ?_
          refine lv_icmp_gt (tgt := 275) hx hb dL_law_268 (by decide) (fun b_18 => ?_) (fun b_18 => ?_)
          · have hr := it b_18 hr
            exact K_275 X_28 c_28 hc_28 (w + 1) _ _ hF _ x3 x4 x5 x6 x8 x11 x14 (by omega) hr _ _ ls hV hS (lv_sub hl [0, 1, 2, 3, 4, 5, 6, 7, 9, 11] rfl)
          · have hr := ie b_18 hr
            exact K_271 X_28 c_28 hc_28 (w + 1) _ _ hF _ x3 x4 x5 x6 x8 x11 x14 (by omega) hr _ _ ls hV hS (lv_sub hl [0, 1, 2, 3, 4, 5, 6, 7, 9, 11] rfl)
  have K_198 : ∀ (X_28 : Nat) (c_28 : St → (Nat → Int64) → Int32 → Int32 → Int32 → Option (Int32)) (hc_28 : ∀ (w : Nat) (V : St) (a9 : Nat) (hF : Fr G b0 a9) (A : Nat → Int64) (x3 : Int32) (x4 : Int32) (x5 : Int32), w + X_28 ≤ N → c_28 V A x3 x4 x5 = some res → ∀ (H : Heap) (locs : List Loc) (ls : Array Slot), Hd (xg G a9 (al G 60 A)) b0 V H → va_S (Ab b0) s.heap H locs → lv_has ls 18 [(0, .ref G.2.2.2.2.1), (1, .ref (b0 + 0)), (2, .ref a9), (3, .int x3), (4, .int x4), (5, .int x5)] → W p l e R s m args below meth c H locs w (6 * w) Q (F0 m 28 ls [])) (w : Nat) (V : St) (a9 : Nat) (hF : Fr G b0 a9) (A : Nat → Int64) (x3 : Int32) (x4 : Int32) (x5 : Int32) (x6 : Int64) (x8 : Int32) (x10 : Int32) (x11 : Int32) (x12 : Int32) (x13 : Int32) (x14 : Int32) (x15 : Int32) (y0 : Int32), w + 2100 + X_28 ≤ N → f_L_law_b198 G.2.2.2.2.2.1 G.2.2.2.2.2.2 c_28 V A x3 x4 x5 x6 x8 x10 x11 x12 x13 x14 x15 y0 = some res → ∀ (H : Heap) (locs : List Loc) (ls : Array Slot), Hd (xg G a9 (al G 60 A)) b0 V H → va_S (Ab b0) s.heap H locs → lv_has ls 18 [(0, .ref G.2.2.2.2.1), (1, .ref (b0 + 0)), (2, .ref a9), (3, .int x3), (4, .int x4), (5, .int x5), (6, .long x6), (8, .int x8), (10, .int x10), (11, .int x11), (12, .int x12), (13, .int x13), (14, .int x14), (15, .int x15)] → W p l e R s m args below meth c H locs w (6 * w) Q (F0 m 198 ls [.int y0]) := by
    intro X_28 c_28 hc_28 w V a9 hF A x3 x4 x5 x6 x8 x10 x11 x12 x13 x14 x15 y0 hw hr H locs ls hV hS hl
    unfold f_L_law_b198 at hr
    refine lv_istore (lv' := [(16, .int y0), (0, .ref G.2.2.2.2.1), (1, .ref (b0 + 0)), (2, .ref a9), (3, .int x3), (4, .int x4), (5, .int x5), (6, .long x6), (8, .int x8), (10, .int x10), (11, .int x11), (12, .int x12), (13, .int x13), (14, .int x14), (15, .int x15)]) hx hb dL_law_198 hl (by decide) rfl (fun ls hl => ?_)
    refine lv_iload hx hb dL_law_200 (lv_at hl 14 rfl) ?_
    refine lv_if_eq (tgt := 239) hx hb dL_law_202 (by decide) (fun b_19 => ?_) (fun b_19 => ?_)
    · have hr := it b_19 hr
      exact K_239 X_28 c_28 hc_28 w _ _ hF _ x3 x4 x5 x6 x8 x10 x11 x13 x14 y0 (by omega) hr _ _ ls hV hS (lv_sub hl [1, 2, 3, 4, 5, 6, 7, 8, 9, 10, 12, 13, 0] rfl)
    · have hr := ie b_19 hr
      refine lv_aload_n hx hb dL_law_205 rfl (lv_at hl 2 rfl) ?_
      refine lv_iconst (v := 4) hx hb dL_law_206 (by decide) ?_
      obtain ⟨q20, e20, hr⟩ := ob hr
      refine cal_ic (run_HC (As := [.ref (b0 + 0), .int 4]) (rest := []) C.x hV hS (c_L_account l hfl (xg G a9 (al G 60 A)) b0 V 4 q20 e20) q_522 q_523 q_92 q_524 dk_L_account (room_ok hRm (by decide) (by decide)) hl.1 rfl (Nat.le_of_ble_eq_true rfl) dL_law_207 (room_cs hRm (by omega))) hS (fun H locs hV hS => ?_)
      refine lv_iload hx hb dL_law_210 (lv_at hl 11 rfl) ?_
      refine lv_icmp_ge (tgt := 275) hx hb dL_law_212 (by decide) (fun b_21 => ?_) (fun b_21 => ?_)
      · have hr := it b_21 hr
        exact K_275 X_28 c_28 hc_28 (w + 1) _ _ hF _ x3 x4 x5 x6 x8 x11 x14 (by omega) hr _ _ ls hV hS (lv_sub hl [1, 2, 3, 4, 5, 6, 7, 8, 10, 13] rfl)
      · have hr := ie b_21 hr
        refine lv_aload_n hx hb dL_law_215 rfl (lv_at hl 2 rfl) ?_
        refine lv_iload hx hb dL_law_216 (lv_at hl 9 rfl) ?_
        obtain ⟨q22, e22, hr⟩ := ob hr
        refine cal_ic (run_HC (As := [.ref (b0 + 0), .int x10]) (rest := []) C.x hV hS (c_L_chapters l hfl (xg G a9 (al G 60 A)) b0 V x10 q22 e22) q_380 q_381 q_92 q_382 dk_L_chapters (room_ok hRm (by decide) (by decide)) hl.1 rfl (Nat.le_of_ble_eq_true rfl) dL_law_218 (room_cs hRm (by omega))) hS (fun H locs hV hS => ?_)
        refine lv_iload hx hb dL_law_221 (lv_at hl 12 rfl) ?_
        refine lv_iconst (v := 1) hx hb dL_law_223 (by decide) ?_
        refine lv_isub hx hb dL_law_224 ?_
        refine lv_icmp_lt (tgt := 275) hx hb dL_law_225 (by decide) (fun b_23 => ?_) (fun b_23 => ?_)
        · have hr := it b_23 hr
          exact K_275 X_28 c_28 hc_28 (w + 1 + 1) _ _ hF _ x3 x4 x5 x6 x8 x11 x14 (by omega) hr _ _ ls hV hS (lv_sub hl [1, 2, 3, 4, 5, 6, 7, 8, 10, 13] rfl)
        · have hr := ie b_23 hr
          refine lv_aload_n hx hb dL_law_228 rfl (lv_at hl 2 rfl) ?_
          refine lv_iload hx hb dL_law_229 (lv_at hl 9 rfl) ?_
          obtain ⟨q24, e24, hr⟩ := ob hr
          refine cal_ic (run_HC (As := [.ref (b0 + 0), .int x10]) (rest := []) C.x hV hS (c_L_chapters l hfl (xg G a9 (al G 60 A)) b0 V x10 q24 e24) q_380 q_381 q_92 q_382 dk_L_chapters (room_ok hRm (by decide) (by decide)) hl.1 rfl (Nat.le_of_ble_eq_true rfl) dL_law_231 (room_cs hRm (by omega))) hS (fun H locs hV hS => ?_)
          refine lv_iload hx hb dL_law_234 (lv_at hl 12 rfl) ?_
          refine lv_icmp_gt (tgt := 275) hx hb dL_law_236 (by decide) (fun b_25 => ?_) (fun b_25 => ?_)
          · have hr := it b_25 hr
            exact K_275 X_28 c_28 hc_28 (w + 1 + 1 + 1) _ _ hF _ x3 x4 x5 x6 x8 x11 x14 (by omega) hr _ _ ls hV hS (lv_sub hl [1, 2, 3, 4, 5, 6, 7, 8, 10, 13] rfl)
          · have hr := ie b_25 hr
            exact K_239 X_28 c_28 hc_28 (w + 1 + 1 + 1) _ _ hF _ x3 x4 x5 x6 x8 x10 x11 x13 x14 y0 (by omega) hr _ _ ls hV hS (lv_sub hl [1, 2, 3, 4, 5, 6, 7, 8, 9, 10, 12, 13, 0] rfl)
  have K_197 : ∀ (X_28 : Nat) (c_28 : St → (Nat → Int64) → Int32 → Int32 → Int32 → Option (Int32)) (hc_28 : ∀ (w : Nat) (V : St) (a9 : Nat) (hF : Fr G b0 a9) (A : Nat → Int64) (x3 : Int32) (x4 : Int32) (x5 : Int32), w + X_28 ≤ N → c_28 V A x3 x4 x5 = some res → ∀ (H : Heap) (locs : List Loc) (ls : Array Slot), Hd (xg G a9 (al G 60 A)) b0 V H → va_S (Ab b0) s.heap H locs → lv_has ls 18 [(0, .ref G.2.2.2.2.1), (1, .ref (b0 + 0)), (2, .ref a9), (3, .int x3), (4, .int x4), (5, .int x5)] → W p l e R s m args below meth c H locs w (6 * w) Q (F0 m 28 ls [])) (w : Nat) (V : St) (a9 : Nat) (hF : Fr G b0 a9) (A : Nat → Int64) (x3 : Int32) (x4 : Int32) (x5 : Int32) (x6 : Int64) (x8 : Int32) (x10 : Int32) (x11 : Int32) (x12 : Int32) (x13 : Int32) (x14 : Int32) (x15 : Int32), w + 2100 + X_28 ≤ N → f_L_law_b197 G.2.2.2.2.2.1 G.2.2.2.2.2.2 c_28 V A x3 x4 x5 x6 x8 x10 x11 x12 x13 x14 x15 = some res → ∀ (H : Heap) (locs : List Loc) (ls : Array Slot), Hd (xg G a9 (al G 60 A)) b0 V H → va_S (Ab b0) s.heap H locs → lv_has ls 18 [(0, .ref G.2.2.2.2.1), (1, .ref (b0 + 0)), (2, .ref a9), (3, .int x3), (4, .int x4), (5, .int x5), (6, .long x6), (8, .int x8), (10, .int x10), (11, .int x11), (12, .int x12), (13, .int x13), (14, .int x14), (15, .int x15)] → W p l e R s m args below meth c H locs w (6 * w) Q (F0 m 197 ls []) := by
    intro X_28 c_28 hc_28 w V a9 hF A x3 x4 x5 x6 x8 x10 x11 x12 x13 x14 x15 hw hr H locs ls hV hS hl
    unfold f_L_law_b197 at hr
    refine lv_iconst (v := 0) hx hb dL_law_197 (by decide) ?_
    exact K_198 X_28 c_28 hc_28 w _ _ hF _ x3 x4 x5 x6 x8 x10 x11 x12 x13 x14 x15 0 (by omega) hr _ _ ls hV hS (lv_sub hl [0, 1, 2, 3, 4, 5, 6, 7, 8, 9, 10, 11, 12, 13] rfl)
  have K_170 : ∀ (X_28 : Nat) (c_28 : St → (Nat → Int64) → Int32 → Int32 → Int32 → Option (Int32)) (hc_28 : ∀ (w : Nat) (V : St) (a9 : Nat) (hF : Fr G b0 a9) (A : Nat → Int64) (x3 : Int32) (x4 : Int32) (x5 : Int32), w + X_28 ≤ N → c_28 V A x3 x4 x5 = some res → ∀ (H : Heap) (locs : List Loc) (ls : Array Slot), Hd (xg G a9 (al G 60 A)) b0 V H → va_S (Ab b0) s.heap H locs → lv_has ls 18 [(0, .ref G.2.2.2.2.1), (1, .ref (b0 + 0)), (2, .ref a9), (3, .int x3), (4, .int x4), (5, .int x5)] → W p l e R s m args below meth c H locs w (6 * w) Q (F0 m 28 ls [])) (w : Nat) (V : St) (a9 : Nat) (hF : Fr G b0 a9) (A : Nat → Int64) (x3 : Int32) (x4 : Int32) (x5 : Int32) (x6 : Int64) (x8 : Int32) (x9 : Int32) (x10 : Int32) (x11 : Int32) (x12 : Int32) (x13 : Int32) (x14 : Int32) (y0 : Int32), w + 2100 + X_28 ≤ N → f_L_law_b170 G.2.2.2.2.2.1 G.2.2.2.2.2.2 c_28 V A x3 x4 x5 x6 x8 x9 x10 x11 x12 x13 x14 y0 = some res → ∀ (H : Heap) (locs : List Loc) (ls : Array Slot), Hd (xg G a9 (al G 60 A)) b0 V H → va_S (Ab b0) s.heap H locs → lv_has ls 18 [(0, .ref G.2.2.2.2.1), (1, .ref (b0 + 0)), (2, .ref a9), (3, .int x3), (4, .int x4), (5, .int x5), (6, .long x6), (8, .int x8), (9, .int x9), (10, .int x10), (11, .int x11), (12, .int x12), (13, .int x13), (14, .int x14)] → W p l e R s m args below meth c H locs w (6 * w) Q (F0 m 170 ls [.int y0]) := by
    intro X_28 c_28 hc_28 w V a9 hF A x3 x4 x5 x6 x8 x9 x10 x11 x12 x13 x14 y0 hw hr H locs ls hV hS hl
    unfold f_L_law_b170 at hr
    refine lv_istore (lv' := [(15, .int y0), (0, .ref G.2.2.2.2.1), (1, .ref (b0 + 0)), (2, .ref a9), (3, .int x3), (4, .int x4), (5, .int x5), (6, .long x6), (8, .int x8), (9, .int x9), (10, .int x10), (11, .int x11), (12, .int x12), (13, .int x13), (14, .int x14)]) hx hb dL_law_170 hl (by decide) rfl (fun ls hl => ?_)
    refine lv_iload hx hb dL_law_172 (lv_at hl 9 rfl) ?_
    refine lv_bipush (v := 7) hx hb dL_law_174 (by decide) ?_
    refine lv_icmp_le (tgt := 197) hx hb dL_law_176 (by decide) (fun b_26 => ?_) (fun b_26 => ?_)
    · have hr := it b_26 hr
      exact K_197 X_28 c_28 hc_28 w _ _ hF _ x3 x4 x5 x6 x8 x10 x11 x12 x13 x14 y0 (by omega) hr _ _ ls hV hS (lv_sub hl [1, 2, 3, 4, 5, 6, 7, 8, 10, 11, 12, 13, 14, 0] rfl)
    · have hr := ie b_26 hr
      refine lv_iload hx hb dL_law_179 (lv_at hl 9 rfl) ?_
      refine lv_bipush (v := 13) hx hb dL_law_181 (by decide) ?_
      refine lv_icmp_ge (tgt := 197) hx hb dL_law_183 (by decide) (fun b_27 => ?_) (fun b_27 => ?_)
      · have hr := it b_27 hr
        exact K_197 X_28 c_28 hc_28 w _ _ hF _ x3 x4 x5 x6 x8 x10 x11 x12 x13 x14 y0 (by omega) hr _ _ ls hV hS (lv_sub hl [1, 2, 3, 4, 5, 6, 7, 8, 10, 11, 12, 13, 14, 0] rfl)
      · have hr := ie b_27 hr
        refine lv_iload hx hb dL_law_186 (lv_at hl 14 rfl) ?_
        refine lv_bipush (v := (-70)) hx hb dL_law_188 (by decide) ?_
        refine lv_icmp_le (tgt := 197) hx hb dL_law_190 (by decide) (fun b_28 => ?_) (fun b_28 => ?_)
        · have hr := it b_28 hr
          exact K_197 X_28 c_28 hc_28 w _ _ hF _ x3 x4 x5 x6 x8 x10 x11 x12 x13 x14 y0 (by omega) hr _ _ ls hV hS (lv_sub hl [1, 2, 3, 4, 5, 6, 7, 8, 10, 11, 12, 13, 14, 0] rfl)
        · have hr := ie b_28 hr
          refine lv_iconst (v := 1) hx hb dL_law_193 (by decide) ?_
          refine lv_goto (tgt := 198) hx hb dL_law_194 (by decide) ?_
          exact K_198 X_28 c_28 hc_28 w _ _ hF _ x3 x4 x5 x6 x8 x10 x11 x12 x13 x14 y0 1 (by omega) hr _ _ ls hV hS (lv_sub hl [1, 2, 3, 4, 5, 6, 7, 8, 10, 11, 12, 13, 14, 0] rfl)
  have K_169 : ∀ (X_28 : Nat) (c_28 : St → (Nat → Int64) → Int32 → Int32 → Int32 → Option (Int32)) (hc_28 : ∀ (w : Nat) (V : St) (a9 : Nat) (hF : Fr G b0 a9) (A : Nat → Int64) (x3 : Int32) (x4 : Int32) (x5 : Int32), w + X_28 ≤ N → c_28 V A x3 x4 x5 = some res → ∀ (H : Heap) (locs : List Loc) (ls : Array Slot), Hd (xg G a9 (al G 60 A)) b0 V H → va_S (Ab b0) s.heap H locs → lv_has ls 18 [(0, .ref G.2.2.2.2.1), (1, .ref (b0 + 0)), (2, .ref a9), (3, .int x3), (4, .int x4), (5, .int x5)] → W p l e R s m args below meth c H locs w (6 * w) Q (F0 m 28 ls [])) (w : Nat) (V : St) (a9 : Nat) (hF : Fr G b0 a9) (A : Nat → Int64) (x3 : Int32) (x4 : Int32) (x5 : Int32) (x6 : Int64) (x8 : Int32) (x9 : Int32) (x10 : Int32) (x11 : Int32) (x12 : Int32) (x13 : Int32) (x14 : Int32), w + 2100 + X_28 ≤ N → f_L_law_b169 G.2.2.2.2.2.1 G.2.2.2.2.2.2 c_28 V A x3 x4 x5 x6 x8 x9 x10 x11 x12 x13 x14 = some res → ∀ (H : Heap) (locs : List Loc) (ls : Array Slot), Hd (xg G a9 (al G 60 A)) b0 V H → va_S (Ab b0) s.heap H locs → lv_has ls 18 [(0, .ref G.2.2.2.2.1), (1, .ref (b0 + 0)), (2, .ref a9), (3, .int x3), (4, .int x4), (5, .int x5), (6, .long x6), (8, .int x8), (9, .int x9), (10, .int x10), (11, .int x11), (12, .int x12), (13, .int x13), (14, .int x14)] → W p l e R s m args below meth c H locs w (6 * w) Q (F0 m 169 ls []) := by
    intro X_28 c_28 hc_28 w V a9 hF A x3 x4 x5 x6 x8 x9 x10 x11 x12 x13 x14 hw hr H locs ls hV hS hl
    unfold f_L_law_b169 at hr
    refine lv_iconst (v := 0) hx hb dL_law_169 (by decide) ?_
    exact K_170 X_28 c_28 hc_28 w _ _ hF _ x3 x4 x5 x6 x8 x9 x10 x11 x12 x13 x14 0 (by omega) hr _ _ ls hV hS (lv_sub hl [0, 1, 2, 3, 4, 5, 6, 7, 8, 9, 10, 11, 12, 13] rfl)
  have K_100 : ∀ (X_28 : Nat) (c_28 : St → (Nat → Int64) → Int32 → Int32 → Int32 → Option (Int32)) (hc_28 : ∀ (w : Nat) (V : St) (a9 : Nat) (hF : Fr G b0 a9) (A : Nat → Int64) (x3 : Int32) (x4 : Int32) (x5 : Int32), w + X_28 ≤ N → c_28 V A x3 x4 x5 = some res → ∀ (H : Heap) (locs : List Loc) (ls : Array Slot), Hd (xg G a9 (al G 60 A)) b0 V H → va_S (Ab b0) s.heap H locs → lv_has ls 18 [(0, .ref G.2.2.2.2.1), (1, .ref (b0 + 0)), (2, .ref a9), (3, .int x3), (4, .int x4), (5, .int x5)] → W p l e R s m args below meth c H locs w (6 * w) Q (F0 m 28 ls [])) (w : Nat) (V : St) (a9 : Nat) (hF : Fr G b0 a9) (A : Nat → Int64) (x3 : Int32) (x4 : Int32) (x5 : Int32) (x6 : Int64) (x8 : Int32) (x9 : Int32) (y0 : Int32), w + 2286 + X_28 ≤ N → f_L_law_b100 G.2.2.2.2.2.1 G.2.2.2.2.2.2 c_28 V A x3 x4 x5 x6 x8 x9 y0 = some res → ∀ (H : Heap) (locs : List Loc) (ls : Array Slot), Hd (xg G a9 (al G 60 A)) b0 V H → va_S (Ab b0) s.heap H locs → lv_has ls 18 [(0, .ref G.2.2.2.2.1), (1, .ref (b0 + 0)), (2, .ref a9), (3, .int x3), (4, .int x4), (5, .int x5), (6, .long x6), (8, .int x8), (9, .int x9)] → W p l e R s m args below meth c H locs w (6 * w) Q (F0 m 100 ls [.int y0]) := by
    intro X_28 c_28 hc_28 w V a9 hF A x3 x4 x5 x6 x8 x9 y0 hw hr H locs ls hV hS hl
    unfold f_L_law_b100 at hr
    refine lv_istore (lv' := [(10, .int y0), (0, .ref G.2.2.2.2.1), (1, .ref (b0 + 0)), (2, .ref a9), (3, .int x3), (4, .int x4), (5, .int x5), (6, .long x6), (8, .int x8), (9, .int x9)]) hx hb dL_law_100 hl (by decide) rfl (fun ls hl => ?_)
    refine lv_aload_n hx hb dL_law_102 rfl (lv_at hl 1 rfl) ?_
    refine lv_iload hx hb dL_law_103 (lv_at hl 5 rfl) ?_
    refine lv_iconst (v := 3) hx hb dL_law_105 (by decide) ?_
    refine lv_iadd hx hb dL_law_106 ?_
    refine lv_bipush (v := 24) hx hb dL_law_107 (by decide) ?_
    obtain ⟨q29, e29, hr⟩ := ob hr
    refine cal_ic (run_C (As := [.ref G.2.2.2.2.1, .int (x4 + 3), .int 24]) (rest := []) C.x hV hS (c_L_pick l (xg G a9 (al G 60 A)) b0 V (x4 + 3) 24 q29 e29) q_373 q_374 q_92 q_375 dk_L_pick (room_ok hRm (by decide) (by decide)) hl.1 rfl (Nat.le_of_ble_eq_true rfl) dL_law_109 (room_cs hRm (by omega))) hS (fun H locs hV hS => ?_)
    refine lv_istore (lv' := [(11, .int q29), (10, .int y0), (0, .ref G.2.2.2.2.1), (1, .ref (b0 + 0)), (2, .ref a9), (3, .int x3), (4, .int x4), (5, .int x5), (6, .long x6), (8, .int x8), (9, .int x9)]) hx hb dL_law_112 hl (by decide) rfl (fun ls hl => ?_)
    refine lv_aload_n hx hb dL_law_114 rfl (lv_at hl 3 rfl) ?_
    refine lv_iconst (v := 4) hx hb dL_law_115 (by decide) ?_
    obtain ⟨q30, e30, hr⟩ := ob hr
    refine cal_ic (run_HC (As := [.ref (b0 + 0), .int 4]) (rest := []) C.x hV hS (c_L_account l hfl (xg G a9 (al G 60 A)) b0 V 4 q30 e30) q_522 q_523 q_92 q_524 dk_L_account (room_ok hRm (by decide) (by decide)) hl.1 rfl (Nat.le_of_ble_eq_true rfl) dL_law_116 (room_cs hRm (by omega))) hS (fun H locs hV hS => ?_)
    refine lv_istore (lv' := [(12, .int q30), (11, .int q29), (10, .int y0), (0, .ref G.2.2.2.2.1), (1, .ref (b0 + 0)), (2, .ref a9), (3, .int x3), (4, .int x4), (5, .int x5), (6, .long x6), (8, .int x8), (9, .int x9)]) hx hb dL_law_119 hl (by decide) rfl (fun ls hl => ?_)
    refine lv_aload_n hx hb dL_law_121 rfl (lv_at hl 4 rfl) ?_
    refine lv_iload hx hb dL_law_122 (lv_at hl 2 rfl) ?_
    obtain ⟨q31, e31, hr⟩ := ob hr
    refine cal_ic (run_HC (As := [.ref (b0 + 0), .int y0]) (rest := []) C.x hV hS (c_L_chapters l hfl (xg G a9 (al G 60 A)) b0 V y0 q31 e31) q_380 q_381 q_92 q_382 dk_L_chapters (room_ok hRm (by decide) (by decide)) hl.1 rfl (Nat.le_of_ble_eq_true rfl) dL_law_124 (room_cs hRm (by omega))) hS (fun H locs hV hS => ?_)
    refine lv_istore (lv' := [(13, .int q31), (12, .int q30), (11, .int q29), (10, .int y0), (0, .ref G.2.2.2.2.1), (1, .ref (b0 + 0)), (2, .ref a9), (3, .int x3), (4, .int x4), (5, .int x5), (6, .long x6), (8, .int x8), (9, .int x9)]) hx hb dL_law_127 hl (by decide) rfl (fun ls hl => ?_)
    refine lv_aload_n hx hb dL_law_129 rfl (lv_at hl 4 rfl) ?_
    refine lv_iload hx hb dL_law_130 (lv_at hl 8 rfl) ?_
    refine lv_iload hx hb dL_law_132 (lv_at hl 12 rfl) ?_
    refine lv_aload_n hx hb dL_law_134 rfl (lv_at hl 5 rfl) ?_
    refine lv_iload hx hb dL_law_135 (lv_at hl 3 rfl) ?_
    refine lv_iload hx hb dL_law_137 (lv_at hl 2 rfl) ?_
    obtain ⟨q32, e32, hr⟩ := ob hr
    refine cal_ic (run_C (As := [.ref G.2.2.2.2.1, .int x4, .int x9, .ref (b0 + 0), .int y0, .int q29]) (rest := []) C.x hV hS (c_L_does l hfl (xg G a9 (al G 60 A)) b0 V x4 x9 y0 q29 q32 e32) q_597 q_598 q_92 q_599 dk_L_does (room_ok hRm (by decide) (by decide)) hl.1 rfl (Nat.le_of_ble_eq_true rfl) dL_law_139 (room_cs hRm (by omega))) hS (fun H locs hV hS => ?_)
    refine lv_istore (lv' := [(14, .int q32.1), (13, .int q31), (12, .int q30), (11, .int q29), (10, .int y0), (0, .ref G.2.2.2.2.1), (1, .ref (b0 + 0)), (2, .ref a9), (3, .int x3), (4, .int x4), (5, .int x5), (6, .long x6), (8, .int x8), (9, .int x9)]) hx hb dL_law_142 hl (by decide) rfl (fun ls hl => ?_)
    refine lv_iload hx hb dL_law_144 (lv_at hl 13 rfl) ?_
    refine lv_bipush (v := 12) hx hb dL_law_146 (by decide) ?_
    refine lv_icmp_le (tgt := 169) hx hb dL_law_148 (by decide) (fun b_33 => ?_) (fun b_33 => ?_)
    · have hr := it b_33 hr
      exact K_169 X_28 c_28 hc_28 (w + 0 + 1 + 1 + 184) _ _ hF _ x3 x4 x5 x6 x8 x9 y0 q29 q30 q31 q32.1 (by omega) hr _ _ ls hV hS (lv_sub hl [5, 6, 7, 8, 9, 10, 11, 12, 13, 4, 3, 2, 1, 0] rfl)
    · have hr := ie b_33 hr
      refine lv_iload hx hb dL_law_151 (lv_at hl 13 rfl) ?_
      refine lv_bipush (v := 16) hx hb dL_law_153 (by decide) ?_
      refine lv_icmp_ge (tgt := 169) hx hb dL_law_155 (by decide) (fun b_34 => ?_) (fun b_34 => ?_)
      · have hr := it b_34 hr
        exact K_169 X_28 c_28 hc_28 (w + 0 + 1 + 1 + 184) _ _ hF _ x3 x4 x5 x6 x8 x9 y0 q29 q30 q31 q32.1 (by omega) hr _ _ ls hV hS (lv_sub hl [5, 6, 7, 8, 9, 10, 11, 12, 13, 4, 3, 2, 1, 0] rfl)
      · have hr := ie b_34 hr
        refine lv_iload hx hb dL_law_158 (lv_at hl 0 rfl) ?_
        refine lv_bipush (v := (-70)) hx hb dL_law_160 (by decide) ?_
        refine lv_icmp_le (tgt := 169) hx hb dL_law_162 (by decide) (fun b_35 => ?_) (fun b_35 => ?_)
        · have hr := it b_35 hr
          exact K_169 X_28 c_28 hc_28 (w + 0 + 1 + 1 + 184) _ _ hF _ x3 x4 x5 x6 x8 x9 y0 q29 q30 q31 q32.1 (by omega) hr _ _ ls hV hS (lv_sub hl [5, 6, 7, 8, 9, 10, 11, 12, 13, 4, 3, 2, 1, 0] rfl)
        · have hr := ie b_35 hr
          refine lv_iconst (v := 1) hx hb dL_law_165 (by decide) ?_
          refine lv_goto (tgt := 170) hx hb dL_law_166 (by decide) ?_
          exact K_170 X_28 c_28 hc_28 (w + 0 + 1 + 1 + 184) _ _ hF _ x3 x4 x5 x6 x8 x9 y0 q29 q30 q31 q32.1 1 (by omega) hr _ _ ls hV hS (lv_sub hl [5, 6, 7, 8, 9, 10, 11, 12, 13, 4, 3, 2, 1, 0] rfl)
  have K_80 : ∀ (X_28 : Nat) (c_28 : St → (Nat → Int64) → Int32 → Int32 → Int32 → Option (Int32)) (hc_28 : ∀ (w : Nat) (V : St) (a9 : Nat) (hF : Fr G b0 a9) (A : Nat → Int64) (x3 : Int32) (x4 : Int32) (x5 : Int32), w + X_28 ≤ N → c_28 V A x3 x4 x5 = some res → ∀ (H : Heap) (locs : List Loc) (ls : Array Slot), Hd (xg G a9 (al G 60 A)) b0 V H → va_S (Ab b0) s.heap H locs → lv_has ls 18 [(0, .ref G.2.2.2.2.1), (1, .ref (b0 + 0)), (2, .ref a9), (3, .int x3), (4, .int x4), (5, .int x5)] → W p l e R s m args below meth c H locs w (6 * w) Q (F0 m 28 ls [])) (w : Nat) (V : St) (a9 : Nat) (hF : Fr G b0 a9) (A : Nat → Int64) (x3 : Int32) (x4 : Int32) (x5 : Int32) (x6 : Int64) (x8 : Int32) (y0 : Int32), w + 2286 + X_28 ≤ N → f_L_law_b80 G.2.2.2.2.2.1 G.2.2.2.2.2.2 c_28 V A x3 x4 x5 x6 x8 y0 = some res → ∀ (H : Heap) (locs : List Loc) (ls : Array Slot), Hd (xg G a9 (al G 60 A)) b0 V H → va_S (Ab b0) s.heap H locs → lv_has ls 18 [(0, .ref G.2.2.2.2.1), (1, .ref (b0 + 0)), (2, .ref a9), (3, .int x3), (4, .int x4), (5, .int x5), (6, .long x6), (8, .int x8)] → W p l e R s m args below meth c H locs w (6 * w) Q (F0 m 80 ls [.int y0]) := by
    intro X_28 c_28 hc_28 w V a9 hF A x3 x4 x5 x6 x8 y0 hw hr H locs ls hV hS hl
    unfold f_L_law_b80 at hr
    refine lv_istore (lv' := [(9, .int y0), (0, .ref G.2.2.2.2.1), (1, .ref (b0 + 0)), (2, .ref a9), (3, .int x3), (4, .int x4), (5, .int x5), (6, .long x6), (8, .int x8)]) hx hb dL_law_80 hl (by decide) rfl (fun ls hl => ?_)
    refine lv_aload_n hx hb dL_law_82 rfl (lv_at hl 1 rfl) ?_
    refine lv_iload hx hb dL_law_83 (lv_at hl 5 rfl) ?_
    refine lv_iconst (v := 2) hx hb dL_law_85 (by decide) ?_
    refine lv_iadd hx hb dL_law_86 ?_
    refine lv_bipush (v := 9) hx hb dL_law_87 (by decide) ?_
    obtain ⟨q36, e36, hr⟩ := ob hr
    refine cal_ic (run_C (As := [.ref G.2.2.2.2.1, .int (x4 + 2), .int 9]) (rest := []) C.x hV hS (c_L_pick l (xg G a9 (al G 60 A)) b0 V (x4 + 2) 9 q36 e36) q_373 q_374 q_92 q_375 dk_L_pick (room_ok hRm (by decide) (by decide)) hl.1 rfl (Nat.le_of_ble_eq_true rfl) dL_law_89 (room_cs hRm (by omega))) hS (fun H locs hV hS => ?_)
    refine lv_if_ne (tgt := 99) hx hb dL_law_92 (by decide) (fun b_37 => ?_) (fun b_37 => ?_)
    · have hr := ie b_37 hr
      refine lv_iconst (v := 0) hx hb dL_law_99 (by decide) ?_
      exact K_100 X_28 c_28 hc_28 (w + 0) _ _ hF _ x3 x4 x5 x6 x8 y0 0 (by omega) hr _ _ ls hV hS (lv_sub hl [1, 2, 3, 4, 5, 6, 7, 8, 0] rfl)
    · have hr := it b_37 hr
      refine lv_iconst (v := 1) hx hb dL_law_95 (by decide) ?_
      refine lv_goto (tgt := 100) hx hb dL_law_96 (by decide) ?_
      exact K_100 X_28 c_28 hc_28 (w + 0) _ _ hF _ x3 x4 x5 x6 x8 y0 1 (by omega) hr _ _ ls hV hS (lv_sub hl [1, 2, 3, 4, 5, 6, 7, 8, 0] rfl)
  have K_28 : ∀ (n : Nat) (w : Nat) (V : St) (a9 : Nat) (hF : Fr G b0 a9) (A : Nat → Int64) (x3 : Int32) (x4 : Int32) (x5 : Int32), w + n * 3323 + 0 ≤ N → f_L_law_b28 G.2.2.2.2.2.1 G.2.2.2.2.2.2 n V A x3 x4 x5 = some res → ∀ (H : Heap) (locs : List Loc) (ls : Array Slot), Hd (xg G a9 (al G 60 A)) b0 V H → va_S (Ab b0) s.heap H locs → lv_has ls 18 [(0, .ref G.2.2.2.2.1), (1, .ref (b0 + 0)), (2, .ref a9), (3, .int x3), (4, .int x4), (5, .int x5)] → W p l e R s m args below meth c H locs w (6 * w) Q (F0 m 28 ls []) := by
    intro  n
    induction n with
    | zero =>
      intro w V a9 hF A x3 x4 x5 hw hr
      rw [f_L_law_b28] at hr
      cases hr
    | succ n ih =>
      intro w V a9 hF A x3 x4 x5 hw hr H locs ls hV hS hl
      rw [f_L_law_b28] at hr
      refine lv_iload hx hb dL_law_28 (lv_at hl 5 rfl) ?_
      refine lv_bipush (v := 46) hx hb dL_law_30 (by decide) ?_
      refine lv_icmp_ge (tgt := 365) hx hb dL_law_32 (by decide) (fun b_38 => ?_) (fun b_38 => ?_)
      · have hr := it b_38 hr
        refine lv_aload_n hx hb dL_law_365 rfl (lv_at hl 1 rfl) ?_
        refine lv_aload_n hx hb dL_law_366 rfl (lv_at hl 2 rfl) ?_
        refine lv_iload_n hx hb dL_law_367 rfl (lv_at hl 3 rfl) ?_
        obtain ⟨q39, e39, hr⟩ := ob hr
        refine cal_ic (run_C (As := [.ref (b0 + 0), .ref a9, .int x3]) (rest := []) C.x hV hS (c_L_isKept l hfl G b0 V a9 A x3 q39 e39) q_1528 q_1529 q_92 q_1530 dk_L_isKept (room_ok hRm (by decide) (by decide)) hl.1 rfl (Nat.le_of_ble_eq_true rfl) dL_law_368 (room_cs hRm (by omega))) hS (fun H locs hV hS => ?_)
        have e9 := (Option.some.inj hr).trans hres
        rw [e9]
        exact hend _ _ _ _ (by omega) hS
      · have hr := ie b_38 hr
        refine lv_aload_n hx hb dL_law_35 rfl (lv_at hl 1 rfl) ?_
        obtain ⟨q40, e40, hr⟩ := ob hr
        refine cal_lc (run_C (As := [.ref (b0 + 0)]) (rest := []) C.x hV hS (c_L_sum l hfl (xg G a9 (al G 60 A)) b0 V q40 e40) q_1235 q_1236 q_92 q_1237 dk_L_sum (room_ok hRm (by decide) (by decide)) hl.1 rfl (Nat.le_of_ble_eq_true rfl) dL_law_36 (room_cs hRm (by omega))) hS (fun H locs hV hS => ?_)
        refine lv_lstore (lv' := [(6, .long q40.1), (0, .ref G.2.2.2.2.1), (1, .ref (b0 + 0)), (2, .ref a9), (3, .int x3), (4, .int x4), (5, .int x5)]) hx hb dL_law_39 hl (by decide) rfl (fun ls hl => ?_)
        refine lv_aload_n hx hb dL_law_41 rfl (lv_at hl 2 rfl) ?_
        refine lv_bipush (v := 12) hx hb dL_law_42 (by decide) ?_
        obtain ⟨q41, e41, hr⟩ := ob hr
        refine cal_ic (run_HC (As := [.ref (b0 + 0), .int 12]) (rest := []) C.x hV hS (c_L_account l hfl (xg G a9 (al G 60 A)) b0 q40.2 12 q41 e41) q_522 q_523 q_92 q_524 dk_L_account (room_ok hRm (by decide) (by decide)) hl.1 rfl (Nat.le_of_ble_eq_true rfl) dL_law_44 (room_cs hRm (by omega))) hS (fun H locs hV hS => ?_)
        refine lv_istore (lv' := [(8, .int q41), (6, .long q40.1), (0, .ref G.2.2.2.2.1), (1, .ref (b0 + 0)), (2, .ref a9), (3, .int x3), (4, .int x4), (5, .int x5)]) hx hb dL_law_47 hl (by decide) rfl (fun ls hl => ?_)
        refine lv_iload hx hb dL_law_49 (lv_at hl 7 rfl) ?_
        refine lv_bipush (v := 7) hx hb dL_law_51 (by decide) ?_
        refine lv_icmp_ge (tgt := 60) hx hb dL_law_53 (by decide) (fun b_42 => ?_) (fun b_42 => ?_)
        · have hr := it b_42 hr
          refine lv_iload hx hb dL_law_60 (lv_at hl 7 rfl) ?_
          refine lv_bipush (v := 9) hx hb dL_law_62 (by decide) ?_
          refine lv_icmp_ge (tgt := 72) hx hb dL_law_64 (by decide) (fun b_43 => ?_) (fun b_43 => ?_)
          · have hr := it b_43 hr
            refine lv_aload_n hx hb dL_law_72 rfl (lv_at hl 2 rfl) ?_
            refine lv_iload hx hb dL_law_73 (lv_at hl 6 rfl) ?_
            refine lv_bipush (v := 27) hx hb dL_law_75 (by decide) ?_
            obtain ⟨q44, e44, hr⟩ := ob hr
            refine cal_ic (run_C (As := [.ref G.2.2.2.2.1, .int x4, .int 27]) (rest := []) C.x hV hS (c_L_pick l (xg G a9 (al G 60 A)) b0 q40.2 x4 27 q44 e44) q_373 q_374 q_92 q_375 dk_L_pick (room_ok hRm (by decide) (by decide)) hl.1 rfl (Nat.le_of_ble_eq_true rfl) dL_law_77 (room_cs hRm (by omega))) hS (fun H locs hV hS => ?_)
            exact K_80 (n * 3323 + 0) (fun V A x3 x4 x5 => f_L_law_b28 G.2.2.2.2.2.1 G.2.2.2.2.2.2 n V A x3 x4 x5) (fun w V a9 hF A x3 x4 x5 hw hr => ih w V a9 hF A x3 x4 x5 (by omega) hr) (w + 366 + 1 + 0) _ _ hF _ x3 x4 x5 q40.1 q41 q44 (by omega) hr _ _ ls hV hS (lv_sub hl [2, 3, 4, 5, 6, 7, 1, 0] rfl)
          · have hr := ie b_43 hr
            refine lv_bipush (v := 16) hx hb dL_law_67 (by decide) ?_
            refine lv_goto (tgt := 80) hx hb dL_law_69 (by decide) ?_
            exact K_80 (n * 3323 + 0) (fun V A x3 x4 x5 => f_L_law_b28 G.2.2.2.2.2.1 G.2.2.2.2.2.2 n V A x3 x4 x5) (fun w V a9 hF A x3 x4 x5 hw hr => ih w V a9 hF A x3 x4 x5 (by omega) hr) (w + 366 + 1) _ _ hF _ x3 x4 x5 q40.1 q41 16 (by omega) hr _ _ ls hV hS (lv_sub hl [2, 3, 4, 5, 6, 7, 1, 0] rfl)
        · have hr := ie b_42 hr
          refine lv_iconst (v := 0) hx hb dL_law_56 (by decide) ?_
          refine lv_goto (tgt := 80) hx hb dL_law_57 (by decide) ?_
          exact K_80 (n * 3323 + 0) (fun V A x3 x4 x5 => f_L_law_b28 G.2.2.2.2.2.1 G.2.2.2.2.2.2 n V A x3 x4 x5) (fun w V a9 hF A x3 x4 x5 hw hr => ih w V a9 hF A x3 x4 x5 (by omega) hr) (w + 366 + 1) _ _ hF _ x3 x4 x5 q40.1 q41 0 (by omega) hr _ _ ls hV hS (lv_sub hl [2, 3, 4, 5, 6, 7, 1, 0] rfl)
  exact K_28
end LLW
