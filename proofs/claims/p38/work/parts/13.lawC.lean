def f_L_isWhole_b463 (V : St) (x9 : Int32) (y0 : Int32) : Option (Int32 × St) :=
  if x9 = 0 then
    some (0, V)
  else
    if y0 = 0 then
      some (0, V)
    else
      (f_X9_isBalanced V).bind fun q3 =>
      if q3.1 = 0 then
        some (0, q3.2)
      else
        some (1, q3.2)
def f_L_isWhole_b462 (V : St) (x9 : Int32) : Option (Int32 × St) :=
  f_L_isWhole_b463 V x9 0
def f_L_isWhole_b454 (V : St) (x9 : Int32) (y0 : UInt32) (y1 : UInt32) : Option (Int32 × St) :=
  if (fcm y1 y0) = 0 then
    f_L_isWhole_b463 V x9 1
  else
    f_L_isWhole_b462 V x9
def f_L_isWhole_b429 (V : St) (x6 : Int32) (x7 : Int32) (x9 : Int32) (y0 : UInt64) (y1 : UInt64) : Option (Int32 × St) :=
  if (dcm y1 y0) = 0 then
    (f_L_readShare V).bind fun q7 =>
    if x6 = 0 then
      f_L_isWhole_b454 V x9 3264479232 q7
    else
      (fv (FP.i2f x7) (FP.i2f x6)).bind fun q9 =>
      f_L_isWhole_b454 V x9 q9 q7
  else
    f_L_isWhole_b462 V x9
def f_L_isWhole_b405 (V : St) (x6 : Int32) (x7 : Int32) (x8 : Int32) (y0 : Int32) : Option (Int32 × St) :=
  (f_L_meanKnots V).bind fun q10 =>
  if x8 = 0 then
    f_L_isWhole_b429 V x6 x7 y0 13858279740860792832 q10
  else
    (dv (FP.i2d x6) (FP.i2d x8)).bind fun q12 =>
    f_L_isWhole_b429 V x6 x7 y0 q12 q10
def f_L_isWhole_b404 (V : St) (x6 : Int32) (x7 : Int32) (x8 : Int32) : Option (Int32 × St) :=
  f_L_isWhole_b405 V x6 x7 x8 0
def f_L_isWhole_b173 : Nat → St → Int32 → Int32 → Int32 → Int32 → Option (Int32 × St)
  | 0, _, _, _, _, _ => none
  | n + 1, V, x3, x4, x5, x6 =>
    (f_L_account V 3).bind fun q13 =>
    if q13 ≤ x6 then
      (f_L_netOf V 0 0).bind fun q15 =>
      (f_L_netOf V 1 0).bind fun q16 =>
      (f_L_netOf V 2 0).bind fun q17 =>
      (f_L_netOf V 0 1).bind fun q18 =>
      (f_L_netOf V 1 1).bind fun q19 =>
      (f_L_netOf V 2 1).bind fun q20 =>
      (f_L_chapters V 0).bind fun q21 =>
      (f_L_chapters V 1).bind fun q22 =>
      (f_L_chapters V 2).bind fun q23 =>
      (f_L_account V 0).bind fun q24 =>
      if q24 = ((q15 + q16) + q17) then
        (f_L_account V 1).bind fun q26 =>
        if q26 = ((q21 + q22) + q23) then
          (f_L_account V 2).bind fun q28 =>
          (f_L_netOf V 0 2).bind fun q29 =>
          (f_L_netOf V 1 2).bind fun q30 =>
          (f_L_netOf V 2 2).bind fun q31 =>
          if q28 = ((q29 + q30) + q31) then
            (f_L_account V 2).bind fun q33 =>
            (f_L_account V 8).bind fun q34 =>
            (f_L_account V 9).bind fun q35 =>
            if q33 = (q34 - q35) then
              (f_L_account V 4).bind fun q37 =>
              if q37 = x4 then
                (f_L_account V 9).bind fun q39 =>
                if q39 = x5 then
                  (f_L_account V 10).bind fun q41 =>
                  if q41 < x5 then
                    f_L_isWhole_b404 V ((q15 + q16) + q17) ((q18 + q19) + q20) ((q21 + q22) + q23)
                  else
                    (f_L_account V 10).bind fun q43 =>
                    if (2 * x5) < q43 then
                      f_L_isWhole_b404 V ((q15 + q16) + q17) ((q18 + q19) + q20) ((q21 + q22) + q23)
                    else
                      (f_L_account V 6).bind fun q45 =>
                      if q45 = x3 then
                        f_L_isWhole_b405 V ((q15 + q16) + q17) ((q18 + q19) + q20) ((q21 + q22) + q23) 1
                      else
                        f_L_isWhole_b404 V ((q15 + q16) + q17) ((q18 + q19) + q20) ((q21 + q22) + q23)
                else
                  f_L_isWhole_b404 V ((q15 + q16) + q17) ((q18 + q19) + q20) ((q21 + q22) + q23)
              else
                f_L_isWhole_b404 V ((q15 + q16) + q17) ((q18 + q19) + q20) ((q21 + q22) + q23)
            else
              f_L_isWhole_b404 V ((q15 + q16) + q17) ((q18 + q19) + q20) ((q21 + q22) + q23)
          else
            f_L_isWhole_b404 V ((q15 + q16) + q17) ((q18 + q19) + q20) ((q21 + q22) + q23)
        else
          f_L_isWhole_b404 V ((q15 + q16) + q17) ((q18 + q19) + q20) ((q21 + q22) + q23)
      else
        f_L_isWhole_b404 V ((q15 + q16) + q17) ((q18 + q19) + q20) ((q21 + q22) + q23)
    else
      (f_L_editorOf V x6 0).bind fun q47 =>
      (f_L_editorOf V x6 1).bind fun q48 =>
      f_L_isWhole_b173 n V x3 (x4 + q47) (x5 + q48) (x6 + 1)
def f_L_isWhole_b132 (c_29 : St → Int32 → Int32 → Option (Int32 × St)) (V : St) (x3 : Int32) (x4 : Int32) (x6 : Int32) (x7 : Int32) (y0 : Int32) (y1 : Int32) : Option (Int32 × St) :=
  if y1 = y0 then
    (f_L_noteLine V x4).bind fun q50 =>
    if q50.1 = ((x7 + 1) - x6) then
      c_29 q50.2 (x3 + x6) (x4 + 1)
    else
      some (0, q50.2)
  else
    some (0, V)
def f_L_isWhole_b121 (c_29 : St → Int32 → Int32 → Option (Int32 × St)) (V : St) (x3 : Int32) (x4 : Int32) (x6 : Int32) (x7 : Int32) (y0 : Int32) : Option (Int32 × St) :=
  if x6 = 1 then
    f_L_isWhole_b132 c_29 V x3 x4 x6 x7 1 y0
  else
    f_L_isWhole_b132 c_29 V x3 x4 x6 x7 0 y0
def f_L_isWhole_b93 (c_29 : St → Int32 → Int32 → Option (Int32 × St)) (V : St) (x3 : Int32) (x4 : Int32) (x5 : Int32) (x6 : Int32) (x7 : Int32) (y0 : Int32) : Option (Int32 × St) :=
  if y0 = 0 then
    some (0, V)
  else
    (f_L_leastAgain V x4).bind fun q54 =>
    if q54 = x5 then
      if x5 = 0 then
        f_L_isWhole_b121 c_29 V x3 x4 x6 x7 1
      else
        f_L_isWhole_b121 c_29 V x3 x4 x6 x7 0
    else
      some (0, V)
def f_L_isWhole_b88 (c_29 : St → Int32 → Int32 → Option (Int32 × St)) (V : St) (x3 : Int32) (x4 : Int32) (x5 : Int32) (x6 : Int32) (x7 : Int32) : Option (Int32 × St) :=
  f_L_isWhole_b93 c_29 V x3 x4 x5 x6 x7 1
def f_L_isWhole_b92 (c_29 : St → Int32 → Int32 → Option (Int32 × St)) (V : St) (x3 : Int32) (x4 : Int32) (x5 : Int32) (x6 : Int32) (x7 : Int32) : Option (Int32 × St) :=
  f_L_isWhole_b93 c_29 V x3 x4 x5 x6 x7 0
def f_L_isWhole_b29 : Nat → St → Int32 → Int32 → Option (Int32 × St)
  | 0, _, _, _ => none
  | n + 1, V, x3, x4 =>
    (f_L_account V 5).bind fun q57 =>
    if q57 ≤ x4 then
      f_L_isWhole_b173 5 V x3 0 0 0
    else
      (f_L_least V x4).bind fun q59 =>
      (f_L_noteOf q59.2 x4 3).bind fun q60 =>
      (f_L_noteOf q59.2 x4 2).bind fun q61 =>
      if q59.1 = (-75) then
        f_L_isWhole_b88 (fun V x3 x4 => f_L_isWhole_b29 n V x3 x4) q59.2 x3 x4 q59.1 q60 q61
      else
        if q59.1 < 0 then
          f_L_isWhole_b92 (fun V x3 x4 => f_L_isWhole_b29 n V x3 x4) q59.2 x3 x4 q59.1 q60 q61
        else
          if (2 * (q61 - 1)) < q59.1 then
            f_L_isWhole_b92 (fun V x3 x4 => f_L_isWhole_b29 n V x3 x4) q59.2 x3 x4 q59.1 q60 q61
          else
            f_L_isWhole_b88 (fun V x3 x4 => f_L_isWhole_b29 n V x3 x4) q59.2 x3 x4 q59.1 q60 q61
def f_L_isWhole_b2 : Nat → St → Int32 → Int32 → Int32 → Option (Int32 × St)
  | 0, _, _, _, _ => none
  | n + 1, V, x1, x2, x3 =>
    if x1 < x3 then
      f_L_isWhole_b29 7 V 0 0
    else
      (f_L_isNet V x3 x2).bind fun q66 =>
      if q66.1 = 0 then
        some (0, q66.2)
      else
        f_L_isWhole_b2 n q66.2 x1 x2 (x3 + 1)
def f_L_isWhole (V : St) (x1 : Int32) (x2 : Int32) : Option (Int32 × St) :=
  f_L_isWhole_b2 4 V x1 x2 0
set_option maxHeartbeats 8000000 in
set_option maxRecDepth 100000 in
theorem c_L_isWhole (l : Launch) (hfl : l.stackTraces = false) (G : LG) (b0 : Nat) (V : St) (x1 : Int32) (x2 : Int32) (res : Int32 × St) (hr : f_L_isWhole V x1 x2 = some res) : Met l yL_isWhole (wy yL_isWhole cL_isWhole 11 (some .boolean)) (rmc 9 1728) (va_Pc [.ref (b0 + 0), .int x1, .int x2] (Iv G b0 V)) (QI G b0 res.1 res.2) 1728 (6 * 1728) (Ab b0) := by
  refine mk_c (by decide +kernel) (Nat.le_of_ble_eq_true rfl) ?_
  intro p e s m below meth c C hV hS ls hl
  obtain ⟨args, hargs⟩ : ∃ z, z = ([.ref (b0 + 0), .int x1, .int x2] : List Value).toArray := ⟨_, rfl⟩
  rw [← hargs] at C ⊢
  obtain ⟨hx, hb, hrt, hml, hown, hts, hlocks, hK, hSv⟩ := id C
  have hl : lv_has ls 11 [(0, .ref (b0 + 0)), (1, .int x1), (2, .int x2)] := hl
  have K_463 : ∀ (w : Nat) (V : St) (x9 : Int32) (y0 : Int32), w + 0 ≤ 1728 → f_L_isWhole_b463 V x9 y0 = some res → ∀ (H : Heap) (locs : List Loc) (ls : Array Slot), Hd G b0 V H → va_S (Ab b0) s.heap H locs → lv_has ls 11 [(0, .ref (b0 + 0)), (9, .int x9)] → W p l e (rmc 9 1728) s m args below meth c H locs w (6 * w) (MQ below (QI G b0 res.1 res.2) args s 1728 (6 * 1728) (Ab b0)) (F0 m 463 ls [.int y0]) := by
    intro w V x9 y0 hw hr H locs ls hV hS hl
    unfold f_L_isWhole_b463 at hr
    refine lv_istore (lv' := [(10, .int y0), (0, .ref (b0 + 0)), (9, .int x9)]) hx hb dL_isWhole_463 hl (by decide) rfl (fun ls hl => ?_)
    refine lv_iload hx hb dL_isWhole_465 (lv_at hl 2 rfl) ?_
    refine lv_if_eq (tgt := 486) hx hb dL_isWhole_467 (by decide) (fun b_1 => ?_) (fun b_1 => ?_)
    · have hr := it b_1 hr
      refine lv_iconst (v := 0) hx hb dL_isWhole_486 (by decide) ?_
      rw [← Option.some.inj hr]
      exact fin_zc (w := w) C hV hS (by omega) (by decide) rfl dL_isWhole_487
    · have hr := ie b_1 hr
      refine lv_iload hx hb dL_isWhole_470 (lv_at hl 0 rfl) ?_
      refine lv_if_eq (tgt := 486) hx hb dL_isWhole_472 (by decide) (fun b_2 => ?_) (fun b_2 => ?_)
      · have hr := it b_2 hr
        refine lv_iconst (v := 0) hx hb dL_isWhole_486 (by decide) ?_
        rw [← Option.some.inj hr]
        exact fin_zc (w := w) C hV hS (by omega) (by decide) rfl dL_isWhole_487
      · have hr := ie b_2 hr
        refine lv_aload_n hx hb dL_isWhole_475 rfl (lv_at hl 1 rfl) ?_
        obtain ⟨q3, e3, hr⟩ := ob hr
        refine cal_i (run_V (As := []) (rest := []) C hV hS (c_X9_isBalanced l G b0 V q3 e3) (rcv hK hV (kd_lt z_0 (by decide)) (cel_0 z_0) rfl) q_1511 q_1512 q_1513 q_93 q_1514 dk_X9_isBalanced (rmc_ok0 (by decide) (by decide)) hl.1 rfl (Nat.le_of_ble_eq_true rfl) dL_isWhole_476 (rmc_c0 (by omega))) hS (fun H locs hV hS => ?_)
        refine lv_if_eq (tgt := 486) hx hb dL_isWhole_479 (by decide) (fun b_4 => ?_) (fun b_4 => ?_)
        · have hr := it b_4 hr
          refine lv_iconst (v := 0) hx hb dL_isWhole_486 (by decide) ?_
          rw [← Option.some.inj hr]
          exact fin_zc (w := w) C hV hS (by omega) (by decide) rfl dL_isWhole_487
        · have hr := ie b_4 hr
          refine lv_iconst (v := 1) hx hb dL_isWhole_482 (by decide) ?_
          refine lv_goto (tgt := 487) hx hb dL_isWhole_483 (by decide) ?_
          rw [← Option.some.inj hr]
          exact fin_zc (w := w) C hV hS (by omega) (by decide) rfl dL_isWhole_487
  have K_462 : ∀ (w : Nat) (V : St) (x9 : Int32), w + 0 ≤ 1728 → f_L_isWhole_b462 V x9 = some res → ∀ (H : Heap) (locs : List Loc) (ls : Array Slot), Hd G b0 V H → va_S (Ab b0) s.heap H locs → lv_has ls 11 [(0, .ref (b0 + 0)), (9, .int x9)] → W p l e (rmc 9 1728) s m args below meth c H locs w (6 * w) (MQ below (QI G b0 res.1 res.2) args s 1728 (6 * 1728) (Ab b0)) (F0 m 462 ls []) := by
    intro w V x9 hw hr H locs ls hV hS hl
    unfold f_L_isWhole_b462 at hr
    refine lv_iconst (v := 0) hx hb dL_isWhole_462 (by decide) ?_
    exact K_463 w _ x9 0 (by omega) hr _ _ ls hV hS (lv_sub hl [0, 1] rfl)
  have K_454 : ∀ (w : Nat) (V : St) (x9 : Int32) (y0 : UInt32) (y1 : UInt32), w + 0 ≤ 1728 → f_L_isWhole_b454 V x9 y0 y1 = some res → ∀ (H : Heap) (locs : List Loc) (ls : Array Slot), Hd G b0 V H → va_S (Ab b0) s.heap H locs → lv_has ls 11 [(0, .ref (b0 + 0)), (9, .int x9)] → W p l e (rmc 9 1728) s m args below meth c H locs w (6 * w) (MQ below (QI G b0 res.1 res.2) args s 1728 (6 * 1728) (Ab b0)) (F0 m 454 ls [.float y0, .float y1]) := by
    intro w V x9 y0 y1 hw hr H locs ls hV hS hl
    unfold f_L_isWhole_b454 at hr
    refine lv_fcmp hx hb dL_isWhole_454 ?_
    refine W.eq (g2 := F0 m 455 ls [.int (fcm y1 y0)]) rfl ?_
    refine lv_if_ne (tgt := 462) hx hb dL_isWhole_455 (by decide) (fun b_5 => ?_) (fun b_5 => ?_)
    · have hr := ie b_5 hr
      exact K_462 w _ x9 (by omega) hr _ _ ls hV hS (lv_sub hl [0, 1] rfl)
    · have hr := it b_5 hr
      refine lv_iconst (v := 1) hx hb dL_isWhole_458 (by decide) ?_
      refine lv_goto (tgt := 463) hx hb dL_isWhole_459 (by decide) ?_
      exact K_463 w _ x9 1 (by omega) hr _ _ ls hV hS (lv_sub hl [0, 1] rfl)
  have K_429 : ∀ (w : Nat) (V : St) (x6 : Int32) (x7 : Int32) (x9 : Int32) (y0 : UInt64) (y1 : UInt64), w + 1 ≤ 1728 → f_L_isWhole_b429 V x6 x7 x9 y0 y1 = some res → ∀ (H : Heap) (locs : List Loc) (ls : Array Slot), Hd G b0 V H → va_S (Ab b0) s.heap H locs → lv_has ls 11 [(0, .ref (b0 + 0)), (6, .int x6), (7, .int x7), (9, .int x9)] → W p l e (rmc 9 1728) s m args below meth c H locs w (6 * w) (MQ below (QI G b0 res.1 res.2) args s 1728 (6 * 1728) (Ab b0)) (F0 m 429 ls [.double y0, .double y1]) := by
    intro w V x6 x7 x9 y0 y1 hw hr H locs ls hV hS hl
    unfold f_L_isWhole_b429 at hr
    refine lv_dcmp hx hb dL_isWhole_429 ?_
    refine W.eq (g2 := F0 m 430 ls [.int (dcm y1 y0)]) rfl ?_
    refine lv_if_ne (tgt := 462) hx hb dL_isWhole_430 (by decide) (fun b_6 => ?_) (fun b_6 => ?_)
    · have hr := ie b_6 hr
      exact K_462 w _ x9 (by omega) hr _ _ ls hV hS (lv_sub hl [0, 3] rfl)
    · have hr := it b_6 hr
      refine lv_aload_n hx hb dL_isWhole_433 rfl (lv_at hl 0 rfl) ?_
      obtain ⟨q7, e7, hr⟩ := ob hr
      refine cal_fc (run_HC (As := [.ref (b0 + 0)]) (rest := []) C hV hS (c_L_readShare l hfl G b0 V q7 e7) q_1502 q_1503 q_92 q_1504 dk_L_readShare (rmc_ok (by decide) (by decide)) hl.1 rfl (Nat.le_of_ble_eq_true rfl) dL_isWhole_434 (rmc_cs (by omega))) hS (fun H locs hV hS => ?_)
      refine lv_iload hx hb dL_isWhole_437 (lv_at hl 1 rfl) ?_
      refine lv_if_ne (tgt := 447) hx hb dL_isWhole_439 (by decide) (fun b_8 => ?_) (fun b_8 => ?_)
      · have hr := ie b_8 hr
        refine lv_iload hx hb dL_isWhole_447 (lv_at hl 2 rfl) ?_
        refine lv_i2f hx hb dL_isWhole_449 ?_
        refine lv_iload hx hb dL_isWhole_450 (lv_at hl 1 rfl) ?_
        refine lv_i2f hx hb dL_isWhole_452 ?_
        obtain ⟨q9, e9, hr⟩ := ob hr
        obtain ⟨e9, g9⟩ := fv_in e9
        refine lv_fdiv hx hb dL_isWhole_453 g9 ?_
        rw [← e9]
        exact K_454 (w + 1) _ x9 q9 q7 (by omega) hr _ _ ls hV hS (lv_sub hl [0, 3] rfl)
      · have hr := it b_8 hr
        refine lv_ldcf (v := 3264479232) hx hb hown (hts _ q_1510) dL_isWhole_442 ?_
        refine lv_goto (tgt := 454) hx hb dL_isWhole_444 (by decide) ?_
        exact K_454 (w + 1) _ x9 3264479232 q7 (by omega) hr _ _ ls hV hS (lv_sub hl [0, 3] rfl)
  have K_405 : ∀ (w : Nat) (V : St) (x6 : Int32) (x7 : Int32) (x8 : Int32) (y0 : Int32), w + 2 ≤ 1728 → f_L_isWhole_b405 V x6 x7 x8 y0 = some res → ∀ (H : Heap) (locs : List Loc) (ls : Array Slot), Hd G b0 V H → va_S (Ab b0) s.heap H locs → lv_has ls 11 [(0, .ref (b0 + 0)), (6, .int x6), (7, .int x7), (8, .int x8)] → W p l e (rmc 9 1728) s m args below meth c H locs w (6 * w) (MQ below (QI G b0 res.1 res.2) args s 1728 (6 * 1728) (Ab b0)) (F0 m 405 ls [.int y0]) := by
    intro w V x6 x7 x8 y0 hw hr H locs ls hV hS hl
    unfold f_L_isWhole_b405 at hr
    refine lv_istore (lv' := [(9, .int y0), (0, .ref (b0 + 0)), (6, .int x6), (7, .int x7), (8, .int x8)]) hx hb dL_isWhole_405 hl (by decide) rfl (fun ls hl => ?_)
    refine lv_aload_n hx hb dL_isWhole_407 rfl (lv_at hl 1 rfl) ?_
    obtain ⟨q10, e10, hr⟩ := ob hr
    refine cal_dc (run_HC (As := [.ref (b0 + 0)]) (rest := []) C hV hS (c_L_meanKnots l hfl G b0 V q10 e10) q_1477 q_1478 q_92 q_1479 dk_L_meanKnots (rmc_ok (by decide) (by decide)) hl.1 rfl (Nat.le_of_ble_eq_true rfl) dL_isWhole_408 (rmc_cs (by omega))) hS (fun H locs hV hS => ?_)
    refine lv_iload hx hb dL_isWhole_411 (lv_at hl 4 rfl) ?_
    refine lv_if_ne (tgt := 422) hx hb dL_isWhole_413 (by decide) (fun b_11 => ?_) (fun b_11 => ?_)
    · have hr := ie b_11 hr
      refine lv_iload hx hb dL_isWhole_422 (lv_at hl 2 rfl) ?_
      refine lv_i2d hx hb dL_isWhole_424 ?_
      refine lv_iload hx hb dL_isWhole_425 (lv_at hl 4 rfl) ?_
      refine lv_i2d hx hb dL_isWhole_427 ?_
      obtain ⟨q12, e12, hr⟩ := ob hr
      obtain ⟨e12, g12⟩ := dv_in e12
      refine lv_ddiv hx hb dL_isWhole_428 g12 ?_
      rw [← e12]
      exact K_429 (w + 1) _ x6 x7 y0 q12 q10 (by omega) hr _ _ ls hV hS (lv_sub hl [1, 2, 3, 0] rfl)
    · have hr := it b_11 hr
      refine lv_ldc2d (v := 13858279740860792832) hx hb hown (hts _ q_1501) dL_isWhole_416 ?_
      refine lv_goto (tgt := 429) hx hb dL_isWhole_419 (by decide) ?_
      exact K_429 (w + 1) _ x6 x7 y0 13858279740860792832 q10 (by omega) hr _ _ ls hV hS (lv_sub hl [1, 2, 3, 0] rfl)
  have K_404 : ∀ (w : Nat) (V : St) (x6 : Int32) (x7 : Int32) (x8 : Int32), w + 2 ≤ 1728 → f_L_isWhole_b404 V x6 x7 x8 = some res → ∀ (H : Heap) (locs : List Loc) (ls : Array Slot), Hd G b0 V H → va_S (Ab b0) s.heap H locs → lv_has ls 11 [(0, .ref (b0 + 0)), (6, .int x6), (7, .int x7), (8, .int x8)] → W p l e (rmc 9 1728) s m args below meth c H locs w (6 * w) (MQ below (QI G b0 res.1 res.2) args s 1728 (6 * 1728) (Ab b0)) (F0 m 404 ls []) := by
    intro w V x6 x7 x8 hw hr H locs ls hV hS hl
    unfold f_L_isWhole_b404 at hr
    refine lv_iconst (v := 0) hx hb dL_isWhole_404 (by decide) ?_
    exact K_405 w _ x6 x7 x8 0 (by omega) hr _ _ ls hV hS (lv_sub hl [0, 1, 2, 3] rfl)
  have K_173 : ∀ (n : Nat) (w : Nat) (V : St) (x3 : Int32) (x4 : Int32) (x5 : Int32) (x6 : Int32), w + n * 24 + 2 ≤ 1728 → f_L_isWhole_b173 n V x3 x4 x5 x6 = some res → ∀ (H : Heap) (locs : List Loc) (ls : Array Slot), Hd G b0 V H → va_S (Ab b0) s.heap H locs → lv_has ls 11 [(0, .ref (b0 + 0)), (3, .int x3), (4, .int x4), (5, .int x5), (6, .int x6)] → W p l e (rmc 9 1728) s m args below meth c H locs w (6 * w) (MQ below (QI G b0 res.1 res.2) args s 1728 (6 * 1728) (Ab b0)) (F0 m 173 ls []) := by
    intro  n
    induction n with
    | zero =>
      intro w V x3 x4 x5 x6 hw hr
      rw [f_L_isWhole_b173] at hr
      cases hr
    | succ n ih =>
      intro w V x3 x4 x5 x6 hw hr H locs ls hV hS hl
      rw [f_L_isWhole_b173] at hr
      refine lv_iload hx hb dL_isWhole_173 (lv_at hl 4 rfl) ?_
      refine lv_aload_n hx hb dL_isWhole_175 rfl (lv_at hl 0 rfl) ?_
      refine lv_iconst (v := 3) hx hb dL_isWhole_176 (by decide) ?_
      obtain ⟨q13, e13, hr⟩ := ob hr
      refine cal_ic (run_HC (As := [.ref (b0 + 0), .int 3]) (rest := [.int x6]) C hV hS (c_L_account l hfl G b0 V 3 q13 e13) q_522 q_523 q_92 q_524 dk_L_account (rmc_ok (by decide) (by decide)) hl.1 rfl (Nat.le_of_ble_eq_true rfl) dL_isWhole_177 (rmc_cs (by omega))) hS (fun H locs hV hS => ?_)
      refine lv_icmp_ge (tgt := 213) hx hb dL_isWhole_180 (by decide) (fun b_14 => ?_) (fun b_14 => ?_)
      · have hr := it b_14 hr
        refine lv_aload_n hx hb dL_isWhole_213 rfl (lv_at hl 0 rfl) ?_
        refine lv_iconst (v := 0) hx hb dL_isWhole_214 (by decide) ?_
        refine lv_iconst (v := 0) hx hb dL_isWhole_215 (by decide) ?_
        obtain ⟨q15, e15, hr⟩ := ob hr
        refine cal_ic (run_HC (As := [.ref (b0 + 0), .int 0, .int 0]) (rest := []) C hV hS (c_L_netOf l hfl G b0 V 0 0 q15 e15) q_1239 q_1240 q_92 q_1241 dk_L_netOf (rmc_ok (by decide) (by decide)) hl.1 rfl (Nat.le_of_ble_eq_true rfl) dL_isWhole_216 (rmc_cs (by omega))) hS (fun H locs hV hS => ?_)
        refine lv_aload_n hx hb dL_isWhole_219 rfl (lv_at hl 0 rfl) ?_
        refine lv_iconst (v := 1) hx hb dL_isWhole_220 (by decide) ?_
        refine lv_iconst (v := 0) hx hb dL_isWhole_221 (by decide) ?_
        obtain ⟨q16, e16, hr⟩ := ob hr
        refine cal_ic (run_HC (As := [.ref (b0 + 0), .int 1, .int 0]) (rest := [.int q15]) C hV hS (c_L_netOf l hfl G b0 V 1 0 q16 e16) q_1239 q_1240 q_92 q_1241 dk_L_netOf (rmc_ok (by decide) (by decide)) hl.1 rfl (Nat.le_of_ble_eq_true rfl) dL_isWhole_222 (rmc_cs (by omega))) hS (fun H locs hV hS => ?_)
        refine lv_iadd hx hb dL_isWhole_225 ?_
        refine lv_aload_n hx hb dL_isWhole_226 rfl (lv_at hl 0 rfl) ?_
        refine lv_iconst (v := 2) hx hb dL_isWhole_227 (by decide) ?_
        refine lv_iconst (v := 0) hx hb dL_isWhole_228 (by decide) ?_
        obtain ⟨q17, e17, hr⟩ := ob hr
        refine cal_ic (run_HC (As := [.ref (b0 + 0), .int 2, .int 0]) (rest := [.int (q15 + q16)]) C hV hS (c_L_netOf l hfl G b0 V 2 0 q17 e17) q_1239 q_1240 q_92 q_1241 dk_L_netOf (rmc_ok (by decide) (by decide)) hl.1 rfl (Nat.le_of_ble_eq_true rfl) dL_isWhole_229 (rmc_cs (by omega))) hS (fun H locs hV hS => ?_)
        refine lv_iadd hx hb dL_isWhole_232 ?_
        refine lv_istore (lv' := [(6, .int ((q15 + q16) + q17)), (0, .ref (b0 + 0)), (3, .int x3), (4, .int x4), (5, .int x5)]) hx hb dL_isWhole_233 hl (by decide) rfl (fun ls hl => ?_)
        refine lv_aload_n hx hb dL_isWhole_235 rfl (lv_at hl 1 rfl) ?_
        refine lv_iconst (v := 0) hx hb dL_isWhole_236 (by decide) ?_
        refine lv_iconst (v := 1) hx hb dL_isWhole_237 (by decide) ?_
        obtain ⟨q18, e18, hr⟩ := ob hr
        refine cal_ic (run_HC (As := [.ref (b0 + 0), .int 0, .int 1]) (rest := []) C hV hS (c_L_netOf l hfl G b0 V 0 1 q18 e18) q_1239 q_1240 q_92 q_1241 dk_L_netOf (rmc_ok (by decide) (by decide)) hl.1 rfl (Nat.le_of_ble_eq_true rfl) dL_isWhole_238 (rmc_cs (by omega))) hS (fun H locs hV hS => ?_)
        refine lv_aload_n hx hb dL_isWhole_241 rfl (lv_at hl 1 rfl) ?_
        refine lv_iconst (v := 1) hx hb dL_isWhole_242 (by decide) ?_
        refine lv_iconst (v := 1) hx hb dL_isWhole_243 (by decide) ?_
        obtain ⟨q19, e19, hr⟩ := ob hr
        refine cal_ic (run_HC (As := [.ref (b0 + 0), .int 1, .int 1]) (rest := [.int q18]) C hV hS (c_L_netOf l hfl G b0 V 1 1 q19 e19) q_1239 q_1240 q_92 q_1241 dk_L_netOf (rmc_ok (by decide) (by decide)) hl.1 rfl (Nat.le_of_ble_eq_true rfl) dL_isWhole_244 (rmc_cs (by omega))) hS (fun H locs hV hS => ?_)
        refine lv_iadd hx hb dL_isWhole_247 ?_
        refine lv_aload_n hx hb dL_isWhole_248 rfl (lv_at hl 1 rfl) ?_
        refine lv_iconst (v := 2) hx hb dL_isWhole_249 (by decide) ?_
        refine lv_iconst (v := 1) hx hb dL_isWhole_250 (by decide) ?_
        obtain ⟨q20, e20, hr⟩ := ob hr
        refine cal_ic (run_HC (As := [.ref (b0 + 0), .int 2, .int 1]) (rest := [.int (q18 + q19)]) C hV hS (c_L_netOf l hfl G b0 V 2 1 q20 e20) q_1239 q_1240 q_92 q_1241 dk_L_netOf (rmc_ok (by decide) (by decide)) hl.1 rfl (Nat.le_of_ble_eq_true rfl) dL_isWhole_251 (rmc_cs (by omega))) hS (fun H locs hV hS => ?_)
        refine lv_iadd hx hb dL_isWhole_254 ?_
        refine lv_istore (lv' := [(7, .int ((q18 + q19) + q20)), (6, .int ((q15 + q16) + q17)), (0, .ref (b0 + 0)), (3, .int x3), (4, .int x4), (5, .int x5)]) hx hb dL_isWhole_255 hl (by decide) rfl (fun ls hl => ?_)
        refine lv_aload_n hx hb dL_isWhole_257 rfl (lv_at hl 2 rfl) ?_
        refine lv_iconst (v := 0) hx hb dL_isWhole_258 (by decide) ?_
        obtain ⟨q21, e21, hr⟩ := ob hr
        refine cal_ic (run_HC (As := [.ref (b0 + 0), .int 0]) (rest := []) C hV hS (c_L_chapters l hfl G b0 V 0 q21 e21) q_380 q_381 q_92 q_382 dk_L_chapters (rmc_ok (by decide) (by decide)) hl.1 rfl (Nat.le_of_ble_eq_true rfl) dL_isWhole_259 (rmc_cs (by omega))) hS (fun H locs hV hS => ?_)
        refine lv_aload_n hx hb dL_isWhole_262 rfl (lv_at hl 2 rfl) ?_
        refine lv_iconst (v := 1) hx hb dL_isWhole_263 (by decide) ?_
        obtain ⟨q22, e22, hr⟩ := ob hr
        refine cal_ic (run_HC (As := [.ref (b0 + 0), .int 1]) (rest := [.int q21]) C hV hS (c_L_chapters l hfl G b0 V 1 q22 e22) q_380 q_381 q_92 q_382 dk_L_chapters (rmc_ok (by decide) (by decide)) hl.1 rfl (Nat.le_of_ble_eq_true rfl) dL_isWhole_264 (rmc_cs (by omega))) hS (fun H locs hV hS => ?_)
        refine lv_iadd hx hb dL_isWhole_267 ?_
        refine lv_aload_n hx hb dL_isWhole_268 rfl (lv_at hl 2 rfl) ?_
        refine lv_iconst (v := 2) hx hb dL_isWhole_269 (by decide) ?_
        obtain ⟨q23, e23, hr⟩ := ob hr
        refine cal_ic (run_HC (As := [.ref (b0 + 0), .int 2]) (rest := [.int (q21 + q22)]) C hV hS (c_L_chapters l hfl G b0 V 2 q23 e23) q_380 q_381 q_92 q_382 dk_L_chapters (rmc_ok (by decide) (by decide)) hl.1 rfl (Nat.le_of_ble_eq_true rfl) dL_isWhole_270 (rmc_cs (by omega))) hS (fun H locs hV hS => ?_)
        refine lv_iadd hx hb dL_isWhole_273 ?_
        refine lv_istore (lv' := [(8, .int ((q21 + q22) + q23)), (7, .int ((q18 + q19) + q20)), (6, .int ((q15 + q16) + q17)), (0, .ref (b0 + 0)), (3, .int x3), (4, .int x4), (5, .int x5)]) hx hb dL_isWhole_274 hl (by decide) rfl (fun ls hl => ?_)
        refine lv_aload_n hx hb dL_isWhole_276 rfl (lv_at hl 3 rfl) ?_
        refine lv_iconst (v := 0) hx hb dL_isWhole_277 (by decide) ?_
        obtain ⟨q24, e24, hr⟩ := ob hr
        refine cal_ic (run_HC (As := [.ref (b0 + 0), .int 0]) (rest := []) C hV hS (c_L_account l hfl G b0 V 0 q24 e24) q_522 q_523 q_92 q_524 dk_L_account (rmc_ok (by decide) (by decide)) hl.1 rfl (Nat.le_of_ble_eq_true rfl) dL_isWhole_278 (rmc_cs (by omega))) hS (fun H locs hV hS => ?_)
        refine lv_iload hx hb dL_isWhole_281 (lv_at hl 2 rfl) ?_
        refine lv_icmp_ne (tgt := 404) hx hb dL_isWhole_283 (by decide) (fun b_25 => ?_) (fun b_25 => ?_)
        · have hr := ie b_25 hr
          exact K_404 (w + 1 + 1 + 1 + 1 + 1 + 1 + 1 + 1 + 1 + 1 + 1) _ ((q15 + q16) + q17) ((q18 + q19) + q20) ((q21 + q22) + q23) (by omega) hr _ _ ls hV hS (lv_sub hl [3, 2, 1, 0] rfl)
        · have hr := it b_25 hr
          refine lv_aload_n hx hb dL_isWhole_286 rfl (lv_at hl 3 rfl) ?_
          refine lv_iconst (v := 1) hx hb dL_isWhole_287 (by decide) ?_
          obtain ⟨q26, e26, hr⟩ := ob hr
          refine cal_ic (run_HC (As := [.ref (b0 + 0), .int 1]) (rest := []) C hV hS (c_L_account l hfl G b0 V 1 q26 e26) q_522 q_523 q_92 q_524 dk_L_account (rmc_ok (by decide) (by decide)) hl.1 rfl (Nat.le_of_ble_eq_true rfl) dL_isWhole_288 (rmc_cs (by omega))) hS (fun H locs hV hS => ?_)
          refine lv_iload hx hb dL_isWhole_291 (lv_at hl 0 rfl) ?_
          refine lv_icmp_ne (tgt := 404) hx hb dL_isWhole_293 (by decide) (fun b_27 => ?_) (fun b_27 => ?_)
          · have hr := ie b_27 hr
            exact K_404 (w + 1 + 1 + 1 + 1 + 1 + 1 + 1 + 1 + 1 + 1 + 1 + 1) _ ((q15 + q16) + q17) ((q18 + q19) + q20) ((q21 + q22) + q23) (by omega) hr _ _ ls hV hS (lv_sub hl [3, 2, 1, 0] rfl)
          · have hr := it b_27 hr
            refine lv_aload_n hx hb dL_isWhole_296 rfl (lv_at hl 3 rfl) ?_
            refine lv_iconst (v := 2) hx hb dL_isWhole_297 (by decide) ?_
            obtain ⟨q28, e28, hr⟩ := ob hr
            refine cal_ic (run_HC (As := [.ref (b0 + 0), .int 2]) (rest := []) C hV hS (c_L_account l hfl G b0 V 2 q28 e28) q_522 q_523 q_92 q_524 dk_L_account (rmc_ok (by decide) (by decide)) hl.1 rfl (Nat.le_of_ble_eq_true rfl) dL_isWhole_298 (rmc_cs (by omega))) hS (fun H locs hV hS => ?_)
            refine lv_aload_n hx hb dL_isWhole_301 rfl (lv_at hl 3 rfl) ?_
            refine lv_iconst (v := 0) hx hb dL_isWhole_302 (by decide) ?_
            refine lv_iconst (v := 2) hx hb dL_isWhole_303 (by decide) ?_
            obtain ⟨q29, e29, hr⟩ := ob hr
            refine cal_ic (run_HC (As := [.ref (b0 + 0), .int 0, .int 2]) (rest := [.int q28]) C hV hS (c_L_netOf l hfl G b0 V 0 2 q29 e29) q_1239 q_1240 q_92 q_1241 dk_L_netOf (rmc_ok (by decide) (by decide)) hl.1 rfl (Nat.le_of_ble_eq_true rfl) dL_isWhole_304 (rmc_cs (by omega))) hS (fun H locs hV hS => ?_)
            refine lv_aload_n hx hb dL_isWhole_307 rfl (lv_at hl 3 rfl) ?_
            refine lv_iconst (v := 1) hx hb dL_isWhole_308 (by decide) ?_
            refine lv_iconst (v := 2) hx hb dL_isWhole_309 (by decide) ?_
            obtain ⟨q30, e30, hr⟩ := ob hr
            refine cal_ic (run_HC (As := [.ref (b0 + 0), .int 1, .int 2]) (rest := [.int q29, .int q28]) C hV hS (c_L_netOf l hfl G b0 V 1 2 q30 e30) q_1239 q_1240 q_92 q_1241 dk_L_netOf (rmc_ok (by decide) (by decide)) hl.1 rfl (Nat.le_of_ble_eq_true rfl) dL_isWhole_310 (rmc_cs (by omega))) hS (fun H locs hV hS => ?_)
            refine lv_iadd hx hb dL_isWhole_313 ?_
            refine lv_aload_n hx hb dL_isWhole_314 rfl (lv_at hl 3 rfl) ?_
            refine lv_iconst (v := 2) hx hb dL_isWhole_315 (by decide) ?_
            refine lv_iconst (v := 2) hx hb dL_isWhole_316 (by decide) ?_
            obtain ⟨q31, e31, hr⟩ := ob hr
            refine cal_ic (run_HC (As := [.ref (b0 + 0), .int 2, .int 2]) (rest := [.int (q29 + q30), .int q28]) C hV hS (c_L_netOf l hfl G b0 V 2 2 q31 e31) q_1239 q_1240 q_92 q_1241 dk_L_netOf (rmc_ok (by decide) (by decide)) hl.1 rfl (Nat.le_of_ble_eq_true rfl) dL_isWhole_317 (rmc_cs (by omega))) hS (fun H locs hV hS => ?_)
            refine lv_iadd hx hb dL_isWhole_320 ?_
            refine lv_icmp_ne (tgt := 404) hx hb dL_isWhole_321 (by decide) (fun b_32 => ?_) (fun b_32 => ?_)
            · have hr := ie b_32 hr
              exact K_404 (w + 1 + 1 + 1 + 1 + 1 + 1 + 1 + 1 + 1 + 1 + 1 + 1 + 1 + 1 + 1 + 1) _ ((q15 + q16) + q17) ((q18 + q19) + q20) ((q21 + q22) + q23) (by omega) hr _ _ ls hV hS (lv_sub hl [3, 2, 1, 0] rfl)
            · have hr := it b_32 hr
              refine lv_aload_n hx hb dL_isWhole_324 rfl (lv_at hl 3 rfl) ?_
              refine lv_iconst (v := 2) hx hb dL_isWhole_325 (by decide) ?_
              obtain ⟨q33, e33, hr⟩ := ob hr
              refine cal_ic (run_HC (As := [.ref (b0 + 0), .int 2]) (rest := []) C hV hS (c_L_account l hfl G b0 V 2 q33 e33) q_522 q_523 q_92 q_524 dk_L_account (rmc_ok (by decide) (by decide)) hl.1 rfl (Nat.le_of_ble_eq_true rfl) dL_isWhole_326 (rmc_cs (by omega))) hS (fun H locs hV hS => ?_)
              refine lv_aload_n hx hb dL_isWhole_329 rfl (lv_at hl 3 rfl) ?_
              refine lv_bipush (v := 8) hx hb dL_isWhole_330 (by decide) ?_
              obtain ⟨q34, e34, hr⟩ := ob hr
              refine cal_ic (run_HC (As := [.ref (b0 + 0), .int 8]) (rest := [.int q33]) C hV hS (c_L_account l hfl G b0 V 8 q34 e34) q_522 q_523 q_92 q_524 dk_L_account (rmc_ok (by decide) (by decide)) hl.1 rfl (Nat.le_of_ble_eq_true rfl) dL_isWhole_332 (rmc_cs (by omega))) hS (fun H locs hV hS => ?_)
              refine lv_aload_n hx hb dL_isWhole_335 rfl (lv_at hl 3 rfl) ?_
              refine lv_bipush (v := 9) hx hb dL_isWhole_336 (by decide) ?_
              obtain ⟨q35, e35, hr⟩ := ob hr
              refine cal_ic (run_HC (As := [.ref (b0 + 0), .int 9]) (rest := [.int q34, .int q33]) C hV hS (c_L_account l hfl G b0 V 9 q35 e35) q_522 q_523 q_92 q_524 dk_L_account (rmc_ok (by decide) (by decide)) hl.1 rfl (Nat.le_of_ble_eq_true rfl) dL_isWhole_338 (rmc_cs (by omega))) hS (fun H locs hV hS => ?_)
              refine lv_isub hx hb dL_isWhole_341 ?_
              refine lv_icmp_ne (tgt := 404) hx hb dL_isWhole_342 (by decide) (fun b_36 => ?_) (fun b_36 => ?_)
              · have hr := ie b_36 hr
                exact K_404 (w + 1 + 1 + 1 + 1 + 1 + 1 + 1 + 1 + 1 + 1 + 1 + 1 + 1 + 1 + 1 + 1 + 1 + 1 + 1) _ ((q15 + q16) + q17) ((q18 + q19) + q20) ((q21 + q22) + q23) (by omega) hr _ _ ls hV hS (lv_sub hl [3, 2, 1, 0] rfl)
              · have hr := it b_36 hr
                refine lv_aload_n hx hb dL_isWhole_345 rfl (lv_at hl 3 rfl) ?_
                refine lv_iconst (v := 4) hx hb dL_isWhole_346 (by decide) ?_
                obtain ⟨q37, e37, hr⟩ := ob hr
                refine cal_ic (run_HC (As := [.ref (b0 + 0), .int 4]) (rest := []) C hV hS (c_L_account l hfl G b0 V 4 q37 e37) q_522 q_523 q_92 q_524 dk_L_account (rmc_ok (by decide) (by decide)) hl.1 rfl (Nat.le_of_ble_eq_true rfl) dL_isWhole_347 (rmc_cs (by omega))) hS (fun H locs hV hS => ?_)
                refine lv_iload hx hb dL_isWhole_350 (lv_at hl 5 rfl) ?_
                refine lv_icmp_ne (tgt := 404) hx hb dL_isWhole_352 (by decide) (fun b_38 => ?_) (fun b_38 => ?_)
                · have hr := ie b_38 hr
                  exact K_404 (w + 1 + 1 + 1 + 1 + 1 + 1 + 1 + 1 + 1 + 1 + 1 + 1 + 1 + 1 + 1 + 1 + 1 + 1 + 1 + 1) _ ((q15 + q16) + q17) ((q18 + q19) + q20) ((q21 + q22) + q23) (by omega) hr _ _ ls hV hS (lv_sub hl [3, 2, 1, 0] rfl)
                · have hr := it b_38 hr
                  refine lv_aload_n hx hb dL_isWhole_355 rfl (lv_at hl 3 rfl) ?_
                  refine lv_bipush (v := 9) hx hb dL_isWhole_356 (by decide) ?_
                  obtain ⟨q39, e39, hr⟩ := ob hr
                  refine cal_ic (run_HC (As := [.ref (b0 + 0), .int 9]) (rest := []) C hV hS (c_L_account l hfl G b0 V 9 q39 e39) q_522 q_523 q_92 q_524 dk_L_account (rmc_ok (by decide) (by decide)) hl.1 rfl (Nat.le_of_ble_eq_true rfl) dL_isWhole_358 (rmc_cs (by omega))) hS (fun H locs hV hS => ?_)
                  refine lv_iload hx hb dL_isWhole_361 (lv_at hl 6 rfl) ?_
                  refine lv_icmp_ne (tgt := 404) hx hb dL_isWhole_363 (by decide) (fun b_40 => ?_) (fun b_40 => ?_)
                  · have hr := ie b_40 hr
                    exact K_404 (w + 1 + 1 + 1 + 1 + 1 + 1 + 1 + 1 + 1 + 1 + 1 + 1 + 1 + 1 + 1 + 1 + 1 + 1 + 1 + 1 + 1) _ ((q15 + q16) + q17) ((q18 + q19) + q20) ((q21 + q22) + q23) (by omega) hr _ _ ls hV hS (lv_sub hl [3, 2, 1, 0] rfl)
                  · have hr := it b_40 hr
                    refine lv_aload_n hx hb dL_isWhole_366 rfl (lv_at hl 3 rfl) ?_
                    refine lv_bipush (v := 10) hx hb dL_isWhole_367 (by decide) ?_
                    obtain ⟨q41, e41, hr⟩ := ob hr
                    refine cal_ic (run_HC (As := [.ref (b0 + 0), .int 10]) (rest := []) C hV hS (c_L_account l hfl G b0 V 10 q41 e41) q_522 q_523 q_92 q_524 dk_L_account (rmc_ok (by decide) (by decide)) hl.1 rfl (Nat.le_of_ble_eq_true rfl) dL_isWhole_369 (rmc_cs (by omega))) hS (fun H locs hV hS => ?_)
                    refine lv_iload hx hb dL_isWhole_372 (lv_at hl 6 rfl) ?_
                    refine lv_icmp_lt (tgt := 404) hx hb dL_isWhole_374 (by decide) (fun b_42 => ?_) (fun b_42 => ?_)
                    · have hr := it b_42 hr
                      exact K_404 (w + 1 + 1 + 1 + 1 + 1 + 1 + 1 + 1 + 1 + 1 + 1 + 1 + 1 + 1 + 1 + 1 + 1 + 1 + 1 + 1 + 1 + 1) _ ((q15 + q16) + q17) ((q18 + q19) + q20) ((q21 + q22) + q23) (by omega) hr _ _ ls hV hS (lv_sub hl [3, 2, 1, 0] rfl)
                    · have hr := ie b_42 hr
                      refine lv_aload_n hx hb dL_isWhole_377 rfl (lv_at hl 3 rfl) ?_
                      refine lv_bipush (v := 10) hx hb dL_isWhole_378 (by decide) ?_
                      obtain ⟨q43, e43, hr⟩ := ob hr
                      refine cal_ic (run_HC (As := [.ref (b0 + 0), .int 10]) (rest := []) C hV hS (c_L_account l hfl G b0 V 10 q43 e43) q_522 q_523 q_92 q_524 dk_L_account (rmc_ok (by decide) (by decide)) hl.1 rfl (Nat.le_of_ble_eq_true rfl) dL_isWhole_380 (rmc_cs (by omega))) hS (fun H locs hV hS => ?_)
                      refine lv_iconst (v := 2) hx hb dL_isWhole_383 (by decide) ?_
                      refine lv_iload hx hb dL_isWhole_384 (lv_at hl 6 rfl) ?_
                      refine lv_imul hx hb dL_isWhole_386 ?_
                      refine lv_icmp_gt (tgt := 404) hx hb dL_isWhole_387 (by decide) (fun b_44 => ?_) (fun b_44 => ?_)
                      · have hr := it b_44 hr
                        exact K_404 (w + 1 + 1 + 1 + 1 + 1 + 1 + 1 + 1 + 1 + 1 + 1 + 1 + 1 + 1 + 1 + 1 + 1 + 1 + 1 + 1 + 1 + 1 + 1) _ ((q15 + q16) + q17) ((q18 + q19) + q20) ((q21 + q22) + q23) (by omega) hr _ _ ls hV hS (lv_sub hl [3, 2, 1, 0] rfl)
                      · have hr := ie b_44 hr
                        refine lv_aload_n hx hb dL_isWhole_390 rfl (lv_at hl 3 rfl) ?_
                        refine lv_bipush (v := 6) hx hb dL_isWhole_391 (by decide) ?_
                        obtain ⟨q45, e45, hr⟩ := ob hr
                        refine cal_ic (run_HC (As := [.ref (b0 + 0), .int 6]) (rest := []) C hV hS (c_L_account l hfl G b0 V 6 q45 e45) q_522 q_523 q_92 q_524 dk_L_account (rmc_ok (by decide) (by decide)) hl.1 rfl (Nat.le_of_ble_eq_true rfl) dL_isWhole_393 (rmc_cs (by omega))) hS (fun H locs hV hS => ?_)
                        refine lv_iload_n hx hb dL_isWhole_396 rfl (lv_at hl 4 rfl) ?_
                        refine lv_icmp_ne (tgt := 404) hx hb dL_isWhole_397 (by decide) (fun b_46 => ?_) (fun b_46 => ?_)
                        · have hr := ie b_46 hr
                          exact K_404 (w + 1 + 1 + 1 + 1 + 1 + 1 + 1 + 1 + 1 + 1 + 1 + 1 + 1 + 1 + 1 + 1 + 1 + 1 + 1 + 1 + 1 + 1 + 1 + 1) _ ((q15 + q16) + q17) ((q18 + q19) + q20) ((q21 + q22) + q23) (by omega) hr _ _ ls hV hS (lv_sub hl [3, 2, 1, 0] rfl)
                        · have hr := it b_46 hr
                          refine lv_iconst (v := 1) hx hb dL_isWhole_400 (by decide) ?_
                          refine lv_goto (tgt := 405) hx hb dL_isWhole_401 (by decide) ?_
                          exact K_405 (w + 1 + 1 + 1 + 1 + 1 + 1 + 1 + 1 + 1 + 1 + 1 + 1 + 1 + 1 + 1 + 1 + 1 + 1 + 1 + 1 + 1 + 1 + 1 + 1) _ ((q15 + q16) + q17) ((q18 + q19) + q20) ((q21 + q22) + q23) 1 (by omega) hr _ _ ls hV hS (lv_sub hl [3, 2, 1, 0] rfl)
      · have hr := ie b_14 hr
        refine lv_iload hx hb dL_isWhole_183 (lv_at hl 2 rfl) ?_
        refine lv_aload_n hx hb dL_isWhole_185 rfl (lv_at hl 0 rfl) ?_
        refine lv_iload hx hb dL_isWhole_186 (lv_at hl 4 rfl) ?_
        refine lv_iconst (v := 0) hx hb dL_isWhole_188 (by decide) ?_
        obtain ⟨q47, e47, hr⟩ := ob hr
        refine cal_ic (run_HC (As := [.ref (b0 + 0), .int x6, .int 0]) (rest := [.int x4]) C hV hS (c_L_editorOf l hfl G b0 V x6 0 q47 e47) q_1328 q_1329 q_92 q_1330 dk_L_editorOf (rmc_ok (by decide) (by decide)) hl.1 rfl (Nat.le_of_ble_eq_true rfl) dL_isWhole_189 (rmc_cs (by omega))) hS (fun H locs hV hS => ?_)
        refine lv_iadd hx hb dL_isWhole_192 ?_
        refine lv_istore (lv' := [(4, .int (x4 + q47)), (0, .ref (b0 + 0)), (3, .int x3), (5, .int x5), (6, .int x6)]) hx hb dL_isWhole_193 hl (by decide) rfl (fun ls hl => ?_)
        refine lv_iload hx hb dL_isWhole_195 (lv_at hl 3 rfl) ?_
        refine lv_aload_n hx hb dL_isWhole_197 rfl (lv_at hl 1 rfl) ?_
        refine lv_iload hx hb dL_isWhole_198 (lv_at hl 4 rfl) ?_
        refine lv_iconst (v := 1) hx hb dL_isWhole_200 (by decide) ?_
        obtain ⟨q48, e48, hr⟩ := ob hr
        refine cal_ic (run_HC (As := [.ref (b0 + 0), .int x6, .int 1]) (rest := [.int x5]) C hV hS (c_L_editorOf l hfl G b0 V x6 1 q48 e48) q_1328 q_1329 q_92 q_1330 dk_L_editorOf (rmc_ok (by decide) (by decide)) hl.1 rfl (Nat.le_of_ble_eq_true rfl) dL_isWhole_201 (rmc_cs (by omega))) hS (fun H locs hV hS => ?_)
        refine lv_iadd hx hb dL_isWhole_204 ?_
        refine lv_istore (lv' := [(5, .int (x5 + q48)), (4, .int (x4 + q47)), (0, .ref (b0 + 0)), (3, .int x3), (6, .int x6)]) hx hb dL_isWhole_205 hl (by decide) rfl (fun ls hl => ?_)
        refine lv_iinc (v := x6 + 1) (lv' := [(6, .int (x6 + 1)), (5, .int (x5 + q48)), (4, .int (x4 + q47)), (0, .ref (b0 + 0)), (3, .int x3)]) hx hb dL_isWhole_207 hl (k := 4) rfl rfl (by decide) rfl (fun ls hl => ?_)
        refine lv_goto (tgt := 173) hx hb dL_isWhole_210 (by decide) ?_
        exact ih (w + 1 + 1 + 1) _ x3 (x4 + q47) (x5 + q48) (x6 + 1) (by omega) hr _ _ ls hV hS (lv_sub hl [3, 4, 2, 1, 0] rfl)
  have K_132 : ∀ (X_29 : Nat) (c_29 : St → Int32 → Int32 → Option (Int32 × St)) (hc_29 : ∀ (w : Nat) (V : St) (x3 : Int32) (x4 : Int32), w + X_29 ≤ 1728 → c_29 V x3 x4 = some res → ∀ (H : Heap) (locs : List Loc) (ls : Array Slot), Hd G b0 V H → va_S (Ab b0) s.heap H locs → lv_has ls 11 [(0, .ref (b0 + 0)), (3, .int x3), (4, .int x4)] → W p l e (rmc 9 1728) s m args below meth c H locs w (6 * w) (MQ below (QI G b0 res.1 res.2) args s 1728 (6 * 1728) (Ab b0)) (F0 m 29 ls [])) (w : Nat) (V : St) (x3 : Int32) (x4 : Int32) (x6 : Int32) (x7 : Int32) (y0 : Int32) (y1 : Int32), w + 1 + X_29 ≤ 1728 → f_L_isWhole_b132 c_29 V x3 x4 x6 x7 y0 y1 = some res → ∀ (H : Heap) (locs : List Loc) (ls : Array Slot), Hd G b0 V H → va_S (Ab b0) s.heap H locs → lv_has ls 11 [(0, .ref (b0 + 0)), (3, .int x3), (4, .int x4), (6, .int x6), (7, .int x7)] → W p l e (rmc 9 1728) s m args below meth c H locs w (6 * w) (MQ below (QI G b0 res.1 res.2) args s 1728 (6 * 1728) (Ab b0)) (F0 m 132 ls [.int y0, .int y1]) := by
    intro X_29 c_29 hc_29 w V x3 x4 x6 x7 y0 y1 hw hr H locs ls hV hS hl
    unfold f_L_isWhole_b132 at hr
    refine lv_icmp_ne (tgt := 151) hx hb dL_isWhole_132 (by decide) (fun b_49 => ?_) (fun b_49 => ?_)
    · have hr := ie b_49 hr
      refine lv_iconst (v := 0) hx hb dL_isWhole_151 (by decide) ?_
      rw [← Option.some.inj hr]
      exact fin_zc (w := w) C hV hS (by omega) (by decide) rfl dL_isWhole_152
    · have hr := it b_49 hr
      refine lv_aload_n hx hb dL_isWhole_135 rfl (lv_at hl 0 rfl) ?_
      refine lv_iload hx hb dL_isWhole_136 (lv_at hl 2 rfl) ?_
      obtain ⟨q50, e50, hr⟩ := ob hr
      refine cal_ic (run_HC (As := [.ref (b0 + 0), .int x4]) (rest := []) C hV hS (c_L_noteLine l hfl G b0 V x4 q50 e50) q_1303 q_1304 q_92 q_1305 dk_L_noteLine (rmc_ok (by decide) (by decide)) hl.1 rfl (Nat.le_of_ble_eq_true rfl) dL_isWhole_138 (rmc_cs (by omega))) hS (fun H locs hV hS => ?_)
      refine lv_iload hx hb dL_isWhole_141 (lv_at hl 4 rfl) ?_
      refine lv_iconst (v := 1) hx hb dL_isWhole_143 (by decide) ?_
      refine lv_iadd hx hb dL_isWhole_144 ?_
      refine lv_iload hx hb dL_isWhole_145 (lv_at hl 3 rfl) ?_
      refine lv_isub hx hb dL_isWhole_147 ?_
      refine lv_icmp_eq (tgt := 153) hx hb dL_isWhole_148 (by decide) (fun b_51 => ?_) (fun b_51 => ?_)
      · have hr := it b_51 hr
        refine lv_iload_n hx hb dL_isWhole_153 rfl (lv_at hl 1 rfl) ?_
        refine lv_iload hx hb dL_isWhole_154 (lv_at hl 3 rfl) ?_
        refine lv_iadd hx hb dL_isWhole_156 ?_
        refine lv_istore_n (lv' := [(3, .int (x3 + x6)), (0, .ref (b0 + 0)), (4, .int x4), (6, .int x6), (7, .int x7)]) hx hb dL_isWhole_157 rfl hl (by decide) rfl (fun ls hl => ?_)
        refine lv_iinc (v := x4 + 1) (lv' := [(4, .int (x4 + 1)), (3, .int (x3 + x6)), (0, .ref (b0 + 0)), (6, .int x6), (7, .int x7)]) hx hb dL_isWhole_158 hl (k := 2) rfl rfl (by decide) rfl (fun ls hl => ?_)
        refine lv_goto (tgt := 29) hx hb dL_isWhole_161 (by decide) ?_
        exact hc_29 (w + 1) _ (x3 + x6) (x4 + 1) (by omega) hr _ _ ls hV hS (lv_sub hl [2, 1, 0] rfl)
      · have hr := ie b_51 hr
        refine lv_iconst (v := 0) hx hb dL_isWhole_151 (by decide) ?_
        rw [← Option.some.inj hr]
        exact fin_zc (w := w + 1) C hV hS (by omega) (by decide) rfl dL_isWhole_152
  have K_121 : ∀ (X_29 : Nat) (c_29 : St → Int32 → Int32 → Option (Int32 × St)) (hc_29 : ∀ (w : Nat) (V : St) (x3 : Int32) (x4 : Int32), w + X_29 ≤ 1728 → c_29 V x3 x4 = some res → ∀ (H : Heap) (locs : List Loc) (ls : Array Slot), Hd G b0 V H → va_S (Ab b0) s.heap H locs → lv_has ls 11 [(0, .ref (b0 + 0)), (3, .int x3), (4, .int x4)] → W p l e (rmc 9 1728) s m args below meth c H locs w (6 * w) (MQ below (QI G b0 res.1 res.2) args s 1728 (6 * 1728) (Ab b0)) (F0 m 29 ls [])) (w : Nat) (V : St) (x3 : Int32) (x4 : Int32) (x6 : Int32) (x7 : Int32) (y0 : Int32), w + 1 + X_29 ≤ 1728 → f_L_isWhole_b121 c_29 V x3 x4 x6 x7 y0 = some res → ∀ (H : Heap) (locs : List Loc) (ls : Array Slot), Hd G b0 V H → va_S (Ab b0) s.heap H locs → lv_has ls 11 [(0, .ref (b0 + 0)), (3, .int x3), (4, .int x4), (6, .int x6), (7, .int x7)] → W p l e (rmc 9 1728) s m args below meth c H locs w (6 * w) (MQ below (QI G b0 res.1 res.2) args s 1728 (6 * 1728) (Ab b0)) (F0 m 121 ls [.int y0]) := by
    intro X_29 c_29 hc_29 w V x3 x4 x6 x7 y0 hw hr H locs ls hV hS hl
    unfold f_L_isWhole_b121 at hr
    refine lv_iload hx hb dL_isWhole_121 (lv_at hl 3 rfl) ?_
    refine lv_iconst (v := 1) hx hb dL_isWhole_123 (by decide) ?_
    refine lv_icmp_ne (tgt := 131) hx hb dL_isWhole_124 (by decide) (fun b_52 => ?_) (fun b_52 => ?_)
    · have hr := ie b_52 hr
      refine lv_iconst (v := 0) hx hb dL_isWhole_131 (by decide) ?_
      exact K_132 X_29 c_29 hc_29 w _ x3 x4 x6 x7 0 y0 (by omega) hr _ _ ls hV hS (lv_sub hl [0, 1, 2, 3, 4] rfl)
    · have hr := it b_52 hr
      refine lv_iconst (v := 1) hx hb dL_isWhole_127 (by decide) ?_
      refine lv_goto (tgt := 132) hx hb dL_isWhole_128 (by decide) ?_
      exact K_132 X_29 c_29 hc_29 w _ x3 x4 x6 x7 1 y0 (by omega) hr _ _ ls hV hS (lv_sub hl [0, 1, 2, 3, 4] rfl)
  have K_93 : ∀ (X_29 : Nat) (c_29 : St → Int32 → Int32 → Option (Int32 × St)) (hc_29 : ∀ (w : Nat) (V : St) (x3 : Int32) (x4 : Int32), w + X_29 ≤ 1728 → c_29 V x3 x4 = some res → ∀ (H : Heap) (locs : List Loc) (ls : Array Slot), Hd G b0 V H → va_S (Ab b0) s.heap H locs → lv_has ls 11 [(0, .ref (b0 + 0)), (3, .int x3), (4, .int x4)] → W p l e (rmc 9 1728) s m args below meth c H locs w (6 * w) (MQ below (QI G b0 res.1 res.2) args s 1728 (6 * 1728) (Ab b0)) (F0 m 29 ls [])) (w : Nat) (V : St) (x3 : Int32) (x4 : Int32) (x5 : Int32) (x6 : Int32) (x7 : Int32) (y0 : Int32), w + 2 + X_29 ≤ 1728 → f_L_isWhole_b93 c_29 V x3 x4 x5 x6 x7 y0 = some res → ∀ (H : Heap) (locs : List Loc) (ls : Array Slot), Hd G b0 V H → va_S (Ab b0) s.heap H locs → lv_has ls 11 [(0, .ref (b0 + 0)), (3, .int x3), (4, .int x4), (5, .int x5), (6, .int x6), (7, .int x7)] → W p l e (rmc 9 1728) s m args below meth c H locs w (6 * w) (MQ below (QI G b0 res.1 res.2) args s 1728 (6 * 1728) (Ab b0)) (F0 m 93 ls [.int y0]) := by
    intro X_29 c_29 hc_29 w V x3 x4 x5 x6 x7 y0 hw hr H locs ls hV hS hl
    unfold f_L_isWhole_b93 at hr
    refine lv_istore (lv' := [(8, .int y0), (0, .ref (b0 + 0)), (3, .int x3), (4, .int x4), (5, .int x5), (6, .int x6), (7, .int x7)]) hx hb dL_isWhole_93 hl (by decide) rfl (fun ls hl => ?_)
    refine lv_iload hx hb dL_isWhole_95 (lv_at hl 0 rfl) ?_
    refine lv_if_eq (tgt := 151) hx hb dL_isWhole_97 (by decide) (fun b_53 => ?_) (fun b_53 => ?_)
    · have hr := it b_53 hr
      refine lv_iconst (v := 0) hx hb dL_isWhole_151 (by decide) ?_
      rw [← Option.some.inj hr]
      exact fin_zc (w := w) C hV hS (by omega) (by decide) rfl dL_isWhole_152
    · have hr := ie b_53 hr
      refine lv_aload_n hx hb dL_isWhole_100 rfl (lv_at hl 1 rfl) ?_
      refine lv_iload hx hb dL_isWhole_101 (lv_at hl 3 rfl) ?_
      obtain ⟨q54, e54, hr⟩ := ob hr
      refine cal_ic (run_HC (As := [.ref (b0 + 0), .int x4]) (rest := []) C hV hS (c_L_leastAgain l hfl G b0 V x4 q54 e54) q_1462 q_1463 q_92 q_1464 dk_L_leastAgain (rmc_ok (by decide) (by decide)) hl.1 rfl (Nat.le_of_ble_eq_true rfl) dL_isWhole_103 (rmc_cs (by omega))) hS (fun H locs hV hS => ?_)
      refine lv_iload hx hb dL_isWhole_106 (lv_at hl 4 rfl) ?_
      refine lv_icmp_ne (tgt := 151) hx hb dL_isWhole_108 (by decide) (fun b_55 => ?_) (fun b_55 => ?_)
      · have hr := ie b_55 hr
        refine lv_iconst (v := 0) hx hb dL_isWhole_151 (by decide) ?_
        rw [← Option.some.inj hr]
        exact fin_zc (w := w + 1) C hV hS (by omega) (by decide) rfl dL_isWhole_152
      · have hr := it b_55 hr
        refine lv_iload hx hb dL_isWhole_111 (lv_at hl 4 rfl) ?_
        refine lv_if_ne (tgt := 120) hx hb dL_isWhole_113 (by decide) (fun b_56 => ?_) (fun b_56 => ?_)
        · have hr := ie b_56 hr
          refine lv_iconst (v := 0) hx hb dL_isWhole_120 (by decide) ?_
          exact K_121 X_29 c_29 hc_29 (w + 1) _ x3 x4 x6 x7 0 (by omega) hr _ _ ls hV hS (lv_sub hl [1, 2, 3, 5, 6] rfl)
        · have hr := it b_56 hr
          refine lv_iconst (v := 1) hx hb dL_isWhole_116 (by decide) ?_
          refine lv_goto (tgt := 121) hx hb dL_isWhole_117 (by decide) ?_
          exact K_121 X_29 c_29 hc_29 (w + 1) _ x3 x4 x6 x7 1 (by omega) hr _ _ ls hV hS (lv_sub hl [1, 2, 3, 5, 6] rfl)
  have K_88 : ∀ (X_29 : Nat) (c_29 : St → Int32 → Int32 → Option (Int32 × St)) (hc_29 : ∀ (w : Nat) (V : St) (x3 : Int32) (x4 : Int32), w + X_29 ≤ 1728 → c_29 V x3 x4 = some res → ∀ (H : Heap) (locs : List Loc) (ls : Array Slot), Hd G b0 V H → va_S (Ab b0) s.heap H locs → lv_has ls 11 [(0, .ref (b0 + 0)), (3, .int x3), (4, .int x4)] → W p l e (rmc 9 1728) s m args below meth c H locs w (6 * w) (MQ below (QI G b0 res.1 res.2) args s 1728 (6 * 1728) (Ab b0)) (F0 m 29 ls [])) (w : Nat) (V : St) (x3 : Int32) (x4 : Int32) (x5 : Int32) (x6 : Int32) (x7 : Int32), w + 2 + X_29 ≤ 1728 → f_L_isWhole_b88 c_29 V x3 x4 x5 x6 x7 = some res → ∀ (H : Heap) (locs : List Loc) (ls : Array Slot), Hd G b0 V H → va_S (Ab b0) s.heap H locs → lv_has ls 11 [(0, .ref (b0 + 0)), (3, .int x3), (4, .int x4), (5, .int x5), (6, .int x6), (7, .int x7)] → W p l e (rmc 9 1728) s m args below meth c H locs w (6 * w) (MQ below (QI G b0 res.1 res.2) args s 1728 (6 * 1728) (Ab b0)) (F0 m 88 ls []) := by
    intro X_29 c_29 hc_29 w V x3 x4 x5 x6 x7 hw hr H locs ls hV hS hl
    unfold f_L_isWhole_b88 at hr
    refine lv_iconst (v := 1) hx hb dL_isWhole_88 (by decide) ?_
    refine lv_goto (tgt := 93) hx hb dL_isWhole_89 (by decide) ?_
    exact K_93 X_29 c_29 hc_29 w _ x3 x4 x5 x6 x7 1 (by omega) hr _ _ ls hV hS (lv_sub hl [0, 1, 2, 3, 4, 5] rfl)
  have K_92 : ∀ (X_29 : Nat) (c_29 : St → Int32 → Int32 → Option (Int32 × St)) (hc_29 : ∀ (w : Nat) (V : St) (x3 : Int32) (x4 : Int32), w + X_29 ≤ 1728 → c_29 V x3 x4 = some res → ∀ (H : Heap) (locs : List Loc) (ls : Array Slot), Hd G b0 V H → va_S (Ab b0) s.heap H locs → lv_has ls 11 [(0, .ref (b0 + 0)), (3, .int x3), (4, .int x4)] → W p l e (rmc 9 1728) s m args below meth c H locs w (6 * w) (MQ below (QI G b0 res.1 res.2) args s 1728 (6 * 1728) (Ab b0)) (F0 m 29 ls [])) (w : Nat) (V : St) (x3 : Int32) (x4 : Int32) (x5 : Int32) (x6 : Int32) (x7 : Int32), w + 2 + X_29 ≤ 1728 → f_L_isWhole_b92 c_29 V x3 x4 x5 x6 x7 = some res → ∀ (H : Heap) (locs : List Loc) (ls : Array Slot), Hd G b0 V H → va_S (Ab b0) s.heap H locs → lv_has ls 11 [(0, .ref (b0 + 0)), (3, .int x3), (4, .int x4), (5, .int x5), (6, .int x6), (7, .int x7)] → W p l e (rmc 9 1728) s m args below meth c H locs w (6 * w) (MQ below (QI G b0 res.1 res.2) args s 1728 (6 * 1728) (Ab b0)) (F0 m 92 ls []) := by
    intro X_29 c_29 hc_29 w V x3 x4 x5 x6 x7 hw hr H locs ls hV hS hl
    unfold f_L_isWhole_b92 at hr
    refine lv_iconst (v := 0) hx hb dL_isWhole_92 (by decide) ?_
    exact K_93 X_29 c_29 hc_29 w _ x3 x4 x5 x6 x7 0 (by omega) hr _ _ ls hV hS (lv_sub hl [0, 1, 2, 3, 4, 5] rfl)
  have K_29 : ∀ (n : Nat) (w : Nat) (V : St) (x3 : Int32) (x4 : Int32), w + n * 6 + 122 ≤ 1728 → f_L_isWhole_b29 n V x3 x4 = some res → ∀ (H : Heap) (locs : List Loc) (ls : Array Slot), Hd G b0 V H → va_S (Ab b0) s.heap H locs → lv_has ls 11 [(0, .ref (b0 + 0)), (3, .int x3), (4, .int x4)] → W p l e (rmc 9 1728) s m args below meth c H locs w (6 * w) (MQ below (QI G b0 res.1 res.2) args s 1728 (6 * 1728) (Ab b0)) (F0 m 29 ls []) := by
    intro  n
    induction n with
    | zero =>
      intro w V x3 x4 hw hr
      rw [f_L_isWhole_b29] at hr
      cases hr
    | succ n ih =>
      intro w V x3 x4 hw hr H locs ls hV hS hl
      rw [f_L_isWhole_b29] at hr
      refine lv_iload hx hb dL_isWhole_29 (lv_at hl 2 rfl) ?_
      refine lv_aload_n hx hb dL_isWhole_31 rfl (lv_at hl 0 rfl) ?_
      refine lv_iconst (v := 5) hx hb dL_isWhole_32 (by decide) ?_
      obtain ⟨q57, e57, hr⟩ := ob hr
      refine cal_ic (run_HC (As := [.ref (b0 + 0), .int 5]) (rest := [.int x4]) C hV hS (c_L_account l hfl G b0 V 5 q57 e57) q_522 q_523 q_92 q_524 dk_L_account (rmc_ok (by decide) (by decide)) hl.1 rfl (Nat.le_of_ble_eq_true rfl) dL_isWhole_33 (rmc_cs (by omega))) hS (fun H locs hV hS => ?_)
      refine lv_icmp_ge (tgt := 164) hx hb dL_isWhole_36 (by decide) (fun b_58 => ?_) (fun b_58 => ?_)
      · have hr := it b_58 hr
        refine lv_iconst (v := 0) hx hb dL_isWhole_164 (by decide) ?_
        refine lv_istore (lv' := [(4, .int 0), (0, .ref (b0 + 0)), (3, .int x3)]) hx hb dL_isWhole_165 hl (by decide) rfl (fun ls hl => ?_)
        refine lv_iconst (v := 0) hx hb dL_isWhole_167 (by decide) ?_
        refine lv_istore (lv' := [(5, .int 0), (4, .int 0), (0, .ref (b0 + 0)), (3, .int x3)]) hx hb dL_isWhole_168 hl (by decide) rfl (fun ls hl => ?_)
        refine lv_iconst (v := 0) hx hb dL_isWhole_170 (by decide) ?_
        refine lv_istore (lv' := [(6, .int 0), (5, .int 0), (4, .int 0), (0, .ref (b0 + 0)), (3, .int x3)]) hx hb dL_isWhole_171 hl (by decide) rfl (fun ls hl => ?_)
        exact K_173 5 (w + 1) _ x3 0 0 0 (by omega) hr _ _ ls hV hS (lv_sub hl [3, 4, 2, 1, 0] rfl)
      · have hr := ie b_58 hr
        refine lv_aload_n hx hb dL_isWhole_39 rfl (lv_at hl 0 rfl) ?_
        refine lv_iload hx hb dL_isWhole_40 (lv_at hl 2 rfl) ?_
        obtain ⟨q59, e59, hr⟩ := ob hr
        refine cal_ic (run_HC (As := [.ref (b0 + 0), .int x4]) (rest := []) C hV hS (c_L_least l hfl G b0 V x4 q59 e59) q_1438 q_1439 q_92 q_1440 dk_L_least (rmc_ok (by decide) (by decide)) hl.1 rfl (Nat.le_of_ble_eq_true rfl) dL_isWhole_42 (rmc_cs (by omega))) hS (fun H locs hV hS => ?_)
        refine lv_istore (lv' := [(5, .int q59.1), (0, .ref (b0 + 0)), (3, .int x3), (4, .int x4)]) hx hb dL_isWhole_45 hl (by decide) rfl (fun ls hl => ?_)
        refine lv_aload_n hx hb dL_isWhole_47 rfl (lv_at hl 1 rfl) ?_
        refine lv_iload hx hb dL_isWhole_48 (lv_at hl 3 rfl) ?_
        refine lv_iconst (v := 3) hx hb dL_isWhole_50 (by decide) ?_
        obtain ⟨q60, e60, hr⟩ := ob hr
        refine cal_ic (run_HC (As := [.ref (b0 + 0), .int x4, .int 3]) (rest := []) C hV hS (c_L_noteOf l hfl G b0 q59.2 x4 3 q60 e60) q_1290 q_1291 q_92 q_1292 dk_L_noteOf (rmc_ok (by decide) (by decide)) hl.1 rfl (Nat.le_of_ble_eq_true rfl) dL_isWhole_51 (rmc_cs (by omega))) hS (fun H locs hV hS => ?_)
        refine lv_istore (lv' := [(6, .int q60), (5, .int q59.1), (0, .ref (b0 + 0)), (3, .int x3), (4, .int x4)]) hx hb dL_isWhole_54 hl (by decide) rfl (fun ls hl => ?_)
        refine lv_aload_n hx hb dL_isWhole_56 rfl (lv_at hl 2 rfl) ?_
        refine lv_iload hx hb dL_isWhole_57 (lv_at hl 4 rfl) ?_
        refine lv_iconst (v := 2) hx hb dL_isWhole_59 (by decide) ?_
        obtain ⟨q61, e61, hr⟩ := ob hr
        refine cal_ic (run_HC (As := [.ref (b0 + 0), .int x4, .int 2]) (rest := []) C hV hS (c_L_noteOf l hfl G b0 q59.2 x4 2 q61 e61) q_1290 q_1291 q_92 q_1292 dk_L_noteOf (rmc_ok (by decide) (by decide)) hl.1 rfl (Nat.le_of_ble_eq_true rfl) dL_isWhole_60 (rmc_cs (by omega))) hS (fun H locs hV hS => ?_)
        refine lv_istore (lv' := [(7, .int q61), (6, .int q60), (5, .int q59.1), (0, .ref (b0 + 0)), (3, .int x3), (4, .int x4)]) hx hb dL_isWhole_63 hl (by decide) rfl (fun ls hl => ?_)
        refine lv_iload hx hb dL_isWhole_65 (lv_at hl 2 rfl) ?_
        refine lv_bipush (v := (-75)) hx hb dL_isWhole_67 (by decide) ?_
        refine lv_icmp_eq (tgt := 88) hx hb dL_isWhole_69 (by decide) (fun b_62 => ?_) (fun b_62 => ?_)
        · have hr := it b_62 hr
          exact K_88 (n * 6 + 122) (fun V x3 x4 => f_L_isWhole_b29 n V x3 x4) (fun w V x3 x4 hw hr => ih w V x3 x4 (by omega) hr) (w + 1 + 1 + 1 + 1) _ x3 x4 q59.1 q60 q61 (by omega) hr _ _ ls hV hS (lv_sub hl [3, 4, 5, 2, 1, 0] rfl)
        · have hr := ie b_62 hr
          refine lv_iload hx hb dL_isWhole_72 (lv_at hl 2 rfl) ?_
          refine lv_if_lt (tgt := 92) hx hb dL_isWhole_74 (by decide) (fun b_63 => ?_) (fun b_63 => ?_)
          · have hr := it b_63 hr
            exact K_92 (n * 6 + 122) (fun V x3 x4 => f_L_isWhole_b29 n V x3 x4) (fun w V x3 x4 hw hr => ih w V x3 x4 (by omega) hr) (w + 1 + 1 + 1 + 1) _ x3 x4 q59.1 q60 q61 (by omega) hr _ _ ls hV hS (lv_sub hl [3, 4, 5, 2, 1, 0] rfl)
          · have hr := ie b_63 hr
            refine lv_iload hx hb dL_isWhole_77 (lv_at hl 2 rfl) ?_
            refine lv_iconst (v := 2) hx hb dL_isWhole_79 (by decide) ?_
            refine lv_iload hx hb dL_isWhole_80 (lv_at hl 0 rfl) ?_
            refine lv_iconst (v := 1) hx hb dL_isWhole_82 (by decide) ?_
            refine lv_isub hx hb dL_isWhole_83 ?_
            refine lv_imul hx hb dL_isWhole_84 ?_
            refine lv_icmp_gt (tgt := 92) hx hb dL_isWhole_85 (by decide) (fun b_64 => ?_) (fun b_64 => ?_)
            · have hr := it b_64 hr
              exact K_92 (n * 6 + 122) (fun V x3 x4 => f_L_isWhole_b29 n V x3 x4) (fun w V x3 x4 hw hr => ih w V x3 x4 (by omega) hr) (w + 1 + 1 + 1 + 1) _ x3 x4 q59.1 q60 q61 (by omega) hr _ _ ls hV hS (lv_sub hl [3, 4, 5, 2, 1, 0] rfl)
            · have hr := ie b_64 hr
              exact K_88 (n * 6 + 122) (fun V x3 x4 => f_L_isWhole_b29 n V x3 x4) (fun w V x3 x4 hw hr => ih w V x3 x4 (by omega) hr) (w + 1 + 1 + 1 + 1) _ x3 x4 q59.1 q60 q61 (by omega) hr _ _ ls hV hS (lv_sub hl [3, 4, 5, 2, 1, 0] rfl)
  have K_2 : ∀ (n : Nat) (w : Nat) (V : St) (x1 : Int32) (x2 : Int32) (x3 : Int32), w + n * 391 + 164 ≤ 1728 → f_L_isWhole_b2 n V x1 x2 x3 = some res → ∀ (H : Heap) (locs : List Loc) (ls : Array Slot), Hd G b0 V H → va_S (Ab b0) s.heap H locs → lv_has ls 11 [(0, .ref (b0 + 0)), (1, .int x1), (2, .int x2), (3, .int x3)] → W p l e (rmc 9 1728) s m args below meth c H locs w (6 * w) (MQ below (QI G b0 res.1 res.2) args s 1728 (6 * 1728) (Ab b0)) (F0 m 2 ls []) := by
    intro  n
    induction n with
    | zero =>
      intro w V x1 x2 x3 hw hr
      rw [f_L_isWhole_b2] at hr
      cases hr
    | succ n ih =>
      intro w V x1 x2 x3 hw hr H locs ls hV hS hl
      rw [f_L_isWhole_b2] at hr
      refine lv_iload_n hx hb dL_isWhole_2 rfl (lv_at hl 3 rfl) ?_
      refine lv_iload_n hx hb dL_isWhole_3 rfl (lv_at hl 1 rfl) ?_
      refine lv_icmp_gt (tgt := 24) hx hb dL_isWhole_4 (by decide) (fun b_65 => ?_) (fun b_65 => ?_)
      · have hr := it b_65 hr
        refine lv_iconst (v := 0) hx hb dL_isWhole_24 (by decide) ?_
        refine lv_istore_n (lv' := [(3, .int 0), (0, .ref (b0 + 0)), (1, .int x1), (2, .int x2)]) hx hb dL_isWhole_25 rfl hl (by decide) rfl (fun ls hl => ?_)
        refine lv_iconst (v := 0) hx hb dL_isWhole_26 (by decide) ?_
        refine lv_istore (lv' := [(4, .int 0), (3, .int 0), (0, .ref (b0 + 0)), (1, .int x1), (2, .int x2)]) hx hb dL_isWhole_27 hl (by decide) rfl (fun ls hl => ?_)
        exact K_29 7 w _ 0 0 (by omega) hr _ _ ls hV hS (lv_sub hl [2, 1, 0] rfl)
      · have hr := ie b_65 hr
        refine lv_aload_n hx hb dL_isWhole_7 rfl (lv_at hl 0 rfl) ?_
        refine lv_iload_n hx hb dL_isWhole_8 rfl (lv_at hl 3 rfl) ?_
        refine lv_iload_n hx hb dL_isWhole_9 rfl (lv_at hl 2 rfl) ?_
        obtain ⟨q66, e66, hr⟩ := ob hr
        refine cal_ic (run_C (As := [.ref (b0 + 0), .int x3, .int x2]) (rest := []) C hV hS (c_L_isNet l hfl G b0 V x3 x2 q66 e66) q_1339 q_1340 q_92 q_1341 dk_L_isNet (rmc_ok (by decide) (by decide)) hl.1 rfl (Nat.le_of_ble_eq_true rfl) dL_isWhole_10 (rmc_cs (by omega))) hS (fun H locs hV hS => ?_)
        refine lv_if_ne (tgt := 18) hx hb dL_isWhole_13 (by decide) (fun b_67 => ?_) (fun b_67 => ?_)
        · have hr := ie b_67 hr
          refine lv_iinc (v := x3 + 1) (lv' := [(3, .int (x3 + 1)), (0, .ref (b0 + 0)), (1, .int x1), (2, .int x2)]) hx hb dL_isWhole_18 hl (k := 3) rfl rfl (by decide) rfl (fun ls hl => ?_)
          refine lv_goto (tgt := 2) hx hb dL_isWhole_21 (by decide) ?_
          exact ih (w + 391) _ x1 x2 (x3 + 1) (by omega) hr _ _ ls hV hS (lv_sub hl [1, 2, 3, 0] rfl)
        · have hr := it b_67 hr
          refine lv_iconst (v := 0) hx hb dL_isWhole_16 (by decide) ?_
          rw [← Option.some.inj hr]
          exact fin_zc (w := w + 391) C hV hS (by omega) (by decide) rfl dL_isWhole_17
  unfold f_L_isWhole at hr
  refine lv_iconst (v := 0) hx hb dL_isWhole_0 (by decide) ?_
  refine lv_istore_n (lv' := [(3, .int 0), (0, .ref (b0 + 0)), (1, .int x1), (2, .int x2)]) hx hb dL_isWhole_1 rfl hl (by decide) rfl (fun ls hl => ?_)
  exact K_2 4 0 _ x1 x2 0 (by omega) hr _ _ ls hV hS (lv_sub hl [1, 2, 3, 0] rfl)
def f_L_isKept_b44 (U : Nat → Int64) : Nat → St → Int32 → Int32 → Int32 → Int32 → Option (Int32 × St)
  | 0, _, _, _, _, _ => none
  | n + 1, V, x2, x3, x4, x5 =>
    if x4 ≤ 0 then
      (f_L_undo V).bind fun q2 =>
      if q2.1 = (-79) then
        (f_L_restore q2.2).bind fun q4 =>
        if q4.1 = x3 then
          (f_L_sum q4.2).bind fun q6 =>
          (ix x2 60).bind fun j7 =>
          if (lg_cmp q6.1 (U j7)) = 0 then
            (f_L_undo q6.2).bind fun q9 =>
            if q9.1 = (-79) then
              some (1, q9.2)
            else
              some (0, q9.2)
          else
            some (0, q6.2)
        else
          some (0, q4.2)
      else
        some (0, q2.2)
    else
      (f_L_undo V).bind fun q11 =>
      if q11.1 = (x4 + (-1)) then
        (f_L_sum q11.2).bind fun q13 =>
        (ix x5 60).bind fun j14 =>
        if (lg_cmp q13.1 (U j14)) = 0 then
          f_L_isKept_b44 U n q13.2 x2 x3 (x4 + (-1)) (x5 + (-1))
        else
          some (0, q13.2)
      else
        some (0, q11.2)
def f_L_isKept (U : Nat → Int64) (V : St) (x2 : Int32) : Option (Int32 × St) :=
  (f_L_account V 5).bind fun q16 =>
  (f_X9_save V).bind fun q17 =>
  if q17.1 = q16 then
    (f_L_account q17.2 12).bind fun q19 =>
    if q19 = (imin 8 x2) then
      f_L_isKept_b44 U 9 q17.2 x2 q16 (imin 8 x2) (x2 - 1)
    else
      some (0, q17.2)
  else
    some (0, q17.2)
set_option maxHeartbeats 8000000 in
set_option maxRecDepth 100000 in
theorem c_L_isKept (l : Launch) (hfl : l.stackTraces = false) (G : LG) (b0 : Nat) (V : St) (a9 : Nat) (U : Nat → Int64) (x2 : Int32) (res : Int32 × St) (hr : f_L_isKept U V x2 = some res) : Met l yL_isKept (wy yL_isKept cL_isKept 6 (some .boolean)) (rmc 9 3323) (va_Pc [.ref (b0 + 0), .ref a9, .int x2] (Iv (xg G a9 (al G 60 U)) b0 V)) (QI (xg G a9 (al G 60 U)) b0 res.1 res.2) 3323 (6 * 3323) (Ab b0) := by
  refine mk_c (by decide +kernel) (Nat.le_of_ble_eq_true rfl) ?_
  intro p e s m below meth c C hV hS ls hl
  obtain ⟨args, hargs⟩ : ∃ z, z = ([.ref (b0 + 0), .ref a9, .int x2] : List Value).toArray := ⟨_, rfl⟩
  rw [← hargs] at C ⊢
  obtain ⟨hx, hb, hrt, hml, hown, hts, hlocks, hK, hSv⟩ := id C
  have hl : lv_has ls 6 [(0, .ref (b0 + 0)), (1, .ref a9), (2, .int x2)] := hl
  have K_44 : ∀ (n : Nat) (w : Nat) (V : St) (x2 : Int32) (x3 : Int32) (x4 : Int32) (x5 : Int32), w + n * 369 + 0 ≤ 3323 → f_L_isKept_b44 U n V x2 x3 x4 x5 = some res → ∀ (H : Heap) (locs : List Loc) (ls : Array Slot), Hd (xg G a9 (al G 60 U)) b0 V H → va_S (Ab b0) s.heap H locs → lv_has ls 6 [(0, .ref (b0 + 0)), (1, .ref a9), (2, .int x2), (3, .int x3), (4, .int x4), (5, .int x5)] → W p l e (rmc 9 3323) s m args below meth c H locs w (6 * w) (MQ below (QI (xg G a9 (al G 60 U)) b0 res.1 res.2) args s 3323 (6 * 3323) (Ab b0)) (F0 m 44 ls []) := by
    intro  n
    induction n with
    | zero =>
      intro w V x2 x3 x4 x5 hw hr
      rw [f_L_isKept_b44] at hr
      cases hr
    | succ n ih =>
      intro w V x2 x3 x4 x5 hw hr H locs ls hV hS hl
      rw [f_L_isKept_b44] at hr
      refine lv_iload hx hb dL_isKept_44 (lv_at hl 4 rfl) ?_
      refine lv_if_le (tgt := 81) hx hb dL_isKept_46 (by decide) (fun b_1 => ?_) (fun b_1 => ?_)
      · have hr := it b_1 hr
        refine lv_aload_n hx hb dL_isKept_81 rfl (lv_at hl 0 rfl) ?_
        obtain ⟨q2, e2, hr⟩ := ob hr
        refine cal_ic (run_HC (As := [.ref (b0 + 0)]) (rest := []) C hV hS (c_L_undo l hfl (xg G a9 (al G 60 U)) b0 V q2 e2) q_1535 q_1536 q_92 q_1537 dk_L_undo (rmc_ok (by decide) (by decide)) hl.1 rfl (Nat.le_of_ble_eq_true rfl) dL_isKept_82 (rmc_cs (by omega))) hS (fun H locs hV hS => ?_)
        refine lv_bipush (v := (-79)) hx hb dL_isKept_85 (by decide) ?_
        refine lv_icmp_ne (tgt := 122) hx hb dL_isKept_87 (by decide) (fun b_3 => ?_) (fun b_3 => ?_)
        · have hr := ie b_3 hr
          refine lv_iconst (v := 0) hx hb dL_isKept_122 (by decide) ?_
          rw [← Option.some.inj hr]
          exact fin_zc (w := w + 1) C hV hS (by omega) (by decide) rfl dL_isKept_123
        · have hr := it b_3 hr
          refine lv_aload_n hx hb dL_isKept_90 rfl (lv_at hl 0 rfl) ?_
          obtain ⟨q4, e4, hr⟩ := ob hr
          refine cal_ic (run_HC (As := [.ref (b0 + 0)]) (rest := []) C hV hS (c_L_restore l hfl (xg G a9 (al G 60 U)) b0 q2.2 q4 e4) q_1547 q_1548 q_92 q_1549 dk_L_restore (rmc_ok (by decide) (by decide)) hl.1 rfl (Nat.le_of_ble_eq_true rfl) dL_isKept_91 (rmc_cs (by omega))) hS (fun H locs hV hS => ?_)
          refine lv_iload_n hx hb dL_isKept_94 rfl (lv_at hl 3 rfl) ?_
          refine lv_icmp_ne (tgt := 122) hx hb dL_isKept_95 (by decide) (fun b_5 => ?_) (fun b_5 => ?_)
          · have hr := ie b_5 hr
            refine lv_iconst (v := 0) hx hb dL_isKept_122 (by decide) ?_
            rw [← Option.some.inj hr]
            exact fin_zc (w := w + 1 + 1) C hV hS (by omega) (by decide) rfl dL_isKept_123
          · have hr := it b_5 hr
            refine lv_aload_n hx hb dL_isKept_98 rfl (lv_at hl 0 rfl) ?_
            obtain ⟨q6, e6, hr⟩ := ob hr
            refine cal_lc (run_C (As := [.ref (b0 + 0)]) (rest := []) C hV hS (c_L_sum l hfl (xg G a9 (al G 60 U)) b0 q4.2 q6 e6) q_1235 q_1236 q_92 q_1237 dk_L_sum (rmc_ok (by decide) (by decide)) hl.1 rfl (Nat.le_of_ble_eq_true rfl) dL_isKept_99 (rmc_cs (by omega))) hS (fun H locs hV hS => ?_)
            refine lv_aload_n hx hb dL_isKept_102 rfl (lv_at hl 1 rfl) ?_
            refine lv_iload_n hx hb dL_isKept_103 rfl (lv_at hl 2 rfl) ?_
            obtain ⟨j7, e7, hr⟩ := ob hr
            refine x_lald C.y hV e7 dL_isKept_104 ?_
            refine W.lcmp hx hb dL_isKept_105 ?_
            refine W.eq (g2 := F0 m 106 ls [.int (lg_cmp q6.1 (U j7))]) rfl ?_
            refine lv_if_ne (tgt := 122) hx hb dL_isKept_106 (by decide) (fun b_8 => ?_) (fun b_8 => ?_)
            · have hr := ie b_8 hr
              refine lv_iconst (v := 0) hx hb dL_isKept_122 (by decide) ?_
              rw [← Option.some.inj hr]
              exact fin_zc (w := w + 1 + 1 + 366) C hV hS (by omega) (by decide) rfl dL_isKept_123
            · have hr := it b_8 hr
              refine lv_aload_n hx hb dL_isKept_109 rfl (lv_at hl 0 rfl) ?_
              obtain ⟨q9, e9, hr⟩ := ob hr
              refine cal_ic (run_HC (As := [.ref (b0 + 0)]) (rest := []) C hV hS (c_L_undo l hfl (xg G a9 (al G 60 U)) b0 q6.2 q9 e9) q_1535 q_1536 q_92 q_1537 dk_L_undo (rmc_ok (by decide) (by decide)) hl.1 rfl (Nat.le_of_ble_eq_true rfl) dL_isKept_110 (rmc_cs (by omega))) hS (fun H locs hV hS => ?_)
              refine lv_bipush (v := (-79)) hx hb dL_isKept_113 (by decide) ?_
              refine lv_icmp_ne (tgt := 122) hx hb dL_isKept_115 (by decide) (fun b_10 => ?_) (fun b_10 => ?_)
              · have hr := ie b_10 hr
                refine lv_iconst (v := 0) hx hb dL_isKept_122 (by decide) ?_
                rw [← Option.some.inj hr]
                exact fin_zc (w := w + 1 + 1 + 366 + 1) C hV hS (by omega) (by decide) rfl dL_isKept_123
              · have hr := it b_10 hr
                refine lv_iconst (v := 1) hx hb dL_isKept_118 (by decide) ?_
                refine lv_goto (tgt := 123) hx hb dL_isKept_119 (by decide) ?_
                rw [← Option.some.inj hr]
                exact fin_zc (w := w + 1 + 1 + 366 + 1) C hV hS (by omega) (by decide) rfl dL_isKept_123
      · have hr := ie b_1 hr
        refine lv_iinc (v := x4 + (-1)) (lv' := [(4, .int (x4 + (-1))), (0, .ref (b0 + 0)), (1, .ref a9), (2, .int x2), (3, .int x3), (5, .int x5)]) hx hb dL_isKept_49 hl (k := 4) rfl rfl (by decide) rfl (fun ls hl => ?_)
        refine lv_aload_n hx hb dL_isKept_52 rfl (lv_at hl 1 rfl) ?_
        obtain ⟨q11, e11, hr⟩ := ob hr
        refine cal_ic (run_HC (As := [.ref (b0 + 0)]) (rest := []) C hV hS (c_L_undo l hfl (xg G a9 (al G 60 U)) b0 V q11 e11) q_1535 q_1536 q_92 q_1537 dk_L_undo (rmc_ok (by decide) (by decide)) hl.1 rfl (Nat.le_of_ble_eq_true rfl) dL_isKept_53 (rmc_cs (by omega))) hS (fun H locs hV hS => ?_)
        refine lv_iload hx hb dL_isKept_56 (lv_at hl 0 rfl) ?_
        refine lv_icmp_ne (tgt := 73) hx hb dL_isKept_58 (by decide) (fun b_12 => ?_) (fun b_12 => ?_)
        · have hr := ie b_12 hr
          refine lv_iconst (v := 0) hx hb dL_isKept_73 (by decide) ?_
          rw [← Option.some.inj hr]
          exact fin_zc (w := w + 1) C hV hS (by omega) (by decide) rfl dL_isKept_74
        · have hr := it b_12 hr
          refine lv_aload_n hx hb dL_isKept_61 rfl (lv_at hl 1 rfl) ?_
          obtain ⟨q13, e13, hr⟩ := ob hr
          refine cal_lc (run_C (As := [.ref (b0 + 0)]) (rest := []) C hV hS (c_L_sum l hfl (xg G a9 (al G 60 U)) b0 q11.2 q13 e13) q_1235 q_1236 q_92 q_1237 dk_L_sum (rmc_ok (by decide) (by decide)) hl.1 rfl (Nat.le_of_ble_eq_true rfl) dL_isKept_62 (rmc_cs (by omega))) hS (fun H locs hV hS => ?_)
          refine lv_aload_n hx hb dL_isKept_65 rfl (lv_at hl 2 rfl) ?_
          refine lv_iload hx hb dL_isKept_66 (lv_at hl 5 rfl) ?_
          obtain ⟨j14, e14, hr⟩ := ob hr
          refine x_lald C.y hV e14 dL_isKept_68 ?_
          refine W.lcmp hx hb dL_isKept_69 ?_
          refine W.eq (g2 := F0 m 70 ls [.int (lg_cmp q13.1 (U j14))]) rfl ?_
          refine lv_if_eq (tgt := 75) hx hb dL_isKept_70 (by decide) (fun b_15 => ?_) (fun b_15 => ?_)
          · have hr := it b_15 hr
            refine lv_iinc (v := x5 + (-1)) (lv' := [(5, .int (x5 + (-1))), (4, .int (x4 + (-1))), (0, .ref (b0 + 0)), (1, .ref a9), (2, .int x2), (3, .int x3)]) hx hb dL_isKept_75 hl (k := 5) rfl rfl (by decide) rfl (fun ls hl => ?_)
            refine lv_goto (tgt := 44) hx hb dL_isKept_78 (by decide) ?_
            exact ih (w + 1 + 366) _ x2 x3 (x4 + (-1)) (x5 + (-1)) (by omega) hr _ _ ls hV hS (lv_sub hl [2, 3, 4, 5, 1, 0] rfl)
          · have hr := ie b_15 hr
            refine lv_iconst (v := 0) hx hb dL_isKept_73 (by decide) ?_
            rw [← Option.some.inj hr]
            exact fin_zc (w := w + 1 + 366) C hV hS (by omega) (by decide) rfl dL_isKept_74
  unfold f_L_isKept at hr
  refine lv_aload_n hx hb dL_isKept_0 rfl (lv_at hl 0 rfl) ?_
  refine lv_iconst (v := 5) hx hb dL_isKept_1 (by decide) ?_
  obtain ⟨q16, e16, hr⟩ := ob hr
  refine cal_ic (run_HC (As := [.ref (b0 + 0), .int 5]) (rest := []) C hV hS (c_L_account l hfl (xg G a9 (al G 60 U)) b0 V 5 q16 e16) q_522 q_523 q_92 q_524 dk_L_account (rmc_ok (by decide) (by decide)) hl.1 rfl (Nat.le_of_ble_eq_true rfl) dL_isKept_2 (rmc_cs (by omega))) hS (fun H locs hV hS => ?_)
  refine lv_istore_n (lv' := [(3, .int q16), (0, .ref (b0 + 0)), (1, .ref a9), (2, .int x2)]) hx hb dL_isKept_5 rfl hl (by decide) rfl (fun ls hl => ?_)
  refine lv_aload_n hx hb dL_isKept_6 rfl (lv_at hl 1 rfl) ?_
  obtain ⟨q17, e17, hr⟩ := ob hr
  refine cal_i (run_V (As := []) (rest := []) C hV hS (c_X9_save l (xg G a9 (al G 60 U)) b0 V q17 e17) (rcv hK hV (kd_lt z_0 (by decide)) (cel_0 z_0) rfl) q_1531 q_1532 q_1533 q_93 q_1534 dk_X9_save (rmc_ok0 (by decide) (by decide)) hl.1 rfl (Nat.le_of_ble_eq_true rfl) dL_isKept_7 (rmc_c0 (by omega))) hS (fun H locs hV hS => ?_)
  refine lv_iload_n hx hb dL_isKept_10 rfl (lv_at hl 0 rfl) ?_
  refine lv_icmp_ne (tgt := 29) hx hb dL_isKept_11 (by decide) (fun b_18 => ?_) (fun b_18 => ?_)
  · have hr := ie b_18 hr
    refine lv_iconst (v := 0) hx hb dL_isKept_29 (by decide) ?_
    rw [← Option.some.inj hr]
    exact fin_zc (w := 0 + 1) C hV hS (by omega) (by decide) rfl dL_isKept_30
  · have hr := it b_18 hr
    refine lv_aload_n hx hb dL_isKept_14 rfl (lv_at hl 1 rfl) ?_
    refine lv_bipush (v := 12) hx hb dL_isKept_15 (by decide) ?_
    obtain ⟨q19, e19, hr⟩ := ob hr
    refine cal_ic (run_HC (As := [.ref (b0 + 0), .int 12]) (rest := []) C hV hS (c_L_account l hfl (xg G a9 (al G 60 U)) b0 q17.2 12 q19 e19) q_522 q_523 q_92 q_524 dk_L_account (rmc_ok (by decide) (by decide)) hl.1 rfl (Nat.le_of_ble_eq_true rfl) dL_isKept_17 (rmc_cs (by omega))) hS (fun H locs hV hS => ?_)
    refine lv_bipush (v := 8) hx hb dL_isKept_20 (by decide) ?_
    refine lv_iload_n hx hb dL_isKept_22 rfl (lv_at hl 3 rfl) ?_
    refine r_min (D := 8) C q_1342 q_703 q_112 q_704 hl.1 ⟨rfl, rfl⟩ (Nat.le_of_ble_eq_true rfl) (rmc_c0 (by omega)) dL_isKept_23 ?_
    refine W.eq (g2 := F0 m 26 ls [.int (imin 8 x2), .int q19]) rfl ?_
    refine lv_icmp_eq (tgt := 31) hx hb dL_isKept_26 (by decide) (fun b_20 => ?_) (fun b_20 => ?_)
    · have hr := it b_20 hr
      refine lv_bipush (v := 8) hx hb dL_isKept_31 (by decide) ?_
      refine lv_iload_n hx hb dL_isKept_33 rfl (lv_at hl 3 rfl) ?_
      refine r_min (D := 8) C q_1342 q_703 q_112 q_704 hl.1 ⟨rfl, rfl⟩ (Nat.le_of_ble_eq_true rfl) (rmc_c0 (by omega)) dL_isKept_34 ?_
      refine W.eq (g2 := F0 m 37 ls [.int (imin 8 x2)]) rfl ?_
      refine lv_istore (lv' := [(4, .int (imin 8 x2)), (3, .int q16), (0, .ref (b0 + 0)), (1, .ref a9), (2, .int x2)]) hx hb dL_isKept_37 hl (by decide) rfl (fun ls hl => ?_)
      refine lv_iload_n hx hb dL_isKept_39 rfl (lv_at hl 4 rfl) ?_
      refine lv_iconst (v := 1) hx hb dL_isKept_40 (by decide) ?_
      refine lv_isub hx hb dL_isKept_41 ?_
      refine lv_istore (lv' := [(5, .int (x2 - 1)), (4, .int (imin 8 x2)), (3, .int q16), (0, .ref (b0 + 0)), (1, .ref a9), (2, .int x2)]) hx hb dL_isKept_42 hl (by decide) rfl (fun ls hl => ?_)
      exact K_44 9 (0 + 1 + 1) _ x2 q16 (imin 8 x2) (x2 - 1) (by omega) hr _ _ ls hV hS (lv_sub hl [3, 4, 5, 2, 1, 0] rfl)
    · have hr := ie b_20 hr
      refine lv_iconst (v := 0) hx hb dL_isKept_29 (by decide) ?_
      rw [← Option.some.inj hr]
      exact fin_zc (w := 0 + 1 + 1) C hV hS (by omega) (by decide) rfl dL_isKept_30
