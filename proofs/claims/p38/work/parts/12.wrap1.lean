def f_L_knot (V : St) (x1 : Int32) (x2 : Int32) (x3 : Int32) : Option (Int32 × St) :=
  (f_X9_knot V x1 x2 x3).bind fun q1 =>
  exm q1.1 (fun r => some (r, q1.2)) (fun n => if n = 0 then some ((-76), q1.2) else none)
def f_L_tear (V : St) (x1 : Int32) (x2 : Int32) (x3 : Int32) : Option (Int32 × St) :=
  (f_X9_tear V x1 x2 x3).bind fun q1 =>
  exm q1.1 (fun r => some (r, q1.2)) (fun n => if n = 0 then some ((-76), q1.2) else none)
def f_L_mend (V : St) (x1 : Int32) (x2 : Int32) (x3 : Int32) (x4 : Int32) : Option (Int32 × St) :=
  (f_X9_mend V x1 x2 x3 x4).bind fun q1 =>
  exm q1.1 (fun r => some (r, q1.2)) (fun n => if n = 0 then some ((-76), q1.2) else none)
def f_L_editor (V : St) (x1 : Int32) : Option (Int32 × St) :=
  (f_X9_editor V x1).bind fun q1 =>
  exm q1.1 (fun r => some (r, q1.2)) (fun n => if n = 0 then some ((-76), q1.2) else none)
def f_L_tide (V : St) (x1 : Int32) : Option (Int32 × St) :=
  (f_X9_tide V x1).bind fun q1 =>
  exm q1.1 (fun r => some (r, q1.2)) (fun n => if n = 0 then some ((-76), q1.2) else none)
def f_L_sink (V : St) (x1 : Int32) (x2 : Int32) : Option (Int32 × St) :=
  (f_X9_sink V x1 x2).bind fun q1 =>
  exm q1.1 (fun r => some (r, q1.2)) (fun n => if n = 0 then some ((-76), q1.2) else none)
def f_L_note (V : St) (x1 : Int32) (x2 : Int32) : Option (Int32 × St) :=
  (f_X9_note V x1 x2).bind fun q1 =>
  exm q1.1 (fun r => some (r, q1.2)) (fun n => if n = 0 then some ((-76), q1.2) else none)
def f_L_drop (V : St) (x1 : Int32) : Option (Int32 × St) :=
  (f_X9_drop V x1).bind fun q1 =>
  exm q1.1 (fun r => some (r, q1.2)) (fun n => if n = 0 then some ((-76), q1.2) else none)
def f_L_kindOf (V : St) (x1 : Int32) (x2 : Int32) : Option (Int32) :=
  (f_X9_kindOf V x1 x2).bind fun q1 =>
  exm q1 (fun r => some r) (fun n => if n = 1 then some (-77) else none)
def f_L_torn (V : St) (x1 : Int32) (x2 : Int32) (x3 : Int32) : Option (Int32) :=
  (f_X9_isTorn V x1 x2 x3).bind fun q1 =>
  exm q1 (fun r => if r = 0 then some 0 else some 1) (fun n => if n = 1 then some (-77) else if n = 2 then some (-75) else none)
def f_L_netOf (V : St) (x1 : Int32) (x2 : Int32) : Option (Int32) :=
  (f_X9_netOf V x1 x2).bind fun q1 =>
  exm q1 (fun r => some r) (fun n => if n = 1 then some (-77) else if n = 3 then some (-78) else none)
def f_L_chapters (V : St) (x1 : Int32) : Option (Int32) :=
  (f_X9_chapters V x1).bind fun q1 =>
  exm q1 (fun r => some r) (fun n => if n = 1 then some (-77) else none)
def f_L_chaptersAgain (V : St) (x1 : Int32) : Option (Int32 × St) :=
  (f_X9_chaptersAgain V x1).bind fun q1 =>
  exm q1.1 (fun r => some (r, q1.2)) (fun n => if n = 1 then some ((-77), q1.2) else none)
def f_L_chapterOf (V : St) (x1 : Int32) (x2 : Int32) (x3 : Int32) : Option (Int32) :=
  (f_X9_chapterOf V x1 x2 x3).bind fun q1 =>
  exm q1 (fun r => some r) (fun n => if n = 1 then some (-77) else if n = 3 then some (-78) else if n = 2 then some (-75) else none)
def f_L_noteOf (V : St) (x1 : Int32) (x2 : Int32) : Option (Int32) :=
  (f_X9_noteOf V x1 x2).bind fun q1 =>
  exm q1 (fun r => some r) (fun n => if n = 1 then some (-77) else if n = 3 then some (-78) else none)
def f_L_least (V : St) (x1 : Int32) : Option (Int32 × St) :=
  (f_X9_least V x1).bind fun q1 =>
  exm q1.1 (fun r => some (r, q1.2)) (fun n => if n = 1 then some ((-77), q1.2) else if n = 2 then some ((-75), q1.2) else none)
def f_L_leastAgain (V : St) (x1 : Int32) : Option (Int32) :=
  (f_X9_leastAgain V x1).bind fun q1 =>
  exm q1 (fun r => some r) (fun n => if n = 1 then some (-77) else if n = 2 then some (-75) else none)
def f_L_bestMend (V : St) (x1 : Int32) (x2 : Int32) : Option (Int32) :=
  (f_X9_bestMend V x1 x2).bind fun q1 =>
  exm q1 (fun r => some r) (fun n => if n = 1 then some (-77) else if n = 2 then some (-75) else none)
def f_L_ranked (V : St) (x1 : Int32) (x2 : Int32) : Option (Int32) :=
  (f_X9_ranked V x1 x2).bind fun q1 =>
  exm q1 (fun r => some r) (fun n => if n = 1 then some (-77) else if n = 2 then some (-75) else none)
def f_L_editorOf (V : St) (x1 : Int32) (x2 : Int32) : Option (Int32) :=
  (f_X9_editorOf V x1 x2).bind fun q1 =>
  exm q1 (fun r => some r) (fun n => if n = 1 then some (-77) else if n = 3 then some (-78) else none)
def f_L_feed (V : St) (x1 : Int32) : Option (Int32 × St) :=
  (f_X9_feed V x1).bind fun q1 =>
  exm q1.1 (fun r => some (r, q1.2)) (fun n => if n = 4 then some ((-79), q1.2) else none)
def f_L_run (V : St) : Option (Int32 × St) :=
  (f_X9_run V).bind fun q1 =>
  exm q1.1 (fun r => some (r, q1.2)) (fun n => if n = 3 then some ((-78), q1.2) else if n = 0 then some ((-76), q1.2) else none)
def f_L_line (V : St) (x1 : Int32) (x2 : Int32) : Option (Int32 × St) :=
  (f_X9_line V x1 x2).bind fun q1 =>
  exm q1.1 (fun r => some (r, q1.2)) (fun n => if n = 1 then some ((-77), q1.2) else none)
def f_L_chapterLine (V : St) (x1 : Int32) (x2 : Int32) : Option (Int32 × St) :=
  (f_X9_chapterLine V x1 x2).bind fun q1 =>
  exm q1.1 (fun r => some (r, q1.2)) (fun n => if n = 1 then some ((-77), q1.2) else if n = 2 then some ((-75), q1.2) else none)
def f_L_noteLine (V : St) (x1 : Int32) : Option (Int32 × St) :=
  (f_X9_noteLine V x1).bind fun q1 =>
  exm q1.1 (fun r => some (r, q1.2)) (fun n => if n = 1 then some ((-77), q1.2) else none)
def f_L_meanKnots (V : St) : Option (UInt64) :=
  (f_X9_meanKnots V).bind fun q1 =>
  exm q1 (fun r => some r) (fun n => if n = 5 then some 13858279740860792832 else none)
def f_L_readShare (V : St) : Option (UInt32) :=
  (f_X9_readShare V).bind fun q1 =>
  exm q1 (fun r => some r) (fun n => if n = 5 then some 3264479232 else none)
def f_L_account (V : St) (x1 : Int32) : Option (Int32) :=
  (f_X9_account V x1).bind fun q1 =>
  exm q1 (fun r => some r) (fun n => if n = 3 then some (-78) else none)
def f_L_undo (V : St) : Option (Int32 × St) :=
  (f_X9_undo V).bind fun q1 =>
  exm q1.1 (fun r => some (r, q1.2)) (fun n => if n = 4 then some ((-79), q1.2) else none)
def f_L_restore (V : St) : Option (Int32 × St) :=
  (f_X9_restore V).bind fun q1 =>
  exm q1.1 (fun r => some (r, q1.2)) (fun n => if n = 4 then some ((-79), q1.2) else none)
set_option maxHeartbeats 4000000 in
set_option maxRecDepth 100000 in
theorem c_L_knot (l : Launch) (hfl : l.stackTraces = false) (G : LG) (b0 : Nat) (V : St) (x1 : Int32) (x2 : Int32) (x3 : Int32) (res : Int32 × St) (hr : f_L_knot V x1 x2 x3 = some res) : Met l yL_knot (wyH yL_knot cL_knot 5 (some .int) [(0, 7, 8, 20)]) (rmc 7 1) (va_Pc [.ref (b0 + 0), .int x1, .int x2, .int x3] (Iv G b0 V)) (QI G b0 res.1 res.2) 1 (6 * 1) (Ab b0) := by
  refine mk_h (by decide +kernel) (Nat.le_of_ble_eq_true rfl) ?_
  intro p e s m below meth c C ht hV hS ls hl
  obtain ⟨args, hargs⟩ : ∃ z, z = ([.ref (b0 + 0), .int x1, .int x2, .int x3] : List Value).toArray := ⟨_, rfl⟩
  rw [← hargs] at C ⊢
  obtain ⟨hx, hb, hrt, hml, hown, hts, hlocks, hK, hSv⟩ := id C
  have hl : lv_has ls 5 [(0, .ref (b0 + 0)), (1, .int x1), (2, .int x2), (3, .int x3)] := hl
  unfold f_L_knot at hr
  refine lv_aload_n hx hb dL_knot_0 rfl (lv_at hl 0 rfl) ?_
  refine lv_iload_n hx hb dL_knot_1 rfl (lv_at hl 1 rfl) ?_
  refine lv_iload_n hx hb dL_knot_2 rfl (lv_at hl 2 rfl) ?_
  refine lv_iload_n hx hb dL_knot_3 rfl (lv_at hl 3 rfl) ?_
  obtain ⟨q1, e1, hr⟩ := ob hr
  refine xcal_i (As := [.int x1, .int x2, .int x3]) (rest := []) C hV hS (c_X9_knot l hfl G b0 V x1 x2 x3 q1 e1) (rcv hK hV (kd_lt z_0 (by decide)) (cel_0 z_0) rfl) q_604 q_605 q_606 q_93 q_607 dk_X9_knot (rmx_ok3 (by decide) (by decide)) hl.1 rfl (Nat.le_of_ble_eq_true rfl) dL_knot_4 ⟨Nat.le_refl _, Nat.le_refl _⟩ (fun n E ce q9 H locs hn hE hV hS h1 h2 h3 => ?_) (fun r H locs hn hV hS => ?_)
  · rw [hn] at hr
    have hr : (if n = 0 then some ((-76), q1.2) else none) = some res := hr
    by_cases b : n = 0
    · subst b
      have hr := it rfl hr
      obtain rfl : "java/lang/UnsupportedOperationException" = E := Option.some.inj hE
      refine vx_catch hown [] ⟨0, 7, 8, 20⟩ [] ht (fun _ h => nomatch h) (by decide) (by decide) (hts _ q_603) (va_Nw.use rfl (hK.2.1 _ q_636)) h1 h2 h3 ?_
      refine lv_astore (lv' := [(4, .ref q9), (0, .ref (b0 + 0)), (1, .int x1), (2, .int x2), (3, .int x3)]) hx hb dL_knot_8 hl (by decide) rfl (fun ls hl => ?_)
      refine lv_bipush (v := (-76)) hx hb dL_knot_10 (by decide) ?_
      rw [← Option.some.inj hr]
      exact fin_ic (w := 1) C hV hS (Nat.le_refl _) rfl dL_knot_12
    have hr := ie b hr
    cases hr
  · rw [hn] at hr
    have hr : (some (r, q1.2)) = some res := hr
    rw [← Option.some.inj hr]
    exact fin_ic (w := 1) C hV hS (Nat.le_refl _) rfl dL_knot_7
set_option maxHeartbeats 4000000 in
set_option maxRecDepth 100000 in
theorem c_L_tear (l : Launch) (hfl : l.stackTraces = false) (G : LG) (b0 : Nat) (V : St) (x1 : Int32) (x2 : Int32) (x3 : Int32) (res : Int32 × St) (hr : f_L_tear V x1 x2 x3 = some res) : Met l yL_tear (wyH yL_tear cL_tear 5 (some .int) [(0, 7, 8, 20)]) (rmc 7 1) (va_Pc [.ref (b0 + 0), .int x1, .int x2, .int x3] (Iv G b0 V)) (QI G b0 res.1 res.2) 1 (6 * 1) (Ab b0) := by
  refine mk_h (by decide +kernel) (Nat.le_of_ble_eq_true rfl) ?_
  intro p e s m below meth c C ht hV hS ls hl
  obtain ⟨args, hargs⟩ : ∃ z, z = ([.ref (b0 + 0), .int x1, .int x2, .int x3] : List Value).toArray := ⟨_, rfl⟩
  rw [← hargs] at C ⊢
  obtain ⟨hx, hb, hrt, hml, hown, hts, hlocks, hK, hSv⟩ := id C
  have hl : lv_has ls 5 [(0, .ref (b0 + 0)), (1, .int x1), (2, .int x2), (3, .int x3)] := hl
  unfold f_L_tear at hr
  refine lv_aload_n hx hb dL_tear_0 rfl (lv_at hl 0 rfl) ?_
  refine lv_iload_n hx hb dL_tear_1 rfl (lv_at hl 1 rfl) ?_
  refine lv_iload_n hx hb dL_tear_2 rfl (lv_at hl 2 rfl) ?_
  refine lv_iload_n hx hb dL_tear_3 rfl (lv_at hl 3 rfl) ?_
  obtain ⟨q1, e1, hr⟩ := ob hr
  refine xcal_i (As := [.int x1, .int x2, .int x3]) (rest := []) C hV hS (c_X9_tear l hfl G b0 V x1 x2 x3 q1 e1) (rcv hK hV (kd_lt z_0 (by decide)) (cel_0 z_0) rfl) q_683 q_684 q_685 q_93 q_686 dk_X9_tear (rmx_ok3 (by decide) (by decide)) hl.1 rfl (Nat.le_of_ble_eq_true rfl) dL_tear_4 ⟨Nat.le_refl _, Nat.le_refl _⟩ (fun n E ce q9 H locs hn hE hV hS h1 h2 h3 => ?_) (fun r H locs hn hV hS => ?_)
  · rw [hn] at hr
    have hr : (if n = 0 then some ((-76), q1.2) else none) = some res := hr
    by_cases b : n = 0
    · subst b
      have hr := it rfl hr
      obtain rfl : "java/lang/UnsupportedOperationException" = E := Option.some.inj hE
      refine vx_catch hown [] ⟨0, 7, 8, 20⟩ [] ht (fun _ h => nomatch h) (by decide) (by decide) (hts _ q_603) (va_Nw.use rfl (hK.2.1 _ q_636)) h1 h2 h3 ?_
      refine lv_astore (lv' := [(4, .ref q9), (0, .ref (b0 + 0)), (1, .int x1), (2, .int x2), (3, .int x3)]) hx hb dL_tear_8 hl (by decide) rfl (fun ls hl => ?_)
      refine lv_bipush (v := (-76)) hx hb dL_tear_10 (by decide) ?_
      rw [← Option.some.inj hr]
      exact fin_ic (w := 1) C hV hS (Nat.le_refl _) rfl dL_tear_12
    have hr := ie b hr
    cases hr
  · rw [hn] at hr
    have hr : (some (r, q1.2)) = some res := hr
    rw [← Option.some.inj hr]
    exact fin_ic (w := 1) C hV hS (Nat.le_refl _) rfl dL_tear_7
set_option maxHeartbeats 4000000 in
set_option maxRecDepth 100000 in
theorem c_L_mend (l : Launch) (hfl : l.stackTraces = false) (G : LG) (b0 : Nat) (V : St) (x1 : Int32) (x2 : Int32) (x3 : Int32) (x4 : Int32) (res : Int32 × St) (hr : f_L_mend V x1 x2 x3 x4 = some res) : Met l yL_mend (wyH yL_mend cL_mend 6 (some .int) [(0, 9, 10, 20)]) (rmc 7 1) (va_Pc [.ref (b0 + 0), .int x1, .int x2, .int x3, .int x4] (Iv G b0 V)) (QI G b0 res.1 res.2) 1 (6 * 1) (Ab b0) := by
  refine mk_h (by decide +kernel) (Nat.le_of_ble_eq_true rfl) ?_
  intro p e s m below meth c C ht hV hS ls hl
  obtain ⟨args, hargs⟩ : ∃ z, z = ([.ref (b0 + 0), .int x1, .int x2, .int x3, .int x4] : List Value).toArray := ⟨_, rfl⟩
  rw [← hargs] at C ⊢
  obtain ⟨hx, hb, hrt, hml, hown, hts, hlocks, hK, hSv⟩ := id C
  have hl : lv_has ls 6 [(0, .ref (b0 + 0)), (1, .int x1), (2, .int x2), (3, .int x3), (4, .int x4)] := hl
  unfold f_L_mend at hr
  refine lv_aload_n hx hb dL_mend_0 rfl (lv_at hl 0 rfl) ?_
  refine lv_iload_n hx hb dL_mend_1 rfl (lv_at hl 1 rfl) ?_
  refine lv_iload_n hx hb dL_mend_2 rfl (lv_at hl 2 rfl) ?_
  refine lv_iload_n hx hb dL_mend_3 rfl (lv_at hl 3 rfl) ?_
  refine lv_iload hx hb dL_mend_4 (lv_at hl 4 rfl) ?_
  obtain ⟨q1, e1, hr⟩ := ob hr
  refine xcal_i (As := [.int x1, .int x2, .int x3, .int x4]) (rest := []) C hV hS (c_X9_mend l hfl G b0 V x1 x2 x3 x4 q1 e1) (rcv hK hV (kd_lt z_0 (by decide)) (cel_0 z_0) rfl) q_730 q_731 q_732 q_93 q_733 dk_X9_mend (rmx_ok3 (by decide) (by decide)) hl.1 rfl (Nat.le_of_ble_eq_true rfl) dL_mend_6 ⟨Nat.le_refl _, Nat.le_refl _⟩ (fun n E ce q9 H locs hn hE hV hS h1 h2 h3 => ?_) (fun r H locs hn hV hS => ?_)
  · rw [hn] at hr
    have hr : (if n = 0 then some ((-76), q1.2) else none) = some res := hr
    by_cases b : n = 0
    · subst b
      have hr := it rfl hr
      obtain rfl : "java/lang/UnsupportedOperationException" = E := Option.some.inj hE
      refine vx_catch hown [] ⟨0, 9, 10, 20⟩ [] ht (fun _ h => nomatch h) (by decide) (by decide) (hts _ q_603) (va_Nw.use rfl (hK.2.1 _ q_636)) h1 h2 h3 ?_
      refine lv_astore (lv' := [(5, .ref q9), (0, .ref (b0 + 0)), (1, .int x1), (2, .int x2), (3, .int x3), (4, .int x4)]) hx hb dL_mend_10 hl (by decide) rfl (fun ls hl => ?_)
      refine lv_bipush (v := (-76)) hx hb dL_mend_12 (by decide) ?_
      rw [← Option.some.inj hr]
      exact fin_ic (w := 1) C hV hS (Nat.le_refl _) rfl dL_mend_14
    have hr := ie b hr
    cases hr
  · rw [hn] at hr
    have hr : (some (r, q1.2)) = some res := hr
    rw [← Option.some.inj hr]
    exact fin_ic (w := 1) C hV hS (Nat.le_refl _) rfl dL_mend_9
set_option maxHeartbeats 4000000 in
set_option maxRecDepth 100000 in
theorem c_L_editor (l : Launch) (hfl : l.stackTraces = false) (G : LG) (b0 : Nat) (V : St) (x1 : Int32) (res : Int32 × St) (hr : f_L_editor V x1 = some res) : Met l yL_editor (wyH yL_editor cL_editor 3 (some .int) [(0, 5, 6, 20)]) (rmc 7 1) (va_Pc [.ref (b0 + 0), .int x1] (Iv G b0 V)) (QI G b0 res.1 res.2) 1 (6 * 1) (Ab b0) := by
  refine mk_h (by decide +kernel) (Nat.le_of_ble_eq_true rfl) ?_
  intro p e s m below meth c C ht hV hS ls hl
  obtain ⟨args, hargs⟩ : ∃ z, z = ([.ref (b0 + 0), .int x1] : List Value).toArray := ⟨_, rfl⟩
  rw [← hargs] at C ⊢
  obtain ⟨hx, hb, hrt, hml, hown, hts, hlocks, hK, hSv⟩ := id C
  have hl : lv_has ls 3 [(0, .ref (b0 + 0)), (1, .int x1)] := hl
  unfold f_L_editor at hr
  refine lv_aload_n hx hb dL_editor_0 rfl (lv_at hl 0 rfl) ?_
  refine lv_iload_n hx hb dL_editor_1 rfl (lv_at hl 1 rfl) ?_
  obtain ⟨q1, e1, hr⟩ := ob hr
  refine xcal_i (As := [.int x1]) (rest := []) C hV hS (c_X9_editor l hfl G b0 V x1 q1 e1) (rcv hK hV (kd_lt z_0 (by decide)) (cel_0 z_0) rfl) q_756 q_757 q_758 q_93 q_759 dk_X9_editor (rmx_ok3 (by decide) (by decide)) hl.1 rfl (Nat.le_of_ble_eq_true rfl) dL_editor_2 ⟨Nat.le_refl _, Nat.le_refl _⟩ (fun n E ce q9 H locs hn hE hV hS h1 h2 h3 => ?_) (fun r H locs hn hV hS => ?_)
  · rw [hn] at hr
    have hr : (if n = 0 then some ((-76), q1.2) else none) = some res := hr
    by_cases b : n = 0
    · subst b
      have hr := it rfl hr
      obtain rfl : "java/lang/UnsupportedOperationException" = E := Option.some.inj hE
      refine vx_catch hown [] ⟨0, 5, 6, 20⟩ [] ht (fun _ h => nomatch h) (by decide) (by decide) (hts _ q_603) (va_Nw.use rfl (hK.2.1 _ q_636)) h1 h2 h3 ?_
      refine lv_astore_n (lv' := [(2, .ref q9), (0, .ref (b0 + 0)), (1, .int x1)]) hx hb dL_editor_6 rfl hl (by decide) rfl (fun ls hl => ?_)
      refine lv_bipush (v := (-76)) hx hb dL_editor_7 (by decide) ?_
      rw [← Option.some.inj hr]
      exact fin_ic (w := 1) C hV hS (Nat.le_refl _) rfl dL_editor_9
    have hr := ie b hr
    cases hr
  · rw [hn] at hr
    have hr : (some (r, q1.2)) = some res := hr
    rw [← Option.some.inj hr]
    exact fin_ic (w := 1) C hV hS (Nat.le_refl _) rfl dL_editor_5
set_option maxHeartbeats 4000000 in
set_option maxRecDepth 100000 in
theorem c_L_tide (l : Launch) (hfl : l.stackTraces = false) (G : LG) (b0 : Nat) (V : St) (x1 : Int32) (res : Int32 × St) (hr : f_L_tide V x1 = some res) : Met l yL_tide (wyH yL_tide cL_tide 3 (some .int) [(0, 5, 6, 20)]) (rmc 7 1) (va_Pc [.ref (b0 + 0), .int x1] (Iv G b0 V)) (QI G b0 res.1 res.2) 1 (6 * 1) (Ab b0) := by
  refine mk_h (by decide +kernel) (Nat.le_of_ble_eq_true rfl) ?_
  intro p e s m below meth c C ht hV hS ls hl
  obtain ⟨args, hargs⟩ : ∃ z, z = ([.ref (b0 + 0), .int x1] : List Value).toArray := ⟨_, rfl⟩
  rw [← hargs] at C ⊢
  obtain ⟨hx, hb, hrt, hml, hown, hts, hlocks, hK, hSv⟩ := id C
  have hl : lv_has ls 3 [(0, .ref (b0 + 0)), (1, .int x1)] := hl
  unfold f_L_tide at hr
  refine lv_aload_n hx hb dL_tide_0 rfl (lv_at hl 0 rfl) ?_
  refine lv_iload_n hx hb dL_tide_1 rfl (lv_at hl 1 rfl) ?_
  obtain ⟨q1, e1, hr⟩ := ob hr
  refine xcal_i (As := [.int x1]) (rest := []) C hV hS (c_X9_tide l hfl G b0 V x1 q1 e1) (rcv hK hV (kd_lt z_0 (by decide)) (cel_0 z_0) rfl) q_772 q_773 q_774 q_93 q_775 dk_X9_tide (rmx_ok3 (by decide) (by decide)) hl.1 rfl (Nat.le_of_ble_eq_true rfl) dL_tide_2 ⟨Nat.le_refl _, Nat.le_refl _⟩ (fun n E ce q9 H locs hn hE hV hS h1 h2 h3 => ?_) (fun r H locs hn hV hS => ?_)
  · rw [hn] at hr
    have hr : (if n = 0 then some ((-76), q1.2) else none) = some res := hr
    by_cases b : n = 0
    · subst b
      have hr := it rfl hr
      obtain rfl : "java/lang/UnsupportedOperationException" = E := Option.some.inj hE
      refine vx_catch hown [] ⟨0, 5, 6, 20⟩ [] ht (fun _ h => nomatch h) (by decide) (by decide) (hts _ q_603) (va_Nw.use rfl (hK.2.1 _ q_636)) h1 h2 h3 ?_
      refine lv_astore_n (lv' := [(2, .ref q9), (0, .ref (b0 + 0)), (1, .int x1)]) hx hb dL_tide_6 rfl hl (by decide) rfl (fun ls hl => ?_)
      refine lv_bipush (v := (-76)) hx hb dL_tide_7 (by decide) ?_
      rw [← Option.some.inj hr]
      exact fin_ic (w := 1) C hV hS (Nat.le_refl _) rfl dL_tide_9
    have hr := ie b hr
    cases hr
  · rw [hn] at hr
    have hr : (some (r, q1.2)) = some res := hr
    rw [← Option.some.inj hr]
    exact fin_ic (w := 1) C hV hS (Nat.le_refl _) rfl dL_tide_5
set_option maxHeartbeats 4000000 in
set_option maxRecDepth 100000 in
theorem c_L_sink (l : Launch) (hfl : l.stackTraces = false) (G : LG) (b0 : Nat) (V : St) (x1 : Int32) (x2 : Int32) (res : Int32 × St) (hr : f_L_sink V x1 x2 = some res) : Met l yL_sink (wyH yL_sink cL_sink 4 (some .int) [(0, 6, 7, 20)]) (rmc 7 1) (va_Pc [.ref (b0 + 0), .int x1, .int x2] (Iv G b0 V)) (QI G b0 res.1 res.2) 1 (6 * 1) (Ab b0) := by
  refine mk_h (by decide +kernel) (Nat.le_of_ble_eq_true rfl) ?_
  intro p e s m below meth c C ht hV hS ls hl
  obtain ⟨args, hargs⟩ : ∃ z, z = ([.ref (b0 + 0), .int x1, .int x2] : List Value).toArray := ⟨_, rfl⟩
  rw [← hargs] at C ⊢
  obtain ⟨hx, hb, hrt, hml, hown, hts, hlocks, hK, hSv⟩ := id C
  have hl : lv_has ls 4 [(0, .ref (b0 + 0)), (1, .int x1), (2, .int x2)] := hl
  unfold f_L_sink at hr
  refine lv_aload_n hx hb dL_sink_0 rfl (lv_at hl 0 rfl) ?_
  refine lv_iload_n hx hb dL_sink_1 rfl (lv_at hl 1 rfl) ?_
  refine lv_iload_n hx hb dL_sink_2 rfl (lv_at hl 2 rfl) ?_
  obtain ⟨q1, e1, hr⟩ := ob hr
  refine xcal_i (As := [.int x1, .int x2]) (rest := []) C hV hS (c_X9_sink l hfl G b0 V x1 x2 q1 e1) (rcv hK hV (kd_lt z_0 (by decide)) (cel_0 z_0) rfl) q_797 q_798 q_799 q_93 q_800 dk_X9_sink (rmx_ok3 (by decide) (by decide)) hl.1 rfl (Nat.le_of_ble_eq_true rfl) dL_sink_3 ⟨Nat.le_refl _, Nat.le_refl _⟩ (fun n E ce q9 H locs hn hE hV hS h1 h2 h3 => ?_) (fun r H locs hn hV hS => ?_)
  · rw [hn] at hr
    have hr : (if n = 0 then some ((-76), q1.2) else none) = some res := hr
    by_cases b : n = 0
    · subst b
      have hr := it rfl hr
      obtain rfl : "java/lang/UnsupportedOperationException" = E := Option.some.inj hE
      refine vx_catch hown [] ⟨0, 6, 7, 20⟩ [] ht (fun _ h => nomatch h) (by decide) (by decide) (hts _ q_603) (va_Nw.use rfl (hK.2.1 _ q_636)) h1 h2 h3 ?_
      refine lv_astore_n (lv' := [(3, .ref q9), (0, .ref (b0 + 0)), (1, .int x1), (2, .int x2)]) hx hb dL_sink_7 rfl hl (by decide) rfl (fun ls hl => ?_)
      refine lv_bipush (v := (-76)) hx hb dL_sink_8 (by decide) ?_
      rw [← Option.some.inj hr]
      exact fin_ic (w := 1) C hV hS (Nat.le_refl _) rfl dL_sink_10
    have hr := ie b hr
    cases hr
  · rw [hn] at hr
    have hr : (some (r, q1.2)) = some res := hr
    rw [← Option.some.inj hr]
    exact fin_ic (w := 1) C hV hS (Nat.le_refl _) rfl dL_sink_6
set_option maxHeartbeats 4000000 in
set_option maxRecDepth 100000 in
theorem c_L_note (l : Launch) (hfl : l.stackTraces = false) (G : LG) (b0 : Nat) (V : St) (x1 : Int32) (x2 : Int32) (res : Int32 × St) (hr : f_L_note V x1 x2 = some res) : Met l yL_note (wyH yL_note cL_note 4 (some .int) [(0, 6, 7, 20)]) (rmc 7 1) (va_Pc [.ref (b0 + 0), .int x1, .int x2] (Iv G b0 V)) (QI G b0 res.1 res.2) 1 (6 * 1) (Ab b0) := by
  refine mk_h (by decide +kernel) (Nat.le_of_ble_eq_true rfl) ?_
  intro p e s m below meth c C ht hV hS ls hl
  obtain ⟨args, hargs⟩ : ∃ z, z = ([.ref (b0 + 0), .int x1, .int x2] : List Value).toArray := ⟨_, rfl⟩
  rw [← hargs] at C ⊢
  obtain ⟨hx, hb, hrt, hml, hown, hts, hlocks, hK, hSv⟩ := id C
  have hl : lv_has ls 4 [(0, .ref (b0 + 0)), (1, .int x1), (2, .int x2)] := hl
  unfold f_L_note at hr
  refine lv_aload_n hx hb dL_note_0 rfl (lv_at hl 0 rfl) ?_
  refine lv_iload_n hx hb dL_note_1 rfl (lv_at hl 1 rfl) ?_
  refine lv_iload_n hx hb dL_note_2 rfl (lv_at hl 2 rfl) ?_
  obtain ⟨q1, e1, hr⟩ := ob hr
  refine xcal_i (As := [.int x1, .int x2]) (rest := []) C hV hS (c_X9_note l hfl G b0 V x1 x2 q1 e1) (rcv hK hV (kd_lt z_0 (by decide)) (cel_0 z_0) rfl) q_810 q_811 q_812 q_93 q_813 dk_X9_note (rmx_ok3 (by decide) (by decide)) hl.1 rfl (Nat.le_of_ble_eq_true rfl) dL_note_3 ⟨Nat.le_refl _, Nat.le_refl _⟩ (fun n E ce q9 H locs hn hE hV hS h1 h2 h3 => ?_) (fun r H locs hn hV hS => ?_)
  · rw [hn] at hr
    have hr : (if n = 0 then some ((-76), q1.2) else none) = some res := hr
    by_cases b : n = 0
    · subst b
      have hr := it rfl hr
      obtain rfl : "java/lang/UnsupportedOperationException" = E := Option.some.inj hE
      refine vx_catch hown [] ⟨0, 6, 7, 20⟩ [] ht (fun _ h => nomatch h) (by decide) (by decide) (hts _ q_603) (va_Nw.use rfl (hK.2.1 _ q_636)) h1 h2 h3 ?_
      refine lv_astore_n (lv' := [(3, .ref q9), (0, .ref (b0 + 0)), (1, .int x1), (2, .int x2)]) hx hb dL_note_7 rfl hl (by decide) rfl (fun ls hl => ?_)
      refine lv_bipush (v := (-76)) hx hb dL_note_8 (by decide) ?_
      rw [← Option.some.inj hr]
      exact fin_ic (w := 1) C hV hS (Nat.le_refl _) rfl dL_note_10
    have hr := ie b hr
    cases hr
  · rw [hn] at hr
    have hr : (some (r, q1.2)) = some res := hr
    rw [← Option.some.inj hr]
    exact fin_ic (w := 1) C hV hS (Nat.le_refl _) rfl dL_note_6
set_option maxHeartbeats 4000000 in
set_option maxRecDepth 100000 in
theorem c_L_drop (l : Launch) (hfl : l.stackTraces = false) (G : LG) (b0 : Nat) (V : St) (x1 : Int32) (res : Int32 × St) (hr : f_L_drop V x1 = some res) : Met l yL_drop (wyH yL_drop cL_drop 3 (some .int) [(0, 5, 6, 20)]) (rmc 7 1) (va_Pc [.ref (b0 + 0), .int x1] (Iv G b0 V)) (QI G b0 res.1 res.2) 1 (6 * 1) (Ab b0) := by
  refine mk_h (by decide +kernel) (Nat.le_of_ble_eq_true rfl) ?_
  intro p e s m below meth c C ht hV hS ls hl
  obtain ⟨args, hargs⟩ : ∃ z, z = ([.ref (b0 + 0), .int x1] : List Value).toArray := ⟨_, rfl⟩
  rw [← hargs] at C ⊢
  obtain ⟨hx, hb, hrt, hml, hown, hts, hlocks, hK, hSv⟩ := id C
  have hl : lv_has ls 3 [(0, .ref (b0 + 0)), (1, .int x1)] := hl
  unfold f_L_drop at hr
  refine lv_aload_n hx hb dL_drop_0 rfl (lv_at hl 0 rfl) ?_
  refine lv_iload_n hx hb dL_drop_1 rfl (lv_at hl 1 rfl) ?_
  obtain ⟨q1, e1, hr⟩ := ob hr
  refine xcal_i (As := [.int x1]) (rest := []) C hV hS (c_X9_drop l hfl G b0 V x1 q1 e1) (rcv hK hV (kd_lt z_0 (by decide)) (cel_0 z_0) rfl) q_831 q_832 q_833 q_93 q_834 dk_X9_drop (rmx_ok3 (by decide) (by decide)) hl.1 rfl (Nat.le_of_ble_eq_true rfl) dL_drop_2 ⟨Nat.le_refl _, Nat.le_refl _⟩ (fun n E ce q9 H locs hn hE hV hS h1 h2 h3 => ?_) (fun r H locs hn hV hS => ?_)
  · rw [hn] at hr
    have hr : (if n = 0 then some ((-76), q1.2) else none) = some res := hr
    by_cases b : n = 0
    · subst b
      have hr := it rfl hr
      obtain rfl : "java/lang/UnsupportedOperationException" = E := Option.some.inj hE
      refine vx_catch hown [] ⟨0, 5, 6, 20⟩ [] ht (fun _ h => nomatch h) (by decide) (by decide) (hts _ q_603) (va_Nw.use rfl (hK.2.1 _ q_636)) h1 h2 h3 ?_
      refine lv_astore_n (lv' := [(2, .ref q9), (0, .ref (b0 + 0)), (1, .int x1)]) hx hb dL_drop_6 rfl hl (by decide) rfl (fun ls hl => ?_)
      refine lv_bipush (v := (-76)) hx hb dL_drop_7 (by decide) ?_
      rw [← Option.some.inj hr]
      exact fin_ic (w := 1) C hV hS (Nat.le_refl _) rfl dL_drop_9
    have hr := ie b hr
    cases hr
  · rw [hn] at hr
    have hr : (some (r, q1.2)) = some res := hr
    rw [← Option.some.inj hr]
    exact fin_ic (w := 1) C hV hS (Nat.le_refl _) rfl dL_drop_5
set_option maxHeartbeats 4000000 in
set_option maxRecDepth 100000 in
theorem c_L_kindOf (l : Launch) (hfl : l.stackTraces = false) (G : LG) (b0 : Nat) (V : St) (x1 : Int32) (x2 : Int32) (res : Int32) (hr : f_L_kindOf V x1 x2 = some res) : Met l yL_kindOf (wyH yL_kindOf cL_kindOf 4 (some .int) [(0, 6, 7, 49)]) (rmc 7 1) (va_Pc [.ref (b0 + 0), .int x1, .int x2] (Iv G b0 V)) (QI G b0 res V) 1 (6 * 1) (Ab b0) := by
  refine mk_h (by decide +kernel) (Nat.le_of_ble_eq_true rfl) ?_
  intro p e s m below meth c C ht hV hS ls hl
  obtain ⟨args, hargs⟩ : ∃ z, z = ([.ref (b0 + 0), .int x1, .int x2] : List Value).toArray := ⟨_, rfl⟩
  rw [← hargs] at C ⊢
  obtain ⟨hx, hb, hrt, hml, hown, hts, hlocks, hK, hSv⟩ := id C
  have hl : lv_has ls 4 [(0, .ref (b0 + 0)), (1, .int x1), (2, .int x2)] := hl
  unfold f_L_kindOf at hr
  refine lv_aload_n hx hb dL_kindOf_0 rfl (lv_at hl 0 rfl) ?_
  refine lv_iload_n hx hb dL_kindOf_1 rfl (lv_at hl 1 rfl) ?_
  refine lv_iload_n hx hb dL_kindOf_2 rfl (lv_at hl 2 rfl) ?_
  obtain ⟨q1, e1, hr⟩ := ob hr
  refine xcal_i (As := [.int x1, .int x2]) (rest := []) C hV hS (c_X9_kindOf l hfl G b0 V x1 x2 q1 e1) (rcv hK hV (kd_lt z_0 (by decide)) (cel_0 z_0) rfl) q_1260 q_1261 q_1262 q_93 q_1263 dk_X9_kindOf (rmx_ok3 (by decide) (by decide)) hl.1 rfl (Nat.le_of_ble_eq_true rfl) dL_kindOf_3 ⟨Nat.le_refl _, Nat.le_refl _⟩ (fun n E ce q9 H locs hn hE hV hS h1 h2 h3 => ?_) (fun r H locs hn hV hS => ?_)
  · rw [hn] at hr
    have hr : (if n = 1 then some (-77) else none) = some res := hr
    by_cases b : n = 1
    · subst b
      have hr := it rfl hr
      obtain rfl : "java/lang/IndexOutOfBoundsException" = E := Option.some.inj hE
      refine vx_catch hown [] ⟨0, 6, 7, 49⟩ [] ht (fun _ h => nomatch h) (by decide) (by decide) (hts _ q_383) (va_Nw.use rfl (hK.2.1 _ q_472)) h1 h2 h3 ?_
      refine lv_astore_n (lv' := [(3, .ref q9), (0, .ref (b0 + 0)), (1, .int x1), (2, .int x2)]) hx hb dL_kindOf_7 rfl hl (by decide) rfl (fun ls hl => ?_)
      refine lv_bipush (v := (-77)) hx hb dL_kindOf_8 (by decide) ?_
      rw [← Option.some.inj hr]
      exact fin_ic (w := 1) C hV hS (Nat.le_refl _) rfl dL_kindOf_10
    have hr := ie b hr
    cases hr
  · rw [hn] at hr
    have hr : (some r) = some res := hr
    rw [← Option.some.inj hr]
    exact fin_ic (w := 1) C hV hS (Nat.le_refl _) rfl dL_kindOf_6
set_option maxHeartbeats 4000000 in
set_option maxRecDepth 100000 in
theorem c_L_torn (l : Launch) (hfl : l.stackTraces = false) (G : LG) (b0 : Nat) (V : St) (x1 : Int32) (x2 : Int32) (x3 : Int32) (res : Int32) (hr : f_L_torn V x1 x2 x3 = some res) : Met l yL_torn (wyH yL_torn cL_torn 5 (some .int) [(0, 15, 16, 49), (0, 15, 21, 55)]) (rmc 7 1) (va_Pc [.ref (b0 + 0), .int x1, .int x2, .int x3] (Iv G b0 V)) (QI G b0 res V) 1 (6 * 1) (Ab b0) := by
  refine mk_h (by decide +kernel) (Nat.le_of_ble_eq_true rfl) ?_
  intro p e s m below meth c C ht hV hS ls hl
  obtain ⟨args, hargs⟩ : ∃ z, z = ([.ref (b0 + 0), .int x1, .int x2, .int x3] : List Value).toArray := ⟨_, rfl⟩
  rw [← hargs] at C ⊢
  obtain ⟨hx, hb, hrt, hml, hown, hts, hlocks, hK, hSv⟩ := id C
  have hl : lv_has ls 5 [(0, .ref (b0 + 0)), (1, .int x1), (2, .int x2), (3, .int x3)] := hl
  unfold f_L_torn at hr
  refine lv_aload_n hx hb dL_torn_0 rfl (lv_at hl 0 rfl) ?_
  refine lv_iload_n hx hb dL_torn_1 rfl (lv_at hl 1 rfl) ?_
  refine lv_iload_n hx hb dL_torn_2 rfl (lv_at hl 2 rfl) ?_
  refine lv_iload_n hx hb dL_torn_3 rfl (lv_at hl 3 rfl) ?_
  obtain ⟨q1, e1, hr⟩ := ob hr
  refine xcal_i (As := [.int x1, .int x2, .int x3]) (rest := []) C hV hS (c_X9_isTorn l hfl G b0 V x1 x2 x3 q1 e1) (rcv hK hV (kd_lt z_0 (by decide)) (cel_0 z_0) rfl) q_1269 q_1270 q_1271 q_93 q_1272 dk_X9_isTorn (rmx_ok3 (by decide) (by decide)) hl.1 rfl (Nat.le_of_ble_eq_true rfl) dL_torn_4 ⟨Nat.le_refl _, Nat.le_refl _⟩ (fun n E ce q9 H locs hn hE hV hS h1 h2 h3 => ?_) (fun r H locs hn hV hS => ?_)
  · rw [hn] at hr
    have hr : (if n = 1 then some (-77) else if n = 2 then some (-75) else none) = some res := hr
    by_cases b : n = 1
    · subst b
      have hr := it rfl hr
      obtain rfl : "java/lang/IndexOutOfBoundsException" = E := Option.some.inj hE
      refine vx_catch hown [] ⟨0, 15, 16, 49⟩ [⟨0, 15, 21, 55⟩] ht (fun _ h => nomatch h) (by decide) (by decide) (hts _ q_383) (va_Nw.use rfl (hK.2.1 _ q_472)) h1 h2 h3 ?_
      refine lv_astore (lv' := [(4, .ref q9), (0, .ref (b0 + 0)), (1, .int x1), (2, .int x2), (3, .int x3)]) hx hb dL_torn_16 hl (by decide) rfl (fun ls hl => ?_)
      refine lv_bipush (v := (-77)) hx hb dL_torn_18 (by decide) ?_
      rw [← Option.some.inj hr]
      exact fin_ic (w := 1) C hV hS (Nat.le_refl _) rfl dL_torn_20
    have hr := ie b hr
    by_cases b : n = 2
    · subst b
      have hr := it rfl hr
      obtain rfl : "java/util/NoSuchElementException" = E := Option.some.inj hE
      refine vx_catch hown [⟨0, 15, 16, 49⟩] ⟨0, 15, 21, 55⟩ [] ht (List.forall_mem_cons.mpr ⟨Or.inr ⟨by decide, "java/lang/IndexOutOfBoundsException", hts _ q_383, hK.2.2.2 ("java/util/NoSuchElementException", "java/lang/IndexOutOfBoundsException") (by decide)⟩, fun _ h => nomatch h⟩) (by decide) (by decide) (hts _ q_1268) (va_Nw.use rfl (hK.2.1 _ q_1275)) h1 h2 h3 ?_
      refine lv_astore (lv' := [(4, .ref q9), (0, .ref (b0 + 0)), (1, .int x1), (2, .int x2), (3, .int x3)]) hx hb dL_torn_21 hl (by decide) rfl (fun ls hl => ?_)
      refine lv_bipush (v := (-75)) hx hb dL_torn_23 (by decide) ?_
      rw [← Option.some.inj hr]
      exact fin_ic (w := 1) C hV hS (Nat.le_refl _) rfl dL_torn_25
    have hr := ie b hr
    cases hr
  · rw [hn] at hr
    have hr : (if r = 0 then some 0 else some 1) = some res := hr
    refine lv_if_eq (tgt := 14) hx hb dL_torn_7 (by decide) (fun b => ?_) (fun b => ?_)
    · have hr := it b hr
      refine lv_iconst (v := 0) hx hb dL_torn_14 (by decide) ?_
      rw [← Option.some.inj hr]
      exact fin_ic (w := 1) C hV hS (Nat.le_refl _) rfl dL_torn_15
    · have hr := ie b hr
      refine lv_iconst (v := 1) hx hb dL_torn_10 (by decide) ?_
      refine lv_goto (tgt := 15) hx hb dL_torn_11 (by decide) ?_
      rw [← Option.some.inj hr]
      exact fin_ic (w := 1) C hV hS (Nat.le_refl _) rfl dL_torn_15
set_option maxHeartbeats 4000000 in
set_option maxRecDepth 100000 in
theorem c_L_netOf (l : Launch) (hfl : l.stackTraces = false) (G : LG) (b0 : Nat) (V : St) (x1 : Int32) (x2 : Int32) (res : Int32) (hr : f_L_netOf V x1 x2 = some res) : Met l yL_netOf (wyH yL_netOf cL_netOf 4 (some .int) [(0, 6, 7, 49), (0, 6, 11, 60)]) (rmc 7 1) (va_Pc [.ref (b0 + 0), .int x1, .int x2] (Iv G b0 V)) (QI G b0 res V) 1 (6 * 1) (Ab b0) := by
  refine mk_h (by decide +kernel) (Nat.le_of_ble_eq_true rfl) ?_
  intro p e s m below meth c C ht hV hS ls hl
  obtain ⟨args, hargs⟩ : ∃ z, z = ([.ref (b0 + 0), .int x1, .int x2] : List Value).toArray := ⟨_, rfl⟩
  rw [← hargs] at C ⊢
  obtain ⟨hx, hb, hrt, hml, hown, hts, hlocks, hK, hSv⟩ := id C
  have hl : lv_has ls 4 [(0, .ref (b0 + 0)), (1, .int x1), (2, .int x2)] := hl
  unfold f_L_netOf at hr
  refine lv_aload_n hx hb dL_netOf_0 rfl (lv_at hl 0 rfl) ?_
  refine lv_iload_n hx hb dL_netOf_1 rfl (lv_at hl 1 rfl) ?_
  refine lv_iload_n hx hb dL_netOf_2 rfl (lv_at hl 2 rfl) ?_
  obtain ⟨q1, e1, hr⟩ := ob hr
  refine xcal_i (As := [.int x1, .int x2]) (rest := []) C hV hS (c_X9_netOf l hfl G b0 V x1 x2 q1 e1) (rcv hK hV (kd_lt z_0 (by decide)) (cel_0 z_0) rfl) q_1242 q_1243 q_1244 q_93 q_1245 dk_X9_netOf (rmx_ok3 (by decide) (by decide)) hl.1 rfl (Nat.le_of_ble_eq_true rfl) dL_netOf_3 ⟨Nat.le_refl _, Nat.le_refl _⟩ (fun n E ce q9 H locs hn hE hV hS h1 h2 h3 => ?_) (fun r H locs hn hV hS => ?_)
  · rw [hn] at hr
    have hr : (if n = 1 then some (-77) else if n = 3 then some (-78) else none) = some res := hr
    by_cases b : n = 1
    · subst b
      have hr := it rfl hr
      obtain rfl : "java/lang/IndexOutOfBoundsException" = E := Option.some.inj hE
      refine vx_catch hown [] ⟨0, 6, 7, 49⟩ [⟨0, 6, 11, 60⟩] ht (fun _ h => nomatch h) (by decide) (by decide) (hts _ q_383) (va_Nw.use rfl (hK.2.1 _ q_472)) h1 h2 h3 ?_
      refine lv_astore_n (lv' := [(3, .ref q9), (0, .ref (b0 + 0)), (1, .int x1), (2, .int x2)]) hx hb dL_netOf_7 rfl hl (by decide) rfl (fun ls hl => ?_)
      refine lv_bipush (v := (-77)) hx hb dL_netOf_8 (by decide) ?_
      rw [← Option.some.inj hr]
      exact fin_ic (w := 1) C hV hS (Nat.le_refl _) rfl dL_netOf_10
    have hr := ie b hr
    by_cases b : n = 3
    · subst b
      have hr := it rfl hr
      obtain rfl : "java/lang/IllegalArgumentException" = E := Option.some.inj hE
      refine vx_catch hown [⟨0, 6, 7, 49⟩] ⟨0, 6, 11, 60⟩ [] ht (List.forall_mem_cons.mpr ⟨Or.inr ⟨by decide, "java/lang/IndexOutOfBoundsException", hts _ q_383, hK.2.2.2 ("java/lang/IllegalArgumentException", "java/lang/IndexOutOfBoundsException") (by decide)⟩, fun _ h => nomatch h⟩) (by decide) (by decide) (hts _ q_525) (va_Nw.use rfl (hK.2.1 _ q_583)) h1 h2 h3 ?_
      refine lv_astore_n (lv' := [(3, .ref q9), (0, .ref (b0 + 0)), (1, .int x1), (2, .int x2)]) hx hb dL_netOf_11 rfl hl (by decide) rfl (fun ls hl => ?_)
      refine lv_bipush (v := (-78)) hx hb dL_netOf_12 (by decide) ?_
      rw [← Option.some.inj hr]
      exact fin_ic (w := 1) C hV hS (Nat.le_refl _) rfl dL_netOf_14
    have hr := ie b hr
    cases hr
  · rw [hn] at hr
    have hr : (some r) = some res := hr
    rw [← Option.some.inj hr]
    exact fin_ic (w := 1) C hV hS (Nat.le_refl _) rfl dL_netOf_6
set_option maxHeartbeats 4000000 in
set_option maxRecDepth 100000 in
theorem c_L_chapters (l : Launch) (hfl : l.stackTraces = false) (G : LG) (b0 : Nat) (V : St) (x1 : Int32) (res : Int32) (hr : f_L_chapters V x1 = some res) : Met l yL_chapters (wyH yL_chapters cL_chapters 3 (some .int) [(0, 5, 6, 49)]) (rmc 7 1) (va_Pc [.ref (b0 + 0), .int x1] (Iv G b0 V)) (QI G b0 res V) 1 (6 * 1) (Ab b0) := by
  refine mk_h (by decide +kernel) (Nat.le_of_ble_eq_true rfl) ?_
  intro p e s m below meth c C ht hV hS ls hl
  obtain ⟨args, hargs⟩ : ∃ z, z = ([.ref (b0 + 0), .int x1] : List Value).toArray := ⟨_, rfl⟩
  rw [← hargs] at C ⊢
  obtain ⟨hx, hb, hrt, hml, hown, hts, hlocks, hK, hSv⟩ := id C
  have hl : lv_has ls 3 [(0, .ref (b0 + 0)), (1, .int x1)] := hl
  unfold f_L_chapters at hr
  refine lv_aload_n hx hb dL_chapters_0 rfl (lv_at hl 0 rfl) ?_
  refine lv_iload_n hx hb dL_chapters_1 rfl (lv_at hl 1 rfl) ?_
  obtain ⟨q1, e1, hr⟩ := ob hr
  refine xcal_i (As := [.int x1]) (rest := []) C hV hS (c_X9_chapters l hfl G b0 V x1 q1 e1) (rcv hK hV (kd_lt z_0 (by decide)) (cel_0 z_0) rfl) q_463 q_464 q_465 q_93 q_466 dk_X9_chapters (rmx_ok3 (by decide) (by decide)) hl.1 rfl (Nat.le_of_ble_eq_true rfl) dL_chapters_2 ⟨Nat.le_refl _, Nat.le_refl _⟩ (fun n E ce q9 H locs hn hE hV hS h1 h2 h3 => ?_) (fun r H locs hn hV hS => ?_)
  · rw [hn] at hr
    have hr : (if n = 1 then some (-77) else none) = some res := hr
    by_cases b : n = 1
    · subst b
      have hr := it rfl hr
      obtain rfl : "java/lang/IndexOutOfBoundsException" = E := Option.some.inj hE
      refine vx_catch hown [] ⟨0, 5, 6, 49⟩ [] ht (fun _ h => nomatch h) (by decide) (by decide) (hts _ q_383) (va_Nw.use rfl (hK.2.1 _ q_472)) h1 h2 h3 ?_
      refine lv_astore_n (lv' := [(2, .ref q9), (0, .ref (b0 + 0)), (1, .int x1)]) hx hb dL_chapters_6 rfl hl (by decide) rfl (fun ls hl => ?_)
      refine lv_bipush (v := (-77)) hx hb dL_chapters_7 (by decide) ?_
      rw [← Option.some.inj hr]
      exact fin_ic (w := 1) C hV hS (Nat.le_refl _) rfl dL_chapters_9
    have hr := ie b hr
    cases hr
  · rw [hn] at hr
    have hr : (some r) = some res := hr
    rw [← Option.some.inj hr]
    exact fin_ic (w := 1) C hV hS (Nat.le_refl _) rfl dL_chapters_5
set_option maxHeartbeats 4000000 in
set_option maxRecDepth 100000 in
theorem c_L_chaptersAgain (l : Launch) (hfl : l.stackTraces = false) (G : LG) (b0 : Nat) (V : St) (x1 : Int32) (res : Int32 × St) (hr : f_L_chaptersAgain V x1 = some res) : Met l yL_chaptersAgain (wyH yL_chaptersAgain cL_chaptersAgain 3 (some .int) [(0, 5, 6, 49)]) (rmc 7 1) (va_Pc [.ref (b0 + 0), .int x1] (Iv G b0 V)) (QI G b0 res.1 res.2) 1 (6 * 1) (Ab b0) := by
  refine mk_h (by decide +kernel) (Nat.le_of_ble_eq_true rfl) ?_
  intro p e s m below meth c C ht hV hS ls hl
  obtain ⟨args, hargs⟩ : ∃ z, z = ([.ref (b0 + 0), .int x1] : List Value).toArray := ⟨_, rfl⟩
  rw [← hargs] at C ⊢
  obtain ⟨hx, hb, hrt, hml, hown, hts, hlocks, hK, hSv⟩ := id C
  have hl : lv_has ls 3 [(0, .ref (b0 + 0)), (1, .int x1)] := hl
  unfold f_L_chaptersAgain at hr
  refine lv_aload_n hx hb dL_chaptersAgain_0 rfl (lv_at hl 0 rfl) ?_
  refine lv_iload_n hx hb dL_chaptersAgain_1 rfl (lv_at hl 1 rfl) ?_
  obtain ⟨q1, e1, hr⟩ := ob hr
  refine xcal_i (As := [.int x1]) (rest := []) C hV hS (c_X9_chaptersAgain l hfl G b0 V x1 q1 e1) (rcv hK hV (kd_lt z_0 (by decide)) (cel_0 z_0) rfl) q_1401 q_1402 q_1403 q_93 q_1404 dk_X9_chaptersAgain (rmx_ok3 (by decide) (by decide)) hl.1 rfl (Nat.le_of_ble_eq_true rfl) dL_chaptersAgain_2 ⟨Nat.le_refl _, Nat.le_refl _⟩ (fun n E ce q9 H locs hn hE hV hS h1 h2 h3 => ?_) (fun r H locs hn hV hS => ?_)
  · rw [hn] at hr
    have hr : (if n = 1 then some ((-77), q1.2) else none) = some res := hr
    by_cases b : n = 1
    · subst b
      have hr := it rfl hr
      obtain rfl : "java/lang/IndexOutOfBoundsException" = E := Option.some.inj hE
      refine vx_catch hown [] ⟨0, 5, 6, 49⟩ [] ht (fun _ h => nomatch h) (by decide) (by decide) (hts _ q_383) (va_Nw.use rfl (hK.2.1 _ q_472)) h1 h2 h3 ?_
      refine lv_astore_n (lv' := [(2, .ref q9), (0, .ref (b0 + 0)), (1, .int x1)]) hx hb dL_chaptersAgain_6 rfl hl (by decide) rfl (fun ls hl => ?_)
      refine lv_bipush (v := (-77)) hx hb dL_chaptersAgain_7 (by decide) ?_
      rw [← Option.some.inj hr]
      exact fin_ic (w := 1) C hV hS (Nat.le_refl _) rfl dL_chaptersAgain_9
    have hr := ie b hr
    cases hr
  · rw [hn] at hr
    have hr : (some (r, q1.2)) = some res := hr
    rw [← Option.some.inj hr]
    exact fin_ic (w := 1) C hV hS (Nat.le_refl _) rfl dL_chaptersAgain_5
set_option maxHeartbeats 4000000 in
set_option maxRecDepth 100000 in
theorem c_L_chapterOf (l : Launch) (hfl : l.stackTraces = false) (G : LG) (b0 : Nat) (V : St) (x1 : Int32) (x2 : Int32) (x3 : Int32) (res : Int32) (hr : f_L_chapterOf V x1 x2 x3 = some res) : Met l yL_chapterOf (wyH yL_chapterOf cL_chapterOf 5 (some .int) [(0, 7, 8, 49), (0, 7, 13, 60), (0, 7, 18, 55)]) (rmc 7 1) (va_Pc [.ref (b0 + 0), .int x1, .int x2, .int x3] (Iv G b0 V)) (QI G b0 res V) 1 (6 * 1) (Ab b0) := by
  refine mk_h (by decide +kernel) (Nat.le_of_ble_eq_true rfl) ?_
  intro p e s m below meth c C ht hV hS ls hl
  obtain ⟨args, hargs⟩ : ∃ z, z = ([.ref (b0 + 0), .int x1, .int x2, .int x3] : List Value).toArray := ⟨_, rfl⟩
  rw [← hargs] at C ⊢
  obtain ⟨hx, hb, hrt, hml, hown, hts, hlocks, hK, hSv⟩ := id C
  have hl : lv_has ls 5 [(0, .ref (b0 + 0)), (1, .int x1), (2, .int x2), (3, .int x3)] := hl
  unfold f_L_chapterOf at hr
  refine lv_aload_n hx hb dL_chapterOf_0 rfl (lv_at hl 0 rfl) ?_
  refine lv_iload_n hx hb dL_chapterOf_1 rfl (lv_at hl 1 rfl) ?_
  refine lv_iload_n hx hb dL_chapterOf_2 rfl (lv_at hl 2 rfl) ?_
  refine lv_iload_n hx hb dL_chapterOf_3 rfl (lv_at hl 3 rfl) ?_
  obtain ⟨q1, e1, hr⟩ := ob hr
  refine xcal_i (As := [.int x1, .int x2, .int x3]) (rest := []) C hV hS (c_X9_chapterOf l hfl G b0 V x1 x2 x3 q1 e1) (rcv hK hV (kd_lt z_0 (by decide)) (cel_0 z_0) rfl) q_1346 q_1347 q_1348 q_93 q_1349 dk_X9_chapterOf (rmx_ok3 (by decide) (by decide)) hl.1 rfl (Nat.le_of_ble_eq_true rfl) dL_chapterOf_4 ⟨Nat.le_refl _, Nat.le_refl _⟩ (fun n E ce q9 H locs hn hE hV hS h1 h2 h3 => ?_) (fun r H locs hn hV hS => ?_)
  · rw [hn] at hr
    have hr : (if n = 1 then some (-77) else if n = 3 then some (-78) else if n = 2 then some (-75) else none) = some res := hr
    by_cases b : n = 1
    · subst b
      have hr := it rfl hr
      obtain rfl : "java/lang/IndexOutOfBoundsException" = E := Option.some.inj hE
      refine vx_catch hown [] ⟨0, 7, 8, 49⟩ [⟨0, 7, 13, 60⟩, ⟨0, 7, 18, 55⟩] ht (fun _ h => nomatch h) (by decide) (by decide) (hts _ q_383) (va_Nw.use rfl (hK.2.1 _ q_472)) h1 h2 h3 ?_
      refine lv_astore (lv' := [(4, .ref q9), (0, .ref (b0 + 0)), (1, .int x1), (2, .int x2), (3, .int x3)]) hx hb dL_chapterOf_8 hl (by decide) rfl (fun ls hl => ?_)
      refine lv_bipush (v := (-77)) hx hb dL_chapterOf_10 (by decide) ?_
      rw [← Option.some.inj hr]
      exact fin_ic (w := 1) C hV hS (Nat.le_refl _) rfl dL_chapterOf_12
    have hr := ie b hr
    by_cases b : n = 3
    · subst b
      have hr := it rfl hr
      obtain rfl : "java/lang/IllegalArgumentException" = E := Option.some.inj hE
      refine vx_catch hown [⟨0, 7, 8, 49⟩] ⟨0, 7, 13, 60⟩ [⟨0, 7, 18, 55⟩] ht (List.forall_mem_cons.mpr ⟨Or.inr ⟨by decide, "java/lang/IndexOutOfBoundsException", hts _ q_383, hK.2.2.2 ("java/lang/IllegalArgumentException", "java/lang/IndexOutOfBoundsException") (by decide)⟩, fun _ h => nomatch h⟩) (by decide) (by decide) (hts _ q_525) (va_Nw.use rfl (hK.2.1 _ q_583)) h1 h2 h3 ?_
      refine lv_astore (lv' := [(4, .ref q9), (0, .ref (b0 + 0)), (1, .int x1), (2, .int x2), (3, .int x3)]) hx hb dL_chapterOf_13 hl (by decide) rfl (fun ls hl => ?_)
      refine lv_bipush (v := (-78)) hx hb dL_chapterOf_15 (by decide) ?_
      rw [← Option.some.inj hr]
      exact fin_ic (w := 1) C hV hS (Nat.le_refl _) rfl dL_chapterOf_17
    have hr := ie b hr
    by_cases b : n = 2
    · subst b
      have hr := it rfl hr
      obtain rfl : "java/util/NoSuchElementException" = E := Option.some.inj hE
      refine vx_catch hown [⟨0, 7, 8, 49⟩, ⟨0, 7, 13, 60⟩] ⟨0, 7, 18, 55⟩ [] ht (List.forall_mem_cons.mpr ⟨Or.inr ⟨by decide, "java/lang/IndexOutOfBoundsException", hts _ q_383, hK.2.2.2 ("java/util/NoSuchElementException", "java/lang/IndexOutOfBoundsException") (by decide)⟩, List.forall_mem_cons.mpr ⟨Or.inr ⟨by decide, "java/lang/IllegalArgumentException", hts _ q_525, hK.2.2.2 ("java/util/NoSuchElementException", "java/lang/IllegalArgumentException") (by decide)⟩, fun _ h => nomatch h⟩⟩) (by decide) (by decide) (hts _ q_1268) (va_Nw.use rfl (hK.2.1 _ q_1275)) h1 h2 h3 ?_
      refine lv_astore (lv' := [(4, .ref q9), (0, .ref (b0 + 0)), (1, .int x1), (2, .int x2), (3, .int x3)]) hx hb dL_chapterOf_18 hl (by decide) rfl (fun ls hl => ?_)
      refine lv_bipush (v := (-75)) hx hb dL_chapterOf_20 (by decide) ?_
      rw [← Option.some.inj hr]
      exact fin_ic (w := 1) C hV hS (Nat.le_refl _) rfl dL_chapterOf_22
    have hr := ie b hr
    cases hr
  · rw [hn] at hr
    have hr : (some r) = some res := hr
    rw [← Option.some.inj hr]
    exact fin_ic (w := 1) C hV hS (Nat.le_refl _) rfl dL_chapterOf_7
set_option maxHeartbeats 4000000 in
set_option maxRecDepth 100000 in
theorem c_L_noteOf (l : Launch) (hfl : l.stackTraces = false) (G : LG) (b0 : Nat) (V : St) (x1 : Int32) (x2 : Int32) (res : Int32) (hr : f_L_noteOf V x1 x2 = some res) : Met l yL_noteOf (wyH yL_noteOf cL_noteOf 4 (some .int) [(0, 6, 7, 49), (0, 6, 11, 60)]) (rmc 7 1) (va_Pc [.ref (b0 + 0), .int x1, .int x2] (Iv G b0 V)) (QI G b0 res V) 1 (6 * 1) (Ab b0) := by
  refine mk_h (by decide +kernel) (Nat.le_of_ble_eq_true rfl) ?_
  intro p e s m below meth c C ht hV hS ls hl
  obtain ⟨args, hargs⟩ : ∃ z, z = ([.ref (b0 + 0), .int x1, .int x2] : List Value).toArray := ⟨_, rfl⟩
  rw [← hargs] at C ⊢
  obtain ⟨hx, hb, hrt, hml, hown, hts, hlocks, hK, hSv⟩ := id C
  have hl : lv_has ls 4 [(0, .ref (b0 + 0)), (1, .int x1), (2, .int x2)] := hl
  unfold f_L_noteOf at hr
  refine lv_aload_n hx hb dL_noteOf_0 rfl (lv_at hl 0 rfl) ?_
  refine lv_iload_n hx hb dL_noteOf_1 rfl (lv_at hl 1 rfl) ?_
  refine lv_iload_n hx hb dL_noteOf_2 rfl (lv_at hl 2 rfl) ?_
  obtain ⟨q1, e1, hr⟩ := ob hr
  refine xcal_i (As := [.int x1, .int x2]) (rest := []) C hV hS (c_X9_noteOf l hfl G b0 V x1 x2 q1 e1) (rcv hK hV (kd_lt z_0 (by decide)) (cel_0 z_0) rfl) q_1293 q_1294 q_1295 q_93 q_1296 dk_X9_noteOf (rmx_ok3 (by decide) (by decide)) hl.1 rfl (Nat.le_of_ble_eq_true rfl) dL_noteOf_3 ⟨Nat.le_refl _, Nat.le_refl _⟩ (fun n E ce q9 H locs hn hE hV hS h1 h2 h3 => ?_) (fun r H locs hn hV hS => ?_)
  · rw [hn] at hr
    have hr : (if n = 1 then some (-77) else if n = 3 then some (-78) else none) = some res := hr
    by_cases b : n = 1
    · subst b
      have hr := it rfl hr
      obtain rfl : "java/lang/IndexOutOfBoundsException" = E := Option.some.inj hE
      refine vx_catch hown [] ⟨0, 6, 7, 49⟩ [⟨0, 6, 11, 60⟩] ht (fun _ h => nomatch h) (by decide) (by decide) (hts _ q_383) (va_Nw.use rfl (hK.2.1 _ q_472)) h1 h2 h3 ?_
      refine lv_astore_n (lv' := [(3, .ref q9), (0, .ref (b0 + 0)), (1, .int x1), (2, .int x2)]) hx hb dL_noteOf_7 rfl hl (by decide) rfl (fun ls hl => ?_)
      refine lv_bipush (v := (-77)) hx hb dL_noteOf_8 (by decide) ?_
      rw [← Option.some.inj hr]
      exact fin_ic (w := 1) C hV hS (Nat.le_refl _) rfl dL_noteOf_10
    have hr := ie b hr
    by_cases b : n = 3
    · subst b
      have hr := it rfl hr
      obtain rfl : "java/lang/IllegalArgumentException" = E := Option.some.inj hE
      refine vx_catch hown [⟨0, 6, 7, 49⟩] ⟨0, 6, 11, 60⟩ [] ht (List.forall_mem_cons.mpr ⟨Or.inr ⟨by decide, "java/lang/IndexOutOfBoundsException", hts _ q_383, hK.2.2.2 ("java/lang/IllegalArgumentException", "java/lang/IndexOutOfBoundsException") (by decide)⟩, fun _ h => nomatch h⟩) (by decide) (by decide) (hts _ q_525) (va_Nw.use rfl (hK.2.1 _ q_583)) h1 h2 h3 ?_
      refine lv_astore_n (lv' := [(3, .ref q9), (0, .ref (b0 + 0)), (1, .int x1), (2, .int x2)]) hx hb dL_noteOf_11 rfl hl (by decide) rfl (fun ls hl => ?_)
      refine lv_bipush (v := (-78)) hx hb dL_noteOf_12 (by decide) ?_
      rw [← Option.some.inj hr]
      exact fin_ic (w := 1) C hV hS (Nat.le_refl _) rfl dL_noteOf_14
    have hr := ie b hr
    cases hr
  · rw [hn] at hr
    have hr : (some r) = some res := hr
    rw [← Option.some.inj hr]
    exact fin_ic (w := 1) C hV hS (Nat.le_refl _) rfl dL_noteOf_6
