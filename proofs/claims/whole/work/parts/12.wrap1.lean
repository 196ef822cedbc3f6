def f_L_knot (V : St) (x1 : Int32) (x2 : Int32) (x3 : Int32) : Option (Int32 × St) :=
  (f_X9_knot V x1 x2 x3).bind fun q1 =>
  exm q1.1 (fun r => some (0, up q1.2 216 0 r)) (fun n => if n = 0 then some (1, q1.2) else none)
def f_L_tear (V : St) (x1 : Int32) (x2 : Int32) (x3 : Int32) : Option (Int32 × St) :=
  (f_X9_tear V x1 x2 x3).bind fun q1 =>
  exm q1.1 (fun r => some (0, up q1.2 216 0 r)) (fun n => if n = 0 then some (1, q1.2) else none)
def f_L_mend (V : St) (x1 : Int32) (x2 : Int32) (x3 : Int32) (x4 : Int32) : Option (Int32 × St) :=
  (f_X9_mend V x1 x2 x3 x4).bind fun q1 =>
  exm q1.1 (fun r => some (0, up q1.2 216 0 r)) (fun n => if n = 0 then some (1, q1.2) else none)
def f_L_editor (V : St) (x1 : Int32) : Option (Int32 × St) :=
  (f_X9_editor V x1).bind fun q1 =>
  exm q1.1 (fun r => some (0, up q1.2 216 0 r)) (fun n => if n = 0 then some (1, q1.2) else none)
def f_L_tide (V : St) (x1 : Int32) : Option (Int32 × St) :=
  (f_X9_tide V x1).bind fun q1 =>
  exm q1.1 (fun r => some (0, up q1.2 216 0 r)) (fun n => if n = 0 then some (1, q1.2) else none)
def f_L_sink (V : St) (x1 : Int32) (x2 : Int32) : Option (Int32 × St) :=
  (f_X9_sink V x1 x2).bind fun q1 =>
  exm q1.1 (fun r => some (0, up q1.2 216 0 r)) (fun n => if n = 0 then some (1, q1.2) else none)
def f_L_note (V : St) (x1 : Int32) (x2 : Int32) : Option (Int32 × St) :=
  (f_X9_note V x1 x2).bind fun q1 =>
  exm q1.1 (fun r => some (0, up q1.2 216 0 r)) (fun n => if n = 0 then some (1, q1.2) else none)
def f_L_drop (V : St) (x1 : Int32) : Option (Int32 × St) :=
  (f_X9_drop V x1).bind fun q1 =>
  exm q1.1 (fun r => some (0, up q1.2 216 0 r)) (fun n => if n = 0 then some (1, q1.2) else none)
def f_L_kindOf (V : St) (x1 : Int32) (x2 : Int32) : Option (Int32 × St) :=
  (f_X9_kindOf V x1 x2).bind fun q1 =>
  exm q1 (fun r => some (0, up V 216 0 r)) (fun n => if n = 1 then some (1, V) else none)
def f_L_isTorn (V : St) (x1 : Int32) (x2 : Int32) (x3 : Int32) : Option (Int32 × St) :=
  (f_X9_isTorn V x1 x2 x3).bind fun q1 =>
  exm q1 (fun r => if r = 0 then some (0, up V 216 0 0) else some (0, up V 216 0 1)) (fun n => if n = 1 then some (1, V) else if n = 2 then some (2, V) else none)
def f_L_netOf (V : St) (x1 : Int32) (x2 : Int32) : Option (Int32 × St) :=
  (f_X9_netOf V x1 x2).bind fun q1 =>
  exm q1 (fun r => some (0, up V 216 0 r)) (fun n => if n = 1 then some (1, V) else if n = 3 then some (2, V) else none)
def f_L_chapters (V : St) (x1 : Int32) : Option (Int32 × St) :=
  (f_X9_chapters V x1).bind fun q1 =>
  exm q1 (fun r => some (0, up V 216 0 r)) (fun n => if n = 1 then some (1, V) else none)
def f_L_chaptersAgain (V : St) (x1 : Int32) : Option (Int32 × St) :=
  (f_X9_chaptersAgain V x1).bind fun q1 =>
  exm q1.1 (fun r => some (0, up q1.2 216 0 r)) (fun n => if n = 1 then some (1, q1.2) else none)
def f_L_chapterOf (V : St) (x1 : Int32) (x2 : Int32) (x3 : Int32) : Option (Int32 × St) :=
  (f_X9_chapterOf V x1 x2 x3).bind fun q1 =>
  exm q1 (fun r => some (0, up V 216 0 r)) (fun n => if n = 1 then some (1, V) else if n = 3 then some (2, V) else if n = 2 then some (3, V) else none)
def f_L_noteOf (V : St) (x1 : Int32) (x2 : Int32) : Option (Int32 × St) :=
  (f_X9_noteOf V x1 x2).bind fun q1 =>
  exm q1 (fun r => some (0, up V 216 0 r)) (fun n => if n = 1 then some (1, V) else if n = 3 then some (2, V) else none)
def f_L_least (V : St) (x1 : Int32) : Option (Int32 × St) :=
  (f_X9_least V x1).bind fun q1 =>
  exm q1.1 (fun r => some (0, up q1.2 216 0 r)) (fun n => if n = 1 then some (1, q1.2) else if n = 2 then some (2, q1.2) else none)
def f_L_leastAgain (V : St) (x1 : Int32) : Option (Int32 × St) :=
  (f_X9_leastAgain V x1).bind fun q1 =>
  exm q1 (fun r => some (0, up V 216 0 r)) (fun n => if n = 1 then some (1, V) else if n = 2 then some (2, V) else none)
def f_L_bestMend (V : St) (x1 : Int32) (x2 : Int32) : Option (Int32 × St) :=
  (f_X9_bestMend V x1 x2).bind fun q1 =>
  exm q1 (fun r => some (0, up V 216 0 r)) (fun n => if n = 1 then some (1, V) else if n = 2 then some (2, V) else none)
def f_L_ranked (V : St) (x1 : Int32) (x2 : Int32) : Option (Int32 × St) :=
  (f_X9_ranked V x1 x2).bind fun q1 =>
  exm q1 (fun r => some (0, up V 216 0 r)) (fun n => if n = 1 then some (1, V) else if n = 2 then some (2, V) else none)
def f_L_editorOf (V : St) (x1 : Int32) (x2 : Int32) : Option (Int32 × St) :=
  (f_X9_editorOf V x1 x2).bind fun q1 =>
  exm q1 (fun r => some (0, up V 216 0 r)) (fun n => if n = 1 then some (1, V) else if n = 3 then some (2, V) else none)
def f_L_feed (V : St) (x1 : Int32) : Option (Int32 × St) :=
  (f_X9_feed V x1).bind fun q1 =>
  exm q1.1 (fun r => some (0, up q1.2 216 0 r)) (fun n => if n = 4 then some (1, q1.2) else none)
def f_L_run (V : St) : Option (Int32 × St) :=
  (f_X9_run V).bind fun q1 =>
  exm q1.1 (fun r => some (0, up q1.2 216 0 r)) (fun n => if n = 3 then some (1, q1.2) else if n = 0 then some (2, q1.2) else none)
def f_L_faultPosition (V : St) : Option (Int32 × St) :=
  (f_X9_faultPosition V).bind fun q1 =>
  exm q1 (fun r => some (0, up V 216 0 r)) (fun n => if n = 2 then some (1, V) else none)
def f_L_reason (V : St) (x1 : Int32) (x2 : Int32) : Option (Int32 × St) :=
  (f_X9_reason V x1 x2).bind fun q1 =>
  exm q1 (fun r => some (0, up V 216 0 r)) (fun n => if n = 2 then some (1, V) else none)
def f_L_line (V : St) (x1 : Int32) (x2 : Int32) : Option (Int32 × St) :=
  (f_X9_line V x1 x2).bind fun q1 =>
  exm q1.1 (fun r => some (0, up q1.2 216 0 r)) (fun n => if n = 1 then some (1, q1.2) else none)
def f_L_chapterLine (V : St) (x1 : Int32) (x2 : Int32) : Option (Int32 × St) :=
  (f_X9_chapterLine V x1 x2).bind fun q1 =>
  exm q1.1 (fun r => some (0, up q1.2 216 0 r)) (fun n => if n = 1 then some (1, q1.2) else if n = 2 then some (2, q1.2) else none)
def f_L_noteLine (V : St) (x1 : Int32) : Option (Int32 × St) :=
  (f_X9_noteLine V x1).bind fun q1 =>
  exm q1.1 (fun r => some (0, up q1.2 216 0 r)) (fun n => if n = 1 then some (1, q1.2) else none)
def f_L_character (V : St) (x1 : Int32) : Option (Int32 × St) :=
  (f_X9_character V x1).bind fun q1 =>
  exm q1 (fun r => some (0, up V 216 0 r)) (fun n => if n = 1 then some (1, V) else none)
def f_L_meanKnots (V : St) : Option (Int32 × St) :=
  (f_X9_meanKnots V).bind fun q1 =>
  exm q1 (fun r => some (0, up (up V 217 0 (dlo r)) 217 1 (dhi r))) (fun n => if n = 5 then some (1, V) else none)
def f_L_readShare (V : St) : Option (Int32 × St) :=
  (f_X9_readShare V).bind fun q1 =>
  exm q1 (fun r => (fdv r).bind fun q2 => some (0, up (up V 217 0 (dlo q2)) 217 1 (dhi q2))) (fun n => if n = 5 then some (1, V) else none)
def f_L_account (V : St) (x1 : Int32) : Option (Int32 × St) :=
  (f_X9_account V x1).bind fun q1 =>
  exm q1 (fun r => some (0, up V 216 0 r)) (fun n => if n = 3 then some (1, V) else none)
def f_L_undo (V : St) : Option (Int32 × St) :=
  (f_X9_undo V).bind fun q1 =>
  exm q1.1 (fun r => some (0, up q1.2 216 0 r)) (fun n => if n = 4 then some (1, q1.2) else none)
def f_L_restore (V : St) : Option (Int32 × St) :=
  (f_X9_restore V).bind fun q1 =>
  exm q1.1 (fun r => some (0, up q1.2 216 0 r)) (fun n => if n = 4 then some (1, q1.2) else none)
theorem dk_L_knot : dOk yL_knot 5 := ⟨by decide +kernel, by decide +kernel, by decide +kernel⟩
set_option maxHeartbeats 4000000 in
set_option maxRecDepth 100000 in
theorem c_L_knot (l : Launch) (hfl : l.stackTraces = false) (G : LG) (b0 : Nat) (V : St) (x1 : Int32) (x2 : Int32) (x3 : Int32) (res : Int32 × St) (hr : f_L_knot V x1 x2 x3 = some res) : Met l yL_knot (wyH yL_knot cL_knot 6 (some .int) [(0, 12, 15, 13)]) (rmx 7) (va_Pc [.ref (b0 + 0), .int x1, .int x2, .int x3, .ref (b0 + 216)] (Iv G b0 V)) (QI G b0 res.1 res.2) 1 6 (Ab b0) := by
  refine mk_h (by decide +kernel) (Nat.le_of_ble_eq_true rfl) ?_
  intro p e s m below meth c C ht hV hS ls hl
  obtain ⟨args, hargs⟩ : ∃ z, z = ([.ref (b0 + 0), .int x1, .int x2, .int x3, .ref (b0 + 216)] : List Value).toArray := ⟨_, rfl⟩
  rw [← hargs] at C ⊢
  obtain ⟨hx, hb, hrt, hml, hown, hts, hlocks, hK, hSv⟩ := id C
  have hl : lv_has ls 6 [(0, .ref (b0 + 0)), (1, .int x1), (2, .int x2), (3, .int x3), (4, .ref (b0 + 216))] := hl
  unfold f_L_knot at hr
  refine lv_aload hx hb dL_knot_0 (lv_at hl 4 rfl) ?_
  refine lv_iconst (v := 0) hx hb dL_knot_2 (by decide) ?_
  refine lv_aload_n hx hb dL_knot_3 rfl (lv_at hl 0 rfl) ?_
  refine lv_iload_n hx hb dL_knot_4 rfl (lv_at hl 1 rfl) ?_
  refine lv_iload_n hx hb dL_knot_5 rfl (lv_at hl 2 rfl) ?_
  refine lv_iload_n hx hb dL_knot_6 rfl (lv_at hl 3 rfl) ?_
  obtain ⟨q1, e1, hr⟩ := ob hr
  refine xcal_i (As := [.int x1, .int x2, .int x3]) (rest := [.int 0, .ref (b0 + 216)]) C hV hS (c_X9_knot l hfl G b0 V x1 x2 x3 q1 e1) (rcv hK hV (kd_lt z_0 (by decide)) (cel_0 z_0) rfl) q_571 q_572 q_573 q_141 q_574 dk_X9_knot (rmx_ok2 (by decide) (by decide)) hl.1 rfl (Nat.le_of_ble_eq_true rfl) dL_knot_7 ⟨Nat.le_refl _, Nat.le_refl _⟩ (fun n E ce q9 H locs hn hE hV hS h1 h2 h3 => ?_) (fun r H locs hn hV hS => ?_)
  · rw [hn] at hr
    have hr : (if n = 0 then some (1, q1.2) else none) = some res := hr
    by_cases b : n = 0
    · subst b
      have hr := it rfl hr
      obtain rfl : "java/lang/UnsupportedOperationException" = E := Option.some.inj hE
      refine vx_catch hown [] ⟨0, 12, 15, 13⟩ [] ht (fun _ h => nomatch h) (by decide) (by decide) (hts _ q_570) (va_Nw.use rfl (hK.2.1 _ q_601)) h1 h2 h3 ?_
      refine lv_astore (lv' := [(5, .ref q9), (0, .ref (b0 + 0)), (1, .int x1), (2, .int x2), (3, .int x3), (4, .ref (b0 + 216))]) hx hb dL_knot_15 hl (by decide) rfl (fun ls hl => ?_)
      refine lv_iconst (v := 1) hx hb dL_knot_17 (by decide) ?_
      rw [← Option.some.inj hr]
      exact fin_h C hV hS rfl dL_knot_18
    have hr := ie b hr
    cases hr
  · rw [hn] at hr
    have hr : (some (0, up q1.2 216 0 r)) = some res := hr
    refine lv_i2l (v := r.toInt64) hx hb dL_knot_10 rfl ?_
    refine s_28 (x := r) C hV hS dL_knot_11 (fun H locs hV hS => ?_)
    refine lv_goto (tgt := 19) hx hb dL_knot_12 (by decide) ?_
    refine lv_iconst (v := 0) hx hb dL_knot_19 (by decide) ?_
    rw [← Option.some.inj hr]
    exact fin_h C hV hS rfl dL_knot_20
theorem dk_L_tear : dOk yL_tear 5 := ⟨by decide +kernel, by decide +kernel, by decide +kernel⟩
set_option maxHeartbeats 4000000 in
set_option maxRecDepth 100000 in
theorem c_L_tear (l : Launch) (hfl : l.stackTraces = false) (G : LG) (b0 : Nat) (V : St) (x1 : Int32) (x2 : Int32) (x3 : Int32) (res : Int32 × St) (hr : f_L_tear V x1 x2 x3 = some res) : Met l yL_tear (wyH yL_tear cL_tear 6 (some .int) [(0, 12, 15, 13)]) (rmx 7) (va_Pc [.ref (b0 + 0), .int x1, .int x2, .int x3, .ref (b0 + 216)] (Iv G b0 V)) (QI G b0 res.1 res.2) 1 6 (Ab b0) := by
  refine mk_h (by decide +kernel) (Nat.le_of_ble_eq_true rfl) ?_
  intro p e s m below meth c C ht hV hS ls hl
  obtain ⟨args, hargs⟩ : ∃ z, z = ([.ref (b0 + 0), .int x1, .int x2, .int x3, .ref (b0 + 216)] : List Value).toArray := ⟨_, rfl⟩
  rw [← hargs] at C ⊢
  obtain ⟨hx, hb, hrt, hml, hown, hts, hlocks, hK, hSv⟩ := id C
  have hl : lv_has ls 6 [(0, .ref (b0 + 0)), (1, .int x1), (2, .int x2), (3, .int x3), (4, .ref (b0 + 216))] := hl
  unfold f_L_tear at hr
  refine lv_aload hx hb dL_tear_0 (lv_at hl 4 rfl) ?_
  refine lv_iconst (v := 0) hx hb dL_tear_2 (by decide) ?_
  refine lv_aload_n hx hb dL_tear_3 rfl (lv_at hl 0 rfl) ?_
  refine lv_iload_n hx hb dL_tear_4 rfl (lv_at hl 1 rfl) ?_
  refine lv_iload_n hx hb dL_tear_5 rfl (lv_at hl 2 rfl) ?_
  refine lv_iload_n hx hb dL_tear_6 rfl (lv_at hl 3 rfl) ?_
  obtain ⟨q1, e1, hr⟩ := ob hr
  refine xcal_i (As := [.int x1, .int x2, .int x3]) (rest := [.int 0, .ref (b0 + 216)]) C hV hS (c_X9_tear l hfl G b0 V x1 x2 x3 q1 e1) (rcv hK hV (kd_lt z_0 (by decide)) (cel_0 z_0) rfl) q_689 q_690 q_691 q_141 q_692 dk_X9_tear (rmx_ok2 (by decide) (by decide)) hl.1 rfl (Nat.le_of_ble_eq_true rfl) dL_tear_7 ⟨Nat.le_refl _, Nat.le_refl _⟩ (fun n E ce q9 H locs hn hE hV hS h1 h2 h3 => ?_) (fun r H locs hn hV hS => ?_)
  · rw [hn] at hr
    have hr : (if n = 0 then some (1, q1.2) else none) = some res := hr
    by_cases b : n = 0
    · subst b
      have hr := it rfl hr
      obtain rfl : "java/lang/UnsupportedOperationException" = E := Option.some.inj hE
      refine vx_catch hown [] ⟨0, 12, 15, 13⟩ [] ht (fun _ h => nomatch h) (by decide) (by decide) (hts _ q_570) (va_Nw.use rfl (hK.2.1 _ q_601)) h1 h2 h3 ?_
      refine lv_astore (lv' := [(5, .ref q9), (0, .ref (b0 + 0)), (1, .int x1), (2, .int x2), (3, .int x3), (4, .ref (b0 + 216))]) hx hb dL_tear_15 hl (by decide) rfl (fun ls hl => ?_)
      refine lv_iconst (v := 1) hx hb dL_tear_17 (by decide) ?_
      rw [← Option.some.inj hr]
      exact fin_h C hV hS rfl dL_tear_18
    have hr := ie b hr
    cases hr
  · rw [hn] at hr
    have hr : (some (0, up q1.2 216 0 r)) = some res := hr
    refine lv_i2l (v := r.toInt64) hx hb dL_tear_10 rfl ?_
    refine s_28 (x := r) C hV hS dL_tear_11 (fun H locs hV hS => ?_)
    refine lv_goto (tgt := 19) hx hb dL_tear_12 (by decide) ?_
    refine lv_iconst (v := 0) hx hb dL_tear_19 (by decide) ?_
    rw [← Option.some.inj hr]
    exact fin_h C hV hS rfl dL_tear_20
theorem dk_L_mend : dOk yL_mend 6 := ⟨by decide +kernel, by decide +kernel, by decide +kernel⟩
set_option maxHeartbeats 4000000 in
set_option maxRecDepth 100000 in
theorem c_L_mend (l : Launch) (hfl : l.stackTraces = false) (G : LG) (b0 : Nat) (V : St) (x1 : Int32) (x2 : Int32) (x3 : Int32) (x4 : Int32) (res : Int32 × St) (hr : f_L_mend V x1 x2 x3 x4 = some res) : Met l yL_mend (wyH yL_mend cL_mend 7 (some .int) [(0, 14, 17, 13)]) (rmx 7) (va_Pc [.ref (b0 + 0), .int x1, .int x2, .int x3, .int x4, .ref (b0 + 216)] (Iv G b0 V)) (QI G b0 res.1 res.2) 1 6 (Ab b0) := by
  refine mk_h (by decide +kernel) (Nat.le_of_ble_eq_true rfl) ?_
  intro p e s m below meth c C ht hV hS ls hl
  obtain ⟨args, hargs⟩ : ∃ z, z = ([.ref (b0 + 0), .int x1, .int x2, .int x3, .int x4, .ref (b0 + 216)] : List Value).toArray := ⟨_, rfl⟩
  rw [← hargs] at C ⊢
  obtain ⟨hx, hb, hrt, hml, hown, hts, hlocks, hK, hSv⟩ := id C
  have hl : lv_has ls 7 [(0, .ref (b0 + 0)), (1, .int x1), (2, .int x2), (3, .int x3), (4, .int x4), (5, .ref (b0 + 216))] := hl
  unfold f_L_mend at hr
  refine lv_aload hx hb dL_mend_0 (lv_at hl 5 rfl) ?_
  refine lv_iconst (v := 0) hx hb dL_mend_2 (by decide) ?_
  refine lv_aload_n hx hb dL_mend_3 rfl (lv_at hl 0 rfl) ?_
  refine lv_iload_n hx hb dL_mend_4 rfl (lv_at hl 1 rfl) ?_
  refine lv_iload_n hx hb dL_mend_5 rfl (lv_at hl 2 rfl) ?_
  refine lv_iload_n hx hb dL_mend_6 rfl (lv_at hl 3 rfl) ?_
  refine lv_iload hx hb dL_mend_7 (lv_at hl 4 rfl) ?_
  obtain ⟨q1, e1, hr⟩ := ob hr
  refine xcal_i (As := [.int x1, .int x2, .int x3, .int x4]) (rest := [.int 0, .ref (b0 + 216)]) C hV hS (c_X9_mend l hfl G b0 V x1 x2 x3 x4 q1 e1) (rcv hK hV (kd_lt z_0 (by decide)) (cel_0 z_0) rfl) q_737 q_738 q_739 q_141 q_740 dk_X9_mend (rmx_ok2 (by decide) (by decide)) hl.1 rfl (Nat.le_of_ble_eq_true rfl) dL_mend_9 ⟨Nat.le_refl _, Nat.le_refl _⟩ (fun n E ce q9 H locs hn hE hV hS h1 h2 h3 => ?_) (fun r H locs hn hV hS => ?_)
  · rw [hn] at hr
    have hr : (if n = 0 then some (1, q1.2) else none) = some res := hr
    by_cases b : n = 0
    · subst b
      have hr := it rfl hr
      obtain rfl : "java/lang/UnsupportedOperationException" = E := Option.some.inj hE
      refine vx_catch hown [] ⟨0, 14, 17, 13⟩ [] ht (fun _ h => nomatch h) (by decide) (by decide) (hts _ q_570) (va_Nw.use rfl (hK.2.1 _ q_601)) h1 h2 h3 ?_
      refine lv_astore (lv' := [(6, .ref q9), (0, .ref (b0 + 0)), (1, .int x1), (2, .int x2), (3, .int x3), (4, .int x4), (5, .ref (b0 + 216))]) hx hb dL_mend_17 hl (by decide) rfl (fun ls hl => ?_)
      refine lv_iconst (v := 1) hx hb dL_mend_19 (by decide) ?_
      rw [← Option.some.inj hr]
      exact fin_h C hV hS rfl dL_mend_20
    have hr := ie b hr
    cases hr
  · rw [hn] at hr
    have hr : (some (0, up q1.2 216 0 r)) = some res := hr
    refine lv_i2l (v := r.toInt64) hx hb dL_mend_12 rfl ?_
    refine s_28 (x := r) C hV hS dL_mend_13 (fun H locs hV hS => ?_)
    refine lv_goto (tgt := 21) hx hb dL_mend_14 (by decide) ?_
    refine lv_iconst (v := 0) hx hb dL_mend_21 (by decide) ?_
    rw [← Option.some.inj hr]
    exact fin_h C hV hS rfl dL_mend_22
theorem dk_L_editor : dOk yL_editor 3 := ⟨by decide +kernel, by decide +kernel, by decide +kernel⟩
set_option maxHeartbeats 4000000 in
set_option maxRecDepth 100000 in
theorem c_L_editor (l : Launch) (hfl : l.stackTraces = false) (G : LG) (b0 : Nat) (V : St) (x1 : Int32) (res : Int32 × St) (hr : f_L_editor V x1 = some res) : Met l yL_editor (wyH yL_editor cL_editor 4 (some .int) [(0, 9, 12, 13)]) (rmx 7) (va_Pc [.ref (b0 + 0), .int x1, .ref (b0 + 216)] (Iv G b0 V)) (QI G b0 res.1 res.2) 1 6 (Ab b0) := by
  refine mk_h (by decide +kernel) (Nat.le_of_ble_eq_true rfl) ?_
  intro p e s m below meth c C ht hV hS ls hl
  obtain ⟨args, hargs⟩ : ∃ z, z = ([.ref (b0 + 0), .int x1, .ref (b0 + 216)] : List Value).toArray := ⟨_, rfl⟩
  rw [← hargs] at C ⊢
  obtain ⟨hx, hb, hrt, hml, hown, hts, hlocks, hK, hSv⟩ := id C
  have hl : lv_has ls 4 [(0, .ref (b0 + 0)), (1, .int x1), (2, .ref (b0 + 216))] := hl
  unfold f_L_editor at hr
  refine lv_aload_n hx hb dL_editor_0 rfl (lv_at hl 2 rfl) ?_
  refine lv_iconst (v := 0) hx hb dL_editor_1 (by decide) ?_
  refine lv_aload_n hx hb dL_editor_2 rfl (lv_at hl 0 rfl) ?_
  refine lv_iload_n hx hb dL_editor_3 rfl (lv_at hl 1 rfl) ?_
  obtain ⟨q1, e1, hr⟩ := ob hr
  refine xcal_i (As := [.int x1]) (rest := [.int 0, .ref (b0 + 216)]) C hV hS (c_X9_editor l hfl G b0 V x1 q1 e1) (rcv hK hV (kd_lt z_0 (by decide)) (cel_0 z_0) rfl) q_767 q_768 q_769 q_141 q_770 dk_X9_editor (rmx_ok2 (by decide) (by decide)) hl.1 rfl (Nat.le_of_ble_eq_true rfl) dL_editor_4 ⟨Nat.le_refl _, Nat.le_refl _⟩ (fun n E ce q9 H locs hn hE hV hS h1 h2 h3 => ?_) (fun r H locs hn hV hS => ?_)
  · rw [hn] at hr
    have hr : (if n = 0 then some (1, q1.2) else none) = some res := hr
    by_cases b : n = 0
    · subst b
      have hr := it rfl hr
      obtain rfl : "java/lang/UnsupportedOperationException" = E := Option.some.inj hE
      refine vx_catch hown [] ⟨0, 9, 12, 13⟩ [] ht (fun _ h => nomatch h) (by decide) (by decide) (hts _ q_570) (va_Nw.use rfl (hK.2.1 _ q_601)) h1 h2 h3 ?_
      refine lv_astore_n (lv' := [(3, .ref q9), (0, .ref (b0 + 0)), (1, .int x1), (2, .ref (b0 + 216))]) hx hb dL_editor_12 rfl hl (by decide) rfl (fun ls hl => ?_)
      refine lv_iconst (v := 1) hx hb dL_editor_13 (by decide) ?_
      rw [← Option.some.inj hr]
      exact fin_h C hV hS rfl dL_editor_14
    have hr := ie b hr
    cases hr
  · rw [hn] at hr
    have hr : (some (0, up q1.2 216 0 r)) = some res := hr
    refine lv_i2l (v := r.toInt64) hx hb dL_editor_7 rfl ?_
    refine s_28 (x := r) C hV hS dL_editor_8 (fun H locs hV hS => ?_)
    refine lv_goto (tgt := 15) hx hb dL_editor_9 (by decide) ?_
    refine lv_iconst (v := 0) hx hb dL_editor_15 (by decide) ?_
    rw [← Option.some.inj hr]
    exact fin_h C hV hS rfl dL_editor_16
theorem dk_L_tide : dOk yL_tide 3 := ⟨by decide +kernel, by decide +kernel, by decide +kernel⟩
set_option maxHeartbeats 4000000 in
set_option maxRecDepth 100000 in
theorem c_L_tide (l : Launch) (hfl : l.stackTraces = false) (G : LG) (b0 : Nat) (V : St) (x1 : Int32) (res : Int32 × St) (hr : f_L_tide V x1 = some res) : Met l yL_tide (wyH yL_tide cL_tide 4 (some .int) [(0, 9, 12, 13)]) (rmx 7) (va_Pc [.ref (b0 + 0), .int x1, .ref (b0 + 216)] (Iv G b0 V)) (QI G b0 res.1 res.2) 1 6 (Ab b0) := by
  refine mk_h (by decide +kernel) (Nat.le_of_ble_eq_true rfl) ?_
  intro p e s m below meth c C ht hV hS ls hl
  obtain ⟨args, hargs⟩ : ∃ z, z = ([.ref (b0 + 0), .int x1, .ref (b0 + 216)] : List Value).toArray := ⟨_, rfl⟩
  rw [← hargs] at C ⊢
  obtain ⟨hx, hb, hrt, hml, hown, hts, hlocks, hK, hSv⟩ := id C
  have hl : lv_has ls 4 [(0, .ref (b0 + 0)), (1, .int x1), (2, .ref (b0 + 216))] := hl
  unfold f_L_tide at hr
  refine lv_aload_n hx hb dL_tide_0 rfl (lv_at hl 2 rfl) ?_
  refine lv_iconst (v := 0) hx hb dL_tide_1 (by decide) ?_
  refine lv_aload_n hx hb dL_tide_2 rfl (lv_at hl 0 rfl) ?_
  refine lv_iload_n hx hb dL_tide_3 rfl (lv_at hl 1 rfl) ?_
  obtain ⟨q1, e1, hr⟩ := ob hr
  refine xcal_i (As := [.int x1]) (rest := [.int 0, .ref (b0 + 216)]) C hV hS (c_X9_tide l hfl G b0 V x1 q1 e1) (rcv hK hV (kd_lt z_0 (by decide)) (cel_0 z_0) rfl) q_783 q_784 q_785 q_141 q_786 dk_X9_tide (rmx_ok2 (by decide) (by decide)) hl.1 rfl (Nat.le_of_ble_eq_true rfl) dL_tide_4 ⟨Nat.le_refl _, Nat.le_refl _⟩ (fun n E ce q9 H locs hn hE hV hS h1 h2 h3 => ?_) (fun r H locs hn hV hS => ?_)
  · rw [hn] at hr
    have hr : (if n = 0 then some (1, q1.2) else none) = some res := hr
    by_cases b : n = 0
    · subst b
      have hr := it rfl hr
      obtain rfl : "java/lang/UnsupportedOperationException" = E := Option.some.inj hE
      refine vx_catch hown [] ⟨0, 9, 12, 13⟩ [] ht (fun _ h => nomatch h) (by decide) (by decide) (hts _ q_570) (va_Nw.use rfl (hK.2.1 _ q_601)) h1 h2 h3 ?_
      refine lv_astore_n (lv' := [(3, .ref q9), (0, .ref (b0 + 0)), (1, .int x1), (2, .ref (b0 + 216))]) hx hb dL_tide_12 rfl hl (by decide) rfl (fun ls hl => ?_)
      refine lv_iconst (v := 1) hx hb dL_tide_13 (by decide) ?_
      rw [← Option.some.inj hr]
      exact fin_h C hV hS rfl dL_tide_14
    have hr := ie b hr
    cases hr
  · rw [hn] at hr
    have hr : (some (0, up q1.2 216 0 r)) = some res := hr
    refine lv_i2l (v := r.toInt64) hx hb dL_tide_7 rfl ?_
    refine s_28 (x := r) C hV hS dL_tide_8 (fun H locs hV hS => ?_)
    refine lv_goto (tgt := 15) hx hb dL_tide_9 (by decide) ?_
    refine lv_iconst (v := 0) hx hb dL_tide_15 (by decide) ?_
    rw [← Option.some.inj hr]
    exact fin_h C hV hS rfl dL_tide_16
theorem dk_L_sink : dOk yL_sink 4 := ⟨by decide +kernel, by decide +kernel, by decide +kernel⟩
set_option maxHeartbeats 4000000 in
set_option maxRecDepth 100000 in
theorem c_L_sink (l : Launch) (hfl : l.stackTraces = false) (G : LG) (b0 : Nat) (V : St) (x1 : Int32) (x2 : Int32) (res : Int32 × St) (hr : f_L_sink V x1 x2 = some res) : Met l yL_sink (wyH yL_sink cL_sink 5 (some .int) [(0, 10, 13, 13)]) (rmx 7) (va_Pc [.ref (b0 + 0), .int x1, .int x2, .ref (b0 + 216)] (Iv G b0 V)) (QI G b0 res.1 res.2) 1 6 (Ab b0) := by
  refine mk_h (by decide +kernel) (Nat.le_of_ble_eq_true rfl) ?_
  intro p e s m below meth c C ht hV hS ls hl
  obtain ⟨args, hargs⟩ : ∃ z, z = ([.ref (b0 + 0), .int x1, .int x2, .ref (b0 + 216)] : List Value).toArray := ⟨_, rfl⟩
  rw [← hargs] at C ⊢
  obtain ⟨hx, hb, hrt, hml, hown, hts, hlocks, hK, hSv⟩ := id C
  have hl : lv_has ls 5 [(0, .ref (b0 + 0)), (1, .int x1), (2, .int x2), (3, .ref (b0 + 216))] := hl
  unfold f_L_sink at hr
  refine lv_aload_n hx hb dL_sink_0 rfl (lv_at hl 3 rfl) ?_
  refine lv_iconst (v := 0) hx hb dL_sink_1 (by decide) ?_
  refine lv_aload_n hx hb dL_sink_2 rfl (lv_at hl 0 rfl) ?_
  refine lv_iload_n hx hb dL_sink_3 rfl (lv_at hl 1 rfl) ?_
  refine lv_iload_n hx hb dL_sink_4 rfl (lv_at hl 2 rfl) ?_
  obtain ⟨q1, e1, hr⟩ := ob hr
  refine xcal_i (As := [.int x1, .int x2]) (rest := [.int 0, .ref (b0 + 216)]) C hV hS (c_X9_sink l hfl G b0 V x1 x2 q1 e1) (rcv hK hV (kd_lt z_0 (by decide)) (cel_0 z_0) rfl) q_810 q_811 q_812 q_141 q_813 dk_X9_sink (rmx_ok2 (by decide) (by decide)) hl.1 rfl (Nat.le_of_ble_eq_true rfl) dL_sink_5 ⟨Nat.le_refl _, Nat.le_refl _⟩ (fun n E ce q9 H locs hn hE hV hS h1 h2 h3 => ?_) (fun r H locs hn hV hS => ?_)
  · rw [hn] at hr
    have hr : (if n = 0 then some (1, q1.2) else none) = some res := hr
    by_cases b : n = 0
    · subst b
      have hr := it rfl hr
      obtain rfl : "java/lang/UnsupportedOperationException" = E := Option.some.inj hE
      refine vx_catch hown [] ⟨0, 10, 13, 13⟩ [] ht (fun _ h => nomatch h) (by decide) (by decide) (hts _ q_570) (va_Nw.use rfl (hK.2.1 _ q_601)) h1 h2 h3 ?_
      refine lv_astore (lv' := [(4, .ref q9), (0, .ref (b0 + 0)), (1, .int x1), (2, .int x2), (3, .ref (b0 + 216))]) hx hb dL_sink_13 hl (by decide) rfl (fun ls hl => ?_)
      refine lv_iconst (v := 1) hx hb dL_sink_15 (by decide) ?_
      rw [← Option.some.inj hr]
      exact fin_h C hV hS rfl dL_sink_16
    have hr := ie b hr
    cases hr
  · rw [hn] at hr
    have hr : (some (0, up q1.2 216 0 r)) = some res := hr
    refine lv_i2l (v := r.toInt64) hx hb dL_sink_8 rfl ?_
    refine s_28 (x := r) C hV hS dL_sink_9 (fun H locs hV hS => ?_)
    refine lv_goto (tgt := 17) hx hb dL_sink_10 (by decide) ?_
    refine lv_iconst (v := 0) hx hb dL_sink_17 (by decide) ?_
    rw [← Option.some.inj hr]
    exact fin_h C hV hS rfl dL_sink_18
theorem dk_L_note : dOk yL_note 4 := ⟨by decide +kernel, by decide +kernel, by decide +kernel⟩
set_option maxHeartbeats 4000000 in
set_option maxRecDepth 100000 in
theorem c_L_note (l : Launch) (hfl : l.stackTraces = false) (G : LG) (b0 : Nat) (V : St) (x1 : Int32) (x2 : Int32) (res : Int32 × St) (hr : f_L_note V x1 x2 = some res) : Met l yL_note (wyH yL_note cL_note 5 (some .int) [(0, 10, 13, 13)]) (rmx 7) (va_Pc [.ref (b0 + 0), .int x1, .int x2, .ref (b0 + 216)] (Iv G b0 V)) (QI G b0 res.1 res.2) 1 6 (Ab b0) := by
  refine mk_h (by decide +kernel) (Nat.le_of_ble_eq_true rfl) ?_
  intro p e s m below meth c C ht hV hS ls hl
  obtain ⟨args, hargs⟩ : ∃ z, z = ([.ref (b0 + 0), .int x1, .int x2, .ref (b0 + 216)] : List Value).toArray := ⟨_, rfl⟩
  rw [← hargs] at C ⊢
  obtain ⟨hx, hb, hrt, hml, hown, hts, hlocks, hK, hSv⟩ := id C
  have hl : lv_has ls 5 [(0, .ref (b0 + 0)), (1, .int x1), (2, .int x2), (3, .ref (b0 + 216))] := hl
  unfold f_L_note at hr
  refine lv_aload_n hx hb dL_note_0 rfl (lv_at hl 3 rfl) ?_
  refine lv_iconst (v := 0) hx hb dL_note_1 (by decide) ?_
  refine lv_aload_n hx hb dL_note_2 rfl (lv_at hl 0 rfl) ?_
  refine lv_iload_n hx hb dL_note_3 rfl (lv_at hl 1 rfl) ?_
  refine lv_iload_n hx hb dL_note_4 rfl (lv_at hl 2 rfl) ?_
  obtain ⟨q1, e1, hr⟩ := ob hr
  refine xcal_i (As := [.int x1, .int x2]) (rest := [.int 0, .ref (b0 + 216)]) C hV hS (c_X9_note l hfl G b0 V x1 x2 q1 e1) (rcv hK hV (kd_lt z_0 (by decide)) (cel_0 z_0) rfl) q_823 q_824 q_825 q_141 q_826 dk_X9_note (rmx_ok2 (by decide) (by decide)) hl.1 rfl (Nat.le_of_ble_eq_true rfl) dL_note_5 ⟨Nat.le_refl _, Nat.le_refl _⟩ (fun n E ce q9 H locs hn hE hV hS h1 h2 h3 => ?_) (fun r H locs hn hV hS => ?_)
  · rw [hn] at hr
    have hr : (if n = 0 then some (1, q1.2) else none) = some res := hr
    by_cases b : n = 0
    · subst b
      have hr := it rfl hr
      obtain rfl : "java/lang/UnsupportedOperationException" = E := Option.some.inj hE
      refine vx_catch hown [] ⟨0, 10, 13, 13⟩ [] ht (fun _ h => nomatch h) (by decide) (by decide) (hts _ q_570) (va_Nw.use rfl (hK.2.1 _ q_601)) h1 h2 h3 ?_
      refine lv_astore (lv' := [(4, .ref q9), (0, .ref (b0 + 0)), (1, .int x1), (2, .int x2), (3, .ref (b0 + 216))]) hx hb dL_note_13 hl (by decide) rfl (fun ls hl => ?_)
      refine lv_iconst (v := 1) hx hb dL_note_15 (by decide) ?_
      rw [← Option.some.inj hr]
      exact fin_h C hV hS rfl dL_note_16
    have hr := ie b hr
    cases hr
  · rw [hn] at hr
    have hr : (some (0, up q1.2 216 0 r)) = some res := hr
    refine lv_i2l (v := r.toInt64) hx hb dL_note_8 rfl ?_
    refine s_28 (x := r) C hV hS dL_note_9 (fun H locs hV hS => ?_)
    refine lv_goto (tgt := 17) hx hb dL_note_10 (by decide) ?_
    refine lv_iconst (v := 0) hx hb dL_note_17 (by decide) ?_
    rw [← Option.some.inj hr]
    exact fin_h C hV hS rfl dL_note_18
theorem dk_L_drop : dOk yL_drop 3 := ⟨by decide +kernel, by decide +kernel, by decide +kernel⟩
set_option maxHeartbeats 4000000 in
set_option maxRecDepth 100000 in
theorem c_L_drop (l : Launch) (hfl : l.stackTraces = false) (G : LG) (b0 : Nat) (V : St) (x1 : Int32) (res : Int32 × St) (hr : f_L_drop V x1 = some res) : Met l yL_drop (wyH yL_drop cL_drop 4 (some .int) [(0, 9, 12, 13)]) (rmx 7) (va_Pc [.ref (b0 + 0), .int x1, .ref (b0 + 216)] (Iv G b0 V)) (QI G b0 res.1 res.2) 1 6 (Ab b0) := by
  refine mk_h (by decide +kernel) (Nat.le_of_ble_eq_true rfl) ?_
  intro p e s m below meth c C ht hV hS ls hl
  obtain ⟨args, hargs⟩ : ∃ z, z = ([.ref (b0 + 0), .int x1, .ref (b0 + 216)] : List Value).toArray := ⟨_, rfl⟩
  rw [← hargs] at C ⊢
  obtain ⟨hx, hb, hrt, hml, hown, hts, hlocks, hK, hSv⟩ := id C
  have hl : lv_has ls 4 [(0, .ref (b0 + 0)), (1, .int x1), (2, .ref (b0 + 216))] := hl
  unfold f_L_drop at hr
  refine lv_aload_n hx hb dL_drop_0 rfl (lv_at hl 2 rfl) ?_
  refine lv_iconst (v := 0) hx hb dL_drop_1 (by decide) ?_
  refine lv_aload_n hx hb dL_drop_2 rfl (lv_at hl 0 rfl) ?_
  refine lv_iload_n hx hb dL_drop_3 rfl (lv_at hl 1 rfl) ?_
  obtain ⟨q1, e1, hr⟩ := ob hr
  refine xcal_i (As := [.int x1]) (rest := [.int 0, .ref (b0 + 216)]) C hV hS (c_X9_drop l hfl G b0 V x1 q1 e1) (rcv hK hV (kd_lt z_0 (by decide)) (cel_0 z_0) rfl) q_845 q_846 q_847 q_141 q_848 dk_X9_drop (rmx_ok2 (by decide) (by decide)) hl.1 rfl (Nat.le_of_ble_eq_true rfl) dL_drop_4 ⟨Nat.le_refl _, Nat.le_refl _⟩ (fun n E ce q9 H locs hn hE hV hS h1 h2 h3 => ?_) (fun r H locs hn hV hS => ?_)
  · rw [hn] at hr
    have hr : (if n = 0 then some (1, q1.2) else none) = some res := hr
    by_cases b : n = 0
    · subst b
      have hr := it rfl hr
      obtain rfl : "java/lang/UnsupportedOperationException" = E := Option.some.inj hE
      refine vx_catch hown [] ⟨0, 9, 12, 13⟩ [] ht (fun _ h => nomatch h) (by decide) (by decide) (hts _ q_570) (va_Nw.use rfl (hK.2.1 _ q_601)) h1 h2 h3 ?_
      refine lv_astore_n (lv' := [(3, .ref q9), (0, .ref (b0 + 0)), (1, .int x1), (2, .ref (b0 + 216))]) hx hb dL_drop_12 rfl hl (by decide) rfl (fun ls hl => ?_)
      refine lv_iconst (v := 1) hx hb dL_drop_13 (by decide) ?_
      rw [← Option.some.inj hr]
      exact fin_h C hV hS rfl dL_drop_14
    have hr := ie b hr
    cases hr
  · rw [hn] at hr
    have hr : (some (0, up q1.2 216 0 r)) = some res := hr
    refine lv_i2l (v := r.toInt64) hx hb dL_drop_7 rfl ?_
    refine s_28 (x := r) C hV hS dL_drop_8 (fun H locs hV hS => ?_)
    refine lv_goto (tgt := 15) hx hb dL_drop_9 (by decide) ?_
    refine lv_iconst (v := 0) hx hb dL_drop_15 (by decide) ?_
    rw [← Option.some.inj hr]
    exact fin_h C hV hS rfl dL_drop_16
theorem dk_L_kindOf : dOk yL_kindOf 4 := ⟨by decide +kernel, by decide +kernel, by decide +kernel⟩
set_option maxHeartbeats 4000000 in
set_option maxRecDepth 100000 in
theorem c_L_kindOf (l : Launch) (hfl : l.stackTraces = false) (G : LG) (b0 : Nat) (V : St) (x1 : Int32) (x2 : Int32) (res : Int32 × St) (hr : f_L_kindOf V x1 x2 = some res) : Met l yL_kindOf (wyH yL_kindOf cL_kindOf 5 (some .int) [(0, 10, 13, 42)]) (rmx 7) (va_Pc [.ref (b0 + 0), .int x1, .int x2, .ref (b0 + 216)] (Iv G b0 V)) (QI G b0 res.1 res.2) 1 6 (Ab b0) := by
  refine mk_h (by decide +kernel) (Nat.le_of_ble_eq_true rfl) ?_
  intro p e s m below meth c C ht hV hS ls hl
  obtain ⟨args, hargs⟩ : ∃ z, z = ([.ref (b0 + 0), .int x1, .int x2, .ref (b0 + 216)] : List Value).toArray := ⟨_, rfl⟩
  rw [← hargs] at C ⊢
  obtain ⟨hx, hb, hrt, hml, hown, hts, hlocks, hK, hSv⟩ := id C
  have hl : lv_has ls 5 [(0, .ref (b0 + 0)), (1, .int x1), (2, .int x2), (3, .ref (b0 + 216))] := hl
  unfold f_L_kindOf at hr
  refine lv_aload_n hx hb dL_kindOf_0 rfl (lv_at hl 3 rfl) ?_
  refine lv_iconst (v := 0) hx hb dL_kindOf_1 (by decide) ?_
  refine lv_aload_n hx hb dL_kindOf_2 rfl (lv_at hl 0 rfl) ?_
  refine lv_iload_n hx hb dL_kindOf_3 rfl (lv_at hl 1 rfl) ?_
  refine lv_iload_n hx hb dL_kindOf_4 rfl (lv_at hl 2 rfl) ?_
  obtain ⟨q1, e1, hr⟩ := ob hr
  refine xcal_i (As := [.int x1, .int x2]) (rest := [.int 0, .ref (b0 + 216)]) C hV hS (c_X9_kindOf l hfl G b0 V x1 x2 q1 e1) (rcv hK hV (kd_lt z_0 (by decide)) (cel_0 z_0) rfl) q_889 q_890 q_891 q_141 q_892 dk_X9_kindOf (rmx_ok2 (by decide) (by decide)) hl.1 rfl (Nat.le_of_ble_eq_true rfl) dL_kindOf_5 ⟨Nat.le_refl _, Nat.le_refl _⟩ (fun n E ce q9 H locs hn hE hV hS h1 h2 h3 => ?_) (fun r H locs hn hV hS => ?_)
  · rw [hn] at hr
    have hr : (if n = 1 then some (1, V) else none) = some res := hr
    by_cases b : n = 1
    · subst b
      have hr := it rfl hr
      obtain rfl : "java/lang/IndexOutOfBoundsException" = E := Option.some.inj hE
      refine vx_catch hown [] ⟨0, 10, 13, 42⟩ [] ht (fun _ h => nomatch h) (by decide) (by decide) (hts _ q_865) (va_Nw.use rfl (hK.2.1 _ q_895)) h1 h2 h3 ?_
      refine lv_astore (lv' := [(4, .ref q9), (0, .ref (b0 + 0)), (1, .int x1), (2, .int x2), (3, .ref (b0 + 216))]) hx hb dL_kindOf_13 hl (by decide) rfl (fun ls hl => ?_)
      refine lv_iconst (v := 1) hx hb dL_kindOf_15 (by decide) ?_
      rw [← Option.some.inj hr]
      exact fin_h C hV hS rfl dL_kindOf_16
    have hr := ie b hr
    cases hr
  · rw [hn] at hr
    have hr : (some (0, up V 216 0 r)) = some res := hr
    refine lv_i2l (v := r.toInt64) hx hb dL_kindOf_8 rfl ?_
    refine s_28 (x := r) C hV hS dL_kindOf_9 (fun H locs hV hS => ?_)
    refine lv_goto (tgt := 17) hx hb dL_kindOf_10 (by decide) ?_
    refine lv_iconst (v := 0) hx hb dL_kindOf_17 (by decide) ?_
    rw [← Option.some.inj hr]
    exact fin_h C hV hS rfl dL_kindOf_18
theorem dk_L_isTorn : dOk yL_isTorn 5 := ⟨by decide +kernel, by decide +kernel, by decide +kernel⟩
set_option maxHeartbeats 4000000 in
set_option maxRecDepth 100000 in
theorem c_L_isTorn (l : Launch) (hfl : l.stackTraces = false) (G : LG) (b0 : Nat) (V : St) (x1 : Int32) (x2 : Int32) (x3 : Int32) (res : Int32 × St) (hr : f_L_isTorn V x1 x2 x3 = some res) : Met l yL_isTorn (wyH yL_isTorn cL_isTorn 6 (some .int) [(0, 19, 22, 42), (0, 19, 26, 48)]) (rmx 7) (va_Pc [.ref (b0 + 0), .int x1, .int x2, .int x3, .ref (b0 + 216)] (Iv G b0 V)) (QI G b0 res.1 res.2) 1 6 (Ab b0) := by
  refine mk_h (by decide +kernel) (Nat.le_of_ble_eq_true rfl) ?_
  intro p e s m below meth c C ht hV hS ls hl
  obtain ⟨args, hargs⟩ : ∃ z, z = ([.ref (b0 + 0), .int x1, .int x2, .int x3, .ref (b0 + 216)] : List Value).toArray := ⟨_, rfl⟩
  rw [← hargs] at C ⊢
  obtain ⟨hx, hb, hrt, hml, hown, hts, hlocks, hK, hSv⟩ := id C
  have hl : lv_has ls 6 [(0, .ref (b0 + 0)), (1, .int x1), (2, .int x2), (3, .int x3), (4, .ref (b0 + 216))] := hl
  unfold f_L_isTorn at hr
  refine lv_aload hx hb dL_isTorn_0 (lv_at hl 4 rfl) ?_
  refine lv_iconst (v := 0) hx hb dL_isTorn_2 (by decide) ?_
  refine lv_aload_n hx hb dL_isTorn_3 rfl (lv_at hl 0 rfl) ?_
  refine lv_iload_n hx hb dL_isTorn_4 rfl (lv_at hl 1 rfl) ?_
  refine lv_iload_n hx hb dL_isTorn_5 rfl (lv_at hl 2 rfl) ?_
  refine lv_iload_n hx hb dL_isTorn_6 rfl (lv_at hl 3 rfl) ?_
  obtain ⟨q1, e1, hr⟩ := ob hr
  refine xcal_i (As := [.int x1, .int x2, .int x3]) (rest := [.int 0, .ref (b0 + 216)]) C hV hS (c_X9_isTorn l hfl G b0 V x1 x2 x3 q1 e1) (rcv hK hV (kd_lt z_0 (by decide)) (cel_0 z_0) rfl) q_910 q_911 q_912 q_141 q_913 dk_X9_isTorn (rmx_ok2 (by decide) (by decide)) hl.1 rfl (Nat.le_of_ble_eq_true rfl) dL_isTorn_7 ⟨Nat.le_refl _, Nat.le_refl _⟩ (fun n E ce q9 H locs hn hE hV hS h1 h2 h3 => ?_) (fun r H locs hn hV hS => ?_)
  · rw [hn] at hr
    have hr : (if n = 1 then some (1, V) else if n = 2 then some (2, V) else none) = some res := hr
    by_cases b : n = 1
    · subst b
      have hr := it rfl hr
      obtain rfl : "java/lang/IndexOutOfBoundsException" = E := Option.some.inj hE
      refine vx_catch hown [] ⟨0, 19, 22, 42⟩ [⟨0, 19, 26, 48⟩] ht (fun _ h => nomatch h) (by decide) (by decide) (hts _ q_865) (va_Nw.use rfl (hK.2.1 _ q_895)) h1 h2 h3 ?_
      refine lv_astore (lv' := [(5, .ref q9), (0, .ref (b0 + 0)), (1, .int x1), (2, .int x2), (3, .int x3), (4, .ref (b0 + 216))]) hx hb dL_isTorn_22 hl (by decide) rfl (fun ls hl => ?_)
      refine lv_iconst (v := 1) hx hb dL_isTorn_24 (by decide) ?_
      rw [← Option.some.inj hr]
      exact fin_h C hV hS rfl dL_isTorn_25
    have hr := ie b hr
    by_cases b : n = 2
    · subst b
      have hr := it rfl hr
      obtain rfl : "java/util/NoSuchElementException" = E := Option.some.inj hE
      refine vx_catch hown [⟨0, 19, 22, 42⟩] ⟨0, 19, 26, 48⟩ [] ht (List.forall_mem_cons.mpr ⟨Or.inr ⟨by decide, "java/lang/IndexOutOfBoundsException", hts _ q_865, hK.2.2.2 ("java/util/NoSuchElementException", "java/lang/IndexOutOfBoundsException") (by decide)⟩, fun _ h => nomatch h⟩) (by decide) (by decide) (hts _ q_909) (va_Nw.use rfl (hK.2.1 _ q_916)) h1 h2 h3 ?_
      refine lv_astore (lv' := [(5, .ref q9), (0, .ref (b0 + 0)), (1, .int x1), (2, .int x2), (3, .int x3), (4, .ref (b0 + 216))]) hx hb dL_isTorn_26 hl (by decide) rfl (fun ls hl => ?_)
      refine lv_iconst (v := 2) hx hb dL_isTorn_28 (by decide) ?_
      rw [← Option.some.inj hr]
      exact fin_h C hV hS rfl dL_isTorn_29
    have hr := ie b hr
    cases hr
  · rw [hn] at hr
    have hr : (if r = 0 then some (0, up V 216 0 0) else some (0, up V 216 0 1)) = some res := hr
    refine lv_if_eq (tgt := 17) hx hb dL_isTorn_10 (by decide) (fun b => ?_) (fun b => ?_)
    · have hr := it b hr
      refine lv_lconst (v := (0 : Int32).toInt64) hx hb dL_isTorn_17 rfl ?_
      refine s_28 (x := 0) C hV hS dL_isTorn_18 (fun H locs hV hS => ?_)
      refine lv_goto (tgt := 30) hx hb dL_isTorn_19 (by decide) ?_
      refine lv_iconst (v := 0) hx hb dL_isTorn_30 (by decide) ?_
      rw [← Option.some.inj hr]
      exact fin_h C hV hS rfl dL_isTorn_31
    · have hr := ie b hr
      refine lv_lconst (v := (1 : Int32).toInt64) hx hb dL_isTorn_13 rfl ?_
      refine lv_goto (tgt := 18) hx hb dL_isTorn_14 (by decide) ?_
      refine s_28 (x := 1) C hV hS dL_isTorn_18 (fun H locs hV hS => ?_)
      refine lv_goto (tgt := 30) hx hb dL_isTorn_19 (by decide) ?_
      refine lv_iconst (v := 0) hx hb dL_isTorn_30 (by decide) ?_
      rw [← Option.some.inj hr]
      exact fin_h C hV hS rfl dL_isTorn_31
theorem dk_L_netOf : dOk yL_netOf 4 := ⟨by decide +kernel, by decide +kernel, by decide +kernel⟩
set_option maxHeartbeats 4000000 in
set_option maxRecDepth 100000 in
theorem c_L_netOf (l : Launch) (hfl : l.stackTraces = false) (G : LG) (b0 : Nat) (V : St) (x1 : Int32) (x2 : Int32) (res : Int32 × St) (hr : f_L_netOf V x1 x2 = some res) : Met l yL_netOf (wyH yL_netOf cL_netOf 5 (some .int) [(0, 10, 13, 42), (0, 10, 17, 53)]) (rmx 7) (va_Pc [.ref (b0 + 0), .int x1, .int x2, .ref (b0 + 216)] (Iv G b0 V)) (QI G b0 res.1 res.2) 1 6 (Ab b0) := by
  refine mk_h (by decide +kernel) (Nat.le_of_ble_eq_true rfl) ?_
  intro p e s m below meth c C ht hV hS ls hl
  obtain ⟨args, hargs⟩ : ∃ z, z = ([.ref (b0 + 0), .int x1, .int x2, .ref (b0 + 216)] : List Value).toArray := ⟨_, rfl⟩
  rw [← hargs] at C ⊢
  obtain ⟨hx, hb, hrt, hml, hown, hts, hlocks, hK, hSv⟩ := id C
  have hl : lv_has ls 5 [(0, .ref (b0 + 0)), (1, .int x1), (2, .int x2), (3, .ref (b0 + 216))] := hl
  unfold f_L_netOf at hr
  refine lv_aload_n hx hb dL_netOf_0 rfl (lv_at hl 3 rfl) ?_
  refine lv_iconst (v := 0) hx hb dL_netOf_1 (by decide) ?_
  refine lv_aload_n hx hb dL_netOf_2 rfl (lv_at hl 0 rfl) ?_
  refine lv_iload_n hx hb dL_netOf_3 rfl (lv_at hl 1 rfl) ?_
  refine lv_iload_n hx hb dL_netOf_4 rfl (lv_at hl 2 rfl) ?_
  obtain ⟨q1, e1, hr⟩ := ob hr
  refine xcal_i (As := [.int x1, .int x2]) (rest := [.int 0, .ref (b0 + 216)]) C hV hS (c_X9_netOf l hfl G b0 V x1 x2 q1 e1) (rcv hK hV (kd_lt z_0 (by decide)) (cel_0 z_0) rfl) q_934 q_935 q_936 q_141 q_937 dk_X9_netOf (rmx_ok2 (by decide) (by decide)) hl.1 rfl (Nat.le_of_ble_eq_true rfl) dL_netOf_5 ⟨Nat.le_refl _, Nat.le_refl _⟩ (fun n E ce q9 H locs hn hE hV hS h1 h2 h3 => ?_) (fun r H locs hn hV hS => ?_)
  · rw [hn] at hr
    have hr : (if n = 1 then some (1, V) else if n = 3 then some (2, V) else none) = some res := hr
    by_cases b : n = 1
    · subst b
      have hr := it rfl hr
      obtain rfl : "java/lang/IndexOutOfBoundsException" = E := Option.some.inj hE
      refine vx_catch hown [] ⟨0, 10, 13, 42⟩ [⟨0, 10, 17, 53⟩] ht (fun _ h => nomatch h) (by decide) (by decide) (hts _ q_865) (va_Nw.use rfl (hK.2.1 _ q_895)) h1 h2 h3 ?_
      refine lv_astore (lv' := [(4, .ref q9), (0, .ref (b0 + 0)), (1, .int x1), (2, .int x2), (3, .ref (b0 + 216))]) hx hb dL_netOf_13 hl (by decide) rfl (fun ls hl => ?_)
      refine lv_iconst (v := 1) hx hb dL_netOf_15 (by decide) ?_
      rw [← Option.some.inj hr]
      exact fin_h C hV hS rfl dL_netOf_16
    have hr := ie b hr
    by_cases b : n = 3
    · subst b
      have hr := it rfl hr
      obtain rfl : "java/lang/IllegalArgumentException" = E := Option.some.inj hE
      refine vx_catch hown [⟨0, 10, 13, 42⟩] ⟨0, 10, 17, 53⟩ [] ht (List.forall_mem_cons.mpr ⟨Or.inr ⟨by decide, "java/lang/IndexOutOfBoundsException", hts _ q_865, hK.2.2.2 ("java/lang/IllegalArgumentException", "java/lang/IndexOutOfBoundsException") (by decide)⟩, fun _ h => nomatch h⟩) (by decide) (by decide) (hts _ q_933) (va_Nw.use rfl (hK.2.1 _ q_952)) h1 h2 h3 ?_
      refine lv_astore (lv' := [(4, .ref q9), (0, .ref (b0 + 0)), (1, .int x1), (2, .int x2), (3, .ref (b0 + 216))]) hx hb dL_netOf_17 hl (by decide) rfl (fun ls hl => ?_)
      refine lv_iconst (v := 2) hx hb dL_netOf_19 (by decide) ?_
      rw [← Option.some.inj hr]
      exact fin_h C hV hS rfl dL_netOf_20
    have hr := ie b hr
    cases hr
  · rw [hn] at hr
    have hr : (some (0, up V 216 0 r)) = some res := hr
    refine lv_i2l (v := r.toInt64) hx hb dL_netOf_8 rfl ?_
    refine s_28 (x := r) C hV hS dL_netOf_9 (fun H locs hV hS => ?_)
    refine lv_goto (tgt := 21) hx hb dL_netOf_10 (by decide) ?_
    refine lv_iconst (v := 0) hx hb dL_netOf_21 (by decide) ?_
    rw [← Option.some.inj hr]
    exact fin_h C hV hS rfl dL_netOf_22
theorem dk_L_chapters : dOk yL_chapters 3 := ⟨by decide +kernel, by decide +kernel, by decide +kernel⟩
set_option maxHeartbeats 4000000 in
set_option maxRecDepth 100000 in
theorem c_L_chapters (l : Launch) (hfl : l.stackTraces = false) (G : LG) (b0 : Nat) (V : St) (x1 : Int32) (res : Int32 × St) (hr : f_L_chapters V x1 = some res) : Met l yL_chapters (wyH yL_chapters cL_chapters 4 (some .int) [(0, 9, 12, 42)]) (rmx 7) (va_Pc [.ref (b0 + 0), .int x1, .ref (b0 + 216)] (Iv G b0 V)) (QI G b0 res.1 res.2) 1 6 (Ab b0) := by
  refine mk_h (by decide +kernel) (Nat.le_of_ble_eq_true rfl) ?_
  intro p e s m below meth c C ht hV hS ls hl
  obtain ⟨args, hargs⟩ : ∃ z, z = ([.ref (b0 + 0), .int x1, .ref (b0 + 216)] : List Value).toArray := ⟨_, rfl⟩
  rw [← hargs] at C ⊢
  obtain ⟨hx, hb, hrt, hml, hown, hts, hlocks, hK, hSv⟩ := id C
  have hl : lv_has ls 4 [(0, .ref (b0 + 0)), (1, .int x1), (2, .ref (b0 + 216))] := hl
  unfold f_L_chapters at hr
  refine lv_aload_n hx hb dL_chapters_0 rfl (lv_at hl 2 rfl) ?_
  refine lv_iconst (v := 0) hx hb dL_chapters_1 (by decide) ?_
  refine lv_aload_n hx hb dL_chapters_2 rfl (lv_at hl 0 rfl) ?_
  refine lv_iload_n hx hb dL_chapters_3 rfl (lv_at hl 1 rfl) ?_
  obtain ⟨q1, e1, hr⟩ := ob hr
  refine xcal_i (As := [.int x1]) (rest := [.int 0, .ref (b0 + 216)]) C hV hS (c_X9_chapters l hfl G b0 V x1 q1 e1) (rcv hK hV (kd_lt z_0 (by decide)) (cel_0 z_0) rfl) q_969 q_970 q_971 q_141 q_972 dk_X9_chapters (rmx_ok2 (by decide) (by decide)) hl.1 rfl (Nat.le_of_ble_eq_true rfl) dL_chapters_4 ⟨Nat.le_refl _, Nat.le_refl _⟩ (fun n E ce q9 H locs hn hE hV hS h1 h2 h3 => ?_) (fun r H locs hn hV hS => ?_)
  · rw [hn] at hr
    have hr : (if n = 1 then some (1, V) else none) = some res := hr
    by_cases b : n = 1
    · subst b
      have hr := it rfl hr
      obtain rfl : "java/lang/IndexOutOfBoundsException" = E := Option.some.inj hE
      refine vx_catch hown [] ⟨0, 9, 12, 42⟩ [] ht (fun _ h => nomatch h) (by decide) (by decide) (hts _ q_865) (va_Nw.use rfl (hK.2.1 _ q_895)) h1 h2 h3 ?_
      refine lv_astore_n (lv' := [(3, .ref q9), (0, .ref (b0 + 0)), (1, .int x1), (2, .ref (b0 + 216))]) hx hb dL_chapters_12 rfl hl (by decide) rfl (fun ls hl => ?_)
      refine lv_iconst (v := 1) hx hb dL_chapters_13 (by decide) ?_
      rw [← Option.some.inj hr]
      exact fin_h C hV hS rfl dL_chapters_14
    have hr := ie b hr
    cases hr
  · rw [hn] at hr
    have hr : (some (0, up V 216 0 r)) = some res := hr
    refine lv_i2l (v := r.toInt64) hx hb dL_chapters_7 rfl ?_
    refine s_28 (x := r) C hV hS dL_chapters_8 (fun H locs hV hS => ?_)
    refine lv_goto (tgt := 15) hx hb dL_chapters_9 (by decide) ?_
    refine lv_iconst (v := 0) hx hb dL_chapters_15 (by decide) ?_
    rw [← Option.some.inj hr]
    exact fin_h C hV hS rfl dL_chapters_16
theorem dk_L_chaptersAgain : dOk yL_chaptersAgain 3 := ⟨by decide +kernel, by decide +kernel, by decide +kernel⟩
set_option maxHeartbeats 4000000 in
set_option maxRecDepth 100000 in
theorem c_L_chaptersAgain (l : Launch) (hfl : l.stackTraces = false) (G : LG) (b0 : Nat) (V : St) (x1 : Int32) (res : Int32 × St) (hr : f_L_chaptersAgain V x1 = some res) : Met l yL_chaptersAgain (wyH yL_chaptersAgain cL_chaptersAgain 4 (some .int) [(0, 9, 12, 42)]) (rmx 7) (va_Pc [.ref (b0 + 0), .int x1, .ref (b0 + 216)] (Iv G b0 V)) (QI G b0 res.1 res.2) 1 6 (Ab b0) := by
  refine mk_h (by decide +kernel) (Nat.le_of_ble_eq_true rfl) ?_
  intro p e s m below meth c C ht hV hS ls hl
  obtain ⟨args, hargs⟩ : ∃ z, z = ([.ref (b0 + 0), .int x1, .ref (b0 + 216)] : List Value).toArray := ⟨_, rfl⟩
  rw [← hargs] at C ⊢
  obtain ⟨hx, hb, hrt, hml, hown, hts, hlocks, hK, hSv⟩ := id C
  have hl : lv_has ls 4 [(0, .ref (b0 + 0)), (1, .int x1), (2, .ref (b0 + 216))] := hl
  unfold f_L_chaptersAgain at hr
  refine lv_aload_n hx hb dL_chaptersAgain_0 rfl (lv_at hl 2 rfl) ?_
  refine lv_iconst (v := 0) hx hb dL_chaptersAgain_1 (by decide) ?_
  refine lv_aload_n hx hb dL_chaptersAgain_2 rfl (lv_at hl 0 rfl) ?_
  refine lv_iload_n hx hb dL_chaptersAgain_3 rfl (lv_at hl 1 rfl) ?_
  obtain ⟨q1, e1, hr⟩ := ob hr
  refine xcal_i (As := [.int x1]) (rest := [.int 0, .ref (b0 + 216)]) C hV hS (c_X9_chaptersAgain l hfl G b0 V x1 q1 e1) (rcv hK hV (kd_lt z_0 (by decide)) (cel_0 z_0) rfl) q_976 q_977 q_978 q_141 q_979 dk_X9_chaptersAgain (rmx_ok2 (by decide) (by decide)) hl.1 rfl (Nat.le_of_ble_eq_true rfl) dL_chaptersAgain_4 ⟨Nat.le_refl _, Nat.le_refl _⟩ (fun n E ce q9 H locs hn hE hV hS h1 h2 h3 => ?_) (fun r H locs hn hV hS => ?_)
  · rw [hn] at hr
    have hr : (if n = 1 then some (1, q1.2) else none) = some res := hr
    by_cases b : n = 1
    · subst b
      have hr := it rfl hr
      obtain rfl : "java/lang/IndexOutOfBoundsException" = E := Option.some.inj hE
      refine vx_catch hown [] ⟨0, 9, 12, 42⟩ [] ht (fun _ h => nomatch h) (by decide) (by decide) (hts _ q_865) (va_Nw.use rfl (hK.2.1 _ q_895)) h1 h2 h3 ?_
      refine lv_astore_n (lv' := [(3, .ref q9), (0, .ref (b0 + 0)), (1, .int x1), (2, .ref (b0 + 216))]) hx hb dL_chaptersAgain_12 rfl hl (by decide) rfl (fun ls hl => ?_)
      refine lv_iconst (v := 1) hx hb dL_chaptersAgain_13 (by decide) ?_
      rw [← Option.some.inj hr]
      exact fin_h C hV hS rfl dL_chaptersAgain_14
    have hr := ie b hr
    cases hr
  · rw [hn] at hr
    have hr : (some (0, up q1.2 216 0 r)) = some res := hr
    refine lv_i2l (v := r.toInt64) hx hb dL_chaptersAgain_7 rfl ?_
    refine s_28 (x := r) C hV hS dL_chaptersAgain_8 (fun H locs hV hS => ?_)
    refine lv_goto (tgt := 15) hx hb dL_chaptersAgain_9 (by decide) ?_
    refine lv_iconst (v := 0) hx hb dL_chaptersAgain_15 (by decide) ?_
    rw [← Option.some.inj hr]
    exact fin_h C hV hS rfl dL_chaptersAgain_16
theorem dk_L_chapterOf : dOk yL_chapterOf 5 := ⟨by decide +kernel, by decide +kernel, by decide +kernel⟩
set_option maxHeartbeats 4000000 in
set_option maxRecDepth 100000 in
theorem c_L_chapterOf (l : Launch) (hfl : l.stackTraces = false) (G : LG) (b0 : Nat) (V : St) (x1 : Int32) (x2 : Int32) (x3 : Int32) (res : Int32 × St) (hr : f_L_chapterOf V x1 x2 x3 = some res) : Met l yL_chapterOf (wyH yL_chapterOf cL_chapterOf 6 (some .int) [(0, 12, 15, 42), (0, 12, 19, 53), (0, 12, 23, 48)]) (rmx 7) (va_Pc [.ref (b0 + 0), .int x1, .int x2, .int x3, .ref (b0 + 216)] (Iv G b0 V)) (QI G b0 res.1 res.2) 1 6 (Ab b0) := by
  refine mk_h (by decide +kernel) (Nat.le_of_ble_eq_true rfl) ?_
  intro p e s m below meth c C ht hV hS ls hl
  obtain ⟨args, hargs⟩ : ∃ z, z = ([.ref (b0 + 0), .int x1, .int x2, .int x3, .ref (b0 + 216)] : List Value).toArray := ⟨_, rfl⟩
  rw [← hargs] at C ⊢
  obtain ⟨hx, hb, hrt, hml, hown, hts, hlocks, hK, hSv⟩ := id C
  have hl : lv_has ls 6 [(0, .ref (b0 + 0)), (1, .int x1), (2, .int x2), (3, .int x3), (4, .ref (b0 + 216))] := hl
  unfold f_L_chapterOf at hr
  refine lv_aload hx hb dL_chapterOf_0 (lv_at hl 4 rfl) ?_
  refine lv_iconst (v := 0) hx hb dL_chapterOf_2 (by decide) ?_
  refine lv_aload_n hx hb dL_chapterOf_3 rfl (lv_at hl 0 rfl) ?_
  refine lv_iload_n hx hb dL_chapterOf_4 rfl (lv_at hl 1 rfl) ?_
  refine lv_iload_n hx hb dL_chapterOf_5 rfl (lv_at hl 2 rfl) ?_
  refine lv_iload_n hx hb dL_chapterOf_6 rfl (lv_at hl 3 rfl) ?_
  obtain ⟨q1, e1, hr⟩ := ob hr
  refine xcal_i (As := [.int x1, .int x2, .int x3]) (rest := [.int 0, .ref (b0 + 216)]) C hV hS (c_X9_chapterOf l hfl G b0 V x1 x2 x3 q1 e1) (rcv hK hV (kd_lt z_0 (by decide)) (cel_0 z_0) rfl) q_984 q_985 q_986 q_141 q_987 dk_X9_chapterOf (rmx_ok2 (by decide) (by decide)) hl.1 rfl (Nat.le_of_ble_eq_true rfl) dL_chapterOf_7 ⟨Nat.le_refl _, Nat.le_refl _⟩ (fun n E ce q9 H locs hn hE hV hS h1 h2 h3 => ?_) (fun r H locs hn hV hS => ?_)
  · rw [hn] at hr
    have hr : (if n = 1 then some (1, V) else if n = 3 then some (2, V) else if n = 2 then some (3, V) else none) = some res := hr
    by_cases b : n = 1
    · subst b
      have hr := it rfl hr
      obtain rfl : "java/lang/IndexOutOfBoundsException" = E := Option.some.inj hE
      refine vx_catch hown [] ⟨0, 12, 15, 42⟩ [⟨0, 12, 19, 53⟩, ⟨0, 12, 23, 48⟩] ht (fun _ h => nomatch h) (by decide) (by decide) (hts _ q_865) (va_Nw.use rfl (hK.2.1 _ q_895)) h1 h2 h3 ?_
      refine lv_astore (lv' := [(5, .ref q9), (0, .ref (b0 + 0)), (1, .int x1), (2, .int x2), (3, .int x3), (4, .ref (b0 + 216))]) hx hb dL_chapterOf_15 hl (by decide) rfl (fun ls hl => ?_)
      refine lv_iconst (v := 1) hx hb dL_chapterOf_17 (by decide) ?_
      rw [← Option.some.inj hr]
      exact fin_h C hV hS rfl dL_chapterOf_18
    have hr := ie b hr
    by_cases b : n = 3
    · subst b
      have hr := it rfl hr
      obtain rfl : "java/lang/IllegalArgumentException" = E := Option.some.inj hE
      refine vx_catch hown [⟨0, 12, 15, 42⟩] ⟨0, 12, 19, 53⟩ [⟨0, 12, 23, 48⟩] ht (List.forall_mem_cons.mpr ⟨Or.inr ⟨by decide, "java/lang/IndexOutOfBoundsException", hts _ q_865, hK.2.2.2 ("java/lang/IllegalArgumentException", "java/lang/IndexOutOfBoundsException") (by decide)⟩, fun _ h => nomatch h⟩) (by decide) (by decide) (hts _ q_933) (va_Nw.use rfl (hK.2.1 _ q_952)) h1 h2 h3 ?_
      refine lv_astore (lv' := [(5, .ref q9), (0, .ref (b0 + 0)), (1, .int x1), (2, .int x2), (3, .int x3), (4, .ref (b0 + 216))]) hx hb dL_chapterOf_19 hl (by decide) rfl (fun ls hl => ?_)
      refine lv_iconst (v := 2) hx hb dL_chapterOf_21 (by decide) ?_
      rw [← Option.some.inj hr]
      exact fin_h C hV hS rfl dL_chapterOf_22
    have hr := ie b hr
    by_cases b : n = 2
    · subst b
      have hr := it rfl hr
      obtain rfl : "java/util/NoSuchElementException" = E := Option.some.inj hE
      refine vx_catch hown [⟨0, 12, 15, 42⟩, ⟨0, 12, 19, 53⟩] ⟨0, 12, 23, 48⟩ [] ht (List.forall_mem_cons.mpr ⟨Or.inr ⟨by decide, "java/lang/IndexOutOfBoundsException", hts _ q_865, hK.2.2.2 ("java/util/NoSuchElementException", "java/lang/IndexOutOfBoundsException") (by decide)⟩, List.forall_mem_cons.mpr ⟨Or.inr ⟨by decide, "java/lang/IllegalArgumentException", hts _ q_933, hK.2.2.2 ("java/util/NoSuchElementException", "java/lang/IllegalArgumentException") (by decide)⟩, fun _ h => nomatch h⟩⟩) (by decide) (by decide) (hts _ q_909) (va_Nw.use rfl (hK.2.1 _ q_916)) h1 h2 h3 ?_
      refine lv_astore (lv' := [(5, .ref q9), (0, .ref (b0 + 0)), (1, .int x1), (2, .int x2), (3, .int x3), (4, .ref (b0 + 216))]) hx hb dL_chapterOf_23 hl (by decide) rfl (fun ls hl => ?_)
      refine lv_iconst (v := 3) hx hb dL_chapterOf_25 (by decide) ?_
      rw [← Option.some.inj hr]
      exact fin_h C hV hS rfl dL_chapterOf_26
    have hr := ie b hr
    cases hr
  · rw [hn] at hr
    have hr : (some (0, up V 216 0 r)) = some res := hr
    refine lv_i2l (v := r.toInt64) hx hb dL_chapterOf_10 rfl ?_
    refine s_28 (x := r) C hV hS dL_chapterOf_11 (fun H locs hV hS => ?_)
    refine lv_goto (tgt := 27) hx hb dL_chapterOf_12 (by decide) ?_
    refine lv_iconst (v := 0) hx hb dL_chapterOf_27 (by decide) ?_
    rw [← Option.some.inj hr]
    exact fin_h C hV hS rfl dL_chapterOf_28
theorem dk_L_noteOf : dOk yL_noteOf 4 := ⟨by decide +kernel, by decide +kernel, by decide +kernel⟩
set_option maxHeartbeats 4000000 in
set_option maxRecDepth 100000 in
theorem c_L_noteOf (l : Launch) (hfl : l.stackTraces = false) (G : LG) (b0 : Nat) (V : St) (x1 : Int32) (x2 : Int32) (res : Int32 × St) (hr : f_L_noteOf V x1 x2 = some res) : Met l yL_noteOf (wyH yL_noteOf cL_noteOf 5 (some .int) [(0, 10, 13, 42), (0, 10, 17, 53)]) (rmx 7) (va_Pc [.ref (b0 + 0), .int x1, .int x2, .ref (b0 + 216)] (Iv G b0 V)) (QI G b0 res.1 res.2) 1 6 (Ab b0) := by
  refine mk_h (by decide +kernel) (Nat.le_of_ble_eq_true rfl) ?_
  intro p e s m below meth c C ht hV hS ls hl
  obtain ⟨args, hargs⟩ : ∃ z, z = ([.ref (b0 + 0), .int x1, .int x2, .ref (b0 + 216)] : List Value).toArray := ⟨_, rfl⟩
  rw [← hargs] at C ⊢
  obtain ⟨hx, hb, hrt, hml, hown, hts, hlocks, hK, hSv⟩ := id C
  have hl : lv_has ls 5 [(0, .ref (b0 + 0)), (1, .int x1), (2, .int x2), (3, .ref (b0 + 216))] := hl
  unfold f_L_noteOf at hr
  refine lv_aload_n hx hb dL_noteOf_0 rfl (lv_at hl 3 rfl) ?_
  refine lv_iconst (v := 0) hx hb dL_noteOf_1 (by decide) ?_
  refine lv_aload_n hx hb dL_noteOf_2 rfl (lv_at hl 0 rfl) ?_
  refine lv_iload_n hx hb dL_noteOf_3 rfl (lv_at hl 1 rfl) ?_
  refine lv_iload_n hx hb dL_noteOf_4 rfl (lv_at hl 2 rfl) ?_
  obtain ⟨q1, e1, hr⟩ := ob hr
  refine xcal_i (As := [.int x1, .int x2]) (rest := [.int 0, .ref (b0 + 216)]) C hV hS (c_X9_noteOf l hfl G b0 V x1 x2 q1 e1) (rcv hK hV (kd_lt z_0 (by decide)) (cel_0 z_0) rfl) q_997 q_998 q_999 q_141 q_1000 dk_X9_noteOf (rmx_ok2 (by decide) (by decide)) hl.1 rfl (Nat.le_of_ble_eq_true rfl) dL_noteOf_5 ⟨Nat.le_refl _, Nat.le_refl _⟩ (fun n E ce q9 H locs hn hE hV hS h1 h2 h3 => ?_) (fun r H locs hn hV hS => ?_)
  · rw [hn] at hr
    have hr : (if n = 1 then some (1, V) else if n = 3 then some (2, V) else none) = some res := hr
    by_cases b : n = 1
    · subst b
      have hr := it rfl hr
      obtain rfl : "java/lang/IndexOutOfBoundsException" = E := Option.some.inj hE
      refine vx_catch hown [] ⟨0, 10, 13, 42⟩ [⟨0, 10, 17, 53⟩] ht (fun _ h => nomatch h) (by decide) (by decide) (hts _ q_865) (va_Nw.use rfl (hK.2.1 _ q_895)) h1 h2 h3 ?_
      refine lv_astore (lv' := [(4, .ref q9), (0, .ref (b0 + 0)), (1, .int x1), (2, .int x2), (3, .ref (b0 + 216))]) hx hb dL_noteOf_13 hl (by decide) rfl (fun ls hl => ?_)
      refine lv_iconst (v := 1) hx hb dL_noteOf_15 (by decide) ?_
      rw [← Option.some.inj hr]
      exact fin_h C hV hS rfl dL_noteOf_16
    have hr := ie b hr
    by_cases b : n = 3
    · subst b
      have hr := it rfl hr
      obtain rfl : "java/lang/IllegalArgumentException" = E := Option.some.inj hE
      refine vx_catch hown [⟨0, 10, 13, 42⟩] ⟨0, 10, 17, 53⟩ [] ht (List.forall_mem_cons.mpr ⟨Or.inr ⟨by decide, "java/lang/IndexOutOfBoundsException", hts _ q_865, hK.2.2.2 ("java/lang/IllegalArgumentException", "java/lang/IndexOutOfBoundsException") (by decide)⟩, fun _ h => nomatch h⟩) (by decide) (by decide) (hts _ q_933) (va_Nw.use rfl (hK.2.1 _ q_952)) h1 h2 h3 ?_
      refine lv_astore (lv' := [(4, .ref q9), (0, .ref (b0 + 0)), (1, .int x1), (2, .int x2), (3, .ref (b0 + 216))]) hx hb dL_noteOf_17 hl (by decide) rfl (fun ls hl => ?_)
      refine lv_iconst (v := 2) hx hb dL_noteOf_19 (by decide) ?_
      rw [← Option.some.inj hr]
      exact fin_h C hV hS rfl dL_noteOf_20
    have hr := ie b hr
    cases hr
  · rw [hn] at hr
    have hr : (some (0, up V 216 0 r)) = some res := hr
    refine lv_i2l (v := r.toInt64) hx hb dL_noteOf_8 rfl ?_
    refine s_28 (x := r) C hV hS dL_noteOf_9 (fun H locs hV hS => ?_)
    refine lv_goto (tgt := 21) hx hb dL_noteOf_10 (by decide) ?_
    refine lv_iconst (v := 0) hx hb dL_noteOf_21 (by decide) ?_
    rw [← Option.some.inj hr]
    exact fin_h C hV hS rfl dL_noteOf_22
theorem dk_L_least : dOk yL_least 3 := ⟨by decide +kernel, by decide +kernel, by decide +kernel⟩
set_option maxHeartbeats 4000000 in
set_option maxRecDepth 100000 in
theorem c_L_least (l : Launch) (hfl : l.stackTraces = false) (G : LG) (b0 : Nat) (V : St) (x1 : Int32) (res : Int32 × St) (hr : f_L_least V x1 = some res) : Met l yL_least (wyH yL_least cL_least 4 (some .int) [(0, 9, 12, 42), (0, 9, 15, 48)]) (rmx 7) (va_Pc [.ref (b0 + 0), .int x1, .ref (b0 + 216)] (Iv G b0 V)) (QI G b0 res.1 res.2) 1 6 (Ab b0) := by
  refine mk_h (by decide +kernel) (Nat.le_of_ble_eq_true rfl) ?_
  intro p e s m below meth c C ht hV hS ls hl
  obtain ⟨args, hargs⟩ : ∃ z, z = ([.ref (b0 + 0), .int x1, .ref (b0 + 216)] : List Value).toArray := ⟨_, rfl⟩
  rw [← hargs] at C ⊢
  obtain ⟨hx, hb, hrt, hml, hown, hts, hlocks, hK, hSv⟩ := id C
  have hl : lv_has ls 4 [(0, .ref (b0 + 0)), (1, .int x1), (2, .ref (b0 + 216))] := hl
  unfold f_L_least at hr
  refine lv_aload_n hx hb dL_least_0 rfl (lv_at hl 2 rfl) ?_
  refine lv_iconst (v := 0) hx hb dL_least_1 (by decide) ?_
  refine lv_aload_n hx hb dL_least_2 rfl (lv_at hl 0 rfl) ?_
  refine lv_iload_n hx hb dL_least_3 rfl (lv_at hl 1 rfl) ?_
  obtain ⟨q1, e1, hr⟩ := ob hr
  refine xcal_i (As := [.int x1]) (rest := [.int 0, .ref (b0 + 216)]) C hV hS (c_X9_least l hfl G b0 V x1 q1 e1) (rcv hK hV (kd_lt z_0 (by decide)) (cel_0 z_0) rfl) q_1012 q_1013 q_1014 q_141 q_1015 dk_X9_least (rmx_ok2 (by decide) (by decide)) hl.1 rfl (Nat.le_of_ble_eq_true rfl) dL_least_4 ⟨Nat.le_refl _, Nat.le_refl _⟩ (fun n E ce q9 H locs hn hE hV hS h1 h2 h3 => ?_) (fun r H locs hn hV hS => ?_)
  · rw [hn] at hr
    have hr : (if n = 1 then some (1, q1.2) else if n = 2 then some (2, q1.2) else none) = some res := hr
    by_cases b : n = 1
    · subst b
      have hr := it rfl hr
      obtain rfl : "java/lang/IndexOutOfBoundsException" = E := Option.some.inj hE
      refine vx_catch hown [] ⟨0, 9, 12, 42⟩ [⟨0, 9, 15, 48⟩] ht (fun _ h => nomatch h) (by decide) (by decide) (hts _ q_865) (va_Nw.use rfl (hK.2.1 _ q_895)) h1 h2 h3 ?_
      refine lv_astore_n (lv' := [(3, .ref q9), (0, .ref (b0 + 0)), (1, .int x1), (2, .ref (b0 + 216))]) hx hb dL_least_12 rfl hl (by decide) rfl (fun ls hl => ?_)
      refine lv_iconst (v := 1) hx hb dL_least_13 (by decide) ?_
      rw [← Option.some.inj hr]
      exact fin_h C hV hS rfl dL_least_14
    have hr := ie b hr
    by_cases b : n = 2
    · subst b
      have hr := it rfl hr
      obtain rfl : "java/util/NoSuchElementException" = E := Option.some.inj hE
      refine vx_catch hown [⟨0, 9, 12, 42⟩] ⟨0, 9, 15, 48⟩ [] ht (List.forall_mem_cons.mpr ⟨Or.inr ⟨by decide, "java/lang/IndexOutOfBoundsException", hts _ q_865, hK.2.2.2 ("java/util/NoSuchElementException", "java/lang/IndexOutOfBoundsException") (by decide)⟩, fun _ h => nomatch h⟩) (by decide) (by decide) (hts _ q_909) (va_Nw.use rfl (hK.2.1 _ q_916)) h1 h2 h3 ?_
      refine lv_astore_n (lv' := [(3, .ref q9), (0, .ref (b0 + 0)), (1, .int x1), (2, .ref (b0 + 216))]) hx hb dL_least_15 rfl hl (by decide) rfl (fun ls hl => ?_)
      refine lv_iconst (v := 2) hx hb dL_least_16 (by decide) ?_
      rw [← Option.some.inj hr]
      exact fin_h C hV hS rfl dL_least_17
    have hr := ie b hr
    cases hr
  · rw [hn] at hr
    have hr : (some (0, up q1.2 216 0 r)) = some res := hr
    refine lv_i2l (v := r.toInt64) hx hb dL_least_7 rfl ?_
    refine s_28 (x := r) C hV hS dL_least_8 (fun H locs hV hS => ?_)
    refine lv_goto (tgt := 18) hx hb dL_least_9 (by decide) ?_
    refine lv_iconst (v := 0) hx hb dL_least_18 (by decide) ?_
    rw [← Option.some.inj hr]
    exact fin_h C hV hS rfl dL_least_19
theorem dk_L_leastAgain : dOk yL_leastAgain 3 := ⟨by decide +kernel, by decide +kernel, by decide +kernel⟩
set_option maxHeartbeats 4000000 in
set_option maxRecDepth 100000 in
theorem c_L_leastAgain (l : Launch) (hfl : l.stackTraces = false) (G : LG) (b0 : Nat) (V : St) (x1 : Int32) (res : Int32 × St) (hr : f_L_leastAgain V x1 = some res) : Met l yL_leastAgain (wyH yL_leastAgain cL_leastAgain 4 (some .int) [(0, 9, 12, 42), (0, 9, 15, 48)]) (rmx 7) (va_Pc [.ref (b0 + 0), .int x1, .ref (b0 + 216)] (Iv G b0 V)) (QI G b0 res.1 res.2) 1 6 (Ab b0) := by
  refine mk_h (by decide +kernel) (Nat.le_of_ble_eq_true rfl) ?_
  intro p e s m below meth c C ht hV hS ls hl
  obtain ⟨args, hargs⟩ : ∃ z, z = ([.ref (b0 + 0), .int x1, .ref (b0 + 216)] : List Value).toArray := ⟨_, rfl⟩
  rw [← hargs] at C ⊢
  obtain ⟨hx, hb, hrt, hml, hown, hts, hlocks, hK, hSv⟩ := id C
  have hl : lv_has ls 4 [(0, .ref (b0 + 0)), (1, .int x1), (2, .ref (b0 + 216))] := hl
  unfold f_L_leastAgain at hr
  refine lv_aload_n hx hb dL_leastAgain_0 rfl (lv_at hl 2 rfl) ?_
  refine lv_iconst (v := 0) hx hb dL_leastAgain_1 (by decide) ?_
  refine lv_aload_n hx hb dL_leastAgain_2 rfl (lv_at hl 0 rfl) ?_
  refine lv_iload_n hx hb dL_leastAgain_3 rfl (lv_at hl 1 rfl) ?_
  obtain ⟨q1, e1, hr⟩ := ob hr
  refine xcal_i (As := [.int x1]) (rest := [.int 0, .ref (b0 + 216)]) C hV hS (c_X9_leastAgain l hfl G b0 V x1 q1 e1) (rcv hK hV (kd_lt z_0 (by decide)) (cel_0 z_0) rfl) q_1022 q_1023 q_1024 q_141 q_1025 dk_X9_leastAgain (rmx_ok2 (by decide) (by decide)) hl.1 rfl (Nat.le_of_ble_eq_true rfl) dL_leastAgain_4 ⟨Nat.le_refl _, Nat.le_refl _⟩ (fun n E ce q9 H locs hn hE hV hS h1 h2 h3 => ?_) (fun r H locs hn hV hS => ?_)
  · rw [hn] at hr
    have hr : (if n = 1 then some (1, V) else if n = 2 then some (2, V) else none) = some res := hr
    by_cases b : n = 1
    · subst b
      have hr := it rfl hr
      obtain rfl : "java/lang/IndexOutOfBoundsException" = E := Option.some.inj hE
      refine vx_catch hown [] ⟨0, 9, 12, 42⟩ [⟨0, 9, 15, 48⟩] ht (fun _ h => nomatch h) (by decide) (by decide) (hts _ q_865) (va_Nw.use rfl (hK.2.1 _ q_895)) h1 h2 h3 ?_
      refine lv_astore_n (lv' := [(3, .ref q9), (0, .ref (b0 + 0)), (1, .int x1), (2, .ref (b0 + 216))]) hx hb dL_leastAgain_12 rfl hl (by decide) rfl (fun ls hl => ?_)
      refine lv_iconst (v := 1) hx hb dL_leastAgain_13 (by decide) ?_
      rw [← Option.some.inj hr]
      exact fin_h C hV hS rfl dL_leastAgain_14
    have hr := ie b hr
    by_cases b : n = 2
    · subst b
      have hr := it rfl hr
      obtain rfl : "java/util/NoSuchElementException" = E := Option.some.inj hE
      refine vx_catch hown [⟨0, 9, 12, 42⟩] ⟨0, 9, 15, 48⟩ [] ht (List.forall_mem_cons.mpr ⟨Or.inr ⟨by decide, "java/lang/IndexOutOfBoundsException", hts _ q_865, hK.2.2.2 ("java/util/NoSuchElementException", "java/lang/IndexOutOfBoundsException") (by decide)⟩, fun _ h => nomatch h⟩) (by decide) (by decide) (hts _ q_909) (va_Nw.use rfl (hK.2.1 _ q_916)) h1 h2 h3 ?_
      refine lv_astore_n (lv' := [(3, .ref q9), (0, .ref (b0 + 0)), (1, .int x1), (2, .ref (b0 + 216))]) hx hb dL_leastAgain_15 rfl hl (by decide) rfl (fun ls hl => ?_)
      refine lv_iconst (v := 2) hx hb dL_leastAgain_16 (by decide) ?_
      rw [← Option.some.inj hr]
      exact fin_h C hV hS rfl dL_leastAgain_17
    have hr := ie b hr
    cases hr
  · rw [hn] at hr
    have hr : (some (0, up V 216 0 r)) = some res := hr
    refine lv_i2l (v := r.toInt64) hx hb dL_leastAgain_7 rfl ?_
    refine s_28 (x := r) C hV hS dL_leastAgain_8 (fun H locs hV hS => ?_)
    refine lv_goto (tgt := 18) hx hb dL_leastAgain_9 (by decide) ?_
    refine lv_iconst (v := 0) hx hb dL_leastAgain_18 (by decide) ?_
    rw [← Option.some.inj hr]
    exact fin_h C hV hS rfl dL_leastAgain_19
