theorem dk_L_bestMend : dOk yL_bestMend 4 := ⟨by decide +kernel, by decide +kernel, by decide +kernel⟩
set_option maxHeartbeats 4000000 in
set_option maxRecDepth 100000 in
theorem c_L_bestMend (l : Launch) (hfl : l.stackTraces = false) (G : LG) (b0 : Nat) (V : St) (x1 : Int32) (x2 : Int32) (res : Int32 × St) (hr : f_L_bestMend V x1 x2 = some res) : Met l yL_bestMend (wyH yL_bestMend cL_bestMend 5 (some .int) [(0, 10, 13, 42), (0, 10, 17, 48)]) (rmx 7) (va_Pc [.ref (b0 + 0), .int x1, .int x2, .ref (b0 + 216)] (Iv G b0 V)) (QI G b0 res.1 res.2) 1 6 (Ab b0) := by
  refine mk_h (by decide +kernel) (Nat.le_of_ble_eq_true rfl) ?_
  intro p e s m below meth c C ht hV hS ls hl
  obtain ⟨args, hargs⟩ : ∃ z, z = ([.ref (b0 + 0), .int x1, .int x2, .ref (b0 + 216)] : List Value).toArray := ⟨_, rfl⟩
  rw [← hargs] at C ⊢
  obtain ⟨hx, hb, hrt, hml, hown, hts, hlocks, hK, hSv⟩ := id C
  have hl : lv_has ls 5 [(0, .ref (b0 + 0)), (1, .int x1), (2, .int x2), (3, .ref (b0 + 216))] := hl
  unfold f_L_bestMend at hr
  refine lv_aload_n hx hb dL_bestMend_0 rfl (lv_at hl 3 rfl) ?_
  refine lv_iconst (v := 0) hx hb dL_bestMend_1 (by decide) ?_
  refine lv_aload_n hx hb dL_bestMend_2 rfl (lv_at hl 0 rfl) ?_
  refine lv_iload_n hx hb dL_bestMend_3 rfl (lv_at hl 1 rfl) ?_
  refine lv_iload_n hx hb dL_bestMend_4 rfl (lv_at hl 2 rfl) ?_
  obtain ⟨q1, e1, hr⟩ := ob hr
  refine xcal_i (As := [.int x1, .int x2]) (rest := [.int 0, .ref (b0 + 216)]) C hV hS (c_X9_bestMend l hfl G b0 V x1 x2 q1 e1) (rcv hK hV (kd_lt z_0 (by decide)) (cel_0 z_0) rfl) q_1030 q_1031 q_1032 q_141 q_1033 dk_X9_bestMend (rmx_ok2 (by decide) (by decide)) hl.1 rfl (Nat.le_of_ble_eq_true rfl) dL_bestMend_5 ⟨Nat.le_refl _, Nat.le_refl _⟩ (fun n E ce q9 H locs hn hE hV hS h1 h2 h3 => ?_) (fun r H locs hn hV hS => ?_)
  · rw [hn] at hr
    have hr : (if n = 1 then some (1, V) else if n = 2 then some (2, V) else none) = some res := hr
    by_cases b : n = 1
    · subst b
      have hr := it rfl hr
      obtain rfl : "java/lang/IndexOutOfBoundsException" = E := Option.some.inj hE
      refine vx_catch hown [] ⟨0, 10, 13, 42⟩ [⟨0, 10, 17, 48⟩] ht (fun _ h => nomatch h) (by decide) (by decide) (hts _ q_865) (va_Nw.use rfl (hK.2.1 _ q_895)) h1 h2 h3 ?_
      refine lv_astore (lv' := [(4, .ref q9), (0, .ref (b0 + 0)), (1, .int x1), (2, .int x2), (3, .ref (b0 + 216))]) hx hb dL_bestMend_13 hl (by decide) rfl (fun ls hl => ?_)
      refine lv_iconst (v := 1) hx hb dL_bestMend_15 (by decide) ?_
      rw [← Option.some.inj hr]
      exact fin_h C hV hS rfl dL_bestMend_16
    have hr := ie b hr
    by_cases b : n = 2
    · subst b
      have hr := it rfl hr
      obtain rfl : "java/util/NoSuchElementException" = E := Option.some.inj hE
      refine vx_catch hown [⟨0, 10, 13, 42⟩] ⟨0, 10, 17, 48⟩ [] ht (List.forall_mem_cons.mpr ⟨Or.inr ⟨by decide, "java/lang/IndexOutOfBoundsException", hts _ q_865, hK.2.2.2 ("java/util/NoSuchElementException", "java/lang/IndexOutOfBoundsException") (by decide)⟩, fun _ h => nomatch h⟩) (by decide) (by decide) (hts _ q_909) (va_Nw.use rfl (hK.2.1 _ q_916)) h1 h2 h3 ?_
      refine lv_astore (lv' := [(4, .ref q9), (0, .ref (b0 + 0)), (1, .int x1), (2, .int x2), (3, .ref (b0 + 216))]) hx hb dL_bestMend_17 hl (by decide) rfl (fun ls hl => ?_)
      refine lv_iconst (v := 2) hx hb dL_bestMend_19 (by decide) ?_
      rw [← Option.some.inj hr]
      exact fin_h C hV hS rfl dL_bestMend_20
    have hr := ie b hr
    cases hr
  · rw [hn] at hr
    have hr : (some (0, up V 216 0 r)) = some res := hr
    refine lv_i2l (v := r.toInt64) hx hb dL_bestMend_8 rfl ?_
    refine s_28 (x := r) C hV hS dL_bestMend_9 (fun H locs hV hS => ?_)
    refine lv_goto (tgt := 21) hx hb dL_bestMend_10 (by decide) ?_
    refine lv_iconst (v := 0) hx hb dL_bestMend_21 (by decide) ?_
    rw [← Option.some.inj hr]
    exact fin_h C hV hS rfl dL_bestMend_22
theorem dk_L_ranked : dOk yL_ranked 4 := ⟨by decide +kernel, by decide +kernel, by decide +kernel⟩
set_option maxHeartbeats 4000000 in
set_option maxRecDepth 100000 in
theorem c_L_ranked (l : Launch) (hfl : l.stackTraces = false) (G : LG) (b0 : Nat) (V : St) (x1 : Int32) (x2 : Int32) (res : Int32 × St) (hr : f_L_ranked V x1 x2 = some res) : Met l yL_ranked (wyH yL_ranked cL_ranked 5 (some .int) [(0, 10, 13, 42), (0, 10, 17, 48)]) (rmx 7) (va_Pc [.ref (b0 + 0), .int x1, .int x2, .ref (b0 + 216)] (Iv G b0 V)) (QI G b0 res.1 res.2) 1 6 (Ab b0) := by
  refine mk_h (by decide +kernel) (Nat.le_of_ble_eq_true rfl) ?_
  intro p e s m below meth c C ht hV hS ls hl
  obtain ⟨args, hargs⟩ : ∃ z, z = ([.ref (b0 + 0), .int x1, .int x2, .ref (b0 + 216)] : List Value).toArray := ⟨_, rfl⟩
  rw [← hargs] at C ⊢
  obtain ⟨hx, hb, hrt, hml, hown, hts, hlocks, hK, hSv⟩ := id C
  have hl : lv_has ls 5 [(0, .ref (b0 + 0)), (1, .int x1), (2, .int x2), (3, .ref (b0 + 216))] := hl
  unfold f_L_ranked at hr
  refine lv_aload_n hx hb dL_ranked_0 rfl (lv_at hl 3 rfl) ?_
  refine lv_iconst (v := 0) hx hb dL_ranked_1 (by decide) ?_
  refine lv_aload_n hx hb dL_ranked_2 rfl (lv_at hl 0 rfl) ?_
  refine lv_iload_n hx hb dL_ranked_3 rfl (lv_at hl 1 rfl) ?_
  refine lv_iload_n hx hb dL_ranked_4 rfl (lv_at hl 2 rfl) ?_
  obtain ⟨q1, e1, hr⟩ := ob hr
  refine xcal_i (As := [.int x1, .int x2]) (rest := [.int 0, .ref (b0 + 216)]) C hV hS (c_X9_ranked l hfl G b0 V x1 x2 q1 e1) (rcv hK hV (kd_lt z_0 (by decide)) (cel_0 z_0) rfl) q_1049 q_1050 q_1051 q_141 q_1052 dk_X9_ranked (rmx_ok2 (by decide) (by decide)) hl.1 rfl (Nat.le_of_ble_eq_true rfl) dL_ranked_5 ⟨Nat.le_refl _, Nat.le_refl _⟩ (fun n E ce q9 H locs hn hE hV hS h1 h2 h3 => ?_) (fun r H locs hn hV hS => ?_)
  · rw [hn] at hr
    have hr : (if n = 1 then some (1, V) else if n = 2 then some (2, V) else none) = some res := hr
    by_cases b : n = 1
    · subst b
      have hr := it rfl hr
      obtain rfl : "java/lang/IndexOutOfBoundsException" = E := Option.some.inj hE
      refine vx_catch hown [] ⟨0, 10, 13, 42⟩ [⟨0, 10, 17, 48⟩] ht (fun _ h => nomatch h) (by decide) (by decide) (hts _ q_865) (va_Nw.use rfl (hK.2.1 _ q_895)) h1 h2 h3 ?_
      refine lv_astore (lv' := [(4, .ref q9), (0, .ref (b0 + 0)), (1, .int x1), (2, .int x2), (3, .ref (b0 + 216))]) hx hb dL_ranked_13 hl (by decide) rfl (fun ls hl => ?_)
      refine lv_iconst (v := 1) hx hb dL_ranked_15 (by decide) ?_
      rw [← Option.some.inj hr]
      exact fin_h C hV hS rfl dL_ranked_16
    have hr := ie b hr
    by_cases b : n = 2
    · subst b
      have hr := it rfl hr
      obtain rfl : "java/util/NoSuchElementException" = E := Option.some.inj hE
      refine vx_catch hown [⟨0, 10, 13, 42⟩] ⟨0, 10, 17, 48⟩ [] ht (List.forall_mem_cons.mpr ⟨Or.inr ⟨by decide, "java/lang/IndexOutOfBoundsException", hts _ q_865, hK.2.2.2 ("java/util/NoSuchElementException", "java/lang/IndexOutOfBoundsException") (by decide)⟩, fun _ h => nomatch h⟩) (by decide) (by decide) (hts _ q_909) (va_Nw.use rfl (hK.2.1 _ q_916)) h1 h2 h3 ?_
      refine lv_astore (lv' := [(4, .ref q9), (0, .ref (b0 + 0)), (1, .int x1), (2, .int x2), (3, .ref (b0 + 216))]) hx hb dL_ranked_17 hl (by decide) rfl (fun ls hl => ?_)
      refine lv_iconst (v := 2) hx hb dL_ranked_19 (by decide) ?_
      rw [← Option.some.inj hr]
      exact fin_h C hV hS rfl dL_ranked_20
    have hr := ie b hr
    cases hr
  · rw [hn] at hr
    have hr : (some (0, up V 216 0 r)) = some res := hr
    refine lv_i2l (v := r.toInt64) hx hb dL_ranked_8 rfl ?_
    refine s_28 (x := r) C hV hS dL_ranked_9 (fun H locs hV hS => ?_)
    refine lv_goto (tgt := 21) hx hb dL_ranked_10 (by decide) ?_
    refine lv_iconst (v := 0) hx hb dL_ranked_21 (by decide) ?_
    rw [← Option.some.inj hr]
    exact fin_h C hV hS rfl dL_ranked_22
theorem dk_L_editorOf : dOk yL_editorOf 4 := ⟨by decide +kernel, by decide +kernel, by decide +kernel⟩
set_option maxHeartbeats 4000000 in
set_option maxRecDepth 100000 in
theorem c_L_editorOf (l : Launch) (hfl : l.stackTraces = false) (G : LG) (b0 : Nat) (V : St) (x1 : Int32) (x2 : Int32) (res : Int32 × St) (hr : f_L_editorOf V x1 x2 = some res) : Met l yL_editorOf (wyH yL_editorOf cL_editorOf 5 (some .int) [(0, 10, 13, 42), (0, 10, 17, 53)]) (rmx 7) (va_Pc [.ref (b0 + 0), .int x1, .int x2, .ref (b0 + 216)] (Iv G b0 V)) (QI G b0 res.1 res.2) 1 6 (Ab b0) := by
  refine mk_h (by decide +kernel) (Nat.le_of_ble_eq_true rfl) ?_
  intro p e s m below meth c C ht hV hS ls hl
  obtain ⟨args, hargs⟩ : ∃ z, z = ([.ref (b0 + 0), .int x1, .int x2, .ref (b0 + 216)] : List Value).toArray := ⟨_, rfl⟩
  rw [← hargs] at C ⊢
  obtain ⟨hx, hb, hrt, hml, hown, hts, hlocks, hK, hSv⟩ := id C
  have hl : lv_has ls 5 [(0, .ref (b0 + 0)), (1, .int x1), (2, .int x2), (3, .ref (b0 + 216))] := hl
  unfold f_L_editorOf at hr
  refine lv_aload_n hx hb dL_editorOf_0 rfl (lv_at hl 3 rfl) ?_
  refine lv_iconst (v := 0) hx hb dL_editorOf_1 (by decide) ?_
  refine lv_aload_n hx hb dL_editorOf_2 rfl (lv_at hl 0 rfl) ?_
  refine lv_iload_n hx hb dL_editorOf_3 rfl (lv_at hl 1 rfl) ?_
  refine lv_iload_n hx hb dL_editorOf_4 rfl (lv_at hl 2 rfl) ?_
  obtain ⟨q1, e1, hr⟩ := ob hr
  refine xcal_i (As := [.int x1, .int x2]) (rest := [.int 0, .ref (b0 + 216)]) C hV hS (c_X9_editorOf l hfl G b0 V x1 x2 q1 e1) (rcv hK hV (kd_lt z_0 (by decide)) (cel_0 z_0) rfl) q_1062 q_1063 q_1064 q_141 q_1065 dk_X9_editorOf (rmx_ok2 (by decide) (by decide)) hl.1 rfl (Nat.le_of_ble_eq_true rfl) dL_editorOf_5 ⟨Nat.le_refl _, Nat.le_refl _⟩ (fun n E ce q9 H locs hn hE hV hS h1 h2 h3 => ?_) (fun r H locs hn hV hS => ?_)
  · rw [hn] at hr
    have hr : (if n = 1 then some (1, V) else if n = 3 then some (2, V) else none) = some res := hr
    by_cases b : n = 1
    · subst b
      have hr := it rfl hr
      obtain rfl : "java/lang/IndexOutOfBoundsException" = E := Option.some.inj hE
      refine vx_catch hown [] ⟨0, 10, 13, 42⟩ [⟨0, 10, 17, 53⟩] ht (fun _ h => nomatch h) (by decide) (by decide) (hts _ q_865) (va_Nw.use rfl (hK.2.1 _ q_895)) h1 h2 h3 ?_
      refine lv_astore (lv' := [(4, .ref q9), (0, .ref (b0 + 0)), (1, .int x1), (2, .int x2), (3, .ref (b0 + 216))]) hx hb dL_editorOf_13 hl (by decide) rfl (fun ls hl => ?_)
      refine lv_iconst (v := 1) hx hb dL_editorOf_15 (by decide) ?_
      rw [← Option.some.inj hr]
      exact fin_h C hV hS rfl dL_editorOf_16
    have hr := ie b hr
    by_cases b : n = 3
    · subst b
      have hr := it rfl hr
      obtain rfl : "java/lang/IllegalArgumentException" = E := Option.some.inj hE
      refine vx_catch hown [⟨0, 10, 13, 42⟩] ⟨0, 10, 17, 53⟩ [] ht (List.forall_mem_cons.mpr ⟨Or.inr ⟨by decide, "java/lang/IndexOutOfBoundsException", hts _ q_865, hK.2.2.2 ("java/lang/IllegalArgumentException", "java/lang/IndexOutOfBoundsException") (by decide)⟩, fun _ h => nomatch h⟩) (by decide) (by decide) (hts _ q_933) (va_Nw.use rfl (hK.2.1 _ q_952)) h1 h2 h3 ?_
      refine lv_astore (lv' := [(4, .ref q9), (0, .ref (b0 + 0)), (1, .int x1), (2, .int x2), (3, .ref (b0 + 216))]) hx hb dL_editorOf_17 hl (by decide) rfl (fun ls hl => ?_)
      refine lv_iconst (v := 2) hx hb dL_editorOf_19 (by decide) ?_
      rw [← Option.some.inj hr]
      exact fin_h C hV hS rfl dL_editorOf_20
    have hr := ie b hr
    cases hr
  · rw [hn] at hr
    have hr : (some (0, up V 216 0 r)) = some res := hr
    refine lv_i2l (v := r.toInt64) hx hb dL_editorOf_8 rfl ?_
    refine s_28 (x := r) C hV hS dL_editorOf_9 (fun H locs hV hS => ?_)
    refine lv_goto (tgt := 21) hx hb dL_editorOf_10 (by decide) ?_
    refine lv_iconst (v := 0) hx hb dL_editorOf_21 (by decide) ?_
    rw [← Option.some.inj hr]
    exact fin_h C hV hS rfl dL_editorOf_22
theorem dk_L_feed : dOk yL_feed 3 := ⟨by decide +kernel, by decide +kernel, by decide +kernel⟩
set_option maxHeartbeats 4000000 in
set_option maxRecDepth 100000 in
theorem c_L_feed (l : Launch) (hfl : l.stackTraces = false) (G : LG) (b0 : Nat) (V : St) (x1 : Int32) (res : Int32 × St) (hr : f_L_feed V x1 = some res) : Met l yL_feed (wyH yL_feed cL_feed 4 (some .int) [(0, 9, 12, 87)]) (rmx 7) (va_Pc [.ref (b0 + 0), .int x1, .ref (b0 + 216)] (Iv G b0 V)) (QI G b0 res.1 res.2) 1 6 (Ab b0) := by
  refine mk_h (by decide +kernel) (Nat.le_of_ble_eq_true rfl) ?_
  intro p e s m below meth c C ht hV hS ls hl
  obtain ⟨args, hargs⟩ : ∃ z, z = ([.ref (b0 + 0), .int x1, .ref (b0 + 216)] : List Value).toArray := ⟨_, rfl⟩
  rw [← hargs] at C ⊢
  obtain ⟨hx, hb, hrt, hml, hown, hts, hlocks, hK, hSv⟩ := id C
  have hl : lv_has ls 4 [(0, .ref (b0 + 0)), (1, .int x1), (2, .ref (b0 + 216))] := hl
  unfold f_L_feed at hr
  refine lv_aload_n hx hb dL_feed_0 rfl (lv_at hl 2 rfl) ?_
  refine lv_iconst (v := 0) hx hb dL_feed_1 (by decide) ?_
  refine lv_aload_n hx hb dL_feed_2 rfl (lv_at hl 0 rfl) ?_
  refine lv_iload_n hx hb dL_feed_3 rfl (lv_at hl 1 rfl) ?_
  obtain ⟨q1, e1, hr⟩ := ob hr
  refine xcal_i (As := [.int x1]) (rest := [.int 0, .ref (b0 + 216)]) C hV hS (c_X9_feed l hfl G b0 V x1 q1 e1) (rcv hK hV (kd_lt z_0 (by decide)) (cel_0 z_0) rfl) q_1071 q_1072 q_1073 q_141 q_1074 dk_X9_feed (rmx_ok2 (by decide) (by decide)) hl.1 rfl (Nat.le_of_ble_eq_true rfl) dL_feed_4 ⟨Nat.le_refl _, Nat.le_refl _⟩ (fun n E ce q9 H locs hn hE hV hS h1 h2 h3 => ?_) (fun r H locs hn hV hS => ?_)
  · rw [hn] at hr
    have hr : (if n = 4 then some (1, q1.2) else none) = some res := hr
    by_cases b : n = 4
    · subst b
      have hr := it rfl hr
      obtain rfl : "java/lang/IllegalStateException" = E := Option.some.inj hE
      refine vx_catch hown [] ⟨0, 9, 12, 87⟩ [] ht (fun _ h => nomatch h) (by decide) (by decide) (hts _ q_1070) (va_Nw.use rfl (hK.2.1 _ q_1081)) h1 h2 h3 ?_
      refine lv_astore_n (lv' := [(3, .ref q9), (0, .ref (b0 + 0)), (1, .int x1), (2, .ref (b0 + 216))]) hx hb dL_feed_12 rfl hl (by decide) rfl (fun ls hl => ?_)
      refine lv_iconst (v := 1) hx hb dL_feed_13 (by decide) ?_
      rw [← Option.some.inj hr]
      exact fin_h C hV hS rfl dL_feed_14
    have hr := ie b hr
    cases hr
  · rw [hn] at hr
    have hr : (some (0, up q1.2 216 0 r)) = some res := hr
    refine lv_i2l (v := r.toInt64) hx hb dL_feed_7 rfl ?_
    refine s_28 (x := r) C hV hS dL_feed_8 (fun H locs hV hS => ?_)
    refine lv_goto (tgt := 15) hx hb dL_feed_9 (by decide) ?_
    refine lv_iconst (v := 0) hx hb dL_feed_15 (by decide) ?_
    rw [← Option.some.inj hr]
    exact fin_h C hV hS rfl dL_feed_16
theorem dk_L_run : dOk yL_run 2 := ⟨by decide +kernel, by decide +kernel, by decide +kernel⟩
set_option maxHeartbeats 4000000 in
set_option maxRecDepth 100000 in
theorem c_L_run (l : Launch) (hfl : l.stackTraces = false) (G : LG) (b0 : Nat) (V : St) (res : Int32 × St) (hr : f_L_run V = some res) : Met l yL_run (wyH yL_run cL_run 3 (some .int) [(0, 8, 11, 53), (0, 8, 14, 13)]) (rmx 9) (va_Pc [.ref (b0 + 0), .ref (b0 + 216)] (Iv G b0 V)) (QI G b0 res.1 res.2) 1 6 (Ab b0) := by
  refine mk_h (by decide +kernel) (Nat.le_of_ble_eq_true rfl) ?_
  intro p e s m below meth c C ht hV hS ls hl
  obtain ⟨args, hargs⟩ : ∃ z, z = ([.ref (b0 + 0), .ref (b0 + 216)] : List Value).toArray := ⟨_, rfl⟩
  rw [← hargs] at C ⊢
  obtain ⟨hx, hb, hrt, hml, hown, hts, hlocks, hK, hSv⟩ := id C
  have hl : lv_has ls 3 [(0, .ref (b0 + 0)), (1, .ref (b0 + 216))] := hl
  unfold f_L_run at hr
  refine lv_aload_n hx hb dL_run_0 rfl (lv_at hl 1 rfl) ?_
  refine lv_iconst (v := 0) hx hb dL_run_1 (by decide) ?_
  refine lv_aload_n hx hb dL_run_2 rfl (lv_at hl 0 rfl) ?_
  obtain ⟨q1, e1, hr⟩ := ob hr
  refine xcal_i (As := []) (rest := [.int 0, .ref (b0 + 216)]) C hV hS (c_X9_run l hfl G b0 V q1 e1) (rcv hK hV (kd_lt z_0 (by decide)) (cel_0 z_0) rfl) q_1102 q_1103 q_1104 q_141 q_1105 dk_X9_run (rmx_ok2 (by decide) (by decide)) hl.1 rfl (Nat.le_of_ble_eq_true rfl) dL_run_3 ⟨Nat.le_refl _, Nat.le_refl _⟩ (fun n E ce q9 H locs hn hE hV hS h1 h2 h3 => ?_) (fun r H locs hn hV hS => ?_)
  · rw [hn] at hr
    have hr : (if n = 3 then some (1, q1.2) else if n = 0 then some (2, q1.2) else none) = some res := hr
    by_cases b : n = 3
    · subst b
      have hr := it rfl hr
      obtain rfl : "java/lang/IllegalArgumentException" = E := Option.some.inj hE
      refine vx_catch hown [] ⟨0, 8, 11, 53⟩ [⟨0, 8, 14, 13⟩] ht (fun _ h => nomatch h) (by decide) (by decide) (hts _ q_933) (va_Nw.use rfl (hK.2.1 _ q_952)) h1 h2 h3 ?_
      refine lv_astore_n (lv' := [(2, .ref q9), (0, .ref (b0 + 0)), (1, .ref (b0 + 216))]) hx hb dL_run_11 rfl hl (by decide) rfl (fun ls hl => ?_)
      refine lv_iconst (v := 1) hx hb dL_run_12 (by decide) ?_
      rw [← Option.some.inj hr]
      exact fin_h C hV hS rfl dL_run_13
    have hr := ie b hr
    by_cases b : n = 0
    · subst b
      have hr := it rfl hr
      obtain rfl : "java/lang/UnsupportedOperationException" = E := Option.some.inj hE
      refine vx_catch hown [⟨0, 8, 11, 53⟩] ⟨0, 8, 14, 13⟩ [] ht (List.forall_mem_cons.mpr ⟨Or.inr ⟨by decide, "java/lang/IllegalArgumentException", hts _ q_933, hK.2.2.2 ("java/lang/UnsupportedOperationException", "java/lang/IllegalArgumentException") (by decide)⟩, fun _ h => nomatch h⟩) (by decide) (by decide) (hts _ q_570) (va_Nw.use rfl (hK.2.1 _ q_601)) h1 h2 h3 ?_
      refine lv_astore_n (lv' := [(2, .ref q9), (0, .ref (b0 + 0)), (1, .ref (b0 + 216))]) hx hb dL_run_14 rfl hl (by decide) rfl (fun ls hl => ?_)
      refine lv_iconst (v := 2) hx hb dL_run_15 (by decide) ?_
      rw [← Option.some.inj hr]
      exact fin_h C hV hS rfl dL_run_16
    have hr := ie b hr
    cases hr
  · rw [hn] at hr
    have hr : (some (0, up q1.2 216 0 r)) = some res := hr
    refine lv_i2l (v := r.toInt64) hx hb dL_run_6 rfl ?_
    refine s_28 (x := r) C hV hS dL_run_7 (fun H locs hV hS => ?_)
    refine lv_goto (tgt := 17) hx hb dL_run_8 (by decide) ?_
    refine lv_iconst (v := 0) hx hb dL_run_17 (by decide) ?_
    rw [← Option.some.inj hr]
    exact fin_h C hV hS rfl dL_run_18
theorem dk_L_faultPosition : dOk yL_faultPosition 2 := ⟨by decide +kernel, by decide +kernel, by decide +kernel⟩
set_option maxHeartbeats 4000000 in
set_option maxRecDepth 100000 in
theorem c_L_faultPosition (l : Launch) (hfl : l.stackTraces = false) (G : LG) (b0 : Nat) (V : St) (res : Int32 × St) (hr : f_L_faultPosition V = some res) : Met l yL_faultPosition (wyH yL_faultPosition cL_faultPosition 3 (some .int) [(0, 8, 11, 48)]) (rmx 7) (va_Pc [.ref (b0 + 0), .ref (b0 + 216)] (Iv G b0 V)) (QI G b0 res.1 res.2) 1 6 (Ab b0) := by
  refine mk_h (by decide +kernel) (Nat.le_of_ble_eq_true rfl) ?_
  intro p e s m below meth c C ht hV hS ls hl
  obtain ⟨args, hargs⟩ : ∃ z, z = ([.ref (b0 + 0), .ref (b0 + 216)] : List Value).toArray := ⟨_, rfl⟩
  rw [← hargs] at C ⊢
  obtain ⟨hx, hb, hrt, hml, hown, hts, hlocks, hK, hSv⟩ := id C
  have hl : lv_has ls 3 [(0, .ref (b0 + 0)), (1, .ref (b0 + 216))] := hl
  unfold f_L_faultPosition at hr
  refine lv_aload_n hx hb dL_faultPosition_0 rfl (lv_at hl 1 rfl) ?_
  refine lv_iconst (v := 0) hx hb dL_faultPosition_1 (by decide) ?_
  refine lv_aload_n hx hb dL_faultPosition_2 rfl (lv_at hl 0 rfl) ?_
  obtain ⟨q1, e1, hr⟩ := ob hr
  refine xcal_i (As := []) (rest := [.int 0, .ref (b0 + 216)]) C hV hS (c_X9_faultPosition l hfl G b0 V q1 e1) (rcv hK hV (kd_lt z_0 (by decide)) (cel_0 z_0) rfl) q_1231 q_1232 q_1233 q_141 q_1234 dk_X9_faultPosition (rmx_ok2 (by decide) (by decide)) hl.1 rfl (Nat.le_of_ble_eq_true rfl) dL_faultPosition_3 ⟨Nat.le_refl _, Nat.le_refl _⟩ (fun n E ce q9 H locs hn hE hV hS h1 h2 h3 => ?_) (fun r H locs hn hV hS => ?_)
  · rw [hn] at hr
    have hr : (if n = 2 then some (1, V) else none) = some res := hr
    by_cases b : n = 2
    · subst b
      have hr := it rfl hr
      obtain rfl : "java/util/NoSuchElementException" = E := Option.some.inj hE
      refine vx_catch hown [] ⟨0, 8, 11, 48⟩ [] ht (fun _ h => nomatch h) (by decide) (by decide) (hts _ q_909) (va_Nw.use rfl (hK.2.1 _ q_916)) h1 h2 h3 ?_
      refine lv_astore_n (lv' := [(2, .ref q9), (0, .ref (b0 + 0)), (1, .ref (b0 + 216))]) hx hb dL_faultPosition_11 rfl hl (by decide) rfl (fun ls hl => ?_)
      refine lv_iconst (v := 1) hx hb dL_faultPosition_12 (by decide) ?_
      rw [← Option.some.inj hr]
      exact fin_h C hV hS rfl dL_faultPosition_13
    have hr := ie b hr
    cases hr
  · rw [hn] at hr
    have hr : (some (0, up V 216 0 r)) = some res := hr
    refine lv_i2l (v := r.toInt64) hx hb dL_faultPosition_6 rfl ?_
    refine s_28 (x := r) C hV hS dL_faultPosition_7 (fun H locs hV hS => ?_)
    refine lv_goto (tgt := 14) hx hb dL_faultPosition_8 (by decide) ?_
    refine lv_iconst (v := 0) hx hb dL_faultPosition_14 (by decide) ?_
    rw [← Option.some.inj hr]
    exact fin_h C hV hS rfl dL_faultPosition_15
theorem dk_L_reason : dOk yL_reason 4 := ⟨by decide +kernel, by decide +kernel, by decide +kernel⟩
set_option maxHeartbeats 4000000 in
set_option maxRecDepth 100000 in
theorem c_L_reason (l : Launch) (hfl : l.stackTraces = false) (G : LG) (b0 : Nat) (V : St) (x1 : Int32) (x2 : Int32) (res : Int32 × St) (hr : f_L_reason V x1 x2 = some res) : Met l yL_reason (wyH yL_reason cL_reason 5 (some .int) [(0, 10, 13, 48)]) (rmx 7) (va_Pc [.ref (b0 + 0), .int x1, .int x2, .ref (b0 + 216)] (Iv G b0 V)) (QI G b0 res.1 res.2) 1 6 (Ab b0) := by
  refine mk_h (by decide +kernel) (Nat.le_of_ble_eq_true rfl) ?_
  intro p e s m below meth c C ht hV hS ls hl
  obtain ⟨args, hargs⟩ : ∃ z, z = ([.ref (b0 + 0), .int x1, .int x2, .ref (b0 + 216)] : List Value).toArray := ⟨_, rfl⟩
  rw [← hargs] at C ⊢
  obtain ⟨hx, hb, hrt, hml, hown, hts, hlocks, hK, hSv⟩ := id C
  have hl : lv_has ls 5 [(0, .ref (b0 + 0)), (1, .int x1), (2, .int x2), (3, .ref (b0 + 216))] := hl
  unfold f_L_reason at hr
  refine lv_aload_n hx hb dL_reason_0 rfl (lv_at hl 3 rfl) ?_
  refine lv_iconst (v := 0) hx hb dL_reason_1 (by decide) ?_
  refine lv_aload_n hx hb dL_reason_2 rfl (lv_at hl 0 rfl) ?_
  refine lv_iload_n hx hb dL_reason_3 rfl (lv_at hl 1 rfl) ?_
  refine lv_iload_n hx hb dL_reason_4 rfl (lv_at hl 2 rfl) ?_
  obtain ⟨q1, e1, hr⟩ := ob hr
  refine xcal_i (As := [.int x1, .int x2]) (rest := [.int 0, .ref (b0 + 216)]) C hV hS (c_X9_reason l hfl G b0 V x1 x2 q1 e1) (rcv hK hV (kd_lt z_0 (by decide)) (cel_0 z_0) rfl) q_1239 q_1240 q_1241 q_141 q_1242 dk_X9_reason (rmx_ok2 (by decide) (by decide)) hl.1 rfl (Nat.le_of_ble_eq_true rfl) dL_reason_5 ⟨Nat.le_refl _, Nat.le_refl _⟩ (fun n E ce q9 H locs hn hE hV hS h1 h2 h3 => ?_) (fun r H locs hn hV hS => ?_)
  · rw [hn] at hr
    have hr : (if n = 2 then some (1, V) else none) = some res := hr
    by_cases b : n = 2
    · subst b
      have hr := it rfl hr
      obtain rfl : "java/util/NoSuchElementException" = E := Option.some.inj hE
      refine vx_catch hown [] ⟨0, 10, 13, 48⟩ [] ht (fun _ h => nomatch h) (by decide) (by decide) (hts _ q_909) (va_Nw.use rfl (hK.2.1 _ q_916)) h1 h2 h3 ?_
      refine lv_astore (lv' := [(4, .ref q9), (0, .ref (b0 + 0)), (1, .int x1), (2, .int x2), (3, .ref (b0 + 216))]) hx hb dL_reason_13 hl (by decide) rfl (fun ls hl => ?_)
      refine lv_iconst (v := 1) hx hb dL_reason_15 (by decide) ?_
      rw [← Option.some.inj hr]
      exact fin_h C hV hS rfl dL_reason_16
    have hr := ie b hr
    cases hr
  · rw [hn] at hr
    have hr : (some (0, up V 216 0 r)) = some res := hr
    refine lv_i2l (v := r.toInt64) hx hb dL_reason_8 rfl ?_
    refine s_28 (x := r) C hV hS dL_reason_9 (fun H locs hV hS => ?_)
    refine lv_goto (tgt := 17) hx hb dL_reason_10 (by decide) ?_
    refine lv_iconst (v := 0) hx hb dL_reason_17 (by decide) ?_
    rw [← Option.some.inj hr]
    exact fin_h C hV hS rfl dL_reason_18
theorem dk_L_line : dOk yL_line 4 := ⟨by decide +kernel, by decide +kernel, by decide +kernel⟩
set_option maxHeartbeats 4000000 in
set_option maxRecDepth 100000 in
theorem c_L_line (l : Launch) (hfl : l.stackTraces = false) (G : LG) (b0 : Nat) (V : St) (x1 : Int32) (x2 : Int32) (res : Int32 × St) (hr : f_L_line V x1 x2 = some res) : Met l yL_line (wyH yL_line cL_line 5 (some .int) [(0, 10, 13, 42)]) (rmx 7) (va_Pc [.ref (b0 + 0), .int x1, .int x2, .ref (b0 + 216)] (Iv G b0 V)) (QI G b0 res.1 res.2) 1 6 (Ab b0) := by
  refine mk_h (by decide +kernel) (Nat.le_of_ble_eq_true rfl) ?_
  intro p e s m below meth c C ht hV hS ls hl
  obtain ⟨args, hargs⟩ : ∃ z, z = ([.ref (b0 + 0), .int x1, .int x2, .ref (b0 + 216)] : List Value).toArray := ⟨_, rfl⟩
  rw [← hargs] at C ⊢
  obtain ⟨hx, hb, hrt, hml, hown, hts, hlocks, hK, hSv⟩ := id C
  have hl : lv_has ls 5 [(0, .ref (b0 + 0)), (1, .int x1), (2, .int x2), (3, .ref (b0 + 216))] := hl
  unfold f_L_line at hr
  refine lv_aload_n hx hb dL_line_0 rfl (lv_at hl 3 rfl) ?_
  refine lv_iconst (v := 0) hx hb dL_line_1 (by decide) ?_
  refine lv_aload_n hx hb dL_line_2 rfl (lv_at hl 0 rfl) ?_
  refine lv_iload_n hx hb dL_line_3 rfl (lv_at hl 1 rfl) ?_
  refine lv_iload_n hx hb dL_line_4 rfl (lv_at hl 2 rfl) ?_
  obtain ⟨q1, e1, hr⟩ := ob hr
  refine xcal_i (As := [.int x1, .int x2]) (rest := [.int 0, .ref (b0 + 216)]) C hV hS (c_X9_line l hfl G b0 V x1 x2 q1 e1) (rcv hK hV (kd_lt z_0 (by decide)) (cel_0 z_0) rfl) q_1248 q_1249 q_1250 q_141 q_1251 dk_X9_line (rmx_ok2 (by decide) (by decide)) hl.1 rfl (Nat.le_of_ble_eq_true rfl) dL_line_5 ⟨Nat.le_refl _, Nat.le_refl _⟩ (fun n E ce q9 H locs hn hE hV hS h1 h2 h3 => ?_) (fun r H locs hn hV hS => ?_)
  · rw [hn] at hr
    have hr : (if n = 1 then some (1, q1.2) else none) = some res := hr
    by_cases b : n = 1
    · subst b
      have hr := it rfl hr
      obtain rfl : "java/lang/IndexOutOfBoundsException" = E := Option.some.inj hE
      refine vx_catch hown [] ⟨0, 10, 13, 42⟩ [] ht (fun _ h => nomatch h) (by decide) (by decide) (hts _ q_865) (va_Nw.use rfl (hK.2.1 _ q_895)) h1 h2 h3 ?_
      refine lv_astore (lv' := [(4, .ref q9), (0, .ref (b0 + 0)), (1, .int x1), (2, .int x2), (3, .ref (b0 + 216))]) hx hb dL_line_13 hl (by decide) rfl (fun ls hl => ?_)
      refine lv_iconst (v := 1) hx hb dL_line_15 (by decide) ?_
      rw [← Option.some.inj hr]
      exact fin_h C hV hS rfl dL_line_16
    have hr := ie b hr
    cases hr
  · rw [hn] at hr
    have hr : (some (0, up q1.2 216 0 r)) = some res := hr
    refine lv_i2l (v := r.toInt64) hx hb dL_line_8 rfl ?_
    refine s_28 (x := r) C hV hS dL_line_9 (fun H locs hV hS => ?_)
    refine lv_goto (tgt := 17) hx hb dL_line_10 (by decide) ?_
    refine lv_iconst (v := 0) hx hb dL_line_17 (by decide) ?_
    rw [← Option.some.inj hr]
    exact fin_h C hV hS rfl dL_line_18
theorem dk_L_chapterLine : dOk yL_chapterLine 4 := ⟨by decide +kernel, by decide +kernel, by decide +kernel⟩
set_option maxHeartbeats 4000000 in
set_option maxRecDepth 100000 in
theorem c_L_chapterLine (l : Launch) (hfl : l.stackTraces = false) (G : LG) (b0 : Nat) (V : St) (x1 : Int32) (x2 : Int32) (res : Int32 × St) (hr : f_L_chapterLine V x1 x2 = some res) : Met l yL_chapterLine (wyH yL_chapterLine cL_chapterLine 5 (some .int) [(0, 10, 13, 42), (0, 10, 17, 48)]) (rmx 7) (va_Pc [.ref (b0 + 0), .int x1, .int x2, .ref (b0 + 216)] (Iv G b0 V)) (QI G b0 res.1 res.2) 1 6 (Ab b0) := by
  refine mk_h (by decide +kernel) (Nat.le_of_ble_eq_true rfl) ?_
  intro p e s m below meth c C ht hV hS ls hl
  obtain ⟨args, hargs⟩ : ∃ z, z = ([.ref (b0 + 0), .int x1, .int x2, .ref (b0 + 216)] : List Value).toArray := ⟨_, rfl⟩
  rw [← hargs] at C ⊢
  obtain ⟨hx, hb, hrt, hml, hown, hts, hlocks, hK, hSv⟩ := id C
  have hl : lv_has ls 5 [(0, .ref (b0 + 0)), (1, .int x1), (2, .int x2), (3, .ref (b0 + 216))] := hl
  unfold f_L_chapterLine at hr
  refine lv_aload_n hx hb dL_chapterLine_0 rfl (lv_at hl 3 rfl) ?_
  refine lv_iconst (v := 0) hx hb dL_chapterLine_1 (by decide) ?_
  refine lv_aload_n hx hb dL_chapterLine_2 rfl (lv_at hl 0 rfl) ?_
  refine lv_iload_n hx hb dL_chapterLine_3 rfl (lv_at hl 1 rfl) ?_
  refine lv_iload_n hx hb dL_chapterLine_4 rfl (lv_at hl 2 rfl) ?_
  obtain ⟨q1, e1, hr⟩ := ob hr
  refine xcal_i (As := [.int x1, .int x2]) (rest := [.int 0, .ref (b0 + 216)]) C hV hS (c_X9_chapterLine l hfl G b0 V x1 x2 q1 e1) (rcv hK hV (kd_lt z_0 (by decide)) (cel_0 z_0) rfl) q_1273 q_1274 q_1275 q_141 q_1276 dk_X9_chapterLine (rmx_ok2 (by decide) (by decide)) hl.1 rfl (Nat.le_of_ble_eq_true rfl) dL_chapterLine_5 ⟨Nat.le_refl _, Nat.le_refl _⟩ (fun n E ce q9 H locs hn hE hV hS h1 h2 h3 => ?_) (fun r H locs hn hV hS => ?_)
  · rw [hn] at hr
    have hr : (if n = 1 then some (1, q1.2) else if n = 2 then some (2, q1.2) else none) = some res := hr
    by_cases b : n = 1
    · subst b
      have hr := it rfl hr
      obtain rfl : "java/lang/IndexOutOfBoundsException" = E := Option.some.inj hE
      refine vx_catch hown [] ⟨0, 10, 13, 42⟩ [⟨0, 10, 17, 48⟩] ht (fun _ h => nomatch h) (by decide) (by decide) (hts _ q_865) (va_Nw.use rfl (hK.2.1 _ q_895)) h1 h2 h3 ?_
      refine lv_astore (lv' := [(4, .ref q9), (0, .ref (b0 + 0)), (1, .int x1), (2, .int x2), (3, .ref (b0 + 216))]) hx hb dL_chapterLine_13 hl (by decide) rfl (fun ls hl => ?_)
      refine lv_iconst (v := 1) hx hb dL_chapterLine_15 (by decide) ?_
      rw [← Option.some.inj hr]
      exact fin_h C hV hS rfl dL_chapterLine_16
    have hr := ie b hr
    by_cases b : n = 2
    · subst b
      have hr := it rfl hr
      obtain rfl : "java/util/NoSuchElementException" = E := Option.some.inj hE
      refine vx_catch hown [⟨0, 10, 13, 42⟩] ⟨0, 10, 17, 48⟩ [] ht (List.forall_mem_cons.mpr ⟨Or.inr ⟨by decide, "java/lang/IndexOutOfBoundsException", hts _ q_865, hK.2.2.2 ("java/util/NoSuchElementException", "java/lang/IndexOutOfBoundsException") (by decide)⟩, fun _ h => nomatch h⟩) (by decide) (by decide) (hts _ q_909) (va_Nw.use rfl (hK.2.1 _ q_916)) h1 h2 h3 ?_
      refine lv_astore (lv' := [(4, .ref q9), (0, .ref (b0 + 0)), (1, .int x1), (2, .int x2), (3, .ref (b0 + 216))]) hx hb dL_chapterLine_17 hl (by decide) rfl (fun ls hl => ?_)
      refine lv_iconst (v := 2) hx hb dL_chapterLine_19 (by decide) ?_
      rw [← Option.some.inj hr]
      exact fin_h C hV hS rfl dL_chapterLine_20
    have hr := ie b hr
    cases hr
  · rw [hn] at hr
    have hr : (some (0, up q1.2 216 0 r)) = some res := hr
    refine lv_i2l (v := r.toInt64) hx hb dL_chapterLine_8 rfl ?_
    refine s_28 (x := r) C hV hS dL_chapterLine_9 (fun H locs hV hS => ?_)
    refine lv_goto (tgt := 21) hx hb dL_chapterLine_10 (by decide) ?_
    refine lv_iconst (v := 0) hx hb dL_chapterLine_21 (by decide) ?_
    rw [← Option.some.inj hr]
    exact fin_h C hV hS rfl dL_chapterLine_22
theorem dk_L_noteLine : dOk yL_noteLine 3 := ⟨by decide +kernel, by decide +kernel, by decide +kernel⟩
set_option maxHeartbeats 4000000 in
set_option maxRecDepth 100000 in
theorem c_L_noteLine (l : Launch) (hfl : l.stackTraces = false) (G : LG) (b0 : Nat) (V : St) (x1 : Int32) (res : Int32 × St) (hr : f_L_noteLine V x1 = some res) : Met l yL_noteLine (wyH yL_noteLine cL_noteLine 4 (some .int) [(0, 9, 12, 42)]) (rmx 7) (va_Pc [.ref (b0 + 0), .int x1, .ref (b0 + 216)] (Iv G b0 V)) (QI G b0 res.1 res.2) 1 6 (Ab b0) := by
  refine mk_h (by decide +kernel) (Nat.le_of_ble_eq_true rfl) ?_
  intro p e s m below meth c C ht hV hS ls hl
  obtain ⟨args, hargs⟩ : ∃ z, z = ([.ref (b0 + 0), .int x1, .ref (b0 + 216)] : List Value).toArray := ⟨_, rfl⟩
  rw [← hargs] at C ⊢
  obtain ⟨hx, hb, hrt, hml, hown, hts, hlocks, hK, hSv⟩ := id C
  have hl : lv_has ls 4 [(0, .ref (b0 + 0)), (1, .int x1), (2, .ref (b0 + 216))] := hl
  unfold f_L_noteLine at hr
  refine lv_aload_n hx hb dL_noteLine_0 rfl (lv_at hl 2 rfl) ?_
  refine lv_iconst (v := 0) hx hb dL_noteLine_1 (by decide) ?_
  refine lv_aload_n hx hb dL_noteLine_2 rfl (lv_at hl 0 rfl) ?_
  refine lv_iload_n hx hb dL_noteLine_3 rfl (lv_at hl 1 rfl) ?_
  obtain ⟨q1, e1, hr⟩ := ob hr
  refine xcal_i (As := [.int x1]) (rest := [.int 0, .ref (b0 + 216)]) C hV hS (c_X9_noteLine l hfl G b0 V x1 q1 e1) (rcv hK hV (kd_lt z_0 (by decide)) (cel_0 z_0) rfl) q_1287 q_1288 q_1289 q_141 q_1290 dk_X9_noteLine (rmx_ok2 (by decide) (by decide)) hl.1 rfl (Nat.le_of_ble_eq_true rfl) dL_noteLine_4 ⟨Nat.le_refl _, Nat.le_refl _⟩ (fun n E ce q9 H locs hn hE hV hS h1 h2 h3 => ?_) (fun r H locs hn hV hS => ?_)
  · rw [hn] at hr
    have hr : (if n = 1 then some (1, q1.2) else none) = some res := hr
    by_cases b : n = 1
    · subst b
      have hr := it rfl hr
      obtain rfl : "java/lang/IndexOutOfBoundsException" = E := Option.some.inj hE
      refine vx_catch hown [] ⟨0, 9, 12, 42⟩ [] ht (fun _ h => nomatch h) (by decide) (by decide) (hts _ q_865) (va_Nw.use rfl (hK.2.1 _ q_895)) h1 h2 h3 ?_
      refine lv_astore_n (lv' := [(3, .ref q9), (0, .ref (b0 + 0)), (1, .int x1), (2, .ref (b0 + 216))]) hx hb dL_noteLine_12 rfl hl (by decide) rfl (fun ls hl => ?_)
      refine lv_iconst (v := 1) hx hb dL_noteLine_13 (by decide) ?_
      rw [← Option.some.inj hr]
      exact fin_h C hV hS rfl dL_noteLine_14
    have hr := ie b hr
    cases hr
  · rw [hn] at hr
    have hr : (some (0, up q1.2 216 0 r)) = some res := hr
    refine lv_i2l (v := r.toInt64) hx hb dL_noteLine_7 rfl ?_
    refine s_28 (x := r) C hV hS dL_noteLine_8 (fun H locs hV hS => ?_)
    refine lv_goto (tgt := 15) hx hb dL_noteLine_9 (by decide) ?_
    refine lv_iconst (v := 0) hx hb dL_noteLine_15 (by decide) ?_
    rw [← Option.some.inj hr]
    exact fin_h C hV hS rfl dL_noteLine_16
theorem dk_L_character : dOk yL_character 3 := ⟨by decide +kernel, by decide +kernel, by decide +kernel⟩
set_option maxHeartbeats 4000000 in
set_option maxRecDepth 100000 in
theorem c_L_character (l : Launch) (hfl : l.stackTraces = false) (G : LG) (b0 : Nat) (V : St) (x1 : Int32) (res : Int32 × St) (hr : f_L_character V x1 = some res) : Met l yL_character (wyH yL_character cL_character 4 (some .int) [(0, 9, 12, 42)]) (rmx 7) (va_Pc [.ref (b0 + 0), .int x1, .ref (b0 + 216)] (Iv G b0 V)) (QI G b0 res.1 res.2) 1 6 (Ab b0) := by
  refine mk_h (by decide +kernel) (Nat.le_of_ble_eq_true rfl) ?_
  intro p e s m below meth c C ht hV hS ls hl
  obtain ⟨args, hargs⟩ : ∃ z, z = ([.ref (b0 + 0), .int x1, .ref (b0 + 216)] : List Value).toArray := ⟨_, rfl⟩
  rw [← hargs] at C ⊢
  obtain ⟨hx, hb, hrt, hml, hown, hts, hlocks, hK, hSv⟩ := id C
  have hl : lv_has ls 4 [(0, .ref (b0 + 0)), (1, .int x1), (2, .ref (b0 + 216))] := hl
  unfold f_L_character at hr
  refine lv_aload_n hx hb dL_character_0 rfl (lv_at hl 2 rfl) ?_
  refine lv_iconst (v := 0) hx hb dL_character_1 (by decide) ?_
  refine lv_aload_n hx hb dL_character_2 rfl (lv_at hl 0 rfl) ?_
  refine lv_iload_n hx hb dL_character_3 rfl (lv_at hl 1 rfl) ?_
  obtain ⟨q1, e1, hr⟩ := ob hr
  refine xcal_i (As := [.int x1]) (rest := [.int 0, .ref (b0 + 216)]) C hV hS (c_X9_character l hfl G b0 V x1 q1 e1) (rcv hK hV (kd_lt z_0 (by decide)) (cel_0 z_0) rfl) q_1294 q_1295 q_1296 q_141 q_1297 dk_X9_character (rmx_ok2 (by decide) (by decide)) hl.1 rfl (Nat.le_of_ble_eq_true rfl) dL_character_4 ⟨Nat.le_refl _, Nat.le_refl _⟩ (fun n E ce q9 H locs hn hE hV hS h1 h2 h3 => ?_) (fun r H locs hn hV hS => ?_)
  · rw [hn] at hr
    have hr : (if n = 1 then some (1, V) else none) = some res := hr
    by_cases b : n = 1
    · subst b
      have hr := it rfl hr
      obtain rfl : "java/lang/IndexOutOfBoundsException" = E := Option.some.inj hE
      refine vx_catch hown [] ⟨0, 9, 12, 42⟩ [] ht (fun _ h => nomatch h) (by decide) (by decide) (hts _ q_865) (va_Nw.use rfl (hK.2.1 _ q_895)) h1 h2 h3 ?_
      refine lv_astore_n (lv' := [(3, .ref q9), (0, .ref (b0 + 0)), (1, .int x1), (2, .ref (b0 + 216))]) hx hb dL_character_12 rfl hl (by decide) rfl (fun ls hl => ?_)
      refine lv_iconst (v := 1) hx hb dL_character_13 (by decide) ?_
      rw [← Option.some.inj hr]
      exact fin_h C hV hS rfl dL_character_14
    have hr := ie b hr
    cases hr
  · rw [hn] at hr
    have hr : (some (0, up V 216 0 r)) = some res := hr
    refine lv_i2l (v := r.toInt64) hx hb dL_character_7 rfl ?_
    refine s_28 (x := r) C hV hS dL_character_8 (fun H locs hV hS => ?_)
    refine lv_goto (tgt := 15) hx hb dL_character_9 (by decide) ?_
    refine lv_iconst (v := 0) hx hb dL_character_15 (by decide) ?_
    rw [← Option.some.inj hr]
    exact fin_h C hV hS rfl dL_character_16
theorem dk_L_meanKnots : dOk yL_meanKnots 2 := ⟨by decide +kernel, by decide +kernel, by decide +kernel⟩
set_option maxHeartbeats 4000000 in
set_option maxRecDepth 100000 in
theorem c_L_meanKnots (l : Launch) (hfl : l.stackTraces = false) (G : LG) (b0 : Nat) (V : St) (res : Int32 × St) (hr : f_L_meanKnots V = some res) : Met l yL_meanKnots (wyH yL_meanKnots cL_meanKnots 3 (some .int) [(0, 7, 10, 117)]) (rmx 7) (va_Pc [.ref (b0 + 0), .ref (b0 + 217)] (Iv G b0 V)) (QI G b0 res.1 res.2) 1 6 (Ab b0) := by
  refine mk_h (by decide +kernel) (Nat.le_of_ble_eq_true rfl) ?_
  intro p e s m below meth c C ht hV hS ls hl
  obtain ⟨args, hargs⟩ : ∃ z, z = ([.ref (b0 + 0), .ref (b0 + 217)] : List Value).toArray := ⟨_, rfl⟩
  rw [← hargs] at C ⊢
  obtain ⟨hx, hb, hrt, hml, hown, hts, hlocks, hK, hSv⟩ := id C
  have hl : lv_has ls 3 [(0, .ref (b0 + 0)), (1, .ref (b0 + 217))] := hl
  unfold f_L_meanKnots at hr
  refine lv_aload_n hx hb dL_meanKnots_0 rfl (lv_at hl 1 rfl) ?_
  refine lv_iconst (v := 0) hx hb dL_meanKnots_1 (by decide) ?_
  refine lv_aload_n hx hb dL_meanKnots_2 rfl (lv_at hl 0 rfl) ?_
  obtain ⟨q1, e1, hr⟩ := ob hr
  refine xcal_d (As := []) (rest := [.int 0, .ref (b0 + 217)]) C hV hS (c_X9_meanKnots l hfl G b0 V q1 e1) (rcv hK hV (kd_lt z_0 (by decide)) (cel_0 z_0) rfl) q_1325 q_1326 q_1327 q_141 q_1328 dk_X9_meanKnots (rmx_ok2 (by decide) (by decide)) hl.1 rfl (Nat.le_of_ble_eq_true rfl) dL_meanKnots_3 ⟨Nat.le_refl _, Nat.le_refl _⟩ (fun n E ce q9 H locs hn hE hV hS h1 h2 h3 => ?_) (fun r H locs hn hV hS => ?_)
  · rw [hn] at hr
    have hr : (if n = 5 then some (1, V) else none) = some res := hr
    by_cases b : n = 5
    · subst b
      have hr := it rfl hr
      obtain rfl : "java/lang/ArithmeticException" = E := Option.some.inj hE
      refine vx_catch hown [] ⟨0, 7, 10, 117⟩ [] ht (fun _ h => nomatch h) (by decide) (by decide) (hts _ q_1311) (va_Nw.use rfl (hK.2.1 _ q_1323)) h1 h2 h3 ?_
      refine lv_astore_n (lv' := [(2, .ref q9), (0, .ref (b0 + 0)), (1, .ref (b0 + 217))]) hx hb dL_meanKnots_10 rfl hl (by decide) rfl (fun ls hl => ?_)
      refine lv_iconst (v := 1) hx hb dL_meanKnots_11 (by decide) ?_
      rw [← Option.some.inj hr]
      exact fin_h C hV hS rfl dL_meanKnots_12
    have hr := ie b hr
    cases hr
  · rw [hn] at hr
    have hr : (some (0, up (up V 217 0 (dlo r)) 217 1 (dhi r))) = some res := hr
    refine s_29 (x := r) C hV hS dL_meanKnots_6 (fun H locs hV hS => ?_)
    refine lv_goto (tgt := 13) hx hb dL_meanKnots_7 (by decide) ?_
    refine lv_iconst (v := 0) hx hb dL_meanKnots_13 (by decide) ?_
    rw [← Option.some.inj hr]
    exact fin_h C hV hS rfl dL_meanKnots_14
theorem dk_L_readShare : dOk yL_readShare 2 := ⟨by decide +kernel, by decide +kernel, by decide +kernel⟩
set_option maxHeartbeats 4000000 in
set_option maxRecDepth 100000 in
theorem c_L_readShare (l : Launch) (hfl : l.stackTraces = false) (G : LG) (b0 : Nat) (V : St) (res : Int32 × St) (hr : f_L_readShare V = some res) : Met l yL_readShare (wyH yL_readShare cL_readShare 3 (some .int) [(0, 8, 11, 117)]) (rmx 7) (va_Pc [.ref (b0 + 0), .ref (b0 + 217)] (Iv G b0 V)) (QI G b0 res.1 res.2) 1 6 (Ab b0) := by
  refine mk_h (by decide +kernel) (Nat.le_of_ble_eq_true rfl) ?_
  intro p e s m below meth c C ht hV hS ls hl
  obtain ⟨args, hargs⟩ : ∃ z, z = ([.ref (b0 + 0), .ref (b0 + 217)] : List Value).toArray := ⟨_, rfl⟩
  rw [← hargs] at C ⊢
  obtain ⟨hx, hb, hrt, hml, hown, hts, hlocks, hK, hSv⟩ := id C
  have hl : lv_has ls 3 [(0, .ref (b0 + 0)), (1, .ref (b0 + 217))] := hl
  unfold f_L_readShare at hr
  refine lv_aload_n hx hb dL_readShare_0 rfl (lv_at hl 1 rfl) ?_
  refine lv_iconst (v := 0) hx hb dL_readShare_1 (by decide) ?_
  refine lv_aload_n hx hb dL_readShare_2 rfl (lv_at hl 0 rfl) ?_
  obtain ⟨q1, e1, hr⟩ := ob hr
  refine xcal_f (As := []) (rest := [.int 0, .ref (b0 + 217)]) C hV hS (c_X9_readShare l hfl G b0 V q1 e1) (rcv hK hV (kd_lt z_0 (by decide)) (cel_0 z_0) rfl) q_1340 q_1341 q_1342 q_141 q_1343 dk_X9_readShare (rmx_ok2 (by decide) (by decide)) hl.1 rfl (Nat.le_of_ble_eq_true rfl) dL_readShare_3 ⟨Nat.le_refl _, Nat.le_refl _⟩ (fun n E ce q9 H locs hn hE hV hS h1 h2 h3 => ?_) (fun r H locs hn hV hS => ?_)
  · rw [hn] at hr
    have hr : (if n = 5 then some (1, V) else none) = some res := hr
    by_cases b : n = 5
    · subst b
      have hr := it rfl hr
      obtain rfl : "java/lang/ArithmeticException" = E := Option.some.inj hE
      refine vx_catch hown [] ⟨0, 8, 11, 117⟩ [] ht (fun _ h => nomatch h) (by decide) (by decide) (hts _ q_1311) (va_Nw.use rfl (hK.2.1 _ q_1323)) h1 h2 h3 ?_
      refine lv_astore_n (lv' := [(2, .ref q9), (0, .ref (b0 + 0)), (1, .ref (b0 + 217))]) hx hb dL_readShare_11 rfl hl (by decide) rfl (fun ls hl => ?_)
      refine lv_iconst (v := 1) hx hb dL_readShare_12 (by decide) ?_
      rw [← Option.some.inj hr]
      exact fin_h C hV hS rfl dL_readShare_13
    have hr := ie b hr
    cases hr
  · rw [hn] at hr
    have hr : ((fdv r).bind fun q2 => some (0, up (up V 217 0 (dlo q2)) 217 1 (dhi q2))) = some res := hr
    obtain ⟨q2, e2, hr⟩ := ob hr
    obtain ⟨e2, g2⟩ := fdv_in e2
    refine lv_f2d hx hb dL_readShare_6 g2 ?_
    rw [← e2]
    refine s_29 (x := q2) C hV hS dL_readShare_7 (fun H locs hV hS => ?_)
    refine lv_goto (tgt := 14) hx hb dL_readShare_8 (by decide) ?_
    refine lv_iconst (v := 0) hx hb dL_readShare_14 (by decide) ?_
    rw [← Option.some.inj hr]
    exact fin_h C hV hS rfl dL_readShare_15
theorem dk_L_account : dOk yL_account 3 := ⟨by decide +kernel, by decide +kernel, by decide +kernel⟩
set_option maxHeartbeats 4000000 in
set_option maxRecDepth 100000 in
theorem c_L_account (l : Launch) (hfl : l.stackTraces = false) (G : LG) (b0 : Nat) (V : St) (x1 : Int32) (res : Int32 × St) (hr : f_L_account V x1 = some res) : Met l yL_account (wyH yL_account cL_account 4 (some .int) [(0, 9, 12, 53)]) (rmx 7) (va_Pc [.ref (b0 + 0), .int x1, .ref (b0 + 216)] (Iv G b0 V)) (QI G b0 res.1 res.2) 1 6 (Ab b0) := by
  refine mk_h (by decide +kernel) (Nat.le_of_ble_eq_true rfl) ?_
  intro p e s m below meth c C ht hV hS ls hl
  obtain ⟨args, hargs⟩ : ∃ z, z = ([.ref (b0 + 0), .int x1, .ref (b0 + 216)] : List Value).toArray := ⟨_, rfl⟩
  rw [← hargs] at C ⊢
  obtain ⟨hx, hb, hrt, hml, hown, hts, hlocks, hK, hSv⟩ := id C
  have hl : lv_has ls 4 [(0, .ref (b0 + 0)), (1, .int x1), (2, .ref (b0 + 216))] := hl
  unfold f_L_account at hr
  refine lv_aload_n hx hb dL_account_0 rfl (lv_at hl 2 rfl) ?_
  refine lv_iconst (v := 0) hx hb dL_account_1 (by decide) ?_
  refine lv_aload_n hx hb dL_account_2 rfl (lv_at hl 0 rfl) ?_
  refine lv_iload_n hx hb dL_account_3 rfl (lv_at hl 1 rfl) ?_
  obtain ⟨q1, e1, hr⟩ := ob hr
  refine xcal_i (As := [.int x1]) (rest := [.int 0, .ref (b0 + 216)]) C hV hS (c_X9_account l hfl G b0 V x1 q1 e1) (rcv hK hV (kd_lt z_0 (by decide)) (cel_0 z_0) rfl) q_1348 q_1349 q_1350 q_141 q_1351 dk_X9_account (rmx_ok2 (by decide) (by decide)) hl.1 rfl (Nat.le_of_ble_eq_true rfl) dL_account_4 ⟨Nat.le_refl _, Nat.le_refl _⟩ (fun n E ce q9 H locs hn hE hV hS h1 h2 h3 => ?_) (fun r H locs hn hV hS => ?_)
  · rw [hn] at hr
    have hr : (if n = 3 then some (1, V) else none) = some res := hr
    by_cases b : n = 3
    · subst b
      have hr := it rfl hr
      obtain rfl : "java/lang/IllegalArgumentException" = E := Option.some.inj hE
      refine vx_catch hown [] ⟨0, 9, 12, 53⟩ [] ht (fun _ h => nomatch h) (by decide) (by decide) (hts _ q_933) (va_Nw.use rfl (hK.2.1 _ q_952)) h1 h2 h3 ?_
      refine lv_astore_n (lv' := [(3, .ref q9), (0, .ref (b0 + 0)), (1, .int x1), (2, .ref (b0 + 216))]) hx hb dL_account_12 rfl hl (by decide) rfl (fun ls hl => ?_)
      refine lv_iconst (v := 1) hx hb dL_account_13 (by decide) ?_
      rw [← Option.some.inj hr]
      exact fin_h C hV hS rfl dL_account_14
    have hr := ie b hr
    cases hr
  · rw [hn] at hr
    have hr : (some (0, up V 216 0 r)) = some res := hr
    refine lv_i2l (v := r.toInt64) hx hb dL_account_7 rfl ?_
    refine s_28 (x := r) C hV hS dL_account_8 (fun H locs hV hS => ?_)
    refine lv_goto (tgt := 15) hx hb dL_account_9 (by decide) ?_
    refine lv_iconst (v := 0) hx hb dL_account_15 (by decide) ?_
    rw [← Option.some.inj hr]
    exact fin_h C hV hS rfl dL_account_16
theorem dk_L_undo : dOk yL_undo 2 := ⟨by decide +kernel, by decide +kernel, by decide +kernel⟩
set_option maxHeartbeats 4000000 in
set_option maxRecDepth 100000 in
theorem c_L_undo (l : Launch) (hfl : l.stackTraces = false) (G : LG) (b0 : Nat) (V : St) (res : Int32 × St) (hr : f_L_undo V = some res) : Met l yL_undo (wyH yL_undo cL_undo 3 (some .int) [(0, 8, 11, 87)]) (rmx 7) (va_Pc [.ref (b0 + 0), .ref (b0 + 216)] (Iv G b0 V)) (QI G b0 res.1 res.2) 1 6 (Ab b0) := by
  refine mk_h (by decide +kernel) (Nat.le_of_ble_eq_true rfl) ?_
  intro p e s m below meth c C ht hV hS ls hl
  obtain ⟨args, hargs⟩ : ∃ z, z = ([.ref (b0 + 0), .ref (b0 + 216)] : List Value).toArray := ⟨_, rfl⟩
  rw [← hargs] at C ⊢
  obtain ⟨hx, hb, hrt, hml, hown, hts, hlocks, hK, hSv⟩ := id C
  have hl : lv_has ls 3 [(0, .ref (b0 + 0)), (1, .ref (b0 + 216))] := hl
  unfold f_L_undo at hr
  refine lv_aload_n hx hb dL_undo_0 rfl (lv_at hl 1 rfl) ?_
  refine lv_iconst (v := 0) hx hb dL_undo_1 (by decide) ?_
  refine lv_aload_n hx hb dL_undo_2 rfl (lv_at hl 0 rfl) ?_
  obtain ⟨q1, e1, hr⟩ := ob hr
  refine xcal_i (As := []) (rest := [.int 0, .ref (b0 + 216)]) C hV hS (c_X9_undo l hfl G b0 V q1 e1) (rcv hK hV (kd_lt z_0 (by decide)) (cel_0 z_0) rfl) q_1364 q_1365 q_1366 q_141 q_1367 dk_X9_undo (rmx_ok2 (by decide) (by decide)) hl.1 rfl (Nat.le_of_ble_eq_true rfl) dL_undo_3 ⟨Nat.le_refl _, Nat.le_refl _⟩ (fun n E ce q9 H locs hn hE hV hS h1 h2 h3 => ?_) (fun r H locs hn hV hS => ?_)
  · rw [hn] at hr
    have hr : (if n = 4 then some (1, q1.2) else none) = some res := hr
    by_cases b : n = 4
    · subst b
      have hr := it rfl hr
      obtain rfl : "java/lang/IllegalStateException" = E := Option.some.inj hE
      refine vx_catch hown [] ⟨0, 8, 11, 87⟩ [] ht (fun _ h => nomatch h) (by decide) (by decide) (hts _ q_1070) (va_Nw.use rfl (hK.2.1 _ q_1081)) h1 h2 h3 ?_
      refine lv_astore_n (lv' := [(2, .ref q9), (0, .ref (b0 + 0)), (1, .ref (b0 + 216))]) hx hb dL_undo_11 rfl hl (by decide) rfl (fun ls hl => ?_)
      refine lv_iconst (v := 1) hx hb dL_undo_12 (by decide) ?_
      rw [← Option.some.inj hr]
      exact fin_h C hV hS rfl dL_undo_13
    have hr := ie b hr
    cases hr
  · rw [hn] at hr
    have hr : (some (0, up q1.2 216 0 r)) = some res := hr
    refine lv_i2l (v := r.toInt64) hx hb dL_undo_6 rfl ?_
    refine s_28 (x := r) C hV hS dL_undo_7 (fun H locs hV hS => ?_)
    refine lv_goto (tgt := 14) hx hb dL_undo_8 (by decide) ?_
    refine lv_iconst (v := 0) hx hb dL_undo_14 (by decide) ?_
    rw [← Option.some.inj hr]
    exact fin_h C hV hS rfl dL_undo_15
theorem dk_L_restore : dOk yL_restore 2 := ⟨by decide +kernel, by decide +kernel, by decide +kernel⟩
set_option maxHeartbeats 4000000 in
set_option maxRecDepth 100000 in
theorem c_L_restore (l : Launch) (hfl : l.stackTraces = false) (G : LG) (b0 : Nat) (V : St) (res : Int32 × St) (hr : f_L_restore V = some res) : Met l yL_restore (wyH yL_restore cL_restore 3 (some .int) [(0, 8, 11, 87)]) (rmx 7) (va_Pc [.ref (b0 + 0), .ref (b0 + 216)] (Iv G b0 V)) (QI G b0 res.1 res.2) 1 6 (Ab b0) := by
  refine mk_h (by decide +kernel) (Nat.le_of_ble_eq_true rfl) ?_
  intro p e s m below meth c C ht hV hS ls hl
  obtain ⟨args, hargs⟩ : ∃ z, z = ([.ref (b0 + 0), .ref (b0 + 216)] : List Value).toArray := ⟨_, rfl⟩
  rw [← hargs] at C ⊢
  obtain ⟨hx, hb, hrt, hml, hown, hts, hlocks, hK, hSv⟩ := id C
  have hl : lv_has ls 3 [(0, .ref (b0 + 0)), (1, .ref (b0 + 216))] := hl
  unfold f_L_restore at hr
  refine lv_aload_n hx hb dL_restore_0 rfl (lv_at hl 1 rfl) ?_
  refine lv_iconst (v := 0) hx hb dL_restore_1 (by decide) ?_
  refine lv_aload_n hx hb dL_restore_2 rfl (lv_at hl 0 rfl) ?_
  obtain ⟨q1, e1, hr⟩ := ob hr
  refine xcal_i (As := []) (rest := [.int 0, .ref (b0 + 216)]) C hV hS (c_X9_restore l hfl G b0 V q1 e1) (rcv hK hV (kd_lt z_0 (by decide)) (cel_0 z_0) rfl) q_1376 q_1377 q_1378 q_141 q_1379 dk_X9_restore (rmx_ok2 (by decide) (by decide)) hl.1 rfl (Nat.le_of_ble_eq_true rfl) dL_restore_3 ⟨Nat.le_refl _, Nat.le_refl _⟩ (fun n E ce q9 H locs hn hE hV hS h1 h2 h3 => ?_) (fun r H locs hn hV hS => ?_)
  · rw [hn] at hr
    have hr : (if n = 4 then some (1, q1.2) else none) = some res := hr
    by_cases b : n = 4
    · subst b
      have hr := it rfl hr
      obtain rfl : "java/lang/IllegalStateException" = E := Option.some.inj hE
      refine vx_catch hown [] ⟨0, 8, 11, 87⟩ [] ht (fun _ h => nomatch h) (by decide) (by decide) (hts _ q_1070) (va_Nw.use rfl (hK.2.1 _ q_1081)) h1 h2 h3 ?_
      refine lv_astore_n (lv' := [(2, .ref q9), (0, .ref (b0 + 0)), (1, .ref (b0 + 216))]) hx hb dL_restore_11 rfl hl (by decide) rfl (fun ls hl => ?_)
      refine lv_iconst (v := 1) hx hb dL_restore_12 (by decide) ?_
      rw [← Option.some.inj hr]
      exact fin_h C hV hS rfl dL_restore_13
    have hr := ie b hr
    cases hr
  · rw [hn] at hr
    have hr : (some (0, up q1.2 216 0 r)) = some res := hr
    refine lv_i2l (v := r.toInt64) hx hb dL_restore_6 rfl ?_
    refine s_28 (x := r) C hV hS dL_restore_7 (fun H locs hV hS => ?_)
    refine lv_goto (tgt := 14) hx hb dL_restore_8 (by decide) ?_
    refine lv_iconst (v := 0) hx hb dL_restore_14 (by decide) ?_
    rw [← Option.some.inj hr]
    exact fin_h C hV hS rfl dL_restore_15
