set_option maxHeartbeats 4000000 in
set_option maxRecDepth 100000 in
theorem c_L_least (l : Launch) (hfl : l.stackTraces = false) (G : LG) (b0 : Nat) (V : St) (x1 : Int32) (res : Int32 × St) (hr : f_L_least V x1 = some res) : Met l yL_least (wyH yL_least cL_least 3 (some .int) [(0, 5, 6, 49), (0, 5, 10, 55)]) (rmc 7 1) (va_Pc [.ref (b0 + 0), .int x1] (Iv G b0 V)) (QI G b0 res.1 res.2) 1 (6 * 1) (Ab b0) := by
  refine mk_h (by decide +kernel) (Nat.le_of_ble_eq_true rfl) ?_
  intro p e s m below meth c C ht hV hS ls hl
  obtain ⟨args, hargs⟩ : ∃ z, z = ([.ref (b0 + 0), .int x1] : List Value).toArray := ⟨_, rfl⟩
  rw [← hargs] at C ⊢
  obtain ⟨hx, hb, hrt, hml, hown, hts, hlocks, hK, hSv⟩ := id C
  have hl : lv_has ls 3 [(0, .ref (b0 + 0)), (1, .int x1)] := hl
  unfold f_L_least at hr
  refine lv_aload_n hx hb dL_least_0 rfl (lv_at hl 0 rfl) ?_
  refine lv_iload_n hx hb dL_least_1 rfl (lv_at hl 1 rfl) ?_
  obtain ⟨q1, e1, hr⟩ := ob hr
  refine xcal_i (As := [.int x1]) (rest := []) C hV hS (c_X9_least l hfl G b0 V x1 q1 e1) (rcv hK hV (kd_lt z_0 (by decide)) (cel_0 z_0) rfl) q_1441 q_1442 q_1443 q_93 q_1444 dk_X9_least (rmx_ok3 (by decide) (by decide)) hl.1 rfl (Nat.le_of_ble_eq_true rfl) dL_least_2 ⟨Nat.le_refl _, Nat.le_refl _⟩ (fun n E ce q9 H locs hn hE hV hS h1 h2 h3 => ?_) (fun r H locs hn hV hS => ?_)
  · rw [hn] at hr
    have hr : (if n = 1 then some ((-77), q1.2) else if n = 2 then some ((-75), q1.2) else none) = some res := hr
    by_cases b : n = 1
    · subst b
      have hr := it rfl hr
      obtain rfl : "java/lang/IndexOutOfBoundsException" = E := Option.some.inj hE
      refine vx_catch hown [] ⟨0, 5, 6, 49⟩ [⟨0, 5, 10, 55⟩] ht (fun _ h => nomatch h) (by decide) (by decide) (hts _ q_383) (va_Nw.use rfl (hK.2.1 _ q_472)) h1 h2 h3 ?_
      refine lv_astore_n (lv' := [(2, .ref q9), (0, .ref (b0 + 0)), (1, .int x1)]) hx hb dL_least_6 rfl hl (by decide) rfl (fun ls hl => ?_)
      refine lv_bipush (v := (-77)) hx hb dL_least_7 (by decide) ?_
      rw [← Option.some.inj hr]
      exact fin_ic (w := 1) C hV hS (Nat.le_refl _) rfl dL_least_9
    have hr := ie b hr
    by_cases b : n = 2
    · subst b
      have hr := it rfl hr
      obtain rfl : "java/util/NoSuchElementException" = E := Option.some.inj hE
      refine vx_catch hown [⟨0, 5, 6, 49⟩] ⟨0, 5, 10, 55⟩ [] ht (List.forall_mem_cons.mpr ⟨Or.inr ⟨by decide, "java/lang/IndexOutOfBoundsException", hts _ q_383, hK.2.2.2 ("java/util/NoSuchElementException", "java/lang/IndexOutOfBoundsException") (by decide)⟩, fun _ h => nomatch h⟩) (by decide) (by decide) (hts _ q_1268) (va_Nw.use rfl (hK.2.1 _ q_1275)) h1 h2 h3 ?_
      refine lv_astore_n (lv' := [(2, .ref q9), (0, .ref (b0 + 0)), (1, .int x1)]) hx hb dL_least_10 rfl hl (by decide) rfl (fun ls hl => ?_)
      refine lv_bipush (v := (-75)) hx hb dL_least_11 (by decide) ?_
      rw [← Option.some.inj hr]
      exact fin_ic (w := 1) C hV hS (Nat.le_refl _) rfl dL_least_13
    have hr := ie b hr
    cases hr
  · rw [hn] at hr
    have hr : (some (r, q1.2)) = some res := hr
    rw [← Option.some.inj hr]
    exact fin_ic (w := 1) C hV hS (Nat.le_refl _) rfl dL_least_5
set_option maxHeartbeats 4000000 in
set_option maxRecDepth 100000 in
theorem c_L_leastAgain (l : Launch) (hfl : l.stackTraces = false) (G : LG) (b0 : Nat) (V : St) (x1 : Int32) (res : Int32) (hr : f_L_leastAgain V x1 = some res) : Met l yL_leastAgain (wyH yL_leastAgain cL_leastAgain 3 (some .int) [(0, 5, 6, 49), (0, 5, 10, 55)]) (rmc 7 1) (va_Pc [.ref (b0 + 0), .int x1] (Iv G b0 V)) (QI G b0 res V) 1 (6 * 1) (Ab b0) := by
  refine mk_h (by decide +kernel) (Nat.le_of_ble_eq_true rfl) ?_
  intro p e s m below meth c C ht hV hS ls hl
  obtain ⟨args, hargs⟩ : ∃ z, z = ([.ref (b0 + 0), .int x1] : List Value).toArray := ⟨_, rfl⟩
  rw [← hargs] at C ⊢
  obtain ⟨hx, hb, hrt, hml, hown, hts, hlocks, hK, hSv⟩ := id C
  have hl : lv_has ls 3 [(0, .ref (b0 + 0)), (1, .int x1)] := hl
  unfold f_L_leastAgain at hr
  refine lv_aload_n hx hb dL_leastAgain_0 rfl (lv_at hl 0 rfl) ?_
  refine lv_iload_n hx hb dL_leastAgain_1 rfl (lv_at hl 1 rfl) ?_
  obtain ⟨q1, e1, hr⟩ := ob hr
  refine xcal_i (As := [.int x1]) (rest := []) C hV hS (c_X9_leastAgain l hfl G b0 V x1 q1 e1) (rcv hK hV (kd_lt z_0 (by decide)) (cel_0 z_0) rfl) q_1465 q_1466 q_1467 q_93 q_1468 dk_X9_leastAgain (rmx_ok3 (by decide) (by decide)) hl.1 rfl (Nat.le_of_ble_eq_true rfl) dL_leastAgain_2 ⟨Nat.le_refl _, Nat.le_refl _⟩ (fun n E ce q9 H locs hn hE hV hS h1 h2 h3 => ?_) (fun r H locs hn hV hS => ?_)
  · rw [hn] at hr
    have hr : (if n = 1 then some (-77) else if n = 2 then some (-75) else none) = some res := hr
    by_cases b : n = 1
    · subst b
      have hr := it rfl hr
      obtain rfl : "java/lang/IndexOutOfBoundsException" = E := Option.some.inj hE
      refine vx_catch hown [] ⟨0, 5, 6, 49⟩ [⟨0, 5, 10, 55⟩] ht (fun _ h => nomatch h) (by decide) (by decide) (hts _ q_383) (va_Nw.use rfl (hK.2.1 _ q_472)) h1 h2 h3 ?_
      refine lv_astore_n (lv' := [(2, .ref q9), (0, .ref (b0 + 0)), (1, .int x1)]) hx hb dL_leastAgain_6 rfl hl (by decide) rfl (fun ls hl => ?_)
      refine lv_bipush (v := (-77)) hx hb dL_leastAgain_7 (by decide) ?_
      rw [← Option.some.inj hr]
      exact fin_ic (w := 1) C hV hS (Nat.le_refl _) rfl dL_leastAgain_9
    have hr := ie b hr
    by_cases b : n = 2
    · subst b
      have hr := it rfl hr
      obtain rfl : "java/util/NoSuchElementException" = E := Option.some.inj hE
      refine vx_catch hown [⟨0, 5, 6, 49⟩] ⟨0, 5, 10, 55⟩ [] ht (List.forall_mem_cons.mpr ⟨Or.inr ⟨by decide, "java/lang/IndexOutOfBoundsException", hts _ q_383, hK.2.2.2 ("java/util/NoSuchElementException", "java/lang/IndexOutOfBoundsException") (by decide)⟩, fun _ h => nomatch h⟩) (by decide) (by decide) (hts _ q_1268) (va_Nw.use rfl (hK.2.1 _ q_1275)) h1 h2 h3 ?_
      refine lv_astore_n (lv' := [(2, .ref q9), (0, .ref (b0 + 0)), (1, .int x1)]) hx hb dL_leastAgain_10 rfl hl (by decide) rfl (fun ls hl => ?_)
      refine lv_bipush (v := (-75)) hx hb dL_leastAgain_11 (by decide) ?_
      rw [← Option.some.inj hr]
      exact fin_ic (w := 1) C hV hS (Nat.le_refl _) rfl dL_leastAgain_13
    have hr := ie b hr
    cases hr
  · rw [hn] at hr
    have hr : (some r) = some res := hr
    rw [← Option.some.inj hr]
    exact fin_ic (w := 1) C hV hS (Nat.le_refl _) rfl dL_leastAgain_5
set_option maxHeartbeats 4000000 in
set_option maxRecDepth 100000 in
theorem c_L_bestMend (l : Launch) (hfl : l.stackTraces = false) (G : LG) (b0 : Nat) (V : St) (x1 : Int32) (x2 : Int32) (res : Int32) (hr : f_L_bestMend V x1 x2 = some res) : Met l yL_bestMend (wyH yL_bestMend cL_bestMend 4 (some .int) [(0, 6, 7, 49), (0, 6, 11, 55)]) (rmc 7 1) (va_Pc [.ref (b0 + 0), .int x1, .int x2] (Iv G b0 V)) (QI G b0 res V) 1 (6 * 1) (Ab b0) := by
  refine mk_h (by decide +kernel) (Nat.le_of_ble_eq_true rfl) ?_
  intro p e s m below meth c C ht hV hS ls hl
  obtain ⟨args, hargs⟩ : ∃ z, z = ([.ref (b0 + 0), .int x1, .int x2] : List Value).toArray := ⟨_, rfl⟩
  rw [← hargs] at C ⊢
  obtain ⟨hx, hb, hrt, hml, hown, hts, hlocks, hK, hSv⟩ := id C
  have hl : lv_has ls 4 [(0, .ref (b0 + 0)), (1, .int x1), (2, .int x2)] := hl
  unfold f_L_bestMend at hr
  refine lv_aload_n hx hb dL_bestMend_0 rfl (lv_at hl 0 rfl) ?_
  refine lv_iload_n hx hb dL_bestMend_1 rfl (lv_at hl 1 rfl) ?_
  refine lv_iload_n hx hb dL_bestMend_2 rfl (lv_at hl 2 rfl) ?_
  obtain ⟨q1, e1, hr⟩ := ob hr
  refine xcal_i (As := [.int x1, .int x2]) (rest := []) C hV hS (c_X9_bestMend l hfl G b0 V x1 x2 q1 e1) (rcv hK hV (kd_lt z_0 (by decide)) (cel_0 z_0) rfl) q_1382 q_1383 q_1384 q_93 q_1385 dk_X9_bestMend (rmx_ok3 (by decide) (by decide)) hl.1 rfl (Nat.le_of_ble_eq_true rfl) dL_bestMend_3 ⟨Nat.le_refl _, Nat.le_refl _⟩ (fun n E ce q9 H locs hn hE hV hS h1 h2 h3 => ?_) (fun r H locs hn hV hS => ?_)
  · rw [hn] at hr
    have hr : (if n = 1 then some (-77) else if n = 2 then some (-75) else none) = some res := hr
    by_cases b : n = 1
    · subst b
      have hr := it rfl hr
      obtain rfl : "java/lang/IndexOutOfBoundsException" = E := Option.some.inj hE
      refine vx_catch hown [] ⟨0, 6, 7, 49⟩ [⟨0, 6, 11, 55⟩] ht (fun _ h => nomatch h) (by decide) (by decide) (hts _ q_383) (va_Nw.use rfl (hK.2.1 _ q_472)) h1 h2 h3 ?_
      refine lv_astore_n (lv' := [(3, .ref q9), (0, .ref (b0 + 0)), (1, .int x1), (2, .int x2)]) hx hb dL_bestMend_7 rfl hl (by decide) rfl (fun ls hl => ?_)
      refine lv_bipush (v := (-77)) hx hb dL_bestMend_8 (by decide) ?_
      rw [← Option.some.inj hr]
      exact fin_ic (w := 1) C hV hS (Nat.le_refl _) rfl dL_bestMend_10
    have hr := ie b hr
    by_cases b : n = 2
    · subst b
      have hr := it rfl hr
      obtain rfl : "java/util/NoSuchElementException" = E := Option.some.inj hE
      refine vx_catch hown [⟨0, 6, 7, 49⟩] ⟨0, 6, 11, 55⟩ [] ht (List.forall_mem_cons.mpr ⟨Or.inr ⟨by decide, "java/lang/IndexOutOfBoundsException", hts _ q_383, hK.2.2.2 ("java/util/NoSuchElementException", "java/lang/IndexOutOfBoundsException") (by decide)⟩, fun _ h => nomatch h⟩) (by decide) (by decide) (hts _ q_1268) (va_Nw.use rfl (hK.2.1 _ q_1275)) h1 h2 h3 ?_
      refine lv_astore_n (lv' := [(3, .ref q9), (0, .ref (b0 + 0)), (1, .int x1), (2, .int x2)]) hx hb dL_bestMend_11 rfl hl (by decide) rfl (fun ls hl => ?_)
      refine lv_bipush (v := (-75)) hx hb dL_bestMend_12 (by decide) ?_
      rw [← Option.some.inj hr]
      exact fin_ic (w := 1) C hV hS (Nat.le_refl _) rfl dL_bestMend_14
    have hr := ie b hr
    cases hr
  · rw [hn] at hr
    have hr : (some r) = some res := hr
    rw [← Option.some.inj hr]
    exact fin_ic (w := 1) C hV hS (Nat.le_refl _) rfl dL_bestMend_6
set_option maxHeartbeats 4000000 in
set_option maxRecDepth 100000 in
theorem c_L_ranked (l : Launch) (hfl : l.stackTraces = false) (G : LG) (b0 : Nat) (V : St) (x1 : Int32) (x2 : Int32) (res : Int32) (hr : f_L_ranked V x1 x2 = some res) : Met l yL_ranked (wyH yL_ranked cL_ranked 4 (some .int) [(0, 6, 7, 49), (0, 6, 11, 55)]) (rmc 7 1) (va_Pc [.ref (b0 + 0), .int x1, .int x2] (Iv G b0 V)) (QI G b0 res V) 1 (6 * 1) (Ab b0) := by
  refine mk_h (by decide +kernel) (Nat.le_of_ble_eq_true rfl) ?_
  intro p e s m below meth c C ht hV hS ls hl
  obtain ⟨args, hargs⟩ : ∃ z, z = ([.ref (b0 + 0), .int x1, .int x2] : List Value).toArray := ⟨_, rfl⟩
  rw [← hargs] at C ⊢
  obtain ⟨hx, hb, hrt, hml, hown, hts, hlocks, hK, hSv⟩ := id C
  have hl : lv_has ls 4 [(0, .ref (b0 + 0)), (1, .int x1), (2, .int x2)] := hl
  unfold f_L_ranked at hr
  refine lv_aload_n hx hb dL_ranked_0 rfl (lv_at hl 0 rfl) ?_
  refine lv_iload_n hx hb dL_ranked_1 rfl (lv_at hl 1 rfl) ?_
  refine lv_iload_n hx hb dL_ranked_2 rfl (lv_at hl 2 rfl) ?_
  obtain ⟨q1, e1, hr⟩ := ob hr
  refine xcal_i (As := [.int x1, .int x2]) (rest := []) C hV hS (c_X9_ranked l hfl G b0 V x1 x2 q1 e1) (rcv hK hV (kd_lt z_0 (by decide)) (cel_0 z_0) rfl) q_1369 q_1370 q_1371 q_93 q_1372 dk_X9_ranked (rmx_ok3 (by decide) (by decide)) hl.1 rfl (Nat.le_of_ble_eq_true rfl) dL_ranked_3 ⟨Nat.le_refl _, Nat.le_refl _⟩ (fun n E ce q9 H locs hn hE hV hS h1 h2 h3 => ?_) (fun r H locs hn hV hS => ?_)
  · rw [hn] at hr
    have hr : (if n = 1 then some (-77) else if n = 2 then some (-75) else none) = some res := hr
    by_cases b : n = 1
    · subst b
      have hr := it rfl hr
      obtain rfl : "java/lang/IndexOutOfBoundsException" = E := Option.some.inj hE
      refine vx_catch hown [] ⟨0, 6, 7, 49⟩ [⟨0, 6, 11, 55⟩] ht (fun _ h => nomatch h) (by decide) (by decide) (hts _ q_383) (va_Nw.use rfl (hK.2.1 _ q_472)) h1 h2 h3 ?_
      refine lv_astore_n (lv' := [(3, .ref q9), (0, .ref (b0 + 0)), (1, .int x1), (2, .int x2)]) hx hb dL_ranked_7 rfl hl (by decide) rfl (fun ls hl => ?_)
      refine lv_bipush (v := (-77)) hx hb dL_ranked_8 (by decide) ?_
      rw [← Option.some.inj hr]
      exact fin_ic (w := 1) C hV hS (Nat.le_refl _) rfl dL_ranked_10
    have hr := ie b hr
    by_cases b : n = 2
    · subst b
      have hr := it rfl hr
      obtain rfl : "java/util/NoSuchElementException" = E := Option.some.inj hE
      refine vx_catch hown [⟨0, 6, 7, 49⟩] ⟨0, 6, 11, 55⟩ [] ht (List.forall_mem_cons.mpr ⟨Or.inr ⟨by decide, "java/lang/IndexOutOfBoundsException", hts _ q_383, hK.2.2.2 ("java/util/NoSuchElementException", "java/lang/IndexOutOfBoundsException") (by decide)⟩, fun _ h => nomatch h⟩) (by decide) (by decide) (hts _ q_1268) (va_Nw.use rfl (hK.2.1 _ q_1275)) h1 h2 h3 ?_
      refine lv_astore_n (lv' := [(3, .ref q9), (0, .ref (b0 + 0)), (1, .int x1), (2, .int x2)]) hx hb dL_ranked_11 rfl hl (by decide) rfl (fun ls hl => ?_)
      refine lv_bipush (v := (-75)) hx hb dL_ranked_12 (by decide) ?_
      rw [← Option.some.inj hr]
      exact fin_ic (w := 1) C hV hS (Nat.le_refl _) rfl dL_ranked_14
    have hr := ie b hr
    cases hr
  · rw [hn] at hr
    have hr : (some r) = some res := hr
    rw [← Option.some.inj hr]
    exact fin_ic (w := 1) C hV hS (Nat.le_refl _) rfl dL_ranked_6
set_option maxHeartbeats 4000000 in
set_option maxRecDepth 100000 in
theorem c_L_editorOf (l : Launch) (hfl : l.stackTraces = false) (G : LG) (b0 : Nat) (V : St) (x1 : Int32) (x2 : Int32) (res : Int32) (hr : f_L_editorOf V x1 x2 = some res) : Met l yL_editorOf (wyH yL_editorOf cL_editorOf 4 (some .int) [(0, 6, 7, 49), (0, 6, 11, 60)]) (rmc 7 1) (va_Pc [.ref (b0 + 0), .int x1, .int x2] (Iv G b0 V)) (QI G b0 res V) 1 (6 * 1) (Ab b0) := by
  refine mk_h (by decide +kernel) (Nat.le_of_ble_eq_true rfl) ?_
  intro p e s m below meth c C ht hV hS ls hl
  obtain ⟨args, hargs⟩ : ∃ z, z = ([.ref (b0 + 0), .int x1, .int x2] : List Value).toArray := ⟨_, rfl⟩
  rw [← hargs] at C ⊢
  obtain ⟨hx, hb, hrt, hml, hown, hts, hlocks, hK, hSv⟩ := id C
  have hl : lv_has ls 4 [(0, .ref (b0 + 0)), (1, .int x1), (2, .int x2)] := hl
  unfold f_L_editorOf at hr
  refine lv_aload_n hx hb dL_editorOf_0 rfl (lv_at hl 0 rfl) ?_
  refine lv_iload_n hx hb dL_editorOf_1 rfl (lv_at hl 1 rfl) ?_
  refine lv_iload_n hx hb dL_editorOf_2 rfl (lv_at hl 2 rfl) ?_
  obtain ⟨q1, e1, hr⟩ := ob hr
  refine xcal_i (As := [.int x1, .int x2]) (rest := []) C hV hS (c_X9_editorOf l hfl G b0 V x1 x2 q1 e1) (rcv hK hV (kd_lt z_0 (by decide)) (cel_0 z_0) rfl) q_1331 q_1332 q_1333 q_93 q_1334 dk_X9_editorOf (rmx_ok3 (by decide) (by decide)) hl.1 rfl (Nat.le_of_ble_eq_true rfl) dL_editorOf_3 ⟨Nat.le_refl _, Nat.le_refl _⟩ (fun n E ce q9 H locs hn hE hV hS h1 h2 h3 => ?_) (fun r H locs hn hV hS => ?_)
  · rw [hn] at hr
    have hr : (if n = 1 then some (-77) else if n = 3 then some (-78) else none) = some res := hr
    by_cases b : n = 1
    · subst b
      have hr := it rfl hr
      obtain rfl : "java/lang/IndexOutOfBoundsException" = E := Option.some.inj hE
      refine vx_catch hown [] ⟨0, 6, 7, 49⟩ [⟨0, 6, 11, 60⟩] ht (fun _ h => nomatch h) (by decide) (by decide) (hts _ q_383) (va_Nw.use rfl (hK.2.1 _ q_472)) h1 h2 h3 ?_
      refine lv_astore_n (lv' := [(3, .ref q9), (0, .ref (b0 + 0)), (1, .int x1), (2, .int x2)]) hx hb dL_editorOf_7 rfl hl (by decide) rfl (fun ls hl => ?_)
      refine lv_bipush (v := (-77)) hx hb dL_editorOf_8 (by decide) ?_
      rw [← Option.some.inj hr]
      exact fin_ic (w := 1) C hV hS (Nat.le_refl _) rfl dL_editorOf_10
    have hr := ie b hr
    by_cases b : n = 3
    · subst b
      have hr := it rfl hr
      obtain rfl : "java/lang/IllegalArgumentException" = E := Option.some.inj hE
      refine vx_catch hown [⟨0, 6, 7, 49⟩] ⟨0, 6, 11, 60⟩ [] ht (List.forall_mem_cons.mpr ⟨Or.inr ⟨by decide, "java/lang/IndexOutOfBoundsException", hts _ q_383, hK.2.2.2 ("java/lang/IllegalArgumentException", "java/lang/IndexOutOfBoundsException") (by decide)⟩, fun _ h => nomatch h⟩) (by decide) (by decide) (hts _ q_525) (va_Nw.use rfl (hK.2.1 _ q_583)) h1 h2 h3 ?_
      refine lv_astore_n (lv' := [(3, .ref q9), (0, .ref (b0 + 0)), (1, .int x1), (2, .int x2)]) hx hb dL_editorOf_11 rfl hl (by decide) rfl (fun ls hl => ?_)
      refine lv_bipush (v := (-78)) hx hb dL_editorOf_12 (by decide) ?_
      rw [← Option.some.inj hr]
      exact fin_ic (w := 1) C hV hS (Nat.le_refl _) rfl dL_editorOf_14
    have hr := ie b hr
    cases hr
  · rw [hn] at hr
    have hr : (some r) = some res := hr
    rw [← Option.some.inj hr]
    exact fin_ic (w := 1) C hV hS (Nat.le_refl _) rfl dL_editorOf_6
set_option maxHeartbeats 4000000 in
set_option maxRecDepth 100000 in
theorem c_L_feed (l : Launch) (hfl : l.stackTraces = false) (G : LG) (b0 : Nat) (V : St) (x1 : Int32) (res : Int32 × St) (hr : f_L_feed V x1 = some res) : Met l yL_feed (wyH yL_feed cL_feed 3 (some .int) [(0, 5, 6, 94)]) (rmc 7 1) (va_Pc [.ref (b0 + 0), .int x1] (Iv G b0 V)) (QI G b0 res.1 res.2) 1 (6 * 1) (Ab b0) := by
  refine mk_h (by decide +kernel) (Nat.le_of_ble_eq_true rfl) ?_
  intro p e s m below meth c C ht hV hS ls hl
  obtain ⟨args, hargs⟩ : ∃ z, z = ([.ref (b0 + 0), .int x1] : List Value).toArray := ⟨_, rfl⟩
  rw [← hargs] at C ⊢
  obtain ⟨hx, hb, hrt, hml, hown, hts, hlocks, hK, hSv⟩ := id C
  have hl : lv_has ls 3 [(0, .ref (b0 + 0)), (1, .int x1)] := hl
  unfold f_L_feed at hr
  refine lv_aload_n hx hb dL_feed_0 rfl (lv_at hl 0 rfl) ?_
  refine lv_iload_n hx hb dL_feed_1 rfl (lv_at hl 1 rfl) ?_
  obtain ⟨q1, e1, hr⟩ := ob hr
  refine xcal_i (As := [.int x1]) (rest := []) C hV hS (c_X9_feed l hfl G b0 V x1 q1 e1) (rcv hK hV (kd_lt z_0 (by decide)) (cel_0 z_0) rfl) q_1123 q_1124 q_1125 q_93 q_1126 dk_X9_feed (rmx_ok3 (by decide) (by decide)) hl.1 rfl (Nat.le_of_ble_eq_true rfl) dL_feed_2 ⟨Nat.le_refl _, Nat.le_refl _⟩ (fun n E ce q9 H locs hn hE hV hS h1 h2 h3 => ?_) (fun r H locs hn hV hS => ?_)
  · rw [hn] at hr
    have hr : (if n = 4 then some ((-79), q1.2) else none) = some res := hr
    by_cases b : n = 4
    · subst b
      have hr := it rfl hr
      obtain rfl : "java/lang/IllegalStateException" = E := Option.some.inj hE
      refine vx_catch hown [] ⟨0, 5, 6, 94⟩ [] ht (fun _ h => nomatch h) (by decide) (by decide) (hts _ q_1122) (va_Nw.use rfl (hK.2.1 _ q_1133)) h1 h2 h3 ?_
      refine lv_astore_n (lv' := [(2, .ref q9), (0, .ref (b0 + 0)), (1, .int x1)]) hx hb dL_feed_6 rfl hl (by decide) rfl (fun ls hl => ?_)
      refine lv_bipush (v := (-79)) hx hb dL_feed_7 (by decide) ?_
      rw [← Option.some.inj hr]
      exact fin_ic (w := 1) C hV hS (Nat.le_refl _) rfl dL_feed_9
    have hr := ie b hr
    cases hr
  · rw [hn] at hr
    have hr : (some (r, q1.2)) = some res := hr
    rw [← Option.some.inj hr]
    exact fin_ic (w := 1) C hV hS (Nat.le_refl _) rfl dL_feed_5
set_option maxHeartbeats 4000000 in
set_option maxRecDepth 100000 in
theorem c_L_run (l : Launch) (hfl : l.stackTraces = false) (G : LG) (b0 : Nat) (V : St) (res : Int32 × St) (hr : f_L_run V = some res) : Met l yL_run (wyH yL_run cL_run 2 (some .int) [(0, 4, 5, 60), (0, 4, 9, 20)]) (rmc 9 1) (va_Pc [.ref (b0 + 0)] (Iv G b0 V)) (QI G b0 res.1 res.2) 1 (6 * 1) (Ab b0) := by
  refine mk_h (by decide +kernel) (Nat.le_of_ble_eq_true rfl) ?_
  intro p e s m below meth c C ht hV hS ls hl
  obtain ⟨args, hargs⟩ : ∃ z, z = ([.ref (b0 + 0)] : List Value).toArray := ⟨_, rfl⟩
  rw [← hargs] at C ⊢
  obtain ⟨hx, hb, hrt, hml, hown, hts, hlocks, hK, hSv⟩ := id C
  have hl : lv_has ls 2 [(0, .ref (b0 + 0))] := hl
  unfold f_L_run at hr
  refine lv_aload_n hx hb dL_run_0 rfl (lv_at hl 0 rfl) ?_
  obtain ⟨q1, e1, hr⟩ := ob hr
  refine xcal_i (As := []) (rest := []) C hV hS (c_X9_run l hfl G b0 V q1 e1) (rcv hK hV (kd_lt z_0 (by decide)) (cel_0 z_0) rfl) q_1154 q_1155 q_1156 q_93 q_1157 dk_X9_run (rmx_ok3 (by decide) (by decide)) hl.1 rfl (Nat.le_of_ble_eq_true rfl) dL_run_1 ⟨Nat.le_refl _, Nat.le_refl _⟩ (fun n E ce q9 H locs hn hE hV hS h1 h2 h3 => ?_) (fun r H locs hn hV hS => ?_)
  · rw [hn] at hr
    have hr : (if n = 3 then some ((-78), q1.2) else if n = 0 then some ((-76), q1.2) else none) = some res := hr
    by_cases b : n = 3
    · subst b
      have hr := it rfl hr
      obtain rfl : "java/lang/IllegalArgumentException" = E := Option.some.inj hE
      refine vx_catch hown [] ⟨0, 4, 5, 60⟩ [⟨0, 4, 9, 20⟩] ht (fun _ h => nomatch h) (by decide) (by decide) (hts _ q_525) (va_Nw.use rfl (hK.2.1 _ q_583)) h1 h2 h3 ?_
      refine lv_astore_n (lv' := [(1, .ref q9), (0, .ref (b0 + 0))]) hx hb dL_run_5 rfl hl (by decide) rfl (fun ls hl => ?_)
      refine lv_bipush (v := (-78)) hx hb dL_run_6 (by decide) ?_
      rw [← Option.some.inj hr]
      exact fin_ic (w := 1) C hV hS (Nat.le_refl _) rfl dL_run_8
    have hr := ie b hr
    by_cases b : n = 0
    · subst b
      have hr := it rfl hr
      obtain rfl : "java/lang/UnsupportedOperationException" = E := Option.some.inj hE
      refine vx_catch hown [⟨0, 4, 5, 60⟩] ⟨0, 4, 9, 20⟩ [] ht (List.forall_mem_cons.mpr ⟨Or.inr ⟨by decide, "java/lang/IllegalArgumentException", hts _ q_525, hK.2.2.2 ("java/lang/UnsupportedOperationException", "java/lang/IllegalArgumentException") (by decide)⟩, fun _ h => nomatch h⟩) (by decide) (by decide) (hts _ q_603) (va_Nw.use rfl (hK.2.1 _ q_636)) h1 h2 h3 ?_
      refine lv_astore_n (lv' := [(1, .ref q9), (0, .ref (b0 + 0))]) hx hb dL_run_9 rfl hl (by decide) rfl (fun ls hl => ?_)
      refine lv_bipush (v := (-76)) hx hb dL_run_10 (by decide) ?_
      rw [← Option.some.inj hr]
      exact fin_ic (w := 1) C hV hS (Nat.le_refl _) rfl dL_run_12
    have hr := ie b hr
    cases hr
  · rw [hn] at hr
    have hr : (some (r, q1.2)) = some res := hr
    rw [← Option.some.inj hr]
    exact fin_ic (w := 1) C hV hS (Nat.le_refl _) rfl dL_run_4
set_option maxHeartbeats 4000000 in
set_option maxRecDepth 100000 in
theorem c_L_line (l : Launch) (hfl : l.stackTraces = false) (G : LG) (b0 : Nat) (V : St) (x1 : Int32) (x2 : Int32) (res : Int32 × St) (hr : f_L_line V x1 x2 = some res) : Met l yL_line (wyH yL_line cL_line 4 (some .int) [(0, 6, 7, 49)]) (rmc 7 1) (va_Pc [.ref (b0 + 0), .int x1, .int x2] (Iv G b0 V)) (QI G b0 res.1 res.2) 1 (6 * 1) (Ab b0) := by
  refine mk_h (by decide +kernel) (Nat.le_of_ble_eq_true rfl) ?_
  intro p e s m below meth c C ht hV hS ls hl
  obtain ⟨args, hargs⟩ : ∃ z, z = ([.ref (b0 + 0), .int x1, .int x2] : List Value).toArray := ⟨_, rfl⟩
  rw [← hargs] at C ⊢
  obtain ⟨hx, hb, hrt, hml, hown, hts, hlocks, hK, hSv⟩ := id C
  have hl : lv_has ls 4 [(0, .ref (b0 + 0)), (1, .int x1), (2, .int x2)] := hl
  unfold f_L_line at hr
  refine lv_aload_n hx hb dL_line_0 rfl (lv_at hl 0 rfl) ?_
  refine lv_iload_n hx hb dL_line_1 rfl (lv_at hl 1 rfl) ?_
  refine lv_iload_n hx hb dL_line_2 rfl (lv_at hl 2 rfl) ?_
  obtain ⟨q1, e1, hr⟩ := ob hr
  refine xcal_i (As := [.int x1, .int x2]) (rest := []) C hV hS (c_X9_line l hfl G b0 V x1 x2 q1 e1) (rcv hK hV (kd_lt z_0 (by decide)) (cel_0 z_0) rfl) q_1426 q_1427 q_1428 q_93 q_1429 dk_X9_line (rmx_ok3 (by decide) (by decide)) hl.1 rfl (Nat.le_of_ble_eq_true rfl) dL_line_3 ⟨Nat.le_refl _, Nat.le_refl _⟩ (fun n E ce q9 H locs hn hE hV hS h1 h2 h3 => ?_) (fun r H locs hn hV hS => ?_)
  · rw [hn] at hr
    have hr : (if n = 1 then some ((-77), q1.2) else none) = some res := hr
    by_cases b : n = 1
    · subst b
      have hr := it rfl hr
      obtain rfl : "java/lang/IndexOutOfBoundsException" = E := Option.some.inj hE
      refine vx_catch hown [] ⟨0, 6, 7, 49⟩ [] ht (fun _ h => nomatch h) (by decide) (by decide) (hts _ q_383) (va_Nw.use rfl (hK.2.1 _ q_472)) h1 h2 h3 ?_
      refine lv_astore_n (lv' := [(3, .ref q9), (0, .ref (b0 + 0)), (1, .int x1), (2, .int x2)]) hx hb dL_line_7 rfl hl (by decide) rfl (fun ls hl => ?_)
      refine lv_bipush (v := (-77)) hx hb dL_line_8 (by decide) ?_
      rw [← Option.some.inj hr]
      exact fin_ic (w := 1) C hV hS (Nat.le_refl _) rfl dL_line_10
    have hr := ie b hr
    cases hr
  · rw [hn] at hr
    have hr : (some (r, q1.2)) = some res := hr
    rw [← Option.some.inj hr]
    exact fin_ic (w := 1) C hV hS (Nat.le_refl _) rfl dL_line_6
set_option maxHeartbeats 4000000 in
set_option maxRecDepth 100000 in
theorem c_L_chapterLine (l : Launch) (hfl : l.stackTraces = false) (G : LG) (b0 : Nat) (V : St) (x1 : Int32) (x2 : Int32) (res : Int32 × St) (hr : f_L_chapterLine V x1 x2 = some res) : Met l yL_chapterLine (wyH yL_chapterLine cL_chapterLine 4 (some .int) [(0, 6, 7, 49), (0, 6, 11, 55)]) (rmc 7 1) (va_Pc [.ref (b0 + 0), .int x1, .int x2] (Iv G b0 V)) (QI G b0 res.1 res.2) 1 (6 * 1) (Ab b0) := by
  refine mk_h (by decide +kernel) (Nat.le_of_ble_eq_true rfl) ?_
  intro p e s m below meth c C ht hV hS ls hl
  obtain ⟨args, hargs⟩ : ∃ z, z = ([.ref (b0 + 0), .int x1, .int x2] : List Value).toArray := ⟨_, rfl⟩
  rw [← hargs] at C ⊢
  obtain ⟨hx, hb, hrt, hml, hown, hts, hlocks, hK, hSv⟩ := id C
  have hl : lv_has ls 4 [(0, .ref (b0 + 0)), (1, .int x1), (2, .int x2)] := hl
  unfold f_L_chapterLine at hr
  refine lv_aload_n hx hb dL_chapterLine_0 rfl (lv_at hl 0 rfl) ?_
  refine lv_iload_n hx hb dL_chapterLine_1 rfl (lv_at hl 1 rfl) ?_
  refine lv_iload_n hx hb dL_chapterLine_2 rfl (lv_at hl 2 rfl) ?_
  obtain ⟨q1, e1, hr⟩ := ob hr
  refine xcal_i (As := [.int x1, .int x2]) (rest := []) C hV hS (c_X9_chapterLine l hfl G b0 V x1 x2 q1 e1) (rcv hK hV (kd_lt z_0 (by decide)) (cel_0 z_0) rfl) q_1362 q_1363 q_1364 q_93 q_1365 dk_X9_chapterLine (rmx_ok3 (by decide) (by decide)) hl.1 rfl (Nat.le_of_ble_eq_true rfl) dL_chapterLine_3 ⟨Nat.le_refl _, Nat.le_refl _⟩ (fun n E ce q9 H locs hn hE hV hS h1 h2 h3 => ?_) (fun r H locs hn hV hS => ?_)
  · rw [hn] at hr
    have hr : (if n = 1 then some ((-77), q1.2) else if n = 2 then some ((-75), q1.2) else none) = some res := hr
    by_cases b : n = 1
    · subst b
      have hr := it rfl hr
      obtain rfl : "java/lang/IndexOutOfBoundsException" = E := Option.some.inj hE
      refine vx_catch hown [] ⟨0, 6, 7, 49⟩ [⟨0, 6, 11, 55⟩] ht (fun _ h => nomatch h) (by decide) (by decide) (hts _ q_383) (va_Nw.use rfl (hK.2.1 _ q_472)) h1 h2 h3 ?_
      refine lv_astore_n (lv' := [(3, .ref q9), (0, .ref (b0 + 0)), (1, .int x1), (2, .int x2)]) hx hb dL_chapterLine_7 rfl hl (by decide) rfl (fun ls hl => ?_)
      refine lv_bipush (v := (-77)) hx hb dL_chapterLine_8 (by decide) ?_
      rw [← Option.some.inj hr]
      exact fin_ic (w := 1) C hV hS (Nat.le_refl _) rfl dL_chapterLine_10
    have hr := ie b hr
    by_cases b : n = 2
    · subst b
      have hr := it rfl hr
      obtain rfl : "java/util/NoSuchElementException" = E := Option.some.inj hE
      refine vx_catch hown [⟨0, 6, 7, 49⟩] ⟨0, 6, 11, 55⟩ [] ht (List.forall_mem_cons.mpr ⟨Or.inr ⟨by decide, "java/lang/IndexOutOfBoundsException", hts _ q_383, hK.2.2.2 ("java/util/NoSuchElementException", "java/lang/IndexOutOfBoundsException") (by decide)⟩, fun _ h => nomatch h⟩) (by decide) (by decide) (hts _ q_1268) (va_Nw.use rfl (hK.2.1 _ q_1275)) h1 h2 h3 ?_
      refine lv_astore_n (lv' := [(3, .ref q9), (0, .ref (b0 + 0)), (1, .int x1), (2, .int x2)]) hx hb dL_chapterLine_11 rfl hl (by decide) rfl (fun ls hl => ?_)
      refine lv_bipush (v := (-75)) hx hb dL_chapterLine_12 (by decide) ?_
      rw [← Option.some.inj hr]
      exact fin_ic (w := 1) C hV hS (Nat.le_refl _) rfl dL_chapterLine_14
    have hr := ie b hr
    cases hr
  · rw [hn] at hr
    have hr : (some (r, q1.2)) = some res := hr
    rw [← Option.some.inj hr]
    exact fin_ic (w := 1) C hV hS (Nat.le_refl _) rfl dL_chapterLine_6
set_option maxHeartbeats 4000000 in
set_option maxRecDepth 100000 in
theorem c_L_noteLine (l : Launch) (hfl : l.stackTraces = false) (G : LG) (b0 : Nat) (V : St) (x1 : Int32) (res : Int32 × St) (hr : f_L_noteLine V x1 = some res) : Met l yL_noteLine (wyH yL_noteLine cL_noteLine 3 (some .int) [(0, 5, 6, 49)]) (rmc 7 1) (va_Pc [.ref (b0 + 0), .int x1] (Iv G b0 V)) (QI G b0 res.1 res.2) 1 (6 * 1) (Ab b0) := by
  refine mk_h (by decide +kernel) (Nat.le_of_ble_eq_true rfl) ?_
  intro p e s m below meth c C ht hV hS ls hl
  obtain ⟨args, hargs⟩ : ∃ z, z = ([.ref (b0 + 0), .int x1] : List Value).toArray := ⟨_, rfl⟩
  rw [← hargs] at C ⊢
  obtain ⟨hx, hb, hrt, hml, hown, hts, hlocks, hK, hSv⟩ := id C
  have hl : lv_has ls 3 [(0, .ref (b0 + 0)), (1, .int x1)] := hl
  unfold f_L_noteLine at hr
  refine lv_aload_n hx hb dL_noteLine_0 rfl (lv_at hl 0 rfl) ?_
  refine lv_iload_n hx hb dL_noteLine_1 rfl (lv_at hl 1 rfl) ?_
  obtain ⟨q1, e1, hr⟩ := ob hr
  refine xcal_i (As := [.int x1]) (rest := []) C hV hS (c_X9_noteLine l hfl G b0 V x1 q1 e1) (rcv hK hV (kd_lt z_0 (by decide)) (cel_0 z_0) rfl) q_1306 q_1307 q_1308 q_93 q_1309 dk_X9_noteLine (rmx_ok3 (by decide) (by decide)) hl.1 rfl (Nat.le_of_ble_eq_true rfl) dL_noteLine_2 ⟨Nat.le_refl _, Nat.le_refl _⟩ (fun n E ce q9 H locs hn hE hV hS h1 h2 h3 => ?_) (fun r H locs hn hV hS => ?_)
  · rw [hn] at hr
    have hr : (if n = 1 then some ((-77), q1.2) else none) = some res := hr
    by_cases b : n = 1
    · subst b
      have hr := it rfl hr
      obtain rfl : "java/lang/IndexOutOfBoundsException" = E := Option.some.inj hE
      refine vx_catch hown [] ⟨0, 5, 6, 49⟩ [] ht (fun _ h => nomatch h) (by decide) (by decide) (hts _ q_383) (va_Nw.use rfl (hK.2.1 _ q_472)) h1 h2 h3 ?_
      refine lv_astore_n (lv' := [(2, .ref q9), (0, .ref (b0 + 0)), (1, .int x1)]) hx hb dL_noteLine_6 rfl hl (by decide) rfl (fun ls hl => ?_)
      refine lv_bipush (v := (-77)) hx hb dL_noteLine_7 (by decide) ?_
      rw [← Option.some.inj hr]
      exact fin_ic (w := 1) C hV hS (Nat.le_refl _) rfl dL_noteLine_9
    have hr := ie b hr
    cases hr
  · rw [hn] at hr
    have hr : (some (r, q1.2)) = some res := hr
    rw [← Option.some.inj hr]
    exact fin_ic (w := 1) C hV hS (Nat.le_refl _) rfl dL_noteLine_5
set_option maxHeartbeats 4000000 in
set_option maxRecDepth 100000 in
theorem c_L_meanKnots (l : Launch) (hfl : l.stackTraces = false) (G : LG) (b0 : Nat) (V : St) (res : UInt64) (hr : f_L_meanKnots V = some res) : Met l yL_meanKnots (wyH yL_meanKnots cL_meanKnots 2 (some .double) [(0, 4, 5, 124)]) (rmc 7 1) (va_Pc [.ref (b0 + 0)] (Iv G b0 V)) (QD G b0 res V) 1 (6 * 1) (Ab b0) := by
  refine mk_h (by decide +kernel) (Nat.le_of_ble_eq_true rfl) ?_
  intro p e s m below meth c C ht hV hS ls hl
  obtain ⟨args, hargs⟩ : ∃ z, z = ([.ref (b0 + 0)] : List Value).toArray := ⟨_, rfl⟩
  rw [← hargs] at C ⊢
  obtain ⟨hx, hb, hrt, hml, hown, hts, hlocks, hK, hSv⟩ := id C
  have hl : lv_has ls 2 [(0, .ref (b0 + 0))] := hl
  unfold f_L_meanKnots at hr
  refine lv_aload_n hx hb dL_meanKnots_0 rfl (lv_at hl 0 rfl) ?_
  obtain ⟨q1, e1, hr⟩ := ob hr
  refine xcal_d (As := []) (rest := []) C hV hS (c_X9_meanKnots l hfl G b0 V q1 e1) (rcv hK hV (kd_lt z_0 (by decide)) (cel_0 z_0) rfl) q_1494 q_1495 q_1496 q_93 q_1497 dk_X9_meanKnots (rmx_ok3 (by decide) (by decide)) hl.1 rfl (Nat.le_of_ble_eq_true rfl) dL_meanKnots_1 ⟨Nat.le_refl _, Nat.le_refl _⟩ (fun n E ce q9 H locs hn hE hV hS h1 h2 h3 => ?_) (fun r H locs hn hV hS => ?_)
  · rw [hn] at hr
    have hr : (if n = 5 then some 13858279740860792832 else none) = some res := hr
    by_cases b : n = 5
    · subst b
      have hr := it rfl hr
      obtain rfl : "java/lang/ArithmeticException" = E := Option.some.inj hE
      refine vx_catch hown [] ⟨0, 4, 5, 124⟩ [] ht (fun _ h => nomatch h) (by decide) (by decide) (hts _ q_1480) (va_Nw.use rfl (hK.2.1 _ q_1492)) h1 h2 h3 ?_
      refine lv_astore_n (lv' := [(1, .ref q9), (0, .ref (b0 + 0))]) hx hb dL_meanKnots_5 rfl hl (by decide) rfl (fun ls hl => ?_)
      refine lv_ldc2d (v := 13858279740860792832) hx hb hown (hts _ q_1501) dL_meanKnots_6 ?_
      rw [← Option.some.inj hr]
      exact fin_dc (w := 1) C hV hS (Nat.le_refl _) rfl dL_meanKnots_9
    have hr := ie b hr
    cases hr
  · rw [hn] at hr
    have hr : (some r) = some res := hr
    rw [← Option.some.inj hr]
    exact fin_dc (w := 1) C hV hS (Nat.le_refl _) rfl dL_meanKnots_4
set_option maxHeartbeats 4000000 in
set_option maxRecDepth 100000 in
theorem c_L_readShare (l : Launch) (hfl : l.stackTraces = false) (G : LG) (b0 : Nat) (V : St) (res : UInt32) (hr : f_L_readShare V = some res) : Met l yL_readShare (wyH yL_readShare cL_readShare 2 (some .float) [(0, 4, 5, 124)]) (rmc 7 1) (va_Pc [.ref (b0 + 0)] (Iv G b0 V)) (QF G b0 res V) 1 (6 * 1) (Ab b0) := by
  refine mk_h (by decide +kernel) (Nat.le_of_ble_eq_true rfl) ?_
  intro p e s m below meth c C ht hV hS ls hl
  obtain ⟨args, hargs⟩ : ∃ z, z = ([.ref (b0 + 0)] : List Value).toArray := ⟨_, rfl⟩
  rw [← hargs] at C ⊢
  obtain ⟨hx, hb, hrt, hml, hown, hts, hlocks, hK, hSv⟩ := id C
  have hl : lv_has ls 2 [(0, .ref (b0 + 0))] := hl
  unfold f_L_readShare at hr
  refine lv_aload_n hx hb dL_readShare_0 rfl (lv_at hl 0 rfl) ?_
  obtain ⟨q1, e1, hr⟩ := ob hr
  refine xcal_f (As := []) (rest := []) C hV hS (c_X9_readShare l hfl G b0 V q1 e1) (rcv hK hV (kd_lt z_0 (by decide)) (cel_0 z_0) rfl) q_1505 q_1506 q_1507 q_93 q_1508 dk_X9_readShare (rmx_ok3 (by decide) (by decide)) hl.1 rfl (Nat.le_of_ble_eq_true rfl) dL_readShare_1 ⟨Nat.le_refl _, Nat.le_refl _⟩ (fun n E ce q9 H locs hn hE hV hS h1 h2 h3 => ?_) (fun r H locs hn hV hS => ?_)
  · rw [hn] at hr
    have hr : (if n = 5 then some 3264479232 else none) = some res := hr
    by_cases b : n = 5
    · subst b
      have hr := it rfl hr
      obtain rfl : "java/lang/ArithmeticException" = E := Option.some.inj hE
      refine vx_catch hown [] ⟨0, 4, 5, 124⟩ [] ht (fun _ h => nomatch h) (by decide) (by decide) (hts _ q_1480) (va_Nw.use rfl (hK.2.1 _ q_1492)) h1 h2 h3 ?_
      refine lv_astore_n (lv' := [(1, .ref q9), (0, .ref (b0 + 0))]) hx hb dL_readShare_5 rfl hl (by decide) rfl (fun ls hl => ?_)
      refine lv_ldcf (v := 3264479232) hx hb hown (hts _ q_1510) dL_readShare_6 ?_
      rw [← Option.some.inj hr]
      exact fin_fc (w := 1) C hV hS (Nat.le_refl _) rfl dL_readShare_8
    have hr := ie b hr
    cases hr
  · rw [hn] at hr
    have hr : (some r) = some res := hr
    rw [← Option.some.inj hr]
    exact fin_fc (w := 1) C hV hS (Nat.le_refl _) rfl dL_readShare_4
set_option maxHeartbeats 4000000 in
set_option maxRecDepth 100000 in
theorem c_L_account (l : Launch) (hfl : l.stackTraces = false) (G : LG) (b0 : Nat) (V : St) (x1 : Int32) (res : Int32) (hr : f_L_account V x1 = some res) : Met l yL_account (wyH yL_account cL_account 3 (some .int) [(0, 5, 6, 60)]) (rmc 7 1) (va_Pc [.ref (b0 + 0), .int x1] (Iv G b0 V)) (QI G b0 res V) 1 (6 * 1) (Ab b0) := by
  refine mk_h (by decide +kernel) (Nat.le_of_ble_eq_true rfl) ?_
  intro p e s m below meth c C ht hV hS ls hl
  obtain ⟨args, hargs⟩ : ∃ z, z = ([.ref (b0 + 0), .int x1] : List Value).toArray := ⟨_, rfl⟩
  rw [← hargs] at C ⊢
  obtain ⟨hx, hb, hrt, hml, hown, hts, hlocks, hK, hSv⟩ := id C
  have hl : lv_has ls 3 [(0, .ref (b0 + 0)), (1, .int x1)] := hl
  unfold f_L_account at hr
  refine lv_aload_n hx hb dL_account_0 rfl (lv_at hl 0 rfl) ?_
  refine lv_iload_n hx hb dL_account_1 rfl (lv_at hl 1 rfl) ?_
  obtain ⟨q1, e1, hr⟩ := ob hr
  refine xcal_i (As := [.int x1]) (rest := []) C hV hS (c_X9_account l hfl G b0 V x1 q1 e1) (rcv hK hV (kd_lt z_0 (by decide)) (cel_0 z_0) rfl) q_526 q_527 q_528 q_93 q_529 dk_X9_account (rmx_ok3 (by decide) (by decide)) hl.1 rfl (Nat.le_of_ble_eq_true rfl) dL_account_2 ⟨Nat.le_refl _, Nat.le_refl _⟩ (fun n E ce q9 H locs hn hE hV hS h1 h2 h3 => ?_) (fun r H locs hn hV hS => ?_)
  · rw [hn] at hr
    have hr : (if n = 3 then some (-78) else none) = some res := hr
    by_cases b : n = 3
    · subst b
      have hr := it rfl hr
      obtain rfl : "java/lang/IllegalArgumentException" = E := Option.some.inj hE
      refine vx_catch hown [] ⟨0, 5, 6, 60⟩ [] ht (fun _ h => nomatch h) (by decide) (by decide) (hts _ q_525) (va_Nw.use rfl (hK.2.1 _ q_583)) h1 h2 h3 ?_
      refine lv_astore_n (lv' := [(2, .ref q9), (0, .ref (b0 + 0)), (1, .int x1)]) hx hb dL_account_6 rfl hl (by decide) rfl (fun ls hl => ?_)
      refine lv_bipush (v := (-78)) hx hb dL_account_7 (by decide) ?_
      rw [← Option.some.inj hr]
      exact fin_ic (w := 1) C hV hS (Nat.le_refl _) rfl dL_account_9
    have hr := ie b hr
    cases hr
  · rw [hn] at hr
    have hr : (some r) = some res := hr
    rw [← Option.some.inj hr]
    exact fin_ic (w := 1) C hV hS (Nat.le_refl _) rfl dL_account_5
set_option maxHeartbeats 4000000 in
set_option maxRecDepth 100000 in
theorem c_L_undo (l : Launch) (hfl : l.stackTraces = false) (G : LG) (b0 : Nat) (V : St) (res : Int32 × St) (hr : f_L_undo V = some res) : Met l yL_undo (wyH yL_undo cL_undo 2 (some .int) [(0, 4, 5, 94)]) (rmc 7 1) (va_Pc [.ref (b0 + 0)] (Iv G b0 V)) (QI G b0 res.1 res.2) 1 (6 * 1) (Ab b0) := by
  refine mk_h (by decide +kernel) (Nat.le_of_ble_eq_true rfl) ?_
  intro p e s m below meth c C ht hV hS ls hl
  obtain ⟨args, hargs⟩ : ∃ z, z = ([.ref (b0 + 0)] : List Value).toArray := ⟨_, rfl⟩
  rw [← hargs] at C ⊢
  obtain ⟨hx, hb, hrt, hml, hown, hts, hlocks, hK, hSv⟩ := id C
  have hl : lv_has ls 2 [(0, .ref (b0 + 0))] := hl
  unfold f_L_undo at hr
  refine lv_aload_n hx hb dL_undo_0 rfl (lv_at hl 0 rfl) ?_
  obtain ⟨q1, e1, hr⟩ := ob hr
  refine xcal_i (As := []) (rest := []) C hV hS (c_X9_undo l hfl G b0 V q1 e1) (rcv hK hV (kd_lt z_0 (by decide)) (cel_0 z_0) rfl) q_1538 q_1539 q_1540 q_93 q_1541 dk_X9_undo (rmx_ok3 (by decide) (by decide)) hl.1 rfl (Nat.le_of_ble_eq_true rfl) dL_undo_1 ⟨Nat.le_refl _, Nat.le_refl _⟩ (fun n E ce q9 H locs hn hE hV hS h1 h2 h3 => ?_) (fun r H locs hn hV hS => ?_)
  · rw [hn] at hr
    have hr : (if n = 4 then some ((-79), q1.2) else none) = some res := hr
    by_cases b : n = 4
    · subst b
      have hr := it rfl hr
      obtain rfl : "java/lang/IllegalStateException" = E := Option.some.inj hE
      refine vx_catch hown [] ⟨0, 4, 5, 94⟩ [] ht (fun _ h => nomatch h) (by decide) (by decide) (hts _ q_1122) (va_Nw.use rfl (hK.2.1 _ q_1133)) h1 h2 h3 ?_
      refine lv_astore_n (lv' := [(1, .ref q9), (0, .ref (b0 + 0))]) hx hb dL_undo_5 rfl hl (by decide) rfl (fun ls hl => ?_)
      refine lv_bipush (v := (-79)) hx hb dL_undo_6 (by decide) ?_
      rw [← Option.some.inj hr]
      exact fin_ic (w := 1) C hV hS (Nat.le_refl _) rfl dL_undo_8
    have hr := ie b hr
    cases hr
  · rw [hn] at hr
    have hr : (some (r, q1.2)) = some res := hr
    rw [← Option.some.inj hr]
    exact fin_ic (w := 1) C hV hS (Nat.le_refl _) rfl dL_undo_4
set_option maxHeartbeats 4000000 in
set_option maxRecDepth 100000 in
theorem c_L_restore (l : Launch) (hfl : l.stackTraces = false) (G : LG) (b0 : Nat) (V : St) (res : Int32 × St) (hr : f_L_restore V = some res) : Met l yL_restore (wyH yL_restore cL_restore 2 (some .int) [(0, 4, 5, 94)]) (rmc 7 1) (va_Pc [.ref (b0 + 0)] (Iv G b0 V)) (QI G b0 res.1 res.2) 1 (6 * 1) (Ab b0) := by
  refine mk_h (by decide +kernel) (Nat.le_of_ble_eq_true rfl) ?_
  intro p e s m below meth c C ht hV hS ls hl
  obtain ⟨args, hargs⟩ : ∃ z, z = ([.ref (b0 + 0)] : List Value).toArray := ⟨_, rfl⟩
  rw [← hargs] at C ⊢
  obtain ⟨hx, hb, hrt, hml, hown, hts, hlocks, hK, hSv⟩ := id C
  have hl : lv_has ls 2 [(0, .ref (b0 + 0))] := hl
  unfold f_L_restore at hr
  refine lv_aload_n hx hb dL_restore_0 rfl (lv_at hl 0 rfl) ?_
  obtain ⟨q1, e1, hr⟩ := ob hr
  refine xcal_i (As := []) (rest := []) C hV hS (c_X9_restore l hfl G b0 V q1 e1) (rcv hK hV (kd_lt z_0 (by decide)) (cel_0 z_0) rfl) q_1550 q_1551 q_1552 q_93 q_1553 dk_X9_restore (rmx_ok3 (by decide) (by decide)) hl.1 rfl (Nat.le_of_ble_eq_true rfl) dL_restore_1 ⟨Nat.le_refl _, Nat.le_refl _⟩ (fun n E ce q9 H locs hn hE hV hS h1 h2 h3 => ?_) (fun r H locs hn hV hS => ?_)
  · rw [hn] at hr
    have hr : (if n = 4 then some ((-79), q1.2) else none) = some res := hr
    by_cases b : n = 4
    · subst b
      have hr := it rfl hr
      obtain rfl : "java/lang/IllegalStateException" = E := Option.some.inj hE
      refine vx_catch hown [] ⟨0, 4, 5, 94⟩ [] ht (fun _ h => nomatch h) (by decide) (by decide) (hts _ q_1122) (va_Nw.use rfl (hK.2.1 _ q_1133)) h1 h2 h3 ?_
      refine lv_astore_n (lv' := [(1, .ref q9), (0, .ref (b0 + 0))]) hx hb dL_restore_5 rfl hl (by decide) rfl (fun ls hl => ?_)
      refine lv_bipush (v := (-79)) hx hb dL_restore_6 (by decide) ?_
      rw [← Option.some.inj hr]
      exact fin_ic (w := 1) C hV hS (Nat.le_refl _) rfl dL_restore_8
    have hr := ie b hr
    cases hr
  · rw [hn] at hr
    have hr : (some (r, q1.2)) = some res := hr
    rw [← Option.some.inj hr]
    exact fin_ic (w := 1) C hV hS (Nat.le_refl _) rfl dL_restore_4
