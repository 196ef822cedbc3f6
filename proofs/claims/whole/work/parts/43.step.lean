/-! one call of the law, and all of them -/
theorem ro_in {f : St → Option (Except Nat Int32)} {V V1 : St} {r : Except Nat Int32} (h : RO f V = some (r, V1)) : f V = some r ∧ V1 = V := by
  unfold RO at h
  cases e : f V with
  | none => rw [e] at h; cases h
  | some x =>
    rw [e] at h
    cases h
    exact ⟨rfl, rfl⟩
theorem sim_ro {f : St → Option (Except Nat Int32)} {fm : St → Option (Int32 × St)} {L : List (Nat × Int32)} (h : SIM (RO f) fm L) {fL : St → Option (Int32 × St)}
    (hok : ∀ V r, f V = some (.ok r) → fL V = some (0, up V 216 0 r)) (her : ∀ V n c, f V = some (.error n) → (n, c) ∈ L → fL V = some (c, V)) {V : St} (hV : RR V V) :
    ∃ V1, ((fL V).bind fun q1 => (fm q1.2).bind fun q2 => (f_X10_thrown q2.2).bind fun q3 => if q3 = q1.1 then (if q1.1 = 0 then (if (lcm (q2.2 216 0) q2.1) = 0 then some q2.2 else none) else some q2.2) else none) = some V1 ∧ RR V1 V1 :=
  sim_k h (fun V V1 r e => by
    obtain ⟨a, b⟩ := ro_in e
    rw [b]
    exact hok V r a) (fun V V1 n c e hm => by
    obtain ⟨a, b⟩ := ro_in e
    rw [b]
    exact her V n c a hm) hV
theorem t_0 {V : St} (hR : RR V V) (y1 y2 y3 : Int32) : ∃ V1, k_0 V y1 y2 y3 = some V1 ∧ RR V1 V1 := by
  refine sim_k (fL := fun V => f_L_knot V y1 y2 y3) (s_knot y1 y2 y3) (fun V V1 r h => ?_) (fun V V1 n c h hm => ?_) hR
  · have h : f_X9_knot V y1 y2 y3 = some (.ok r, V1) := h
    show (f_X9_knot V y1 y2 y3).bind _ = _
    rw [h]
    rfl
  · have h : f_X9_knot V y1 y2 y3 = some (.error n, V1) := h
    show (f_X9_knot V y1 y2 y3).bind _ = _
    rw [h]
    simp only [List.mem_cons, List.not_mem_nil, or_false, Prod.mk.injEq] at hm
    rcases hm with ⟨rfl, rfl⟩ <;> rfl
theorem t_1 {V : St} (hR : RR V V) (y1 y2 y3 : Int32) : ∃ V1, k_1 V y1 y2 y3 = some V1 ∧ RR V1 V1 := by
  refine sim_k (fL := fun V => f_L_tear V y1 y2 y3) (s_tear y1 y2 y3) (fun V V1 r h => ?_) (fun V V1 n c h hm => ?_) hR
  · have h : f_X9_tear V y1 y2 y3 = some (.ok r, V1) := h
    show (f_X9_tear V y1 y2 y3).bind _ = _
    rw [h]
    rfl
  · have h : f_X9_tear V y1 y2 y3 = some (.error n, V1) := h
    show (f_X9_tear V y1 y2 y3).bind _ = _
    rw [h]
    simp only [List.mem_cons, List.not_mem_nil, or_false, Prod.mk.injEq] at hm
    rcases hm with ⟨rfl, rfl⟩ <;> rfl
theorem t_2 {V : St} (hR : RR V V) (y1 y2 y3 y4 : Int32) : ∃ V1, k_2 V y1 y2 y3 y4 = some V1 ∧ RR V1 V1 := by
  refine sim_k (fL := fun V => f_L_mend V y1 y2 y3 y4) (s_mend y1 y2 y3 y4) (fun V V1 r h => ?_) (fun V V1 n c h hm => ?_) hR
  · have h : f_X9_mend V y1 y2 y3 y4 = some (.ok r, V1) := h
    show (f_X9_mend V y1 y2 y3 y4).bind _ = _
    rw [h]
    rfl
  · have h : f_X9_mend V y1 y2 y3 y4 = some (.error n, V1) := h
    show (f_X9_mend V y1 y2 y3 y4).bind _ = _
    rw [h]
    simp only [List.mem_cons, List.not_mem_nil, or_false, Prod.mk.injEq] at hm
    rcases hm with ⟨rfl, rfl⟩ <;> rfl
theorem t_3 {V : St} (hR : RR V V) (y1 : Int32) : ∃ V1, k_3 V y1 = some V1 ∧ RR V1 V1 := by
  refine sim_k (fL := fun V => f_L_editor V y1) (s_editor y1) (fun V V1 r h => ?_) (fun V V1 n c h hm => ?_) hR
  · have h : f_X9_editor V y1 = some (.ok r, V1) := h
    show (f_X9_editor V y1).bind _ = _
    rw [h]
    rfl
  · have h : f_X9_editor V y1 = some (.error n, V1) := h
    show (f_X9_editor V y1).bind _ = _
    rw [h]
    simp only [List.mem_cons, List.not_mem_nil, or_false, Prod.mk.injEq] at hm
    rcases hm with ⟨rfl, rfl⟩ <;> rfl
theorem t_4 {V : St} (hR : RR V V) (y1 : Int32) : ∃ V1, k_4 V y1 = some V1 ∧ RR V1 V1 := by
  refine sim_k (fL := fun V => f_L_tide V y1) (s_tide y1) (fun V V1 r h => ?_) (fun V V1 n c h hm => ?_) hR
  · have h : f_X9_tide V y1 = some (.ok r, V1) := h
    show (f_X9_tide V y1).bind _ = _
    rw [h]
    rfl
  · have h : f_X9_tide V y1 = some (.error n, V1) := h
    show (f_X9_tide V y1).bind _ = _
    rw [h]
    simp only [List.mem_cons, List.not_mem_nil, or_false, Prod.mk.injEq] at hm
    rcases hm with ⟨rfl, rfl⟩ <;> rfl
theorem t_5 {V : St} (hR : RR V V) (y1 y2 : Int32) : ∃ V1, k_5 V y1 y2 = some V1 ∧ RR V1 V1 := by
  refine sim_k (fL := fun V => f_L_sink V y1 y2) (s_sink y1 y2) (fun V V1 r h => ?_) (fun V V1 n c h hm => ?_) hR
  · have h : f_X9_sink V y1 y2 = some (.ok r, V1) := h
    show (f_X9_sink V y1 y2).bind _ = _
    rw [h]
    rfl
  · have h : f_X9_sink V y1 y2 = some (.error n, V1) := h
    show (f_X9_sink V y1 y2).bind _ = _
    rw [h]
    simp only [List.mem_cons, List.not_mem_nil, or_false, Prod.mk.injEq] at hm
    rcases hm with ⟨rfl, rfl⟩ <;> rfl
theorem t_6 {V : St} (hR : RR V V) (y1 y2 : Int32) : ∃ V1, k_6 V y1 y2 = some V1 ∧ RR V1 V1 := by
  refine sim_k (fL := fun V => f_L_note V y1 y2) (s_note y1 y2) (fun V V1 r h => ?_) (fun V V1 n c h hm => ?_) hR
  · have h : f_X9_note V y1 y2 = some (.ok r, V1) := h
    show (f_X9_note V y1 y2).bind _ = _
    rw [h]
    rfl
  · have h : f_X9_note V y1 y2 = some (.error n, V1) := h
    show (f_X9_note V y1 y2).bind _ = _
    rw [h]
    simp only [List.mem_cons, List.not_mem_nil, or_false, Prod.mk.injEq] at hm
    rcases hm with ⟨rfl, rfl⟩ <;> rfl
theorem t_7 {V : St} (hR : RR V V) (y1 : Int32) : ∃ V1, k_7 V y1 = some V1 ∧ RR V1 V1 := by
  refine sim_k (fL := fun V => f_L_drop V y1) (s_drop y1) (fun V V1 r h => ?_) (fun V V1 n c h hm => ?_) hR
  · have h : f_X9_drop V y1 = some (.ok r, V1) := h
    show (f_X9_drop V y1).bind _ = _
    rw [h]
    rfl
  · have h : f_X9_drop V y1 = some (.error n, V1) := h
    show (f_X9_drop V y1).bind _ = _
    rw [h]
    simp only [List.mem_cons, List.not_mem_nil, or_false, Prod.mk.injEq] at hm
    rcases hm with ⟨rfl, rfl⟩ <;> rfl
theorem t_8 {V : St} (hR : RR V V) (y1 y2 : Int32) : ∃ V1, k_8 V y1 y2 = some V1 ∧ RR V1 V1 := by
  refine sim_ro (fL := fun V => f_L_kindOf V y1 y2) (s_kindOf y1 y2) (fun V r h => ?_) (fun V n c h hm => ?_) hR
  · have h : f_X9_kindOf V y1 y2 = some (.ok r) := h
    show (f_X9_kindOf V y1 y2).bind _ = _
    rw [h]
    rfl
  · have h : f_X9_kindOf V y1 y2 = some (.error n) := h
    show (f_X9_kindOf V y1 y2).bind _ = _
    rw [h]
    simp only [List.mem_cons, List.not_mem_nil, or_false, Prod.mk.injEq] at hm
    rcases hm with ⟨rfl, rfl⟩ <;> rfl
theorem t_9 {V : St} (hR : RR V V) (y1 y2 y3 : Int32) : ∃ V1, k_9 V y1 y2 y3 = some V1 ∧ RR V1 V1 := by
  have t := sim_ro (fL := fun V => f_L_isTorn V y1 y2 y3) (s_isTorn y1 y2 y3) (fun V r h => ?_) (fun V n c h hm => ?_) hR
  · simp only [ba, bs] at t
    exact t
  · have h : ((f_X9_isTorn V y1 y2 y3).bind fun r => some (exb r)) = some (.ok r) := h
    show (f_X9_isTorn V y1 y2 y3).bind _ = _
    cases e : f_X9_isTorn V y1 y2 y3 with
    | none => rw [e] at h; cases h
    | some x =>
      rw [e] at h
      cases x with
      | error k => cases h
      | ok x =>
        cases h
        show (if x = 0 then some ((0 : Int32), up V 216 0 0) else some (0, up V 216 0 1)) = _
        by_cases z : x = 0
        · rw [if_pos z]
          show _ = some ((0 : Int32), up V 216 0 (if x = 0 then 0 else 1))
          rw [if_pos z]
        · rw [if_neg z]
          show _ = some ((0 : Int32), up V 216 0 (if x = 0 then 0 else 1))
          rw [if_neg z]
  · have h : ((f_X9_isTorn V y1 y2 y3).bind fun r => some (exb r)) = some (.error n) := h
    show (f_X9_isTorn V y1 y2 y3).bind _ = _
    cases e : f_X9_isTorn V y1 y2 y3 with
    | none => rw [e] at h; cases h
    | some x =>
      rw [e] at h
      cases x with
      | ok k => cases h
      | error x =>
        cases h
        simp only [List.mem_cons, List.not_mem_nil, or_false, Prod.mk.injEq] at hm
        rcases hm with ⟨rfl, rfl⟩ | ⟨rfl, rfl⟩ <;> rfl
theorem t_10 {V : St} (hR : RR V V) (y1 y2 : Int32) : ∃ V1, k_10 V y1 y2 = some V1 ∧ RR V1 V1 := by
  refine sim_ro (fL := fun V => f_L_netOf V y1 y2) (s_netOf y1 y2) (fun V r h => ?_) (fun V n c h hm => ?_) hR
  · have h : f_X9_netOf V y1 y2 = some (.ok r) := h
    show (f_X9_netOf V y1 y2).bind _ = _
    rw [h]
    rfl
  · have h : f_X9_netOf V y1 y2 = some (.error n) := h
    show (f_X9_netOf V y1 y2).bind _ = _
    rw [h]
    simp only [List.mem_cons, List.not_mem_nil, or_false, Prod.mk.injEq] at hm
    rcases hm with ⟨rfl, rfl⟩ | ⟨rfl, rfl⟩ <;> rfl
theorem t_11 {V : St} (hR : RR V V) (y1 : Int32) : ∃ V1, k_11 V y1 = some V1 ∧ RR V1 V1 := by
  refine sim_ro (fL := fun V => f_L_chapters V y1) (s_chapters y1) (fun V r h => ?_) (fun V n c h hm => ?_) hR
  · have h : f_X9_chapters V y1 = some (.ok r) := h
    show (f_X9_chapters V y1).bind _ = _
    rw [h]
    rfl
  · have h : f_X9_chapters V y1 = some (.error n) := h
    show (f_X9_chapters V y1).bind _ = _
    rw [h]
    simp only [List.mem_cons, List.not_mem_nil, or_false, Prod.mk.injEq] at hm
    rcases hm with ⟨rfl, rfl⟩ <;> rfl
theorem t_12 {V : St} (hR : RR V V) (y1 : Int32) : ∃ V1, k_12 V y1 = some V1 ∧ RR V1 V1 := by
  refine sim_k (fL := fun V => f_L_chaptersAgain V y1) (s_chaptersAgain y1) (fun V V1 r h => ?_) (fun V V1 n c h hm => ?_) hR
  · have h : f_X9_chaptersAgain V y1 = some (.ok r, V1) := h
    show (f_X9_chaptersAgain V y1).bind _ = _
    rw [h]
    rfl
  · have h : f_X9_chaptersAgain V y1 = some (.error n, V1) := h
    show (f_X9_chaptersAgain V y1).bind _ = _
    rw [h]
    simp only [List.mem_cons, List.not_mem_nil, or_false, Prod.mk.injEq] at hm
    rcases hm with ⟨rfl, rfl⟩ <;> rfl
theorem t_13 {V : St} (hR : RR V V) (y1 y2 y3 : Int32) : ∃ V1, k_13 V y1 y2 y3 = some V1 ∧ RR V1 V1 := by
  refine sim_ro (fL := fun V => f_L_chapterOf V y1 y2 y3) (s_chapterOf y1 y2 y3) (fun V r h => ?_) (fun V n c h hm => ?_) hR
  · have h : f_X9_chapterOf V y1 y2 y3 = some (.ok r) := h
    show (f_X9_chapterOf V y1 y2 y3).bind _ = _
    rw [h]
    rfl
  · have h : f_X9_chapterOf V y1 y2 y3 = some (.error n) := h
    show (f_X9_chapterOf V y1 y2 y3).bind _ = _
    rw [h]
    simp only [List.mem_cons, List.not_mem_nil, or_false, Prod.mk.injEq] at hm
    rcases hm with ⟨rfl, rfl⟩ | ⟨rfl, rfl⟩ | ⟨rfl, rfl⟩ <;> rfl
theorem t_14 {V : St} (hR : RR V V) (y1 y2 : Int32) : ∃ V1, k_14 V y1 y2 = some V1 ∧ RR V1 V1 := by
  refine sim_ro (fL := fun V => f_L_noteOf V y1 y2) (s_noteOf y1 y2) (fun V r h => ?_) (fun V n c h hm => ?_) hR
  · have h : f_X9_noteOf V y1 y2 = some (.ok r) := h
    show (f_X9_noteOf V y1 y2).bind _ = _
    rw [h]
    rfl
  · have h : f_X9_noteOf V y1 y2 = some (.error n) := h
    show (f_X9_noteOf V y1 y2).bind _ = _
    rw [h]
    simp only [List.mem_cons, List.not_mem_nil, or_false, Prod.mk.injEq] at hm
    rcases hm with ⟨rfl, rfl⟩ | ⟨rfl, rfl⟩ <;> rfl
theorem t_15 {V : St} (hR : RR V V) (y1 : Int32) : ∃ V1, k_15 V y1 = some V1 ∧ RR V1 V1 := by
  refine sim_k (fL := fun V => f_L_least V y1) (s_least y1) (fun V V1 r h => ?_) (fun V V1 n c h hm => ?_) hR
  · have h : f_X9_least V y1 = some (.ok r, V1) := h
    show (f_X9_least V y1).bind _ = _
    rw [h]
    rfl
  · have h : f_X9_least V y1 = some (.error n, V1) := h
    show (f_X9_least V y1).bind _ = _
    rw [h]
    simp only [List.mem_cons, List.not_mem_nil, or_false, Prod.mk.injEq] at hm
    rcases hm with ⟨rfl, rfl⟩ | ⟨rfl, rfl⟩ <;> rfl
theorem t_16 {V : St} (hR : RR V V) (y1 : Int32) : ∃ V1, k_16 V y1 = some V1 ∧ RR V1 V1 := by
  refine sim_ro (fL := fun V => f_L_leastAgain V y1) (s_leastAgain y1) (fun V r h => ?_) (fun V n c h hm => ?_) hR
  · have h : f_X9_leastAgain V y1 = some (.ok r) := h
    show (f_X9_leastAgain V y1).bind _ = _
    rw [h]
    rfl
  · have h : f_X9_leastAgain V y1 = some (.error n) := h
    show (f_X9_leastAgain V y1).bind _ = _
    rw [h]
    simp only [List.mem_cons, List.not_mem_nil, or_false, Prod.mk.injEq] at hm
    rcases hm with ⟨rfl, rfl⟩ | ⟨rfl, rfl⟩ <;> rfl
theorem t_17 {V : St} (hR : RR V V) (y1 y2 : Int32) : ∃ V1, k_17 V y1 y2 = some V1 ∧ RR V1 V1 := by
  refine sim_ro (fL := fun V => f_L_bestMend V y1 (bz y2)) (s_bestMend y1 (bz y2)) (fun V r h => ?_) (fun V n c h hm => ?_) hR
  · have h : f_X9_bestMend V y1 (bz y2) = some (.ok r) := h
    show (f_X9_bestMend V y1 (bz y2)).bind _ = _
    rw [h]
    rfl
  · have h : f_X9_bestMend V y1 (bz y2) = some (.error n) := h
    show (f_X9_bestMend V y1 (bz y2)).bind _ = _
    rw [h]
    simp only [List.mem_cons, List.not_mem_nil, or_false, Prod.mk.injEq] at hm
    rcases hm with ⟨rfl, rfl⟩ | ⟨rfl, rfl⟩ <;> rfl
theorem t_18 {V : St} (hR : RR V V) (y1 y2 : Int32) : ∃ V1, k_18 V y1 y2 = some V1 ∧ RR V1 V1 := by
  refine sim_ro (fL := fun V => f_L_ranked V y1 y2) (s_ranked y1 y2) (fun V r h => ?_) (fun V n c h hm => ?_) hR
  · have h : f_X9_ranked V y1 y2 = some (.ok r) := h
    show (f_X9_ranked V y1 y2).bind _ = _
    rw [h]
    rfl
  · have h : f_X9_ranked V y1 y2 = some (.error n) := h
    show (f_X9_ranked V y1 y2).bind _ = _
    rw [h]
    simp only [List.mem_cons, List.not_mem_nil, or_false, Prod.mk.injEq] at hm
    rcases hm with ⟨rfl, rfl⟩ | ⟨rfl, rfl⟩ <;> rfl
theorem t_19 {V : St} (hR : RR V V) (y1 y2 : Int32) : ∃ V1, k_19 V y1 y2 = some V1 ∧ RR V1 V1 := by
  refine sim_ro (fL := fun V => f_L_editorOf V y1 y2) (s_editorOf y1 y2) (fun V r h => ?_) (fun V n c h hm => ?_) hR
  · have h : f_X9_editorOf V y1 y2 = some (.ok r) := h
    show (f_X9_editorOf V y1 y2).bind _ = _
    rw [h]
    rfl
  · have h : f_X9_editorOf V y1 y2 = some (.error n) := h
    show (f_X9_editorOf V y1 y2).bind _ = _
    rw [h]
    simp only [List.mem_cons, List.not_mem_nil, or_false, Prod.mk.injEq] at hm
    rcases hm with ⟨rfl, rfl⟩ | ⟨rfl, rfl⟩ <;> rfl
theorem t_20 {V : St} (hR : RR V V) (y1 : Int32) : ∃ V1, k_20 V y1 = some V1 ∧ RR V1 V1 := by
  refine sim_k (fL := fun V => f_L_feed V (i2c y1)) (s_feed (nar_i2c y1)) (fun V V1 r h => ?_) (fun V V1 n c h hm => ?_) hR
  · have h : f_X9_feed V (i2c y1) = some (.ok r, V1) := h
    show (f_X9_feed V (i2c y1)).bind _ = _
    rw [h]
    rfl
  · have h : f_X9_feed V (i2c y1) = some (.error n, V1) := h
    show (f_X9_feed V (i2c y1)).bind _ = _
    rw [h]
    simp only [List.mem_cons, List.not_mem_nil, or_false, Prod.mk.injEq] at hm
    rcases hm with ⟨rfl, rfl⟩ <;> rfl
theorem t_21 {V : St} (hR : RR V V) : ∃ V1, k_21 V = some V1 ∧ RR V1 V1 := by
  refine sim_k (fL := fun V => f_L_run V) (s_run) (fun V V1 r h => ?_) (fun V V1 n c h hm => ?_) hR
  · have h : f_X9_run V = some (.ok r, V1) := h
    show (f_X9_run V).bind _ = _
    rw [h]
    rfl
  · have h : f_X9_run V = some (.error n, V1) := h
    show (f_X9_run V).bind _ = _
    rw [h]
    simp only [List.mem_cons, List.not_mem_nil, or_false, Prod.mk.injEq] at hm
    rcases hm with ⟨rfl, rfl⟩ | ⟨rfl, rfl⟩ <;> rfl
theorem t_22 {V : St} (hR : RR V V) : ∃ V1, k_22 V = some V1 ∧ RR V1 V1 := by
  refine sim_ro (fL := fun V => f_L_faultPosition V) (s_faultPosition) (fun V r h => ?_) (fun V n c h hm => ?_) hR
  · have h : f_X9_faultPosition V = some (.ok r) := h
    show (f_X9_faultPosition V).bind _ = _
    rw [h]
    rfl
  · have h : f_X9_faultPosition V = some (.error n) := h
    show (f_X9_faultPosition V).bind _ = _
    rw [h]
    simp only [List.mem_cons, List.not_mem_nil, or_false, Prod.mk.injEq] at hm
    rcases hm with ⟨rfl, rfl⟩ <;> rfl
theorem t_23 {V : St} (hR : RR V V) (y1 y2 : Int32) : ∃ V1, k_23 V y1 y2 = some V1 ∧ RR V1 V1 := by
  refine sim_ro (fL := fun V => f_L_reason V (bz y1) (bz y2)) (s_reason (bz y1) (bz y2)) (fun V r h => ?_) (fun V n c h hm => ?_) hR
  · have h : f_X9_reason V (bz y1) (bz y2) = some (.ok r) := h
    show (f_X9_reason V (bz y1) (bz y2)).bind _ = _
    rw [h]
    rfl
  · have h : f_X9_reason V (bz y1) (bz y2) = some (.error n) := h
    show (f_X9_reason V (bz y1) (bz y2)).bind _ = _
    rw [h]
    simp only [List.mem_cons, List.not_mem_nil, or_false, Prod.mk.injEq] at hm
    rcases hm with ⟨rfl, rfl⟩ <;> rfl
theorem t_24 {V : St} (hR : RR V V) (y1 y2 : Int32) : ∃ V1, k_24 V y1 y2 = some V1 ∧ RR V1 V1 := by
  refine sim_k (fL := fun V => f_L_line V y1 y2) (s_line y1 y2) (fun V V1 r h => ?_) (fun V V1 n c h hm => ?_) hR
  · have h : f_X9_line V y1 y2 = some (.ok r, V1) := h
    show (f_X9_line V y1 y2).bind _ = _
    rw [h]
    rfl
  · have h : f_X9_line V y1 y2 = some (.error n, V1) := h
    show (f_X9_line V y1 y2).bind _ = _
    rw [h]
    simp only [List.mem_cons, List.not_mem_nil, or_false, Prod.mk.injEq] at hm
    rcases hm with ⟨rfl, rfl⟩ <;> rfl
theorem t_25 {V : St} (hR : RR V V) (y1 y2 : Int32) : ∃ V1, k_25 V y1 y2 = some V1 ∧ RR V1 V1 := by
  refine sim_k (fL := fun V => f_L_chapterLine V y1 y2) (s_chapterLine y1 y2) (fun V V1 r h => ?_) (fun V V1 n c h hm => ?_) hR
  · have h : f_X9_chapterLine V y1 y2 = some (.ok r, V1) := h
    show (f_X9_chapterLine V y1 y2).bind _ = _
    rw [h]
    rfl
  · have h : f_X9_chapterLine V y1 y2 = some (.error n, V1) := h
    show (f_X9_chapterLine V y1 y2).bind _ = _
    rw [h]
    simp only [List.mem_cons, List.not_mem_nil, or_false, Prod.mk.injEq] at hm
    rcases hm with ⟨rfl, rfl⟩ | ⟨rfl, rfl⟩ <;> rfl
theorem t_26 {V : St} (hR : RR V V) (y1 : Int32) : ∃ V1, k_26 V y1 = some V1 ∧ RR V1 V1 := by
  refine sim_k (fL := fun V => f_L_noteLine V y1) (s_noteLine y1) (fun V V1 r h => ?_) (fun V V1 n c h hm => ?_) hR
  · have h : f_X9_noteLine V y1 = some (.ok r, V1) := h
    show (f_X9_noteLine V y1).bind _ = _
    rw [h]
    rfl
  · have h : f_X9_noteLine V y1 = some (.error n, V1) := h
    show (f_X9_noteLine V y1).bind _ = _
    rw [h]
    simp only [List.mem_cons, List.not_mem_nil, or_false, Prod.mk.injEq] at hm
    rcases hm with ⟨rfl, rfl⟩ <;> rfl
theorem t_27 {V : St} (hR : RR V V) (y1 : Int32) : ∃ V1, k_27 V y1 = some V1 ∧ RR V1 V1 := by
  refine sim_ro (fL := fun V => f_L_character V y1) (s_character y1) (fun V r h => ?_) (fun V n c h hm => ?_) hR
  · have h : f_X9_character V y1 = some (.ok r) := h
    show (f_X9_character V y1).bind _ = _
    rw [h]
    rfl
  · have h : f_X9_character V y1 = some (.error n) := h
    show (f_X9_character V y1).bind _ = _
    rw [h]
    simp only [List.mem_cons, List.not_mem_nil, or_false, Prod.mk.injEq] at hm
    rcases hm with ⟨rfl, rfl⟩ <;> rfl
theorem t_30 {V : St} (hR : RR V V) (y1 : Int32) : ∃ V1, k_30 V y1 = some V1 ∧ RR V1 V1 := by
  refine sim_ro (fL := fun V => f_L_account V y1) (s_account y1) (fun V r h => ?_) (fun V n c h hm => ?_) hR
  · have h : f_X9_account V y1 = some (.ok r) := h
    show (f_X9_account V y1).bind _ = _
    rw [h]
    rfl
  · have h : f_X9_account V y1 = some (.error n) := h
    show (f_X9_account V y1).bind _ = _
    rw [h]
    simp only [List.mem_cons, List.not_mem_nil, or_false, Prod.mk.injEq] at hm
    rcases hm with ⟨rfl, rfl⟩ <;> rfl
theorem t_32 {V : St} (hR : RR V V) : ∃ V1, k_32 V = some V1 ∧ RR V1 V1 := by
  refine sim_k (fL := fun V => f_L_undo V) (s_undo) (fun V V1 r h => ?_) (fun V V1 n c h hm => ?_) hR
  · have h : f_X9_undo V = some (.ok r, V1) := h
    show (f_X9_undo V).bind _ = _
    rw [h]
    rfl
  · have h : f_X9_undo V = some (.error n, V1) := h
    show (f_X9_undo V).bind _ = _
    rw [h]
    simp only [List.mem_cons, List.not_mem_nil, or_false, Prod.mk.injEq] at hm
    rcases hm with ⟨rfl, rfl⟩ <;> rfl
theorem t_34 {V : St} (hR : RR V V) : ∃ V1, k_34 V = some V1 ∧ RR V1 V1 := by
  refine sim_k (fL := fun V => f_L_restore V) (s_restore) (fun V V1 r h => ?_) (fun V V1 n c h hm => ?_) hR
  · have h : f_X9_restore V = some (.ok r, V1) := h
    show (f_X9_restore V).bind _ = _
    rw [h]
    rfl
  · have h : f_X9_restore V = some (.error n, V1) := h
    show (f_X9_restore V).bind _ = _
    rw [h]
    simp only [List.mem_cons, List.not_mem_nil, or_false, Prod.mk.injEq] at hm
    rcases hm with ⟨rfl, rfl⟩ <;> rfl
def OKV (o : Option St) : Prop := ∃ V1, o = some V1 ∧ RR V1 V1
theorem okif {c : Prop} [Decidable c] {a b : Option St} (h1 : OKV a) (h2 : OKV b) : OKV (if c then a else b) := by
  split
  · exact h1
  · exact h2
theorem step_ok {V : St} (hR : RR V V) (y0 y1 y2 y3 y4 : Int32) : OKV (f_step V y0 y1 y2 y3 y4) := by
  unfold f_step
  refine okif (t_0 hR y1 y2 y3) ?_
  refine okif (t_1 hR y1 y2 y3) ?_
  refine okif (t_2 hR y1 y2 y3 y4) ?_
  refine okif (t_3 hR y1) ?_
  refine okif (t_4 hR y1) ?_
  refine okif (t_5 hR y1 y2) ?_
  refine okif (t_6 hR y1 y2) ?_
  refine okif (t_7 hR y1) ?_
  refine okif (t_8 hR y1 y2) ?_
  refine okif (t_9 hR y1 y2 y3) ?_
  refine okif (t_10 hR y1 y2) ?_
  refine okif (t_11 hR y1) ?_
  refine okif (t_12 hR y1) ?_
  refine okif (t_13 hR y1 y2 y3) ?_
  refine okif (t_14 hR y1 y2) ?_
  refine okif (t_15 hR y1) ?_
  refine okif (t_16 hR y1) ?_
  refine okif (t_17 hR y1 y2) ?_
  refine okif (t_18 hR y1 y2) ?_
  refine okif (t_19 hR y1 y2) ?_
  refine okif (t_20 hR y1) ?_
  refine okif (t_21 hR) ?_
  refine okif (t_22 hR) ?_
  refine okif (t_23 hR y1 y2) ?_
  refine okif (t_24 hR y1 y2) ?_
  refine okif (t_25 hR y1 y2) ?_
  refine okif (t_26 hR y1) ?_
  refine okif (t_27 hR y1) ?_
  refine okif (t_mean hR) ?_
  refine okif (t_share hR) ?_
  refine okif (t_30 hR y1) ?_
  refine okif (t_bal hR) ?_
  refine okif (t_32 hR) ?_
  refine okif (t_save hR) ?_
  refine okif (t_34 hR) ?_
  exact ⟨V, rfl, hR⟩
theorem loop_ok (xs : Nat → Int32) (L : Nat) : ∀ (n i : Nat) (V : St), RR V V → i ≤ L → L < 5 * n + i → ∃ V1, f_loop xs L n V i = some V1
  | 0, i, V, hR, hi, h => by
    omega
  | n + 1, i, V, hR, hi, h => by
    unfold f_loop
    by_cases c : i + 5 ≤ L
    · rw [if_pos c]
      obtain ⟨V1, e, hR1⟩ := step_ok hR (xs i) (xs (i + 1)) (xs (i + 2)) (xs (i + 3)) (xs (i + 4))
      rw [e, bs]
      exact loop_ok xs L n (i + 5) V1 hR1 c (by omega)
    · rw [if_neg c]
      exact ⟨V, rfl⟩
