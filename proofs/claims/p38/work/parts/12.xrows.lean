/-! the law's own methods: the last rows -/
theorem Cx.y {p : Program} {l : Launch} {s : State} {m : MethodId} {args : Array Value} {meth : Method} {c : Code} {G : LG} {b0 : Nat} {own : String} {cc : ByteArray} {nL : Nat} {ret : Option FieldType} {a : Nat} {x : va_E} (h : Cx p l s m args meth c (xg G a x) b0 own cc nL ret) : Cx p l s m args meth c G b0 own cc nL ret := h
theorem room_ok {R : Room} {d n N maxL : Nat} (h : 60 ≤ R.frames ∧ 3600 ≤ R.locals ∧ N ≤ R.cells ∧ 6 * N ≤ R.slots) (h1 : d + 1 ≤ 60) (h2 : maxL ≤ 40) : (rmc d n).frames + 1 ≤ R.frames ∧ 8 + (maxL + 11) + (rmc d n).locals ≤ R.locals := by
  unfold rmc
  refine ⟨Nat.le_trans h1 h.1, ?_⟩
  show 8 + (maxL + 11) + 60 * d ≤ R.locals
  have := h.2.1
  omega
theorem room_cs {R : Room} {N w k : Nat} (h : 60 ≤ R.frames ∧ 3600 ≤ R.locals ∧ N ≤ R.cells ∧ 6 * N ≤ R.slots) (h1 : w + k ≤ N) : w + k ≤ R.cells ∧ 6 * w + 6 * k ≤ R.slots := by
  have := h.2.2.1
  have := h.2.2.2
  omega
theorem dk_L_cell : dOk yL_cell 2 := ⟨by decide +kernel, by decide +kernel, by decide +kernel⟩
theorem dk_L_pick : dOk yL_pick 3 := ⟨by decide +kernel, by decide +kernel, by decide +kernel⟩
theorem dk_L_knot : dOk yL_knot 4 := ⟨by decide +kernel, by decide +kernel, by decide +kernel⟩
theorem dk_L_tear : dOk yL_tear 4 := ⟨by decide +kernel, by decide +kernel, by decide +kernel⟩
theorem dk_L_mend : dOk yL_mend 5 := ⟨by decide +kernel, by decide +kernel, by decide +kernel⟩
theorem dk_L_editor : dOk yL_editor 2 := ⟨by decide +kernel, by decide +kernel, by decide +kernel⟩
theorem dk_L_tide : dOk yL_tide 2 := ⟨by decide +kernel, by decide +kernel, by decide +kernel⟩
theorem dk_L_sink : dOk yL_sink 3 := ⟨by decide +kernel, by decide +kernel, by decide +kernel⟩
theorem dk_L_note : dOk yL_note 3 := ⟨by decide +kernel, by decide +kernel, by decide +kernel⟩
theorem dk_L_drop : dOk yL_drop 2 := ⟨by decide +kernel, by decide +kernel, by decide +kernel⟩
theorem dk_L_kindOf : dOk yL_kindOf 3 := ⟨by decide +kernel, by decide +kernel, by decide +kernel⟩
theorem dk_L_torn : dOk yL_torn 4 := ⟨by decide +kernel, by decide +kernel, by decide +kernel⟩
theorem dk_L_netOf : dOk yL_netOf 3 := ⟨by decide +kernel, by decide +kernel, by decide +kernel⟩
theorem dk_L_chapters : dOk yL_chapters 2 := ⟨by decide +kernel, by decide +kernel, by decide +kernel⟩
theorem dk_L_chaptersAgain : dOk yL_chaptersAgain 2 := ⟨by decide +kernel, by decide +kernel, by decide +kernel⟩
theorem dk_L_chapterOf : dOk yL_chapterOf 4 := ⟨by decide +kernel, by decide +kernel, by decide +kernel⟩
theorem dk_L_noteOf : dOk yL_noteOf 3 := ⟨by decide +kernel, by decide +kernel, by decide +kernel⟩
theorem dk_L_least : dOk yL_least 2 := ⟨by decide +kernel, by decide +kernel, by decide +kernel⟩
theorem dk_L_leastAgain : dOk yL_leastAgain 2 := ⟨by decide +kernel, by decide +kernel, by decide +kernel⟩
theorem dk_L_bestMend : dOk yL_bestMend 3 := ⟨by decide +kernel, by decide +kernel, by decide +kernel⟩
theorem dk_L_ranked : dOk yL_ranked 3 := ⟨by decide +kernel, by decide +kernel, by decide +kernel⟩
theorem dk_L_editorOf : dOk yL_editorOf 3 := ⟨by decide +kernel, by decide +kernel, by decide +kernel⟩
theorem dk_L_feed : dOk yL_feed 2 := ⟨by decide +kernel, by decide +kernel, by decide +kernel⟩
theorem dk_L_run : dOk yL_run 1 := ⟨by decide +kernel, by decide +kernel, by decide +kernel⟩
theorem dk_L_line : dOk yL_line 3 := ⟨by decide +kernel, by decide +kernel, by decide +kernel⟩
theorem dk_L_chapterLine : dOk yL_chapterLine 3 := ⟨by decide +kernel, by decide +kernel, by decide +kernel⟩
theorem dk_L_noteLine : dOk yL_noteLine 2 := ⟨by decide +kernel, by decide +kernel, by decide +kernel⟩
theorem dk_L_meanKnots : dOk yL_meanKnots 1 := ⟨by decide +kernel, by decide +kernel, by decide +kernel⟩
theorem dk_L_readShare : dOk yL_readShare 1 := ⟨by decide +kernel, by decide +kernel, by decide +kernel⟩
theorem dk_L_account : dOk yL_account 2 := ⟨by decide +kernel, by decide +kernel, by decide +kernel⟩
theorem dk_L_undo : dOk yL_undo 1 := ⟨by decide +kernel, by decide +kernel, by decide +kernel⟩
theorem dk_L_restore : dOk yL_restore 1 := ⟨by decide +kernel, by decide +kernel, by decide +kernel⟩
theorem dk_L_reads : dOk yL_reads 2 := ⟨by decide +kernel, by decide +kernel, by decide +kernel⟩
theorem dk_L_does : dOk yL_does 6 := ⟨by decide +kernel, by decide +kernel, by decide +kernel⟩
theorem dk_L_sum : dOk yL_sum 1 := ⟨by decide +kernel, by decide +kernel, by decide +kernel⟩
theorem dk_L_isNet : dOk yL_isNet 3 := ⟨by decide +kernel, by decide +kernel, by decide +kernel⟩
theorem dk_L_isWhole : dOk yL_isWhole 3 := ⟨by decide +kernel, by decide +kernel, by decide +kernel⟩
theorem dk_L_isKept : dOk yL_isKept 3 := ⟨by decide +kernel, by decide +kernel, by decide +kernel⟩
