theorem stx_in {i : Nat} {t : List Int32} (h : stx i = some t) : ∃ q, SL[i]? = some q ∧ t = byS q.2.2 := by
  unfold stx at h
  cases hq : SL[i]? with
  | none => rw [hq] at h; cases h
  | some q => rw [hq] at h; cases h; exact ⟨q, rfl, rfl⟩
theorem rcs_J0_length_8abf5 {G : LG} {b0 : Nat} {s : State} {H : Heap} {locs : List Loc} (hSv : Sv G b0 s s.heap) (hS : va_S (Ab b0) s.heap H locs) {i : Nat} {r : Int32} (h : f_J0_length_8abf5 i = some r) : ∃ cellB : Cell, H[G.2.2 i]? = some cellB ∧ cellB.vm.isStatics = false ∧ s.vm.findClass "java/lang/String" = some cellB.cls := by
  obtain ⟨t, h1, -⟩ := ob h
  obtain ⟨q, h2, -⟩ := stx_in h1
  exact rcs0 hSv hS h2
theorem rcs_J0_charAt_5068e {G : LG} {b0 : Nat} {s : State} {H : Heap} {locs : List Loc} (hSv : Sv G b0 s s.heap) (hS : va_S (Ab b0) s.heap H locs) {i : Nat} {x r : Int32} (h : f_J0_charAt_5068e i x = some r) : ∃ cellB : Cell, H[G.2.2 i]? = some cellB ∧ cellB.vm.isStatics = false ∧ s.vm.findClass "java/lang/String" = some cellB.cls := by
  obtain ⟨t, h1, -⟩ := ob h
  obtain ⟨q, h2, -⟩ := stx_in h1
  exact rcs0 hSv hS h2
theorem c_J0_length_8abf5 (l : Launch) (G : LG) (b0 : Nat) (V : St) (t0 : Nat) (res : Int32) (hr : f_J0_length_8abf5 t0 = some res) : Met l yJ0_length_8abf5 (wy yJ0_length_8abf5 cJ0_length_8abf5 1 (some .int)) (rm 2) (va_Pc [.ref (G.2.2 t0)] (Iv G b0 V)) (QI G b0 res V) 0 0 (Ab b0) := sorry
theorem c_J0_charAt_5068e (l : Launch) (G : LG) (b0 : Nat) (V : St) (t0 : Nat) (x1 : Int32) (res : Int32) (hr : f_J0_charAt_5068e t0 x1 = some res) : Met l yJ0_charAt_5068e (wy yJ0_charAt_5068e cJ0_charAt_5068e 2 (some .char)) (rm 4) (va_Pc [.ref (G.2.2 t0), .int x1] (Iv G b0 V)) (QI G b0 res V) 0 0 (Ab b0) := sorry
/-! the references that are answered -/
theorem kr_X8_netNumbered {V : St} {k0 : Nat} (hk0 : kd k0 = 1) {x1 : Int32} {r : Nat} (h : f_X8_netNumbered V k0 x1 = some r) : kd r = 5 := by
  unfold f_X8_netNumbered at h
  obtain ⟨q, -, h⟩ := ob h
  by_cases c : q = 0
  · have h := it c h
    cases h
    exact kd_n (kd_s1 hk0) (j := 0) (by decide)
  · have h := ie c h
    obtain ⟨j, hj, h⟩ := ob h
    cases h
    exact kd_n (kd_s1 hk0) (ix_in hj).2.2
theorem kr_X8_editorNumbered {V : St} {k0 : Nat} (hk0 : kd k0 = 1) {x1 : Int32} {r : Nat} (h : f_X8_editorNumbered V k0 x1 = some r) : kd r = 6 := by
  unfold f_X8_editorNumbered at h
  by_cases c : x1 < 0
  · have h := it c h
    cases h
    exact kd_e (kd_s2 hk0) (j := 0) (by decide)
  · have h := ie c h
    by_cases c2 : 4 ≤ x1
    · have h := it c2 h
      cases h
      exact kd_e (kd_s2 hk0) (j := 0) (by decide)
    · have h := ie c2 h
      obtain ⟨j, hj, h⟩ := ob h
      cases h
      exact kd_e (kd_s2 hk0) (ix_in hj).2.2
theorem kr_X8_noteNumbered {V : St} {k0 : Nat} (hk0 : kd k0 = 1) {x1 : Int32} {r : Nat} (h : f_X8_noteNumbered V k0 x1 = some r) : kd r = 7 := by
  unfold f_X8_noteNumbered at h
  by_cases c : x1 < 0
  · have h := it c h
    cases h
    exact kd_o (kd_s3 hk0) (j := 0) (by decide)
  · have h := ie c h
    by_cases c2 : 6 ≤ x1
    · have h := it c2 h
      cases h
      exact kd_o (kd_s3 hk0) (j := 0) (by decide)
    · have h := ie c2 h
      obtain ⟨j, hj, h⟩ := ob h
      cases h
      exact kd_o (kd_s3 hk0) (ix_in hj).2.2
