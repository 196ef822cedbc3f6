/-! editors, water -/
theorem not_lt0 {x : Int32} (h : ¬ x < 0) : ¬ x.toInt < 0 := fun q => h (i_lt.mpr (by rw [i_0]; exact q))
/-- not in 0 .. M, as the class asks it -/
theorem out_c {α : Type} {x M : Int32} {n : Nat} (hM : M.toInt = (n : Int)) (h : x.toInt < 0 ∨ ((n + 1 : Nat) : Int) ≤ x.toInt) (a b : α) : (if x < 0 then a else if x ≤ M then b else a) = a := by
  by_cases c : x < 0
  · rw [if_pos c]
  · rw [if_neg c, if_neg]
    intro q
    have q1 := i_le.mp q
    have q2 := not_lt0 c
    omega
theorem op_editor {Vc Vm : St} (hS : SR Vc 1 (Vm 209)) (hG : GG (Vm 209)) (x1 : Int32) : OP Vc Vm (f_X9_reasonAgainstEditor Vc x1) (f_X8_addEditor Vc 1 x1) (f_X10_comes Vm x1) (fun V => some (V 1 3 - 1)) := by
  obtain ⟨g, hg⟩ : ∃ g, g = Vm 209 := ⟨_, rfl⟩
  rw [← hg] at hS hG
  obtain ⟨m, hm4, hm⟩ := hG.2.1
  have hV3 : Vc 1 3 = nI m := by rw [hS.1.2.1, hm]
  have hg1 : Vm 209 1 = nI m := by rw [← hg, hm]
  rcases rng x1 (n := 100) (by decide) with ⟨j, hj, rfl⟩ | h
  · have a2 : f_X10_in (nI j) 0 99 = some 1 := in_yes (show (j : Int) ≤ 99 by omega) (by omega)
    have a1 : nI j ≤ (99 : Int32) := nI_le (b := 99) (by omega) (by decide)
    by_cases e : m = 4
    · subst e
      refine OP.no 1 4 (by decide) (by decide) ?_ ?_
      · rw [f_X9_reasonAgainstEditor, if_neg (nI_pos (by omega)), if_pos a1, hV3, if_neg (by decide)]
        rfl
      · rw [f_X10_comes, a2, bs, if_neg (by decide), hg1, if_pos (by decide)]
        rfl
    · have hm3 : m < 4 := by omega
      have hG1 : GG (upd (upd (upd g (21 + 2 * m + 0) (nI j)) (21 + 2 * m + 1) 0) 1 (nI (m + 1))) := ((hG.oth (by omega) _).oth (by omega) _).eds (by omega)
      have hS1 : SR (up (up (up Vc (1 + 7 + m) 0 (nI j)) (1 + 7 + m) 1 0) 1 3 (nI (m + 1))) 1 (upd (upd (upd g (21 + 2 * m + 0) (nI j)) (21 + 2 * m + 1) 0) 1 (nI (m + 1))) := ((hS.ed hm3 (by decide) _).ed hm3 (by decide) _).fld (by decide) _
      refine Or.inr ⟨up (up (up Vc (1 + 7 + m) 0 (nI j)) (1 + 7 + m) 1 0) 1 3 (nI (m + 1)), up (up (up (up Vm 209 (21 + 2 * m + 0) (nI j)) 209 (21 + 2 * m + 1) 0) 209 1 (nI (m + 1))) 208 18 (nI m), ?_, ?_, ?_, ?_, ?_, ?_, ?_, ?_⟩
      · rw [f_X9_reasonAgainstEditor, if_neg (nI_pos (by omega)), if_pos a1, hV3, if_pos (show nI m < (4 : Int32) from nI_lt (b := 4) hm3 (by decide))]
      · have s1 : ∀ x, (up Vc (1 + 7 + m) 0 x) 1 3 = nI m := fun x => by rw [up_ne _ (fun h => by omega), hV3]
        have s2 : ∀ x y, (up (up Vc (1 + 7 + m) 0 x) (1 + 7 + m) 1 y) 1 3 = nI m := fun x y => by rw [up_ne _ (fun h => by omega), s1]
        rw [f_X8_addEditor, hV3, ed_eq _ _ hm3, bs, s1, ed_eq _ _ hm3, bs, s2, nI_1]
      · have i1 : (21 : Int32) + 2 * nI m = nI (21 + 2 * m) := by rw [show (21 : Int32) = nI 21 from rfl, show (2 : Int32) = nI 2 from rfl, pk_mul, nI_add]
        rw [f_X10_comes, a2, bs, if_neg (by decide), hg1, if_neg (fun q => by have := (nI_eq (a := m) (b := 4) (by omega) (by decide)).mp q; omega), i1, nI_1, ix_nI (by omega) (by decide), bs, ix_nI (by omega) (by decide), bs, nI_1]
        rfl
      · rw [up_at (show 209 ≠ 208 by decide), up_me, up_me, up_me, ← hg]
        exact hS1
      · rw [up_at (show 209 ≠ 208 by decide), up_me, up_me, up_me, ← hg]
        exact hG1
      · exact (((Out.rf 1 Vc).up (by omega)).up (by omega)).up (by omega)
      · exact (((Fm.s Vm _ _).tr (Fm.s _ _ _)).tr (Fm.s _ _ _)).tr (Fm.d _ (by decide) _)
      · show some (_ - 1) = _
        rw [up_self, up_self, nI_pred]
  · refine OP.no 3 x1 (by decide) (by decide) ?_ ?_
    · rw [f_X9_reasonAgainstEditor]
      exact out_c (n := 99) rfl h _ _
    · rw [f_X10_comes, in_no (by rcases h with h | h; exact Or.inl h; exact Or.inr (show (99 : Int) < x1.toInt by omega)), bs, if_pos rfl]
      rfl
theorem op_tide {Vc Vm : St} (hS : SR Vc 1 (Vm 209)) (hG : GG (Vm 209)) (x1 : Int32) : OP Vc Vm (f_X9_reasonAgainstTide Vc x1) (some (up Vc 1 5 x1)) (f_X10_turns Vm x1) (fun V => f_X8_countReadable V 1) := by
  obtain ⟨g, hg⟩ : ∃ g, g = Vm 209 := ⟨_, rfl⟩
  rw [← hg] at hS hG
  have hV5 : Vc 1 5 = g 0 := hS.1.1
  rcases rng x1 (n := 5) (by decide) with ⟨j, hj, rfl⟩ | h
  · have a2 : f_X10_in (nI j) 0 4 = some 1 := in_yes (show (j : Int) ≤ 4 by omega) (by omega)
    have a1 : nI j ≤ (4 : Int32) := nI_le (b := 4) (by omega) (by decide)
    by_cases e : g 0 = nI j
    · refine OP.no 4 (nI j) (by decide) (by decide) ?_ ?_
      · rw [f_X9_reasonAgainstTide, if_neg (nI_pos (by omega)), if_pos a1, hV5, if_pos e]
        rfl
      · rw [f_X10_turns, a2, bs, if_neg (by decide), ← hg, if_pos e]
        rfl
    · have hG1 : GG (upd g 0 (nI j)) := hG.tid (by omega)
      have hS1 : SR (up Vc 1 5 (nI j)) 1 (upd g 0 (nI j)) := hS.fld (by decide) _
      have g1 : (up Vm 209 0 (nI j)) 209 = upd g 0 (nI j) := by rw [up_me, hg]
      have r := fun n (hn : n < 3) => rd_m (V := up Vm 209 0 (nI j)) (n := n) (by rw [g1]; exact hG1) hn
      rw [g1] at r
      refine Or.inr ⟨up Vc 1 5 (nI j), up (up Vm 209 0 (nI j)) 208 18 (nI (nrd (upd g 0 (nI j)) 0 + nrd (upd g 0 (nI j)) 1 + nrd (upd g 0 (nI j)) 2)), ?_, rfl, ?_, ?_, ?_, ?_, ?_, ?_⟩
      · rw [f_X9_reasonAgainstTide, if_neg (nI_pos (by omega)), if_pos a1, hV5, if_neg e]
      · have r0 : f_X10_readable (up Vm 209 0 (nI j)) 0 = _ := r 0 (by decide)
        have r1 : f_X10_readable (up Vm 209 0 (nI j)) 1 = _ := r 1 (by decide)
        have r2 : f_X10_readable (up Vm 209 0 (nI j)) 2 = _ := r 2 (by decide)
        rw [f_X10_turns, a2, bs, if_neg (by decide), ← hg, if_neg e, r0, bs, r1, bs, r2, bs, nI_add, nI_add]
        rfl
      · rw [up_at (show 209 ≠ 208 by decide), g1]
        exact hS1
      · rw [up_at (show 209 ≠ 208 by decide), g1]
        exact hG1
      · exact (Out.rf 1 Vc).up (by omega)
      · exact (Fm.s Vm _ _).tr (Fm.d _ (by decide) _)
      · rw [up_self]
        exact cr_c hS1 hG1
  · refine OP.no 3 x1 (by decide) (by decide) ?_ ?_
    · rw [f_X9_reasonAgainstTide]
      exact out_c (n := 4) rfl h _ _
    · rw [f_X10_turns, in_no (by rcases h with h | h; exact Or.inl h; exact Or.inr (show (4 : Int) < x1.toInt by omega)), bs, if_pos rfl]
      rfl
theorem op_sink {Vc Vm : St} (hS : SR Vc 1 (Vm 209)) (hG : GG (Vm 209)) (x1 x2 : Int32) : OP Vc Vm (f_X9_reasonAgainstSink Vc x1 x2) ((f_X8_netNumbered Vc 1 x1).bind fun q => some (up Vc q 4 x2)) (f_X10_sinks Vm x1 x2) (fun V => f_X8_linesUnderWater V 1 x1) := by
  obtain ⟨g, hg⟩ : ∃ g, g = Vm 209 := ⟨_, rfl⟩
  rw [← hg] at hS hG
  rcases net_cs x1 with ⟨n, hn, rfl, b1, b2⟩ | ⟨b1, b2⟩
  · rcases rng x2 (n := 5) (by decide) with ⟨j, hj, rfl⟩ | h
    · have a2 : f_X10_in (nI j) 0 4 = some 1 := in_yes (show (j : Int) ≤ 4 by omega) (by omega)
      have a1 : nI j ≤ (4 : Int32) := nI_le (b := 4) (by omega) (by decide)
      have hV4 : Vc (1 + 4 + n) 4 = g (6 + 5 * n + 4) := hS.2.1 n 4 hn (by decide)
      have o4 : f_X10_of Vm (nI n) 4 = some (g (6 + 5 * n + 4)) := by rw [hg]; exact of_eq Vm hn (show 4 < 5 by decide)
      by_cases e : g (6 + 5 * n + 4) = nI j
      · refine OP.no 4 (nI j) (by decide) (by decide) ?_ ?_
        · rw [f_X9_reasonAgainstSink, b1, bs, if_neg (by decide), if_neg (nI_pos (by omega)), if_pos a1, net_eq _ _ hn, bs, hV4, if_pos e]
          rfl
        · rw [f_X10_sinks, b2, bs, if_neg (by decide), a2, bs, if_neg (by decide), o4, bs, if_pos e]
          rfl
      · have hG1 : GG (upd g (6 + 5 * n + 4) (nI j)) := hG.net hn (by decide) (fun h => by omega) (fun h => by cases h) (fun h => by cases h) (fun _ => ⟨j, by omega, rfl⟩)
        have hS1 : SR (up Vc (1 + 4 + n) 4 (nI j)) 1 (upd g (6 + 5 * n + 4) (nI j)) := hS.net hn (by decide) _
        have g1 : (up Vm 209 (6 + 5 * n + 4) (nI j)) 209 = upd g (6 + 5 * n + 4) (nI j) := by rw [up_me, hg]
        have u := uw_m (V := up Vm 209 (6 + 5 * n + 4) (nI j)) (n := n) (by rw [g1]; exact hG1) hn
        rw [g1] at u
        refine Or.inr ⟨up Vc (1 + 4 + n) 4 (nI j), up (up Vm 209 (6 + 5 * n + 4) (nI j)) 208 18 (nI (uwg (upd g (6 + 5 * n + 4) (nI j)) n)), ?_, ?_, ?_, ?_, ?_, ?_, ?_, ?_⟩
        · rw [f_X9_reasonAgainstSink, b1, bs, if_neg (by decide), if_neg (nI_pos (by omega)), if_pos a1, net_eq _ _ hn, bs, hV4, if_neg e]
          rfl
        · rw [net_eq _ _ hn, bs]
        · have i1 : ((6 : Int32) + 5 * nI n) + 4 = nI (6 + 5 * n + 4) := by rw [show (6 : Int32) = nI 6 from rfl, show (5 : Int32) = nI 5 from rfl, show (4 : Int32) = nI 4 from rfl, pk_mul, nI_add, nI_add]
          rw [f_X10_sinks, b2, bs, if_neg (by decide), a2, bs, if_neg (by decide), o4, bs, if_neg e, i1, ix_nI (by omega) (by decide), bs, u, bs]
          rfl
        · rw [up_at (show 209 ≠ 208 by decide), g1]
          exact hS1
        · rw [up_at (show 209 ≠ 208 by decide), g1]
          exact hG1
        · exact (Out.rf 1 Vc).up (by omega)
        · exact (Fm.s Vm _ _).tr (Fm.d _ (by decide) _)
        · rw [up_self]
          exact uw_c hS1 hG1 hn
    · refine OP.no 3 x2 (by decide) (by decide) ?_ ?_
      · rw [f_X9_reasonAgainstSink, b1, bs, if_neg (by decide)]
        exact out_c (n := 4) rfl h _ _
      · rw [f_X10_sinks, b2, bs, if_neg (by decide), in_no (by rcases h with h | h; exact Or.inl h; exact Or.inr (show (4 : Int) < x2.toInt by omega)), bs, if_pos rfl]
        rfl
  · refine OP.no 2 x1 (by decide) (by decide) ?_ ?_
    · rw [f_X9_reasonAgainstSink, b1, bs, if_pos rfl]
      rfl
    · rw [f_X10_sinks, b2, bs, if_pos rfl]
      rfl
/-! notes -/
/-- whether the note k is of the net n with the chapter C, by the model's numbers -/
def isNt (g : Nat → Int32) (n : Nat) (C : Int32) (k : Nat) : Prop := g (29 + 4 * k) = nI n ∧ g (29 + 4 * k + 2) = g (6 + 5 * n) &&& C ∧ g (29 + 4 * k + 3) = g (6 + 5 * n + 1) &&& C
theorem lw_loop {V : St} {B : Nat} {g : Nat → Int32} (hS : SR V B g) {m n : Nat} (hm : m ≤ 6) (hg2 : g 2 = nI m) (hn : n < 3) (C : Int32) : ∀ (f i : Nat), i ≤ m → m < f + i → (∃ k, i ≤ k ∧ k < m ∧ isNt g n C k ∧ (∀ j, i ≤ j → j < k → ¬ isNt g n C j) ∧ f_X8_lowestNoteOf_b2 f V B (nI n) C (nI i) = some (nI k)) ∨ ((∀ j, i ≤ j → j < m → ¬ isNt g n C j) ∧ f_X8_lowestNoteOf_b2 f V B (nI n) C (nI i) = some (-1))
  | 0, i, h1, h2 => by omega
  | f + 1, i, h1, h2 => by
    have hV4 : V B 4 = nI m := by rw [hS.1.2.2.1, hg2]
    rw [f_X8_lowestNoteOf_b2, hV4]
    by_cases e : i = m
    · rw [if_pos (by rw [e]; exact nI_le (Nat.le_refl _) (by omega))]
      exact Or.inr ⟨fun j a b => by omega, rfl⟩
    · have hi : i < m := by omega
      obtain ⟨o1, o2, o3⟩ := hS.2.2.2 i (by omega) (by rw [hg2, nI_clamp (by omega)]; exact hi)
      rw [if_neg (nI_ge hi (by omega)), no_eq _ _ (by omega), bs, o1]
      have cont : ¬ isNt g n C i → ((∃ k, i ≤ k ∧ k < m ∧ isNt g n C k ∧ (∀ j, i ≤ j → j < k → ¬ isNt g n C j) ∧ f_X8_lowestNoteOf_b2 f V B (nI n) C (nI (i + 1)) = some (nI k)) ∨ ((∀ j, i ≤ j → j < m → ¬ isNt g n C j) ∧ f_X8_lowestNoteOf_b2 f V B (nI n) C (nI (i + 1)) = some (-1))) := by
        intro hno
        rcases lw_loop hS hm hg2 hn C f (i + 1) (by omega) (by omega) with ⟨k, k1, k2, k3, k4, k5⟩ | ⟨k1, k2⟩
        · refine Or.inl ⟨k, by omega, k2, k3, fun j a b => ?_, k5⟩
          by_cases c : j = i
          · rw [c]
            exact hno
          · exact k4 j (by omega) b
        · refine Or.inr ⟨fun j a b => ?_, k2⟩
          by_cases c : j = i
          · rw [c]
            exact hno
          · exact k1 j (by omega) b
      by_cases c1 : g (29 + 4 * i) = nI n
      · rw [if_pos c1, net_eq _ _ hn, bs, f_X4_isOf, o2, o3, hS.2.1 n 0 hn (by decide), hS.2.1 n 1 hn (by decide)]
        by_cases c2 : g (6 + 5 * n + 0) &&& C = g (29 + 4 * i + 2)
        · rw [if_pos c2]
          by_cases c3 : g (6 + 5 * n + 1) &&& C = g (29 + 4 * i + 3)
          · rw [if_pos c3, bs, if_neg (by decide)]
            exact Or.inl ⟨i, Nat.le_refl _, hi, ⟨c1, c2.symm, c3.symm⟩, fun j a b => by omega, rfl⟩
          · rw [if_neg c3, bs, if_pos rfl, f_X8_lowestNoteOf_b42, nI_1]
            exact cont (fun h => c3 h.2.2.symm)
        · rw [if_neg c2, bs, if_pos rfl, f_X8_lowestNoteOf_b42, nI_1]
          exact cont (fun h => c2 h.2.1.symm)
      · rw [if_neg c1, f_X8_lowestNoteOf_b42, nI_1]
        exact cont (fun h => c1 h.1)
theorem nt_loop {V : St} (hG : GG (V 209)) {m n : Nat} (hm : m ≤ 6) (hg2 : V 209 2 = nI m) (hn : n < 3) {C : Int32} (hC : Sub C (kA (V 209) n)) : ∀ (f i : Nat), i ≤ m → m < f + i →
    (∀ k, i ≤ k → k < m → isNt (V 209) n C k → (∀ j, i ≤ j → j < k → ¬ isNt (V 209) n C j) → f_X10_notes_b91 f V (nI n) C (V 209 (6 + 5 * n) &&& C) (V 209 (6 + 5 * n + 1) &&& C) (nI m) (nI i) = some (8, up V 208 17 (nI k))) ∧
    ((∀ j, i ≤ j → j < m → ¬ isNt (V 209) n C j) → f_X10_notes_b91 f V (nI n) C (V 209 (6 + 5 * n) &&& C) (V 209 (6 + 5 * n + 1) &&& C) (nI m) (nI i) = f_X10_notes_b91 1 V (nI n) C (V 209 (6 + 5 * n) &&& C) (V 209 (6 + 5 * n + 1) &&& C) (nI m) (nI m))
  | 0, i, h1, h2 => by omega
  | f + 1, i, h1, h2 => by
    obtain ⟨g, hg⟩ : ∃ g, g = V 209 := ⟨_, rfl⟩
    by_cases e : i = m
    · subst e
      refine ⟨fun k a b => by omega, fun _ => ?_⟩
      rw [f_X10_notes_b91, if_pos (nI_le (Nat.le_refl _) (by omega)), f_X10_notes_b91, if_pos (nI_le (Nat.le_refl _) (by omega))]
    · have hi : i < m := by omega
      obtain ⟨ih1, ih2⟩ := nt_loop hG hm hg2 hn hC f (i + 1) (by omega) (by omega)
      have o0 : f_X10_ofNote V (nI i) 0 = some (V 209 (29 + 4 * i)) := on_eq V (by omega) (show 0 < 4 by decide)
      have o1 : f_X10_ofNote V (nI i) 1 = some (V 209 (29 + 4 * i + 1)) := on_eq V (by omega) (show 1 < 4 by decide)
      have o2 : f_X10_ofNote V (nI i) 2 = some (V 209 (29 + 4 * i + 2)) := on_eq V (by omega) (show 2 < 4 by decide)
      have o3 : f_X10_ofNote V (nI i) 3 = some (V 209 (29 + 4 * i + 3)) := on_eq V (by omega) (show 3 < 4 by decide)
      obtain ⟨m9, m1, m2, m3⟩ := hG.2.2.1
      have : m9 = m := (nI_eq (by omega) (by omega)).mp (m2.symm.trans hg2)
      subst this
      obtain ⟨-, -, -, gt, -⟩ := m3 i hi
      rw [f_X10_notes_b91, if_neg (nI_ge hi (by omega)), o0, bs]
      have cont : ∀ X, X = f_X10_notes_b91 f V (nI n) C (V 209 (6 + 5 * n) &&& C) (V 209 (6 + 5 * n + 1) &&& C) (nI m9) (nI i + 1) → ¬ isNt (V 209) n C i → (∀ k, i ≤ k → k < m9 → isNt (V 209) n C k → (∀ j, i ≤ j → j < k → ¬ isNt (V 209) n C j) → X = some (8, up V 208 17 (nI k))) ∧ ((∀ j, i ≤ j → j < m9 → ¬ isNt (V 209) n C j) → X = f_X10_notes_b91 1 V (nI n) C (V 209 (6 + 5 * n) &&& C) (V 209 (6 + 5 * n + 1) &&& C) (nI m9) (nI m9)) := by
        intro X hX hno
        rw [hX, nI_1]
        refine ⟨fun k a b c d => ?_, fun d => ih2 fun j a b => d j (by omega) b⟩
        have : k ≠ i := fun q => by rw [q] at c; exact hno c
        exact ih1 k (by omega) b c (fun j a b => d j (by omega) b)
      have hit : ∀ X : Option (Int32 × St), X = some (8, up V 208 17 (nI i)) → isNt (V 209) n C i → (∀ k, i ≤ k → k < m9 → isNt (V 209) n C k → (∀ j, i ≤ j → j < k → ¬ isNt (V 209) n C j) → X = some (8, up V 208 17 (nI k))) ∧ ((∀ j, i ≤ j → j < m9 → ¬ isNt (V 209) n C j) → X = f_X10_notes_b91 1 V (nI n) C (V 209 (6 + 5 * n) &&& C) (V 209 (6 + 5 * n + 1) &&& C) (nI m9) (nI m9)) := by
        intro X hX hyes
        refine ⟨fun k a b c d => ?_, fun d => absurd hyes (d i (Nat.le_refl _) hi)⟩
        by_cases q : k = i
        · rw [q]
          exact hX
        · exact absurd hyes (d i (Nat.le_refl _) (by omega))
      by_cases c1 : V 209 (29 + 4 * i) = nI n
      · rw [if_pos c1, o1, bs]
        by_cases c2 : V 209 (29 + 4 * i + 1) = C
        · rw [if_pos c2, o2, bs]
          by_cases c3 : V 209 (29 + 4 * i + 2) = V 209 (6 + 5 * n) &&& C
          · rw [if_pos c3, o3, bs]
            by_cases c4 : V 209 (29 + 4 * i + 3) = V 209 (6 + 5 * n + 1) &&& C
            · rw [if_pos c4]
              exact hit _ rfl ⟨c1, c3, c4⟩
            · rw [if_neg c4]
              exact cont _ rfl (fun h => c4 h.2.2)
          · rw [if_neg c3]
            exact cont _ rfl (fun h => c3 h.2.1)
        · rw [if_neg c2]
          refine cont _ rfl (fun h => c2 ?_)
          rw [gt, h.2.1, h.2.2]
          refine b_iff fun z _ => ?_
          rw [b_or, b_and, b_and]
          constructor
          · intro h
            cases q : bt C z
            · rw [q] at h
              simp at h
            · rfl
          · intro h
            have := hC z h
            unfold kA at this
            rw [b_or] at this
            rw [h, Bool.and_true, Bool.and_true]
            exact this
      · rw [if_neg c1]
        exact cont _ rfl (fun h => c1 h.1)
