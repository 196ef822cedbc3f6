/-! a text is fed and run -/
def FPd (V V1 : St) : Prop := ∀ k, k ≠ 192 → ¬ (194 ≤ k ∧ k < 205) → V1 k = V k
theorem FPd.tr {V V1 V2 : St} (h : FPd V V1) (h2 : FPd V1 V2) : FPd V V2 := fun k a b => (h2 k a b).trans (h k a b)
theorem F4.fd {o : Nat} (ho : o < 9) {V V1 : St} (h : F4 o V V1) : FPd V V1 := fun k a b => h.1 k a (by omega) (by omega)
theorem ffl {T : Nat → Int32} {n : Nat} (hn : n ≤ 60) : ∀ (f o p : Nat) (V : St), PZ T n p V → V 192 5 = nI o → p ≤ n → 7 * o ≤ p → (∀ j, j < o → ∃ s, s < 8 ∧ V 194 j = nI s) → 9 < f + o →
    (∃ q V1, f_X7_findFault_b12 f V (nI o) = some (nI q, V1) ∧ q ≤ 60 ∧ FPd V V1) ∨
    (∃ O V1, f_X7_findFault_b12 f V (nI o) = some (-1, V1) ∧ O ≤ 9 ∧ V1 192 5 = nI O ∧ (∀ j, j < O → ∃ s, s < 8 ∧ V1 194 j = nI s) ∧ FPd V V1)
  | 0, o, p, V, _, _, _, _, _, h => by omega
  | f + 1, o, p, V, hP, h5, hp, h7, hO, hf => by
    have ho : o < 9 := by omega
    obtain ⟨V1, a1, a2, a3, a4⟩ := ro_eq hn ho hp hP
    obtain ⟨r1, r2, r3⟩ := rsl_le (T := T) hp
    have F := a3.fd ho
    rw [f_X7_findFault_b12, if_neg (show ¬ (9 : Int32) ≤ nI o from nI_ge (b := 9) ho (by decide)), a1, bs]
    cases ok : (rsl T n p).1
    · refine Or.inl ⟨(rsl T n p).2.1, V1, ?_, by omega, F⟩
      rw [if_pos (show (bI false, V1).1 = 0 from (by decide : bI false = 0))]
      show some (V1 192 2, V1) = _
      rw [a2.1]
    · obtain ⟨r, hr⟩ : ∃ r, r = (rsl T n p).2.1 := ⟨_, rfl⟩
      have r3 := r3 ok
      obtain ⟨c1, c2⟩ := a4 ok
      rw [← hr] at a2 r1 r2 r3
      have v5 : V1 192 5 = nI o := (a3.2.1 5 (by decide)).trans h5
      obtain ⟨V2, hV2⟩ : ∃ z, z = up V1 192 5 (nI (o + 1)) := ⟨_, rfl⟩
      have p2 : PZ T n r V2 := by
        rw [hV2]
        exact ⟨by rw [up_ne _ (fun _ => by decide), a2.1], by rw [up_ne _ (fun _ => by decide), a2.2.1], fun j hj => by rw [up_at (by decide), a2.2.2 j hj]⟩
      have v2k : ∀ k, k ≠ 192 → V2 k = V1 k := fun k hk => by rw [hV2, up_at hk]
      have v25 : V2 192 5 = nI (o + 1) := by rw [hV2, up_self]
      have d1 : sel T n p < 8 := by
        rcases Nat.lt_or_ge (sel T n p) 8 with h | h
        · exact h
        · unfold rsl at ok
          rw [if_neg (by omega)] at ok
          cases ok
      have hO2 : ∀ j, j < o + 1 → ∃ s, s < 8 ∧ V2 194 j = nI s := by
        intro j hj
        by_cases e : j = o
        · subst e
          exact ⟨_, d1, by rw [v2k 194 (by decide), c1]⟩
        · obtain ⟨s, s1, s2⟩ := hO j (by omega)
          exact ⟨s, s1, by rw [v2k 194 (by decide), a3.2.2 j e, s2]⟩
      have F2' : FPd V V2 := fun k a b => (v2k k a).trans (F k a b)
      have e1 : (if (bI true, V1).1 = 0 then some ((bI true, V1).2 192 2, (bI true, V1).2) else if ((up (bI true, V1).2 192 5 (((bI true, V1).2 192 5) + 1)) 192 2) < ((up (bI true, V1).2 192 5 (((bI true, V1).2 192 5) + 1)) 192 1) then (f_X7_isNext (up (bI true, V1).2 192 5 (((bI true, V1).2 192 5) + 1)) 59).bind fun q5 => if q5 = 0 then some ((up (bI true, V1).2 192 5 (((bI true, V1).2 192 5) + 1)) 192 2, up (bI true, V1).2 192 5 (((bI true, V1).2 192 5) + 1)) else f_X7_findFault_b12 f (up (up (bI true, V1).2 192 5 (((bI true, V1).2 192 5) + 1)) 192 2 (((up (bI true, V1).2 192 5 (((bI true, V1).2 192 5) + 1)) 192 2) + 1)) (nI o + 1) else some ((-1), up (bI true, V1).2 192 5 (((bI true, V1).2 192 5) + 1)))
          = if nI r < nI n then (f_X7_isNext V2 59).bind fun q5 => if q5 = 0 then some (nI r, V2) else f_X7_findFault_b12 f (up V2 192 2 (nI (r + 1))) (nI (o + 1)) else some (-1, V2) := by
        rw [if_neg (show ¬ (bI true, V1).1 = 0 from (by decide : ¬ bI true = 0))]
        show (if (up V1 192 5 (V1 192 5 + 1)) 192 2 < (up V1 192 5 (V1 192 5 + 1)) 192 1 then (f_X7_isNext (up V1 192 5 (V1 192 5 + 1)) 59).bind fun q5 => if q5 = 0 then some ((up V1 192 5 (V1 192 5 + 1)) 192 2, up V1 192 5 (V1 192 5 + 1)) else f_X7_findFault_b12 f (up (up V1 192 5 (V1 192 5 + 1)) 192 2 ((up V1 192 5 (V1 192 5 + 1)) 192 2 + 1)) (nI o + 1) else some (-1, up V1 192 5 (V1 192 5 + 1))) = _
        rw [v5, nI_1, ← hV2, p2.1, p2.2.1, nI_1]
      rw [e1]
      by_cases c : r < n
      · rw [if_pos ((nI_ltI (by omega) (by omega)).mpr c), isNX p2 hn r2, bs]
        by_cases d : T r = 59
        · rw [if_pos (show r < n ∧ T r = 59 from ⟨c, d⟩), if_neg (show ¬ (1 : Int32) = 0 by decide)]
          rcases ffl hn f (o + 1) (r + 1) (up V2 192 2 (nI (r + 1))) p2.mv (by rw [up_ne _ (fun _ => by decide), v25]) (by omega) (by omega) (fun j hj => by
            obtain ⟨s, s1, s2⟩ := hO2 j hj
            exact ⟨s, s1, by rw [up_at (by decide), s2]⟩) (by omega) with ⟨q, V3, k1, k2, k3⟩ | ⟨O, V3, k1, k2, k3, k4, k5⟩
          · exact Or.inl ⟨q, V3, k1, k2, F2'.tr ((fun k a b => (k3 k a b).trans (up_at a) : FPd V2 V3))⟩
          · exact Or.inr ⟨O, V3, k1, k2, k3, k4, F2'.tr ((fun k a b => (k5 k a b).trans (up_at a) : FPd V2 V3))⟩
        · rw [if_neg (show ¬ (r < n ∧ T r = 59) from fun q => d q.2), if_pos (show (0 : Int32) = 0 by decide)]
          exact Or.inl ⟨r, V2, rfl, by omega, F2'⟩
      · rw [if_neg (fun q => c ((nI_ltI (by omega) (by omega)).mp q))]
        exact Or.inr ⟨o + 1, V2, rfl, by omega, v25, hO2, F2'⟩
def OD (V : St) (rc : Option (Int32 × St)) (dc : Option St) : Prop :=
  (∃ r d, r ≠ 0 ∧ rc = some (r, up V 0 9 d)) ∨ (∃ V1 g1, rc = some (0, V) ∧ dc = some V1 ∧ SR V1 1 g1 ∧ GG g1 ∧ AC g1 ∧ Out 1 V V1)
theorem OC.d {V : St} {rc : Option (Int32 × St)} {dc : Option St} {an : St → Option Int32} {P : (Nat → Int32) → Nat → Prop} (h : OC V rc dc an P) : OD V rc dc := by
  rcases h with ⟨r, d, h1, -, h2⟩ | ⟨V1, g1, a, h1, h2, h3, h4, h5, h6, -⟩
  · exact Or.inl ⟨r, d, h1, h2⟩
  · exact Or.inr ⟨V1, g1, h1, h2, h3, h4, h5, h6⟩
theorem bpp {α β : Type} (o : Option (α × β)) : (o.bind fun q => some (q.1, q.2)) = o := by cases o <;> rfl
theorem bii {α : Type} (o : Option α) : (o.bind fun q => some q) = o := by cases o <;> rfl
theorem na_eq (V : St) {j i : Nat} (hj : j < 9) (hi : i < 4) : f_X7_numberAt V (nI j) (nI i) = some (V (196 + j) i) := by
  rw [f_X7_numberAt, if_neg (nI_pos (by omega)), if_neg (show ¬ (9 : Int32) ≤ nI j from nI_ge (b := 9) hj (by decide)), if_neg (nI_pos (by omega)), if_pos (show nI i < (4 : Int32) from nI_lt (b := 4) hi (by decide)), ix_nI hj (by decide), bs, ix_nI hi (by decide), bs]
theorem wa_eq (V : St) {j : Nat} (hj : j < 9) : f_X7_wordAt V (nI j) = some (V 194 j) := by
  rw [f_X7_wordAt, if_neg (nI_pos (by omega)), if_neg (show ¬ (9 : Int32) ≤ nI j from nI_ge (b := 9) hj (by decide)), ix_nI hj (by decide), bs]
theorem OD.cg {V : St} {rc rc2 : Option (Int32 × St)} {dc dc2 : Option St} (h : OD V rc dc) (e1 : rc2 = rc) (e2 : dc2 = dc) : OD V rc2 dc2 := by rw [e1, e2]; exact h
theorem do_od {V : St} {g : Nat → Int32} {j s : Nat} (hj : j < 9) (hs : s < 8) (hw : V 194 j = nI s) (hS : SR V 1 g) (hG : GG g) (hA : AC g) : OD V (f_X9_reasonAgainstOrder V (nI j)) (f_X9_doOrder V (nI j)) := by
  have n0 : f_X7_numberAt V (nI j) 0 = some (V (196 + j) 0) := na_eq V hj (i := 0) (by decide)
  have n1 : f_X7_numberAt V (nI j) 1 = some (V (196 + j) 1) := na_eq V hj (i := 1) (by decide)
  have n2 : f_X7_numberAt V (nI j) 2 = some (V (196 + j) 2) := na_eq V hj (i := 2) (by decide)
  have n3 : f_X7_numberAt V (nI j) 3 = some (V (196 + j) 3) := na_eq V hj (i := 3) (by decide)
  have w := wa_eq V hj
  rw [hw] at w
  have hc : s = 0 ∨ s = 1 ∨ s = 2 ∨ s = 3 ∨ s = 4 ∨ s = 5 ∨ s = 6 ∨ s = 7 := by omega
  rcases hc with rfl | rfl | rfl | rfl | rfl | rfl | rfl | rfl
  · refine (oc_knot hS hG hA (V (196 + j) 0) (V (196 + j) 1) (V (196 + j) 2)).d.cg ?_ ?_
    · rw [f_X9_reasonAgainstOrder, n0, bs, n1, bs, n2, bs, w, bs, if_pos (by decide), bpp]
    · rw [f_X9_doOrder, n0, bs, n1, bs, n2, bs, w, bs, if_pos (by decide)]
      simp only [bii]
  · refine (oc_tear hS hG hA (V (196 + j) 0) (V (196 + j) 1) (V (196 + j) 2)).d.cg ?_ ?_
    · rw [f_X9_reasonAgainstOrder, n0, bs, n1, bs, n2, bs, w, bs, if_neg (by decide), if_pos (by decide), bpp]
    · rw [f_X9_doOrder, n0, bs, n1, bs, n2, bs, w, bs, if_neg (by decide), if_pos (by decide), bii]
  · refine (oc_mend hS hG hA (V (196 + j) 0) (V (196 + j) 1) (V (196 + j) 2) (V (196 + j) 3)).d.cg ?_ ?_
    · rw [f_X9_reasonAgainstOrder, n0, bs, n1, bs, n2, bs, w, bs, if_neg (by decide), if_neg (by decide), if_pos (by decide), n3, bs, bpp]
    · rw [f_X9_doOrder, n0, bs, n1, bs, n2, bs, w, bs, if_neg (by decide), if_neg (by decide), if_pos (by decide), n3, bs, bii]
  · refine (oc_editor hS hG hA (V (196 + j) 0)).d.cg ?_ ?_
    · rw [f_X9_reasonAgainstOrder, n0, bs, n1, bs, n2, bs, w, bs, if_neg (by decide), if_neg (by decide), if_neg (by decide), if_pos (by decide), bpp]
    · rw [f_X9_doOrder, n0, bs, n1, bs, n2, bs, w, bs, if_neg (by decide), if_neg (by decide), if_neg (by decide), if_pos (by decide), bii]
  · refine (oc_tide hS hG hA (V (196 + j) 0)).d.cg ?_ ?_
    · rw [f_X9_reasonAgainstOrder, n0, bs, n1, bs, n2, bs, w, bs, if_neg (by decide), if_neg (by decide), if_neg (by decide), if_neg (by decide), if_pos (by decide), bpp]
    · rw [f_X9_doOrder, n0, bs, n1, bs, n2, bs, w, bs, if_neg (by decide), if_neg (by decide), if_neg (by decide), if_neg (by decide), if_pos (by decide)]
  · refine (oc_sink hS hG hA (V (196 + j) 0) (V (196 + j) 1)).d.cg ?_ ?_
    · rw [f_X9_reasonAgainstOrder, n0, bs, n1, bs, n2, bs, w, bs, if_neg (by decide), if_neg (by decide), if_neg (by decide), if_neg (by decide), if_neg (by decide), if_pos (by decide), bpp]
    · rw [f_X9_doOrder, n0, bs, n1, bs, n2, bs, w, bs, if_neg (by decide), if_neg (by decide), if_neg (by decide), if_neg (by decide), if_neg (by decide), if_pos (by decide)]
  · refine (oc_note hS hG hA (V (196 + j) 0) (V (196 + j) 1)).d.cg ?_ ?_
    · rw [f_X9_reasonAgainstOrder, n0, bs, n1, bs, n2, bs, w, bs, if_neg (by decide), if_neg (by decide), if_neg (by decide), if_neg (by decide), if_neg (by decide), if_neg (by decide), if_pos (by decide), bpp]
    · rw [f_X9_doOrder, n0, bs, n1, bs, n2, bs, w, bs, if_neg (by decide), if_neg (by decide), if_neg (by decide), if_neg (by decide), if_neg (by decide), if_neg (by decide), if_pos (by decide), bii]
  · refine (oc_drop hS hG hA (V (196 + j) 0)).d.cg ?_ ?_
    · rw [f_X9_reasonAgainstOrder, n0, bs, n1, bs, n2, bs, w, bs, if_neg (by decide), if_neg (by decide), if_neg (by decide), if_neg (by decide), if_neg (by decide), if_neg (by decide), if_neg (by decide), bpp]
    · rw [f_X9_doOrder, n0, bs, n1, bs, n2, bs, w, bs, if_neg (by decide), if_neg (by decide), if_neg (by decide), if_neg (by decide), if_neg (by decide), if_neg (by decide), if_neg (by decide), bii]
theorem exl {O : Nat} (hO : O ≤ 9) {V0 : St} : ∀ (f j : Nat) (V : St) (g : Nat → Int32), j ≤ O → O < f + j → SR V 1 g → GG g → AC g → (∀ i, i < O → ∃ s, s < 8 ∧ V 194 i = nI s) → V 192 5 = nI O → Out 1 V0 V →
    (∃ jj r d V2, f_X9_run_b49 f V (nI j) = ((f_X8_copyFrom (up V2 0 9 d) 1 18).bind fun q6 => (f_X6_keepOrder q6 jj r (q6 0 9)).bind fun q7 => some (.error 0, q7)) ∧ Out 1 V0 V2) ∨
    (∃ V2 g2, f_X9_run_b49 f V (nI j) = ((f_X1_push V2 18).bind fun q2 => some (.ok (q2 192 5), q2)) ∧ SR V2 1 g2 ∧ GG g2 ∧ AC g2 ∧ Out 1 V0 V2)
  | 0, j, V, g, _, h, _, _, _, _, _, _ => by omega
  | f + 1, j, V, g, hj, hf, hS, hG, hA, hw, h5, ho => by
    rw [f_X9_run_b49, h5]
    by_cases e : j = O
    · rw [if_pos (by rw [e]; exact nI_le (Nat.le_refl _) (by omega))]
      exact Or.inr ⟨V, g, rfl, hS, hG, hA, ho⟩
    · have hj : j < O := by omega
      obtain ⟨s, s1, s2⟩ := hw j hj
      rw [if_neg (nI_ge hj (by omega))]
      rcases do_od (by omega) s1 s2 hS hG hA with ⟨r, d, n0, c1⟩ | ⟨V1, g1, c1, c2, c3, c4, c5, c6⟩
      · refine Or.inl ⟨nI j, r, d, V, ?_, ho⟩
        rw [c1, bs]
        exact if_neg n0
      · have o1 : Out 1 V0 V1 := fun k hk => (c6 k hk).trans (ho k hk)
        have ih := exl hO f (j + 1) V1 g1 (by omega) (by omega) c3 c4 c5 (fun i hi => by
          rw [c6 194 (by omega)]
          exact hw i hi) (by rw [c6 192 (by omega), h5]) o1
        rw [c1, bs]
        show (∃ jj r d V2, (if (0 : Int32) = 0 then ((f_X9_doOrder V (nI j)).bind fun q5 => f_X9_run_b49 f q5 (nI j + 1)) else _) = _ ∧ _) ∨ (∃ V2 g2, (if (0 : Int32) = 0 then ((f_X9_doOrder V (nI j)).bind fun q5 => f_X9_run_b49 f q5 (nI j + 1)) else _) = _ ∧ _)
        rw [if_pos rfl, c2, bs, nI_1]
        exact ih
/-- the invariant, whatever lies on the tape -/
def JE (V : St) (g : Nat → Int32) (c : Nat) (G : Nat → Nat → Int32) : Prop := SR V 1 g ∧ GG g ∧ AC g ∧ c ≤ 8 ∧ HRc V G c ∧ (∀ j, j < c → GG (G j) ∧ AC (G j))
theorem JJ.e {V : St} {g : Nat → Int32} {c : Nat} {G : Nat → Nat → Int32} (h : JJ V g c G) : JE V g c G := ⟨h.1, h.2.1, h.2.2.1, h.2.2.2.1, h.2.2.2.2.1, h.2.2.2.2.2.1⟩
theorem JE.fr {V V1 : St} {g : Nat → Int32} {c : Nat} {G : Nat → Nat → Int32} (h : JE V g c G) (a : ∀ k, 1 ≤ k → k < 190 → V1 k = V k) : JE V1 g c G := by
  obtain ⟨h1, h2, h3, h4, h5, h6⟩ := h
  exact ⟨h1.fr fun k k1 k2 => a k k1 (by omega), h2, h3, h4, h5.fr fun k k1 k2 => a k (by omega) k2, h6⟩
/-- a call of the law's: refused and nothing changed, or done -/
def ML' (V : St) (g : Nat → Int32) (c : Nat) (G : Nat → Nat → Int32) (o : Option (Int32 × St)) (P : (Nat → Int32) → Nat → Prop) : Prop :=
  (∃ r V1, o = some (r, V1) ∧ (r = -76 ∨ r = -78) ∧ JJ V1 g c G) ∨ (∃ V1 g1 a, o = some (nI a, V1) ∧ JJ V1 g1 (cp8 c) (Gp G c g) ∧ a < 1000 ∧ P g1 a)
theorem run_ok {V : St} {g : Nat → Int32} {c n : Nat} {G : Nat → Nat → Int32} (hJ : JE V g c G) (hn : n ≤ 60) (h192 : V 192 1 = nI n) : ML' V g c G (f_L_run V) TrP := by
  obtain ⟨V0, hV0⟩ : ∃ z, z = up (up V 192 2 0) 192 5 0 := ⟨_, rfl⟩
  have vk : ∀ k, k ≠ 192 → V0 k = V k := fun k a => by rw [hV0, up_at a, up_at a]
  have pz : PZ (V 193) n 0 V0 := ⟨by rw [hV0, up_ne _ (fun _ => by decide), up_self]; rfl, by rw [hV0, up_ne _ (fun _ => by decide), up_ne _ (fun _ => by decide), h192], fun j hj => by rw [vk 193 (by decide)]⟩
  have o5 : V0 192 5 = nI 0 := by rw [hV0, up_self]; rfl
  rcases ffl hn 500 0 0 V0 pz o5 (Nat.zero_le _) (Nat.zero_le _) (fun j hj => absurd hj (Nat.not_lt_zero j)) (by decide) with ⟨q, V1, a1, a2, a3⟩ | ⟨O, V1, a1, a2, a3, a4, a5⟩
  · have a1 : f_X7_findFault V = some (nI q, V1) := by rw [f_X7_findFault, ← hV0]; exact a1
    have v1 : ∀ k, k ≠ 192 → ¬ (194 ≤ k ∧ k < 205) → V1 k = V k := fun k a b => (a3 k a b).trans (vk k a)
    have hE : JE (up (up V1 192 1 0) 0 10 (nI q)) g c G := hJ.fr fun k a b => by rw [up_at (by omega), up_at (by omega), v1 k (by omega) (by omega)]
    refine Or.inl ⟨-78, up (up V1 192 1 0) 0 10 (nI q), ?_, Or.inr rfl, ⟨hE.1, hE.2.1, hE.2.2.1, hE.2.2.2.1, hE.2.2.2.2.1, hE.2.2.2.2.2, by rw [up_at (by decide), up_self]⟩⟩
    rw [f_L_run, f_X9_run, a1, bs, f_X7_clear, bs, if_neg (show ¬ (nI q, V1).1 = -1 from m1_ne (by omega)), bs]
    rfl
  · have a1 : f_X7_findFault V = some (-1, V1) := by rw [f_X7_findFault, ← hV0]; exact a1
    have v1 : ∀ k, k ≠ 192 → ¬ (194 ≤ k ∧ k < 205) → V1 k = V k := fun k a b => (a5 k a b).trans (vk k a)
    obtain ⟨W, w1, w2, w3⟩ := cf_eq (up V1 192 1 0) (a := 18) (b := 1) (by decide)
    have hE : JE (up V1 192 1 0) g c G := hJ.fr fun k a b => by rw [up_at (by omega), v1 k (by omega) (by omega)]
    have wS := w3 g hE.1
    have hW : JE W g c G := by
      obtain ⟨h1, h2, h3, h4, h5, h6⟩ := hE
      exact ⟨h1.fr fun k a b => w2 k (by omega), h2, h3, h4, h5.fr fun k a b => w2 k (by omega), h6⟩
    have W5 : W 192 5 = nI O := by rw [w2 192 (by omega), up_ne _ (fun _ => by decide), a3]
    have W1 : W 192 1 = 0 := by rw [w2 192 (by omega), up_self]
    have ec : f_X9_run V = f_X9_run_b49 500 W (nI 0) := by
      rw [f_X9_run, a1, bs, f_X7_clear, bs, if_pos (show ((-1 : Int32), V1).1 = -1 from rfl)]
      show ((f_X8_copyFrom (up V1 192 1 0) 18 1).bind fun q11 => f_X9_run_b49 500 q11 0) = _
      rw [w1, bs]
      rfl
    rcases exl a2 500 0 W g (Nat.zero_le _) (by omega) hW.1 hW.2.1 hW.2.2.1 (fun i hi => by
      rw [w2 194 (by omega), up_at (by decide)]
      exact a4 i hi) W5 (Out.rf 1 W) with ⟨jj, r, d, V2, b1, b2⟩ | ⟨V2, g2, b1, b2, b3, b4, b5⟩
    · have s18 : SR (up V2 0 9 d) 18 g := wS.fr fun k a b => by rw [up_at (by omega), b2 k (by omega)]
      obtain ⟨V3, f1, f2, f3⟩ := cf_eq (up V2 0 9 d) (a := 1) (b := 18) (by decide)
      have s3 := f3 g s18
      obtain ⟨A, hA⟩ : ∃ z, z = up (up (up (up V3 207 0 9) 207 1 jj) 207 2 r) 207 3 (V3 0 9) := ⟨_, rfl⟩
      have ak : ∀ k, k ≠ 207 → A k = V3 k := fun k a => by rw [hA, up_at a, up_at a, up_at a, up_at a]
      have av : ∀ k, k ≠ 0 → k ≠ 207 → ¬ (1 ≤ k ∧ k < 18) → A k = W k := fun k a b c => by rw [ak k b, f2 k (by omega), up_at a, b2 k (by omega)]
      refine Or.inl ⟨-76, A, ?_, Or.inl rfl, ⟨s3.fr fun k a b => ak k (by omega), hW.2.1, hW.2.2.1, hW.2.2.2.1, hW.2.2.2.2.1.fr fun k a b => av k (by omega) (by omega) (by omega), hW.2.2.2.2.2, by rw [av 192 (by decide) (by decide) (by omega), W1]⟩⟩
      rw [f_L_run, ec, b1, f1, bs, f_X6_keepOrder, bs, bs, ← hA]
      rfl
    · have s18 : SR V2 18 g := wS.fr fun k a b => by rw [b5 k (by omega)]
      have kh : HRc V2 G c := hW.2.2.2.2.1.fr fun k a b => b5 k (by omega)
      obtain ⟨V3, p1, p2, p3⟩ := push_c hW.2.2.2.1 kh s18 (by decide)
      refine Or.inr ⟨V3, g2, O, ?_, ⟨b2.fr fun k a b => p2 k (Or.inl (by omega)), b3, b4, cp8_le hW.2.2.2.1, p3, Gp_all (P := fun g => GG g ∧ AC g) hW.2.2.2.2.2 ⟨hW.2.1, hW.2.2.1⟩ hW.2.2.2.1, by rw [p2 192 (by omega), b5 192 (by omega), W1]⟩, by omega, trivial⟩
      rw [f_L_run, ec, b1, p1, bs, bs, p2 192 (by omega), b5 192 (by omega), W5]
      rfl
theorem feed_ok {V : St} {n : Nat} {x : Int32} (hn : n < 60) (hV : V 192 1 = nI n) (hx : vp_nar .char x = x) : f_L_feed V x = some (nI (n + 1), up (up V 193 n x) 192 1 (nI (n + 1))) := by
  rw [f_L_feed, f_X9_feed, f_X7_isFull, hV, if_pos (show nI n < (60 : Int32) from nI_lt (b := 60) hn (by decide)), bs, if_pos rfl, f_X7_append, hV, if_neg (nI_pos (by omega)), if_neg (show ¬ (60 : Int32) ≤ nI n from nI_ge (b := 60) hn (by decide)), ix_nI hn (by decide), bs, hx, up_at (show 192 ≠ 193 by decide), hV, nI_1, bs, up_self]
  rfl
theorem reads_lp {ts : List Int32} (hl : ts.length < 60) {g : Nat → Int32} {c : Nat} {G : Nat → Nat → Int32} : ∀ (f k : Nat) (V : St), k ≤ ts.length → ts.length < f + k → JE V g c G → V 192 1 = nI k → ML' V g c G (f_L_reads_b2 ts f V (nI k)) TrP
  | 0, k, V, _, h, _, _ => by omega
  | f + 1, k, V, hk, hf, hJ, hV => by
    rw [f_L_reads_b2]
    by_cases e : k = ts.length
    · rw [if_pos (by rw [e]; exact nI_le (Nat.le_refl _) (by omega)), bpp]
      exact run_ok hJ (by omega) hV
    · have hk : k < ts.length := by omega
      rw [if_neg (nI_ge hk (by omega)), ix_nI hk (by omega), bs, feed_ok (by omega) hV (by unfold txc; exact nar_i2c _), bs, nI_1]
      have ih := reads_lp hl (g := g) (c := c) (G := G) f (k + 1) (up (up V 193 k (txc ts k)) 192 1 (nI (k + 1))) (by omega) (by omega) (hJ.fr fun q a b => by rw [up_at (by omega), up_at (by omega)]) (up_self _ _ _ _)
      exact ih
theorem reads_ok {ts : List Int32} (hl : ts.length < 60) {V : St} {g : Nat → Int32} {c : Nat} {G : Nat → Nat → Int32} (hJ : JJ V g c G) : ML' V g c G (f_L_reads ts V) TrP := reads_lp hl 64 0 V (Nat.zero_le _) (by omega) hJ.e hJ.2.2.2.2.2.2
theorem MU.l {V : St} {g : Nat → Int32} {c : Nat} {G : Nat → Nat → Int32} {o : Option ((Except Nat Int32) × St)} {P : (Nat → Int32) → Nat → Prop} (h : MU V g c G o P) : ML' V g c G (o.bind fun q1 => exm q1.1 (fun r => some (r, q1.2)) (fun n => if n = 0 then some ((-76), q1.2) else none)) P := by
  rcases h with ⟨V1, h1, h2⟩ | ⟨V1, g1, a, h1, h2⟩
  · refine Or.inl ⟨-76, V1, ?_, Or.inl rfl, h2⟩
    rw [h1, bs]
    rfl
  · refine Or.inr ⟨V1, g1, a, ?_, h2⟩
    rw [h1, bs]
    rfl
