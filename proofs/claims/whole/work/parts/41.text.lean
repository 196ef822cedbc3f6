/-! the whole text, order by order -/
def ORD (V U : St) (j : Nat) : Prop := ∃ s, s < 8 ∧ V 194 j = nI s ∧ U 214 (5 * j) = cdo s ∧ ∀ i, i < dct (frm s) → V (196 + j) i = U 214 (5 * j + 1 + i)
def FPc (V V1 : St) : Prop := ∀ k, k ≠ 192 → ¬ (194 ≤ k ∧ k < 205) → V1 k = V k
theorem FPc.tr {V V1 V2 : St} (h : FPc V V1) (h2 : FPc V1 V2) : FPc V V2 := fun k a b => (h2 k a b).trans (h k a b)
theorem F4.fp {o : Nat} (ho : o < 9) {V V1 : St} (h : F4 o V V1) : FPc V V1 := fun k a b => h.1 k a (by omega) (by omega)
theorem b70_w {U : St} (h : U 208 25 = 1) : f_X10_run_b70 U = f_X10_run_b88 U := by
  rw [f_X10_run_b70, h, if_neg (by decide)]
theorem pl_loop {T : Nat → Int32} {n : Nat} (hn : n ≤ 60) : ∀ (f f' o p : Nat) (V U : St), PZ T n p V → V 192 5 = nI o → MS T n false p U → U 208 24 = nI o → p ≤ n → 7 * o ≤ p → (∀ j, j < o → ORD V U j) → 9 < f + o → 9 < f' + o →
    (∃ q V1 U1, f_X7_findFault_b12 f V (nI o) = some (nI q, V1) ∧ ((f_X10_readsOne U).bind fun U2 => f_X10_run_b36 f' U2) = f_X10_run_b88 U1 ∧ U1 208 22 = nI q ∧ q ≤ 60 ∧ FPc V V1 ∧ GF2 U U1) ∨
    (∃ O V1 U1, f_X7_findFault_b12 f V (nI o) = some (-1, V1) ∧ ((f_X10_readsOne U).bind fun U2 => f_X10_run_b36 f' U2) = f_X10_run_b104 500 U1 0 ∧ O ≤ 9 ∧ V1 192 5 = nI O ∧ U1 208 24 = nI O ∧ (∀ j, j < O → ORD V1 U1 j) ∧ FPc V V1 ∧ GF2 U U1)
  | 0, _, o, p, V, U, _, _, _, _, _, _, _, h, _ => by omega
  | _, 0, o, p, V, U, _, _, _, _, _, _, _, _, h => by omega
  | f + 1, f' + 1, o, p, V, U, hP, h5, hM, h24, hp, h7, hO, hf, hf' => by
    have ho : o < 9 := by omega
    obtain ⟨V1, a1, a2, a3, a4⟩ := ro_eq hn ho hp hP
    obtain ⟨U1, b1, b2, b3, b4, b5, b6⟩ := ro_m hn (show o < 59 by omega) h24 hM hp
    obtain ⟨r1, r2, r3⟩ := rsl_le (T := T) hp
    have F := a3.fp ho
    rw [f_X7_findFault_b12, if_neg (show ¬ (9 : Int32) ≤ nI o from nI_ge (b := 9) ho (by decide)), a1, bs, b1, bs]
    cases ok : (rsl T n p).1
    · rw [ok] at b3
      refine Or.inl ⟨(rsl T n p).2.1, V1, U1, ?_, ?_, b3.2.1, by omega, F, b4⟩
      · rw [if_pos (show (bI false, V1).1 = 0 from (by decide : bI false = 0))]
        show some (V1 192 2, V1) = _
        rw [a2.1]
      · have e25 : U1 208 25 = 1 := b3.1
        rw [f_X10_run_b36, e25, if_neg (by decide), b70_w e25]
    · rw [ok] at b3
      have e25 : U1 208 25 = 0 := b3.1
      obtain ⟨r, hr⟩ : ∃ r, r = (rsl T n p).2.1 := ⟨_, rfl⟩
      have r3 := r3 ok
      obtain ⟨c1, c2⟩ := a4 ok
      obtain ⟨d1, d2, d3⟩ := b6 ok
      rw [← hr] at a2 b3 r1 r2 r3
      have v5 : V1 192 5 = nI o := (a3.2.1 5 (by decide)).trans h5
      obtain ⟨V2, hV2⟩ : ∃ z, z = up V1 192 5 (nI (o + 1)) := ⟨_, rfl⟩
      have p2 : PZ T n r V2 := by
        rw [hV2]
        exact ⟨by rw [up_ne _ (fun _ => by decide), a2.1], by rw [up_ne _ (fun _ => by decide), a2.2.1], fun j hj => by rw [up_at (by decide), a2.2.2 j hj]⟩
      have v2k : ∀ k, k ≠ 192 → V2 k = V1 k := fun k hk => by rw [hV2, up_at hk]
      have v25 : V2 192 5 = nI (o + 1) := by rw [hV2, up_self]
      have len : (rsl T n p).2.2.length = dct (frm (sel T n p)) := by
        have e : rsl T n p = mtp T n (frm (sel T n p)) p := by
          unfold rsl
          rw [if_pos d1]
        rw [e] at ok ⊢
        exact mtp_len _ _ ok
      have hO2 : ∀ j, j < o + 1 → ORD V2 U1 j := by
        intro j hj
        by_cases e : j = o
        · subst e
          refine ⟨_, d1, by rw [v2k 194 (by decide), c1], d2, fun i hi => ?_⟩
          rw [v2k _ (by omega), c2 i (by omega), d3 i (by omega)]
        · obtain ⟨s, s1, s2, s3, s4⟩ := hO j (by omega)
          refine ⟨s, s1, ?_, ?_, fun i hi => ?_⟩
          · rw [v2k 194 (by decide), a3.2.2 j e, s2]
          · rw [b5 _ (by omega), s3]
          · have q4 := (frm_n ⟨s, s1⟩).1
            have q4 : dct (frm s) ≤ 4 := q4
            rw [v2k _ (by omega), a3.1 _ (by omega) (by omega) (by omega), s4 i hi, b5 _ (by omega)]
      have F2' : FPc V V2 := fun k a b => (v2k k a).trans (F k a b)
      have e1 : (if (bI true, V1).1 = 0 then some ((bI true, V1).2 192 2, (bI true, V1).2) else if ((up (bI true, V1).2 192 5 (((bI true, V1).2 192 5) + 1)) 192 2) < ((up (bI true, V1).2 192 5 (((bI true, V1).2 192 5) + 1)) 192 1) then (f_X7_isNext (up (bI true, V1).2 192 5 (((bI true, V1).2 192 5) + 1)) 59).bind fun q5 => if q5 = 0 then some ((up (bI true, V1).2 192 5 (((bI true, V1).2 192 5) + 1)) 192 2, up (bI true, V1).2 192 5 (((bI true, V1).2 192 5) + 1)) else f_X7_findFault_b12 f (up (up (bI true, V1).2 192 5 (((bI true, V1).2 192 5) + 1)) 192 2 (((up (bI true, V1).2 192 5 (((bI true, V1).2 192 5) + 1)) 192 2) + 1)) (nI o + 1) else some ((-1), up (bI true, V1).2 192 5 (((bI true, V1).2 192 5) + 1)))
          = if nI r < nI n then (f_X7_isNext V2 59).bind fun q5 => if q5 = 0 then some (nI r, V2) else f_X7_findFault_b12 f (up V2 192 2 (nI (r + 1))) (nI (o + 1)) else some (-1, V2) := by
        rw [if_neg (show ¬ (bI true, V1).1 = 0 from (by decide : ¬ bI true = 0))]
        show (if (up V1 192 5 (V1 192 5 + 1)) 192 2 < (up V1 192 5 (V1 192 5 + 1)) 192 1 then (f_X7_isNext (up V1 192 5 (V1 192 5 + 1)) 59).bind fun q5 => if q5 = 0 then some ((up V1 192 5 (V1 192 5 + 1)) 192 2, up V1 192 5 (V1 192 5 + 1)) else f_X7_findFault_b12 f (up (up V1 192 5 (V1 192 5 + 1)) 192 2 ((up V1 192 5 (V1 192 5 + 1)) 192 2 + 1)) (nI o + 1) else some (-1, up V1 192 5 (V1 192 5 + 1))) = _
        rw [v5, nI_1, ← hV2, p2.1, p2.2.1, nI_1]
      rw [e1]
      have ml : ∀ w, f_X10_run_b36 (f' + 1) U1 = w → f_X10_run_b36 (f' + 1) U1 = w := fun _ h => h
      have hh := here0 b3 hn r2
      have em : f_X10_run_b36 (f' + 1) U1 = if (if r < n then T r else -1) = 59 then ((f_X10_readsOne (up U1 208 22 (nI (r + 1)))).bind fun q15 => f_X10_run_b36 f' q15) else (if nI n ≤ nI r then f_X10_run_b104 500 U1 0 else f_X10_run_b88 U1) := by
        rw [f_X10_run_b36, if_pos e25, hh, bs, b3.2.1, nI_1, f_X10_run_b70, if_pos e25, b3.2.2.1, b3.2.1]
      rw [em]
      by_cases c : r < n
      · rw [if_pos ((nI_ltI (by omega) (by omega)).mpr c), isNX p2 hn r2, bs, if_pos c]
        by_cases d : T r = 59
        · rw [if_pos (show r < n ∧ T r = 59 from ⟨c, d⟩), if_neg (show ¬ (1 : Int32) = 0 by decide), if_pos d]
          have g : GF U1 (up U1 208 22 (nI (r + 1))) := GF.p _ _
          rcases pl_loop hn f f' (o + 1) (r + 1) (up V2 192 2 (nI (r + 1))) (up U1 208 22 (nI (r + 1))) p2.mv (by rw [up_ne _ (fun _ => by decide), v25]) (b3.g g false (r + 1) (by rw [up_ne _ (fun _ => by decide), e25]; rfl) (up_self _ _ _ _)) (by rw [up_ne _ (fun _ => by decide), b2]) (by omega) (by omega) (fun j hj => by
            obtain ⟨s, s1, s2, s3, s4⟩ := hO2 j hj
            exact ⟨s, s1, by rw [up_at (by decide), s2], by rw [up_at (by decide), s3], fun i hi => by rw [up_at (by omega), up_at (by decide), s4 i hi]⟩) (by omega) (by omega) with ⟨q, V3, U3, k1, k2, k3, k4, k5, k6⟩ | ⟨O, V3, U3, k1, k2, k3, k4, k5, k6, k7, k8⟩
          · exact Or.inl ⟨q, V3, U3, k1, k2, k3, k4, F2'.tr ((fun k a b => (k5 k a b).trans (up_at a) : FPc V2 V3)), (b4.tr g.f2).tr k6⟩
          · exact Or.inr ⟨O, V3, U3, k1, k2, k3, k4, k5, k6, F2'.tr ((fun k a b => (k7 k a b).trans (up_at a) : FPc V2 V3)), (b4.tr g.f2).tr k8⟩
        · rw [if_neg (show ¬ (r < n ∧ T r = 59) from fun q => d q.2), if_pos (show (0 : Int32) = 0 by decide), if_neg d, if_neg (nI_ge c (by omega))]
          exact Or.inl ⟨r, V2, U1, rfl, rfl, b3.2.1, by omega, F2', b4⟩
      · rw [if_neg (fun q => c ((nI_ltI (by omega) (by omega)).mp q)), if_neg c, if_neg (show ¬ (-1 : Int32) = 59 by decide), if_pos (nI_le (by omega) (by omega))]
        exact Or.inr ⟨o + 1, V2, U1, rfl, rfl, by omega, v25, b2, hO2, F2', b4⟩
/-! one order is done -/
def OQ (Vc Vm : St) (rc : Option (Int32 × St)) (dc : Option St) (rm : Option (Int32 × St)) : Prop :=
  (∃ r d Vm1, r ≠ 0 ∧ rc = some (r, up Vc 0 9 d) ∧ rm = some (r, Vm1) ∧ Vm1 208 17 = d ∧ Vm1 209 = Vm 209 ∧ Fm Vm Vm1) ∨
  (∃ Vc1 Vm1, rc = some (0, Vc) ∧ dc = some Vc1 ∧ rm = some (0, Vm1) ∧ SR Vc1 1 (Vm1 209) ∧ GG (Vm1 209) ∧ Out 1 Vc Vc1 ∧ Fm Vm Vm1)
theorem OP.q {Vc Vm : St} {rc rm : Option (Int32 × St)} {dc : Option St} {an : St → Option Int32} (h : OP Vc Vm rc dc rm an) : OQ Vc Vm rc dc rm := by
  rcases h with ⟨r, d, Vm1, h1, -, h3, h4, h5, h6, h7⟩ | ⟨Vc1, Vm1, h1, h2, h3, h4, h5, h6, h7, -⟩
  · exact Or.inl ⟨r, d, Vm1, h1, h3, h4, h5, h6, h7⟩
  · exact Or.inr ⟨Vc1, Vm1, h1, h2, h3, h4, h5, h6, h7⟩
theorem bpp {α β : Type} (o : Option (α × β)) : (o.bind fun q => some (q.1, q.2)) = o := by cases o <;> rfl
theorem bii {α : Type} (o : Option α) : (o.bind fun q => some q) = o := by cases o <;> rfl
theorem na_eq (V : St) {j i : Nat} (hj : j < 9) (hi : i < 4) : f_X7_numberAt V (nI j) (nI i) = some (V (196 + j) i) := by
  rw [f_X7_numberAt, if_neg (nI_pos (by omega)), if_neg (show ¬ (9 : Int32) ≤ nI j from nI_ge (b := 9) hj (by decide)), if_neg (nI_pos (by omega)), if_pos (show nI i < (4 : Int32) from nI_lt (b := 4) hi (by decide)), ix_nI hj (by decide), bs, ix_nI hi (by decide), bs]
theorem wa_eq (V : St) {j : Nat} (hj : j < 9) : f_X7_wordAt V (nI j) = some (V 194 j) := by
  rw [f_X7_wordAt, if_neg (nI_pos (by omega)), if_neg (show ¬ (9 : Int32) ≤ nI j from nI_ge (b := 9) hj (by decide)), ix_nI hj (by decide), bs]
theorem do_ord {V U : St} {j : Nat} (hj : j < 9) (h : ORD V U j) (hS : SR V 1 (U 209)) (hG : GG (U 209)) : OQ V U (f_X9_reasonAgainstOrder V (nI j)) (f_X9_doOrder V (nI j)) (f_X10_does U (nI j)) := by
  obtain ⟨s, s8, h1, h2, h3⟩ := h
  have n0 : f_X7_numberAt V (nI j) 0 = some (V (196 + j) 0) := na_eq V hj (i := 0) (by decide)
  have n1 : f_X7_numberAt V (nI j) 1 = some (V (196 + j) 1) := na_eq V hj (i := 1) (by decide)
  have n2 : f_X7_numberAt V (nI j) 2 = some (V (196 + j) 2) := na_eq V hj (i := 2) (by decide)
  have n3 : f_X7_numberAt V (nI j) 3 = some (V (196 + j) 3) := na_eq V hj (i := 3) (by decide)
  have ii : ∀ k, k < 5 → ix ((5 : Int32) * nI j + nI k) 300 = some (5 * j + k) := fun k hk => by
    rw [show (5 : Int32) = nI 5 from rfl, pk_mul, nI_add, ix_nI (by omega) (by decide)]
  have i1 : ix ((5 : Int32) * nI j + 1) 300 = some (5 * j + 1) := ii 1 (by decide)
  have i2 : ix ((5 : Int32) * nI j + 2) 300 = some (5 * j + 2) := ii 2 (by decide)
  have i3 : ix ((5 : Int32) * nI j + 3) 300 = some (5 * j + 3) := ii 3 (by decide)
  have i4 : ix ((5 : Int32) * nI j + 4) 300 = some (5 * j + 4) := ii 4 (by decide)
  have i0 : ix ((5 : Int32) * nI j) 300 = some (5 * j) := by
    rw [show (5 : Int32) = nI 5 from rfl, pk_mul, ix_nI (by omega) (by decide)]
  rw [f_X9_reasonAgainstOrder, f_X9_doOrder, f_X10_does, n0, bs, n1, bs, n2, bs, wa_eq V hj, bs, bs, bs, bs, bs, i1, bs, i2, bs, i3, bs, i0, bs, h1, h2]
  rcases w8 s8 with rfl | rfl | rfl | rfl | rfl | rfl | rfl | rfl
  · have e0 : V (196 + j) 0 = U 214 (5 * j + 1) := h3 0 (by decide)
    have e1 : V (196 + j) 1 = U 214 (5 * j + 2) := h3 1 (by decide)
    have e2 : V (196 + j) 2 = U 214 (5 * j + 3) := h3 2 (by decide)
    rw [e0, e1, e2]
    have o := (op_knot hS hG (U 214 (5 * j + 1)) (U 214 (5 * j + 2)) (U 214 (5 * j + 3))).q
    rw [if_pos (show nI 0 = 0 by decide), if_pos (show nI 0 = 0 by decide), if_neg (show ¬ cdo 0 = 101 by decide), if_neg (show ¬ cdo 0 = 102 by decide), if_neg (show ¬ cdo 0 = 103 by decide), if_neg (show ¬ cdo 0 = 104 by decide), if_neg (show ¬ cdo 0 = 105 by decide), if_neg (show ¬ cdo 0 = 106 by decide), if_pos (show cdo 0 = 107 by decide), bpp, bpp]
    simp only [bii]
    exact o
  · have e0 : V (196 + j) 0 = U 214 (5 * j + 1) := h3 0 (by decide)
    have e1 : V (196 + j) 1 = U 214 (5 * j + 2) := h3 1 (by decide)
    have e2 : V (196 + j) 2 = U 214 (5 * j + 3) := h3 2 (by decide)
    rw [e0, e1, e2]
    have o := (op_tear hS hG (U 214 (5 * j + 1)) (U 214 (5 * j + 2)) (U 214 (5 * j + 3))).q
    rw [if_neg (show ¬ nI 1 = 0 by decide), if_neg (show ¬ nI 1 = 0 by decide), if_pos (show nI 1 = 1 by decide), if_pos (show nI 1 = 1 by decide), if_neg (show ¬ cdo 1 = 101 by decide), if_neg (show ¬ cdo 1 = 102 by decide), if_neg (show ¬ cdo 1 = 103 by decide), if_neg (show ¬ cdo 1 = 104 by decide), if_neg (show ¬ cdo 1 = 105 by decide), if_neg (show ¬ cdo 1 = 106 by decide), if_neg (show ¬ cdo 1 = 107 by decide), if_neg (show ¬ cdo 1 = 108 by decide), if_neg (show ¬ cdo 1 = 109 by decide), if_neg (show ¬ cdo 1 = 110 by decide), if_neg (show ¬ cdo 1 = 111 by decide), if_neg (show ¬ cdo 1 = 112 by decide), if_neg (show ¬ cdo 1 = 113 by decide), if_neg (show ¬ cdo 1 = 114 by decide), if_neg (show ¬ cdo 1 = 115 by decide), if_pos (show cdo 1 = 116 by decide), bpp, bpp, bii]
    exact o
  · have e0 : V (196 + j) 0 = U 214 (5 * j + 1) := h3 0 (by decide)
    have e1 : V (196 + j) 1 = U 214 (5 * j + 2) := h3 1 (by decide)
    have e2 : V (196 + j) 2 = U 214 (5 * j + 3) := h3 2 (by decide)
    have e3 : V (196 + j) 3 = U 214 (5 * j + 4) := h3 3 (by decide)
    rw [n3, bs, bs, e0, e1, e2, e3]
    have o := (op_mend hS hG (U 214 (5 * j + 1)) (U 214 (5 * j + 2)) (U 214 (5 * j + 3)) (U 214 (5 * j + 4))).q
    rw [if_neg (show ¬ nI 2 = 0 by decide), if_neg (show ¬ nI 2 = 0 by decide), if_neg (show ¬ nI 2 = 1 by decide), if_neg (show ¬ nI 2 = 1 by decide), if_pos (show nI 2 = 2 by decide), if_pos (show nI 2 = 2 by decide), if_neg (show ¬ cdo 2 = 101 by decide), if_neg (show ¬ cdo 2 = 102 by decide), if_neg (show ¬ cdo 2 = 103 by decide), if_neg (show ¬ cdo 2 = 104 by decide), if_neg (show ¬ cdo 2 = 105 by decide), if_neg (show ¬ cdo 2 = 106 by decide), if_neg (show ¬ cdo 2 = 107 by decide), if_neg (show ¬ cdo 2 = 108 by decide), if_pos (show cdo 2 = 109 by decide), i4, bs, bpp, bpp, bii]
    exact o
  · have e0 : V (196 + j) 0 = U 214 (5 * j + 1) := h3 0 (by decide)
    rw [e0]
    have o := (op_editor hS hG (U 214 (5 * j + 1))).q
    rw [if_neg (show ¬ nI 3 = 0 by decide), if_neg (show ¬ nI 3 = 0 by decide), if_neg (show ¬ nI 3 = 1 by decide), if_neg (show ¬ nI 3 = 1 by decide), if_neg (show ¬ nI 3 = 2 by decide), if_neg (show ¬ nI 3 = 2 by decide), if_pos (show nI 3 = 3 by decide), if_pos (show nI 3 = 3 by decide), if_pos (show cdo 3 = 101 by decide), bpp, bpp, bii]
    exact o
  · have e0 : V (196 + j) 0 = U 214 (5 * j + 1) := h3 0 (by decide)
    rw [e0]
    have o := (op_tide hS hG (U 214 (5 * j + 1))).q
    rw [if_neg (show ¬ nI 4 = 0 by decide), if_neg (show ¬ nI 4 = 0 by decide), if_neg (show ¬ nI 4 = 1 by decide), if_neg (show ¬ nI 4 = 1 by decide), if_neg (show ¬ nI 4 = 2 by decide), if_neg (show ¬ nI 4 = 2 by decide), if_neg (show ¬ nI 4 = 3 by decide), if_neg (show ¬ nI 4 = 3 by decide), if_pos (show nI 4 = 4 by decide), if_pos (show nI 4 = 4 by decide), if_neg (show ¬ cdo 4 = 101 by decide), if_neg (show ¬ cdo 4 = 102 by decide), if_neg (show ¬ cdo 4 = 103 by decide), if_neg (show ¬ cdo 4 = 104 by decide), if_neg (show ¬ cdo 4 = 105 by decide), if_neg (show ¬ cdo 4 = 106 by decide), if_neg (show ¬ cdo 4 = 107 by decide), if_neg (show ¬ cdo 4 = 108 by decide), if_neg (show ¬ cdo 4 = 109 by decide), if_neg (show ¬ cdo 4 = 110 by decide), if_neg (show ¬ cdo 4 = 111 by decide), if_neg (show ¬ cdo 4 = 112 by decide), if_neg (show ¬ cdo 4 = 113 by decide), if_neg (show ¬ cdo 4 = 114 by decide), if_neg (show ¬ cdo 4 = 115 by decide), if_neg (show ¬ cdo 4 = 116 by decide), if_neg (show ¬ cdo 4 = 117 by decide), if_neg (show ¬ cdo 4 = 118 by decide), if_pos (show cdo 4 = 119 by decide), bpp, bpp]
    exact o
  · have e0 : V (196 + j) 0 = U 214 (5 * j + 1) := h3 0 (by decide)
    have e1 : V (196 + j) 1 = U 214 (5 * j + 2) := h3 1 (by decide)
    rw [e0, e1]
    have o := (op_sink hS hG (U 214 (5 * j + 1)) (U 214 (5 * j + 2))).q
    rw [if_neg (show ¬ nI 5 = 0 by decide), if_neg (show ¬ nI 5 = 0 by decide), if_neg (show ¬ nI 5 = 1 by decide), if_neg (show ¬ nI 5 = 1 by decide), if_neg (show ¬ nI 5 = 2 by decide), if_neg (show ¬ nI 5 = 2 by decide), if_neg (show ¬ nI 5 = 3 by decide), if_neg (show ¬ nI 5 = 3 by decide), if_neg (show ¬ nI 5 = 4 by decide), if_neg (show ¬ nI 5 = 4 by decide), if_pos (show nI 5 = 5 by decide), if_pos (show nI 5 = 5 by decide), if_neg (show ¬ cdo 5 = 101 by decide), if_neg (show ¬ cdo 5 = 102 by decide), if_neg (show ¬ cdo 5 = 103 by decide), if_neg (show ¬ cdo 5 = 104 by decide), if_neg (show ¬ cdo 5 = 105 by decide), if_neg (show ¬ cdo 5 = 106 by decide), if_neg (show ¬ cdo 5 = 107 by decide), if_neg (show ¬ cdo 5 = 108 by decide), if_neg (show ¬ cdo 5 = 109 by decide), if_neg (show ¬ cdo 5 = 110 by decide), if_neg (show ¬ cdo 5 = 111 by decide), if_neg (show ¬ cdo 5 = 112 by decide), if_neg (show ¬ cdo 5 = 113 by decide), if_neg (show ¬ cdo 5 = 114 by decide), if_pos (show cdo 5 = 115 by decide), bpp, bpp]
    exact o
  · have e0 : V (196 + j) 0 = U 214 (5 * j + 1) := h3 0 (by decide)
    have e1 : V (196 + j) 1 = U 214 (5 * j + 2) := h3 1 (by decide)
    rw [e0, e1]
    have o := (op_note hS hG (U 214 (5 * j + 1)) (U 214 (5 * j + 2))).q
    rw [if_neg (show ¬ nI 6 = 0 by decide), if_neg (show ¬ nI 6 = 0 by decide), if_neg (show ¬ nI 6 = 1 by decide), if_neg (show ¬ nI 6 = 1 by decide), if_neg (show ¬ nI 6 = 2 by decide), if_neg (show ¬ nI 6 = 2 by decide), if_neg (show ¬ nI 6 = 3 by decide), if_neg (show ¬ nI 6 = 3 by decide), if_neg (show ¬ nI 6 = 4 by decide), if_neg (show ¬ nI 6 = 4 by decide), if_neg (show ¬ nI 6 = 5 by decide), if_neg (show ¬ nI 6 = 5 by decide), if_pos (show nI 6 = 6 by decide), if_pos (show nI 6 = 6 by decide), if_neg (show ¬ cdo 6 = 101 by decide), if_neg (show ¬ cdo 6 = 102 by decide), if_neg (show ¬ cdo 6 = 103 by decide), if_neg (show ¬ cdo 6 = 104 by decide), if_neg (show ¬ cdo 6 = 105 by decide), if_neg (show ¬ cdo 6 = 106 by decide), if_neg (show ¬ cdo 6 = 107 by decide), if_neg (show ¬ cdo 6 = 108 by decide), if_neg (show ¬ cdo 6 = 109 by decide), if_pos (show cdo 6 = 110 by decide), bpp, bpp, bii]
    exact o
  · have e0 : V (196 + j) 0 = U 214 (5 * j + 1) := h3 0 (by decide)
    rw [e0]
    have o := (op_drop hS hG (U 214 (5 * j + 1))).q
    rw [if_neg (show ¬ nI 7 = 0 by decide), if_neg (show ¬ nI 7 = 0 by decide), if_neg (show ¬ nI 7 = 1 by decide), if_neg (show ¬ nI 7 = 1 by decide), if_neg (show ¬ nI 7 = 2 by decide), if_neg (show ¬ nI 7 = 2 by decide), if_neg (show ¬ nI 7 = 3 by decide), if_neg (show ¬ nI 7 = 3 by decide), if_neg (show ¬ nI 7 = 4 by decide), if_neg (show ¬ nI 7 = 4 by decide), if_neg (show ¬ nI 7 = 5 by decide), if_neg (show ¬ nI 7 = 5 by decide), if_neg (show ¬ nI 7 = 6 by decide), if_neg (show ¬ nI 7 = 6 by decide), if_neg (show ¬ cdo 7 = 101 by decide), if_neg (show ¬ cdo 7 = 102 by decide), if_neg (show ¬ cdo 7 = 103 by decide), if_neg (show ¬ cdo 7 = 104 by decide), if_neg (show ¬ cdo 7 = 105 by decide), if_neg (show ¬ cdo 7 = 106 by decide), if_neg (show ¬ cdo 7 = 107 by decide), if_neg (show ¬ cdo 7 = 108 by decide), if_neg (show ¬ cdo 7 = 109 by decide), if_neg (show ¬ cdo 7 = 110 by decide), if_neg (show ¬ cdo 7 = 111 by decide), if_neg (show ¬ cdo 7 = 112 by decide), if_neg (show ¬ cdo 7 = 113 by decide), if_neg (show ¬ cdo 7 = 114 by decide), if_neg (show ¬ cdo 7 = 115 by decide), if_neg (show ¬ cdo 7 = 116 by decide), if_neg (show ¬ cdo 7 = 117 by decide), if_neg (show ¬ cdo 7 = 118 by decide), if_neg (show ¬ cdo 7 = 119 by decide), bpp, bpp, bii]
    exact o
