/-! notes: what they keep, whether they read so, how little would do -/
theorem isOf_eq (V : St) (k0 k1 : Nat) (x : Int32) : f_X4_isOf V k0 k1 x = some (bI (decide (V k1 0 &&& x = V k0 1) && decide (V k1 1 &&& x = V k0 2))) := by
  rw [f_X4_isOf]
  by_cases a : V k1 0 &&& x = V k0 1
  · by_cases b : V k1 1 &&& x = V k0 2
    · rw [if_pos a, if_pos b, decide_eq_true a, decide_eq_true b]
      rfl
    · rw [if_pos a, if_neg b, decide_eq_true a, decide_eq_false b]
      rfl
  · rw [if_neg a, decide_eq_false a]
    rfl
/-- the note k of a state: net n, places S, kinds y and z -/
def NT (V : St) (g : Nat → Int32) (k n : Nat) (S y z : Int32) : Prop := n < 3 ∧ k < 6 ∧ g (29 + 4 * k) = nI n ∧ g (29 + 4 * k + 1) = S ∧ g (29 + 4 * k + 2) = y ∧ g (29 + 4 * k + 3) = z ∧ S = y ||| z ∧ Hang S ∧ V (1 + 11 + k) 0 = nI n ∧ V (1 + 11 + k) 1 = y ∧ V (1 + 11 + k) 2 = z
theorem nts {V : St} {g : Nat → Int32} (hS : SR V 1 g) (hg : GG g) {m k : Nat} (hm6 : m ≤ 6) (hm : g 2 = nI m) (hk : k < m) : ∃ n S y z, NT V g k n S y z := by
  obtain ⟨m', m1, m2, m3⟩ := hg.2.2.1
  have e : m' = m := by
    rw [hm] at m2
    exact ((nI_eq (by omega) (by omega)).mp m2).symm
  subst e
  obtain ⟨n, n1, n2, n3, n4⟩ := m3 k hk
  obtain ⟨h0, h1, h2⟩ := hS.2.2.2 k (by omega) (by rw [hm, nI_clamp (by omega)]; exact hk)
  exact ⟨n, _, _, _, n1, by omega, n2, rfl, rfl, rfl, n3, n4, h0.trans n2, h1, h2⟩
def hkB (g : Nat → Int32) (n : Nat) (S y z : Int32) : Bool := decide (g (6 + 5 * n) &&& S = y) && decide (g (6 + 5 * n + 1) &&& S = z)
theorem hk_m {V U : St} {k n : Nat} {S y z : Int32} (h : NT V (U 209) k n S y z) : f_X10_hasKinds U (nI k) = some (bI (hkB (U 209) n S y z)) := by
  obtain ⟨n1, k6, h0, h1, h2, h3, -⟩ := h
  have o := fun (w : Nat) (hw : w < 4) => on_eq U k6 hw
  have f := fun (w : Nat) (hw : w < 5) => of_eq U n1 hw
  have o0 : f_X10_ofNote U (nI k) 0 = some (nI n) := (o 0 (by decide)).trans (by rw [Nat.add_zero, h0])
  have o1 : f_X10_ofNote U (nI k) 1 = some S := (o 1 (by decide)).trans (by rw [h1])
  have o2 : f_X10_ofNote U (nI k) 2 = some y := (o 2 (by decide)).trans (by rw [h2])
  have o3 : f_X10_ofNote U (nI k) 3 = some z := (o 3 (by decide)).trans (by rw [h3])
  have f0 : f_X10_of U (nI n) 0 = some (U 209 (6 + 5 * n)) := f 0 (by decide)
  have f1 : f_X10_of U (nI n) 1 = some (U 209 (6 + 5 * n + 1)) := f 1 (by decide)
  rw [f_X10_hasKinds, o0, bs, o1, bs, f0, bs, o2, bs]
  unfold hkB
  by_cases a : U 209 (6 + 5 * n) &&& S = y
  · rw [if_pos a, f1, bs, o3, bs]
    by_cases b : U 209 (6 + 5 * n + 1) &&& S = z
    · rw [if_pos b, decide_eq_true a, decide_eq_true b]
      rfl
    · rw [if_neg b, decide_eq_true a, decide_eq_false b]
      rfl
  · rw [if_neg a, decide_eq_false a]
    rfl
theorem and_or_bit {o h S y z : Int32} (h1 : o &&& S = y) (h2 : h &&& S = z) (i : Nat) : bt (y ||| z) i = (bt (o ||| h) i && bt S i) := by
  rw [← h1, ← h2, b_or, b_and, b_and, b_or]
  cases bt o i <;> cases bt h i <;> cases bt S i <;> rfl
/-- whether the note's chapter reads as noted -/
theorem rdn {V : St} {g : Nat → Int32} (hS : SR V 1 g) (hg : GG g) {k n : Nat} {S y z : Int32} (h : NT V g k n S y z) : ∃ b : Bool, f_X8_readsAsNoted V 1 (1 + 11 + k) = some (bI b) ∧ ∀ U : St, U 209 = g → ∃ U1, f_X10_readsSo U (nI k) = some (bI b, U1) ∧ Fq U U1 ∧ U1 208 0 = U 208 0 ∧ U1 209 = g := by
  obtain ⟨n1, k6, h0, h1, h2, h3, h4, h5, h6, h7, h8⟩ := id h
  obtain ⟨p, hp⟩ := isLow.ex h5.1 h5.2.1
  have n0 : V (1 + 4 + n) 0 = g (6 + 5 * n) := hS.2.1 n 0 n1 (by decide)
  have n11 : V (1 + 4 + n) 1 = g (6 + 5 * n + 1) := hS.2.1 n 1 n1 (by decide)
  have ec : ∀ C b, f_X3_chapterAt V (1 + 4 + n) (nI p) = some C → (decide (g (6 + 5 * n) &&& C = y) && decide (g (6 + 5 * n + 1) &&& C = z)) = b → f_X8_readsAsNoted V 1 (1 + 11 + k) = some (bI b) := by
    intro C b hC hb
    rw [f_X8_readsAsNoted, h6, net_eq _ _ n1, bs, f_X4_places, h7, h8, ← h4, bs, lowP_eq hp, bs, hC, bs, isOf_eq, n0, n11, h7, h8, hb, bs, nr_b, bs]
  by_cases q : g (6 + 5 * n) &&& S = y ∧ g (6 + 5 * n + 1) &&& S = z
  · have hq : hkB g n S y z = true := by
      unfold hkB
      rw [decide_eq_true q.1, decide_eq_true q.2]
      rfl
    have hSA : ∀ i, bt S i = true → bt (kA g n) i = true := fun i hi => by
      have := and_or_bit q.1 q.2 i
      rw [← h4, hi, Bool.and_true] at this
      exact this.symm
    rcases chp hS hg n1 hp.1 with ⟨e, -⟩ | ⟨e, C, d1, d2, d3, d4, d5⟩
    · rw [hSA p hp.2.1] at e
      cases e
    · refine ⟨decide (C = S), ec C _ d1 ?_, fun U hU => ?_⟩
      · have hCA : ∀ i, i < 32 → bt C i = true → bt (kA g n) i = true := fun i hi hc => con.inA ((d4 i hi).mp hc) e
        by_cases c : C = S
        · rw [decide_eq_true c, c, decide_eq_true q.1, decide_eq_true q.2]
          rfl
        · rw [decide_eq_false c]
          cases z1 : decide (g (6 + 5 * n) &&& C = y)
          · rfl
          · cases z2 : decide (g (6 + 5 * n + 1) &&& C = z)
            · rfl
            · refine absurd (b_ext fun i hi => ?_) c
              have := and_or_bit (of_decide_eq_true z1) (of_decide_eq_true z2) i
              rw [← h4] at this
              rw [this]
              show bt C i = (bt (kA g n) i && bt C i)
              cases w : bt C i
              · rw [Bool.and_false]
              · rw [hCA i hi w]
                rfl
      · subst hU
        obtain ⟨U1, u1, u2, u3, u4, u5⟩ := lk U n1
        have o : ∀ U2 : St, U2 209 = U 209 → f_X10_ofNote U2 (nI k) 0 = some (nI n) ∧ f_X10_ofNote U2 (nI k) 1 = some S := fun U2 e2 =>
          ⟨(on_eq U2 k6 (show 0 < 4 by decide)).trans (by rw [Nat.add_zero, e2, h0]), (on_eq U2 k6 (show 1 < 4 by decide)).trans (by rw [e2, h1])⟩
        refine ⟨U1, ?_, u2, u3, u4⟩
        rw [f_X10_readsSo, hk_m h, bs, hq, if_neg (by decide), (o U rfl).1, bs, u1, bs, (o U1 u4).2, bs, lowest_eq hp, bs, d5 U1 u5, bs, bs]
        by_cases c : C = S
        · rw [if_pos c, decide_eq_true c]
          rfl
        · rw [if_neg c, decide_eq_false c]
          rfl
  · have hq : hkB g n S y z = false := by
      unfold hkB
      by_cases q1 : g (6 + 5 * n) &&& S = y
      · rw [decide_eq_true q1, decide_eq_false (fun q2 => q ⟨q1, q2⟩)]
        rfl
      · rw [decide_eq_false q1]
        rfl
    have mU : ∀ U : St, U 209 = g → ∃ U1, f_X10_readsSo U (nI k) = some (bI false, U1) ∧ Fq U U1 ∧ U1 208 0 = U 208 0 ∧ U1 209 = g := by
      intro U hU
      subst hU
      refine ⟨U, ?_, Fq.rf _, rfl, rfl⟩
      rw [f_X10_readsSo, hk_m h, bs, hq, if_pos (by decide)]
      rfl
    rcases chp hS hg n1 hp.1 with ⟨e, d1⟩ | ⟨e, C, d1, d2, d3, d4, d5⟩
    · refine ⟨false, ec 0 _ d1 ?_, mU⟩
      cases z1 : decide (g (6 + 5 * n) &&& (0 : Int32) = y)
      · rfl
      · cases z2 : decide (g (6 + 5 * n + 1) &&& (0 : Int32) = z)
        · rfl
        · have := and_or_bit (of_decide_eq_true z1) (of_decide_eq_true z2) p
          rw [← h4, hp.2.1, b_0, Bool.and_false] at this
          cases this
    · refine ⟨false, ec C _ d1 ?_, mU⟩
      have hCA : ∀ i, i < 32 → bt C i = true → bt (kA g n) i = true := fun i hi hc => con.inA ((d4 i hi).mp hc) e
      cases z1 : decide (g (6 + 5 * n) &&& C = y)
      · rfl
      · cases z2 : decide (g (6 + 5 * n + 1) &&& C = z)
        · rfl
        · refine absurd ?_ q
          have ce : C = S := b_ext fun i hi => by
            have := and_or_bit (of_decide_eq_true z1) (of_decide_eq_true z2) i
            rw [← h4] at this
            rw [this]
            show bt C i = (bt (kA g n) i && bt C i)
            cases w : bt C i
            · rw [Bool.and_false]
            · rw [hCA i hi w]
              rfl
          rw [← ce]
          exact ⟨of_decide_eq_true z1, of_decide_eq_true z2⟩
/-- one of the notes, as class and model ask for it -/
theorem nt_cs {Vc Vm : St} (hS : SR Vc 1 (Vm 209)) (hG : GG (Vm 209)) (x : Int32) : (∃ k n S y z, x = nI k ∧ NT Vc (Vm 209) k n S y z ∧ f_X8_hasNote Vc 1 x = some 1 ∧ f_X10_isNote Vm x = some 1 ∧ f_X8_noteNumbered Vc 1 x = some (1 + 11 + k)) ∨ (f_X8_hasNote Vc 1 x = some 0 ∧ f_X10_isNote Vm x = some 0) := by
  obtain ⟨m, m6, hm, -⟩ := hG.2.2.1
  have hV4 : Vc 1 4 = nI m := by rw [hS.1.2.2.1, hm]
  have b1 := nr_b true
  have b0 := nr_b false
  have b1 : nr .boolean 1 = some (1 : Int32) := b1
  have b0 : nr .boolean 0 = some (0 : Int32) := b0
  rcases cnt_cs x (n := m) (by omega) with ⟨k, hk, rfl, d2⟩ | ⟨d2, d3⟩
  · obtain ⟨n, S, y, z, h⟩ := nts hS hG m6 hm hk
    refine Or.inl ⟨k, n, S, y, z, rfl, h, hn_yes hV4 hk (by omega), ?_, no_eq _ _ h.2.1⟩
    rw [f_X10_isNote, hm, d2, bs, b1, bs]
  · refine Or.inr ⟨hn_no hV4 d3, ?_⟩
    rw [f_X10_isNote, hm, d2, bs, b0, bs]
theorem s_noteOf (x1 x2 : Int32) : SIM (RO fun V => f_X9_noteOf V x1 x2) (fun V => f_X10_noteOf V x1 x2) [(1, 1), (3, 2)] := by
  refine q_ro fun Vc Vm hS hG => ?_
  rcases nt_cs hS hG x1 with ⟨k, n, S, y, z, rfl, h, a1, a2, a3⟩ | ⟨a1, a2⟩
  · obtain ⟨V0, hV0⟩ : ∃ V0, V0 = up Vm 208 0 0 := ⟨_, rfl⟩
    have h0 : V0 208 0 = 0 := by rw [hV0, up_self]
    have h9 : V0 209 = Vm 209 := by rw [hV0, up_at (by decide)]
    have hF : Fq Vm V0 := by rw [hV0]; exact Fq.t _ _
    obtain ⟨n1, k6, g0, g1, g2, g3, g4, g5, g6, g7, g8⟩ := id h
    have o0 : f_X10_ofNote V0 (nI k) 0 = some (nI n) := (on_eq V0 k6 (show 0 < 4 by decide)).trans (by rw [Nat.add_zero, h9, g0])
    have o1 : f_X10_ofNote V0 (nI k) 1 = some S := (on_eq V0 k6 (show 1 < 4 by decide)).trans (by rw [h9, g1])
    have m1 : f_X10_noteOf Vm (nI k) x2 = f_X10_noteOf_b14 Vm (nI k) x2 0 := by rw [f_X10_noteOf, a2, bs, if_neg (by decide)]
    have pl : f_X4_places Vc (1 + 11 + k) = some S := by rw [f_X4_places, g7, g8, g4]
    rw [m1, f_X9_noteOf, a1, bs, if_neg (by decide), a3, bs, f_X10_noteOf_b14, ← hV0, h0, if_pos (show (0 : Int32) ≤ 0 by decide)]
    by_cases e0 : x2 = 0
    · rw [if_pos e0, if_pos e0, g6, o0, bs]
      exact ⟨_, _, V0, rfl, rfl, hF, Ans.ok h0⟩
    rw [if_neg e0, if_neg e0]
    by_cases e1 : x2 = 1
    · obtain ⟨p, hp⟩ := isLow.ex g5.1 g5.2.1
      rw [if_pos e1, if_pos e1, pl, bs, lowP_eq hp, bs, o1, bs, lowest_eq hp, bs]
      exact ⟨_, _, V0, rfl, rfl, hF, Ans.ok h0⟩
    rw [if_neg e1, if_neg e1]
    by_cases e2 : x2 = 2
    · rw [if_pos e2, if_pos e2, pl, bs, bc24 g5.1, bs, o1, bs, bits_eq, bs]
      exact ⟨_, _, V0, rfl, rfl, hF, Ans.ok h0⟩
    rw [if_neg e2, if_neg e2]
    by_cases e3 : x2 = 3
    · obtain ⟨b, b1, b2⟩ := rdn hS hG h
      obtain ⟨U1, u1, u2, u3, -⟩ := b2 V0 h9
      rw [if_pos e3, if_pos e3, b1, bs, u1, bs]
      refine ⟨.ok (bI b), bI b, U1, ?_, ?_, hF.tr u2, Ans.ok (u3.trans h0)⟩
      · cases b <;> rfl
      · cases b <;> rfl
    rw [if_neg e3, if_neg e3]
    exact ⟨.error 3, 0, up V0 208 0 2, rfl, rfl, hF.tr (Fq.t _ _), Ans.er (by simp) (by decide) (up_self _ _ _ _)⟩
  · refine ⟨.error 1, 0, up Vm 208 0 1, ?_, ?_, Fq.t _ _, Ans.er (by simp) (by decide) (up_self _ _ _ _)⟩
    · rw [f_X9_noteOf, a1, bs, if_pos rfl]
    · rw [f_X10_noteOf, a2, bs, if_pos rfl, f_X10_noteOf_b14, up_self, if_neg (by decide)]
/-! how little twine would do -/
theorem out_S (S b A : Int32) : ((S ||| b) &&& A) &&& (S ^^^ (-1)) = (b &&& A) &&& (S ^^^ (-1)) := b_ext fun i hi => by
  rw [b_and, b_and, b_and, b_and, b_or, b_not S hi]
  cases bt S i <;> cases bt b i <;> cases bt A i <;> rfl
theorem P0_le (S TA TD : Int32) : P0 S TA TD ≤ 24 := fb_ct_le _ _
theorem P1_le (S TD : Int32) : P1 S TD ≤ 24 := fb_ct_le _ _
theorem m1_ne {n : Nat} (h : n < 2 ^ 31) : ¬ nI n = -1 := fun e => nI_pos h (by rw [e]; decide)
/-- what the note k would take, by the three ways; none where it can't be mended -/
theorem ltl {Vc : St} {g : Nat → Int32} (hS : SR Vc 1 g) (hg : GG g) {k n : Nat} {S y z : Int32} (h : NT Vc g k n S y z) :
    (f_X8_canBeMended Vc 1 (1 + 11 + k) = some 0 ∧ ∀ U : St, U 209 = g → ∃ U1, f_X10_little U (nI k) = some (-1, U1) ∧ Fq U U1 ∧ U1 208 0 = U 208 0) ∨
    (∃ t V1, t < 100 ∧ f_X8_canBeMended Vc 1 (1 + 11 + k) = some 1 ∧ f_X8_leastByStrings Vc 1 (1 + 11 + k) = some (nI t, V1) ∧ F191 Vc V1 ∧ f_X8_leastByPlaces Vc 1 (1 + 11 + k) = some (nI t) ∧ ∀ U : St, U 209 = g → ∃ U1, f_X10_little U (nI k) = some (nI t, U1) ∧ Fq U U1 ∧ U1 208 0 = U 208 0) := by
  obtain ⟨n1, k6, g0, g1, g2, g3, g4, g5, g6, g7, g8⟩ := id h
  have n0 : Vc (1 + 4 + n) 0 = g (6 + 5 * n) := hS.2.1 n 0 n1 (by decide)
  have n11 : Vc (1 + 4 + n) 1 = g (6 + 5 * n + 1) := hS.2.1 n 1 n1 (by decide)
  have pl : f_X4_places Vc (1 + 11 + k) = some S := by rw [f_X4_places, g7, g8, g4]
  have is0 : f_X4_isOf Vc (1 + 11 + k) (1 + 4 + n) S = some (bI (hkB g n S y z)) := by
    rw [isOf_eq, n0, n11, g7, g8]
    rfl
  have o : ∀ U2 : St, U2 209 = g → f_X10_ofNote U2 (nI k) 0 = some (nI n) ∧ f_X10_ofNote U2 (nI k) 1 = some S := fun U2 e2 =>
    ⟨(on_eq U2 k6 (show 0 < 4 by decide)).trans (by rw [Nat.add_zero, e2, g0]), (on_eq U2 k6 (show 1 < 4 by decide)).trans (by rw [e2, g1])⟩
  cases hq : hkB g n S y z
  · refine Or.inl ⟨?_, fun U hU => ?_⟩
    · rw [f_X8_canBeMended, g6, net_eq _ _ n1, bs, pl, bs, is0, bs, hq, if_pos (by decide)]
    · subst hU
      refine ⟨U, ?_, Fq.rf _, rfl⟩
      rw [f_X10_little, hk_m h, bs, hq, if_pos (by decide)]
  · obtain ⟨b, hb⟩ : ∃ b, b = bsd S (kR g n) (kD g n) := ⟨_, rfl⟩
    by_cases c : (b &&& kA g n) &&& (S ^^^ (-1)) = 0
    · have hTA : Sub (Vc (1 + 4 + n) 2) RT := by rw [hS.2.1 n 2 n1 (by decide)]; exact (hg.2.2.2 n n1).2.2.1
      have hTD : Sub (Vc (1 + 4 + n) 3) DN := by rw [hS.2.1 n 3 n1 (by decide)]; exact (hg.2.2.2 n n1).2.2.2.1
      obtain ⟨V1, j1, j2, l1, l2, l3, l4⟩ := ls_eq (V := Vc) (k := 1 + 4 + n) (by omega) g5 hTA hTD
      obtain ⟨tw, t1, t2⟩ := lpl_eq g5 hTA hTD
      have p0 := P0_le S (Vc (1 + 4 + n) 2) (Vc (1 + 4 + n) 3)
      have p1 := P1_le S (Vc (1 + 4 + n) 3)
      have et : tw = j1 + 2 * j2 := by omega
      subst et
      refine Or.inr ⟨j1 + 2 * j2, V1, by omega, ?_, ?_, l2, ?_, fun U hU => ?_⟩
      · rw [f_X8_canBeMended, g6, net_eq _ _ n1, bs, pl, bs, is0, bs, hq, if_neg (by decide), bs, f_X3_hasStringOutOf, whA, bs, whD, bs, bes_eq, bs, kn_eq, bs, hS.eA n1, hS.eR n1, hS.eD n1, ← hb, if_pos c, bs, if_pos rfl]
      · rw [f_X8_leastByStrings, g6, net_eq _ _ n1, bs, pl, bs, l1, bs]
      · rw [f_X8_leastByPlaces, g6, net_eq _ _ n1, bs, pl, bs, t1, bs]
      · subst hU
        obtain ⟨U1, u1, u2, u3, u4, u5⟩ := lk U n1
        rw [hS.2.1 n 2 n1 (by decide), hS.2.1 n 3 n1 (by decide)] at l3
        rw [hS.2.1 n 3 n1 (by decide)] at l4
        have q1 : f_X10_partsOf U1 S = some (nI (P0 S (U 209 (6 + 5 * n + 2)) (U 209 (6 + 5 * n + 3)))) := by
          have := pc_eq (V := U1) (A := S) g5.1
          rw [u5.2.1, u5.2.2] at this
          exact this
        have q2 : f_X10_partsOf (up U1 208 20 8255455) S = some (nI (P1 S (U 209 (6 + 5 * n + 3)))) := by
          have := pc_eq (V := up U1 208 20 8255455) (A := S) g5.1
          rw [up_self, up_ne _ (fun _ => by decide), u5.2.2] at this
          exact this
        refine ⟨up U1 208 20 8255455, ?_, u2.tr (Fq.d _ (by decide) _), by rw [up_ne _ (fun _ => by decide), u3]⟩
        rw [f_X10_little, hk_m h, bs, hq, if_neg (by decide), (o U rfl).2, bs, (o U rfl).1, bs, u1, bs, spr_eq, bs, u5.1, u5.2.1, u5.2.2, ← hb, out_S, if_pos c, q1, bs, q2, bs, l3, l4, pk_sub (by omega), show 1 + j2 = j2 + 1 from Nat.add_comm _ _, nI_pred, show (2 : Int32) = nI 2 from rfl, pk_mul, nI_add, show j2 + 1 + j1 - (j2 + 1) = j1 from by omega]
    · refine Or.inl ⟨?_, fun U hU => ?_⟩
      · rw [f_X8_canBeMended, g6, net_eq _ _ n1, bs, pl, bs, is0, bs, hq, if_neg (by decide), bs, f_X3_hasStringOutOf, whA, bs, whD, bs, bes_eq, bs, kn_eq, bs, hS.eA n1, hS.eR n1, hS.eD n1, ← hb, if_neg c, bs, if_neg (by decide)]
      · subst hU
        obtain ⟨U1, u1, u2, u3, u4, u5⟩ := lk U n1
        refine ⟨U1, ?_, u2, u3⟩
        rw [f_X10_little, hk_m h, bs, hq, if_neg (by decide), (o U rfl).2, bs, (o U rfl).1, bs, u1, bs, spr_eq, bs, u5.1, u5.2.1, u5.2.2, ← hb, out_S, if_neg c]
theorem le_m {Vc Vm : St} (hS : SR Vc 1 (Vm 209)) (hG : GG (Vm 209)) (x1 : Int32) : (∃ k t V1 U1, f_X8_hasNote Vc 1 x1 = some 1 ∧ f_X8_noteNumbered Vc 1 x1 = some (1 + 11 + k) ∧ f_X8_canBeMended Vc 1 (1 + 11 + k) = some 1 ∧ f_X8_leastByStrings Vc 1 (1 + 11 + k) = some (nI t, V1) ∧ F191 Vc V1 ∧ f_X8_leastByPlaces Vc 1 (1 + 11 + k) = some (nI t) ∧ f_X10_least Vm x1 = some (nI t, U1) ∧ Fq Vm U1 ∧ U1 208 0 = 0) ∨
    (∃ k U1, f_X8_hasNote Vc 1 x1 = some 1 ∧ f_X8_noteNumbered Vc 1 x1 = some (1 + 11 + k) ∧ f_X8_canBeMended Vc 1 (1 + 11 + k) = some 0 ∧ f_X10_least Vm x1 = some (0, U1) ∧ Fq Vm U1 ∧ U1 208 0 = 2) ∨ (f_X8_hasNote Vc 1 x1 = some 0 ∧ f_X10_least Vm x1 = some (0, up Vm 208 0 1)) := by
  rcases nt_cs hS hG x1 with ⟨k, n, S, y, z, rfl, h, a1, a2, a3⟩ | ⟨a1, a2⟩
  · have h0 : up Vm 208 0 0 208 0 = 0 := up_self _ _ _ _
    have h9 : up Vm 208 0 0 209 = Vm 209 := up_at (by decide)
    rcases ltl hS hG h with ⟨c1, c2⟩ | ⟨t, V1, ht, c1, c2, c3, c4, c5⟩
    · obtain ⟨U1, u1, u2, u3⟩ := c2 _ h9
      refine Or.inr (Or.inl ⟨k, up U1 208 0 2, a1, a3, c1, ?_, ((Fq.t _ _).tr u2).tr (Fq.t _ _), up_self _ _ _ _⟩)
      rw [f_X10_least, a2, bs, if_neg (by decide), f_X10_least_b14, h0, if_pos (by decide), u1, bs, if_pos rfl]
      rfl
    · obtain ⟨U1, u1, u2, u3⟩ := c5 _ h9
      refine Or.inl ⟨k, t, V1, U1, a1, a3, c1, c2, c3, c4, ?_, (Fq.t _ _).tr u2, u3.trans h0⟩
      rw [f_X10_least, a2, bs, if_neg (by decide), f_X10_least_b14, h0, if_pos (by decide), u1, bs, if_neg (m1_ne (by omega))]
  · refine Or.inr (Or.inr ⟨a1, ?_⟩)
    rw [f_X10_least, a2, bs, if_pos rfl, f_X10_least_b14, up_self, if_neg (by decide)]
theorem s_least (x1 : Int32) : SIM (fun V => f_X9_least V x1) (fun V => f_X10_least V x1) [(1, 1), (2, 2)] := by
  refine q_sim fun Vc Vm hS hG => ?_
  rcases le_m hS hG x1 with ⟨k, t, V1, U1, a1, a2, a3, a4, a5, a6, a7, a8, a9⟩ | ⟨k, U1, a1, a2, a3, a4, a5, a6⟩ | ⟨a1, a2⟩
  · refine ⟨_, V1, _, U1, ?_, a7, a5, a8, Ans.ok a9⟩
    rw [f_X9_least, a1, bs, if_neg (by decide), a2, bs, a3, bs, if_neg (by decide), a4, bs]
  · refine ⟨.error 2, Vc, 0, U1, ?_, a4, F191.rf _, a5, Ans.er (by simp) (by decide) a6⟩
    rw [f_X9_least, a1, bs, if_neg (by decide), a2, bs, a3, bs, if_pos rfl]
  · refine ⟨.error 1, Vc, 0, up Vm 208 0 1, ?_, a2, F191.rf _, Fq.t _ _, Ans.er (by simp) (by decide) (up_self _ _ _ _)⟩
    rw [f_X9_least, a1, bs, if_pos rfl]
theorem s_leastAgain (x1 : Int32) : SIM (RO fun V => f_X9_leastAgain V x1) (fun V => f_X10_leastAgain V x1) [(1, 1), (2, 2)] := by
  refine q_ro fun Vc Vm hS hG => ?_
  have mm : ∀ a U, f_X10_least Vm x1 = some (a, U) → f_X10_leastAgain Vm x1 = some (a, U) := fun a U e => by rw [f_X10_leastAgain, e, bs]
  rcases le_m hS hG x1 with ⟨k, t, V1, U1, a1, a2, a3, a4, a5, a6, a7, a8, a9⟩ | ⟨k, U1, a1, a2, a3, a4, a5, a6⟩ | ⟨a1, a2⟩
  · refine ⟨_, _, U1, ?_, mm _ _ a7, a8, Ans.ok a9⟩
    rw [f_X9_leastAgain, a1, bs, if_neg (by decide), a2, bs, a3, bs, if_neg (by decide), a6, bs]
  · refine ⟨.error 2, 0, U1, ?_, mm _ _ a4, a5, Ans.er (by simp) (by decide) a6⟩
    rw [f_X9_leastAgain, a1, bs, if_neg (by decide), a2, bs, a3, bs, if_pos rfl]
  · refine ⟨.error 1, 0, up Vm 208 0 1, ?_, mm _ _ a2, Fq.t _ _, Ans.er (by simp) (by decide) (up_self _ _ _ _)⟩
    rw [f_X9_leastAgain, a1, bs, if_pos rfl]
