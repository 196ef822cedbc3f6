/-! one number of a state is set -/
theorem SR.net {V : St} {B : Nat} {g : Nat → Int32} (h : SR V B g) {n w : Nat} (hn : n < 3) (hw : w < 5) (x : Int32) : SR (up V (B + 4 + n) w x) B (upd g (6 + 5 * n + w) x) := by
  obtain ⟨⟨h1, h2, h3, h4, h5, h6⟩, hN, hE, hO⟩ := h
  have eB : up V (B + 4 + n) w x B = V B := up_at (by omega)
  refine ⟨⟨?_, ?_, ?_, ?_, ?_, ?_⟩, fun n' w' a b => ?_, fun e w' a b => ?_, fun k a b => ?_⟩
  · rw [eB, pk_un (by omega), h1]
  · rw [eB, pk_un (by omega), h2]
  · rw [eB, pk_un (by omega), h3]
  · rw [eB, pk_un (by omega), h4]
  · rw [eB, pk_un (by omega), h5]
  · rw [eB, pk_un (by omega), h6]
  · rw [up_ev]
    by_cases c : n' = n
    · subst c
      rw [if_pos rfl]
      by_cases d : w' = w
      · subst d
        rw [if_pos rfl, pk_us]
      · rw [if_neg d, pk_un (by omega), hN n' w' a b]
    · rw [if_neg (by omega), pk_un (by omega), hN n' w' a b]
  · rw [up_at (by omega), pk_un (by omega), hE e w' a b]
  · rw [pk_un (by omega)] at b
    rw [up_at (by omega), pk_un (by omega), pk_un (by omega), pk_un (by omega)]
    exact hO k a b
theorem SR.ed {V : St} {B : Nat} {g : Nat → Int32} (h : SR V B g) {n w : Nat} (hn : n < 4) (hw : w < 2) (x : Int32) : SR (up V (B + 7 + n) w x) B (upd g (21 + 2 * n + w) x) := by
  obtain ⟨⟨h1, h2, h3, h4, h5, h6⟩, hN, hE, hO⟩ := h
  have eB : up V (B + 7 + n) w x B = V B := up_at (by omega)
  refine ⟨⟨?_, ?_, ?_, ?_, ?_, ?_⟩, fun n' w' a b => ?_, fun e w' a b => ?_, fun k a b => ?_⟩
  · rw [eB, pk_un (by omega), h1]
  · rw [eB, pk_un (by omega), h2]
  · rw [eB, pk_un (by omega), h3]
  · rw [eB, pk_un (by omega), h4]
  · rw [eB, pk_un (by omega), h5]
  · rw [eB, pk_un (by omega), h6]
  · rw [up_at (by omega), pk_un (by omega), hN n' w' a b]
  · rw [up_ev]
    by_cases c : e = n
    · subst c
      rw [if_pos rfl]
      by_cases d : w' = w
      · subst d
        rw [if_pos rfl, pk_us]
      · rw [if_neg d, pk_un (by omega), hE e w' a b]
    · rw [if_neg (by omega), pk_un (by omega), hE e w' a b]
  · rw [pk_un (by omega)] at b
    rw [up_at (by omega), pk_un (by omega), pk_un (by omega), pk_un (by omega)]
    exact hO k a b
theorem SR.fld {V : St} {B : Nat} {g : Nat → Int32} (h : SR V B g) {f i : Nat} (hf : (f = 5 ∧ i = 0) ∨ (f = 3 ∧ i = 1) ∨ (f = 6 ∧ i = 3) ∨ (f = 7 ∧ i = 4) ∨ (f = 8 ∧ i = 5)) (x : Int32) : SR (up V B f x) B (upd g i x) := by
  obtain ⟨⟨h1, h2, h3, h4, h5, h6⟩, hN, hE, hO⟩ := h
  refine ⟨?_, fun n' w' a b => ?_, fun e w' a b => ?_, fun k a b => ?_⟩
  · rcases hf with ⟨rfl, rfl⟩ | ⟨rfl, rfl⟩ | ⟨rfl, rfl⟩ | ⟨rfl, rfl⟩ | ⟨rfl, rfl⟩
    · exact ⟨by rw [up_self, pk_us], by rw [up_ne _ (fun _ => by decide), pk_un (by decide), h2], by rw [up_ne _ (fun _ => by decide), pk_un (by decide), h3], by rw [up_ne _ (fun _ => by decide), pk_un (by decide), h4], by rw [up_ne _ (fun _ => by decide), pk_un (by decide), h5], by rw [up_ne _ (fun _ => by decide), pk_un (by decide), h6]⟩
    · exact ⟨by rw [up_ne _ (fun _ => by decide), pk_un (by decide), h1], by rw [up_self, pk_us], by rw [up_ne _ (fun _ => by decide), pk_un (by decide), h3], by rw [up_ne _ (fun _ => by decide), pk_un (by decide), h4], by rw [up_ne _ (fun _ => by decide), pk_un (by decide), h5], by rw [up_ne _ (fun _ => by decide), pk_un (by decide), h6]⟩
    · exact ⟨by rw [up_ne _ (fun _ => by decide), pk_un (by decide), h1], by rw [up_ne _ (fun _ => by decide), pk_un (by decide), h2], by rw [up_ne _ (fun _ => by decide), pk_un (by decide), h3], by rw [up_self, pk_us], by rw [up_ne _ (fun _ => by decide), pk_un (by decide), h5], by rw [up_ne _ (fun _ => by decide), pk_un (by decide), h6]⟩
    · exact ⟨by rw [up_ne _ (fun _ => by decide), pk_un (by decide), h1], by rw [up_ne _ (fun _ => by decide), pk_un (by decide), h2], by rw [up_ne _ (fun _ => by decide), pk_un (by decide), h3], by rw [up_ne _ (fun _ => by decide), pk_un (by decide), h4], by rw [up_self, pk_us], by rw [up_ne _ (fun _ => by decide), pk_un (by decide), h6]⟩
    · exact ⟨by rw [up_ne _ (fun _ => by decide), pk_un (by decide), h1], by rw [up_ne _ (fun _ => by decide), pk_un (by decide), h2], by rw [up_ne _ (fun _ => by decide), pk_un (by decide), h3], by rw [up_ne _ (fun _ => by decide), pk_un (by decide), h4], by rw [up_ne _ (fun _ => by decide), pk_un (by decide), h5], by rw [up_self, pk_us]⟩
  · rw [up_at (by omega), pk_un (by omega), hN n' w' a b]
  · rw [up_at (by omega), pk_un (by omega), hE e w' a b]
  · rw [pk_un (by omega)] at b
    rw [up_at (by omega), pk_un (by omega), pk_un (by omega), pk_un (by omega)]
    exact hO k a b
theorem GN.un {g : Nat → Int32} {n i : Nat} {x : Int32} (h : GN g n) (hi : i < 6 + 5 * n ∨ 6 + 5 * n + 4 < i) : GN (upd g i x) n := by
  unfold GN
  rw [pk_un (by omega), pk_un (by omega), pk_un (by omega), pk_un (by omega), pk_un (by omega)]
  exact h
theorem GT.un {g : Nat → Int32} {k i : Nat} {x : Int32} (h : GT g k) (hi : i < 29 + 4 * k ∨ 29 + 4 * k + 3 < i) : GT (upd g i x) k := by
  unfold GT
  rw [pk_un (by omega), pk_un (by omega), pk_un (by omega), pk_un (by omega)]
  exact h
theorem GG.net {g : Nat → Int32} (h : GG g) {n w : Nat} (hn : n < 3) (hw : w < 5) {x : Int32} (h0 : w < 2 → I24 x) (h2 : w = 2 → Sub x RT) (h3 : w = 3 → Sub x DN) (h4 : w = 4 → ∃ d, d ≤ 4 ∧ x = nI d) : GG (upd g (6 + 5 * n + w) x) := by
  obtain ⟨⟨t, t1, t2⟩, ⟨d, d1, d2⟩, ⟨m, m1, m2, m3⟩, hN⟩ := h
  refine ⟨⟨t, t1, by rw [pk_un (by omega), t2]⟩, ⟨d, d1, by rw [pk_un (by omega), d2]⟩, ⟨m, m1, by rw [pk_un (by omega), m2], fun k hk => (m3 k hk).un (by omega)⟩, fun n' hn' => ?_⟩
  by_cases c : n' = n
  · subst c
    have hh := hN n' hn
    obtain ⟨a0, a1, a2, a3, a4⟩ := hh
    have cs : w = 0 ∨ w = 1 ∨ w = 2 ∨ w = 3 ∨ w = 4 := by omega
    unfold GN
    rcases cs with rfl | rfl | rfl | rfl | rfl
    · rw [show 6 + 5 * n' + 0 = 6 + 5 * n' from rfl, pk_us, pk_un (by omega), pk_un (by omega), pk_un (by omega), pk_un (by omega)]
      exact ⟨h0 (by decide), a1, a2, a3, a4⟩
    · rw [pk_us, pk_un (by omega), pk_un (by omega), pk_un (by omega), pk_un (by omega)]
      exact ⟨a0, h0 (by decide), a2, a3, a4⟩
    · rw [pk_us, pk_un (by omega), pk_un (by omega), pk_un (by omega), pk_un (by omega)]
      exact ⟨a0, a1, h2 rfl, a3, a4⟩
    · rw [pk_us, pk_un (by omega), pk_un (by omega), pk_un (by omega), pk_un (by omega)]
      exact ⟨a0, a1, a2, h3 rfl, a4⟩
    · rw [pk_us, pk_un (by omega), pk_un (by omega), pk_un (by omega), pk_un (by omega)]
      exact ⟨a0, a1, a2, a3, h4 rfl⟩
  · exact (hN n' hn').un (by omega)
/-- a number that says nothing of the state's shape -/
theorem GG.oth {g : Nat → Int32} (h : GG g) {i : Nat} (hi : (3 ≤ i ∧ i < 6) ∨ (21 ≤ i ∧ i < 29)) (x : Int32) : GG (upd g i x) := by
  obtain ⟨⟨t, t1, t2⟩, ⟨d, d1, d2⟩, ⟨m, m1, m2, m3⟩, hN⟩ := h
  exact ⟨⟨t, t1, by rw [pk_un (by omega), t2]⟩, ⟨d, d1, by rw [pk_un (by omega), d2]⟩, ⟨m, m1, by rw [pk_un (by omega), m2], fun k hk => (m3 k hk).un (by omega)⟩, fun n' hn' => (hN n' hn').un (by omega)⟩
theorem GG.tid {g : Nat → Int32} (h : GG g) {t : Nat} (ht : t ≤ 4) : GG (upd g 0 (nI t)) := by
  obtain ⟨-, ⟨d, d1, d2⟩, ⟨m, m1, m2, m3⟩, hN⟩ := h
  exact ⟨⟨t, ht, pk_us⟩, ⟨d, d1, by rw [pk_un (by omega), d2]⟩, ⟨m, m1, by rw [pk_un (by omega), m2], fun k hk => (m3 k hk).un (by omega)⟩, fun n' hn' => (hN n' hn').un (by omega)⟩
theorem GG.eds {g : Nat → Int32} (h : GG g) {e : Nat} (he : e ≤ 4) : GG (upd g 1 (nI e)) := by
  obtain ⟨⟨t, t1, t2⟩, -, ⟨m, m1, m2, m3⟩, hN⟩ := h
  exact ⟨⟨t, t1, by rw [pk_un (by omega), t2]⟩, ⟨e, he, pk_us⟩, ⟨m, m1, by rw [pk_un (by omega), m2], fun k hk => (m3 k hk).un (by omega)⟩, fun n' hn' => (hN n' hn').un (by omega)⟩
/-! one order -/
def Fm (V V1 : St) : Prop := (∀ k, k ≠ 208 → k ≠ 209 → V1 k = V k) ∧ ∀ j, (j < 17 ∨ 21 < j) → V1 208 j = V 208 j
theorem Fm.rf (V : St) : Fm V V := ⟨fun _ _ _ => rfl, fun _ _ => rfl⟩
theorem Fm.tr {V V1 V2 : St} (h : Fm V V1) (h2 : Fm V1 V2) : Fm V V2 := ⟨fun k a b => (h2.1 k a b).trans (h.1 k a b), fun j a => (h2.2 j a).trans (h.2 j a)⟩
theorem Fm.s (V : St) (j : Nat) (x : Int32) : Fm V (up V 209 j x) := ⟨fun _ _ h => up_at h, fun _ _ => by rw [up_at (show 208 ≠ 209 by decide)]⟩
theorem Fm.d (V : St) {j : Nat} (hj : 17 ≤ j ∧ j ≤ 21) (x : Int32) : Fm V (up V 208 j x) := ⟨fun _ h _ => up_at h, fun i hi => by rw [up_ne _ (fun _ => by omega)]⟩
theorem Fm.look {V V1 : St} (h1 : ∀ k, k ≠ 208 → V1 k = V k) (h2 : ∀ j, (j < 19 ∨ 21 < j) → V1 208 j = V 208 j) : Fm V V1 := ⟨fun k a _ => h1 k a, fun j a => h2 j (by omega)⟩
def OP (Vc Vm : St) (rc : Option (Int32 × St)) (dc : Option St) (rm : Option (Int32 × St)) (an : St → Option Int32) : Prop :=
  (∃ r d Vm1, r ≠ 0 ∧ r ≠ 9 ∧ rc = some (r, up Vc 0 9 d) ∧ rm = some (r, Vm1) ∧ Vm1 208 17 = d ∧ Vm1 209 = Vm 209 ∧ Fm Vm Vm1) ∨
  (∃ Vc1 Vm1, rc = some (0, Vc) ∧ dc = some Vc1 ∧ rm = some (0, Vm1) ∧ SR Vc1 1 (Vm1 209) ∧ GG (Vm1 209) ∧ Out 1 Vc Vc1 ∧ Fm Vm Vm1 ∧ an Vc1 = some (Vm1 208 18))
/-- refused -/
theorem OP.no {Vc Vm : St} {rc rm : Option (Int32 × St)} {dc : Option St} {an : St → Option Int32} (r d : Int32) (h1 : r ≠ 0) (h2 : r ≠ 9) (hc : rc = some (r, up Vc 0 9 d)) (hm : rm = some (r, up Vm 208 17 d)) : OP Vc Vm rc dc rm an :=
  Or.inl ⟨r, d, _, h1, h2, hc, hm, up_self _ _ _ _, up_at (by decide), Fm.d Vm (by decide) d⟩
theorem Out.up {a : Nat} {V0 V : St} (h : Out a V0 V) {k j : Nat} {x : Int32} (hk : a ≤ k ∧ k < a + 17) : Out a V0 (up V k j x) := fun q hq => by
  rw [up_at (fun e => hq (by rw [e]; exact hk))]
  exact h q hq
theorem Out.rf (a : Nat) (V : St) : Out a V V := fun _ _ => rfl
theorem op_knot {Vc Vm : St} (hS : SR Vc 1 (Vm 209)) (hG : GG (Vm 209)) (x1 x2 x3 : Int32) : OP Vc Vm (f_X9_reasonAgainstKnot Vc x1 x2 x3) ((f_X8_netNumbered Vc 1 x1).bind fun q => f_X3_tie Vc q x2 x3) (f_X10_ties Vm x1 x2 x3) (fun _ => (f_X8_netNumbered Vc 1 x1).bind fun q => f_X3_kindAt Vc q x2) := by
  rcases net_cs x1 with ⟨n, hn, rfl, a1, a2⟩ | ⟨a1, a2⟩
  · rcases pl_cs x2 with ⟨p, hp, rfl, b1, b2⟩ | ⟨b1, b2⟩
    · have hk : f_X3_kindAt Vc (1 + 4 + n) (nI p) = f_X10_kind Vm (nI n) (nI p) := by
        rw [kd_c _ _ hp, kd_m _ hn hp, hS.2.1 n 0 hn (by decide), hS.2.1 n 1 hn (by decide)]
        rfl
      rcases rng x3 (n := 4) (by decide) with ⟨j, hj, rfl⟩ | h
      · have c2 : f_X10_in (nI j) 0 3 = some 1 := in_yes (show (j : Int) ≤ 3 by omega) (by omega)
        have c1 : nI j ≤ (3 : Int32) := nI_le (b := 3) (by omega) (by decide)
        obtain ⟨kk, hkk⟩ : ∃ kk, f_X10_kind Vm (nI n) (nI p) = some kk := ⟨_, kd_m _ hn hp⟩
        by_cases e : kk = nI j
        · refine OP.no 4 (nI j) (by decide) (by decide) ?_ ?_
          · rw [f_X9_reasonAgainstKnot, a1, bs, if_neg (by decide), b1, bs, if_neg (by decide), if_neg (nI_pos (by omega)), if_pos c1, net_eq _ _ hn, bs, hk, hkk, bs, if_pos e]
            rfl
          · rw [f_X10_ties, a2, bs, if_neg (by decide), b2, bs, if_neg (by decide), c2, bs, if_neg (by decide), hkk, bs, if_pos e]
            rfl
        · have m0 := fun V => wi_m V hn (show 0 < 5 by decide) (nI p) (decide (j % 2 = 1))
          have m1 := fun V => wi_m V hn (show 1 < 5 by decide) (nI p) (decide (2 ≤ j))
          obtain ⟨g, hg⟩ : ∃ g, g = Vm 209 := ⟨_, rfl⟩
          obtain ⟨x, hx⟩ : ∃ x, x = wi (g (6 + 5 * n + 0)) (nI p) (decide (j % 2 = 1)) := ⟨_, rfl⟩
          obtain ⟨y, hy⟩ : ∃ y, y = wi (g (6 + 5 * n + 1)) (nI p) (decide (2 ≤ j)) := ⟨_, rfl⟩
          rw [← hg] at hS hG
          have hN := hG.2.2.2 n hn
          have x24 : I24 x := by rw [hx]; exact wi_24 hN.1 hp _
          have y24 : I24 y := by rw [hy]; exact wi_24 hN.2.1 hp _
          refine Or.inr ⟨up (up Vc (1 + 4 + n) 0 x) (1 + 4 + n) 1 y, up (up (up Vm 209 (6 + 5 * n + 0) x) 209 (6 + 5 * n + 1) y) 208 18 kk, ?_, ?_, ?_, ?_, ?_, ?_, ?_, ?_⟩
          · rw [f_X9_reasonAgainstKnot, a1, bs, if_neg (by decide), b1, bs, if_neg (by decide), if_neg (nI_pos (by omega)), if_pos c1, net_eq _ _ hn, bs, hk, hkk, bs, if_neg e]
          · rw [net_eq _ _ hn, bs, tie_eq _ _ _ hj, hS.2.1 n 0 hn (by decide), hS.2.1 n 1 hn (by decide), ← hx, ← hy]
          · have e9 : ∀ V : St, V 209 = upd g (6 + 5 * n + 0) x → f_X10_ties_b98 V kk (bI (decide (2 ≤ j))) (nI p) (nI 1) (nI n) = some (0, up (up V 209 (6 + 5 * n + 1) y) 208 18 kk) := by
              intro V hV
              rw [f_X10_ties_b98, m1, bs, hV, pk_un (by omega), ← hy]
              rfl
            have e8 : f_X10_ties_b81 Vm (nI n) (nI p) (nI j) kk (bI (decide (j % 2 = 1))) (nI p) (nI 0) (nI n) = some (0, up (up (up Vm 209 (6 + 5 * n + 0) x) 209 (6 + 5 * n + 1) y) 208 18 kk) := by
              rw [f_X10_ties_b81, m0, bs, ← hg, ← hx]
              have e9 := e9 (up Vm 209 (6 + 5 * n + 0) x) (by rw [up_me, hg])
              have c : j = 0 ∨ j = 1 ∨ j = 2 ∨ j = 3 := by omega
              rcases c with rfl | rfl | rfl | rfl
              · rw [if_pos (by decide)]
                exact e9
              · rw [if_pos (by decide)]
                exact e9
              · rw [if_neg (by decide)]
                exact e9
              · rw [if_neg (by decide)]
                exact e9
            rw [f_X10_ties, a2, bs, if_neg (by decide), b2, bs, if_neg (by decide), c2, bs, if_neg (by decide), hkk, bs, if_neg e]
            have c : j = 0 ∨ j = 1 ∨ j = 2 ∨ j = 3 := by omega
            rcases c with rfl | rfl | rfl | rfl
            · rw [if_neg (by decide)]
              exact e8
            · rw [if_pos (by decide)]
              exact e8
            · rw [if_neg (by decide)]
              exact e8
            · rw [if_pos (by decide)]
              exact e8
          · rw [up_at (show 209 ≠ 208 by decide), up_me, up_me, ← hg]
            exact (hS.net hn (by decide) x).net hn (by decide) y
          · rw [up_at (show 209 ≠ 208 by decide), up_me, up_me, ← hg]
            exact (hG.net hn (by decide) (fun _ => x24) (fun h => by cases h) (fun h => by cases h) (fun h => by cases h)).net hn (by decide) (fun _ => y24) (fun h => by cases h) (fun h => by cases h) (fun h => by cases h)
          · exact ((Out.rf 1 Vc).up (by omega)).up (by omega)
          · exact ((Fm.s Vm _ _).tr (Fm.s _ _ _)).tr (Fm.d _ (by decide) _)
          · show (f_X8_netNumbered Vc 1 (nI n)).bind _ = _
            rw [net_eq _ _ hn, bs, hk, hkk, up_self]
      · have c2 : f_X10_in x3 0 3 = some 0 := in_no (by rcases h with h | h; exact Or.inl h; exact Or.inr (show (3 : Int) < x3.toInt by omega))
        refine OP.no 3 x3 (by decide) (by decide) ?_ ?_
        · rw [f_X9_reasonAgainstKnot, a1, bs, if_neg (by decide), b1, bs, if_neg (by decide)]
          by_cases z : x3 < 0
          · rw [if_pos z]
            rfl
          · rw [if_neg z, if_neg (fun q => by
              have q1 := i_le.mp q
              have q2 : ¬ x3.toInt < 0 := fun q => z (i_lt.mpr (by rw [i_0]; exact q))
              have q3 : (3 : Int32).toInt = 3 := rfl
              omega)]
            rfl
        · rw [f_X10_ties, a2, bs, if_neg (by decide), b2, bs, if_neg (by decide), c2, bs, if_pos rfl]
          rfl
    · refine OP.no 2 x2 (by decide) (by decide) ?_ ?_
      · rw [f_X9_reasonAgainstKnot, a1, bs, if_neg (by decide), b1, bs, if_pos rfl]
        rfl
      · rw [f_X10_ties, a2, bs, if_neg (by decide), b2, bs, if_pos rfl]
        rfl
  · refine OP.no 2 x1 (by decide) (by decide) ?_ ?_
    · rw [f_X9_reasonAgainstKnot, a1, bs, if_pos rfl]
      rfl
    · rw [f_X10_ties, a2, bs, if_pos rfl]
      rfl
