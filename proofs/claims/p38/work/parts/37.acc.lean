/-! accounts, balances, shares -/
theorem RR.self {V U : St} (h : RR V V) (f : Fq V U) : RR U U := (h.qq (F191.rf _) f).cg (fun k hk => f.1 k (by omega)) (fun _ _ _ => rfl)
def nkn (g : Nat → Int32) (n : Nat) : Nat := nb (kA g n)
theorem ck_c {V : St} {B : Nat} {g : Nat → Int32} (h : SR V B g) (hg : GG g) : f_X8_countKnots V B = some (nI (nkn g 0 + nkn g 1 + nkn g 2)) := by
  have st : ∀ m c n, n < 3 → f_X8_countKnots_b4 (m + 1) V B (nI c) (nI n) = f_X8_countKnots_b4 m V B (nI (c + nkn g n)) (nI (n + 1)) := by
    intro m c n hn
    rw [f_X8_countKnots_b4, if_neg (show ¬ (3 : Int32) ≤ nI n from nI_ge (b := 3) hn (by decide)), net_eq V B hn, bs, kn_eq, bs, h.eA hn, bc24 (hg.k24 hn), bs, nI_1, nI_add]
    rfl
  have en : ∀ m c, f_X8_countKnots_b4 (m + 1) V B (nI c) (nI 3) = some (nI c) := by
    intro m c
    rw [f_X8_countKnots_b4, if_pos (by decide)]
  refine (st 499 0 0 (by decide)).trans ((st 498 _ 1 (by decide)).trans ((st 497 _ 2 (by decide)).trans ((en 496 _).trans ?_)))
  rw [Nat.zero_add]
theorem ca_c {V : St} {B : Nat} {g : Nat → Int32} (h : SR V B g) (hg : GG g) : f_X8_countAllChapters V B = some (nI (nch g 0 + nch g 1 + nch g 2)) := by
  have st : ∀ m c n, n < 3 → f_X8_countAllChapters_b4 (m + 1) V B (nI c) (nI n) = f_X8_countAllChapters_b4 m V B (nI (c + nch g n)) (nI (n + 1)) := by
    intro m c n hn
    rw [f_X8_countAllChapters_b4, if_neg (show ¬ (3 : Int32) ≤ nI n from nI_ge (b := 3) hn (by decide)), net_eq V B hn, bs, cc_s h hg hn, bs, nI_1, nI_add]
  have en : ∀ m c, f_X8_countAllChapters_b4 (m + 1) V B (nI c) (nI 3) = some (nI c) := by
    intro m c
    rw [f_X8_countAllChapters_b4, if_pos (by decide)]
  refine (st 499 0 0 (by decide)).trans ((st 498 _ 1 (by decide)).trans ((st 497 _ 2 (by decide)).trans ((en 496 _).trans ?_)))
  rw [Nat.zero_add]
theorem ct_a {V : St} {B : Nat} {g : Nat → Int32} (h : SR V B g) (hg : GG g) : f_X8_countTorn V B = some (nI (ntn g 0 + ntn g 1 + ntn g 2)) := by
  have st : ∀ m c n, n < 3 → f_X8_countTorn_b4 (m + 1) V B (nI c) (nI n) = f_X8_countTorn_b4 m V B (nI (c + ntn g n)) (nI (n + 1)) := by
    intro m c n hn
    rw [f_X8_countTorn_b4, if_neg (show ¬ (3 : Int32) ≤ nI n from nI_ge (b := 3) hn (by decide)), net_eq V B hn, bs, ct_c h hg hn, bs, nI_1, nI_add]
  have en : ∀ m c, f_X8_countTorn_b4 (m + 1) V B (nI c) (nI 3) = some (nI c) := by
    intro m c
    rw [f_X8_countTorn_b4, if_pos (by decide)]
  refine (st 499 0 0 (by decide)).trans ((st 498 _ 1 (by decide)).trans ((st 497 _ 2 (by decide)).trans ((en 496 _).trans ?_)))
  rw [Nat.zero_add]
theorem ak_m (V : St) : f_X10_allKnots V = some (nI (nkn (V 209) 0 + nkn (V 209) 1 + nkn (V 209) 2)) := by
  have o : ∀ n w, n < 3 → w < 5 → f_X10_of V (nI n) (nI w) = some (V 209 (6 + 5 * n + w)) := fun n w a b => of_eq V a b
  rw [f_X10_allKnots, show (0 : Int32) = nI 0 from rfl, show (1 : Int32) = nI 1 from rfl, show (2 : Int32) = nI 2 from rfl, o 0 0 (by decide) (by decide), bs, o 0 1 (by decide) (by decide), bs, bits_eq, bs, o 1 0 (by decide) (by decide), bs, o 1 1 (by decide) (by decide), bs, bits_eq, bs, o 2 0 (by decide) (by decide), bs, o 2 1 (by decide) (by decide), bs, bits_eq, bs, nI_add, nI_add]
  rfl
theorem ac_m {V : St} (hG : GG (V 209)) : ∃ V1, f_X10_allChapters V = some (nI (nch (V 209) 0 + nch (V 209) 1 + nch (V 209) 2), V1) ∧ Fq V V1 ∧ V1 208 0 = V 208 0 := by
  obtain ⟨V1, a1, a2, a3⟩ := co_m hG (n := 0) (by decide)
  have e1 : V1 209 = V 209 := a2.1 209 (by decide)
  obtain ⟨V2, b1, b2, b3⟩ := co_m (V := V1) (by rw [e1]; exact hG) (n := 1) (by decide)
  have e2 : V2 209 = V 209 := (b2.1 209 (by decide)).trans e1
  obtain ⟨V3, c1, c2, c3⟩ := co_m (V := V2) (by rw [e2]; exact hG) (n := 2) (by decide)
  refine ⟨V3, ?_, (a2.tr b2).tr c2, c3.trans (b3.trans a3)⟩
  have a1 : f_X10_chaptersOf V 0 = _ := a1
  have b1 : f_X10_chaptersOf V1 1 = _ := b1
  have c1 : f_X10_chaptersOf V2 2 = _ := c1
  rw [f_X10_allChapters, a1, bs, b1, bs, c1, bs, e1, e2, nI_add, nI_add]
theorem tw_loop {Vc U : St} {g : Nat → Int32} (hS : SR Vc 1 g) (hU : U 209 = g) {m : Nat} (hm4 : m ≤ 4) (hm : g 1 = nI m) : ∀ (f i : Nat) (x : Int32), i ≤ m → m < f + i → ∃ r, f_X8_sumTwine_b4 f Vc 1 x (nI i) = some r ∧ f_X10_allTwine_b4 f U x (nI i) = some r
  | 0, i, x, h1, h2 => by omega
  | f + 1, i, x, h1, h2 => by
    rw [f_X8_sumTwine_b4, f_X10_allTwine_b4, hS.1.2.1, hU, hm]
    by_cases e : i = m
    · subst e
      rw [if_pos (show nI i ≤ nI i from nI_le (Nat.le_refl _) (by omega)), if_pos (show nI i ≤ nI i from nI_le (Nat.le_refl _) (by omega))]
      exact ⟨x, rfl, rfl⟩
    · have hi : i < m := by omega
      have i1 : (21 : Int32) + 2 * nI i = nI (21 + 2 * i + 0) := by
        rw [show (21 : Int32) = nI 21 from rfl, show (2 : Int32) = nI 2 from rfl, pk_mul, nI_add]
        rfl
      rw [if_neg (nI_ge hi (by omega)), if_neg (nI_ge hi (by omega)), ed_eq _ _ (by omega), bs, hS.2.2.1 i 0 (by omega) (by decide), i1, ix_nI (by omega) (by decide), bs, nI_1]
      have := tw_loop hS hU hm4 hm f (i + 1) (x + g (21 + 2 * i + 0)) (by omega) (by omega)
      rw [← hU] at this ⊢
      exact this
theorem an_loop {Vc : St} {g : Nat → Int32} (hS : SR Vc 1 g) (hg : GG g) {m : Nat} (hm6 : m ≤ 6) (hm : g 2 = nI m) : ∀ (f i c : Nat) (U : St), U 209 = g → i ≤ m → m < f + i → ∃ r U1, f_X8_countAsNoted_b4 f Vc 1 (nI c) (nI i) = some r ∧ f_X10_readSo_b4 f U (nI c) (nI i) = some (r, U1) ∧ Fq U U1 ∧ U1 208 0 = U 208 0
  | 0, i, c, U, hU, h1, h2 => by omega
  | f + 1, i, c, U, hU, h1, h2 => by
    rw [f_X8_countAsNoted_b4, f_X10_readSo_b4, hS.1.2.2.1, hU, hm]
    by_cases e : i = m
    · subst e
      rw [if_pos (show nI i ≤ nI i from nI_le (Nat.le_refl _) (by omega)), if_pos (show nI i ≤ nI i from nI_le (Nat.le_refl _) (by omega))]
      exact ⟨nI c, U, rfl, rfl, Fq.rf _, rfl⟩
    · have hi : i < m := by omega
      obtain ⟨n, S, y, z, h⟩ := nts hS hg hm6 hm hi
      obtain ⟨b, b1, b2⟩ := rdn hS hg h
      obtain ⟨U1, u1, u2, u3, u4⟩ := b2 U hU
      rw [if_neg (nI_ge hi (by omega)), if_neg (nI_ge hi (by omega)), no_eq _ _ (by omega), bs, b1, bs, u1, bs]
      have ih := fun c => an_loop hS hg hm6 hm f (i + 1) c U1 u4 (by omega) (by omega)
      cases b
      · rw [if_pos (show bI false = 0 by decide), if_pos (show (bI false, U1).1 = 0 from (by decide : bI false = 0))]
        obtain ⟨r, U2, q1, q2, q3, q4⟩ := ih c
        refine ⟨r, U2, ?_, ?_, u2.tr q3, q4.trans u3⟩
        · show f_X8_countAsNoted_b4 f Vc 1 (nI c + 0) (nI i + 1) = _
          rw [nI_1, Int32.add_zero, q1]
        · show f_X10_readSo_b4 f U1 (nI c + 0) (nI i + 1) = _
          rw [nI_1, Int32.add_zero, q2]
      · rw [if_neg (show ¬ bI true = 0 by decide), if_neg (show ¬ (bI true, U1).1 = 0 from (by decide : ¬ bI true = 0))]
        obtain ⟨r, U2, q1, q2, q3, q4⟩ := ih (c + 1)
        refine ⟨r, U2, ?_, ?_, u2.tr q3, q4.trans u3⟩
        · show f_X8_countAsNoted_b4 f Vc 1 (nI c + 1) (nI i + 1) = _
          rw [nI_1, nI_1, q1]
        · show f_X10_readSo_b4 f U1 (nI c + 1) (nI i + 1) = _
          rw [nI_1, nI_1, q2]
theorem s_account (x1 : Int32) : SIM (RO fun V => f_X9_account V x1) (fun V => f_X10_account V x1) [(3, 1)] := by
  refine q_rro fun Vc Vm hR => ?_
  have hS := hR.1.1
  have hG := hR.1.2
  obtain ⟨V0, hV0⟩ : ∃ V0, V0 = up Vm 208 0 0 := ⟨_, rfl⟩
  have h0 : V0 208 0 = 0 := by rw [hV0, up_self]
  have h9 : V0 209 = Vm 209 := by rw [hV0, up_at (by decide)]
  have h8 : ∀ j, 1 ≤ j → V0 208 j = Vm 208 j := fun j hj => by rw [hV0, up_ne _ (fun _ => by omega)]
  have hF : Fq Vm V0 := by rw [hV0]; exact Fq.t _ _
  have hG0 : GG (V0 209) := by rw [h9]; exact hG
  rw [f_X9_account, f_X10_account, ← hV0]
  by_cases e : x1 = 0
  · rw [if_pos e, if_pos e, ck_c hS hG, bs, ak_m, bs, h9]
    exact ⟨_, _, V0, rfl, rfl, hF, Ans.ok h0⟩
  rw [if_neg e, if_neg e]
  by_cases e : x1 = 1
  · obtain ⟨V1, u1, u2, u3⟩ := ac_m hG0
    rw [if_pos e, if_pos e, ca_c hS hG, bs, u1, bs, h9]
    exact ⟨_, _, V1, rfl, rfl, hF.tr u2, Ans.ok (u3.trans h0)⟩
  rw [if_neg e, if_neg e]
  by_cases e : x1 = 2
  · have t := fun n (hn : n < 3) => ti_m (V := V0) hn
    have t0 : f_X10_tornIn V0 0 = _ := t 0 (by decide)
    have t1 : f_X10_tornIn V0 1 = _ := t 1 (by decide)
    have t2 : f_X10_tornIn V0 2 = _ := t 2 (by decide)
    rw [if_pos e, if_pos e, ct_a hS hG, bs, t0, bs, t1, bs, t2, bs, h9, nI_add, nI_add]
    exact ⟨_, _, V0, rfl, rfl, hF, Ans.ok h0⟩
  rw [if_neg e, if_neg e]
  by_cases e : x1 = 3
  · rw [if_pos e, if_pos e, hS.1.2.1, h9]
    exact ⟨_, _, V0, rfl, rfl, hF, Ans.ok h0⟩
  rw [if_neg e, if_neg e]
  by_cases e : x1 = 4
  · obtain ⟨m, m4, hm⟩ := hG.2.1
    obtain ⟨r, r1, r2⟩ := tw_loop hS h9 m4 hm 500 0 0 (Nat.zero_le _) (by omega)
    have r1 : f_X8_sumTwine Vc 1 = some r := r1
    have r2 : f_X10_allTwine V0 = some r := r2
    rw [if_pos e, if_pos e, r1, bs, r2, bs]
    exact ⟨_, _, V0, rfl, rfl, hF, Ans.ok h0⟩
  rw [if_neg e, if_neg e]
  by_cases e : x1 = 5
  · rw [if_pos e, if_pos e, hS.1.2.2.1, h9]
    exact ⟨_, _, V0, rfl, rfl, hF, Ans.ok h0⟩
  rw [if_neg e, if_neg e]
  by_cases e : x1 = 6
  · obtain ⟨m, m6, hm, -⟩ := hG.2.2.1
    obtain ⟨r, U1, r1, r2, r3, r4⟩ := an_loop hS hG m6 hm 500 0 0 V0 h9 (Nat.zero_le _) (by omega)
    have r1 : f_X8_countAsNoted Vc 1 = some r := r1
    have r2 : f_X10_readSo V0 = some (r, U1) := r2
    rw [if_pos e, if_pos e, r1, bs, r2, bs]
    exact ⟨_, _, U1, rfl, rfl, hF.tr r3, Ans.ok (r4.trans h0)⟩
  rw [if_neg e, if_neg e]
  by_cases e : x1 = 7
  · rw [if_pos e, if_pos e, hS.1.1, h9]
    exact ⟨_, _, V0, rfl, rfl, hF, Ans.ok h0⟩
  rw [if_neg e, if_neg e]
  by_cases e : x1 = 8
  · rw [if_pos e, if_pos e, hS.1.2.2.2.1, h9]
    exact ⟨_, _, V0, rfl, rfl, hF, Ans.ok h0⟩
  rw [if_neg e, if_neg e]
  by_cases e : x1 = 9
  · rw [if_pos e, if_pos e, hS.1.2.2.2.2.1, h9]
    exact ⟨_, _, V0, rfl, rfl, hF, Ans.ok h0⟩
  rw [if_neg e, if_neg e]
  by_cases e : x1 = 10
  · rw [if_pos e, if_pos e, hS.1.2.2.2.2.2, h9]
    exact ⟨_, _, V0, rfl, rfl, hF, Ans.ok h0⟩
  rw [if_neg e, if_neg e]
  by_cases e : x1 = 11
  · obtain ⟨n, -, n2, n3, -⟩ := hR.2.2.2.1
    rw [if_pos e, if_pos e, n2, h8 10 (by decide), n3]
    exact ⟨_, _, V0, rfl, rfl, hF, Ans.ok h0⟩
  rw [if_neg e, if_neg e]
  by_cases e : x1 = 12
  · obtain ⟨c, G, -, ⟨o, -, -, k1, -⟩, k2, -⟩ := hR.2.1
    rw [if_pos e, if_pos e, k1, h8 5 (by decide), k2.1]
    exact ⟨_, _, V0, rfl, rfl, hF, Ans.ok h0⟩
  rw [if_neg e, if_neg e]
  exact ⟨.error 3, 0, up V0 208 0 1, rfl, rfl, hF.tr (Fq.t _ _), Ans.er (by simp) (by decide) (up_self _ _ _ _)⟩
/-! isBalanced -/
theorem SR.f1 {V V1 : St} {g : Nat → Int32} (h : SR V 1 g) (f : F191 V V1) : SR V1 1 g := h.fr fun k a b => f k (by omega)
theorem ac_loop {g : Nat → Int32} (hg : GG g) {V : St} (hS : SR V 1 g) : ∃ V1, f_X8_areChaptersToldAlike V 1 = some (1, V1) ∧ F191 V V1 := by
  have st : ∀ m c n (V : St), SR V 1 g → n < 3 → ∃ V1, f_X8_areChaptersToldAlike_b4 (m + 1) V 1 (nI c) (nI n) = f_X8_areChaptersToldAlike_b4 m V1 1 (nI (c + nch g n)) (nI (n + 1)) ∧ F191 V V1 := by
    intro m c n V hS hn
    obtain ⟨V1, c1, c2⟩ := cs_s hS hg hn
    refine ⟨V1, ?_, c2⟩
    rw [f_X8_areChaptersToldAlike_b4, if_neg (show ¬ (3 : Int32) ≤ nI n from nI_ge (b := 3) hn (by decide)), net_eq V 1 hn, bs, c1, bs, nI_1, nI_add]
  obtain ⟨V1, a1, a2⟩ := st 499 0 0 V hS (by decide)
  obtain ⟨V2, b1, b2⟩ := st 498 (0 + nch g 0) 1 V1 (hS.f1 a2) (by decide)
  obtain ⟨V3, c1, c2⟩ := st 497 (0 + nch g 0 + nch g 1) 2 V2 ((hS.f1 a2).f1 b2) (by decide)
  refine ⟨V3, a1.trans (b1.trans (c1.trans ?_)), (a2.tr b2).tr c2⟩
  rw [f_X8_areChaptersToldAlike_b4, if_pos (by decide), ca_c (((hS.f1 a2).f1 b2).f1 c2) hg, bs, if_pos (by rw [Nat.zero_add])]
theorem al_loop {g : Nat → Int32} (hg : GG g) {m : Nat} (hm6 : m ≤ 6) (hm : g 2 = nI m) : ∀ (f i : Nat) (V : St), SR V 1 g → i ≤ m → m < f + i → ∃ V1, f_X8_areNotesToldAlike_b2 f V 1 (nI i) = some (1, V1) ∧ F191 V V1
  | 0, i, V, hS, h1, h2 => by omega
  | f + 1, i, V, hS, h1, h2 => by
    rw [f_X8_areNotesToldAlike_b2, hS.1.2.2.1, hm]
    by_cases e : i = m
    · subst e
      rw [if_pos (show nI i ≤ nI i from nI_le (Nat.le_refl _) (by omega))]
      exact ⟨V, rfl, F191.rf _⟩
    · have hi : i < m := by omega
      obtain ⟨n, S, y, z, h⟩ := nts hS hg hm6 hm hi
      rw [if_neg (nI_ge hi (by omega)), no_eq _ _ (by omega), bs]
      rcases ltl hS hg h with ⟨c1, -⟩ | ⟨t, V1, ht, c1, c2, c3, c4, -⟩
      · rw [c1, bs, if_pos rfl]
        show ∃ V1, f_X8_areNotesToldAlike_b2 f V 1 (nI i + 1) = _ ∧ _
        rw [nI_1]
        exact al_loop hg hm6 hm f (i + 1) V hS (by omega) (by omega)
      · have h' : NT V1 g i n S y z := by
          obtain ⟨q0, q1, q2, q3, q4, q5, q6, q7, q8, q9, q10⟩ := h
          have := c3 (1 + 11 + i) (by omega)
          exact ⟨q0, q1, q2, q3, q4, q5, q6, q7, by rw [this]; exact q8, by rw [this]; exact q9, by rw [this]; exact q10⟩
        have lp : f_X8_leastByPlaces V1 1 (1 + 11 + i) = some (nI t) := by
          obtain ⟨q0, q1, q2, q3, q4, q5, q6, q7, q8, q9, q10⟩ := h
          have hTA : ∀ W : St, SR W 1 g → Sub (W (1 + 4 + n) 2) RT := fun W hW => by rw [hW.2.1 n 2 q0 (by decide)]; exact (hg.2.2.2 n q0).2.2.1
          have hTD : ∀ W : St, SR W 1 g → Sub (W (1 + 4 + n) 3) DN := fun W hW => by rw [hW.2.1 n 3 q0 (by decide)]; exact (hg.2.2.2 n q0).2.2.2.1
          have hS1 := hS.f1 c3
          obtain ⟨tw, t1, t2⟩ := lpl_eq q7 (hTA V hS) (hTD V hS)
          obtain ⟨tw', t1', t2'⟩ := lpl_eq q7 (hTA V1 hS1) (hTD V1 hS1)
          rw [c3 (1 + 4 + n) (by omega)] at t2'
          have et : tw' = tw := by omega
          obtain ⟨r0, r1, r2, r3, r4, r5, r6, r7, r8, r9, r10⟩ := h'
          have pl : ∀ W : St, W (1 + 11 + i) 1 = y → W (1 + 11 + i) 2 = z → f_X4_places W (1 + 11 + i) = some S := fun W w1 w2 => by rw [f_X4_places, w1, w2, q6]
          have a1 : f_X8_leastByPlaces V 1 (1 + 11 + i) = some (nI tw) := by rw [f_X8_leastByPlaces, q8, net_eq _ _ q0, bs, pl V q9 q10, bs, t1, bs]
          rw [f_X8_leastByPlaces, r8, net_eq _ _ q0, bs, pl V1 r9 r10, bs, t1', bs, et, ← a1, c4]
        rw [c1, bs, if_neg (by decide), c2, bs]
        show ∃ V2, ((f_X8_leastByPlaces V1 1 (1 + 11 + i)).bind _) = _ ∧ _
        rw [lp, bs, if_pos rfl]
        show ∃ V2, f_X8_areNotesToldAlike_b2 f V1 1 (nI i + 1) = _ ∧ _
        rw [nI_1]
        obtain ⟨V2, d1, d2⟩ := al_loop hg hm6 hm f (i + 1) V1 (hS.f1 c3) (by omega) (by omega)
        exact ⟨V2, d1, c3.tr d2⟩
/-! the mean and the share -/
theorem dv_dec : ∀ a : Fin 73, ∀ b : Fin 72, (dv (FP.i2d (nI a.val)) (FP.i2d (nI (b.val + 1)))).isSome = true := by decide +kernel
theorem dv_ok {a b : Nat} (ha : a ≤ 72) (hb : b ≤ 72) (h0 : ¬ b = 0) : ∃ q, dv (FP.i2d (nI a)) (FP.i2d (nI b)) = some q := by
  have h := dv_dec ⟨a, by omega⟩ ⟨b - 1, by omega⟩
  rw [show (⟨b - 1, by omega⟩ : Fin 72).val + 1 = b from by show b - 1 + 1 = b; omega] at h
  exact Option.isSome_iff_exists.mp h
theorem nkn_le (g : Nat → Int32) (n : Nat) : nkn g n ≤ 24 := nb_le _
theorem nrd_le (g : Nat → Int32) (n : Nat) : nrd g n ≤ 24 := nb_le _