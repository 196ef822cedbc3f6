/-! the law's own loop -/
theorem ush1 (x : Int32) : ∃ m, m < 2 ^ 31 ∧ ush x 1 = nI m := by
  obtain ⟨n, h1, rfl⟩ := nI_ex x
  exact ⟨n / 2, by omega, n_ush h1 1 1 (by decide)⟩
theorem pick_ok {L : Nat} (hL : L ≤ 260) (xs : Nat → Int32) {k d : Nat} (hk : k < 1000) (h0 : 0 < d) (hd : d < 2 ^ 31) : ∃ j, j < d ∧ f_L_pick L xs (nI k) (nI d) = some (nI j) := by
  obtain ⟨v, hv⟩ : ∃ v, f_L_cell L xs (nI k) = some v := by
    rw [f_L_cell]
    by_cases c : L ≤ k
    · exact ⟨_, if_pos (nI_le c (by omega))⟩
    · refine ⟨xs k, ?_⟩
      rw [if_neg (show ¬ Int32.ofNat L ≤ nI k from nI_ge (by omega) (by omega)), ix_nI (by omega) (by omega), bs]
  obtain ⟨m, m1, m2⟩ := ush1 v
  refine ⟨m % d, Nat.mod_lt _ h0, ?_⟩
  rw [f_L_pick, hv, bs, if_neg (nI_ne0 h0 hd), m2, pk_rem m1 h0 hd]
theorem ws_upk {w w2 : Nat → Nat} {i k : Nat} : ∀ {n : Nat}, i < n → w2 i = w i + k → (∀ e, e < n → e ≠ i → w2 e = w e) → ws n w2 = ws n w + k
  | 0, h, _, _ => by omega
  | n + 1, h, h1, h2 => by
    unfold ws
    by_cases e : i = n
    · subst e
      rw [ws_cg (fun e he => h2 e (by omega) (by omega)), h1]
      omega
    · rw [ws_upk (n := n) (by omega) h1 (fun e he => h2 e (by omega)), h2 n (by omega) (fun q => e q.symm)]
      omega
/-- the twine of all editors -/
def TW (g : Nat → Int32) (s : Nat) : Prop := ∃ (m : Nat) (t : Nat → Nat), m ≤ 4 ∧ g 1 = nI m ∧ (∀ e, e < m → g (21 + 2 * e + 0) = nI (t e) ∧ t e ≤ 99) ∧ s = ws m t ∧ s ≤ 400
theorem AC.tw {g : Nat → Int32} (h : AC g) : ∃ s, TW g s := by
  obtain ⟨m, b, c, t, w, h1, h2, h3, -⟩ := h
  have : ws m t ≤ 99 * m := ws_le fun e he => by have := h3 e he; omega
  exact ⟨ws m t, m, t, h1, h2, fun e he => ⟨(h3 e he).1, by have := (h3 e he).2.2; omega⟩, rfl, by omega⟩
theorem TW.q {V : St} {g : Nat → Int32} {s : Nat} (h : TW g s) (hS : SR V 1 g) : f_L_account V 4 = some (nI s) := by
  obtain ⟨m, t, h1, h2, h3, rfl, -⟩ := h
  exact q_a4 hS h2 h1 (fun e he => (h3 e he).1)
def TPr (g : Nat → Int32) (net : Nat) (g1 : Nat → Int32) (a : Nat) : Prop := a = nch g1 net ∧ nch g net ≤ nch g1 net ∧ nch g1 net ≤ nch g net + 1
def MPr (g : Nat → Int32) (net : Nat) (g1 : Nat → Int32) : Prop := nch g1 net ≤ nch g net ∧ nch g net ≤ nch g1 net + 1 ∧ ∀ s s1, TW g s → TW g1 s1 → s1 < s
def DP (g : Nat → Int32) (kind net : Nat) (g1 : Nat → Int32) (a : Nat) : Prop := (8 ≤ kind ∧ kind ≤ 12 → TPr g net g1 a) ∧ (13 ≤ kind ∧ kind ≤ 15 → MPr g net g1)
theorem ML'.imp {V : St} {g : Nat → Int32} {c : Nat} {G : Nat → Nat → Int32} {o o2 : Option (Int32 × St)} {P P2 : (Nat → Int32) → Nat → Prop} (h : ML' V g c G o P) (e : o2 = o) (i : ∀ g1 a, GG g1 → P g1 a → P2 g1 a) : ML' V g c G o2 P2 := by
  rw [e]
  rcases h with h | ⟨V1, g1, a, h1, h2, h3, h4⟩
  · exact Or.inl h
  · exact Or.inr ⟨V1, g1, a, h1, h2, h3, i g1 a h2.2.1 h4⟩
section DO
variable {V : St} {g : Nat → Int32} {c : Nat} {G : Nat → Nat → Int32}
theorem DP.no {kind net : Nat} {g1 : Nat → Int32} {a : Nat} (h : ¬ (8 ≤ kind ∧ kind ≤ 15)) : DP g kind net g1 a := ⟨fun q => absurd ⟨q.1, by omega⟩ h, fun q => absurd ⟨by omega, q.2⟩ h⟩
theorem l_knot (hJ : JJ V g c G) (x1 x2 x3 : Int32) : ML' V g c G (f_L_knot V x1 x2 x3) TrP := (mc_knot hJ x1 x2 x3).l
theorem l_tear (hJ : JJ V g c G) {net : Nat} (hn : net < 3) (x2 x3 : Int32) : ML' V g c G (f_L_tear V (nI net) x2 x3) (TPr g net) := by
  refine (mc_tear hJ (nI net) x2 x3).l.imp rfl fun g1 a _ h => ?_
  obtain ⟨n, p, q, n3, p24, q24, e, hr, ht, ha, hg⟩ := h
  have en : net = n := (nI_eq (by omega) (by omega)).mp e
  subst en
  obtain ⟨k1, k2⟩ := nch_tear hJ.2.1 n3 p24 q24 hr ht (g1 := g1) (fun w hw => by rw [hg, pk_un (by omega)])
  exact ⟨ha, k1, k2⟩
theorem l_mend (hJ : JJ V g c G) {net : Nat} (hn : net < 3) (x2 x3 x4 : Int32) : ML' V g c G (f_L_mend V (nI net) x2 x3 x4) (fun g1 _ => MPr g net g1) := by
  refine (mc_mend hJ (nI net) x2 x3 x4).l.imp rfl fun g1 a hG1 h => ?_
  obtain ⟨n, p, q, n3, p24, q24, e, hr, ht, hg, ed, tw, e4, em, htw, t0, t1, t2, t3, t4, t5, t6⟩ := h
  have en : net = n := (nI_eq (by omega) (by omega)).mp e
  subst en
  obtain ⟨k1, k2⟩ := nch_mend hJ.2.1 hG1 n3 p24 q24 hr ht hg
  refine ⟨k1, k2, fun s s1 h1 h2 => ?_⟩
  obtain ⟨m, t, a1, a2, a3, rfl, a5⟩ := h1
  obtain ⟨m1, u, b1, b2, b3, rfl, b5⟩ := h2
  have emm : m1 = m := (nI_eq (by omega) (by omega)).mp (b2.symm.trans (t5.trans a2))
  subst emm
  have em : ed < m1 := by rw [a2, nI_clamp (by omega)] at em; exact em
  obtain ⟨c1, c2⟩ := a3 ed em
  obtain ⟨d1, d2⟩ := b3 ed em
  have x1 : t ed = t0 := (nI_eq (by omega) (by omega)).mp (c1.symm.trans t3)
  have x2 : u ed = t0 - tw := (nI_eq (by omega) (by omega)).mp (d1.symm.trans t4)
  have := ws_upk (w := u) (w2 := t) (k := tw) em (by omega) (fun e he ne => by
    obtain ⟨c1, c2⟩ := a3 e he
    obtain ⟨d1, d2⟩ := b3 e he
    exact (nI_eq (by omega) (by omega)).mp (c1.symm.trans ((t6 e (by omega) ne).symm.trans d1)))
  omega
theorem does_49 (hJ : JJ V g c G) (L : Nat) (xs : Nat → Int32) {kind net p v q : Nat} (hk : kind < 27) (hn : net < 2) (hp : p < 24) (hv : v < 1000) (hq : q < 25) : ML' V g c G (f_L_does_b49 L xs V (nI kind) (nI net) (nI p) (nI v) (nI q)) (DP g kind net) := by
  have ne : ∀ {j : Nat}, j < 27 → kind ≠ j → ¬ nI kind = nI j := fun {j} hj h e => h ((nI_eq (by omega) (by omega)).mp e)
  have kn : ML' V g c G (f_L_does_b164 L xs V (nI net) (nI p) (nI v)) TrP := by
    have k : ∀ y, ML' V g c G (f_L_does_b199 L xs V y (nI p) (nI net)) TrP := fun y => by
      rw [f_L_does_b199, bpp]
      exact l_knot hJ _ _ _
    rw [f_L_does_b164]
    by_cases c1 : nI v - nI v / 9 * 9 = 0
    · rw [if_pos c1]; exact k _
    · rw [if_neg c1]
      by_cases c2 : nI v - nI v / 17 * 17 = 0
      · rw [if_pos c2]; exact k _
      · rw [if_neg c2]; exact k _
  have te := fun x => l_tear hJ (show net < 3 by omega) (nI p) x
  have me := fun x y => l_mend hJ (show net < 3 by omega) x (nI p) y
  have no := fun x => (mc_note hJ (nI net) x).l
  have rd : ML' V g c G (f_L_does_b280 L xs V (nI net) (nI p) (nI v) (nI q)) TrP := by
    rw [f_L_does_b280, txt, nI_clamp (by omega), nI_clamp (by omega), nI_clamp (by omega), nI_clamp (by omega), if_pos ⟨⟨rfl, by omega⟩, ⟨rfl, by omega⟩, ⟨rfl, hv⟩, rfl, by omega⟩, bs]
    have := (txl (p := p) (v := v) (q := q) (show net < 10 by omega)).1
    exact reads_ok (by omega) hJ
  rw [f_L_does_b49]
  by_cases k0 : kind = 0
  · subst k0; rw [if_pos (show nI 0 = (0 : Int32) from rfl)]; exact kn.imp rfl fun _ _ _ _ => DP.no (by omega)
  rw [if_neg (show ¬ nI kind = (0 : Int32) from ne (j := 0) (by decide) k0)]
  by_cases k1 : kind = 1
  · subst k1; rw [if_pos (show nI 1 = (1 : Int32) from rfl)]; exact kn.imp rfl fun _ _ _ _ => DP.no (by omega)
  rw [if_neg (show ¬ nI kind = (1 : Int32) from ne (j := 1) (by decide) k1)]
  by_cases k2 : kind = 2
  · subst k2; rw [if_pos (show nI 2 = (2 : Int32) from rfl)]; exact kn.imp rfl fun _ _ _ _ => DP.no (by omega)
  rw [if_neg (show ¬ nI kind = (2 : Int32) from ne (j := 2) (by decide) k2)]
  by_cases k3 : kind = 3
  · subst k3; rw [if_pos (show nI 3 = (3 : Int32) from rfl)]; exact kn.imp rfl fun _ _ _ _ => DP.no (by omega)
  rw [if_neg (show ¬ nI kind = (3 : Int32) from ne (j := 3) (by decide) k3)]
  by_cases k4 : kind = 4
  · subst k4; rw [if_pos (show nI 4 = (4 : Int32) from rfl)]; exact kn.imp rfl fun _ _ _ _ => DP.no (by omega)
  rw [if_neg (show ¬ nI kind = (4 : Int32) from ne (j := 4) (by decide) k4)]
  by_cases k5 : kind = 5
  · subst k5; rw [if_pos (show nI 5 = (5 : Int32) from rfl)]; exact kn.imp rfl fun _ _ _ _ => DP.no (by omega)
  rw [if_neg (show ¬ nI kind = (5 : Int32) from ne (j := 5) (by decide) k5)]
  by_cases k6 : kind = 6
  · subst k6; rw [if_pos (show nI 6 = (6 : Int32) from rfl)]; exact kn.imp rfl fun _ _ _ _ => DP.no (by omega)
  rw [if_neg (show ¬ nI kind = (6 : Int32) from ne (j := 6) (by decide) k6)]
  by_cases k7 : kind = 7
  · subst k7; rw [if_pos (show nI 7 = (7 : Int32) from rfl)]; exact kn.imp rfl fun _ _ _ _ => DP.no (by omega)
  rw [if_neg (show ¬ nI kind = (7 : Int32) from ne (j := 7) (by decide) k7)]
  by_cases k8 : kind = 8
  · subst k8; rw [if_pos (show nI 8 = (8 : Int32) from rfl)]; exact (te (nI q)).imp (bpp _) fun _ _ _ h => ⟨fun _ => h, fun z => by omega⟩
  rw [if_neg (show ¬ nI kind = (8 : Int32) from ne (j := 8) (by decide) k8)]
  by_cases k9 : kind = 9
  · subst k9; rw [if_pos (show nI 9 = (9 : Int32) from rfl)]; exact (te (nI q)).imp (bpp _) fun _ _ _ h => ⟨fun _ => h, fun z => by omega⟩
  rw [if_neg (show ¬ nI kind = (9 : Int32) from ne (j := 9) (by decide) k9)]
  by_cases k10 : kind = 10
  · subst k10; rw [if_pos (show nI 10 = (10 : Int32) from rfl)]; exact (te (nI q)).imp (bpp _) fun _ _ _ h => ⟨fun _ => h, fun z => by omega⟩
  rw [if_neg (show ¬ nI kind = (10 : Int32) from ne (j := 10) (by decide) k10)]
  by_cases k11 : kind = 11
  · subst k11; rw [if_pos (show nI 11 = (11 : Int32) from rfl)]; exact (te (nI q)).imp (bpp _) fun _ _ _ h => ⟨fun _ => h, fun z => by omega⟩
  rw [if_neg (show ¬ nI kind = (11 : Int32) from ne (j := 11) (by decide) k11)]
  by_cases k12 : kind = 12
  · subst k12; rw [if_pos (show nI 12 = (12 : Int32) from rfl)]; exact (te (nI q)).imp (bpp _) fun _ _ _ h => ⟨fun _ => h, fun z => by omega⟩
  rw [if_neg (show ¬ nI kind = (12 : Int32) from ne (j := 12) (by decide) k12)]
  by_cases k13 : kind = 13
  · subst k13; rw [if_pos (show nI 13 = (13 : Int32) from rfl)]; exact (me (nI q) _).imp (bpp _) fun _ _ _ h => ⟨fun z => by omega, fun _ => h⟩
  rw [if_neg (show ¬ nI kind = (13 : Int32) from ne (j := 13) (by decide) k13)]
  by_cases k14 : kind = 14
  · subst k14; rw [if_pos (show nI 14 = (14 : Int32) from rfl)]; exact (me (nI q) _).imp (bpp _) fun _ _ _ h => ⟨fun z => by omega, fun _ => h⟩
  rw [if_neg (show ¬ nI kind = (14 : Int32) from ne (j := 14) (by decide) k14)]
  by_cases k15 : kind = 15
  · subst k15; rw [if_pos (show nI 15 = (15 : Int32) from rfl)]; exact (me (nI q) _).imp (bpp _) fun _ _ _ h => ⟨fun z => by omega, fun _ => h⟩
  rw [if_neg (show ¬ nI kind = (15 : Int32) from ne (j := 15) (by decide) k15)]
  by_cases k16 : kind = 16
  · subst k16; rw [if_pos (show nI 16 = (16 : Int32) from rfl)]; exact ((mc_editor hJ _).l).imp (bpp _) fun _ _ _ _ => DP.no (by omega)
  rw [if_neg (show ¬ nI kind = (16 : Int32) from ne (j := 16) (by decide) k16)]
  by_cases k17 : kind = 17
  · subst k17; rw [if_pos (show nI 17 = (17 : Int32) from rfl)]; exact ((mc_tide hJ _).l).imp (bpp _) fun _ _ _ _ => DP.no (by omega)
  rw [if_neg (show ¬ nI kind = (17 : Int32) from ne (j := 17) (by decide) k17)]
  by_cases k18 : kind = 18
  · subst k18; rw [if_pos (show nI 18 = (18 : Int32) from rfl)]; exact ((mc_sink hJ _ _).l).imp (bpp _) fun _ _ _ _ => DP.no (by omega)
  rw [if_neg (show ¬ nI kind = (18 : Int32) from ne (j := 18) (by decide) k18)]
  by_cases k19 : kind = 19
  · subst k19; rw [if_pos (show nI 19 = (19 : Int32) from rfl)]; exact (no (nI p)).imp (bpp _) fun _ _ _ _ => DP.no (by omega)
  rw [if_neg (show ¬ nI kind = (19 : Int32) from ne (j := 19) (by decide) k19)]
  by_cases k20 : kind = 20
  · subst k20; rw [if_pos (show nI 20 = (20 : Int32) from rfl)]; exact (no (nI p)).imp (bpp _) fun _ _ _ _ => DP.no (by omega)
  rw [if_neg (show ¬ nI kind = (20 : Int32) from ne (j := 20) (by decide) k20)]
  by_cases k21 : kind = 21
  · subst k21; rw [if_pos (show nI 21 = (21 : Int32) from rfl)]; exact (no (nI p)).imp (bpp _) fun _ _ _ _ => DP.no (by omega)
  rw [if_neg (show ¬ nI kind = (21 : Int32) from ne (j := 21) (by decide) k21)]
  by_cases k22 : kind = 22
  · subst k22; rw [if_pos (show nI 22 = (22 : Int32) from rfl)]; exact (no (nI p)).imp (bpp _) fun _ _ _ _ => DP.no (by omega)
  rw [if_neg (show ¬ nI kind = (22 : Int32) from ne (j := 22) (by decide) k22)]
  by_cases k23 : kind = 23
  · subst k23; rw [if_pos (show nI 23 = (23 : Int32) from rfl)]; exact ((mc_drop hJ _).l).imp (bpp _) fun _ _ _ _ => DP.no (by omega)
  rw [if_neg (show ¬ nI kind = (23 : Int32) from ne (j := 23) (by decide) k23)]
  exact rd.imp rfl fun _ _ _ _ => DP.no (by omega)
theorem does_ok (hJ : JJ V g c G) {L : Nat} (hL : L ≤ 260) (xs : Nat → Int32) {k kind net p : Nat} (hk0 : k < 900) (hk : kind < 27) (hn : net < 2) (hp : p < 24) : ML' V g c G (f_L_does L xs V (nI k) (nI kind) (nI net) (nI p)) (DP g kind net) := by
  obtain ⟨v, v1, v2⟩ := pick_ok hL xs (k := k + 1) (d := 1000) (by omega) (by decide) (by decide)
  have v2 : f_L_pick L xs (nI (k + 1)) 1000 = some (nI v) := v2
  rw [f_L_does, nI_1, v2, bs]
  by_cases c1 : nI v - nI v / 5 * 5 = 0
  · rw [if_pos c1, show nI v - nI v / 25 * 25 = nI (v % 25) from pk_rem (a := v) (d := 25) (by omega) (by decide) (by decide)]
    exact does_49 hJ L xs hk hn hp v1 (Nat.mod_lt _ (by decide))
  · rw [if_neg c1]
    by_cases c2 : nI v - nI v / 2 * 2 = 0
    · rw [if_pos c2, nI_1]
      exact does_49 hJ L xs hk hn hp v1 (by omega)
    · rw [if_neg c2, show nI p + 6 = nI (p + 6) from nI_add p 6, show nI (p + 6) - nI (p + 6) / 24 * 24 = nI ((p + 6) % 24) from pk_rem (a := p + 6) (d := 24) (by omega) (by decide) (by decide)]
      exact does_49 hJ L xs hk hn hp v1 (by omega)
end DO
