/-! chapters against strings: one string more or less, and a chapter's strings -/
theorem jn_all {A : PS} (hA : ∀ p, 24 ≤ p → A p = false) {s : Nat} {P : PS} (hP : ∀ x, P x = true → A x = true ∧ A (x + s) = true) : ∀ (n : Nat) (V : St) (E : Nat → Nat → Prop), LB V E → ∃ V1, LB V1 (fun x y => E x y ∨ (x < n ∧ P x = true ∧ y = x + s)) ∧ lp V A ≤ lp V1 A + fb_ct P n ∧ lp V1 A ≤ lp V A
  | 0, V, E, h => ⟨V, h.iff fun a b => ⟨Or.inl, fun z => z.elim id (fun z => absurd z.1 (Nat.not_lt_zero _))⟩, by unfold fb_ct; omega, Nat.le_refl _⟩
  | n + 1, V, E, h => by
    obtain ⟨V1, g1, g2, g3⟩ := jn_all hA hP n V E h
    rw [fb_ct_succ]
    cases e : P n
    · refine ⟨V1, g1.iff fun a b => ?_, by simpa using g2, g3⟩
      constructor
      · rintro (z | ⟨z1, z2⟩)
        · exact Or.inl z
        · exact Or.inr ⟨by omega, z2⟩
      · rintro (z | ⟨z1, z2, z3⟩)
        · exact Or.inl z
        · refine Or.inr ⟨?_, z2, z3⟩
          by_cases q : a = n
          · rw [q, e] at z2
            cases z2
          · omega
    · obtain ⟨h1, h2⟩ := hP n e
      have l1 : n < 24 := Nat.lt_of_not_le fun q => by rw [hA n q] at h1; cases h1
      have l2 : n + s < 24 := Nat.lt_of_not_le fun q => by rw [hA _ q] at h2; cases h2
      obtain ⟨j, V2, -, -, k1, k2⟩ := join_LB (F := fun x y => (E x y ∨ (x < n ∧ P x = true ∧ y = x + s)) ∨ (x = n ∧ y = n + s)) l1 l2 h1 h2 hA g1 (fun x y => Iff.rfl)
      refine ⟨V2, k1.iff fun a b => ?_, ?_, ?_⟩
      · constructor
        · rintro ((z | ⟨z1, z2⟩) | ⟨rfl, rfl⟩)
          · exact Or.inl z
          · exact Or.inr ⟨by omega, z2⟩
          · exact Or.inr ⟨by omega, e, rfl⟩
        · rintro (z | ⟨z1, z2, z3⟩)
          · exact Or.inl (Or.inl z)
          · by_cases q : a = n
            · subst q
              exact Or.inr ⟨rfl, z3⟩
            · exact Or.inl (Or.inr ⟨by omega, z2, z3⟩)
      · simp only [if_true]
        split at k2 <;> omega
      · split at k2 <;> omega
def eg (A : Int32) (X : PS) (s : Nat) : PS := fun x => bt A x && bt A (x + s) && X x
theorem eg_t {A : Int32} {X : PS} {s x : Nat} : eg A X s x = true ↔ bt A x = true ∧ bt A (x + s) = true ∧ X x = true := by
  unfold eg
  rw [Bool.and_eq_true, Bool.and_eq_true, and_assoc]
theorem eg_Ed {A : Int32} (hA : I24 A) {X : PS} {s : Nat} (x y : Nat) : (x < 24 ∧ eg A X s x = true ∧ y = x + s) ↔ Ed A X s x y := by
  rw [eg_t]
  unfold Ed
  exact ⟨fun h => ⟨h.2.1.1, h.2.1.2.1, h.2.1.2.2, h.2.2⟩, fun h => ⟨hA.lt h.1, ⟨h.1, h.2.1, h.2.2.1⟩, h.2.2.2⟩⟩
theorem LB_ex {A : Int32} (hA : I24 A) (R D : PS) : ∃ V, LB V (fun x y => Ed A R 1 x y ∨ Ed A D 6 x y) ∧ fb_ct (bt A) 24 ≤ lp V (bt A) + fb_ct (eg A R 1) 24 + fb_ct (eg A D 6) 24 := by
  obtain ⟨V0, -, -, a1, a2⟩ := sep_eq (fun _ _ => 0) (A := bt A)
  obtain ⟨V1, b1, b2, -⟩ := jn_all (A := bt A) hA (s := 1) (P := eg A R 1) (fun x hx => ⟨(eg_t.mp hx).1, (eg_t.mp hx).2.1⟩) 24 V0 _ a1
  obtain ⟨V2, c1, c2, -⟩ := jn_all (A := bt A) hA (s := 6) (P := eg A D 6) (fun x hx => ⟨(eg_t.mp hx).1, (eg_t.mp hx).2.1⟩) 24 V1 _ b1
  refine ⟨V2, c1.iff fun x y => ?_, by omega⟩
  rw [eg_Ed hA, eg_Ed hA]
  exact ⟨fun h => h.elim (fun h => h.elim False.elim Or.inl) Or.inr, fun h => h.elim (fun h => Or.inl (Or.inr h)) Or.inr⟩
theorem pt_edges {A : Int32} (hA : I24 A) (R D : PS) : nb A ≤ pt (con (bt A) R D) (bt A) + fb_ct (eg A R 1) 24 + fb_ct (eg A D 6) 24 := by
  obtain ⟨V, h1, h2⟩ := LB_ex hA R D
  rw [lp_con hA h1 (fun x y => Iff.rfl)] at h2
  exact h2
/-- one string more: as many parts, or one fewer -/
theorem pt_edge {A : Int32} (hA : I24 A) {R D R2 D2 : PS} {z s : Nat} (hF : ∀ x y, (Ed A R 1 x y ∨ Ed A D 6 x y) ↔ (Ed A R2 1 x y ∨ Ed A D2 6 x y) ∨ (x = z ∧ y = z + s ∧ bt A z = true ∧ bt A (z + s) = true)) : pt (con (bt A) R D) (bt A) ≤ pt (con (bt A) R2 D2) (bt A) ∧ pt (con (bt A) R2 D2) (bt A) ≤ pt (con (bt A) R D) (bt A) + 1 := by
  obtain ⟨V, h1, -⟩ := LB_ex hA R2 D2
  have e2 := lp_con hA h1 (fun x y => Iff.rfl)
  by_cases c : bt A z = true ∧ bt A (z + s) = true
  · obtain ⟨j, V1, -, -, k1, k2⟩ := join_LB (F := fun x y => (Ed A R2 1 x y ∨ Ed A D2 6 x y) ∨ (x = z ∧ y = z + s)) (hA.lt c.1) (hA.lt c.2) c.1 c.2 hA h1 (fun x y => Iff.rfl)
    have e1 := lp_con hA (k1.iff (F := fun x y => Ed A R 1 x y ∨ Ed A D 6 x y) fun x y => by
      rw [hF]
      exact ⟨fun h => h.imp id (fun h => ⟨h.1, h.2, c.1, c.2⟩), fun h => h.imp id (fun h => ⟨h.1, h.2.1⟩)⟩) (fun x y => Iff.rfl)
    rw [e1, e2] at k2
    split at k2 <;> omega
  · have e1 := lp_con hA (h1.iff (F := fun x y => Ed A R 1 x y ∨ Ed A D 6 x y) fun x y => by
      rw [hF]
      exact ⟨Or.inl, fun h => h.elim id (fun h => absurd ⟨h.2.2.1, h.2.2.2⟩ c)⟩) (fun x y => Iff.rfl)
    rw [e2] at e1
    omega
/-- a set that hangs together in itself is one part -/
theorem pt_one {S : Int32} (h1 : I24 S) (h2 : ¬ S = 0) {R D : PS} (h3 : ∀ p q, bt S p = true → bt S q = true → con (bt S) R D p q) : pt (con (bt S) R D) (bt S) = 1 := by
  obtain ⟨p, hp⟩ := isLow.ex h1 h2
  have := ct_one (f := fo (con (bt S) R D) (bt S)) (g := fun _ => false) hp.1 (dP_t.mpr ⟨hp.2.1, fun q hq hA => by rw [hp.2.2 q hq] at hA; cases hA⟩) rfl (fun i hi hne => dP_f.mpr (by
    rintro ⟨a, b⟩
    rcases Nat.lt_or_ge p i with c | c
    · exact b p c hp.2.1 (h3 p i hp.2.1 a)
    · rw [hp.2.2 i (by omega)] at a
      cases a))
  rw [show fb_ct (fun _ => false) 24 = 0 from by decide +kernel] at this
  exact this
theorem comp_in {A R D : Int32} {p : Nat} {C : Int32} (hA : I24 A) (hp : bt A p = true) (h : Cmp (bt A) (bt R) (bt D) p C) : I24 C ∧ ¬ C = 0 ∧ ∀ a b, bt C a = true → bt C b = true → con (bt C) (bt R) (bt D) a b := by
  have hC := ch_I24 hA hp h
  have hp24 := hA.lt hp
  have hCp : bt C p = true := (h p (by omega)).mpr (con.rf p)
  have key : ∀ q, bt C q = true → con (bt C) (bt R) (bt D) p q := by
    intro q hq
    have hq24 := hC.lt hq
    have c := (h q (by omega)).mp hq
    refine (c (fun r => con (bt A) (bt R) (bt D) p r ∧ con (bt C) (bt R) (bt D) p r) ⟨con.rf p, con.rf p⟩ ?_).2
    rintro a b ⟨h1, h2⟩ hb e
    have hb24 := hA.lt hb
    have h3 := h1.st hb e
    exact ⟨h3, h2.st ((h b (by omega)).mpr h3) e⟩
  exact ⟨hC, (fun e => by rw [e, b_0] at hCp; cases hCp), fun a b ha hb => ((key a ha).sy hCp).tr (key b hb)⟩
theorem nb_eg {S X : Int32} (hS : I24 S) {s : Nat} (hs : s < 32) : nb ((S &&& (S >>> (nI s &&& 31))) &&& X) = fb_ct (eg S (bt X) s) 24 := by
  refine fb_ct_cong fun l _ => ?_
  cases e : eg S (bt X) s l
  · cases e2 : bt ((S &&& (S >>> (nI s &&& 31))) &&& X) l
    · rfl
    · rw [eg_t.mpr ((wi_bt hS hs l).mp e2)] at e
      cases e
  · exact (wi_bt hS hs l).mpr (eg_t.mp e)
/-- a chapter's whole strings are at least its knots less one -/
theorem cwh {V : St} {k : Nat} {A : Int32} {p : Nat} {C : Int32} (hA : I24 A) (hp : bt A p = true) (h : Cmp (bt A) (bt (nR V k)) (bt (nD V k)) p C) : ∃ e, f_X3_countWholeWithin V k C = some (nI e) ∧ nb C ≤ e + 1 ∧ e ≤ 48 := by
  obtain ⟨h1, h2, h3⟩ := comp_in hA hp h
  have e1 := pt_edges h1 (bt (nR V k)) (bt (nD V k))
  rw [pt_one h1 h2 h3] at e1
  have i1 : I24 ((C &&& (C >>> (nI 1 &&& 31))) &&& nR V k) := (h1.andl).andl
  have i6 : I24 ((C &&& (C >>> (nI 6 &&& 31))) &&& nD V k) := (h1.andl).andl
  refine ⟨nb ((C &&& (C >>> (nI 1 &&& 31))) &&& nR V k) + nb ((C &&& (C >>> (nI 6 &&& 31))) &&& nD V k), ?_, ?_, ?_⟩
  · rw [f_X3_countWholeWithin, whA, bs, show (1 : Int32) = nI 1 from rfl, wi_eq, bs, bc24 i1, bs, whD, bs, show (6 : Int32) = nI 6 from rfl, wi_eq, bs, bc24 i6, bs, nI_add]
  · rw [nb_eg h1 (by decide), nb_eg h1 (by decide)]
    omega
  · have := nb_le ((C &&& (C >>> (nI 1 &&& 31))) &&& nR V k)
    have := nb_le ((C &&& (C >>> (nI 6 &&& 31))) &&& nD V k)
    omega
/-- the whole strings, when one is torn -/
theorem nch_cg {g g2 : Nat → Int32} {n : Nat} (h : ∀ w, w < 4 → g2 (6 + 5 * n + w) = g (6 + 5 * n + w)) : nch g2 n = nch g n := by
  have h0 : g2 (6 + 5 * n) = g (6 + 5 * n) := h 0 (by decide)
  unfold nch kA kR kD
  rw [h0, h 1 (by decide), h 2 (by decide), h 3 (by decide)]
theorem wh_wi {M T : Int32} (hM : I24 M) {z : Nat} (hz : z < 24) (hMz : bt M z = true) (hTz : bt T z = false) (x : Nat) : bt (M &&& (T ^^^ (-1))) x = true ↔ bt (M &&& (wi T (nI z) true ^^^ (-1))) x = true ∨ x = z := by
  by_cases hx : x < 32
  · rw [b_minus M T hx, b_minus M _ hx, b_wi T hz true hx]
    by_cases e : x = z
    · subst e
      rw [hMz, hTz]
      simp
    · rw [if_neg e]
      constructor
      · exact Or.inl
      · rintro (h | h)
        · exact h
        · exact absurd h e
  · rw [b_big (by omega), b_big (by omega)]
    constructor
    · intro h
      cases h
    · rintro (h | h)
      · cases h
      · omega
theorem nch_tear {g : Nat → Int32} (hG : GG g) {n p q : Nat} (hn : n < 3) (hp : p < 24) (hq : q < 24) (h : rw2 p q ≠ 0) (ht : tnB g n p q = false) {g1 : Nat → Int32} (hg1 : ∀ w, w < 4 → g1 (6 + 5 * n + w) = upd g (6 + 5 * n + rw2 p q) (wi (g (6 + 5 * n + rw2 p q)) (nI (min p q)) true) (6 + 5 * n + w)) : nch g n ≤ nch g1 n ∧ nch g1 n ≤ nch g n + 1 := by
  rw [nch_cg (g := upd g (6 + 5 * n + rw2 p q) (wi (g (6 + 5 * n + rw2 p q)) (nI (min p q)) true)) hg1]
  have hm := min_lt (q := q) hp
  unfold tnB at ht
  obtain ⟨-, -, -, -, -, -, h7⟩ := (st_fin ⟨p, hp⟩ ⟨q, hq⟩).2 h
  obtain ⟨z, hz⟩ : ∃ z, z = min p q := ⟨_, rfl⟩
  have hA := hG.k24 hn
  rcases h7 with ⟨h8, h9⟩ | ⟨h8, h9⟩
  · have h8 : rw2 p q = 2 := h8
    have h9 : bt RT (min p q) = true := h9
    rw [h8] at ht ⊢
    rw [← hz] at h9 ht hm ⊢
    have k1 : kA (upd g (6 + 5 * n + 2) (wi (g (6 + 5 * n + 2)) (nI z) true)) n = kA g n := by unfold kA; rw [pk_un (by omega), pk_un (by omega)]
    have k2 : kD (upd g (6 + 5 * n + 2) (wi (g (6 + 5 * n + 2)) (nI z) true)) n = kD g n := by unfold kD; rw [pk_un (by omega)]
    have k3 : kR (upd g (6 + 5 * n + 2) (wi (g (6 + 5 * n + 2)) (nI z) true)) n = RT &&& (wi (g (6 + 5 * n + 2)) (nI z) true ^^^ (-1)) := by unfold kR; rw [pk_us]; rfl
    unfold nch
    rw [k1, k2, k3]
    refine pt_edge hA (z := z) (s := 1) fun x y => ?_
    have e1 := wh_wi RT_24 hm h9 ht x
    have e2 : bt (kR g n) x = true ↔ _ := e1
    unfold Ed
    rw [e2]
    constructor
    · rintro (⟨a1, a2, a3 | a3, a4⟩ | a)
      · exact Or.inl (Or.inl ⟨a1, a2, a3, a4⟩)
      · subst a3
        exact Or.inr ⟨rfl, a4, a1, a2⟩
      · exact Or.inl (Or.inr a)
    · rintro ((⟨a1, a2, a3, a4⟩ | a) | ⟨rfl, a2, a3, a4⟩)
      · exact Or.inl ⟨a1, a2, Or.inl a3, a4⟩
      · exact Or.inr a
      · exact Or.inl ⟨a3, a4, Or.inr rfl, a2⟩
  · have h8 : rw2 p q = 3 := h8
    have h9 : bt DN (min p q) = true := h9
    rw [h8] at ht ⊢
    rw [← hz] at h9 ht hm ⊢
    have k1 : kA (upd g (6 + 5 * n + 3) (wi (g (6 + 5 * n + 3)) (nI z) true)) n = kA g n := by unfold kA; rw [pk_un (by omega), pk_un (by omega)]
    have k2 : kR (upd g (6 + 5 * n + 3) (wi (g (6 + 5 * n + 3)) (nI z) true)) n = kR g n := by unfold kR; rw [pk_un (by omega)]
    have k3 : kD (upd g (6 + 5 * n + 3) (wi (g (6 + 5 * n + 3)) (nI z) true)) n = DN &&& (wi (g (6 + 5 * n + 3)) (nI z) true ^^^ (-1)) := by unfold kD; rw [pk_us]; rfl
    unfold nch
    rw [k1, k2, k3]
    refine pt_edge hA (z := z) (s := 6) fun x y => ?_
    have e1 := wh_wi DN_24 hm h9 ht x
    have e2 : bt (kD g n) x = true ↔ _ := e1
    unfold Ed
    rw [e2]
    constructor
    · rintro (a | ⟨a1, a2, a3 | a3, a4⟩)
      · exact Or.inl (Or.inl a)
      · exact Or.inl (Or.inr ⟨a1, a2, a3, a4⟩)
      · subst a3
        exact Or.inr ⟨rfl, a4, a1, a2⟩
    · rintro ((a | ⟨a1, a2, a3, a4⟩) | ⟨rfl, a2, a3, a4⟩)
      · exact Or.inl a
      · exact Or.inr ⟨a1, a2, Or.inl a3, a4⟩
      · exact Or.inr ⟨a3, a4, Or.inr rfl, a2⟩
/-- mended, torn again: the same -/
theorem wi_back {T : Int32} {z : Nat} (hz : z < 24) (hT : I24 T) (h : bt T z = true) : wi (wi T (nI z) false) (nI z) true = T := by
  refine b_ext fun i hi => ?_
  rw [b_wi _ hz true hi, b_wi T hz false hi]
  by_cases e : i = z
  · rw [if_pos e, e, h]
  · rw [if_neg e, if_neg e]
theorem nch_mend {g g1 : Nat → Int32} (hG : GG g) (hG1 : GG g1) {n p q : Nat} (hn : n < 3) (hp : p < 24) (hq : q < 24) (h : rw2 p q ≠ 0) (ht : tnB g n p q = true) (hg1 : ∀ i, 6 ≤ i → i < 21 → g1 i = upd g (6 + 5 * n + rw2 p q) (wi (g (6 + 5 * n + rw2 p q)) (nI (min p q)) false) i) : nch g1 n ≤ nch g n ∧ nch g n ≤ nch g1 n + 1 := by
  have hm := min_lt (q := q) hp
  have hr : rw2 p q < 4 := by rcases row_cs h with e | e <;> omega
  have e1 : g1 (6 + 5 * n + rw2 p q) = wi (g (6 + 5 * n + rw2 p q)) (nI (min p q)) false := by rw [hg1 _ (by omega) (by omega), pk_us]
  have hT : I24 (g (6 + 5 * n + rw2 p q)) := by
    have h1 := hG.t24 hn
    rcases row_cs h with e | e
    · rw [e]; exact h1.1
    · rw [e]; exact h1.2
  unfold tnB at ht
  refine nch_tear hG1 hn hp hq h ?_ fun w hw => ?_
  · unfold tnB
    rw [e1, b_wi _ hm false (by omega), if_pos rfl]
  · rw [e1, wi_back hm hT ht]
    by_cases q : 6 + 5 * n + w = 6 + 5 * n + rw2 p q
    · rw [q, pk_us]
    · rw [pk_un q, hg1 _ (by omega) (by omega), pk_un q]
