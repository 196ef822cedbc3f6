/-! the places of a net in parts -/
def ec (E : Nat → Nat → Prop) (p q : Nat) : Prop := ∀ T : Nat → Prop, T p → (∀ a b, E a b ∨ E b a → T a → T b) → T q
theorem ec.rf {E : Nat → Nat → Prop} (p : Nat) : ec E p p := fun _ h _ => h
theorem ec.tr {E : Nat → Nat → Prop} {p q r : Nat} (h1 : ec E p q) (h2 : ec E q r) : ec E p r := fun T hp hc => h2 T (h1 T hp hc) hc
theorem ec.st {E : Nat → Nat → Prop} {a b : Nat} (h : E a b ∨ E b a) : ec E a b := fun _ hp hc => hc a b h hp
theorem ec.sy {E : Nat → Nat → Prop} {p q : Nat} (h : ec E p q) : ec E q p := h (fun r => ec E r p) (ec.rf p) (fun a b e ha => (ec.st (Or.comm.mp e)).tr ha)
theorem ec.mono {E F : Nat → Nat → Prop} {p q : Nat} (h : ec E p q) (hm : ∀ a b, E a b → F a b) : ec F p q := fun T hp hc => h T hp (fun a b e ha => hc a b (e.imp (hm a b) (hm b a)) ha)
theorem ec.iff {E F : Nat → Nat → Prop} {p q : Nat} (hm : ∀ a b, E a b ↔ F a b) : ec E p q ↔ ec F p q := ⟨fun h => h.mono fun a b => (hm a b).mp, fun h => h.mono fun a b => (hm a b).mpr⟩
theorem ec_add {E F : Nat → Nat → Prop} {a b : Nat} (hF : ∀ x y, F x y ↔ E x y ∨ (x = a ∧ y = b)) {p q : Nat} : ec F p q ↔ ec E p q ∨ (ec E p a ∧ ec E b q) ∨ (ec E p b ∧ ec E a q) := by
  have hm : ∀ x y, E x y → F x y := fun x y h => (hF x y).mpr (Or.inl h)
  have hab : ec F a b := ec.st (Or.inl ((hF a b).mpr (Or.inr ⟨rfl, rfl⟩)))
  constructor
  · intro h
    refine h (fun r => ec E p r ∨ (ec E p a ∧ ec E b r) ∨ (ec E p b ∧ ec E a r)) (Or.inl (ec.rf p)) ?_
    intro x y e hx
    have key : (E x y ∨ E y x) ∨ (x = a ∧ y = b) ∨ (y = a ∧ x = b) := by
      rcases e with e | e
      · rcases (hF x y).mp e with e | e
        · exact Or.inl (Or.inl e)
        · exact Or.inr (Or.inl e)
      · rcases (hF y x).mp e with e | e
        · exact Or.inl (Or.inr e)
        · exact Or.inr (Or.inr e)
    rcases key with e | ⟨e1, e2⟩ | ⟨e1, e2⟩
    · have s : ec E x y := ec.st e
      rcases hx with h1 | ⟨h1, h2⟩ | ⟨h1, h2⟩
      · exact Or.inl (h1.tr s)
      · exact Or.inr (Or.inl ⟨h1, h2.tr s⟩)
      · exact Or.inr (Or.inr ⟨h1, h2.tr s⟩)
    · subst e1 e2
      rcases hx with h1 | ⟨h1, h2⟩ | ⟨h1, h2⟩
      · exact Or.inr (Or.inl ⟨h1, ec.rf _⟩)
      · exact Or.inr (Or.inl ⟨h1, ec.rf _⟩)
      · exact Or.inl h1
    · subst e1 e2
      rcases hx with h1 | ⟨h1, h2⟩ | ⟨h1, h2⟩
      · exact Or.inr (Or.inr ⟨h1, ec.rf _⟩)
      · exact Or.inl h1
      · exact Or.inr (Or.inr ⟨h1, ec.rf _⟩)
  · rintro (h | ⟨h1, h2⟩ | ⟨h1, h2⟩)
    · exact h.mono hm
    · exact ((h1.mono hm).tr hab).tr (h2.mono hm)
    · exact ((h1.mono hm).tr hab.sy).tr (h2.mono hm)
def LB (V : St) (E : Nat → Nat → Prop) : Prop := ∀ p q, p < 24 → q < 24 → (V 191 p = V 191 q ↔ ec E p q)
theorem LB.iff {V : St} {E F : Nat → Nat → Prop} (h : LB V E) (hm : ∀ a b, E a b ↔ F a b) : LB V F := fun p q hp hq => (h p q hp hq).trans (ec.iff hm)
def F191 (V V1 : St) : Prop := ∀ k, k ≠ 191 → V1 k = V k
theorem F191.rf (V : St) : F191 V V := fun _ _ => rfl
theorem F191.tr {V V1 V2 : St} (h : F191 V V1) (h2 : F191 V1 V2) : F191 V V2 := fun k hk => (h2 k hk).trans (h k hk)
theorem F191.up {V : St} {j : Nat} {x : Int32} : F191 V (up V 191 j x) := fun _ hk => up_at hk
theorem jn_loop {a b : Int32} : ∀ (n p : Nat) (V : St), p ≤ 24 → 24 < n + p → ∃ V1, f_X5_join_b49 n V a b (nI p) = some (1, V1) ∧ F191 V V1 ∧ ∀ q, q < 24 → V1 191 q = if p ≤ q ∧ V 191 q = b then a else V 191 q
  | 0, p, V, h1, h2 => by omega
  | n + 1, p, V, h1, h2 => by
    rw [f_X5_join_b49]
    by_cases h : p = 24
    · subst h
      rw [if_pos (show (24 : Int32) ≤ nI 24 by decide)]
      exact ⟨V, rfl, F191.rf V, fun q hq => (if_neg (by omega)).symm⟩
    · rw [if_neg (show ¬ (24 : Int32) ≤ nI p from nI_ge (b := 24) (by omega) (by decide)), ix_nI (n := 24) (by omega) (by decide), bs]
      by_cases e : V 191 p = b
      · rw [if_pos e, bs]
        obtain ⟨V1, g1, g2, g3⟩ := jn_loop (a := a) (b := b) n (p + 1) (up V 191 p a) (by omega) (by omega)
        refine ⟨V1, ?_, F191.up.tr g2, fun q hq => ?_⟩
        · show f_X5_join_b49 n (up V 191 p a) a b (nI p + 1) = _
          rw [nI_1]
          exact g1
        · rw [g3 q hq, up_me]
          by_cases c : q = p
          · subst c
            rw [pk_us, if_neg (by omega), if_pos ⟨Nat.le_refl _, e⟩]
          · rw [pk_un c]
            by_cases d : p ≤ q
            · by_cases d2 : V 191 q = b
              · rw [if_pos ⟨by omega, d2⟩, if_pos ⟨d, d2⟩]
              · rw [if_neg (fun h => d2 h.2), if_neg (fun h => d2 h.2)]
            · rw [if_neg (by omega), if_neg (by omega)]
      · rw [if_neg e]
        obtain ⟨V1, g1, g2, g3⟩ := jn_loop (a := a) (b := b) n (p + 1) V (by omega) (by omega)
        refine ⟨V1, ?_, g2, fun q hq => ?_⟩
        · show f_X5_join_b49 n V a b (nI p + 1) = _
          rw [nI_1]
          exact g1
        · rw [g3 q hq]
          by_cases c : q = p
          · subst c
            rw [if_neg (by omega), if_neg (fun h => e h.2)]
          · by_cases d : p ≤ q
            · by_cases d2 : V 191 q = b
              · rw [if_pos ⟨by omega, d2⟩, if_pos ⟨d, d2⟩]
              · rw [if_neg (fun h => d2 h.2), if_neg (fun h => d2 h.2)]
            · rw [if_neg (by omega), if_neg (by omega)]
theorem isPl {p : Nat} (hp : p < 24) : f_X9_isPlace (nI p) = some 1 := by
  have : ∀ p : Fin 24, f_X9_isPlace (nI p.val) = some 1 := by decide +kernel
  exact this ⟨p, hp⟩
theorem join_eq {V : St} {a b : Nat} (ha : a < 24) (hb : b < 24) : (V 191 a = V 191 b ∧ f_X5_join V (nI a) (nI b) = some (0, V)) ∨ (V 191 a ≠ V 191 b ∧ ∃ V1, f_X5_join V (nI a) (nI b) = some (1, V1) ∧ F191 V V1 ∧ ∀ q, q < 24 → V1 191 q = if V 191 q = V 191 b then V 191 a else V 191 q) := by
  rw [f_X5_join, isPl ha, bs, if_neg (by decide), isPl hb, bs, if_neg (by decide), ix_nI ha (by decide), bs, ix_nI hb (by decide), bs]
  by_cases e : V 191 a = V 191 b
  · rw [if_pos e]
    exact Or.inl ⟨e, rfl⟩
  · rw [if_neg e, bs, bs]
    obtain ⟨V1, g1, g2, g3⟩ := jn_loop (a := V 191 a) (b := V 191 b) 500 0 V (by omega) (by omega)
    refine Or.inr ⟨e, V1, g1, g2, fun q hq => ?_⟩
    rw [g3 q hq]
    by_cases d : V 191 q = V 191 b
    · rw [if_pos ⟨Nat.zero_le _, d⟩, if_pos d]
    · rw [if_neg (fun h => d h.2), if_neg d]
noncomputable def lp (V : St) (A : PS) : Nat := pt (fun q p => V 191 q = V 191 p) A
theorem join_LB {V : St} {E F : Nat → Nat → Prop} {A : PS} {a b : Nat} (ha : a < 24) (hb : b < 24) (hAa : A a = true) (hAb : A b = true) (hA : ∀ p, 24 ≤ p → A p = false) (h : LB V E) (hF : ∀ x y, F x y ↔ E x y ∨ (x = a ∧ y = b)) : ∃ j V1, f_X5_join V (nI a) (nI b) = some (bI j, V1) ∧ F191 V V1 ∧ LB V1 F ∧ lp V A = lp V1 A + (if j = true then 1 else 0) := by
  rcases join_eq (V := V) ha hb with ⟨e, h1⟩ | ⟨e, V1, h1, h2, h3⟩
  · refine ⟨false, V, h1, F191.rf V, fun p q hp hq => ?_, rfl⟩
    have k := (h a b ha hb).mp e
    rw [h p q hp hq, ec_add hF]
    constructor
    · exact Or.inl
    · rintro (x | ⟨x, y⟩ | ⟨x, y⟩)
      · exact x
      · exact (x.tr k).tr y
      · exact (x.tr k.sy).tr y
  · refine ⟨true, V1, h1, h2, fun p q hp hq => ?_, ?_⟩
    · have hpq := h p q hp hq
      have hpa := h p a hp ha
      have hpb := h p b hp hb
      have hqa := h a q ha hq
      have hqb := h b q hb hq
      rw [ec_add hF, ← hpq, ← hpa, ← hpb, ← hqa, ← hqb, h3 p hp, h3 q hq]
      by_cases c1 : V 191 p = V 191 b <;> by_cases c2 : V 191 q = V 191 b
      · rw [if_pos c1, if_pos c2]
        exact ⟨fun _ => Or.inl (c1.trans c2.symm), fun _ => rfl⟩
      · rw [if_pos c1, if_neg c2]
        constructor
        · intro x
          exact Or.inr (Or.inr ⟨c1, x⟩)
        · rintro (x | ⟨x, y⟩ | ⟨x, y⟩)
          · exact absurd (x.symm.trans c1) c2
          · exact absurd y.symm c2
          · exact y
      · rw [if_neg c1, if_pos c2]
        constructor
        · intro x
          exact Or.inr (Or.inl ⟨x, c2.symm⟩)
        · rintro (x | ⟨x, y⟩ | ⟨x, y⟩)
          · exact absurd (x.trans c2) c1
          · exact x
          · exact absurd x c1
      · rw [if_neg c1, if_neg c2]
        constructor
        · exact Or.inl
        · rintro (x | ⟨x, y⟩ | ⟨x, y⟩)
          · exact x
          · exact absurd y.symm c2
          · exact absurd x c1
    · have := pt_join (lab := V 191) (lab2 := V1 191) ha hb hAa hAb e h3 hA
      simpa [lp] using this
theorem ja_loop {X : Int32} {s : Nat} (hs : s < 30) {A : PS} (hA : ∀ p, 24 ≤ p → A p = false) (hX : ∀ l, bt X l = true → A l = true ∧ A (l + s) = true) : ∀ (n p c : Nat) (V : St) (E F : Nat → Nat → Prop), LB V E → (∀ x y, F x y ↔ E x y ∨ (p ≤ x ∧ bt X x = true ∧ y = x + s)) → p ≤ 24 → 24 < n + p → ∃ j V1, f_X5_joinAll_b5 n V X (nI s) (nI c) (nI p) = some (nI (c + j), V1) ∧ F191 V V1 ∧ LB V1 F ∧ lp V A = lp V1 A + j
  | 0, p, c, V, E, F, h, hF, h1, h2 => by omega
  | n + 1, p, c, V, E, F, h, hF, h1, h2 => by
    have lt : ∀ l, A l = true → l < 24 := fun l hl => by
      rcases Nat.lt_or_ge l 24 with q | q
      · exact q
      · rw [hA l q] at hl
        cases hl
    rw [f_X5_joinAll_b5]
    by_cases e : p = 24
    · subst e
      rw [if_pos (show (24 : Int32) ≤ nI 24 by decide)]
      refine ⟨0, V, rfl, F191.rf V, h.iff fun a b => ?_, rfl⟩
      rw [hF]
      constructor
      · exact Or.inl
      · rintro (x | ⟨x, y, -⟩)
        · exact x
        · have := lt _ (hX _ y).1
          omega
    · rw [if_neg (show ¬ (24 : Int32) ≤ nI p from nI_ge (b := 24) (by omega) (by decide)), isIn_eq X (by omega), bs]
      cases b : bt X p
      · rw [if_pos (show bI false = 0 by decide)]
        show ∃ j V1, f_X5_joinAll_b5 n V X (nI s) (nI c) (nI p + 1) = _ ∧ _
        rw [nI_1]
        refine ja_loop hs hA hX n (p + 1) c V E F h (fun x y => ?_) (by omega) (by omega)
        rw [hF]
        constructor
        · rintro (z | ⟨z1, z2, z3⟩)
          · exact Or.inl z
          · have : x ≠ p := fun q => by rw [q, b] at z2; cases z2
            exact Or.inr ⟨by omega, z2, z3⟩
        · rintro (z | ⟨z1, z2, z3⟩)
          · exact Or.inl z
          · exact Or.inr ⟨by omega, z2, z3⟩
      · rw [if_neg (show ¬ bI true = 0 by decide), nI_add]
        obtain ⟨a1, a2⟩ := hX p b
        obtain ⟨j, V1, g1, g2, g3, g4⟩ := join_LB (F := fun x y => E x y ∨ (x = p ∧ y = p + s)) (lt _ a1) (lt _ a2) a1 a2 hA h (fun x y => Iff.rfl)
        rw [g1, bs]
        have hF2 : ∀ x y, F x y ↔ (E x y ∨ (x = p ∧ y = p + s)) ∨ (p + 1 ≤ x ∧ bt X x = true ∧ y = x + s) := by
          intro x y
          rw [hF]
          constructor
          · rintro (z | ⟨z1, z2, z3⟩)
            · exact Or.inl (Or.inl z)
            · by_cases q : x = p
              · exact Or.inl (Or.inr ⟨q, by rw [z3, q]⟩)
              · exact Or.inr ⟨by omega, z2, z3⟩
          · rintro ((z | ⟨z1, z2⟩) | ⟨z1, z2, z3⟩)
            · exact Or.inl z
            · exact Or.inr ⟨by omega, by rw [z1]; exact b, by rw [z1]; exact z2⟩
            · exact Or.inr ⟨by omega, z2, z3⟩
        cases j
        · rw [if_pos (show bI false = 0 by decide)]
          show ∃ j V2, f_X5_joinAll_b5 n V1 X (nI s) (nI c) (nI p + 1) = _ ∧ _
          rw [nI_1]
          obtain ⟨j, V2, k1, k2, k3, k4⟩ := ja_loop hs hA hX n (p + 1) c V1 _ F g3 hF2 (by omega) (by omega)
          exact ⟨j, V2, k1, g2.tr k2, k3, by simp at g4; omega⟩
        · rw [if_neg (show ¬ bI true = 0 by decide)]
          show ∃ j V2, f_X5_joinAll_b5 n V1 X (nI s) (nI c + 1) (nI p + 1) = _ ∧ _
          rw [nI_1, nI_1]
          obtain ⟨j, V2, k1, k2, k3, k4⟩ := ja_loop hs hA hX n (p + 1) (c + 1) V1 _ F g3 hF2 (by omega) (by omega)
          refine ⟨j + 1, V2, ?_, g2.tr k2, k3, by simp at g4; omega⟩
          rw [k1, show c + 1 + j = c + (j + 1) from by omega]
theorem sep_loop : ∀ (n p : Nat) (V : St), p ≤ 24 → 24 < n + p → (∀ q, q < p → V 191 q = nI q) → ∃ V1, f_X5_separate_b2 n V (nI p) = some V1 ∧ F191 V V1 ∧ ∀ q, q < 24 → V1 191 q = nI q
  | 0, p, V, h1, h2, _ => by omega
  | n + 1, p, V, h1, h2, h => by
    rw [f_X5_separate_b2]
    by_cases e : p = 24
    · subst e
      rw [if_pos (show (24 : Int32) ≤ nI 24 by decide)]
      exact ⟨V, rfl, F191.rf V, h⟩
    · rw [if_neg (show ¬ (24 : Int32) ≤ nI p from nI_ge (b := 24) (by omega) (by decide)), ix_nI (n := 24) (by omega) (by decide), bs, nI_1]
      obtain ⟨V1, g1, g2, g3⟩ := sep_loop n (p + 1) (up V 191 p (nI p)) (by omega) (by omega) (fun q hq => by
        rw [up_me]
        by_cases c : q = p
        · rw [c, pk_us]
        · rw [pk_un c, h q (by omega)])
      exact ⟨V1, g1, F191.up.tr g2, g3⟩
theorem sep_eq (V : St) {A : PS} : ∃ V1, f_X5_separate V = some V1 ∧ F191 V V1 ∧ LB V1 (fun _ _ => False) ∧ lp V1 A = fb_ct A 24 := by
  obtain ⟨V1, g1, g2, g3⟩ := sep_loop 500 0 V (by omega) (by omega) (fun q hq => by omega)
  refine ⟨V1, g1, g2, fun p q hp hq => ?_, pt_all fun p q hp hq => ?_⟩
  · rw [g3 p hp, g3 q hq, nI_eq (by omega) (by omega)]
    constructor
    · rintro rfl
      exact ec.rf p
    · intro h
      exact h (fun r => p = r) rfl (fun a b e => by rcases e with e | e <;> exact e.elim)
  · rw [g3 p hp, g3 q (by omega)]
    intro h
    have := (nI_eq (by omega) (by omega)).mp h
    omega
theorem wi_eq (A X s : Int32) : f_X9_within A X s = some ((A &&& (A >>> (s &&& 31))) &&& X) := rfl
theorem wi_bt {A X : Int32} (hA : I24 A) {s : Nat} (hs : s < 32) (l : Nat) : bt ((A &&& (A >>> (nI s &&& 31))) &&& X) l = true ↔ bt A l = true ∧ bt A (l + s) = true ∧ bt X l = true := by
  rcases Nat.lt_or_ge l 32 with c | c
  · rw [b_and, b_and, b_sr hA s hs c, Bool.and_eq_true, Bool.and_eq_true, and_assoc]
  · rw [b_big c, b_big (x := A) c]
    constructor
    · intro h
      cases h
    · rintro ⟨h, -⟩
      cases h
/-- strings of one row, joined -/
def Ed (A : Int32) (X : PS) (s : Nat) (x y : Nat) : Prop := bt A x = true ∧ bt A (x + s) = true ∧ X x = true ∧ y = x + s
theorem ja_eq {V : St} {A X : Int32} (hA : I24 A) {s : Nat} (hs : s < 30) {E : Nat → Nat → Prop} (h : LB V E) : ∃ j V1, f_X5_joinAll V ((A &&& (A >>> (nI s &&& 31))) &&& X) (nI s) = some (nI j, V1) ∧ F191 V V1 ∧ LB V1 (fun x y => E x y ∨ Ed A (bt X) s x y) ∧ lp V (bt A) = lp V1 (bt A) + j := by
  obtain ⟨j, V1, g1, g2, g3, g4⟩ := ja_loop (X := (A &&& (A >>> (nI s &&& 31))) &&& X) (s := s) hs (A := bt A) (fun p hp => hA p hp) (fun l hl => ⟨((wi_bt hA (by omega) l).mp hl).1, ((wi_bt hA (by omega) l).mp hl).2.1⟩) 500 0 0 V E (fun x y => E x y ∨ Ed A (bt X) s x y) h (fun x y => by
    rw [wi_bt hA (by omega)]
    unfold Ed
    constructor
    · rintro (z | ⟨z1, z2, z3, z4⟩)
      · exact Or.inl z
      · exact Or.inr ⟨Nat.zero_le _, ⟨z1, z2, z3⟩, z4⟩
    · rintro (z | ⟨-, ⟨z1, z2, z3⟩, z4⟩)
      · exact Or.inl z
      · exact Or.inr ⟨z1, z2, z3, z4⟩) (by omega) (by omega)
  rw [Nat.zero_add] at g1
  exact ⟨j, V1, g1, g2, g3, g4⟩
theorem ec_con {A : Int32} {R D : PS} {E : Nat → Nat → Prop} (hE : ∀ x y, E x y ↔ Ed A R 1 x y ∨ Ed A D 6 x y) {p q : Nat} (hp : bt A p = true) : ec E p q ↔ con (bt A) R D p q := by
  constructor
  · intro h
    refine (h (fun r => bt A r = true ∧ con (bt A) R D p r) ⟨hp, con.rf p⟩ ?_).2
    intro a b e ⟨ha, hc⟩
    have key : ∀ x y, E x y → bt A x = true ∧ bt A y = true ∧ adj R D x y = true := by
      intro x y h
      rcases (hE x y).mp h with ⟨h1, h2, h3, h4⟩ | ⟨h1, h2, h3, h4⟩
      · exact ⟨h1, by rw [h4]; exact h2, adj_iff.mpr (Or.inl ⟨h4, h3⟩)⟩
      · exact ⟨h1, by rw [h4]; exact h2, adj_iff.mpr (Or.inr (Or.inr (Or.inl ⟨h4, h3⟩)))⟩
    rcases e with e | e
    · obtain ⟨k1, k2, k3⟩ := key a b e
      exact ⟨k2, hc.st k2 k3⟩
    · obtain ⟨k1, k2, k3⟩ := key b a e
      exact ⟨k1, hc.st k1 (adj_sym k3)⟩
  · intro h
    refine (h (fun r => bt A r = true ∧ ec E p r) ⟨hp, ec.rf p⟩ ?_).2
    rintro a b ⟨ha, hc⟩ hb e
    refine ⟨hb, hc.tr (ec.st ?_)⟩
    rcases adj_iff.mp e with ⟨h1, h2⟩ | ⟨h1, h2⟩ | ⟨h1, h2⟩ | ⟨h1, h2⟩
    · exact Or.inl ((hE a b).mpr (Or.inl ⟨ha, by rw [← h1]; exact hb, h2, h1⟩))
    · exact Or.inr ((hE b a).mpr (Or.inl ⟨hb, by rw [← h1]; exact ha, h2, h1⟩))
    · exact Or.inl ((hE a b).mpr (Or.inr ⟨ha, by rw [← h1]; exact hb, h2, h1⟩))
    · exact Or.inr ((hE b a).mpr (Or.inr ⟨hb, by rw [← h1]; exact ha, h2, h1⟩))
theorem lp_con {V : St} {A : Int32} (hA : I24 A) {R D : PS} {E : Nat → Nat → Prop} (h : LB V E) (hE : ∀ x y, E x y ↔ Ed A R 1 x y ∨ Ed A D 6 x y) : lp V (bt A) = pt (con (bt A) R D) (bt A) := by
  refine pt_cong fun p q hp hq => ?_
  rw [h q p (hA.lt hq) (hA.lt hp), ec_con hE hq]
theorem nA_F {V V1 : St} (h : F191 V V1) {k : Nat} (hk : k ≠ 191) : nA V1 k = nA V k := by unfold nA; rw [h k hk]
theorem nR_F {V V1 : St} (h : F191 V V1) {k : Nat} (hk : k ≠ 191) : nR V1 k = nR V k := by unfold nR; rw [h k hk]
theorem nD_F {V V1 : St} (h : F191 V V1) {k : Nat} (hk : k ≠ 191) : nD V1 k = nD V k := by unfold nD; rw [h k hk]
/-- the chapters of a net, counted by strings -/
theorem cs_eq {V : St} {k : Nat} (hk : k ≠ 191) (hA : I24 (nA V k)) : ∃ V1, f_X3_countChaptersByStrings V k = some (nI (pt (con (bt (nA V k)) (bt (nR V k)) (bt (nD V k))) (bt (nA V k))), V1) ∧ F191 V V1 := by
  obtain ⟨V1, a1, a2, a3, a4⟩ := sep_eq V (A := bt (nA V k))
  obtain ⟨j1, V2, b1, b2, b3, b4⟩ := ja_eq (X := nR V k) hA (s := 1) (by decide) a3
  obtain ⟨j2, V3, c1, c2, c3, c4⟩ := ja_eq (X := nD V k) hA (s := 6) (by decide) b3
  have b1 : f_X5_joinAll V1 ((nA V k &&& (nA V k >>> (1 &&& 31))) &&& nR V k) 1 = some (nI j1, V2) := b1
  have c1 : f_X5_joinAll V2 ((nA V k &&& (nA V k >>> (6 &&& 31))) &&& nD V k) 6 = some (nI j2, V3) := c1
  have f2 := a2.tr b2
  refine ⟨V3, ?_, f2.tr c2⟩
  rw [f_X3_countChaptersByStrings, a1, bs, kn_eq, bs, nA_F a2 hk, bc24 hA, bs, bs, whA, bs, nR_F a2 hk, wi_eq, bs, b1, bs]
  rw [show ((nI j1, V2) : Int32 × St).2 = V2 from rfl, kn_eq, bs, nA_F f2 hk, whD, bs, nD_F f2 hk, wi_eq, bs, c1, bs]
  have h9 := lp_con hA c3 (R := bt (nR V k)) (D := bt (nD V k)) (fun x y => by
    constructor
    · rintro ((h | h) | h)
      · exact h.elim
      · exact Or.inl h
      · exact Or.inr h
    · rintro (h | h)
      · exact Or.inl (Or.inr h)
      · exact Or.inr h)
  have h8 : nb (nA V k) = lp V1 (bt (nA V k)) := a4.symm
  show some (nI (nb (nA V k)) - nI j1 - nI j2, V3) = _
  rw [pk_sub (by omega), pk_sub (by omega)]
  congr 3
  omega
