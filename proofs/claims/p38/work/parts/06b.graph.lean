/-! sets of places, what hangs together: no machine here -/
noncomputable def dP (P : Prop) : Bool := @decide P (Classical.propDecidable P)
theorem dP_t {P : Prop} : dP P = true ↔ P := @decide_eq_true_iff P (Classical.propDecidable P)
theorem dP_f {P : Prop} : dP P = false ↔ ¬ P := by
  have h := @dP_t P
  constructor
  · intro e hp
    rw [h.mpr hp] at e
    cases e
  · intro hn
    cases e : dP P
    · rfl
    · exact absurd (h.mp e) hn
theorem dP_c {P Q : Prop} (h : P ↔ Q) : dP P = dP Q := by rw [propext h]
abbrev PS : Type := Nat → Bool
def adj (R D : PS) (p q : Nat) : Bool := (decide (q = p + 1) && R p) || (decide (p = q + 1) && R q) || (decide (q = p + 6) && D p) || (decide (p = q + 6) && D q)
theorem adj_iff {R D : PS} {p q : Nat} : adj R D p q = true ↔ (q = p + 1 ∧ R p = true) ∨ (p = q + 1 ∧ R q = true) ∨ (q = p + 6 ∧ D p = true) ∨ (p = q + 6 ∧ D q = true) := by
  unfold adj
  simp only [Bool.or_eq_true, Bool.and_eq_true, decide_eq_true_eq, or_assoc]
theorem adj_sym {R D : PS} {p q : Nat} (h : adj R D p q = true) : adj R D q p = true := by
  rw [adj_iff] at h ⊢
  rcases h with h | h | h | h
  · exact Or.inr (Or.inl h)
  · exact Or.inl h
  · exact Or.inr (Or.inr (Or.inr h))
  · exact Or.inr (Or.inr (Or.inl h))
/-- q hangs together with p in A -/
def con (A R D : PS) (p q : Nat) : Prop := ∀ T : Nat → Prop, T p → (∀ a b, T a → A b = true → adj R D a b = true → T b) → T q
theorem con.rf {A R D : PS} (p : Nat) : con A R D p p := fun _ h _ => h
theorem con.tr {A R D : PS} {p q r : Nat} (h1 : con A R D p q) (h2 : con A R D q r) : con A R D p r := fun T hp hc => h2 T (h1 T hp hc) hc
theorem con.st {A R D : PS} {p a b : Nat} (h : con A R D p a) (hb : A b = true) (e : adj R D a b = true) : con A R D p b := fun T hp hc => hc a b (h T hp hc) hb e
theorem con.inA {A R D : PS} {p q : Nat} (h : con A R D p q) (hp : A p = true) : A q = true := h (fun r => A r = true) hp (fun _ _ _ hb _ => hb)
theorem con.sy {A R D : PS} {p q : Nat} (hp : A p = true) (h : con A R D p q) : con A R D q p :=
  (h (fun r => A r = true ∧ con A R D r p) ⟨hp, con.rf p⟩ (fun a b ha hb e => ⟨hb, ((con.rf b).st ha.1 (adj_sym e)).tr ha.2⟩)).2
/-- fewer strings: less hangs together -/
theorem con.mono {A R D R2 D2 : PS} {p q : Nat} (h : con A R D p q) (hm : ∀ a b, adj R D a b = true → adj R2 D2 a b = true) : con A R2 D2 p q := fun T hp hc => h T hp (fun a b ha hb e => hc a b ha hb (hm a b e))
/-- how many kinds of things lie in A, where K tells which are of one kind -/
noncomputable def fo (K : Nat → Nat → Prop) (A : PS) (p : Nat) : Bool := dP (A p = true ∧ ∀ q, q < p → A q = true → ¬ K q p)
noncomputable def pt (K : Nat → Nat → Prop) (A : PS) : Nat := fb_ct (fo K A) 24
theorem pt_cong {K K2 : Nat → Nat → Prop} {A : PS} (h : ∀ p q, A p = true → A q = true → (K q p ↔ K2 q p)) : pt K A = pt K2 A := by
  refine fb_ct_cong fun p hp => dP_c ?_
  constructor
  · intro h1
    exact ⟨h1.1, fun q hq ha hk => h1.2 q hq ha ((h p q h1.1 ha).mpr hk)⟩
  · intro h1
    exact ⟨h1.1, fun q hq ha hk => h1.2 q hq ha ((h p q h1.1 ha).mp hk)⟩
theorem ct_one {f g : Nat → Bool} {p n : Nat} (hp : p < n) (h1 : f p = true) (h2 : g p = false) (h : ∀ i, i < n → i ≠ p → f i = g i) : fb_ct f n = fb_ct g n + 1 := by
  have h3 := fb_ct_upd g true hp
  rw [h2] at h3
  have h4 : fb_ct f n = fb_ct (fun k => if k = p then true else g k) n := by
    refine fb_ct_cong fun k hk => ?_
    by_cases e : k = p
    · rw [if_pos e, e, h1]
    · rw [if_neg e, h k hk e]
  rw [h4]
  simpa using h3
/-- labels of places: two kinds become one -/
theorem pt_join {lab lab2 : Nat → Int32} {A : PS} {a b : Nat} (ha : a < 24) (hb : b < 24) (hAa : A a = true) (hAb : A b = true) (hne : lab a ≠ lab b)
    (h2 : ∀ p, p < 24 → lab2 p = if lab p = lab b then lab a else lab p) (hA : ∀ p, 24 ≤ p → A p = false) : pt (fun q p => lab q = lab p) A = pt (fun q p => lab2 q = lab2 p) A + 1 := by
  have lt : ∀ q, A q = true → q < 24 := fun q hq => by
    rcases Nat.lt_or_ge q 24 with h | h
    · exact h
    · rw [hA q h] at hq
      cases hq
  -- the first of each of the two kinds
  obtain ⟨u, hu1, ⟨hu2, hu3⟩, hu4⟩ := @fb_first (fun i => A i = true ∧ lab i = lab a) (fun _ => Classical.propDecidable _) 24 ⟨a, ha, hAa, rfl⟩
  obtain ⟨v, hv1, ⟨hv2, hv3⟩, hv4⟩ := @fb_first (fun i => A i = true ∧ lab i = lab b) (fun _ => Classical.propDecidable _) 24 ⟨b, hb, hAb, rfl⟩
  have huv : u ≠ v := by
    intro e
    rw [e, hv3] at hu3
    exact hne hu3.symm
  have e2 : ∀ q, q < 24 → (lab2 q = lab a ↔ lab q = lab a ∨ lab q = lab b) := by
    intro q hq
    rw [h2 q hq]
    by_cases c : lab q = lab b
    · rw [if_pos c]
      exact ⟨fun _ => Or.inr c, fun _ => rfl⟩
    · rw [if_neg c]
      exact ⟨Or.inl, fun h => h.elim id (fun h => absurd h c)⟩
  have e3 : ∀ p q, p < 24 → q < 24 → ¬ (lab p = lab a ∨ lab p = lab b) → (lab2 q = lab2 p ↔ lab q = lab p) := by
    intro p q hp hq hn
    have hpa : ¬ lab p = lab a := fun h => hn (Or.inl h)
    have hpb : ¬ lab p = lab b := fun h => hn (Or.inr h)
    rw [h2 p hp, if_neg hpb, h2 q hq]
    by_cases c : lab q = lab b
    · rw [if_pos c]
      constructor
      · intro h
        exact absurd h.symm hpa
      · intro h
        exact absurd (h.symm.trans c) hpb
    · rw [if_neg c]
  have hw : max u v < 24 := by omega
  refine ct_one hw ?_ ?_ ?_
  · refine dP_t.mpr ?_
    rcases Nat.lt_or_ge u v with c | c
    · rw [Nat.max_eq_right (Nat.le_of_lt c)]
      exact ⟨hv2, fun q hq hAq hk => hv4 q hq ⟨hAq, hk.trans hv3⟩⟩
    · rw [Nat.max_eq_left c]
      exact ⟨hu2, fun q hq hAq hk => hu4 q hq ⟨hAq, hk.trans hu3⟩⟩
  · refine dP_f.mpr fun h => ?_
    rcases Nat.lt_or_ge u v with c | c
    · rw [Nat.max_eq_right (Nat.le_of_lt c)] at h
      exact h.2 u c hu2 (((e2 u hu1).mpr (Or.inl hu3)).trans ((e2 v hv1).mpr (Or.inr hv3)).symm)
    · rw [Nat.max_eq_left c] at h
      have c2 : v < u := by omega
      exact h.2 v c2 hv2 (((e2 v hv1).mpr (Or.inr hv3)).trans ((e2 u hu1).mpr (Or.inl hu3)).symm)
  · intro p hp hpw
    refine dP_c ?_
    by_cases c : lab p = lab a ∨ lab p = lab b
    · constructor
      · intro h
        refine ⟨h.1, fun q hq hAq hk => ?_⟩
        have hq24 := lt q hAq
        -- p is u or v, the lesser of the two
        have hp9 : p = u ∨ p = v := by
          rcases c with c | c
          · left
            rcases Nat.lt_trichotomy p u with t | t | t
            · exact absurd ⟨h.1, c⟩ (hu4 p t)
            · exact t
            · exact absurd (hu3.trans c.symm) (h.2 u t hu2)
          · right
            rcases Nat.lt_trichotomy p v with t | t | t
            · exact absurd ⟨h.1, c⟩ (hv4 p t)
            · exact t
            · exact absurd (hv3.trans c.symm) (h.2 v t hv2)
        have hq9 : lab q = lab a ∨ lab q = lab b := (e2 q hq24).mp (hk.trans ((e2 p hp).mpr c))
        rcases hq9 with hq9 | hq9
        · have : ¬ q < u := fun t => hu4 q t ⟨hAq, hq9⟩
          omega
        · have : ¬ q < v := fun t => hv4 q t ⟨hAq, hq9⟩
          omega
      · intro h
        refine ⟨h.1, fun q hq hAq hk => h.2 q hq hAq ?_⟩
        have hq24 := lt q hAq
        have hq9 : lab q = lab a ∨ lab q = lab b := by
          rcases c with c | c
          · exact Or.inl (hk.trans c)
          · exact Or.inr (hk.trans c)
        exact ((e2 q hq24).mpr hq9).trans ((e2 p hp).mpr c).symm
    · constructor
      · intro h
        exact ⟨h.1, fun q hq hAq hk => h.2 q hq hAq ((e3 p q hp (lt q hAq) c).mp hk)⟩
      · intro h
        exact ⟨h.1, fun q hq hAq hk => h.2 q hq hAq ((e3 p q hp (lt q hAq) c).mpr hk)⟩
/-- labels that are all different -/
theorem pt_all {lab : Nat → Int32} {A : PS} (h : ∀ p q, p < 24 → q < p → lab q ≠ lab p) : pt (fun q p => lab q = lab p) A = fb_ct A 24 := by
  refine fb_ct_cong fun p hp => ?_
  cases e : A p
  · refine dP_f.mpr fun h9 => ?_
    rw [e] at h9
    cases h9.1
  · exact dP_t.mpr ⟨e, fun q hq _ hk => h p q hp hq hk⟩
/-! kinds of which a part T of S has some -/
noncomputable def pr (K : Nat → Nat → Prop) (S T : PS) (x : Nat) : Bool := dP (fo K S x = true ∧ ∃ t, T t = true ∧ K x t)
noncomputable def cT (K : Nat → Nat → Prop) (S T : PS) : Nat := fb_ct (pr K S T) 24
theorem cT_all {K : Nat → Nat → Prop} {S : PS} (hr : ∀ p, K p p) : cT K S S = pt K S := by
  refine fb_ct_cong fun x _ => ?_
  cases e : fo K S x
  · exact dP_f.mpr fun h => by rw [e] at h; cases h.1
  · exact dP_t.mpr ⟨e, x, (dP_t.mp e).1, hr x⟩
theorem cT_cong {K : Nat → Nat → Prop} {S T T2 : PS} (h : ∀ p, T p = T2 p) : cT K S T = cT K S T2 := by rw [funext h]
/-- the first of a kind -/
theorem fo_ex {K : Nat → Nat → Prop} {S : PS} (hS : ∀ p, 24 ≤ p → S p = false) (hr : ∀ p, K p p) (ht : ∀ p q r, K p q → K q r → K p r) {v : Nat} (hv : S v = true) : ∃ x, x < 24 ∧ fo K S x = true ∧ K x v := by
  have lt : v < 24 := by
    rcases Nat.lt_or_ge v 24 with h | h
    · exact h
    · rw [hS v h] at hv
      cases hv
  obtain ⟨u, hu1, ⟨hu2, hu3⟩, hu4⟩ := @fb_first (fun i => S i = true ∧ K i v) (fun _ => Classical.propDecidable _) 24 ⟨v, lt, hv, hr v⟩
  exact ⟨u, hu1, dP_t.mpr ⟨hu2, fun q hq hAq hk => hu4 q hq ⟨hAq, ht q u v hk hu3⟩⟩, hu3⟩
theorem cT_old {K : Nat → Nat → Prop} {S T T2 : PS} (ht : ∀ p q r, K p q → K q r → K p r) {v t : Nat} (hT : T t = true) (hk : K v t) (h2 : ∀ p, T2 p = true ↔ T p = true ∨ p = v) : cT K S T2 = cT K S T := by
  refine fb_ct_cong fun x _ => dP_c ?_
  constructor
  · rintro ⟨h1, y, hy, hk2⟩
    rcases (h2 y).mp hy with h | h
    · exact ⟨h1, y, h, hk2⟩
    · subst h
      exact ⟨h1, t, hT, ht x y t hk2 hk⟩
  · rintro ⟨h1, y, hy, hk2⟩
    exact ⟨h1, y, (h2 y).mpr (Or.inl hy), hk2⟩
theorem cT_new {K : Nat → Nat → Prop} {S T T2 : PS} (hS : ∀ p, 24 ≤ p → S p = false) (hr : ∀ p, K p p) (hsy : ∀ p q, S p = true → K p q → K q p) (ht : ∀ p q r, K p q → K q r → K p r) {v : Nat} (hv : S v = true) (hn : ∀ t, T t = true → ¬ K v t) (h2 : ∀ p, T2 p = true ↔ T p = true ∨ p = v) : cT K S T2 = cT K S T + 1 := by
  obtain ⟨u, hu1, hu2, hu3⟩ := fo_ex hS hr ht hv
  have hSu : S u = true := (dP_t.mp hu2).1
  refine ct_one hu1 (dP_t.mpr ⟨hu2, v, (h2 v).mpr (Or.inr rfl), hu3⟩) (dP_f.mpr ?_) ?_
  · rintro ⟨-, t, hT, hk⟩
    exact hn t hT (ht v u t (hsy u v hSu hu3) hk)
  · intro x hx hxu
    refine dP_c ?_
    constructor
    · rintro ⟨h1, y, hy, hk2⟩
      rcases (h2 y).mp hy with h | h
      · exact ⟨h1, y, h, hk2⟩
      · subst h
        exfalso
        have hSx : S x = true := (dP_t.mp h1).1
        have k1 : K x u := ht x y u hk2 (hsy u y hSu hu3)
        have k2 : K u x := hsy x u hSx k1
        rcases Nat.lt_trichotomy x u with c | c | c
        · exact (dP_t.mp hu2).2 x c hSx k1
        · exact hxu c
        · exact (dP_t.mp h1).2 u c hSu k2
    · rintro ⟨h1, y, hy, hk2⟩
      exact ⟨h1, y, (h2 y).mpr (Or.inl hy), hk2⟩
theorem cT_one {K : Nat → Nat → Prop} {S T : PS} (hS : ∀ p, 24 ≤ p → S p = false) (hr : ∀ p, K p p) (hsy : ∀ p q, S p = true → K p q → K q p) (ht : ∀ p q r, K p q → K q r → K p r) {v : Nat} (hv : S v = true) (h2 : ∀ p, T p = true ↔ p = v) : cT K S T = 1 := by
  have h0 : cT K S (fun _ => false) = 0 := fb_ct_zero.mpr fun x _ => dP_f.mpr (by
    rintro ⟨-, t, ht9, -⟩
    cases ht9)
  rw [cT_new (T := fun _ => false) hS hr hsy ht hv (fun t h => by cases h) (fun p => by
    rw [h2 p]
    exact ⟨Or.inr, fun h => h.elim (fun h => by cases h) id⟩), h0]
