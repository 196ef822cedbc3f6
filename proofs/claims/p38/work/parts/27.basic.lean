/-! numbers in ranges -/
theorem i_lt {x y : Int32} : x < y ↔ x.toInt < y.toInt := Int32.lt_iff_toInt_lt
theorem i_le {x y : Int32} : x ≤ y ↔ x.toInt ≤ y.toInt := Int32.le_iff_toInt_le
theorem i_0 : (0 : Int32).toInt = 0 := rfl
/-- x is one of 0 .. n - 1, or it isn't -/
theorem rng (x : Int32) {n : Nat} (hn : n < 2 ^ 30) : (∃ j, j < n ∧ x = nI j) ∨ (x.toInt < 0 ∨ (n : Int) ≤ x.toInt) := by
  rcases pk_ix x (n := n) (by omega) with h | h | h
  · exact Or.inr (Or.inl (by have := i_lt.mp h; rw [i_0] at this; exact this))
  · exact Or.inr (Or.inr (by have := i_le.mp h; rw [nI_toInt (by omega)] at this; exact this))
  · exact Or.inl h
theorem in_yes {j : Nat} {M : Int32} (h : (j : Int) ≤ M.toInt) (hj : j < 2 ^ 30) : f_X10_in (nI j) 0 M = some 1 := by
  have e := nI_toInt (n := j) (by omega)
  rw [f_X10_in, if_neg (fun q => by have := i_lt.mp q; rw [e, i_0] at this; omega), if_neg (fun q => by have := i_lt.mp q; rw [e] at this; omega)]
theorem in_no {x M : Int32} (h : x.toInt < 0 ∨ M.toInt < x.toInt) : f_X10_in x 0 M = some 0 := by
  rw [f_X10_in]
  by_cases c : x < 0
  · rw [if_pos c]
  · rw [if_neg c, if_pos]
    rcases h with h | h
    · exact absurd (i_lt.mpr (by rw [i_0]; exact h)) c
    · exact i_lt.mpr h
theorem not_ltz {j : Nat} (h : j < 2 ^ 31) : ¬ nI j < 0 := nI_pos h
theorem net_cs (x : Int32) : (∃ n, n < 3 ∧ x = nI n ∧ f_X9_isNet x = some 1 ∧ f_X10_isNet x = some 1) ∨ (f_X9_isNet x = some 0 ∧ f_X10_isNet x = some 0) := by
  rcases rng x (n := 3) (by decide) with ⟨j, h1, h2⟩ | h
  · have : ∀ j : Fin 3, f_X9_isNet (nI j.val) = some 1 ∧ f_X10_isNet (nI j.val) = some 1 := by decide +kernel
    exact Or.inl ⟨j, h1, h2, by rw [h2]; exact (this ⟨j, h1⟩).1, by rw [h2]; exact (this ⟨j, h1⟩).2⟩
  · refine Or.inr ⟨?_, ?_⟩
    · rw [f_X9_isNet]
      by_cases c : x < 0
      · rw [if_pos c]
      · rw [if_neg c, if_pos]
        rcases h with h | h
        · exact absurd (i_lt.mpr (by rw [i_0]; exact h)) c
        · exact i_le.mpr h
    · rw [f_X10_isNet, in_no (by rcases h with h | h; exact Or.inl h; exact Or.inr (show (2 : Int) < x.toInt by omega)), bs]
      exact congrArg (fun o : Option Int32 => o.bind fun _ => some (0 : Int32)) (nr_b false)
theorem pl_cs (x : Int32) : (∃ p, p < 24 ∧ x = nI p ∧ f_X9_isPlace x = some 1 ∧ f_X10_isPlace x = some 1) ∨ (f_X9_isPlace x = some 0 ∧ f_X10_isPlace x = some 0) := by
  rcases rng x (n := 24) (by decide) with ⟨j, h1, h2⟩ | h
  · have : ∀ j : Fin 24, f_X9_isPlace (nI j.val) = some 1 ∧ f_X10_isPlace (nI j.val) = some 1 := by decide +kernel
    exact Or.inl ⟨j, h1, h2, by rw [h2]; exact (this ⟨j, h1⟩).1, by rw [h2]; exact (this ⟨j, h1⟩).2⟩
  · refine Or.inr ⟨?_, ?_⟩
    · rw [f_X9_isPlace]
      by_cases c : x < 0
      · rw [if_pos c]
      · rw [if_neg c, if_pos]
        rcases h with h | h
        · exact absurd (i_lt.mpr (by rw [i_0]; exact h)) c
        · exact i_le.mpr h
    · rw [f_X10_isPlace, in_no (by rcases h with h | h; exact Or.inl h; exact Or.inr (show (23 : Int) < x.toInt by omega)), bs]
      exact congrArg (fun o : Option Int32 => o.bind fun _ => some (0 : Int32)) (nr_b false)
theorem cm1 {n : Nat} (hn : n < 2 ^ 30) : (nI n - 1).toInt = (n : Int) - 1 := pk_sub_toInt (b := 1) hn (by decide)
/-- one of n things, as class and model ask it -/
theorem cnt_cs (x : Int32) {n : Nat} (hn : n < 2 ^ 30) : (∃ j, j < n ∧ x = nI j ∧ f_X10_in x 0 (nI n - 1) = some 1) ∨ (f_X10_in x 0 (nI n - 1) = some 0 ∧ (x < 0 ∨ nI n ≤ x)) := by
  rcases rng x hn with ⟨j, h1, h2⟩ | h
  · subst h2
    exact Or.inl ⟨j, h1, rfl, in_yes (by rw [cm1 hn]; omega) (by omega)⟩
  · refine Or.inr ⟨in_no (by rw [cm1 hn]; omega), ?_⟩
    rcases h with h | h
    · exact Or.inl (i_lt.mpr (by rw [i_0]; exact h))
    · exact Or.inr (i_le.mpr (by rw [nI_toInt (by omega)]; exact h))
theorem he_yes {V : St} {B n j : Nat} (h : V B 3 = nI n) (hj : j < n) (hn : n < 2 ^ 30) : f_X8_hasEditor V B (nI j) = some 1 := by
  rw [f_X8_hasEditor, if_neg (nI_pos (by omega)), h, if_neg (nI_ge hj (by omega))]
theorem he_no {V : St} {B n : Nat} {x : Int32} (h : V B 3 = nI n) (hx : x < 0 ∨ nI n ≤ x) : f_X8_hasEditor V B x = some 0 := by
  rw [f_X8_hasEditor, h]
  by_cases c : x < 0
  · rw [if_pos c]
  · rw [if_neg c, if_pos (hx.resolve_left c)]
theorem hn_yes {V : St} {B n j : Nat} (h : V B 4 = nI n) (hj : j < n) (hn : n < 2 ^ 30) : f_X8_hasNote V B (nI j) = some 1 := by
  rw [f_X8_hasNote, if_neg (nI_pos (by omega)), h, if_neg (nI_ge hj (by omega))]
theorem hn_no {V : St} {B n : Nat} {x : Int32} (h : V B 4 = nI n) (hx : x < 0 ∨ nI n ≤ x) : f_X8_hasNote V B x = some 0 := by
  rw [f_X8_hasNote, h]
  by_cases c : x < 0
  · rw [if_pos c]
  · rw [if_neg c, if_pos (hx.resolve_left c)]
/-! kinds -/
def kv (a b : Bool) : Int32 := (if a = true then 1 else 0) + (if b = true then 2 else 0)
theorem kv_0 (a b : Bool) : kv a b = 0 ↔ a = false ∧ b = false := by cases a <;> cases b <;> decide
theorem kd_c (V : St) (k : Nat) {p : Nat} (hp : p < 24) : f_X3_kindAt V k (nI p) = some (kv (bt (V k 0) p) (bt (V k 1) p)) := by
  rw [f_X3_kindAt, isIn_eq _ (by omega), bs]
  cases bt (V k 0) p
  · rw [if_pos (show bI false = 0 by decide), f_X3_kindAt_b16, isIn_eq _ (by omega), bs]
    cases bt (V k 1) p <;> rfl
  · rw [if_neg (show ¬ bI true = 0 by decide), f_X3_kindAt_b16, isIn_eq _ (by omega), bs]
    cases bt (V k 1) p <;> rfl
theorem kd_m (V : St) {n p : Nat} (hn : n < 3) (hp : p < 24) : f_X10_kind V (nI n) (nI p) = some (kv (bt (V 209 (6 + 5 * n)) p) (bt (V 209 (6 + 5 * n + 1)) p)) := by
  rw [f_X10_kind, show (0 : Int32) = nI 0 from rfl, of_eq V hn (by decide), bs, show (1 : Int32) = nI 1 from rfl, of_eq V hn (by decide), bs]
  rw [show nI 1 = (1 : Int32) from rfl, b_val _ (by omega), b_val _ (by omega), Nat.add_zero]
  cases bt (V 209 (6 + 5 * n)) p <;> cases bt (V 209 (6 + 5 * n + 1)) p <;> rfl
def wi (x p : Int32) (b : Bool) : Int32 := if b = true then x ||| (1 <<< (p &&& 31)) else x &&& ((1 <<< (p &&& 31)) ^^^ (-1))
theorem wi_c (x p : Int32) (b : Bool) : f_X9_with x p (bI b) = some (wi x p b) := by
  cases b <;> rfl
theorem wi_m (V : St) {n w : Nat} (hn : n < 3) (hw : w < 5) (p : Int32) (b : Bool) : f_X10_sets V (nI n) (nI w) p (bI b) = some (up V 209 (6 + 5 * n + w) (wi (V 209 (6 + 5 * n + w)) p b)) := by
  have e : ((6 : Int32) + 5 * nI n) + nI w = nI (6 + 5 * n + w) := by rw [show (6 : Int32) = nI 6 from rfl, show (5 : Int32) = nI 5 from rfl, pk_mul, nI_add, nI_add]
  rw [f_X10_sets, e, ix_nI (by omega) (by decide)]
  cases b <;> rfl
theorem b_wi (x : Int32) {p : Nat} (hp : p < 24) (b : Bool) {i : Nat} (hi : i < 32) : bt (wi x (nI p) b) i = if i = p then b else bt x i := by
  cases b
  · show bt (x &&& (((1 : Int32) <<< (nI p &&& 31)) ^^^ (-1))) i = _
    rw [b_minus x _ hi, one_bt hp]
    by_cases c : i = p
    · rw [if_pos c, decide_eq_true c]
      simp
    · rw [if_neg c, decide_eq_false c]
      simp
  · show bt (x ||| ((1 : Int32) <<< (nI p &&& 31))) i = _
    rw [b_or, one_bt hp]
    by_cases c : i = p
    · rw [if_pos c, decide_eq_true c]
      simp
    · rw [if_neg c, decide_eq_false c]
      simp
theorem wi_24 {x : Int32} (hx : I24 x) {p : Nat} (hp : p < 24) (b : Bool) : I24 (wi x (nI p) b) := by
  intro i hi
  rcases Nat.lt_or_ge i 32 with c | c
  · rw [b_wi x hp b c, if_neg (by omega), hx i hi]
  · exact b_big c
theorem wi_sub {x M : Int32} (hx : Sub x M) {p : Nat} (hp : p < 24) {b : Bool} (hb : b = true → bt M p = true) : Sub (wi x (nI p) b) M := by
  intro i hi
  rcases Nat.lt_or_ge i 32 with c | c
  · rw [b_wi x hp b c] at hi
    by_cases e : i = p
    · rw [if_pos e] at hi
      rw [e]
      exact hb hi
    · rw [if_neg e] at hi
      exact hx i hi
  · rw [b_big c] at hi
    cases hi
theorem tie_eq (V : St) (k : Nat) (p : Int32) {j : Nat} (hj : j < 4) : f_X3_tie V k p (nI j) = some (up (up V k 0 (wi (V k 0) p (decide (j % 2 = 1)))) k 1 (wi (V k 1) p (decide (2 ≤ j)))) := by
  have hr : ∀ x, (up V k 0 x) k 1 = V k 1 := fun x => up_ne V (fun _ => by decide)
  have w0 := fun x => wi_c x p false
  have w1 := fun x => wi_c x p true
  have w0 : ∀ x, f_X9_with x p 0 = some (wi x p false) := w0
  have w1 : ∀ x, f_X9_with x p 1 = some (wi x p true) := w1
  have c : j = 0 ∨ j = 1 ∨ j = 2 ∨ j = 3 := by omega
  rcases c with rfl | rfl | rfl | rfl
  · rw [f_X3_tie, if_pos (by decide), f_X3_tie_b17, w0, bs, if_pos (by decide), f_X3_tie_b40, hr, w0, bs]
    rfl
  · rw [f_X3_tie, if_neg (by decide), f_X3_tie_b17, w1, bs, if_pos (by decide), f_X3_tie_b40, hr, w0, bs]
    rfl
  · rw [f_X3_tie, if_pos (by decide), f_X3_tie_b17, w0, bs, if_neg (by decide), f_X3_tie_b40, hr, w1, bs]
    rfl
  · rw [f_X3_tie, if_neg (by decide), f_X3_tie_b17, w1, bs, if_neg (by decide), f_X3_tie_b40, hr, w1, bs]
    rfl
/-! strings between two places -/
def rw2 (p q : Nat) : Nat := if (p + 1 = q ∧ q % 6 ≠ 0) ∨ (q + 1 = p ∧ p % 6 ≠ 0) then 2 else if p + 6 = q ∨ q + 6 = p then 3 else 0
theorem st_fin : ∀ p q : Fin 24, (rw2 p.val q.val = 0 → f_X9_areBeside (nI p.val) (nI q.val) = some 0 ∧ f_X10_stringFor (nI p.val) (nI q.val) = some (-1)) ∧
    (rw2 p.val q.val ≠ 0 → f_X9_areBeside (nI p.val) (nI q.val) = some 1 ∧ f_X10_stringFor (nI p.val) (nI q.val) = some (nI (rw2 p.val q.val)) ∧ f_X9_isAcross (nI p.val) (nI q.val) = some (bI (decide (rw2 p.val q.val = 2))) ∧ f_X9_twineFor (nI p.val) (nI q.val) = some (if rw2 p.val q.val = 2 then 1 else 2) ∧ imin (nI p.val) (nI q.val) = nI (min p.val q.val) ∧ imax (nI p.val) (nI q.val) = (nI p.val + nI q.val) - nI (min p.val q.val) ∧ (rw2 p.val q.val = 2 ∧ bt RT (min p.val q.val) = true ∨ rw2 p.val q.val = 3 ∧ bt DN (min p.val q.val) = true)) := by decide +kernel
theorem le_fin : ∀ p q : Fin 24, (nI q.val ≤ nI p.val ↔ min p.val q.val = q.val) ∧ (¬ nI q.val ≤ nI p.val → min p.val q.val = p.val) := by decide +kernel
/-- what the model takes for the lesser one -/
theorem low_m {α : Type} {p q : Nat} (hp : p < 24) (hq : q < 24) (f : Int32 → α) : (if nI q ≤ nI p then f (nI q) else f (nI p)) = f (nI (min p q)) := by
  have h := le_fin ⟨p, hp⟩ ⟨q, hq⟩
  by_cases c : nI q ≤ nI p
  · rw [if_pos c, h.1.mp c]
  · rw [if_neg c, h.2 c]
/-! one net of a state -/
def kA (g : Nat → Int32) (n : Nat) : Int32 := g (6 + 5 * n) ||| g (6 + 5 * n + 1)
def kR (g : Nat → Int32) (n : Nat) : Int32 := 8255455 &&& (g (6 + 5 * n + 2) ^^^ (-1))
def kD (g : Nat → Int32) (n : Nat) : Int32 := 262143 &&& (g (6 + 5 * n + 3) ^^^ (-1))
theorem SR.eA {V : St} {B n : Nat} {g : Nat → Int32} (h : SR V B g) (hn : n < 3) : nA V (B + 4 + n) = kA g n := by
  unfold nA kA
  rw [h.2.1 n 0 hn (by decide), h.2.1 n 1 hn (by decide), Nat.add_zero]
theorem SR.eR {V : St} {B n : Nat} {g : Nat → Int32} (h : SR V B g) (hn : n < 3) : nR V (B + 4 + n) = kR g n := by
  unfold nR kR
  rw [h.2.1 n 2 hn (by decide)]
theorem SR.eD {V : St} {B n : Nat} {g : Nat → Int32} (h : SR V B g) (hn : n < 3) : nD V (B + 4 + n) = kD g n := by
  unfold nD kD
  rw [h.2.1 n 3 hn (by decide)]
theorem GG.k24 {g : Nat → Int32} (h : GG g) {n : Nat} (hn : n < 3) : I24 (kA g n) := (h.2.2.2 n hn).1.or (h.2.2.2 n hn).2.1
theorem look_eq (V : St) {n : Nat} (hn : n < 3) : ∃ V1, f_X10_looksAt V (nI n) = some V1 ∧ (∀ k, k ≠ 208 → V1 k = V k) ∧ (∀ j, (j < 19 ∨ 21 < j) → V1 208 j = V 208 j) ∧ V1 208 19 = kA (V 209) n ∧ V1 208 20 = kR (V 209) n ∧ V1 208 21 = kD (V 209) n := by
  have o := fun (V : St) (w : Nat) (hw : w < 5) => of_eq V hn hw
  have u : ∀ (V : St) j x, (up V 208 j x) 209 = V 209 := fun V j x => up_at (by decide)
  rw [f_X10_looksAt, show (0 : Int32) = nI 0 from rfl, o _ 0 (by decide), bs, show (1 : Int32) = nI 1 from rfl, o _ 1 (by decide), bs, show (2 : Int32) = nI 2 from rfl, o _ 2 (by decide), bs, show (3 : Int32) = nI 3 from rfl, o _ 3 (by decide), bs]
  refine ⟨_, rfl, fun k hk => ?_, fun j hj => ?_, ?_, ?_, ?_⟩
  · simp only [up_at hk]
  · rw [up_ne _ (fun _ => by omega), up_ne _ (fun _ => by omega), up_ne _ (fun _ => by omega)]
  · rw [up_ne _ (fun _ => by decide), up_ne _ (fun _ => by decide), up_self]
    rfl
  · rw [up_ne _ (fun _ => by decide), up_self, u]
    rfl
  · rw [up_self, u, u]
    rfl
/-- how many chapters -/
noncomputable def nch (g : Nat → Int32) (n : Nat) : Nat := pt (con (bt (kA g n)) (bt (kR g n)) (bt (kD g n))) (bt (kA g n))
theorem cc_s {V : St} {B n : Nat} {g : Nat → Int32} (h : SR V B g) (hg : GG g) (hn : n < 3) : f_X3_countChapters V (B + 4 + n) = some (nI (nch g n)) := by
  have e := cc_eq (V := V) (k := B + 4 + n) (by rw [h.eA hn]; exact hg.k24 hn)
  rw [h.eA hn, h.eR hn, h.eD hn] at e
  exact e
theorem nch_le (g : Nat → Int32) (n : Nat) : nch g n ≤ 24 := fb_ct_le _ _
/-- what the model's own part of a state says of one net, behind looksAt -/
def LK (V : St) (g : Nat → Int32) (n : Nat) : Prop := V 208 19 = kA g n ∧ V 208 20 = kR g n ∧ V 208 21 = kD g n
theorem pc_s {V : St} {n : Nat} {g : Nat → Int32} (h : LK V g n) (hg : GG g) (hn : n < 3) : f_X10_partsOf V (V 208 19) = some (nI (nch g n)) := by
  have e := pc_eq (V := V) (A := V 208 19) (by rw [h.1]; exact hg.k24 hn)
  rw [h.1, h.2.1, h.2.2] at e
  rw [h.1]
  exact e
/-! water -/
def uw (t d : Nat) : Nat := min (t + d) 4
def dm (u : Nat) : Int32 := ((1 : Int32) <<< (((4 - nI u) * 6) &&& 31)) - 1
theorem uw_le (t d : Nat) : uw t d ≤ 4 := Nat.min_le_right _ _
theorem wat {t d : Nat} (ht : t ≤ 4) (hd : d ≤ 4) : imin (nI t + nI d) 4 = nI (uw t d) ∧ (if nI t + nI d ≤ 4 then some (nI t + nI d) else some 4) = some (nI (uw t d)) ∧ ((1 : Int32) <<< ((24 - 6 * nI (uw t d)) &&& 31)) - 1 = dm (uw t d) := by
  have : ∀ t d : Fin 5, imin (nI t.val + nI d.val) 4 = nI (uw t.val d.val) ∧ (if nI t.val + nI d.val ≤ 4 then some (nI t.val + nI d.val) else some 4) = some (nI (uw t.val d.val)) ∧ ((1 : Int32) <<< ((24 - 6 * nI (uw t.val d.val)) &&& 31)) - 1 = dm (uw t.val d.val) := by decide +kernel
  exact this ⟨t, by omega⟩ ⟨d, by omega⟩
/-- how many lines of a net are under water -/
def uwg (g : Nat → Int32) (n : Nat) : Nat := uw (g 0).toNatClampNeg (g (6 + 5 * n + 4)).toNatClampNeg
theorem uw_c {V : St} {B n : Nat} {g : Nat → Int32} (h : SR V B g) (hg : GG g) (hn : n < 3) : f_X8_linesUnderWater V B (nI n) = some (nI (uwg g n)) := by
  obtain ⟨⟨t, t1, t2⟩, -, -, hN⟩ := hg
  obtain ⟨-, -, -, -, d, d1, d2⟩ := hN n hn
  rw [f_X8_linesUnderWater, net_eq V B hn, bs, h.1.1, h.2.1 n 4 hn (by decide), t2, d2, (wat t1 d1).1]
  unfold uwg
  rw [t2, d2, nI_clamp (by omega), nI_clamp (by omega)]
theorem uw_m {V : St} {n : Nat} (hg : GG (V 209)) (hn : n < 3) : f_X10_underWater V (nI n) = some (nI (uwg (V 209) n)) := by
  obtain ⟨⟨t, t1, t2⟩, -, -, hN⟩ := hg
  obtain ⟨-, -, -, -, d, d1, d2⟩ := hN n hn
  rw [f_X10_underWater, show (4 : Int32) = nI 4 from rfl, of_eq V hn (by decide), bs, t2, d2]
  refine (wat t1 d1).2.1.trans ?_
  unfold uwg
  rw [t2, d2, nI_clamp (by omega), nI_clamp (by omega)]
theorem dry_c {V : St} {B n : Nat} {g : Nat → Int32} (h : SR V B g) (hg : GG g) (hn : n < 3) : f_X8_dryPlaces V B (nI n) = some (dm (uwg g n)) := by
  rw [f_X8_dryPlaces, uw_c h hg hn, bs]
  rfl
theorem dry_m {V : St} {n : Nat} (hg : GG (V 209)) (hn : n < 3) : f_X10_dry V (nI n) = some (dm (uwg (V 209) n)) := by
  have := hg
  obtain ⟨⟨t, t1, t2⟩, -, -, hN⟩ := this
  obtain ⟨-, -, -, -, d, d1, d2⟩ := hN n hn
  rw [f_X10_dry, uw_m hg hn, bs]
  unfold uwg
  rw [t2, d2, nI_clamp (by omega), nI_clamp (by omega), (wat t1 d1).2.2]
/-- knots that can be read -/
def nrd (g : Nat → Int32) (n : Nat) : Nat := nb (kA g n &&& dm (uwg g n))
theorem rd_m {V : St} {n : Nat} (hg : GG (V 209)) (hn : n < 3) : f_X10_readable V (nI n) = some (nI (nrd (V 209) n)) := by
  rw [f_X10_readable, show (0 : Int32) = nI 0 from rfl, of_eq V hn (by decide), bs, show (1 : Int32) = nI 1 from rfl, of_eq V hn (by decide), bs, dry_m hg hn, bs, bits_eq, bs]
  rfl
theorem cr_c {V : St} {B : Nat} {g : Nat → Int32} (h : SR V B g) (hg : GG g) : f_X8_countReadable V B = some (nI (nrd g 0 + nrd g 1 + nrd g 2)) := by
  have st : ∀ m c n, n < 3 → f_X8_countReadable_b4 (m + 1) V B (nI c) (nI n) = f_X8_countReadable_b4 m V B (nI (c + nrd g n)) (nI (n + 1)) := by
    intro m c n hn
    rw [f_X8_countReadable_b4, if_neg (show ¬ (3 : Int32) ≤ nI n from nI_ge (b := 3) hn (by decide)), net_eq V B hn, bs, kn_eq, bs, dry_c h hg hn, bs, h.eA hn, bc24 (I24.andl (hg.k24 hn)), bs, nI_1, nI_add]
    rfl
  have en : ∀ m c, f_X8_countReadable_b4 (m + 1) V B (nI c) (nI 3) = some (nI c) := by
    intro m c
    rw [f_X8_countReadable_b4, if_pos (by decide)]
  refine (st 499 0 0 (by decide)).trans ((st 498 _ 1 (by decide)).trans ((st 497 _ 2 (by decide)).trans ((en 496 _).trans ?_)))
  rw [Nat.zero_add]
