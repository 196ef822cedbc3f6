/-! sets of places as ints: their bits -/
def I24 (x : Int32) : Prop := ∀ i, 24 ≤ i → bt x i = false
theorem b_1 : ∀ i, i < 32 → bt 1 i = decide (i = 0) := by decide +kernel
theorem b_not (x : Int32) {i : Nat} (hi : i < 32) : bt (x ^^^ (-1)) i = !bt x i := by
  rw [b_xor, b_m1 i hi]
  cases bt x i <;> rfl
theorem b_val (x : Int32) {p : Nat} (hp : p < 32) : ((x >>> (nI p &&& 31)) &&& 1) = if bt x p = true then 1 else 0 := by
  refine b_ext fun i hi => ?_
  rw [b_and, b_1 i hi, b_sshr p hp x hi]
  by_cases h : i = 0
  · subst h
    rw [if_pos (by omega : p + 0 < 32), Nat.add_zero]
    cases e : bt x p
    · rw [if_neg Bool.false_ne_true]
      rfl
    · rw [if_pos rfl]
      rfl
  · rw [decide_eq_false h, Bool.and_false]
    cases e : bt x p
    · rw [if_neg Bool.false_ne_true, b_0]
    · rw [if_pos rfl, b_1 i hi, decide_eq_false h]
theorem b_tst (x : Int32) {p : Nat} (hp : p < 32) : ((x >>> (nI p &&& 31)) &&& 1) = 0 ↔ bt x p = false := by
  rw [b_val x hp]
  cases bt x p <;> decide
theorem b_tst1 (x : Int32) {p : Nat} (hp : p < 32) : ((x >>> (nI p &&& 31)) &&& 1) = 1 ↔ bt x p = true := by
  rw [b_val x hp]
  cases bt x p <;> decide
theorem b_one {p i : Nat} (hp : p < 32) (hi : i < 32) : bt ((1 : Int32) <<< (nI p &&& 31)) i = decide (i = p) := by
  rw [b_shl p hp 1 hi]
  rcases Nat.lt_or_ge i p with h | h
  · rw [decide_eq_false (by omega : ¬ p ≤ i), Bool.false_and, decide_eq_false (by omega : ¬ i = p)]
  · rw [decide_eq_true h, Bool.true_and, b_1 (i - p) (by omega)]
    by_cases e : i = p
    · rw [decide_eq_true e, decide_eq_true (by omega : i - p = 0)]
    · rw [decide_eq_false e, decide_eq_false (by omega : ¬ i - p = 0)]
theorem b_sr {x : Int32} (h : I24 x) (k : Nat) (hk : k < 32) {i : Nat} (hi : i < 32) : bt (x >>> (nI k &&& 31)) i = bt x (i + k) := by
  rw [b_sshr k hk x hi]
  split
  · rw [Nat.add_comm]
  · rw [h 31 (by decide), h (i + k) (by omega)]
theorem b_sl1 (x : Int32) {i : Nat} (hi : i < 32) : bt (x <<< ((1 : Int32) &&& 31)) i = (decide (1 ≤ i) && bt x (i - 1)) := b_shl 1 (by omega) x hi
theorem b_sl6 (x : Int32) {i : Nat} (hi : i < 32) : bt (x <<< ((6 : Int32) &&& 31)) i = (decide (6 ≤ i) && bt x (i - 6)) := b_shl 6 (by omega) x hi
theorem b_sr1 {x : Int32} (h : I24 x) {i : Nat} (hi : i < 32) : bt (x >>> ((1 : Int32) &&& 31)) i = bt x (i + 1) := b_sr h 1 (by omega) hi
theorem b_sr6 {x : Int32} (h : I24 x) {i : Nat} (hi : i < 32) : bt (x >>> ((6 : Int32) &&& 31)) i = bt x (i + 6) := b_sr h 6 (by omega) hi
theorem I24.lt {x : Int32} (h : I24 x) {i : Nat} (hi : bt x i = true) : i < 24 := by
  rcases Nat.lt_or_ge i 24 with c | c
  · exact c
  · rw [h i c] at hi
    cases hi
theorem I24.or {x y : Int32} (hx : I24 x) (hy : I24 y) : I24 (x ||| y) := fun i hi => by rw [b_or, hx i hi, hy i hi]; rfl
theorem I24.andr {x y : Int32} (hy : I24 y) : I24 (x &&& y) := fun i hi => by rw [b_and, hy i hi, Bool.and_false]
theorem I24.andl {x y : Int32} (hx : I24 x) : I24 (x &&& y) := fun i hi => by rw [b_and, hx i hi, Bool.false_and]
theorem I24.zero : I24 0 := fun i _ => b_0 i
theorem I24.one {p : Nat} (hp : p < 24) : I24 ((1 : Int32) <<< (nI p &&& 31)) := fun i hi => by
  rcases Nat.lt_or_ge i 32 with c | c
  · rw [b_one (by omega) c, decide_eq_false (by omega : ¬ i = p)]
  · exact b_big c
theorem b_all {x y : Int32} (hx : I24 x) (hy : I24 y) (h : ∀ i, i < 24 → bt x i = bt y i) : x = y := b_ext fun i hi => by
  rcases Nat.lt_or_ge i 24 with c | c
  · exact h i c
  · rw [hx i c, hy i c]
theorem b_iff {x y : Int32} (h : ∀ i, i < 32 → (bt x i = true ↔ bt y i = true)) : x = y := b_ext fun i hi => by
  have := h i hi
  cases e1 : bt x i <;> cases e2 : bt y i <;> simp_all
theorem b_ne0 {x : Int32} (h : ¬ x = 0) (hx : I24 x) : ∃ i, i < 24 ∧ bt x i = true := by
  refine Classical.byContradiction fun hn => h ?_
  refine b_all hx I24.zero fun i hi => ?_
  rw [b_0]
  cases e : bt x i
  · rfl
  · exact absurd ⟨i, hi, e⟩ hn
/-- the places beside a set -/
def bsd (x R D : Int32) : Int32 := ((((x &&& R) <<< (1 &&& 31)) ||| ((x >>> (1 &&& 31)) &&& R)) ||| ((x &&& D) <<< (6 &&& 31))) ||| ((x >>> (6 &&& 31)) &&& D)
theorem bsd_iff {x R D : Int32} (hx : I24 x) {i : Nat} (hi : i < 32) : bt (bsd x R D) i = true ↔ ∃ p, bt x p = true ∧ adj (bt R) (bt D) p i = true := by
  unfold bsd
  simp only [b_or, b_and, b_sl1 _ hi, b_sr1 hx hi, b_sl6 _ hi, b_sr6 hx hi, Bool.or_eq_true, Bool.and_eq_true, decide_eq_true_eq]
  constructor
  · rintro (((⟨h1, h2, h3⟩ | ⟨h2, h3⟩) | ⟨h1, h2, h3⟩) | ⟨h2, h3⟩)
    · exact ⟨i - 1, h2, adj_iff.mpr (Or.inl ⟨by omega, h3⟩)⟩
    · exact ⟨i + 1, h2, adj_iff.mpr (Or.inr (Or.inl ⟨rfl, h3⟩))⟩
    · exact ⟨i - 6, h2, adj_iff.mpr (Or.inr (Or.inr (Or.inl ⟨by omega, h3⟩)))⟩
    · exact ⟨i + 6, h2, adj_iff.mpr (Or.inr (Or.inr (Or.inr ⟨rfl, h3⟩)))⟩
  · rintro ⟨p, h1, h2⟩
    rcases adj_iff.mp h2 with ⟨e, h⟩ | ⟨e, h⟩ | ⟨e, h⟩ | ⟨e, h⟩
    · subst e
      exact Or.inl (Or.inl (Or.inl ⟨by omega, by rw [Nat.add_sub_cancel]; exact h1, by rw [Nat.add_sub_cancel]; exact h⟩))
    · subst e
      exact Or.inl (Or.inl (Or.inr ⟨h1, h⟩))
    · subst e
      exact Or.inl (Or.inr ⟨by omega, by rw [Nat.add_sub_cancel]; exact h1, by rw [Nat.add_sub_cancel]; exact h⟩)
    · subst e
      exact Or.inr ⟨h1, h⟩
theorem bsd_0 (R D : Int32) : bsd 0 R D = 0 := b_iff fun i hi => by
  rw [bsd_iff I24.zero hi, b_0]
  constructor
  · rintro ⟨p, h, -⟩
    rw [b_0] at h
    cases h
  · intro h
    cases h
/-- C is what hangs together with p in A -/
def Cmp (A R D : PS) (p : Nat) (C : Int32) : Prop := ∀ i, i < 32 → (bt C i = true ↔ con A R D p i)
theorem Cmp.one {A R D : PS} {p : Nat} {C C2 : Int32} (h : Cmp A R D p C) (h2 : Cmp A R D p C2) : C = C2 := b_iff fun i hi => (h i hi).trans (h2 i hi).symm
def Sub (x y : Int32) : Prop := ∀ i, bt x i = true → bt y i = true
def nb (x : Int32) : Nat := fb_ct (bt x) 24
theorem nb_le (x : Int32) : nb x ≤ 24 := fb_ct_le _ _
theorem ct_lt {f g : Nat → Bool} : ∀ {n : Nat}, (∀ k, k < n → f k = true → g k = true) → (∃ k, k < n ∧ f k = false ∧ g k = true) → fb_ct f n < fb_ct g n
  | 0, _, h => by obtain ⟨k, hk, -⟩ := h; omega
  | n + 1, h, hx => by
    rw [fb_ct_succ, fb_ct_succ]
    obtain ⟨k, hk, h1, h2⟩ := hx
    by_cases e : k = n
    · subst e
      have h3 := fb_ct_sub (n := k) (p := f) (q := g) (fun j hj => h j (by omega))
      rw [h1, h2]
      simp
      omega
    · have h3 := ct_lt (n := n) (fun j hj => h j (by omega)) ⟨k, by omega, h1, h2⟩
      have h4 := h n (by omega)
      cases e1 : f n <;> cases e2 : g n <;> simp_all <;> omega
theorem nb_lt {x y : Int32} (hx : I24 x) (hy : I24 y) (h : Sub x y) (hne : ¬ x = y) : nb x < nb y := by
  refine ct_lt (fun k _ => h k) ?_
  refine Classical.byContradiction fun hn => hne ?_
  refine b_all hx hy fun i hi => ?_
  cases e1 : bt x i <;> cases e2 : bt y i
  · rfl
  · exact absurd ⟨i, hi, e1, e2⟩ hn
  · exact absurd (h i e1) (by rw [e2]; exact Bool.false_ne_true)
  · rfl
theorem nb_pos {x : Int32} (hx : I24 x) {p : Nat} (h : bt x p = true) : 0 < nb x := fb_ct_pos.mpr ⟨p, hx.lt h, h⟩
/-- a set that has all that hangs together with p, and nothing else -/
theorem Cmp.of {A R D x : Int32} {p : Nat} (hA : I24 A) (hx : I24 x) (hp : bt x p = true) (hs : ∀ i, bt x i = true → con (bt A) (bt R) (bt D) p i) (hc : Sub (bsd x R D &&& A) x) : Cmp (bt A) (bt R) (bt D) p x := by
  intro i _
  refine ⟨hs i, fun h => h (fun r => bt x r = true) hp fun a b ha hb e => ?_⟩
  have hb32 : b < 32 := Nat.lt_of_lt_of_le (hA.lt hb) (by decide)
  refine hc b ?_
  rw [b_and, (bsd_iff hx hb32).mpr ⟨a, ha, e⟩, hb]
  rfl
theorem con.nx {A R D x : Int32} {p : Nat} (hx : I24 x) (hs : ∀ i, bt x i = true → con (bt A) (bt R) (bt D) p i) {i : Nat} (hi : i < 32) (h : bt (bsd x R D &&& A) i = true) : con (bt A) (bt R) (bt D) p i := by
  rw [b_and, Bool.and_eq_true] at h
  obtain ⟨a, ha, e⟩ := (bsd_iff hx hi).mp h.1
  exact (hs a ha).st h.2 e
/-- the lowest place of a set -/
def isLow (x : Int32) (p : Nat) : Prop := p < 24 ∧ bt x p = true ∧ ∀ q, q < p → bt x q = false
theorem isLow.ex {x : Int32} (hx : I24 x) (h : ¬ x = 0) : ∃ p, isLow x p := by
  obtain ⟨p, h1, h2, h3⟩ := @fb_first (fun i => bt x i = true) (fun _ => Classical.propDecidable _) 24 (b_ne0 h hx)
  exact ⟨p, h1, h2, fun q hq => by
    cases e : bt x q
    · rfl
    · exact absurd e (h3 q hq)⟩
theorem isLow.one {x : Int32} {p q : Nat} (h : isLow x p) (h2 : isLow x q) : p = q := by
  rcases Nat.lt_trichotomy p q with c | c | c
  · have := h2.2.2 p c
    rw [h.2.1] at this
    cases this
  · exact c
  · have := h.2.2 q c
    rw [h2.2.1] at this
    cases this
theorem isLow.ne {x : Int32} {p : Nat} (h : isLow x p) : ¬ x = 0 := fun e => by
  have := h.2.1
  rw [e, b_0] at this
  cases this
theorem b_mk (f : Nat → Bool) : ∀ n, n ≤ 32 → ∃ x : Int32, ∀ i, i < 32 → bt x i = (decide (i < n) && f i)
  | 0, _ => ⟨0, fun i _ => by rw [b_0, decide_eq_false (Nat.not_lt_zero i)]; rfl⟩
  | n + 1, h => by
    obtain ⟨x, hx⟩ := b_mk f n (by omega)
    cases e : f n
    · refine ⟨x, fun i hi => ?_⟩
      rw [hx i hi]
      by_cases c : i = n
      · rw [c, e, Bool.and_false, Bool.and_false]
      · by_cases d : i < n
        · rw [decide_eq_true d, decide_eq_true (by omega : i < n + 1)]
        · rw [decide_eq_false d, decide_eq_false (by omega : ¬ i < n + 1)]
    · refine ⟨x ||| ((1 : Int32) <<< (nI n &&& 31)), fun i hi => ?_⟩
      rw [b_or, hx i hi, b_one (by omega) hi]
      by_cases c : i = n
      · rw [c, e, decide_eq_true rfl, decide_eq_true (by omega : n < n + 1), Bool.or_true]
        rfl
      · rw [decide_eq_false c, Bool.or_false]
        by_cases d : i < n
        · rw [decide_eq_true d, decide_eq_true (by omega : i < n + 1)]
        · rw [decide_eq_false d, decide_eq_false (by omega : ¬ i < n + 1)]
theorem Cmp.ex (A R D : PS) (p : Nat) : ∃ C, Cmp A R D p C := by
  obtain ⟨x, hx⟩ := b_mk (fun i => dP (con A R D p i)) 32 (Nat.le_refl _)
  refine ⟨x, fun i hi => ?_⟩
  rw [hx i hi, decide_eq_true hi, Bool.true_and]
  exact dP_t
/-- the chapters of a set, by their lowest places -/
def ChL (A R D : PS) : Int32 → List Int32 → Prop
  | r, [] => r = 0
  | r, C :: t => (∃ p, isLow r p ∧ Cmp A R D p C) ∧ ChL A R D (r &&& (C ^^^ (-1))) t
theorem I24.minus {x C : Int32} (h : I24 x) : I24 (x &&& (C ^^^ (-1))) := h.andl
theorem b_minus (x C : Int32) {i : Nat} (hi : i < 32) : bt (x &&& (C ^^^ (-1))) i = (bt x i && !bt C i) := by rw [b_and, b_not C hi]
theorem nb_minus {x C : Int32} (hx : I24 x) {p : Nat} (h1 : bt x p = true) (h2 : bt C p = true) : nb (x &&& (C ^^^ (-1))) < nb x := by
  have hp := hx.lt h1
  refine ct_lt (fun k hk h => ?_) ⟨p, hp, by rw [b_minus x C (by omega), h1, h2]; rfl, h1⟩
  rw [b_minus x C (by omega), Bool.and_eq_true] at h
  exact h.1
theorem ChL.ex (A R D : PS) : ∀ (n : Nat) (r : Int32), I24 r → nb r ≤ n → ∃ L, ChL A R D r L ∧ L.length ≤ nb r
  | n, r, hr, hn => by
    by_cases h : r = 0
    · exact ⟨[], h, Nat.zero_le _⟩
    · obtain ⟨p, hp⟩ := isLow.ex hr h
      obtain ⟨C, hC⟩ := Cmp.ex A R D p
      have hCp : bt C p = true := (hC p (by have := hp.1; omega)).mpr (con.rf p)
      have hlt := nb_minus (C := C) hr hp.2.1 hCp
      cases n with
      | zero => omega
      | succ n =>
        obtain ⟨L, h1, h2⟩ := ChL.ex A R D n (r &&& (C ^^^ (-1))) hr.minus (by omega)
        exact ⟨C :: L, ⟨⟨p, hp, hC⟩, h1⟩, by simp only [List.length_cons]; omega⟩
theorem ChL.get (A R D : PS) {r : Int32} (hr : I24 r) : ∃ L, ChL A R D r L ∧ L.length ≤ 24 := by
  obtain ⟨L, h1, h2⟩ := ChL.ex A R D (nb r) r hr (Nat.le_refl _)
  exact ⟨L, h1, Nat.le_trans h2 (nb_le r)⟩
theorem ChL.len {A R D : PS} : ∀ {L : List Int32} {r : Int32}, ChL A R D r L → I24 r → L.length ≤ nb r
  | [], r, _, _ => Nat.zero_le _
  | C :: t, r, ⟨⟨p, hp, hC⟩, h1⟩, hr => by
    have hCp : bt C p = true := (hC p (by have := hp.1; omega)).mpr (con.rf p)
    have hlt := nb_minus (C := C) hr hp.2.1 hCp
    have := ChL.len h1 hr.minus
    simp only [List.length_cons]
    omega
/-- a set of whole chapters -/
def Clo (A R D : PS) (r : Int32) : Prop := (∀ i, bt r i = true → A i = true) ∧ ∀ p q, bt r p = true → con A R D p q → bt r q = true
theorem Clo.minus {A R D : PS} {r C : Int32} {p : Nat} (h : Clo A R D r) (hr : I24 r) (hp : bt r p = true) (hC : Cmp A R D p C) : Clo A R D (r &&& (C ^^^ (-1))) := by
  constructor
  · intro i hi
    refine h.1 i ?_
    rw [b_and, Bool.and_eq_true] at hi
    exact hi.1
  · intro a q ha hq
    have ha24 : a < 24 := I24.lt hr.minus ha
    rw [b_minus r C (by omega), Bool.and_eq_true] at ha
    have hrq := h.2 a q ha.1 hq
    have hq24 : q < 24 := hr.lt hrq
    rw [b_minus r C (by omega), hrq, Bool.true_and]
    cases e : bt C q
    · rfl
    · exfalso
      have k1 : con A R D p q := (hC q (by omega)).mp e
      have k2 : con A R D p a := k1.tr (hq.sy (h.1 a ha.1))
      have k3 := (hC a (by omega)).mpr k2
      rw [k3] at ha
      exact absurd ha.2 (by decide)
theorem Clo.all {A R D : Int32} : Clo (bt A) (bt R) (bt D) A := ⟨fun _ h => h, fun _ _ hp h => h.inA hp⟩
/-- how many chapters -/
theorem ChL.count {A R D : PS} : ∀ {L : List Int32} {r : Int32}, ChL A R D r L → I24 r → Clo A R D r → L.length = fb_ct (fun p => bt r p && fo (con A R D) A p) 24
  | [], r, h, _, _ => by
    have h : r = 0 := h
    subst h
    exact (fb_ct_zero.mpr fun k _ => by rw [b_0]; rfl).symm
  | C :: t, r, ⟨⟨p, hp, hC⟩, h1⟩, hr, hc => by
    have hp24 := hp.1
    have hCp : bt C p = true := (hC p (by omega)).mpr (con.rf p)
    have ih := ChL.count h1 hr.minus (hc.minus hr hp.2.1 hC)
    rw [List.length_cons, ih]
    refine (ct_one hp.1 ?_ ?_ ?_).symm
    · rw [hp.2.1, Bool.true_and]
      refine dP_t.mpr ⟨hc.1 p hp.2.1, fun q hq hAq hk => ?_⟩
      have := hc.2 p q hp.2.1 (hk.sy hAq)
      rw [hp.2.2 q hq] at this
      cases this
    · show (bt (r &&& (C ^^^ (-1))) p && _) = false
      rw [b_minus r C (by omega), hCp]
      simp
    · intro i hi hne
      show (bt r i && _) = (bt (r &&& (C ^^^ (-1))) i && _)
      rw [b_minus r C (by omega)]
      cases e1 : bt r i
      · rfl
      · cases e2 : bt C i
        · rfl
        · have hpi : con A R D p i := (hC i (by omega)).mp e2
          have hf : fo (con A R D) A i = false := by
            refine dP_f.mpr fun h9 => ?_
            rcases Nat.lt_or_ge p i with c | c
            · exact h9.2 p c (hc.1 p hp.2.1) hpi
            · have : bt r i = false := hp.2.2 i (by omega)
              rw [e1] at this
              cases this
          rw [hf]
          rfl
theorem ChL.parts {A R D : Int32} {L : List Int32} (h : ChL (bt A) (bt R) (bt D) A L) (hA : I24 A) : L.length = pt (con (bt A) (bt R) (bt D)) (bt A) := by
  rw [ChL.count h hA Clo.all]
  refine fb_ct_cong fun p _ => ?_
  cases e : fo (con (bt A) (bt R) (bt D)) (bt A) p
  · rw [Bool.and_false]
  · rw [(dP_t.mp e).1]
    rfl
theorem ChL.uniq {A R D : PS} : ∀ {L L2 : List Int32} {r : Int32}, ChL A R D r L → ChL A R D r L2 → L = L2
  | [], [], _, _, _ => rfl
  | [], C :: t, r, h, ⟨⟨p, hp, _⟩, _⟩ => absurd h hp.ne
  | C :: t, [], r, ⟨⟨p, hp, _⟩, _⟩, h => absurd h hp.ne
  | C :: t, C2 :: t2, r, ⟨⟨p, hp, hC⟩, h1⟩, ⟨⟨p2, hp2, hC2⟩, h2⟩ => by
    cases hp.one hp2
    cases hC.one hC2
    rw [ChL.uniq h1 h2]
