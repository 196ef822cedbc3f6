/-! a net's chapters, named by their lowest places -/
noncomputable def chC (g : Nat → Int32) (n p : Nat) : Int32 := Classical.choose (Cmp.ex (bt (kA g n)) (bt (kR g n)) (bt (kD g n)) p)
theorem chC_s (g : Nat → Int32) (n p : Nat) : Cmp (bt (kA g n)) (bt (kR g n)) (bt (kD g n)) p (chC g n p) := Classical.choose_spec (Cmp.ex (bt (kA g n)) (bt (kR g n)) (bt (kD g n)) p)
def cn (g : Nat → Int32) (n : Nat) : Nat → Nat → Prop := con (bt (kA g n)) (bt (kR g n)) (bt (kD g n))
noncomputable def lw (g : Nat → Int32) (n p : Nat) : Nat := if h : dP (∃ z, isLow (chC g n p) z) = true then Classical.choose (dP_t.mp h) else 0
theorem Cmp.cg {A R D : PS} {p q : Nat} {C : Int32} (hp : A p = true) (h : con A R D p q) (hC : Cmp A R D p C) : Cmp A R D q C := fun i hi => (hC i hi).trans ⟨fun c => (h.sy hp).tr c, fun c => h.tr c⟩
section CP
variable {g : Nat → Int32} {n : Nat}
theorem chC_eq {p q : Nat} (hp : bt (kA g n) p = true) (h : cn g n p q) : chC g n p = chC g n q := ((chC_s g n p).cg hp h).one (chC_s g n q)
theorem chC_24 (hA : I24 (kA g n)) {p : Nat} (hp : bt (kA g n) p = true) : I24 (chC g n p) := ch_I24 hA hp (chC_s g n p)
theorem chC_me (hA : I24 (kA g n)) {p : Nat} (hp : bt (kA g n) p = true) : bt (chC g n p) p = true := (chC_s g n p p (by have := hA.lt hp; omega)).mpr (con.rf p)
theorem chC_ne (hA : I24 (kA g n)) {p : Nat} (hp : bt (kA g n) p = true) : ¬ chC g n p = 0 := fun e => by
  have := chC_me hA hp
  rw [e, b_0] at this
  cases this
theorem lw_s (hA : I24 (kA g n)) {p : Nat} (hp : bt (kA g n) p = true) : isLow (chC g n p) (lw g n p) := by
  have h : ∃ z, isLow (chC g n p) z := isLow.ex (chC_24 hA hp) (chC_ne hA hp)
  unfold lw
  rw [dif_pos (dP_t.mpr h)]
  exact Classical.choose_spec h
theorem lw_le (hA : I24 (kA g n)) {p : Nat} (hp : bt (kA g n) p = true) : lw g n p ≤ p := Nat.le_of_not_lt fun h => by
  have := (lw_s hA hp).2.2 p h
  rw [chC_me hA hp] at this
  cases this
theorem lw_lt (hA : I24 (kA g n)) {p : Nat} (hp : bt (kA g n) p = true) : lw g n p < 24 := (lw_s hA hp).1
theorem lw_c (hA : I24 (kA g n)) {p : Nat} (hp : bt (kA g n) p = true) : cn g n p (lw g n p) := (chC_s g n p _ (by have := lw_lt hA hp; omega)).mp (lw_s hA hp).2.1
theorem lw_A (hA : I24 (kA g n)) {p : Nat} (hp : bt (kA g n) p = true) : bt (kA g n) (lw g n p) = true := (lw_c hA hp).inA hp
theorem lw_cg (hA : I24 (kA g n)) {p q : Nat} (hp : bt (kA g n) p = true) (h : cn g n p q) : lw g n p = lw g n q := by
  have h1 := lw_s hA hp
  rw [chC_eq hp h] at h1
  exact h1.one (lw_s hA (h.inA hp))
theorem lw_lw (hA : I24 (kA g n)) {p : Nat} (hp : bt (kA g n) p = true) : lw g n (lw g n p) = lw g n p := (lw_cg hA hp (lw_c hA hp)).symm
theorem lw_iff (hA : I24 (kA g n)) {p q : Nat} (hp : bt (kA g n) p = true) (hq : bt (kA g n) q = true) : lw g n p = lw g n q ↔ cn g n p q := by
  constructor
  · intro e
    have h1 := lw_c hA hp
    have h2 := lw_c hA hq
    rw [e] at h1
    exact h1.tr (h2.sy hq)
  · exact lw_cg hA hp
/-- whether a place is the lowest of its chapter -/
noncomputable def fs (g : Nat → Int32) (n p : Nat) : Bool := bt (kA g n) p && decide (lw g n p = p)
theorem fs_t {p : Nat} : fs g n p = true ↔ bt (kA g n) p = true ∧ lw g n p = p := by
  unfold fs
  rw [Bool.and_eq_true, decide_eq_true_eq]
theorem fs_fo (hA : I24 (kA g n)) (p : Nat) : fs g n p = fo (con (bt (kA g n)) (bt (kR g n)) (bt (kD g n))) (bt (kA g n)) p := by
  have h : (fs g n p = true) ↔ (bt (kA g n) p = true ∧ ∀ q, q < p → bt (kA g n) q = true → ¬ con (bt (kA g n)) (bt (kR g n)) (bt (kD g n)) q p) := by
    rw [fs_t]
    constructor
    · rintro ⟨h1, h2⟩
      refine ⟨h1, fun q hq hqA hc => ?_⟩
      have h3 := lw_s hA h1
      rw [h2] at h3
      have h4 := h3.2.2 q hq
      have h5 : bt (chC g n p) q = true := (chC_s g n p q (by have := hA.lt hqA; omega)).mpr (hc.sy hqA)
      rw [h4] at h5
      cases h5
    · rintro ⟨h1, h2⟩
      refine ⟨h1, ?_⟩
      have h3 := lw_le hA h1
      rcases Nat.lt_or_ge (lw g n p) p with c | c
      · exact absurd ((lw_c hA h1).sy h1) (h2 _ c (lw_A hA h1))
      · omega
  cases e : fo (con (bt (kA g n)) (bt (kR g n)) (bt (kD g n))) (bt (kA g n)) p
  · cases e2 : fs g n p
    · rfl
    · exact absurd (h.mp e2) (dP_f.mp e)
  · exact h.mpr (dP_t.mp e)
theorem fs_ct (hA : I24 (kA g n)) : fb_ct (fs g n) 24 = nch g n := fb_ct_cong fun p _ => fs_fo hA p
theorem sz_ct (hA : I24 (kA g n)) {a : Nat} (ha : bt (kA g n) a = true) : fb_ct (fun p => bt (kA g n) p && decide (lw g n p = lw g n a)) 24 = nb (chC g n a) := by
  refine fb_ct_cong fun p hp => ?_
  cases e : bt (chC g n a) p
  · cases e2 : bt (kA g n) p
    · rfl
    · rw [Bool.true_and, decide_eq_false_iff_not]
      intro h
      have := (chC_s g n a p (by omega)).mpr ((lw_iff hA ha e2).mp h.symm)
      rw [e] at this
      cases this
  · have h := (chC_s g n a p (by omega)).mp e
    rw [h.inA ha, Bool.true_and, decide_eq_true_eq]
    exact (lw_cg hA ha h).symm
theorem dm_dec : ∀ u : Fin 5, ∀ p : Fin 24, bt (dm u.val) p.val = decide (p.val / 6 < 4 - u.val) := by decide +kernel
theorem dm_bt {u p : Nat} (hu : u ≤ 4) (hp : p < 24) : bt (dm u) p = decide (p / 6 < 4 - u) := dm_dec ⟨u, by omega⟩ ⟨p, hp⟩
theorem rd_ct (hA : I24 (kA g n)) {a u : Nat} (hu : u ≤ 4) (ha : bt (kA g n) a = true) : fb_ct (fun p => (bt (kA g n) p && decide (lw g n p = lw g n a)) && decide (p / 6 < 4 - u)) 24 = nb (chC g n a &&& dm u) := by
  refine fb_ct_cong fun p hp => ?_
  show _ = bt (chC g n a &&& dm u) p
  rw [b_and, dm_bt hu hp]
  congr 1
  cases e : bt (chC g n a) p
  · cases e2 : bt (kA g n) p
    · rfl
    · rw [Bool.true_and, decide_eq_false_iff_not]
      intro h
      have := (chC_s g n a p (by omega)).mpr ((lw_iff hA ha e2).mp h.symm)
      rw [e] at this
      cases this
  · have h := (chC_s g n a p (by omega)).mp e
    rw [h.inA ha, Bool.true_and, decide_eq_true_eq]
    exact (lw_cg hA ha h).symm
end CP
/-! the list of chapters, and ranked -/
theorem ch_has {A R D : PS} : ∀ {L : List Int32} {r : Int32}, ChL A R D r L → I24 r → Clo A R D r → ∀ p, bt r p = true → ∃ C, C ∈ L ∧ Cmp A R D p C
  | [], r, h, _, _, p, hp => by
    have h : r = 0 := h
    rw [h, b_0] at hp
    cases hp
  | C :: t, r, h, hr, hc, p, hp => by
    obtain ⟨⟨p0, h1, h2⟩, h3⟩ := h
    have hp24 := hr.lt hp
    cases e : bt C p
    · obtain ⟨C2, k1, k2⟩ := ch_has h3 hr.minus (hc.minus hr h1.2.1 h2) p (by rw [b_minus _ _ (by omega), hp, e]; rfl)
      exact ⟨C2, List.mem_cons_of_mem _ k1, k2⟩
    · exact ⟨C, List.mem_cons_self, h2.cg (hc.at h1) ((h2 p (by omega)).mp e)⟩
def LR (C C2 : Int32) : Prop := ∀ a b, isLow C a → isLow C2 b → a < b
def RK (C C2 : Int32) : Prop := nb C2 < nb C ∨ (nb C2 = nb C ∧ LR C C2)
theorem ch_srt {A R D : PS} : ∀ {L : List Int32} {r : Int32}, ChL A R D r L → I24 r → Clo A R D r → L.Pairwise LR
  | [], _, _, _, _ => List.Pairwise.nil
  | C :: t, r, h, hr, hc => by
    obtain ⟨⟨p0, h1, h2⟩, h3⟩ := h
    have hc2 := hc.minus hr h1.2.1 h2
    refine List.Pairwise.cons (fun C2 hC2 a b ha hb => ?_) (ch_srt h3 hr.minus hc2)
    obtain ⟨q, q1, q2, -, q4⟩ := ch_mem h3 hr.minus hc2 hC2
    have ea := ha.one (ch_low hc h1 h2)
    have eb := hb.one q4
    subst ea eb
    rw [b_minus _ _ (by omega)] at q1
    have q5 : bt r b = true := by
      cases e : bt r b
      · rw [e] at q1
        cases q1
      · rfl
    rcases Nat.lt_or_ge a b with c | c
    · exact c
    · rcases Nat.lt_or_ge b a with d | d
      · rw [h1.2.2 b d] at q5
        cases q5
      · have : a = b := by omega
        subst this
        rw [(h2 a (by omega)).mpr (con.rf a), Bool.not_true, Bool.and_false] at q1
        cases q1
theorem fil_mem {s : Nat} {C : Int32} : ∀ {L : List Int32}, C ∈ fil s L → C ∈ L ∧ nb C = s
  | [], h => by cases h
  | X :: t, h => by
    unfold fil at h
    split at h
    · rcases List.mem_cons.mp h with rfl | h
      · exact ⟨List.mem_cons_self, by assumption⟩
      · exact ⟨List.mem_cons_of_mem _ (fil_mem h).1, (fil_mem h).2⟩
    · exact ⟨List.mem_cons_of_mem _ (fil_mem h).1, (fil_mem h).2⟩
theorem fil_pw {s : Nat} : ∀ {L : List Int32}, L.Pairwise LR → (fil s L).Pairwise RK
  | [], _ => List.Pairwise.nil
  | X :: t, h => by
    obtain ⟨h1, h2⟩ := List.pairwise_cons.mp h
    unfold fil
    split
    · rename_i hX
      exact List.Pairwise.cons (fun C2 hC2 => Or.inr ⟨by rw [(fil_mem hC2).2, hX], h1 C2 (fil_mem hC2).1⟩) (fil_pw h2)
    · exact fil_pw h2
theorem sel_mem {C : Int32} {L : List Int32} : ∀ {s : Nat}, C ∈ selN s L → C ∈ L ∧ nb C ≤ s
  | 0, h => by cases h
  | s + 1, h => by
    rcases List.mem_append.mp h with h | h
    · exact ⟨(fil_mem h).1, by rw [(fil_mem h).2]; exact Nat.le_refl _⟩
    · exact ⟨(sel_mem h).1, Nat.le_succ_of_le (sel_mem h).2⟩
theorem sel_pw {L : List Int32} (h : L.Pairwise LR) : ∀ s : Nat, (selN s L).Pairwise RK
  | 0 => List.Pairwise.nil
  | s + 1 => List.pairwise_append.mpr ⟨fil_pw h, sel_pw h s, fun a ha b hb => Or.inl (by rw [(fil_mem ha).2]; exact Nat.lt_succ_of_le (sel_mem hb).2)⟩
theorem pk_get : ∀ (X : List Int32) (j : Nat), j < 2 ^ 31 → pk (nI j) X = X[j]?
  | [], j, _ => by cases j <;> rfl
  | C :: t, 0, _ => rfl
  | C :: t, j + 1, h => by
    rw [pk_cons, if_neg (nI_ne0 (by omega) h), nI_m1, pk_get t j (by omega)]
    rfl
theorem gf_max (L : List Int32) : (∀ C ∈ L, nb C ≤ nb (gfold 0 L)) ∧ (nb (gfold 0 L) = 0 ∨ gfold 0 L ∈ L) := by
  rcases gf_split L 0 with ⟨h1, h2⟩ | ⟨pre, post, h1, h2, h3, h4⟩
  · refine ⟨fun C hC => by rw [h1]; exact h2 C hC, Or.inl (by rw [h1, nb_0])⟩
  · refine ⟨fun C hC => ?_, Or.inr ?_⟩
    rotate_left
    · have : gfold 0 L ∈ pre ++ gfold 0 L :: post := List.mem_append_right _ List.mem_cons_self
      rw [← h1] at this
      exact this
    rw [h1] at hC
    rcases List.mem_append.mp hC with h | h
    · exact Nat.le_of_lt (h2 C h)
    · rcases List.mem_cons.mp h with rfl | h
      · exact Nat.le_refl _
      · exact h3 C h
/-- the greatest of the chapters whose lowest place is below k -/
noncomputable def mxs (g : Nat → Int32) (n : Nat) : Nat → Nat
  | 0 => 0
  | k + 1 => if fs g n k = true then max (mxs g n k) (nb (chC g n k)) else mxs g n k
theorem mxs_ge {g : Nat → Int32} {n p : Nat} (hp : fs g n p = true) : ∀ {k : Nat}, p < k → nb (chC g n p) ≤ mxs g n k
  | 0, h => by omega
  | k + 1, h => by
    unfold mxs
    by_cases e : p = k
    · subst e
      rw [if_pos hp]
      exact Nat.le_max_right _ _
    · have := mxs_ge hp (k := k) (by omega)
      split
      · exact Nat.le_trans this (Nat.le_max_left _ _)
      · exact this
theorem mxs_le {g : Nat → Int32} {n M : Nat} (h : ∀ p, fs g n p = true → nb (chC g n p) ≤ M) : ∀ k : Nat, mxs g n k ≤ M
  | 0 => Nat.zero_le _
  | k + 1 => by
    unfold mxs
    split
    · rename_i e
      exact Nat.max_le.mpr ⟨mxs_le h k, h k e⟩
    · exact mxs_le h k
theorem mxs_gf {g : Nat → Int32} {n : Nat} (hA : I24 (kA g n)) {L : List Int32} (h1 : ChL (bt (kA g n)) (bt (kR g n)) (bt (kD g n)) (kA g n) L) : mxs g n 24 = nb (gfold 0 L) := by
  obtain ⟨m1, m2⟩ := gf_max L
  refine Nat.le_antisymm (mxs_le (fun p hp => ?_) 24) ?_
  · obtain ⟨C, k1, k2⟩ := ch_has h1 hA Clo.all p (fs_t.mp hp).1
    rw [(chC_s g n p).one k2]
    exact m1 C k1
  · rcases m2 with m2 | m2
    · omega
    · obtain ⟨q, q1, q2, q3, q4⟩ := ch_mem h1 hA Clo.all m2
      have e := (chC_s g n q).one q3
      have hq : fs g n q = true := fs_t.mpr ⟨q1, by
        have := lw_s hA q1
        rw [e] at this
        exact this.one q4⟩
      rw [← e]
      exact mxs_ge hq q2
/-- the chapter at a rank -/
theorem rk_at {g : Nat → Int32} {n : Nat} (hA : I24 (kA g n)) {L : List Int32} (h1 : ChL (bt (kA g n)) (bt (kR g n)) (bt (kD g n)) (kA g n) L) : (selN 24 L).length = nch g n ∧ ∀ (j : Nat) (C : Int32), (selN 24 L)[j]? = some C → ∃ q, fs g n q = true ∧ q < 24 ∧ C = chC g n q ∧ isLow C q := by
  refine ⟨?_, fun j C hj => ?_⟩
  · rw [sel_len L.length L rfl (ch_pos h1 hA Clo.all), h1.parts hA]
    rfl
  · obtain ⟨q, q1, q2, q3, q4⟩ := ch_mem h1 hA Clo.all (sel_mem (List.mem_of_getElem? hj)).1
    have e := (chC_s g n q).one q3
    exact ⟨q, fs_t.mpr ⟨q1, by
        have := lw_s hA q1
        rw [e] at this
        exact this.one q4⟩, q2, e.symm, q4⟩
theorem rk_ord {g : Nat → Int32} {n : Nat} (hA : I24 (kA g n)) {L : List Int32} (h1 : ChL (bt (kA g n)) (bt (kR g n)) (bt (kD g n)) (kA g n) L) {j : Nat} {C C2 : Int32} (e1 : (selN 24 L)[j]? = some C) (e2 : (selN 24 L)[j + 1]? = some C2) : RK C C2 := by
  have h := sel_pw (ch_srt h1 hA Clo.all) 24
  obtain ⟨l1, e1⟩ := List.getElem?_eq_some_iff.mp e1
  obtain ⟨l2, e2⟩ := List.getElem?_eq_some_iff.mp e2
  have := List.pairwise_iff_getElem.mp h j (j + 1) l1 l2 (Nat.lt_succ_self j)
  rw [e1, e2] at this
  exact this
