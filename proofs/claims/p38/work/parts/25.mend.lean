/-! the best mending -/
noncomputable def nbC (A R D : Int32) (p : Nat) : Nat := fb_ct (fun i => dP (con (bt A) (bt R) (bt D) p i)) 24
theorem nb_Cmp {A R D C : Int32} {p : Nat} (h : Cmp (bt A) (bt R) (bt D) p C) : nb C = nbC A R D p := fb_ct_cong fun i hi => by
  have hh := h i (by omega)
  cases e : bt C i
  · refine (dP_f.mpr fun h9 => ?_).symm
    rw [hh.mpr h9] at e
    cases e
  · exact (dP_t.mpr (hh.mp e)).symm
theorem nbC_le (A R D : Int32) (p : Nat) : nbC A R D p ≤ 24 := fb_ct_le _ _
theorem nbC_pos (A R D : Int32) {p : Nat} (hp : p < 24) : 0 < nbC A R D p := fb_ct_pos.mpr ⟨p, hp, dP_t.mpr (con.rf p)⟩
noncomputable def jv (A R D : Int32) (p q : Nat) : Nat := if dP (bt A p = true ∧ bt A q = true ∧ ¬ con (bt A) (bt R) (bt D) p q) = true then nbC A R D p + nbC A R D q else 0
theorem jv_yes {A R D : Int32} {p q : Nat} (h1 : bt A p = true) (h2 : bt A q = true) (h3 : ¬ con (bt A) (bt R) (bt D) p q) : jv A R D p q = nbC A R D p + nbC A R D q := if_pos (dP_t.mpr ⟨h1, h2, h3⟩)
theorem jv_no {A R D : Int32} {p q : Nat} (h : ¬ (bt A p = true ∧ bt A q = true ∧ ¬ con (bt A) (bt R) (bt D) p q)) : jv A R D p q = 0 := if_neg (fun e => h (dP_t.mp e))
theorem jv_le (A R D : Int32) (p q : Nat) : jv A R D p q ≤ 48 := by
  have h1 := nbC_le A R D p
  have h2 := nbC_le A R D q
  unfold jv
  split <;> omega
theorem chap_any {V : St} {k p : Nat} (hp : p < 24) (hA : I24 (nA V k)) : ∃ C, f_X3_chapterAt V k (nI p) = some C ∧ I24 C ∧ (bt (nA V k) p = false → C = 0) ∧ (bt (nA V k) p = true → Cmp (bt (nA V k)) (bt (nR V k)) (bt (nD V k)) p C ∧ ¬ C = 0) := by
  cases e : bt (nA V k) p
  · exact ⟨0, chap_0 hp e, I24.zero, fun _ => rfl, fun h => by cases h⟩
  · obtain ⟨C, h1, h2, h3⟩ := chap_eq hp hA e
    refine ⟨C, h1, h3, fun h => by (cases h), fun _ => ⟨h2, fun z => ?_⟩⟩
    have := (h2 p (by omega)).mpr (con.rf p)
    rw [z, b_0] at this
    cases this
theorem kj_eq {V : St} {k : Nat} (hA : I24 (nA V k)) {p q : Nat} (hp : p < 24) (hq : q < 24) {b : Bool} (hb : f_X9_areBeside (nI p) (nI q) = some 1) (ht : f_X3_isTornBetween V k (nI p) (nI q) = some (bI b)) : f_X3_knotsJoinedBy V k (nI p) (nI q) = some (nI (if b = true then jv (nA V k) (nR V k) (nD V k) p q else 0)) := by
  rw [f_X3_knotsJoinedBy, hb, bs, if_neg (by decide), ht, bs]
  cases b
  · rw [if_pos (show bI false = 0 by decide), if_neg Bool.false_ne_true]
    rfl
  · rw [if_neg (show ¬ bI true = 0 by decide), if_pos rfl]
    obtain ⟨C1, a1, a2, a3, a4⟩ := chap_any hp hA
    obtain ⟨C2, b1, b2, b3, b4⟩ := chap_any hq hA
    rw [a1, bs, b1, bs]
    cases ep : bt (nA V k) p
    · rw [if_pos (a3 ep), jv_no (fun h => by rw [ep] at h; cases h.1)]
      rfl
    · rw [if_neg (a4 ep).2]
      cases eq : bt (nA V k) q
      · rw [if_pos (b3 eq), jv_no (fun h => by rw [eq] at h; cases h.2.1)]
        rfl
      · rw [if_neg (b4 eq).2]
        have c1 := (a4 ep).1
        have c2 := (b4 eq).1
        by_cases hc : con (bt (nA V k)) (bt (nR V k)) (bt (nD V k)) p q
        · rw [if_pos (b_iff fun i hi => by rw [c1 i hi, c2 i hi]; exact ⟨fun h => (hc.sy ep).tr h, fun h => hc.tr h⟩), jv_no (fun h => h.2.2 hc)]
          rfl
        · rw [if_neg (fun e => hc ((c1 q (by omega)).mp (by rw [e]; exact (c2 q (by omega)).mpr (con.rf q)))), bc24 (a2.or b2), bs, jv_yes ep eq hc, ← nb_Cmp c1, ← nb_Cmp c2]
          congr 2
          have := fb_ct_or (p := bt C1) (q := bt C2) (n := 24) (fun i hi h => hc (((c1 i (by omega)).mp h.1).tr (((c2 i (by omega)).mp h.2).sy eq)))
          unfold nb
          rw [← this]
          exact fb_ct_cong fun i _ => b_or C1 C2 i
theorem nr_b (b : Bool) : nr .boolean (bI b) = some (bI b) := by cases b <;> decide +kernel
theorem acr1 {p : Nat} (hp : p < 24) : f_X9_isAcross (nI p) (nI (p + 1)) = some 1 ∧ imin (nI p) (nI (p + 1)) = nI p ∧ f_X9_twineFor (nI p) (nI (p + 1)) = some 1 ∧ f_X9_areBeside (nI p) (nI (p + 1)) = some (bI (bt RT p)) ∧ (bt RT p = true → p + 1 < 24) := by
  have : ∀ p : Fin 24, f_X9_isAcross (nI p.val) (nI (p.val + 1)) = some 1 ∧ imin (nI p.val) (nI (p.val + 1)) = nI p.val ∧ f_X9_twineFor (nI p.val) (nI (p.val + 1)) = some 1 ∧ f_X9_areBeside (nI p.val) (nI (p.val + 1)) = some (bI (bt RT p.val)) ∧ (bt RT p.val = true → p.val + 1 < 24) := by decide +kernel
  exact this ⟨p, hp⟩
theorem acr6 {p : Nat} (hp : p < 24) : f_X9_isAcross (nI p) (nI (p + 6)) = some 0 ∧ imin (nI p) (nI (p + 6)) = nI p ∧ f_X9_twineFor (nI p) (nI (p + 6)) = some 2 ∧ f_X9_areBeside (nI p) (nI (p + 6)) = some (bI (bt DN p)) ∧ (bt DN p = true → p + 6 < 24) := by
  have : ∀ p : Fin 24, f_X9_isAcross (nI p.val) (nI (p.val + 6)) = some 0 ∧ imin (nI p.val) (nI (p.val + 6)) = nI p.val ∧ f_X9_twineFor (nI p.val) (nI (p.val + 6)) = some 2 ∧ f_X9_areBeside (nI p.val) (nI (p.val + 6)) = some (bI (bt DN p.val)) ∧ (bt DN p.val = true → p.val + 6 < 24) := by decide +kernel
  exact this ⟨p, hp⟩
theorem torn1 (V : St) (k : Nat) {p : Nat} (hp : p < 24) : f_X3_isTornBetween V k (nI p) (nI (p + 1)) = some (bI (bt (V k 2) p)) := by
  obtain ⟨h1, h2, -⟩ := acr1 hp
  rw [f_X3_isTornBetween, h1, bs, if_neg (by decide), f_X3_isTornBetween_b19, h2, isIn_eq _ (by omega), bs, nr_b, bs]
theorem torn6 (V : St) (k : Nat) {p : Nat} (hp : p < 24) : f_X3_isTornBetween V k (nI p) (nI (p + 6)) = some (bI (bt (V k 3) p)) := by
  obtain ⟨h1, h2, -⟩ := acr6 hp
  rw [f_X3_isTornBetween, h1, bs, if_pos rfl, f_X3_isTornBetween_b19, h2, isIn_eq _ (by omega), bs, nr_b, bs]
noncomputable def fA (T A R D : Int32) (p : Nat) : Nat := if bt T p = true then jv A R D p (p + 1) else 0
noncomputable def fD (T A R D : Int32) (p : Nat) : Nat := if bt T p = true then jv A R D p (p + 6) else 0
theorem fA_le (T A R D : Int32) (p : Nat) : fA T A R D p ≤ 48 := by
  have := jv_le A R D p (p + 1)
  unfold fA
  split <;> omega
theorem fD_le (T A R D : Int32) (p : Nat) : fD T A R D p ≤ 48 := by
  have := jv_le A R D p (p + 6)
  unfold fD
  split <;> omega
theorem kj_1 {V : St} {k : Nat} (hA : I24 (nA V k)) (hT : Sub (V k 2) RT) {p : Nat} (hp : p < 24) : f_X3_knotsJoinedBy V k (nI p) (nI (p + 1)) = some (nI (fA (V k 2) (nA V k) (nR V k) (nD V k) p)) := by
  obtain ⟨-, -, -, h4, h5⟩ := acr1 hp
  cases e : bt RT p
  · rw [e] at h4
    rw [f_X3_knotsJoinedBy, h4, bs, if_pos (show bI false = 0 by decide)]
    have : bt (V k 2) p = false := by
      cases z : bt (V k 2) p
      · rfl
      · rw [hT p z] at e
        cases e
    unfold fA
    rw [this, if_neg Bool.false_ne_true]
    rfl
  · rw [e] at h4
    exact kj_eq hA hp (h5 e) h4 (torn1 V k hp)
theorem kj_6 {V : St} {k : Nat} (hA : I24 (nA V k)) (hT : Sub (V k 3) DN) {p : Nat} (hp : p < 24) : f_X3_knotsJoinedBy V k (nI p) (nI (p + 6)) = some (nI (fD (V k 3) (nA V k) (nR V k) (nD V k) p)) := by
  obtain ⟨-, -, -, h4, h5⟩ := acr6 hp
  cases e : bt DN p
  · rw [e] at h4
    rw [f_X3_knotsJoinedBy, h4, bs, if_pos (show bI false = 0 by decide)]
    have : bt (V k 3) p = false := by
      cases z : bt (V k 3) p
      · rfl
      · rw [hT p z] at e
        cases e
    unfold fD
    rw [this, if_neg Bool.false_ne_true]
    rfl
  · rw [e] at h4
    exact kj_eq hA hp (h5 e) h4 (torn6 V k hp)
/-! the first greatest of a row -/
def am (f : Nat → Nat) : Nat → Nat × Nat
  | 0 => (0, 0)
  | k + 1 => if (am f k).1 < f k then (f k, k) else am f k
theorem am_succ (f : Nat → Nat) (k : Nat) : am f (k + 1) = if (am f k).1 < f k then (f k, k) else am f k := rfl
theorem am_le {f : Nat → Nat} (h : ∀ k, f k ≤ 48) : ∀ k, (am f k).1 ≤ 48 ∧ (am f k).2 ≤ k
  | 0 => ⟨Nat.zero_le _, Nat.le_refl _⟩
  | k + 1 => by
    have := am_le h k
    have := h k
    rw [am_succ]
    split
    · exact ⟨h k, Nat.le_succ k⟩
    · omega
def cb (x : Int32) (a d : Nat × Nat) : Int32 × Nat × Nat := if a.1 < d.1 then (if x = 0 then nI d.2 else nI d.2 + 6, d.1, 2) else if 0 < a.1 then (if x = 0 then nI a.2 else nI a.2 + 1, a.1, 1) else (-1, 0, 0)
def nxN (b : Int32 × Nat × Nat) (v tw : Nat) (best : Int32) : Int32 × Nat × Nat := if b.2.1 < v ∨ (¬ v < b.2.1 ∧ tw < b.2.2) then (best, v, tw) else b
theorem cb1 {x : Int32} {va ia vd id : Nat} (h : va < vd) : cb x (va, ia) (vd, id) = (if x = 0 then nI id else nI id + 6, vd, 2) := if_pos h
theorem cb2 {x : Int32} {va ia vd id : Nat} (h : ¬ va < vd) (h2 : 0 < va) : cb x (va, ia) (vd, id) = (if x = 0 then nI ia else nI ia + 1, va, 1) := (if_neg h).trans (if_pos h2)
theorem cb3 {x : Int32} {va ia vd id : Nat} (h : ¬ va < vd) (h2 : ¬ 0 < va) : cb x (va, ia) (vd, id) = (-1, 0, 0) := (if_neg h).trans (if_neg h2)
theorem nx1 {b best : Int32} {k t v tw : Nat} (h : k < v ∨ (¬ v < k ∧ tw < t)) : nxN (b, k, t) v tw best = (best, v, tw) := if_pos h
theorem nx2 {b best : Int32} {k t v tw : Nat} (h : ¬ (k < v ∨ (¬ v < k ∧ tw < t))) : nxN (b, k, t) v tw best = (b, k, t) := if_neg h
theorem cb_a (x : Int32) (va ia vd id a p : Nat) : cb x (if va < a then (a, p) else (va, ia)) (vd, id) = nxN (cb x (va, ia) (vd, id)) a 1 (if x = 0 then nI p else nI p + 1) := by
  by_cases h1 : va < vd
  · rw [cb1 h1]
    by_cases h3 : a < vd
    · rw [nx2 (by omega)]
      by_cases h0 : va < a
      · rw [if_pos h0, cb1 h3]
      · rw [if_neg h0, cb1 h1]
    · rw [nx1 (by omega), if_pos (by omega : va < a), cb2 h3 (by omega)]
  · by_cases h2 : 0 < va
    · rw [cb2 h1 h2]
      by_cases h0 : va < a
      · rw [if_pos h0, nx1 (by omega), cb2 (by omega) (by omega)]
      · rw [if_neg h0, nx2 (by omega), cb2 h1 h2]
    · rw [cb3 h1 h2]
      by_cases h0 : va < a
      · rw [if_pos h0, nx1 (by omega), cb2 (by omega) (by omega)]
      · rw [if_neg h0, nx2 (by omega), cb3 h1 h2]
theorem cb_d (x : Int32) (va ia vd id d p : Nat) : cb x (va, ia) (if vd < d then (d, p) else (vd, id)) = nxN (cb x (va, ia) (vd, id)) d 2 (if x = 0 then nI p else nI p + 6) := by
  by_cases h1 : va < vd
  · rw [cb1 h1]
    by_cases h0 : vd < d
    · rw [if_pos h0, nx1 (by omega), cb1 (by omega)]
    · rw [if_neg h0, nx2 (by omega), cb1 h1]
  · by_cases h2 : 0 < va
    · rw [cb2 h1 h2]
      by_cases h0 : vd < d
      · rw [if_pos h0]
        by_cases h3 : va < d
        · rw [nx1 (by omega), cb1 h3]
        · rw [nx2 (by omega), cb2 h3 h2]
      · rw [if_neg h0, nx2 (by omega), cb2 h1 h2]
    · rw [cb3 h1 h2]
      by_cases h0 : vd < d
      · rw [if_pos h0, nx1 (by omega), cb1 (by omega)]
      · rw [if_neg h0, nx2 (by omega), cb3 h1 h2]
theorem cb_le (x : Int32) {a d : Nat × Nat} (ha : a.1 ≤ 48) (hd : d.1 ≤ 48) : (cb x a d).2.1 ≤ 48 ∧ (cb x a d).2.2 ≤ 2 := by
  unfold cb
  split
  · exact ⟨hd, Nat.le_refl _⟩
  · split
    · exact ⟨ha, show 1 ≤ 2 from Nat.le_succ 1⟩
    · exact ⟨Nat.zero_le _, Nat.zero_le _⟩
theorem bt_step {V : St} {k : Nat} {c : St → Nat → Int32 → Int32 → Int32 → Int32 → Int32 → Option Int32} {x1 x5 x6 : Int32} {b : Int32 × Nat × Nat} {v tw : Nat} (n : Nat) (h6 : ¬ 6 < x6) (hk : f_X3_knotsJoinedBy V k x5 (x5 + x6) = some (nI v)) (ht : f_X9_twineFor x5 (x5 + x6) = some (nI tw)) (h1 : b.2.1 ≤ 48) (h2 : b.2.2 ≤ 2) (h3 : v ≤ 48) (h4 : tw ≤ 2) :
    f_X3_bestTornString_b20 c (n + 1) V k x1 b.1 (nI b.2.1) (nI b.2.2) x5 x6 = f_X3_bestTornString_b20 c n V k x1 (nxN b v tw (if x1 = 0 then x5 else x5 + x6)).1 (nI (nxN b v tw (if x1 = 0 then x5 else x5 + x6)).2.1) (nI (nxN b v tw (if x1 = 0 then x5 else x5 + x6)).2.2) x5 (x6 + 5) := by
  rw [f_X3_bestTornString_b20, if_neg h6, hk, bs, ht, bs]
  obtain ⟨b1, bk, bt⟩ := b
  have h1 : bk ≤ 48 := h1
  have h2 : bt ≤ 2 := h2
  show (if nI bk < nI v then _ else _) = _
  have yes : ∀ (h : bk < v ∨ (¬ v < bk ∧ tw < bt)), f_X3_bestTornString_b72 (fun V k0 x1 x2 x3 x4 x5 x6 => f_X3_bestTornString_b20 c n V k0 x1 x2 x3 x4 x5 x6) c V k x1 x5 x6 (x5 + x6) (nI v) (nI tw) = f_X3_bestTornString_b20 c n V k x1 (nxN (b1, bk, bt) v tw (if x1 = 0 then x5 else x5 + x6)).1 (nI (nxN (b1, bk, bt) v tw (if x1 = 0 then x5 else x5 + x6)).2.1) (nI (nxN (b1, bk, bt) v tw (if x1 = 0 then x5 else x5 + x6)).2.2) x5 (x6 + 5) := by
    intro h
    rw [nx1 h, f_X3_bestTornString_b72]
    by_cases hx : x1 = 0
    · rw [if_pos hx, if_pos hx]
      rfl
    · rw [if_neg hx, if_neg hx]
      rfl
  have no : ∀ (h : ¬ (bk < v ∨ (¬ v < bk ∧ tw < bt))), f_X3_bestTornString_b91 (fun V k0 x1 x2 x3 x4 x5 x6 => f_X3_bestTornString_b20 c n V k0 x1 x2 x3 x4 x5 x6) c V k x1 b1 (nI bk) (nI bt) x5 x6 = f_X3_bestTornString_b20 c n V k x1 (nxN (b1, bk, bt) v tw (if x1 = 0 then x5 else x5 + x6)).1 (nI (nxN (b1, bk, bt) v tw (if x1 = 0 then x5 else x5 + x6)).2.1) (nI (nxN (b1, bk, bt) v tw (if x1 = 0 then x5 else x5 + x6)).2.2) x5 (x6 + 5) := by
    intro h
    rw [nx2 h]
    rfl
  by_cases q1 : bk < v
  · rw [if_pos ((nI_ltI (by omega) (by omega)).mpr q1)]
    exact yes (Or.inl q1)
  · rw [if_neg (fun h => q1 ((nI_ltI (by omega) (by omega)).mp h))]
    by_cases q2 : v = bk
    · rw [if_pos (by rw [q2])]
      by_cases q3 : bt ≤ tw
      · show (if nI bt ≤ nI tw then _ else _) = _
        rw [if_pos ((nI_leI (by omega) (by omega)).mpr q3)]
        exact no (by omega)
      · show (if nI bt ≤ nI tw then _ else _) = _
        rw [if_neg (fun h => q3 ((nI_leI (by omega) (by omega)).mp h))]
        exact yes (by omega)
    · rw [if_neg (fun h => q2 ((nI_eq (by omega) (by omega)).mp h))]
      exact no (by omega)
section BM
variable {V : St} {k : Nat}
noncomputable def gA (V : St) (k : Nat) : Nat → Nat := fA (V k 2) (nA V k) (nR V k) (nD V k)
noncomputable def gD (V : St) (k : Nat) : Nat → Nat := fD (V k 3) (nA V k) (nR V k) (nD V k)
theorem bt_loop (hA : I24 (nA V k)) (hTA : Sub (V k 2) RT) (hTD : Sub (V k 3) DN) (x1 : Int32) : ∀ (n p : Nat), p ≤ 24 → 24 < n + p → f_X3_bestTornString_b10 n V k x1 (cb x1 (am (gA V k) p) (am (gD V k) p)).1 (nI (cb x1 (am (gA V k) p) (am (gD V k) p)).2.1) (nI (cb x1 (am (gA V k) p) (am (gD V k) p)).2.2) (nI p) = some (cb x1 (am (gA V k) 24) (am (gD V k) 24)).1
  | 0, p, h1, h2 => by omega
  | n + 1, p, h1, h2 => by
    rw [f_X3_bestTornString_b10]
    by_cases e : p = 24
    · subst e
      rw [if_pos (show (24 : Int32) ≤ nI 24 by decide)]
    · have hp : p < 24 := by omega
      rw [if_neg (show ¬ (24 : Int32) ≤ nI p from nI_ge (b := 24) hp (by decide))]
      have la := am_le (f := gA V k) (fA_le _ _ _ _)
      have ld := am_le (f := gD V k) (fD_le _ _ _ _)
      obtain ⟨-, -, t1, -⟩ := acr1 hp
      obtain ⟨-, -, t6, -⟩ := acr6 hp
      obtain ⟨b, hb⟩ : ∃ b, b = cb x1 (am (gA V k) p) (am (gD V k) p) := ⟨_, rfl⟩
      have hb9 := cb_le x1 (la p).1 (ld p).1
      rw [← hb] at hb9 ⊢
      have s1 := bt_step (c := fun V k0 x1 x2 x3 x4 x5 => f_X3_bestTornString_b10 n V k0 x1 x2 x3 x4 x5) (x1 := x1) (x5 := nI p) (x6 := 1) (b := b) (v := gA V k p) (tw := 1) 499 (by decide) (by rw [nI_1]; exact kj_1 hA hTA hp) (by rw [nI_1]; exact t1) hb9.1 hb9.2 (fA_le _ _ _ _ _) (by decide)
      obtain ⟨b2, hb2⟩ : ∃ b2, b2 = nxN b (gA V k p) 1 (if x1 = 0 then nI p else nI p + 1) := ⟨_, rfl⟩
      rw [← hb2] at s1
      have e2 : b2 = cb x1 (am (gA V k) (p + 1)) (am (gD V k) p) := by
        rw [hb2, hb, am_succ]
        exact (cb_a x1 _ _ _ _ _ _).symm
      have hb8 := cb_le x1 (la (p + 1)).1 (ld p).1
      rw [← e2] at hb8
      have s2 := bt_step (c := fun V k0 x1 x2 x3 x4 x5 => f_X3_bestTornString_b10 n V k0 x1 x2 x3 x4 x5) (x1 := x1) (x5 := nI p) (x6 := 6) (b := b2) (v := gD V k p) (tw := 2) 498 (by decide) (by rw [show nI p + 6 = nI (p + 6) from nI_add p 6]; exact kj_6 hA hTD hp) (by rw [show nI p + 6 = nI (p + 6) from nI_add p 6]; exact t6) hb8.1 hb8.2 (fD_le _ _ _ _ _) (by decide)
      obtain ⟨b3, hb3⟩ : ∃ b3, b3 = nxN b2 (gD V k p) 2 (if x1 = 0 then nI p else nI p + 6) := ⟨_, rfl⟩
      rw [← hb3] at s2
      have e3 : b3 = cb x1 (am (gA V k) (p + 1)) (am (gD V k) (p + 1)) := by
        rw [hb3, e2, am_succ (gD V k)]
        exact (cb_d x1 _ _ _ _ _ _).symm
      refine s1.trans ((show _ = _ from s2).trans ?_)
      have s3 : ∀ m, f_X3_bestTornString_b20 (fun V k0 x1 x2 x3 x4 x5 => f_X3_bestTornString_b10 n V k0 x1 x2 x3 x4 x5) (m + 1) V k x1 b3.1 (nI b3.2.1) (nI b3.2.2) (nI p) (6 + 5) = f_X3_bestTornString_b10 n V k x1 b3.1 (nI b3.2.1) (nI b3.2.2) (nI p + 1) := by
        intro m
        rw [f_X3_bestTornString_b20, if_pos (by decide)]
      refine (s3 497).trans ?_
      rw [nI_1, e3]
      exact bt_loop hA hTA hTD x1 n (p + 1) (by omega) (by omega)
theorem bts_eq (hA : I24 (nA V k)) (hTA : Sub (V k 2) RT) (hTD : Sub (V k 3) DN) (x1 : Int32) : f_X3_bestTornString V k x1 = some (cb x1 (am (gA V k) 24) (am (gD V k) 24)).1 := bt_loop hA hTA hTD x1 500 0 (by decide) (by decide)
end BM
/-! the model -/
def mv (j : Nat) : Int32 := if j = 0 then -1 else nI j
theorem jo_eq {V : St} {T x1 row : Int32} {p q : Nat} (hp : p < 24) (hq : q < 32) (hof : f_X10_of V x1 row = some T) (hA : I24 (V 208 19)) : f_X10_joins_b15 V x1 row (nI p) (nI q) = some (mv (if bt T p = true then jv (V 208 19) (V 208 20) (V 208 21) p q else 0)) := by
  rw [f_X10_joins_b15, hof, bs]
  cases e1 : bt T p
  · rw [if_pos ((b_tst T (by omega)).mpr e1), if_neg Bool.false_ne_true]
    rfl
  · rw [if_neg (fun h => by rw [(b_tst T (by omega)).mp h] at e1; cases e1), if_pos rfl]
    cases e2 : bt (V 208 19) p
    · rw [if_pos ((b_tst _ (by omega)).mpr e2), jv_no (fun h => by rw [e2] at h; cases h.1)]
      rfl
    · rw [if_neg (fun h => by rw [(b_tst _ (by omega)).mp h] at e2; cases e2)]
      cases e3 : bt (V 208 19) q
      · rw [if_pos ((b_tst _ hq).mpr e3), jv_no (fun h => by rw [e3] at h; cases h.2.1)]
        rfl
      · rw [if_neg (fun h => by rw [(b_tst _ hq).mp h] at e3; cases e3)]
        have hq24 := hA.lt e3
        obtain ⟨C1, a1, a2, a3⟩ := tog_eq hp hA e2
        obtain ⟨C2, b1, b2, b3⟩ := tog_eq hq24 hA e3
        rw [a1, bs]
        by_cases hc : con (bt (V 208 19)) (bt (V 208 20)) (bt (V 208 21)) p q
        · rw [if_pos ((b_tst1 _ hq).mpr ((a2 q hq).mpr hc)), jv_no (fun h => h.2.2 hc)]
          rfl
        · rw [if_neg (fun h => hc ((a2 q hq).mp ((b_tst1 _ hq).mp h))), bits_eq, bs, b1, bs, bits_eq, bs, jv_yes e2 e3 hc, nI_add, nb_Cmp a2, nb_Cmp b2]
          have := nbC_pos (V 208 19) (V 208 20) (V 208 21) hp
          unfold mv
          rw [if_neg (by omega)]
def ms (a : Nat × Nat) : Int32 × Int32 × Int32 := if 0 < a.1 then (nI a.1, nI a.2, 1) else (-1, -1, 0)
def md (a d : Nat × Nat) : Int32 × Int32 × Int32 := if a.1 < d.1 then (nI d.1, nI d.2, 6) else ms a
theorem ms_lt {a : Nat × Nat} {f : Nat} (ha : a.1 ≤ 48) (hf : f ≤ 48) : (ms a).1 < mv f ↔ a.1 < f := by
  have : ∀ a f : Fin 49, (if 0 < a.val then nI a.val else (-1 : Int32)) < mv f.val ↔ a.val < f.val := by decide +kernel
  have h := this ⟨a.1, by omega⟩ ⟨f, by omega⟩
  unfold ms
  by_cases c : 0 < a.1
  · rw [if_pos c] at h ⊢
    exact h
  · rw [if_neg c] at h ⊢
    exact h
theorem md_lt {a d : Nat × Nat} {f : Nat} (ha : a.1 ≤ 48) (hd : d.1 ≤ 48) (hf : f ≤ 48) : (md a d).1 < mv f ↔ (a.1 < f ∧ d.1 < f) := by
  unfold md
  by_cases c : a.1 < d.1
  · rw [if_pos c]
    have := ms_lt (a := d) hd hf
    unfold ms at this
    rw [if_pos (by omega)] at this
    rw [show ((nI d.1, nI d.2, (6 : Int32)) : Int32 × Int32 × Int32).1 = nI d.1 from rfl]
    rw [show ((nI d.1, nI d.2, (1 : Int32)) : Int32 × Int32 × Int32).1 = nI d.1 from rfl] at this
    rw [this]
    omega
  · rw [if_neg c, ms_lt ha hf]
    omega
section BMM
variable {V : St} {x1 x2 : Int32} {fa fd : Nat → Nat}
theorem bm_a (hla : ∀ k, fa k ≤ 48) (hj : ∀ p, p < 24 → f_X10_joins V x1 2 (nI p) = some (mv (fa p))) {c : St → Int32 → Int32 → Int32 → Int32 → Int32 → Int32 → Option (Int32 × St)} : ∀ (n p : Nat), p ≤ 24 → 24 < n + p → f_X10_bestMend_b50 c n V x1 x2 (ms (am fa p)).1 (ms (am fa p)).2.1 (ms (am fa p)).2.2 2 (nI p) = c V x1 x2 (ms (am fa 24)).1 (ms (am fa 24)).2.1 (ms (am fa 24)).2.2 3
  | 0, p, h1, h2 => by omega
  | n + 1, p, h1, h2 => by
    rw [f_X10_bestMend_b50]
    by_cases e : p = 24
    · subst e
      rw [if_pos (show (24 : Int32) ≤ nI 24 by decide)]
      rfl
    · have hp : p < 24 := by omega
      rw [if_neg (show ¬ (24 : Int32) ≤ nI p from nI_ge (b := 24) hp (by decide)), hj p hp, bs]
      have ih := bm_a hla hj (c := c) n (p + 1) (by omega) (by omega)
      rw [am_succ] at ih
      have l := am_le hla p
      by_cases q : (am fa p).1 < fa p
      · rw [if_pos q] at ih
        rw [if_pos ((ms_lt l.1 (hla p)).mpr q), if_pos rfl]
        have em : ms (fa p, p) = (mv (fa p), nI p, 1) := by
          unfold ms mv
          rw [if_pos (show 0 < fa p by omega), if_neg (show ¬ fa p = 0 by omega)]
        rw [em] at ih
        refine Eq.trans ?_ ih
        show f_X10_bestMend_b50 c n V x1 x2 (mv (fa p)) (nI p) 1 2 (nI p + 1) = _
        rw [nI_1]
      · rw [if_neg q] at ih
        rw [if_neg (fun h => q ((ms_lt l.1 (hla p)).mp h))]
        refine Eq.trans ?_ ih
        show f_X10_bestMend_b50 c n V x1 x2 (ms (am fa p)).1 (ms (am fa p)).2.1 (ms (am fa p)).2.2 2 (nI p + 1) = _
        rw [nI_1]
theorem bm_d {a : Nat × Nat} (ha : a.1 ≤ 48) (hld : ∀ k, fd k ≤ 48) (hj : ∀ p, p < 24 → f_X10_joins V x1 3 (nI p) = some (mv (fd p))) {c : St → Int32 → Int32 → Int32 → Int32 → Int32 → Int32 → Option (Int32 × St)} : ∀ (n p : Nat), p ≤ 24 → 24 < n + p → f_X10_bestMend_b50 c n V x1 x2 (md a (am fd p)).1 (md a (am fd p)).2.1 (md a (am fd p)).2.2 3 (nI p) = c V x1 x2 (md a (am fd 24)).1 (md a (am fd 24)).2.1 (md a (am fd 24)).2.2 4
  | 0, p, h1, h2 => by omega
  | n + 1, p, h1, h2 => by
    rw [f_X10_bestMend_b50]
    by_cases e : p = 24
    · subst e
      rw [if_pos (show (24 : Int32) ≤ nI 24 by decide)]
      rfl
    · have hp : p < 24 := by omega
      rw [if_neg (show ¬ (24 : Int32) ≤ nI p from nI_ge (b := 24) hp (by decide)), hj p hp, bs]
      have ih := bm_d ha hld hj (c := c) n (p + 1) (by omega) (by omega)
      rw [am_succ] at ih
      have l := am_le hld p
      have ml := md_lt ha l.1 (hld p)
      by_cases q : (am fd p).1 < fd p
      · rw [if_pos q] at ih
        by_cases q2 : a.1 < fd p
        · rw [if_pos (ml.mpr ⟨q2, q⟩), if_neg (by decide)]
          have em : md a (fd p, p) = (mv (fd p), nI p, 6) := by
            unfold md mv
            rw [if_pos q2, if_neg (show ¬ fd p = 0 by omega)]
          rw [em] at ih
          refine Eq.trans ?_ ih
          show f_X10_bestMend_b50 c n V x1 x2 (mv (fd p)) (nI p) 6 3 (nI p + 1) = _
          rw [nI_1]
        · rw [if_neg (fun h => q2 (ml.mp h).1)]
          have em : md a (fd p, p) = md a (am fd p) := by
            unfold md
            rw [if_neg q2, if_neg (by omega)]
          rw [em] at ih
          refine Eq.trans ?_ ih
          show f_X10_bestMend_b50 c n V x1 x2 (md a (am fd p)).1 (md a (am fd p)).2.1 (md a (am fd p)).2.2 3 (nI p + 1) = _
          rw [nI_1]
      · rw [if_neg q] at ih
        rw [if_neg (fun h => q (ml.mp h).2)]
        refine Eq.trans ?_ ih
        show f_X10_bestMend_b50 c n V x1 x2 (md a (am fd p)).1 (md a (am fd p)).2.1 (md a (am fd p)).2.2 3 (nI p + 1) = _
        rw [nI_1]
theorem cb_ne {a d : Nat × Nat} (ha : a.2 ≤ 24) (hd : d.2 ≤ 24) : (md a d).2.1 = -1 ∧ (cb x2 a d).1 = -1 ∨ ¬ (md a d).2.1 = -1 ∧ ¬ (cb x2 a d).1 = -1 ∧ (cb x2 a d).1 = if x2 = 0 then (md a d).2.1 else (md a d).2.1 + (md a d).2.2 := by
  have ne : ∀ i : Fin 25, ¬ nI i.val = -1 ∧ ¬ nI i.val + 1 = -1 ∧ ¬ nI i.val + 6 = -1 := by decide +kernel
  unfold md cb ms
  by_cases c : a.1 < d.1
  · rw [if_pos c, if_pos c]
    have := ne ⟨d.2, by omega⟩
    refine Or.inr ⟨this.1, ?_, rfl⟩
    show ¬ (if x2 = 0 then nI d.2 else nI d.2 + 6) = -1
    split
    · exact this.1
    · exact this.2.2
  · rw [if_neg c, if_neg c]
    by_cases c2 : 0 < a.1
    · rw [if_pos c2, if_pos c2]
      have := ne ⟨a.2, by omega⟩
      refine Or.inr ⟨this.1, ?_, rfl⟩
      show ¬ (if x2 = 0 then nI a.2 else nI a.2 + 1) = -1
      split
      · exact this.1
      · exact this.2.1
    · rw [if_neg c2, if_neg c2]
      exact Or.inl ⟨rfl, rfl⟩
theorem bm_eq (hla : ∀ k, fa k ≤ 48) (hld : ∀ k, fd k ≤ 48) (hja : ∀ p, p < 24 → f_X10_joins V x1 2 (nI p) = some (mv (fa p))) (hjd : ∀ p, p < 24 → f_X10_joins V x1 3 (nI p) = some (mv (fd p))) :
    f_X10_bestMend_b41 500 V x1 x2 (-1) (-1) 0 2 = if (cb x2 (am fa 24) (am fd 24)).1 = -1 then some (0, up V 208 0 2) else some ((cb x2 (am fa 24) (am fd 24)).1, V) := by
  have g1 : ∀ n y3 y4 y5, f_X10_bestMend_b41 (n + 1) V x1 x2 y3 y4 y5 2 = f_X10_bestMend_b50 (fun V x1 x2 x3 x4 x5 x6 => f_X10_bestMend_b41 n V x1 x2 x3 x4 x5 x6) 500 V x1 x2 y3 y4 y5 2 0 := fun n y3 y4 y5 => by
    rw [f_X10_bestMend_b41, if_neg (by decide)]
  have g2 : ∀ n y3 y4 y5, f_X10_bestMend_b41 (n + 1) V x1 x2 y3 y4 y5 3 = f_X10_bestMend_b50 (fun V x1 x2 x3 x4 x5 x6 => f_X10_bestMend_b41 n V x1 x2 x3 x4 x5 x6) 500 V x1 x2 y3 y4 y5 3 0 := fun n y3 y4 y5 => by
    rw [f_X10_bestMend_b41, if_neg (by decide)]
  have g3 : ∀ n y3 y4 y5, f_X10_bestMend_b41 (n + 1) V x1 x2 y3 y4 y5 4 = if y4 = -1 then some (0, up V 208 0 2) else if x2 = 0 then some (y4, V) else some (y4 + y5, V) := fun n y3 y4 y5 => by
    rw [f_X10_bestMend_b41, if_pos (by decide)]
    rfl
  refine (g1 499 _ _ _).trans ?_
  refine (bm_a hla hja 500 0 (by decide) (by decide)).trans ?_
  refine (g2 498 _ _ _).trans ?_
  have la := am_le hla 24
  have ld := am_le hld 24
  refine (bm_d (a := am fa 24) la.1 hld hjd 500 0 (by decide) (by decide)).trans ?_
  refine (g3 497 _ _ _).trans ?_
  rcases cb_ne (x2 := x2) la.2 ld.2 with ⟨h1, h2⟩ | ⟨h1, h2, h3⟩
  · rw [if_pos h1, if_pos h2]
  · rw [if_neg h1, if_neg h2, h3]
    split <;> rfl
end BMM
