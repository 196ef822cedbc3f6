/-! the best mending joins two chapters -/
theorem am_at (f : Nat → Nat) : ∀ k, (am f k).1 = 0 ∨ ((am f k).2 < k ∧ f (am f k).2 = (am f k).1)
  | 0 => Or.inl rfl
  | k + 1 => by
    rw [am_succ]
    split
    · exact Or.inr ⟨Nat.lt_succ_self k, rfl⟩
    · rcases am_at f k with h | ⟨h1, h2⟩
      · exact Or.inl h
      · exact Or.inr ⟨Nat.lt_succ_of_lt h1, h2⟩
theorem jv_pos {A R D : Int32} {p q : Nat} (h : 0 < jv A R D p q) : bt A p = true ∧ bt A q = true ∧ ¬ con (bt A) (bt R) (bt D) p q := by
  rcases Classical.em (bt A p = true ∧ bt A q = true ∧ ¬ con (bt A) (bt R) (bt D) p q) with c | c
  · exact c
  · rw [jv_no c] at h
    omega
theorem fA_pos {T A R D : Int32} {p : Nat} (h : 0 < fA T A R D p) : bt T p = true ∧ bt A p = true ∧ bt A (p + 1) = true ∧ ¬ con (bt A) (bt R) (bt D) p (p + 1) := by
  unfold fA at h
  split at h
  · exact ⟨by assumption, jv_pos h⟩
  · omega
theorem fD_pos {T A R D : Int32} {p : Nat} (h : 0 < fD T A R D p) : bt T p = true ∧ bt A p = true ∧ bt A (p + 6) = true ∧ ¬ con (bt A) (bt R) (bt D) p (p + 6) := by
  unfold fD at h
  split at h
  · exact ⟨by assumption, jv_pos h⟩
  · omega
theorem m1_nI : ∀ k : Fin 30, ¬ nI k.val = -1 ∧ ¬ nI k.val = -75 := by decide +kernel
theorem q_best {V : St} {g : Nat → Int32} {n : Nat} (hS : SR V 1 g) (hG : GG g) (hn : n < 3) : (f_L_bestMend V (nI n) 0 = some (-75) ∧ f_L_bestMend V (nI n) 1 = some (-75)) ∨
    ∃ a b, a < 24 ∧ b < 24 ∧ f_L_bestMend V (nI n) 0 = some (nI a) ∧ f_L_bestMend V (nI n) 1 = some (nI b) ∧ f_L_torn V (nI n) (nI a) (nI b) = some 1 ∧ bt (kA g n) a = true ∧ bt (kA g n) b = true ∧ ¬ cn g n a b := by
  have hA : I24 (nA V (1 + 4 + n)) := by rw [hS.eA hn]; exact hG.k24 hn
  have hTA : Sub (V (1 + 4 + n) 2) RT := by rw [hS.2.1 n 2 hn (by decide)]; exact (hG.2.2.2 n hn).2.2.1
  have hTD : Sub (V (1 + 4 + n) 3) DN := by rw [hS.2.1 n 3 hn (by decide)]; exact (hG.2.2.2 n hn).2.2.2.1
  obtain ⟨a, ha⟩ : ∃ a, a = am (gA V (1 + 4 + n)) 24 := ⟨_, rfl⟩
  obtain ⟨d, hd⟩ : ∃ d, d = am (gD V (1 + 4 + n)) 24 := ⟨_, rfl⟩
  have c1 : ∀ x, f_X9_bestMend V (nI n) x = if (cb x a d).1 = -1 then some (.error 2) else some (.ok (cb x a d).1) := fun x => by
    rw [f_X9_bestMend, isN hn, bs, if_neg (by decide), net_eq _ _ hn, bs, bts_eq hA hTA hTD, bs, ha, hd]
  have pa := am_at (gA V (1 + 4 + n)) 24
  have pd := am_at (gD V (1 + 4 + n)) 24
  rw [← ha] at pa
  rw [← hd] at pd
  have fin : ∀ i j : Nat, i < 24 → j < 24 → (∀ x, (cb x a d).1 = if x = 0 then nI i else nI j) → f_L_bestMend V (nI n) 0 = some (nI i) ∧ f_L_bestMend V (nI n) 1 = some (nI j) := by
    intro i j hi hj h
    have m1 := m1_nI ⟨i, by omega⟩
    have m2 := m1_nI ⟨j, by omega⟩
    constructor
    · rw [f_L_bestMend, c1, h, if_pos rfl, if_neg m1.1, bs]
      rfl
    · rw [f_L_bestMend, c1, h, if_neg (show ¬ (1 : Int32) = 0 by decide), if_neg m2.1, bs]
      rfl
  by_cases e1 : a.1 < d.1
  · rcases pd with pd | ⟨p1, p2⟩
    · omega
    · obtain ⟨t1, t2, t3, t4⟩ := fD_pos (T := V (1 + 4 + n) 3) (A := nA V (1 + 4 + n)) (R := nR V (1 + 4 + n)) (D := nD V (1 + 4 + n)) (p := d.2) (by show 0 < gD V (1 + 4 + n) d.2; omega)
      rw [hS.eA hn] at t2 t3
      rw [hS.eA hn, hS.eR hn, hS.eD hn] at t4
      have h18 : d.2 < 18 := by
        have := hTD _ t1
        rw [DN_p p1] at this
        exact of_decide_eq_true this
      obtain ⟨f1, f2⟩ := fin d.2 (d.2 + 6) p1 (by omega) (fun x => by
        show (cb x (a.1, a.2) (d.1, d.2)).1 = _
        rw [cb1 e1]
        show (if x = 0 then nI d.2 else nI d.2 + 6) = _
        rw [show nI d.2 + 6 = nI (d.2 + 6) from nI_add d.2 6])
      refine Or.inr ⟨d.2, d.2 + 6, p1, by omega, f1, f2, ?_, t2, t3, t4⟩
      rw [q_td hS hn h18, ← hS.2.1 n 3 hn (by decide), t1]
      rfl
  · by_cases e2 : 0 < a.1
    · rcases pa with pa | ⟨p1, p2⟩
      · omega
      · obtain ⟨t1, t2, t3, t4⟩ := fA_pos (T := V (1 + 4 + n) 2) (A := nA V (1 + 4 + n)) (R := nR V (1 + 4 + n)) (D := nD V (1 + 4 + n)) (p := a.2) (by show 0 < gA V (1 + 4 + n) a.2; omega)
        rw [hS.eA hn] at t2 t3
        rw [hS.eA hn, hS.eR hn, hS.eD hn] at t4
        have h6 : a.2 % 6 ≠ 5 := by
          have := hTA _ t1
          rw [RT_p p1] at this
          exact of_decide_eq_true this
        obtain ⟨f1, f2⟩ := fin a.2 (a.2 + 1) p1 (by omega) (fun x => by
          show (cb x (a.1, a.2) (d.1, d.2)).1 = _
          rw [cb2 e1 e2]
          show (if x = 0 then nI a.2 else nI a.2 + 1) = _
          rw [nI_1])
        refine Or.inr ⟨a.2, a.2 + 1, p1, by omega, f1, f2, ?_, t2, t3, t4⟩
        rw [q_tr hS hn p1 h6, ← hS.2.1 n 2 hn (by decide), t1]
        rfl
    · have h : ∀ x, (cb x a d).1 = -1 := fun x => by
        show (cb x (a.1, a.2) (d.1, d.2)).1 = _
        rw [cb3 e1 e2]
      refine Or.inl ⟨?_, ?_⟩
      · rw [f_L_bestMend, c1, h, if_pos rfl]
        rfl
      · rw [f_L_bestMend, c1, h, if_pos rfl]
        rfl
/-! editors, accounts -/
theorem q_edw {V : St} {g : Nat → Int32} (hS : SR V 1 g) {m e w : Nat} (hm : g 1 = nI m) (hm4 : m ≤ 4) (he : e < m) (hw : w < 2) : f_L_editorOf V (nI e) (nI w) = some (g (21 + 2 * e + w)) := by
  have he4 : e < 4 := by omega
  have d1 := he_yes (V := V) (B := 1) (by rw [hS.1.2.1, hm]) he (by omega)
  rw [f_L_editorOf, f_X9_editorOf, d1, bs, if_neg (by decide)]
  have cw : w = 0 ∨ w = 1 := by omega
  rcases cw with rfl | rfl
  · rw [if_pos (by decide), ed_eq _ _ he4, bs, bs, hS.2.2.1 e 0 he4 (by decide)]
    rfl
  · rw [if_neg (by decide), if_pos (by decide), ed_eq _ _ he4, bs, bs, hS.2.2.1 e 1 he4 (by decide)]
    rfl
section QA
variable {V : St} {g : Nat → Int32}
theorem q_a0 (hS : SR V 1 g) (hG : GG g) : f_L_account V 0 = some (nI (nkn g 0 + nkn g 1 + nkn g 2)) := by
  rw [f_L_account, f_X9_account, if_pos rfl, ck_c hS hG, bs, bs]
  rfl
theorem q_a1 (hS : SR V 1 g) (hG : GG g) : f_L_account V 1 = some (nI (nch g 0 + nch g 1 + nch g 2)) := by
  rw [f_L_account, f_X9_account, if_neg (by decide), if_pos rfl, ca_c hS hG, bs, bs]
  rfl
theorem q_a2 (hS : SR V 1 g) (hG : GG g) : f_L_account V 2 = some (nI (ntn g 0 + ntn g 1 + ntn g 2)) := by
  rw [f_L_account, f_X9_account, if_neg (by decide), if_neg (by decide), if_pos rfl, ct_a hS hG, bs, bs]
  rfl
theorem q_a3 (hS : SR V 1 g) : f_L_account V 3 = some (g 1) := by
  rw [f_L_account, f_X9_account, if_neg (by decide), if_neg (by decide), if_neg (by decide), if_pos rfl, bs, hS.1.2.1]
  rfl
theorem twl {m : Nat} {t : Nat → Nat} (hS : SR V 1 g) (hm : g 1 = nI m) (hm4 : m ≤ 4) (ht : ∀ e, e < m → g (21 + 2 * e + 0) = nI (t e)) : ∀ (f i : Nat), i ≤ m → m < f + i → f_X8_sumTwine_b4 f V 1 (nI (ws i t)) (nI i) = some (nI (ws m t))
  | 0, i, h1, h2 => by omega
  | f + 1, i, h1, h2 => by
    rw [f_X8_sumTwine_b4, hS.1.2.1, hm]
    by_cases e : i = m
    · rw [if_pos (by rw [e]; exact nI_le (Nat.le_refl _) (by omega)), e]
    · rw [if_neg (nI_ge (by omega) (by omega)), ed_eq _ _ (by omega), bs, hS.2.2.1 i 0 (by omega) (by decide), ht i (by omega), nI_add, nI_1]
      exact twl hS hm hm4 ht f (i + 1) (by omega) (by omega)
theorem q_a4 {m : Nat} {t : Nat → Nat} (hS : SR V 1 g) (hm : g 1 = nI m) (hm4 : m ≤ 4) (ht : ∀ e, e < m → g (21 + 2 * e + 0) = nI (t e)) : f_L_account V 4 = some (nI (ws m t)) := by
  have h : f_X8_sumTwine V 1 = some (nI (ws m t)) := twl hS hm hm4 ht 500 0 (by omega) (by omega)
  rw [f_L_account, f_X9_account, if_neg (by decide), if_neg (by decide), if_neg (by decide), if_neg (by decide), if_pos rfl, h, bs, bs]
  rfl
theorem q_a5 (hS : SR V 1 g) : f_L_account V 5 = some (g 2) := by
  rw [f_L_account, f_X9_account, if_neg (by decide), if_neg (by decide), if_neg (by decide), if_neg (by decide), if_neg (by decide), if_pos rfl, bs, hS.1.2.2.1]
  rfl
theorem q_a7 (hS : SR V 1 g) : f_L_account V 7 = some (g 0) := by
  rw [f_L_account, f_X9_account, if_neg (by decide), if_neg (by decide), if_neg (by decide), if_neg (by decide), if_neg (by decide), if_neg (by decide), if_neg (by decide), if_pos rfl, bs, hS.1.1]
  rfl
theorem q_a8 (hS : SR V 1 g) : f_L_account V 8 = some (g 3) := by
  rw [f_L_account, f_X9_account, if_neg (by decide), if_neg (by decide), if_neg (by decide), if_neg (by decide), if_neg (by decide), if_neg (by decide), if_neg (by decide), if_neg (by decide), if_pos rfl, bs, hS.1.2.2.2.1]
  rfl
theorem q_a9 (hS : SR V 1 g) : f_L_account V 9 = some (g 4) := by
  rw [f_L_account, f_X9_account, if_neg (by decide), if_neg (by decide), if_neg (by decide), if_neg (by decide), if_neg (by decide), if_neg (by decide), if_neg (by decide), if_neg (by decide), if_neg (by decide), if_pos rfl, bs, hS.1.2.2.2.2.1]
  rfl
theorem q_a10 (hS : SR V 1 g) : f_L_account V 10 = some (g 5) := by
  rw [f_L_account, f_X9_account, if_neg (by decide), if_neg (by decide), if_neg (by decide), if_neg (by decide), if_neg (by decide), if_neg (by decide), if_neg (by decide), if_neg (by decide), if_neg (by decide), if_neg (by decide), if_pos rfl, bs, hS.1.2.2.2.2.2]
  rfl
theorem q_a11 (V : St) : f_L_account V 11 = some (V 192 1) := by
  rw [f_L_account, f_X9_account, if_neg (by decide), if_neg (by decide), if_neg (by decide), if_neg (by decide), if_neg (by decide), if_neg (by decide), if_neg (by decide), if_neg (by decide), if_neg (by decide), if_neg (by decide), if_neg (by decide), if_pos rfl, bs]
  rfl
theorem q_a12 (V : St) : f_L_account V 12 = some (V 52 2) := by
  rw [f_L_account, f_X9_account, if_neg (by decide), if_neg (by decide), if_neg (by decide), if_neg (by decide), if_neg (by decide), if_neg (by decide), if_neg (by decide), if_neg (by decide), if_neg (by decide), if_neg (by decide), if_neg (by decide), if_neg (by decide), if_pos rfl, bs]
  rfl
end QA
/-! notes, by the ints g -/
def rdB (g : Nat → Int32) (k : Nat) : Bool := match f_X10_readsSo (Vg g) (nI k) with
  | some q => decide (q.1 = 1)
  | none => false
theorem rd_u {V : St} {g : Nat → Int32} (hS : SR V 1 g) (hG : GG g) {k n : Nat} {S y z : Int32} (h : NT V g k n S y z) : f_X8_readsAsNoted V 1 (1 + 11 + k) = some (bI (rdB g k)) := by
  obtain ⟨b, h1, h2⟩ := rdn hS hG h
  obtain ⟨U1, h3, -⟩ := h2 (Vg g) (Vg_9 g)
  have e : rdB g k = b := by
    unfold rdB
    rw [h3]
    show decide (bI b = 1) = b
    cases b <;> decide
  rw [e]
  exact h1
theorem hn_k {V : St} {g : Nat → Int32} (hS : SR V 1 g) {m k : Nat} (hm : g 2 = nI m) (hm6 : m ≤ 6) (hk : k < m) : f_X8_hasNote V 1 (nI k) = some 1 := hn_yes (by rw [hS.1.2.2.1, hm]) hk (by omega)
theorem q_nt {V : St} {g : Nat → Int32} (hS : SR V 1 g) (hG : GG g) {m k n : Nat} {S y z : Int32} (hm : g 2 = nI m) (hm6 : m ≤ 6) (hk : k < m) (h : NT V g k n S y z) : f_L_noteOf V (nI k) 0 = some (nI n) ∧ (∃ p, isLow S p ∧ f_L_noteOf V (nI k) 1 = some (nI p)) ∧ f_L_noteOf V (nI k) 2 = some (nI (nb S)) ∧ f_L_noteOf V (nI k) 3 = some (bI (rdB g k)) := by
  have r := rd_u hS hG h
  obtain ⟨n1, k6, h0, h1, h2, h3, h4, h5, h6, h7, h8⟩ := id h
  obtain ⟨p, hp⟩ := isLow.ex h5.1 h5.2.1
  have pl : f_X4_places V (1 + 11 + k) = some S := by rw [f_X4_places, h7, h8, h4]
  have hh := hn_k hS hm hm6 hk
  refine ⟨?_, ⟨p, hp, ?_⟩, ?_, ?_⟩
  · rw [f_L_noteOf, f_X9_noteOf, hh, bs, if_neg (by decide), no_eq _ _ k6, bs, if_pos rfl, bs, h6]
    rfl
  · rw [f_L_noteOf, f_X9_noteOf, hh, bs, if_neg (by decide), no_eq _ _ k6, bs, if_neg (by decide), if_pos rfl, pl, bs, lowP_eq hp, bs, bs]
    rfl
  · rw [f_L_noteOf, f_X9_noteOf, hh, bs, if_neg (by decide), no_eq _ _ k6, bs, if_neg (by decide), if_neg (by decide), if_pos rfl, pl, bs, bc24 h5.1, bs, bs]
    rfl
  · rw [f_L_noteOf, f_X9_noteOf, hh, bs, if_neg (by decide), no_eq _ _ k6, bs, if_neg (by decide), if_neg (by decide), if_neg (by decide), if_pos rfl, r, bs]
    cases rdB g k
    · rw [if_pos (by decide), bs]
      rfl
    · rw [if_neg (by decide), bs]
      rfl
theorem q_nol {V : St} {g : Nat → Int32} (hS : SR V 1 g) (hG : GG g) {m k n : Nat} {S y z : Int32} (hm : g 2 = nI m) (hm6 : m ≤ 6) (hk : k < m) (h : NT V g k n S y z) : ∃ V1, f_L_noteLine V (nI k) = some (nI (nb S + if rdB g k = true then 0 else 1), V1) ∧ FB V V1 := by
  obtain ⟨n1, k6, h0, h1, h2, h3, h4, h5, h6, h7, h8⟩ := id h
  obtain ⟨V0, a1, a2, a3⟩ := clr_eq V
  obtain ⟨V1, b1, b2, b3⟩ := akl y z 500 0 0 V0 (by decide) (by decide) a2 rfl
  have b1 : f_X2_appendKnots V0 y z = some V1 := b1
  rw [← h4] at b2
  have ff := a3.tr b3
  have h9 : NT V1 g k n S y z := by
    have := ff (1 + 11 + k) (by omega) (by omega)
    exact ⟨n1, k6, h0, h1, h2, h3, h4, h5, by rw [this]; exact h6, by rw [this]; exact h7, by rw [this]; exact h8⟩
  have r := rd_u (hS.b ff.b) hG h9
  have ek : ∀ j, V0 (1 + 11 + k) j = V (1 + 11 + k) j := fun j => by rw [a3 (1 + 11 + k) (by omega) (by omega)]
  have ec : f_X9_noteLine V (nI k) = if bI (rdB g k) = 0 then (f_X2_append V1 33).bind fun q8 => some (.ok (q8 205 1), q8) else some (.ok (V1 205 1), V1) := by
    rw [f_X9_noteLine, hn_k hS hm hm6 hk, bs, if_neg (by decide), no_eq _ _ k6, bs, a1, bs, ek, ek, h7, h8, b1, bs, r, bs]
  have hle := nb_le S
  cases e : rdB g k
  · rw [e] at ec
    obtain ⟨V2, c1, c2, c3⟩ := wa1 (c := 33) b2 (by omega) (by decide)
    have c1 : f_X2_append V1 33 = some V2 := c1
    refine ⟨V2, ?_, (ff.tr c3).b⟩
    rw [f_L_noteLine, ec, if_pos (by decide), c1, bs, bs, c2]
    rfl
  · rw [e] at ec
    refine ⟨V1, ?_, ff.b⟩
    rw [f_L_noteLine, ec, if_neg (by decide), bs, b2]
    rfl
