/-! the accounts, and what each change makes of them (the class alone) -/
def ws : Nat → (Nat → Nat) → Nat
  | 0, _ => 0
  | n + 1, w => ws n w + w n
theorem ws_cg {w w2 : Nat → Nat} : ∀ {n : Nat}, (∀ e, e < n → w2 e = w e) → ws n w2 = ws n w
  | 0, _ => rfl
  | n + 1, h => by
    unfold ws
    rw [ws_cg (fun e he => h e (by omega)), h n (by omega)]
theorem ws_up {w w2 : Nat → Nat} {i : Nat} : ∀ {n : Nat}, i < n → w2 i = w i + 1 → (∀ e, e < n → e ≠ i → w2 e = w e) → ws n w2 = ws n w + 1
  | 0, h, _, _ => by omega
  | n + 1, h, h1, h2 => by
    unfold ws
    by_cases e : i = n
    · subst e
      rw [ws_cg (fun e he => h2 e (by omega) (by omega)), h1]
      omega
    · rw [ws_up (n := n) (by omega) h1 (fun e he => h2 e (by omega)), h2 n (by omega) (fun q => e q.symm)]
      omega
theorem ws_le {w : Nat → Nat} : ∀ {n : Nat}, (∀ e, e < n → w e ≤ 99) → ws n w ≤ 99 * n
  | 0, _ => Nat.le_refl _
  | n + 1, h => by
    unfold ws
    have := ws_le (n := n) (fun e he => h e (by omega))
    have := h n (by omega)
    omega
/-- accounts 8, 9, 10, 4 and the editors fit the strings -/
def AC (g : Nat → Int32) : Prop := ∃ (m b c : Nat) (t w : Nat → Nat), m ≤ 4 ∧ g 1 = nI m ∧ (∀ e, e < m → g (21 + 2 * e + 0) = nI (t e) ∧ g (21 + 2 * e + 1) = nI (w e) ∧ t e + w e ≤ 99) ∧ g 4 = nI b ∧ g 5 = nI c ∧ b ≤ c ∧ c ≤ 2 * b ∧ b = ws m w ∧ g 3 = nI (b + ntn g 0 + ntn g 1 + ntn g 2)
theorem ntn_cg {g g2 : Nat → Int32} {n : Nat} (h2 : g2 (6 + 5 * n + 2) = g (6 + 5 * n + 2)) (h3 : g2 (6 + 5 * n + 3) = g (6 + 5 * n + 3)) : ntn g2 n = ntn g n := by
  unfold ntn
  rw [h2, h3]
def KA (q : Nat) : Prop := q = 1 ∨ q = 3 ∨ q = 4 ∨ q = 5 ∨ q = 8 ∨ q = 9 ∨ q = 13 ∨ q = 14 ∨ q = 18 ∨ q = 19 ∨ (21 ≤ q ∧ q < 29)
theorem AC.cg {g g2 : Nat → Int32} (h : AC g) (e : ∀ q, KA q → g2 q = g q) : AC g2 := by
  obtain ⟨m, b, c, t, w, h1, h2, h3, h4, h5, h6, h7, h8, h9⟩ := h
  have n0 : ntn g2 0 = ntn g 0 := ntn_cg (e 8 (by unfold KA; omega)) (e 9 (by unfold KA; omega))
  have n1 : ntn g2 1 = ntn g 1 := ntn_cg (e 13 (by unfold KA; omega)) (e 14 (by unfold KA; omega))
  have n2 : ntn g2 2 = ntn g 2 := ntn_cg (e 18 (by unfold KA; omega)) (e 19 (by unfold KA; omega))
  refine ⟨m, b, c, t, w, h1, by rw [e 1 (by unfold KA; omega), h2], fun i hi => ?_, by rw [e 4 (by unfold KA; omega), h4], by rw [e 5 (by unfold KA; omega), h5], h6, h7, h8, by rw [e 3 (by unfold KA; omega), n0, n1, n2, h9]⟩
  rw [e _ (by unfold KA; omega), e _ (by unfold KA; omega)]
  exact h3 i hi
theorem AC.un {g : Nat → Int32} (h : AC g) {i : Nat} {x : Int32} (hi : ¬ KA i) : AC (upd g i x) := h.cg fun q hq => pk_un (fun e => hi (e ▸ hq))
/-- refused, or done: g1 after it, and the answer -/
def OC (V : St) (rc : Option (Int32 × St)) (dc : Option St) (an : St → Option Int32) (P : (Nat → Int32) → Nat → Prop) : Prop :=
  (∃ r d, r ≠ 0 ∧ r ≠ 9 ∧ rc = some (r, up V 0 9 d)) ∨
  (∃ V1 g1 a, rc = some (0, V) ∧ dc = some V1 ∧ SR V1 1 g1 ∧ GG g1 ∧ AC g1 ∧ Out 1 V V1 ∧ an V1 = some (nI a) ∧ a < 1000 ∧ P g1 a)
def TrP (_ : Nat → Int32) (_ : Nat) : Prop := True
theorem OC.no {V : St} {rc : Option (Int32 × St)} {dc : Option St} {an : St → Option Int32} {P : (Nat → Int32) → Nat → Prop} (r d : Int32) (h1 : r ≠ 0) (h2 : r ≠ 9) (hc : rc = some (r, up V 0 9 d)) : OC V rc dc an P := Or.inl ⟨r, d, h1, h2, hc⟩
theorem kv_nI (a b : Bool) : ∃ j, j < 4 ∧ kv a b = nI j := by
  cases a <;> cases b
  · exact ⟨0, by decide, by decide⟩
  · exact ⟨2, by decide, by decide⟩
  · exact ⟨1, by decide, by decide⟩
  · exact ⟨3, by decide, by decide⟩
theorem oc_knot {V : St} {g : Nat → Int32} (hS : SR V 1 g) (hG : GG g) (hA : AC g) (x1 x2 x3 : Int32) : OC V (f_X9_reasonAgainstKnot V x1 x2 x3) ((f_X8_netNumbered V 1 x1).bind fun q => f_X3_tie V q x2 x3) (fun _ => (f_X8_netNumbered V 1 x1).bind fun q => f_X3_kindAt V q x2) TrP := by
  rcases net_cs x1 with ⟨n, hn, rfl, a1, a2⟩ | ⟨a1, a2⟩
  · rcases pl_cs x2 with ⟨p, hp, rfl, b1, b2⟩ | ⟨b1, b2⟩
    · obtain ⟨ka, hka, hk⟩ : ∃ ka, ka < 4 ∧ f_X3_kindAt V (1 + 4 + n) (nI p) = some (nI ka) := by
        obtain ⟨j, h1, h2⟩ := kv_nI (bt (V (1 + 4 + n) 0) p) (bt (V (1 + 4 + n) 1) p)
        exact ⟨j, h1, by rw [kd_c _ _ hp, h2]⟩
      rcases rng x3 (n := 4) (by decide) with ⟨j, hj, rfl⟩ | h
      · have c1 : nI j ≤ (3 : Int32) := nI_le (b := 3) (by omega) (by decide)
        by_cases e : nI ka = nI j
        · refine OC.no 4 (nI j) (by decide) (by decide) ?_
          rw [f_X9_reasonAgainstKnot, a1, bs, if_neg (by decide), b1, bs, if_neg (by decide), if_neg (nI_pos (by omega)), if_pos c1, net_eq _ _ hn, bs, hk, bs, if_pos e]
          rfl
        · obtain ⟨x, hx⟩ : ∃ x, x = wi (g (6 + 5 * n + 0)) (nI p) (decide (j % 2 = 1)) := ⟨_, rfl⟩
          obtain ⟨y, hy⟩ : ∃ y, y = wi (g (6 + 5 * n + 1)) (nI p) (decide (2 ≤ j)) := ⟨_, rfl⟩
          have hN := hG.2.2.2 n hn
          have x24 : I24 x := by rw [hx]; exact wi_24 hN.1 hp _
          have y24 : I24 y := by rw [hy]; exact wi_24 hN.2.1 hp _
          refine Or.inr ⟨up (up V (1 + 4 + n) 0 x) (1 + 4 + n) 1 y, _, ka, ?_, ?_, (hS.net hn (by decide) x).net hn (by decide) y, (hG.net hn (by decide) (fun _ => x24) (fun h => by cases h) (fun h => by cases h) (fun h => by cases h)).net hn (by decide) (fun _ => y24) (fun h => by cases h) (fun h => by cases h) (fun h => by cases h), (hA.un (by unfold KA; omega)).un (by unfold KA; omega), ((Out.rf 1 V).up (by omega)).up (by omega), ?_, by omega, trivial⟩
          · rw [f_X9_reasonAgainstKnot, a1, bs, if_neg (by decide), b1, bs, if_neg (by decide), if_neg (nI_pos (by omega)), if_pos c1, net_eq _ _ hn, bs, hk, bs, if_neg e]
          · rw [net_eq _ _ hn, bs, tie_eq _ _ _ hj, hS.2.1 n 0 hn (by decide), hS.2.1 n 1 hn (by decide), ← hx, ← hy]
          · show (f_X8_netNumbered V 1 (nI n)).bind _ = _
            rw [net_eq _ _ hn, bs, hk]
      · refine OC.no 3 x3 (by decide) (by decide) ?_
        rw [f_X9_reasonAgainstKnot, a1, bs, if_neg (by decide), b1, bs, if_neg (by decide)]
        exact out_c (n := 3) rfl h _ _
    · refine OC.no 2 x2 (by decide) (by decide) ?_
      rw [f_X9_reasonAgainstKnot, a1, bs, if_neg (by decide), b1, bs, if_pos rfl]
      rfl
  · refine OC.no 2 x1 (by decide) (by decide) ?_
    rw [f_X9_reasonAgainstKnot, a1, bs, if_pos rfl]
    rfl
theorem ends_cc (x1 x2 x3 : Int32) : (∃ n p q, n < 3 ∧ p < 24 ∧ q < 24 ∧ x1 = nI n ∧ x2 = nI p ∧ x3 = nI q ∧ (∀ V, f_X9_reasonAgainstEnds V x1 x2 x3 = some (0, V))) ∨ (∃ d, (∀ V, f_X9_reasonAgainstEnds V x1 x2 x3 = some (2, up V 0 9 d))) := by
  rcases ends_cs x1 x2 x3 with ⟨n, p, q, h1, h2, h3, h4, h5, h6, h7, -⟩ | ⟨d, h, -⟩
  · exact Or.inl ⟨n, p, q, h1, h2, h3, h4, h5, h6, h7⟩
  · exact Or.inr ⟨d, h⟩
theorem nb_wi_t {T : Int32} {p : Nat} (hp : p < 24) (h : bt T p = false) : nb (wi T (nI p) true) = nb T + 1 := by
  have e := fb_ct_upd (bt T) true hp
  rw [h] at e
  have e2 : nb (wi T (nI p) true) = fb_ct (fun k => if k = p then true else bt T k) 24 := fb_ct_cong fun k hk => b_wi T hp true (by omega)
  rw [e2]
  unfold nb
  simpa using e
theorem nb_wi_f {T : Int32} {p : Nat} (hp : p < 24) (h : bt T p = true) : nb (wi T (nI p) false) + 1 = nb T := by
  have e := fb_ct_upd (bt T) false hp
  rw [h] at e
  have e2 : nb (wi T (nI p) false) = fb_ct (fun k => if k = p then false else bt T k) 24 := fb_ct_cong fun k hk => b_wi T hp false (by omega)
  rw [e2]
  unfold nb
  simpa using e
theorem ntn_oth {g : Nat → Int32} {n n2 w : Nat} (hn : n ≠ n2) (hw : w < 5) {x : Int32} : ntn (upd g (6 + 5 * n + w) x) n2 = ntn g n2 := ntn_cg (pk_un (by omega)) (pk_un (by omega))
theorem ntn_row {g : Nat → Int32} {n r : Nat} (hr : r = 2 ∨ r = 3) {x : Int32} {k : Nat} (h : nb x = nb (g (6 + 5 * n + r)) + k) : ntn (upd g (6 + 5 * n + r) x) n = ntn g n + k := by
  unfold ntn
  rcases hr with rfl | rfl
  · rw [pk_us, pk_un (by omega), h]
    omega
  · rw [pk_us, pk_un (by omega), h]
    omega
theorem ntn_sum {g : Nat → Int32} {n r : Nat} (hn : n < 3) (hr : r = 2 ∨ r = 3) {x : Int32} {k : Nat} (h : nb x = nb (g (6 + 5 * n + r)) + k) : ntn (upd g (6 + 5 * n + r) x) 0 + ntn (upd g (6 + 5 * n + r) x) 1 + ntn (upd g (6 + 5 * n + r) x) 2 = ntn g 0 + ntn g 1 + ntn g 2 + k := by
  have hw : r < 5 := by omega
  have e := ntn_row hr h
  have c : n = 0 ∨ n = 1 ∨ n = 2 := by omega
  rcases c with rfl | rfl | rfl
  · rw [ntn_oth (n2 := 1) (by decide) hw, ntn_oth (n2 := 2) (by decide) hw, e]; omega
  · rw [ntn_oth (n2 := 0) (by decide) hw, ntn_oth (n2 := 2) (by decide) hw, e]; omega
  · rw [ntn_oth (n2 := 0) (by decide) hw, ntn_oth (n2 := 1) (by decide) hw, e]; omega
theorem ntn_sum' {g : Nat → Int32} {n r : Nat} (hn : n < 3) (hr : r = 2 ∨ r = 3) {x : Int32} {k : Nat} (h : nb (g (6 + 5 * n + r)) = nb x + k) : ntn g 0 + ntn g 1 + ntn g 2 = ntn (upd g (6 + 5 * n + r) x) 0 + ntn (upd g (6 + 5 * n + r) x) 1 + ntn (upd g (6 + 5 * n + r) x) 2 + k := by
  have hw : r < 5 := by omega
  have e : ntn g n = ntn (upd g (6 + 5 * n + r) x) n + k := by
    unfold ntn
    rcases hr with rfl | rfl
    · rw [pk_us, pk_un (by omega), h]
      omega
    · rw [pk_us, pk_un (by omega), h]
      omega
  have c : n = 0 ∨ n = 1 ∨ n = 2 := by omega
  rcases c with rfl | rfl | rfl
  · rw [ntn_oth (n2 := 1) (by decide) hw, ntn_oth (n2 := 2) (by decide) hw, e]; omega
  · rw [ntn_oth (n2 := 0) (by decide) hw, ntn_oth (n2 := 2) (by decide) hw, e]; omega
  · rw [ntn_oth (n2 := 0) (by decide) hw, ntn_oth (n2 := 1) (by decide) hw, e]; omega
theorem ntn_upo {g : Nat → Int32} {i n : Nat} {x : Int32} (hi : i < 6 ∨ 21 ≤ i) (hn : n < 3) : ntn (upd g i x) n = ntn g n := ntn_cg (pk_un (by omega)) (pk_un (by omega))
/-- the string between p and q of the net n: torn or not -/
def tnB (g : Nat → Int32) (n p q : Nat) : Bool := bt (g (6 + 5 * n + rw2 p q)) (min p q)
theorem oc_tear {V : St} {g : Nat → Int32} (hS : SR V 1 g) (hG : GG g) (hA : AC g) (x1 x2 x3 : Int32) : OC V (f_X9_reasonAgainstTear V x1 x2 x3) (f_X8_tearString V 1 x1 x2 x3) (fun V => (f_X8_netNumbered V 1 x1).bind fun q => f_X3_countChapters V q) (fun g1 a => ∃ n p q, n < 3 ∧ p < 24 ∧ q < 24 ∧ x1 = nI n ∧ rw2 p q ≠ 0 ∧ tnB g n p q = false ∧ a = nch g1 n ∧ g1 = upd (upd g (6 + 5 * n + rw2 p q) (wi (g (6 + 5 * n + rw2 p q)) (nI (min p q)) true)) 3 (g 3 + 1)) := by
  rcases ends_cc x1 x2 x3 with ⟨n, p, q, hn, hp, hq, rfl, rfl, rfl, e1⟩ | ⟨d, e1⟩
  · rcases rs_cs hS hn hp hq false with ⟨h, r1, -⟩ | ⟨h, -, r1⟩
    · refine OC.no 5 (nI q) (by decide) (by decide) ?_
      rw [f_X9_reasonAgainstTear, e1, bs, if_pos rfl]
      have r1 : f_X9_reasonAgainstString V (nI n) (nI p) (nI q) 0 = some (5, up V 0 9 (nI q)) := r1
      rw [r1, bs]
    · have hr : rw2 p q < 5 := by rcases row_cs h with e | e <;> omega
      have hm := min_lt (q := q) hp
      obtain ⟨T, hT⟩ : ∃ T, T = g (6 + 5 * n + rw2 p q) := ⟨_, rfl⟩
      have r1 : f_X9_reasonAgainstString V (nI n) (nI p) (nI q) 0 = _ := r1
      rw [← hT] at r1
      cases z : bt T (min p q)
      · rw [z, if_pos rfl] at r1
        obtain ⟨T1, hT1⟩ : ∃ T1, T1 = wi T (nI (min p q)) true := ⟨_, rfl⟩
        obtain ⟨-, -, -, -, -, -, h7⟩ := (st_fin ⟨p, hp⟩ ⟨q, hq⟩).2 h
        have hN := hG.2.2.2 n hn
        have hG1 : GG (upd (upd g (6 + 5 * n + rw2 p q) T1) 3 (g 3 + 1)) := by
          refine (hG.net hn hr (fun h9 => ?_) (fun h9 => ?_) (fun h9 => ?_) (fun h9 => ?_)).oth (by decide) _
          · rcases row_cs h with e | e <;> omega
          · rw [h9] at hT
            rw [hT1, hT]
            rcases h7 with ⟨-, h8⟩ | ⟨h8, -⟩
            · exact wi_sub hN.2.2.1 hm (fun _ => h8)
            · have h8 : rw2 p q = 3 := h8
              omega
          · rw [h9] at hT
            rw [hT1, hT]
            rcases h7 with ⟨h8, -⟩ | ⟨-, h8⟩
            · have h8 : rw2 p q = 2 := h8
              omega
            · exact wi_sub hN.2.2.2.1 hm (fun _ => h8)
          · rcases row_cs h with e | e <;> omega
        have hS1 : SR (up (up V (1 + 4 + n) (rw2 p q) T1) 1 6 (g 3 + 1)) 1 (upd (upd g (6 + 5 * n + rw2 p q) T1) 3 (g 3 + 1)) := (hS.net hn hr T1).fld (by decide) _
        have hA1 : AC (upd (upd g (6 + 5 * n + rw2 p q) T1) 3 (g 3 + 1)) := by
          obtain ⟨m, b, c, t, w, h1, h2, h3, h4, h5, h6, h7, h8, h9⟩ := hA
          have hs := ntn_sum (g := g) (x := T1) (k := 1) hn (row_cs h) (by rw [hT1, ← hT, nb_wi_t hm z])
          have en : ∀ i, (i < 6 ∨ 21 ≤ i) → i ≠ 3 → upd (upd g (6 + 5 * n + rw2 p q) T1) 3 (g 3 + 1) i = g i := fun i hi h3 => by rw [pk_un h3, pk_un (by rcases row_cs h with e | e <;> omega)]
          refine ⟨m, b, c, t, w, h1, by rw [en 1 (by omega) (by decide), h2], fun e he => ?_, by rw [en 4 (by omega) (by decide), h4], by rw [en 5 (by omega) (by decide), h5], h6, h7, h8, ?_⟩
          · rw [en _ (by omega) (by omega), en _ (by omega) (by omega)]
            exact h3 e he
          · rw [pk_us, h9, nI_1, ntn_upo (i := 3) (n := 0) (by omega) (by decide), ntn_upo (i := 3) (n := 1) (by omega) (by decide), ntn_upo (i := 3) (n := 2) (by omega) (by decide)]
            congr 1
            omega
        refine Or.inr ⟨up (up V (1 + 4 + n) (rw2 p q) T1) 1 6 (g 3 + 1), upd (upd g (6 + 5 * n + rw2 p q) T1) 3 (g 3 + 1), nch (upd (upd g (6 + 5 * n + rw2 p q) T1) 3 (g 3 + 1)) n, ?_, ?_, hS1, hG1, hA1, ((Out.rf 1 V).up (by omega)).up (by omega), ?_, by have := nch_le (upd (upd g (6 + 5 * n + rw2 p q) T1) 3 (g 3 + 1)) n; omega, ⟨n, p, q, hn, hp, hq, rfl, h, by unfold tnB; rw [← hT]; exact z, rfl, by rw [hT1, hT]⟩⟩
        · rw [f_X9_reasonAgainstTear, e1, bs, if_pos rfl]
          show (f_X9_reasonAgainstString V (nI n) (nI p) (nI q) 0).bind _ = _
          rw [r1, bs]
        · rw [f_X8_tearString, net_eq _ _ hn, bs]
          have := putS V (1 + 4 + n) hp hq h true
          have this : f_X3_putString V (1 + 4 + n) (nI p) (nI q) 1 = _ := this
          rw [this, bs, hS.2.1 n _ hn hr, ← hT, ← hT1, up_ne _ (fun h => by omega), hS.1.2.2.2.1]
        · show (f_X8_netNumbered _ 1 (nI n)).bind _ = _
          rw [net_eq _ _ hn, bs, cc_s hS1 hG1 hn]
      · rw [z, if_neg (by decide)] at r1
        refine OC.no 4 ((nI p + nI q) - nI (min p q)) (by decide) (by decide) ?_
        rw [f_X9_reasonAgainstTear, e1, bs, if_pos rfl]
        show (f_X9_reasonAgainstString V (nI n) (nI p) (nI q) 0).bind _ = _
        rw [r1, bs]
  · refine OC.no 2 d (by decide) (by decide) ?_
    rw [f_X9_reasonAgainstTear, e1, bs, if_neg (by show ¬ (2 : Int32) = 0; decide)]
theorem oc_mend {V : St} {g : Nat → Int32} (hS : SR V 1 g) (hG : GG g) (hA : AC g) (x1 x2 x3 x4 : Int32) : OC V (f_X9_reasonAgainstMend V x1 x2 x3 x4) (f_X8_mendString V 1 x1 x2 x3 x4) (fun V => (f_X8_editorNumbered V 1 x4).bind fun q => some (V q 0)) (fun g1 _ => ∃ n p q, n < 3 ∧ p < 24 ∧ q < 24 ∧ x1 = nI n ∧ rw2 p q ≠ 0 ∧ tnB g n p q = true ∧ (∀ i, 6 ≤ i → i < 21 → g1 i = upd g (6 + 5 * n + rw2 p q) (wi (g (6 + 5 * n + rw2 p q)) (nI (min p q)) false) i) ∧ ∃ e tw, e < 4 ∧ e < (g 1).toNatClampNeg ∧ (tw = 1 ∨ tw = 2) ∧ ∃ t0, tw ≤ t0 ∧ t0 ≤ 99 ∧ g (21 + 2 * e + 0) = nI t0 ∧ g1 (21 + 2 * e + 0) = nI (t0 - tw) ∧ g1 1 = g 1 ∧ ∀ e2, e2 < 4 → e2 ≠ e → g1 (21 + 2 * e2 + 0) = g (21 + 2 * e2 + 0)) := by
  rcases ends_cc x1 x2 x3 with ⟨n, p, q, hn, hp, hq, rfl, rfl, rfl, e1⟩ | ⟨d, e1⟩
  · obtain ⟨m, b, c, t, w, hA1, hm, hA3, hA4, hA5, hA6, hA7, hA8, hA9⟩ := hA
    have hV3 : V 1 3 = nI m := by rw [hS.1.2.1, hm]
    rcases cnt_cs x4 (n := m) (by omega) with ⟨e, he, rfl, d2⟩ | ⟨d2, d3⟩
    · have d1 := he_yes hV3 he (by omega)
      have he4 : e < 4 := by omega
      obtain ⟨k1, k2, k3⟩ := hA3 e he
      rcases rs_cs hS hn hp hq true with ⟨h, r1, -⟩ | ⟨h, -, r1⟩
      · refine OC.no 5 (nI q) (by decide) (by decide) ?_
        have r1 : f_X9_reasonAgainstString V (nI n) (nI p) (nI q) 1 = some (5, up V 0 9 (nI q)) := r1
        rw [f_X9_reasonAgainstMend, e1, bs, if_pos rfl]
        show (f_X8_hasEditor V 1 (nI e)).bind _ = _
        rw [d1, bs, if_neg (by decide)]
        show (f_X9_reasonAgainstString V (nI n) (nI p) (nI q) 1).bind _ = _
        rw [r1, bs, if_neg (by show ¬ (5 : Int32) = 0; decide)]
      · have hr : rw2 p q < 5 := by rcases row_cs h with e | e <;> omega
        have hmn := min_lt (q := q) hp
        obtain ⟨T, hT⟩ : ∃ T, T = g (6 + 5 * n + rw2 p q) := ⟨_, rfl⟩
        obtain ⟨tw, htw⟩ : ∃ tw : Nat, tw = if rw2 p q = 2 then 1 else 2 := ⟨_, rfl⟩
        have htw2 : tw = 1 ∨ tw = 2 := by rw [htw]; split <;> omega
        obtain ⟨-, -, -, h4, -, -, h7⟩ := (st_fin ⟨p, hp⟩ ⟨q, hq⟩).2 h
        have h4 : f_X9_twineFor (nI p) (nI q) = some (nI tw) := by
          have h4 : f_X9_twineFor (nI p) (nI q) = some (if rw2 p q = 2 then 1 else 2) := h4
          rw [h4, htw]
          split <;> rfl
        have r1 : f_X9_reasonAgainstString V (nI n) (nI p) (nI q) 1 = _ := r1
        rw [← hT] at r1
        have rc1 : ∀ o, f_X9_reasonAgainstString V (nI n) (nI p) (nI q) 1 = o → f_X9_reasonAgainstMend V (nI n) (nI p) (nI q) (nI e) = o.bind fun q5 => if q5.1 = 0 then (f_X8_editorNumbered q5.2 1 (nI e)).bind fun q7 => (f_X9_twineFor (nI p) (nI q)).bind fun q8 => if q8 ≤ (q5.2 q7 0) then some (0, q5.2) else (f_X9_found q5.2 6 (q5.2 q7 0)).bind fun q10 => some (q10.1, q10.2) else some (q5.1, q5.2) := by
          intro o ho
          rw [f_X9_reasonAgainstMend, e1, bs, if_pos rfl]
          show (f_X8_hasEditor V 1 (nI e)).bind _ = _
          rw [d1, bs, if_neg (by decide)]
          show (f_X9_reasonAgainstString V (nI n) (nI p) (nI q) 1).bind _ = _
          rw [ho]
        cases z : bt T (min p q)
        · rw [z, if_neg (by decide)] at r1
          refine OC.no 4 ((nI p + nI q) - nI (min p q)) (by decide) (by decide) ?_
          rw [rc1 _ r1, bs, if_neg (by show ¬ (4 : Int32) = 0; decide)]
        · rw [z, if_pos rfl] at r1
          have hc0 : V (1 + 7 + e) 0 = nI (t e) := by rw [hS.2.2.1 e 0 he4 (by decide), k1]
          by_cases ct : tw ≤ t e
          · obtain ⟨T1, hT1⟩ : ∃ T1, T1 = wi T (nI (min p q)) false := ⟨_, rfl⟩
            have hN := hG.2.2.2 n hn
            have es : nI (t e) - nI tw = nI (t e - tw) := by
              rw [show t e = (t e - tw) + tw by omega, ← nI_add, Int32.add_sub_cancel, Nat.add_sub_cancel]
            obtain ⟨g1, hg1⟩ : ∃ g1, g1 = upd (upd (upd (upd (upd g (6 + 5 * n + rw2 p q) T1) (21 + 2 * e + 0) (nI (t e - tw))) (21 + 2 * e + 1) (nI (w e + 1))) 4 (nI (b + 1))) 5 (nI (c + tw)) := ⟨_, rfl⟩
            have hG1 : GG g1 := by
              rw [hg1]
              refine ((((hG.net hn hr (fun h9 => ?_) (fun h9 => ?_) (fun h9 => ?_) (fun h9 => ?_)).oth (by omega) _).oth (by omega) _).oth (by decide) _).oth (by decide) _
              · rcases row_cs h with e | e <;> omega
              · rw [h9] at hT
                rw [hT1, hT]
                exact wi_sub hN.2.2.1 hmn (fun h => by cases h)
              · rw [h9] at hT
                rw [hT1, hT]
                exact wi_sub hN.2.2.2.1 hmn (fun h => by cases h)
              · rcases row_cs h with e | e <;> omega
            have hS1 : SR (up (up (up (up (up V (1 + 4 + n) (rw2 p q) T1) (1 + 7 + e) 0 (nI (t e - tw))) (1 + 7 + e) 1 (nI (w e + 1))) 1 7 (nI (b + 1))) 1 8 (nI (c + tw))) 1 g1 := by
              rw [hg1]
              exact ((((hS.net hn hr T1).ed he4 (by decide) _).ed he4 (by decide) _).fld (by decide) _).fld (by decide) _
            have en : ∀ i, (i < 4 ∨ 5 < i) → (i < 21 + 2 * e ∨ 21 + 2 * e + 1 < i) → g1 i = upd g (6 + 5 * n + rw2 p q) T1 i := fun i h3 h4 => by
              rw [hg1, pk_un (by omega), pk_un (by omega), pk_un (by omega), pk_un (by omega)]
            have en2 : ∀ i, (i < 4 ∨ 21 ≤ i) → (i < 21 + 2 * e ∨ 21 + 2 * e + 1 < i) → g1 i = g i := fun i h3 h4 => by
              rw [en i (by omega) h4, pk_un (by rcases row_cs h with e | e <;> omega)]
            have e0 : g1 (21 + 2 * e + 0) = nI (t e - tw) := by rw [hg1, pk_un (by omega), pk_un (by omega), pk_un (by omega), pk_us]
            have e1' : g1 (21 + 2 * e + 1) = nI (w e + 1) := by rw [hg1, pk_un (by omega), pk_un (by omega), pk_us]
            have hC1 : AC g1 := by
              have hs := ntn_sum' (g := g) (x := T1) (k := 1) hn (row_cs h) (by rw [hT1, ← hT, nb_wi_f hmn z])
              have hcg : ∀ n2, n2 < 3 → ntn g1 n2 = ntn (upd g (6 + 5 * n + rw2 p q) T1) n2 := fun n2 h2 => ntn_cg (en _ (by omega) (by omega)) (en _ (by omega) (by omega))
              refine ⟨m, b + 1, c + tw, fun i => if i = e then t e - tw else t i, fun i => if i = e then w e + 1 else w i, hA1, by rw [en2 1 (by omega) (by omega), hm], fun i hi => ?_, by rw [hg1, pk_un (by omega), pk_us], by rw [hg1, pk_us], by omega, by omega, ?_, ?_⟩
              · show g1 _ = nI (if i = e then _ else _) ∧ g1 _ = nI (if i = e then _ else _) ∧ (if i = e then _ else _) + (if i = e then _ else _) ≤ 99
                by_cases q : i = e
                · subst q
                  simp only [if_pos trivial, if_true]
                  exact ⟨e0, e1', by omega⟩
                · rw [if_neg q, if_neg q, en2 _ (by omega) (by omega), en2 _ (by omega) (by omega)]
                  exact hA3 i hi
              · rw [ws_up he (w := w) (by show (if e = e then _ else _) = _; rw [if_pos rfl]) (fun i _ hi => if_neg hi), hA8]
              · rw [en2 3 (by omega) (by omega), hA9, hcg 0 (by decide), hcg 1 (by decide), hcg 2 (by decide)]
                congr 1
                omega
            refine Or.inr ⟨up (up (up (up (up V (1 + 4 + n) (rw2 p q) T1) (1 + 7 + e) 0 (nI (t e - tw))) (1 + 7 + e) 1 (nI (w e + 1))) 1 7 (nI (b + 1))) 1 8 (nI (c + tw)), g1, t e - tw, ?_, ?_, hS1, hG1, hC1, (((((Out.rf 1 V).up (by omega)).up (by omega)).up (by omega)).up (by omega)).up (by omega), ?_, by omega, ⟨n, p, q, hn, hp, hq, rfl, h, by unfold tnB; rw [← hT]; exact z, fun i i1 i2 => by rw [en i (by omega) (by omega), hT1, hT], e, tw, he4, by rw [hm, nI_clamp (by omega)]; exact he, htw2, t e, ct, by omega, k1, e0, en2 1 (by omega) (by omega), fun e2 _ h2 => en2 _ (by omega) (by omega)⟩⟩
            · rw [rc1 _ r1, bs, if_pos rfl, ed_eq _ _ he4, bs, h4, bs]
              show (if nI tw ≤ V (1 + 7 + e) 0 then _ else _) = _
              rw [hc0, if_pos (nI_le ct (by omega))]
            · have p0 := putS V (1 + 4 + n) hp hq h false
              have p0 : f_X3_putString V (1 + 4 + n) (nI p) (nI q) 0 = _ := p0
              rw [f_X8_mendString, h4, bs, net_eq _ _ hn, bs, p0, bs, hS.2.1 n _ hn hr, ← hT, ← hT1, ed_eq _ _ he4, bs, ed_eq _ _ he4, bs]
              have s0 : (up V (1 + 4 + n) (rw2 p q) T1) (1 + 7 + e) 0 = nI (t e) := by rw [up_ne _ (fun h => by omega), hc0]
              rw [s0, es]
              have s1 : ∀ x, (up (up V (1 + 4 + n) (rw2 p q) T1) (1 + 7 + e) 0 x) (1 + 7 + e) 1 = nI (w e) := fun x => by rw [up_ne _ (fun _ => by decide), up_ne _ (fun h => by omega), hS.2.2.1 e 1 he4 (by decide), k2]
              rw [s1, nI_1]
              have s2 : ∀ x y, (up (up (up V (1 + 4 + n) (rw2 p q) T1) (1 + 7 + e) 0 x) (1 + 7 + e) 1 y) 1 7 = nI b := fun x y => by rw [up_ne _ (fun h => by omega), up_ne _ (fun h => by omega), up_ne _ (fun h => by omega), hS.1.2.2.2.2.1, hA4]
              rw [s2, nI_1]
              have s3 : ∀ x y z, (up (up (up (up V (1 + 4 + n) (rw2 p q) T1) (1 + 7 + e) 0 x) (1 + 7 + e) 1 y) 1 7 z) 1 8 = nI c := fun x y z => by rw [up_ne _ (fun h => by decide), up_ne _ (fun h => by omega), up_ne _ (fun h => by omega), up_ne _ (fun h => by omega), hS.1.2.2.2.2.2, hA5]
              rw [s3, nI_add]
            · show (f_X8_editorNumbered _ 1 (nI e)).bind _ = _
              rw [ed_eq _ _ he4, bs, up_ne _ (fun h => by omega), up_ne _ (fun h => by omega), up_ne _ (fun _ => by decide), up_self]
          · refine OC.no 6 (nI (t e)) (by decide) (by decide) ?_
            rw [rc1 _ r1, bs, if_pos rfl, ed_eq _ _ he4, bs, h4, bs]
            show (if nI tw ≤ V (1 + 7 + e) 0 then _ else (f_X9_found V 6 (V (1 + 7 + e) 0)).bind _) = _
            rw [hc0, if_neg (nI_ge (by omega) (by omega))]
            rfl
    · refine OC.no 2 x4 (by decide) (by decide) ?_
      rw [f_X9_reasonAgainstMend, e1, bs, if_pos rfl]
      show (f_X8_hasEditor V 1 x4).bind _ = _
      rw [he_no hV3 d3, bs, if_pos rfl]
      rfl
  · refine OC.no 2 d (by decide) (by decide) ?_
    rw [f_X9_reasonAgainstMend, e1, bs, if_neg (by show ¬ (2 : Int32) = 0; decide)]
theorem oc_editor {V : St} {g : Nat → Int32} (hS : SR V 1 g) (hG : GG g) (hA : AC g) (x1 : Int32) : OC V (f_X9_reasonAgainstEditor V x1) (f_X8_addEditor V 1 x1) (fun V => some (V 1 3 - 1)) TrP := by
  obtain ⟨m, b, c, t, w, hm4, hm, hA3, hA4, hA5, hA6, hA7, hA8, hA9⟩ := hA
  have hV3 : V 1 3 = nI m := by rw [hS.1.2.1, hm]
  rcases rng x1 (n := 100) (by decide) with ⟨j, hj, rfl⟩ | h
  · have a1 : nI j ≤ (99 : Int32) := nI_le (b := 99) (by omega) (by decide)
    by_cases e : m = 4
    · subst e
      refine OC.no 1 4 (by decide) (by decide) ?_
      rw [f_X9_reasonAgainstEditor, if_neg (nI_pos (by omega)), if_pos a1, hV3, if_neg (by decide)]
      rfl
    · have hm3 : m < 4 := by omega
      obtain ⟨g1, hg1⟩ : ∃ g1, g1 = upd (upd (upd g (21 + 2 * m + 0) (nI j)) (21 + 2 * m + 1) 0) 1 (nI (m + 1)) := ⟨_, rfl⟩
      have hG1 : GG g1 := by
        rw [hg1]
        exact ((hG.oth (by omega) _).oth (by omega) _).eds (by omega)
      have hS1 : SR (up (up (up V (1 + 7 + m) 0 (nI j)) (1 + 7 + m) 1 0) 1 3 (nI (m + 1))) 1 g1 := by
        rw [hg1]
        exact ((hS.ed hm3 (by decide) _).ed hm3 (by decide) _).fld (by decide) _
      have en : ∀ i, i ≠ 1 → (i < 21 + 2 * m ∨ 21 + 2 * m + 1 < i) → g1 i = g i := fun i h1 h2 => by rw [hg1, pk_un h1, pk_un (by omega), pk_un (by omega)]
      have hC1 : AC g1 := by
        refine ⟨m + 1, b, c, fun i => if i = m then j else t i, fun i => if i = m then 0 else w i, by omega, by rw [hg1, pk_us], fun i hi => ?_, by rw [en 4 (by omega) (by omega), hA4], by rw [en 5 (by omega) (by omega), hA5], hA6, hA7, ?_, ?_⟩
        · show g1 _ = nI (if i = m then _ else _) ∧ g1 _ = nI (if i = m then _ else _) ∧ (if i = m then _ else _) + (if i = m then _ else _) ≤ 99
          by_cases q : i = m
          · subst q
            simp only [if_true]
            refine ⟨?_, ?_, by omega⟩
            · rw [hg1, pk_un (by omega), pk_un (by omega), pk_us]
            · rw [hg1, pk_un (by omega), pk_us]
              rfl
          · rw [if_neg q, if_neg q, en _ (by omega) (by omega), en _ (by omega) (by omega)]
            exact hA3 i (by omega)
        · unfold ws
          rw [ws_cg (w := w) (fun i hi => if_neg (by omega))]
          show b = ws m w + (if m = m then 0 else w m)
          rw [if_pos rfl]
          exact hA8
        · rw [en 3 (by omega) (by omega), ntn_cg (g := g) (n := 0) (en _ (by omega) (by omega)) (en _ (by omega) (by omega)), ntn_cg (g := g) (n := 1) (en _ (by omega) (by omega)) (en _ (by omega) (by omega)), ntn_cg (g := g) (n := 2) (en _ (by omega) (by omega)) (en _ (by omega) (by omega)), hA9]
      refine Or.inr ⟨up (up (up V (1 + 7 + m) 0 (nI j)) (1 + 7 + m) 1 0) 1 3 (nI (m + 1)), g1, m, ?_, ?_, hS1, hG1, hC1, (((Out.rf 1 V).up (by omega)).up (by omega)).up (by omega), ?_, by omega, trivial⟩
      · rw [f_X9_reasonAgainstEditor, if_neg (nI_pos (by omega)), if_pos a1, hV3, if_pos (show nI m < (4 : Int32) from nI_lt (b := 4) hm3 (by decide))]
      · have s1 : ∀ x, (up V (1 + 7 + m) 0 x) 1 3 = nI m := fun x => by rw [up_ne _ (fun h => by omega), hV3]
        have s2 : ∀ x y, (up (up V (1 + 7 + m) 0 x) (1 + 7 + m) 1 y) 1 3 = nI m := fun x y => by rw [up_ne _ (fun h => by omega), s1]
        rw [f_X8_addEditor, hV3, ed_eq _ _ hm3, bs, s1, ed_eq _ _ hm3, bs, s2, nI_1]
      · show some (_ - 1) = _
        rw [up_self, nI_pred]
  · refine OC.no 3 x1 (by decide) (by decide) ?_
    rw [f_X9_reasonAgainstEditor]
    exact out_c (n := 99) rfl h _ _
theorem oc_tide {V : St} {g : Nat → Int32} (hS : SR V 1 g) (hG : GG g) (hA : AC g) (x1 : Int32) : OC V (f_X9_reasonAgainstTide V x1) (some (up V 1 5 x1)) (fun V => f_X8_countReadable V 1) TrP := by
  have hV5 : V 1 5 = g 0 := hS.1.1
  rcases rng x1 (n := 5) (by decide) with ⟨j, hj, rfl⟩ | h
  · have a1 : nI j ≤ (4 : Int32) := nI_le (b := 4) (by omega) (by decide)
    by_cases e : g 0 = nI j
    · refine OC.no 4 (nI j) (by decide) (by decide) ?_
      rw [f_X9_reasonAgainstTide, if_neg (nI_pos (by omega)), if_pos a1, hV5, if_pos e]
      rfl
    · have hG1 : GG (upd g 0 (nI j)) := hG.tid (by omega)
      have hS1 : SR (up V 1 5 (nI j)) 1 (upd g 0 (nI j)) := hS.fld (by decide) _
      refine Or.inr ⟨up V 1 5 (nI j), upd g 0 (nI j), nrd (upd g 0 (nI j)) 0 + nrd (upd g 0 (nI j)) 1 + nrd (upd g 0 (nI j)) 2, ?_, rfl, hS1, hG1, hA.un (by unfold KA; omega), (Out.rf 1 V).up (by omega), cr_c hS1 hG1, ?_, trivial⟩
      · rw [f_X9_reasonAgainstTide, if_neg (nI_pos (by omega)), if_pos a1, hV5, if_neg e]
      · have := nrd_le (upd g 0 (nI j)) 0
        have := nrd_le (upd g 0 (nI j)) 1
        have := nrd_le (upd g 0 (nI j)) 2
        omega
  · refine OC.no 3 x1 (by decide) (by decide) ?_
    rw [f_X9_reasonAgainstTide]
    exact out_c (n := 4) rfl h _ _
theorem uwg_le (g : Nat → Int32) (n : Nat) : uwg g n ≤ 4 := uw_le _ _
theorem oc_sink {V : St} {g : Nat → Int32} (hS : SR V 1 g) (hG : GG g) (hA : AC g) (x1 x2 : Int32) : OC V (f_X9_reasonAgainstSink V x1 x2) ((f_X8_netNumbered V 1 x1).bind fun q => some (up V q 4 x2)) (fun V => f_X8_linesUnderWater V 1 x1) TrP := by
  rcases net_cs x1 with ⟨n, hn, rfl, b1, b2⟩ | ⟨b1, b2⟩
  · rcases rng x2 (n := 5) (by decide) with ⟨j, hj, rfl⟩ | h
    · have a1 : nI j ≤ (4 : Int32) := nI_le (b := 4) (by omega) (by decide)
      have hV4 : V (1 + 4 + n) 4 = g (6 + 5 * n + 4) := hS.2.1 n 4 hn (by decide)
      by_cases e : g (6 + 5 * n + 4) = nI j
      · refine OC.no 4 (nI j) (by decide) (by decide) ?_
        rw [f_X9_reasonAgainstSink, b1, bs, if_neg (by decide), if_neg (nI_pos (by omega)), if_pos a1, net_eq _ _ hn, bs, hV4, if_pos e]
        rfl
      · have hG1 : GG (upd g (6 + 5 * n + 4) (nI j)) := hG.net hn (by decide) (fun h => by omega) (fun h => by cases h) (fun h => by cases h) (fun _ => ⟨j, by omega, rfl⟩)
        have hS1 : SR (up V (1 + 4 + n) 4 (nI j)) 1 (upd g (6 + 5 * n + 4) (nI j)) := hS.net hn (by decide) _
        refine Or.inr ⟨up V (1 + 4 + n) 4 (nI j), upd g (6 + 5 * n + 4) (nI j), uwg (upd g (6 + 5 * n + 4) (nI j)) n, ?_, ?_, hS1, hG1, hA.un (by unfold KA; omega), (Out.rf 1 V).up (by omega), uw_c hS1 hG1 hn, by have := uwg_le (upd g (6 + 5 * n + 4) (nI j)) n; omega, trivial⟩
        · rw [f_X9_reasonAgainstSink, b1, bs, if_neg (by decide), if_neg (nI_pos (by omega)), if_pos a1, net_eq _ _ hn, bs, hV4, if_neg e]
          rfl
        · rw [net_eq _ _ hn, bs]
    · refine OC.no 3 x2 (by decide) (by decide) ?_
      rw [f_X9_reasonAgainstSink, b1, bs, if_neg (by decide)]
      exact out_c (n := 4) rfl h _ _
  · refine OC.no 2 x1 (by decide) (by decide) ?_
    rw [f_X9_reasonAgainstSink, b1, bs, if_pos rfl]
    rfl
theorem oc_note {V : St} {g : Nat → Int32} (hS : SR V 1 g) (hG : GG g) (hA : AC g) (x1 x2 : Int32) : OC V (f_X9_reasonAgainstNote V x1 x2) (f_X8_addNote V 1 x1 x2) (fun V => some (V 1 4 - 1)) TrP := by
  obtain ⟨m, hm6, hm, -⟩ := hG.2.2.1
  have hV4 : V 1 4 = nI m := by rw [hS.1.2.2.1, hm]
  rcases net_cs x1 with ⟨n, hn, rfl, a1, a2⟩ | ⟨a1, a2⟩
  · rcases pl_cs x2 with ⟨p, hp, rfl, b1, b2⟩ | ⟨b1, b2⟩
    · have hN := hG.2.2.2 n hn
      obtain ⟨C, c1, c2, c3, c4⟩ := chap_any (V := V) (k := 1 + 4 + n) hp (by rw [hS.eA hn]; exact hG.k24 hn)
      rw [hS.eA hn, hS.eR hn, hS.eD hn] at c4
      rw [hS.eA hn] at c3
      cases e : bt (kA g n) p
      · refine OC.no 7 (nI p) (by decide) (by decide) ?_
        rw [f_X9_reasonAgainstNote, a1, bs, if_neg (by decide), b1, bs, if_neg (by decide), net_eq _ _ hn, bs, c1, bs, if_pos (c3 e)]
        rfl
      · obtain ⟨c5, c6⟩ := c4 e
        have hCs : Sub C (kA g n) := fun i hi => by
          have hi24 := c2.lt hi
          exact con.inA ((c5 i (by omega)).mp hi) e
        rcases lw_loop hS hm6 hm hn C 500 0 (by omega) (by omega) with ⟨k, k1, k2, k3, k4, k5⟩ | ⟨k1, k2⟩
        · have k5 : f_X8_lowestNoteOf V 1 (nI n) C = some (nI k) := k5
          refine OC.no 8 (nI k) (by decide) (by decide) ?_
          rw [f_X9_reasonAgainstNote, a1, bs, if_neg (by decide), b1, bs, if_neg (by decide), net_eq _ _ hn, bs, c1, bs, if_neg c6, k5, bs, if_neg (fun q => by
            have : ∀ k : Fin 6, ¬ nI k.val = -1 := by decide +kernel
            exact this ⟨k, by omega⟩ q)]
          rfl
        · have k2 : f_X8_lowestNoteOf V 1 (nI n) C = some (-1) := k2
          by_cases e6 : m = 6
          · subst e6
            refine OC.no 1 6 (by decide) (by decide) ?_
            rw [f_X9_reasonAgainstNote, a1, bs, if_neg (by decide), b1, bs, if_neg (by decide), net_eq _ _ hn, bs, c1, bs, if_neg c6, k2, bs, if_pos rfl, hV4, if_neg (by decide)]
            rfl
          · have hm5 : m < 6 := by omega
            have hlh : C = (g (6 + 5 * n) &&& C) ||| (g (6 + 5 * n + 1) &&& C) := by
              refine b_iff fun z _ => ?_
              rw [b_or, b_and, b_and]
              constructor
              · intro h
                have := hCs z h
                unfold kA at this
                rw [b_or] at this
                rw [h, Bool.and_true, Bool.and_true]
                exact this
              · intro h
                cases q : bt C z
                · rw [q] at h
                  simp at h
                · rfl
            have hS1 := hS.note hm5 hm (nI n) C (g (6 + 5 * n) &&& C) (g (6 + 5 * n + 1) &&& C)
            have hG1 := hG.note hm5 hm hn hlh (comp_hang (hG.k24 hn) e wh_sub wh_sub c5)
            refine Or.inr ⟨up (up (up (up V (1 + 11 + m) 0 (nI n)) (1 + 11 + m) 1 (g (6 + 5 * n) &&& C)) (1 + 11 + m) 2 (g (6 + 5 * n + 1) &&& C)) 1 4 (nI (m + 1)), _, m, ?_, ?_, hS1, hG1, ((((hA.un (by unfold KA; omega)).un (by unfold KA; omega)).un (by unfold KA; omega)).un (by unfold KA; omega)).un (by unfold KA; omega), ((((Out.rf 1 V).up (by omega)).up (by omega)).up (by omega)).up (by omega), ?_, by omega, trivial⟩
            · rw [f_X9_reasonAgainstNote, a1, bs, if_neg (by decide), b1, bs, if_neg (by decide), net_eq _ _ hn, bs, c1, bs, if_neg c6, k2, bs, if_pos rfl, hV4, if_pos (show nI m < (6 : Int32) from nI_lt (b := 6) hm5 (by decide))]
            · rw [f_X8_addNote, net_eq _ _ hn, bs, c1, bs, hV4, no_eq _ _ hm5, bs]
              have s0 : ∀ x, (up V (1 + 11 + m) 0 x) (1 + 4 + n) 0 = g (6 + 5 * n) := fun x => by rw [up_at (by omega), hS.2.1 n 0 hn (by decide), Nat.add_zero]
              rw [s0]
              have s1 : ∀ x y, (up (up V (1 + 11 + m) 0 x) (1 + 11 + m) 1 y) (1 + 4 + n) 1 = g (6 + 5 * n + 1) := fun x y => by rw [up_at (by omega), up_at (by omega), hS.2.1 n 1 hn (by decide)]
              rw [s1]
              have s2 : ∀ x y z, (up (up (up V (1 + 11 + m) 0 x) (1 + 11 + m) 1 y) (1 + 11 + m) 2 z) 1 4 = nI m := fun x y z => by rw [up_at (by omega), up_at (by omega), up_at (by omega), hV4]
              rw [s2, nI_1]
            · show some (_ - 1) = _
              rw [up_self, nI_pred]
    · refine OC.no 2 x2 (by decide) (by decide) ?_
      rw [f_X9_reasonAgainstNote, a1, bs, if_neg (by decide), b1, bs, if_pos rfl]
      rfl
  · refine OC.no 2 x1 (by decide) (by decide) ?_
    rw [f_X9_reasonAgainstNote, a1, bs, if_pos rfl]
    rfl
/-- the notes' ints, a note taken out -/
def gdr (g : Nat → Int32) (m i : Nat) : Nat → Int32 := fun q => if q = 2 then nI m else if 29 + 4 * i ≤ q ∧ q < 29 + 4 * m then g (q + 4) else g q
theorem oc_drop {V : St} {g : Nat → Int32} (hS : SR V 1 g) (hG : GG g) (hA : AC g) (x1 : Int32) : OC V (f_X9_reasonAgainstDrop V x1) (f_X8_removeNote V 1 x1) (fun V => some (V 1 4)) TrP := by
  obtain ⟨m, hm6, hm, hT⟩ := hG.2.2.1
  have hV4 : V 1 4 = nI m := by rw [hS.1.2.2.1, hm]
  rcases cnt_cs x1 (n := m) (by omega) with ⟨i, hi, rfl, d2⟩ | ⟨d2, d3⟩
  · obtain ⟨m, rfl⟩ : ∃ z, m = z + 1 := ⟨m - 1, by omega⟩
    obtain ⟨Vc1, a1, a2, a3, a4, a5⟩ := rn_loop (B := 1) 500 i V hV4 (by omega) (by omega) (by omega)
    obtain ⟨g1, hg1⟩ : ∃ g1, g1 = gdr g m i := ⟨_, rfl⟩
    have b4 : g1 2 = nI m := by rw [hg1]; rfl
    have b5 : ∀ q, q ≠ 2 → (q < 29 + 4 * i ∨ 29 + 4 * m ≤ q) → g1 q = g q := fun q h1 h2 => by
      rw [hg1]
      unfold gdr
      rw [if_neg h1, if_neg (by omega)]
    have b6 : ∀ q, 29 + 4 * i ≤ q → q < 29 + 4 * m → g1 q = g (q + 4) := fun q h1 h2 => by
      rw [hg1]
      unfold gdr
      rw [if_neg (by omega), if_pos ⟨h1, h2⟩]
    obtain ⟨⟨h1, h2, h3, h4, h5, h6⟩, hN, hE, hO⟩ := hS
    refine Or.inr ⟨Vc1, g1, m, ?_, a1, ?_, ?_, ?_, ?_, ?_, by omega, trivial⟩
    · rw [f_X9_reasonAgainstDrop, hn_yes hV4 hi (by omega), bs, if_neg (by decide)]
    · refine ⟨⟨?_, ?_, ?_, ?_, ?_, ?_⟩, fun n w a b => ?_, fun e w a b => ?_, fun k a b => ?_⟩
      · rw [a3 _ (by decide), b5 _ (by decide) (by omega), h1]
      · rw [a3 _ (by decide), b5 _ (by decide) (by omega), h2]
      · rw [a2, b4]
      · rw [a3 _ (by decide), b5 _ (by decide) (by omega), h4]
      · rw [a3 _ (by decide), b5 _ (by decide) (by omega), h5]
      · rw [a3 _ (by decide), b5 _ (by decide) (by omega), h6]
      · rw [a4 _ (by omega) (by omega), b5 _ (by omega) (by omega), hN n w a b]
      · rw [a4 _ (by omega) (by omega), b5 _ (by omega) (by omega), hE e w a b]
      · rw [b4, nI_clamp (by omega)] at b
        by_cases c : k < i
        · rw [a4 _ (by omega) (by omega), b5 _ (by omega) (by omega), b5 _ (by omega) (by omega), b5 _ (by omega) (by omega)]
          exact hO k a (by rw [hm, nI_clamp (by omega)]; omega)
        · rw [a5 k 0 (by omega) b (by decide), a5 k 1 (by omega) b (by decide), a5 k 2 (by omega) b (by decide), b6 _ (by omega) (by omega), b6 _ (by omega) (by omega), b6 _ (by omega) (by omega)]
          exact hO (k + 1) (by omega) (by rw [hm, nI_clamp (by omega)]; omega)
    · obtain ⟨⟨t, t1, t2⟩, ⟨d, d1, d2⟩, -, hNn⟩ := hG
      refine ⟨⟨t, t1, by rw [b5 _ (by decide) (by omega), t2]⟩, ⟨d, d1, by rw [b5 _ (by decide) (by omega), d2]⟩, ⟨m, by omega, b4, fun k hk => ?_⟩, fun n hn => ?_⟩
      · by_cases c : k < i
        · have := hT k (by omega)
          unfold GT
          rw [b5 _ (by omega) (by omega), b5 _ (by omega) (by omega), b5 _ (by omega) (by omega), b5 _ (by omega) (by omega)]
          exact this
        · have := hT (k + 1) (by omega)
          unfold GT
          rw [b6 _ (by omega) (by omega), b6 _ (by omega) (by omega), b6 _ (by omega) (by omega), b6 _ (by omega) (by omega)]
          exact this
      · have := hNn n hn
        unfold GN
        rw [b5 _ (by omega) (by omega), b5 _ (by omega) (by omega), b5 _ (by omega) (by omega), b5 _ (by omega) (by omega), b5 _ (by omega) (by omega)]
        exact this
    · exact hA.cg fun q hq => b5 q (by unfold KA at hq; omega) (by unfold KA at hq; omega)
    · intro k hk
      exact a4 k (by omega) (by omega)
    · show some (Vc1 1 4) = _
      rw [a2]
  · refine OC.no 2 x1 (by decide) (by decide) ?_
    rw [f_X9_reasonAgainstDrop, hn_no hV4 d3, bs, if_pos rfl]
    rfl
/-! the invariant, and the changes over it -/
def JJ (V : St) (g : Nat → Int32) (c : Nat) (G : Nat → Nat → Int32) : Prop := SR V 1 g ∧ GG g ∧ AC g ∧ c ≤ 8 ∧ HRc V G c ∧ (∀ j, j < c → GG (G j) ∧ AC (G j)) ∧ V 192 1 = 0
theorem JJ.fr {V V1 : St} {g : Nat → Int32} {c : Nat} {G : Nat → Nat → Int32} (h : JJ V g c G) (a : ∀ k, 1 ≤ k → k < 190 → V1 k = V k) (b : V1 192 1 = V 192 1) : JJ V1 g c G := by
  obtain ⟨h1, h2, h3, h4, h5, h6, h7⟩ := h
  exact ⟨h1.fr fun k k1 k2 => a k k1 (by omega), h2, h3, h4, h5.fr fun k k1 k2 => a k (by omega) k2, h6, by rw [b, h7]⟩
/-- what a call changes when it is refused, or done -/
def MU (V : St) (g : Nat → Int32) (c : Nat) (G : Nat → Nat → Int32) (o : Option ((Except Nat Int32) × St)) (P : (Nat → Int32) → Nat → Prop) : Prop :=
  (∃ V1, o = some (.error 0, V1) ∧ JJ V1 g c G) ∨ (∃ V1 g1 a, o = some (.ok (nI a), V1) ∧ JJ V1 g1 (cp8 c) (Gp G c g) ∧ a < 1000 ∧ P g1 a)
theorem cp8_le {c : Nat} (h : c ≤ 8) : cp8 c ≤ 8 := by
  unfold cp8
  split <;> omega
theorem Gp_all {P : (Nat → Int32) → Prop} {G : Nat → Nat → Int32} {c : Nat} {g : Nat → Int32} (h : ∀ j, j < c → P (G j)) (hg : P g) (hc : c ≤ 8) : ∀ j, j < cp8 c → P (Gp G c g j) := by
  intro j hj
  unfold Gp
  unfold cp8 at hj
  by_cases q : c < 8
  · rw [if_pos q] at hj ⊢
    show P (if j = c then _ else _)
    split
    · exact hg
    · exact h j (by omega)
  · rw [if_neg q] at hj ⊢
    show P (if j = 7 then _ else _)
    split
    · exact hg
    · exact h (j + 1) (by omega)
def Vg (g : Nat → Int32) : St := fun k => if k = 209 then g else fun _ => 0
theorem Vg_9 (g : Nat → Int32) : Vg g 209 = g := if_pos rfl
theorem mutc {rc : St → Option (Int32 × St)} {dc : St → Option St} {rm : St → Option (Int32 × St)} {an : St → St → Option Int32} {P : (Nat → Int32) → Nat → Prop} {g : Nat → Int32} (hM : ∀ Vc Vm, SR Vc 1 (Vm 209) → GG (Vm 209) → OP Vc Vm (rc Vc) (dc Vc) (rm Vm) (an Vc)) (hO : ∀ V, SR V 1 g → GG g → AC g → OC V (rc V) (dc V) (an V) P) {V : St} {c : Nat} {G : Nat → Nat → Int32} (hJ : JJ V g c G) :
    MU V g c G ((rc V).bind fun q1 => (f_X9_keepsReason q1.2 q1.1).bind fun q2 => if q2.1 = 0 then ((f_X1_push q2.2 1).bind fun q4 => (dc q4).bind fun q5 => (an q4 q5).bind fun x => some (.ok x, q5)) else some (.error 0, q2.2)) P := by
  obtain ⟨h1, h2, h3, h4, h5, h6, h7⟩ := id hJ
  obtain ⟨Vp, p1, p2, p3⟩ := push_c h4 h5 h1 (by decide)
  rcases hO V h1 h2 h3 with ⟨r, d, n0, n9, c1⟩ | ⟨V1, g1, a, c1, -⟩
  · refine Or.inl ⟨up (up (up (up (up V 0 9 d) 207 0 r) 207 1 d) 207 2 0) 207 3 0, ?_, hJ.fr (fun k a b => by simp only [up_at (show k ≠ 207 by omega), up_at (show k ≠ 0 by omega)]) (by simp only [up_at (show 192 ≠ 207 by decide), up_at (show 192 ≠ 0 by decide)])⟩
    rw [c1, bs]
    show (f_X9_keepsReason (up V 0 9 d) r).bind _ = _
    rw [f_X9_keepsReason, if_neg n0, up_self]
    rfl
  · rcases hO Vp (h1.fr fun k a b => p2 k (Or.inl (by omega))) h2 h3 with ⟨r, d, n0, -, c2⟩ | ⟨V2, g2, a2, d1, d2, d3, d4, d5, d6, d7, d8, d9⟩
    · exfalso
      have hp : SR Vp 1 (Vg g 209) := by rw [Vg_9]; exact h1.fr fun k a b => p2 k (Or.inl (by omega))
      have hv : SR V 1 (Vg g 209) := by rw [Vg_9]; exact h1
      have h2' : GG (Vg g 209) := by rw [Vg_9]; exact h2
      rcases hM Vp (Vg g) hp h2' with ⟨r1, _, _, n1, -, -, m1, -⟩ | ⟨_, _, m1, -⟩
      · rcases hM V (Vg g) hv h2' with ⟨r2, _, _, k1, -, k2, -⟩ | ⟨_, _, -, -, m2, -⟩
        · rw [c1] at k2
          exact k1 (congrArg Prod.fst (Option.some.inj k2)).symm
        · rw [m1] at m2
          exact n1 (congrArg Prod.fst (Option.some.inj m2))
      · rw [c2] at m1
        exact n0 (congrArg Prod.fst (Option.some.inj m1))
    · refine Or.inr ⟨V2, g2, a2, ?_, ⟨d3, d4, d5, cp8_le h4, p3.fr fun k a b => d6 k (by omega), Gp_all (P := fun g => GG g ∧ AC g) h6 ⟨h2, h3⟩ h4, by rw [d6 192 (by omega), p2 192 (Or.inr (by decide)), h7]⟩, d8, d9⟩
      rw [c1, bs]
      show ((f_X9_keepsReason V 0).bind _) = _
      rw [f_X9_keepsReason, if_pos rfl, bs, if_pos rfl]
      show (f_X1_push V 1).bind _ = _
      rw [p1, bs, d2, bs, d7]
      rfl
theorem mc_eq {V : St} {g : Nat → Int32} {c : Nat} {G : Nat → Nat → Int32} {o o2 : Option ((Except Nat Int32) × St)} {P : (Nat → Int32) → Nat → Prop} (h : MU V g c G o P) (e : o2 = o) : MU V g c G o2 P := by rw [e]; exact h
theorem mc_knot {V : St} {g : Nat → Int32} {c : Nat} {G : Nat → Nat → Int32} (hJ : JJ V g c G) (x1 x2 x3 : Int32) : MU V g c G (f_X9_knot V x1 x2 x3) TrP := by
  refine mc_eq (mutc (an := fun V _ => (f_X8_netNumbered V 1 x1).bind fun q => f_X3_kindAt V q x2) (rm := fun V => f_X10_ties V x1 x2 x3) (fun Vc Vm a b => op_knot a b x1 x2 x3) (fun V a b d => oc_knot a b d x1 x2 x3) hJ) ?_
  simp only [f_X9_knot, ba]
  refine congrArg _ (funext fun q1 => congrArg _ (funext fun q2 => ?_))
  split
  · refine congrArg _ (funext fun q4 => ?_)
    cases f_X8_netNumbered q4 1 x1 with
    | none => rfl
    | some q5 =>
      show ((f_X3_kindAt q4 q5 x2).bind fun q6 => (f_X3_tie q4 q5 x2 x3).bind fun q8 => some (Except.ok q6, q8)) = ((f_X3_tie q4 q5 x2 x3).bind fun q8 => (f_X3_kindAt q4 q5 x2).bind fun q6 => some (Except.ok q6, q8))
      exact bc2 _ _ _
  · rfl
theorem mc_tear {V : St} {g : Nat → Int32} {c : Nat} {G : Nat → Nat → Int32} (hJ : JJ V g c G) (x1 x2 x3 : Int32) : MU V g c G (f_X9_tear V x1 x2 x3) (fun g1 a => ∃ n p q, n < 3 ∧ p < 24 ∧ q < 24 ∧ x1 = nI n ∧ rw2 p q ≠ 0 ∧ tnB g n p q = false ∧ a = nch g1 n ∧ g1 = upd (upd g (6 + 5 * n + rw2 p q) (wi (g (6 + 5 * n + rw2 p q)) (nI (min p q)) true)) 3 (g 3 + 1)) := by
  refine mc_eq (mutc (an := fun _ V => (f_X8_netNumbered V 1 x1).bind fun q => f_X3_countChapters V q) (rm := fun V => f_X10_tears V x1 x2 x3) (fun Vc Vm a b => op_tear a b x1 x2 x3) (fun V a b d => oc_tear a b d x1 x2 x3) hJ) ?_
  simp only [f_X9_tear, ba]
theorem mc_mend {V : St} {g : Nat → Int32} {c : Nat} {G : Nat → Nat → Int32} (hJ : JJ V g c G) (x1 x2 x3 x4 : Int32) : MU V g c G (f_X9_mend V x1 x2 x3 x4) (fun g1 _ => ∃ n p q, n < 3 ∧ p < 24 ∧ q < 24 ∧ x1 = nI n ∧ rw2 p q ≠ 0 ∧ tnB g n p q = true ∧ (∀ i, 6 ≤ i → i < 21 → g1 i = upd g (6 + 5 * n + rw2 p q) (wi (g (6 + 5 * n + rw2 p q)) (nI (min p q)) false) i) ∧ ∃ e tw, e < 4 ∧ e < (g 1).toNatClampNeg ∧ (tw = 1 ∨ tw = 2) ∧ ∃ t0, tw ≤ t0 ∧ t0 ≤ 99 ∧ g (21 + 2 * e + 0) = nI t0 ∧ g1 (21 + 2 * e + 0) = nI (t0 - tw) ∧ g1 1 = g 1 ∧ ∀ e2, e2 < 4 → e2 ≠ e → g1 (21 + 2 * e2 + 0) = g (21 + 2 * e2 + 0)) := by
  refine mc_eq (mutc (an := fun _ V => (f_X8_editorNumbered V 1 x4).bind fun q => some (V q 0)) (rm := fun V => f_X10_mends V x1 x2 x3 x4) (fun Vc Vm a b => op_mend a b x1 x2 x3 x4) (fun V a b d => oc_mend a b d x1 x2 x3 x4) hJ) ?_
  simp only [f_X9_mend, ba, bs]
theorem mc_editor {V : St} {g : Nat → Int32} {c : Nat} {G : Nat → Nat → Int32} (hJ : JJ V g c G) (x1 : Int32) : MU V g c G (f_X9_editor V x1) TrP := by
  refine mc_eq (mutc (an := fun _ V => some (V 1 3 - 1)) (rm := fun V => f_X10_comes V x1) (fun Vc Vm a b => op_editor a b x1) (fun V a b d => oc_editor a b d x1) hJ) ?_
  simp only [f_X9_editor, ba, bs]
theorem mc_tide {V : St} {g : Nat → Int32} {c : Nat} {G : Nat → Nat → Int32} (hJ : JJ V g c G) (x1 : Int32) : MU V g c G (f_X9_tide V x1) TrP := by
  refine mc_eq (mutc (an := fun _ V => f_X8_countReadable V 1) (rm := fun V => f_X10_turns V x1) (fun Vc Vm a b => op_tide a b x1) (fun V a b d => oc_tide a b d x1) hJ) ?_
  simp only [f_X9_tide, ba, bs]
theorem mc_sink {V : St} {g : Nat → Int32} {c : Nat} {G : Nat → Nat → Int32} (hJ : JJ V g c G) (x1 x2 : Int32) : MU V g c G (f_X9_sink V x1 x2) TrP := by
  refine mc_eq (mutc (an := fun _ V => f_X8_linesUnderWater V 1 x1) (rm := fun V => f_X10_sinks V x1 x2) (fun Vc Vm a b => op_sink a b x1 x2) (fun V a b d => oc_sink a b d x1 x2) hJ) ?_
  simp only [f_X9_sink, ba, bs]
theorem mc_note {V : St} {g : Nat → Int32} {c : Nat} {G : Nat → Nat → Int32} (hJ : JJ V g c G) (x1 x2 : Int32) : MU V g c G (f_X9_note V x1 x2) TrP := by
  refine mc_eq (mutc (an := fun _ V => some (V 1 4 - 1)) (rm := fun V => f_X10_notes V x1 x2) (fun Vc Vm a b => op_note a b x1 x2) (fun V a b d => oc_note a b d x1 x2) hJ) ?_
  simp only [f_X9_note, ba, bs]
theorem mc_drop {V : St} {g : Nat → Int32} {c : Nat} {G : Nat → Nat → Int32} (hJ : JJ V g c G) (x1 : Int32) : MU V g c G (f_X9_drop V x1) TrP := by
  refine mc_eq (mutc (an := fun _ V => some (V 1 4)) (rm := fun V => f_X10_drops V x1) (fun Vc Vm a b => op_drop a b x1) (fun V a b d => oc_drop a b d x1) hJ) ?_
  simp only [f_X9_drop, ba, bs]
