/-! notes: how many read so, how little twine would do -/
theorem rsl6 {V : St} {g : Nat → Int32} (hS : SR V 1 g) (hG : GG g) {m : Nat} (hm : g 2 = nI m) (hm6 : m ≤ 6) : ∀ (f i : Nat), i ≤ m → m < f + i → f_X8_countAsNoted_b4 f V 1 (nI (ws i (fun k => if rdB g k = true then 1 else 0))) (nI i) = some (nI (ws m (fun k => if rdB g k = true then 1 else 0)))
  | 0, i, h1, h2 => by omega
  | f + 1, i, h1, h2 => by
    rw [f_X8_countAsNoted_b4, hS.1.2.2.1, hm]
    by_cases e : i = m
    · rw [if_pos (by rw [e]; exact nI_le (Nat.le_refl _) (by omega)), e]
    · obtain ⟨n, S, y, z, h⟩ := nts hS hG hm6 hm (show i < m by omega)
      have ih := rsl6 hS hG hm hm6 f (i + 1) (by omega) (by omega)
      have e1 : ws (i + 1) (fun k => if rdB g k = true then 1 else 0) = ws i (fun k => if rdB g k = true then 1 else 0) + (if rdB g i = true then 1 else 0) := rfl
      rw [e1] at ih
      rw [if_neg (nI_ge (by omega) (by omega)), no_eq _ _ (by omega), bs, rd_u hS hG h, bs]
      cases c : rdB g i
      · rw [c] at ih
        rw [if_pos (by decide), f_X8_countAsNoted_b30, nI_1]
        rw [show nI (ws i fun k => if rdB g k = true then 1 else 0) + 0 = nI ((ws i fun k => if rdB g k = true then 1 else 0) + 0) from Int32.add_zero _]
        exact ih
      · rw [c] at ih
        rw [if_neg (by decide), f_X8_countAsNoted_b30, nI_1, nI_1]
        exact ih
theorem q_a6 {V : St} {g : Nat → Int32} (hS : SR V 1 g) (hG : GG g) {m : Nat} (hm : g 2 = nI m) (hm6 : m ≤ 6) : f_L_account V 6 = some (nI (ws m (fun k => if rdB g k = true then 1 else 0))) := by
  have h : f_X8_countAsNoted V 1 = some (nI (ws m (fun k => if rdB g k = true then 1 else 0))) := rsl6 hS hG hm hm6 500 0 (by omega) (by omega)
  rw [f_L_account, f_X9_account, if_neg (by decide), if_neg (by decide), if_neg (by decide), if_neg (by decide), if_neg (by decide), if_neg (by decide), if_pos rfl, h, bs, bs]
  rfl
theorem NT.mv {V V2 : St} {g : Nat → Int32} {m k n : Nat} {S y z : Int32} (h : NT V g k n S y z) (hS2 : SR V2 1 g) (hm : g 2 = nI m) (hm6 : m ≤ 6) (hk : k < m) : NT V2 g k n S y z := by
  obtain ⟨n1, k6, h0, h1, h2, h3, h4, h5, -, -, -⟩ := h
  obtain ⟨a0, a1, a2⟩ := hS2.2.2.2 k k6 (by rw [hm, nI_clamp (by omega)]; exact hk)
  exact ⟨n1, k6, h0, h1, h2, h3, h4, h5, a0.trans h0, a1.trans h2, a2.trans h3⟩
def otS (g : Nat → Int32) (n : Nat) (S : Int32) : Int32 := (bsd S (kR g n) (kD g n) &&& kA g n) &&& (S ^^^ (-1))
noncomputable def lsT (g : Nat → Int32) (n : Nat) (S : Int32) : Nat := (P0 S (g (6 + 5 * n + 2)) (g (6 + 5 * n + 3)) - P1 S (g (6 + 5 * n + 3))) + 2 * (P1 S (g (6 + 5 * n + 3)) - 1)
theorem lsc {V : St} {g : Nat → Int32} (hS : SR V 1 g) (hg : GG g) {k n : Nat} {S y z : Int32} (h : NT V g k n S y z) :
    (hkB g n S y z = true ∧ otS g n S = 0 → f_X8_canBeMended V 1 (1 + 11 + k) = some 1 ∧ (∃ V1, f_X8_leastByStrings V 1 (1 + 11 + k) = some (nI (lsT g n S), V1) ∧ F191 V V1) ∧ f_X8_leastByPlaces V 1 (1 + 11 + k) = some (nI (lsT g n S)) ∧ ∃ j1 j2, P0 S (g (6 + 5 * n + 2)) (g (6 + 5 * n + 3)) = 1 + j2 + j1 ∧ lsT g n S = j1 + 2 * j2) ∧
    (¬ (hkB g n S y z = true ∧ otS g n S = 0) → f_X8_canBeMended V 1 (1 + 11 + k) = some 0) := by
  obtain ⟨n1, k6, g0, g1, g2, g3, g4, g5, g6, g7, g8⟩ := id h
  have n0 : V (1 + 4 + n) 0 = g (6 + 5 * n) := hS.2.1 n 0 n1 (by decide)
  have n11 : V (1 + 4 + n) 1 = g (6 + 5 * n + 1) := hS.2.1 n 1 n1 (by decide)
  have pl : f_X4_places V (1 + 11 + k) = some S := by rw [f_X4_places, g7, g8, g4]
  have is0 : f_X4_isOf V (1 + 11 + k) (1 + 4 + n) S = some (bI (hkB g n S y z)) := by
    rw [isOf_eq, n0, n11, g7, g8]
    rfl
  have cm : hkB g n S y z = true → f_X8_canBeMended V 1 (1 + 11 + k) = if otS g n S = 0 then some 1 else some 0 := by
    intro hq
    rw [f_X8_canBeMended, g6, net_eq _ _ n1, bs, pl, bs, is0, bs, hq, if_neg (by decide), bs, f_X3_hasStringOutOf, whA, bs, whD, bs, bes_eq, bs, kn_eq, bs, hS.eA n1, hS.eR n1, hS.eD n1]
    show ((if otS g n S = 0 then some 0 else some 1).bind fun q6 => if q6 = 0 then some 1 else some 0) = _
    by_cases c : otS g n S = 0
    · rw [if_pos c, if_pos c, bs, if_pos rfl]
    · rw [if_neg c, if_neg c, bs, if_neg (by decide)]
  refine ⟨fun hc => ?_, fun hc => ?_⟩
  · have hTA : Sub (V (1 + 4 + n) 2) RT := by rw [hS.2.1 n 2 n1 (by decide)]; exact (hg.2.2.2 n n1).2.2.1
    have hTD : Sub (V (1 + 4 + n) 3) DN := by rw [hS.2.1 n 3 n1 (by decide)]; exact (hg.2.2.2 n n1).2.2.2.1
    obtain ⟨V1, j1, j2, l1, l2, l3, l4⟩ := ls_eq (V := V) (k := 1 + 4 + n) (by omega) g5 hTA hTD
    obtain ⟨tw, t1, t2⟩ := lpl_eq g5 hTA hTD
    have et : tw = j1 + 2 * j2 := by omega
    subst et
    rw [hS.2.1 n 2 n1 (by decide), hS.2.1 n 3 n1 (by decide)] at l3
    rw [hS.2.1 n 3 n1 (by decide)] at l4
    have el : lsT g n S = j1 + 2 * j2 := by
      unfold lsT
      omega
    rw [el]
    refine ⟨by rw [cm hc.1, if_pos hc.2], ⟨V1, ?_, l2⟩, ?_, j1, j2, by omega, rfl⟩
    · rw [f_X8_leastByStrings, g6, net_eq _ _ n1, bs, pl, bs, l1, bs]
    · rw [f_X8_leastByPlaces, g6, net_eq _ _ n1, bs, pl, bs, t1, bs]
  · cases hq : hkB g n S y z
    · rw [f_X8_canBeMended, g6, net_eq _ _ n1, bs, pl, bs, is0, bs, hq, if_pos (by decide)]
    · rw [cm hq, if_neg (fun q => hc ⟨hq, q⟩)]
theorem pt_le {K : Nat → Nat → Prop} {S : Int32} : pt K (bt S) ≤ nb S := fb_ct_sub fun p _ h => (dP_t.mp h).1
theorem pt_con1 {S : Int32} (hS : I24 S) {R D : PS} (h : pt (con (bt S) R D) (bt S) = 1) {p : Nat} (hp : isLow S p) {v : Nat} (hv : bt S v = true) : con (bt S) R D p v := by
  obtain ⟨x, x1, x2, x3⟩ := fo_ex (K := con (bt S) R D) (S := bt S) hS con.rf con_tr hv
  have f1 : fo (con (bt S) R D) (bt S) p = true := dP_t.mpr ⟨hp.2.1, fun q hq hA => by rw [hp.2.2 q hq] at hA; cases hA⟩
  have z : ∀ {a : Nat}, a < 24 → fo (con (bt S) R D) (bt S) a = true → fb_ct (fo (con (bt S) R D) (bt S)) a = 0 := fun {a} ha hf => by
    have h1 : fb_ct (fo (con (bt S) R D) (bt S)) (a + 1) ≤ fb_ct (fo (con (bt S) R D) (bt S)) 24 := fb_ct_mono _ ha
    rw [fb_ct_succ, hf] at h1
    have h : fb_ct (fo (con (bt S) R D) (bt S)) 24 = 1 := h
    rw [h] at h1
    simp only [if_true] at h1
    omega
  have e := fb_ct_kth_one f1 x2 (by rw [z hp.1 f1, z x1 x2])
  rw [e]
  exact x3
theorem con_sup {A S : PS} {R D : PS} (h : ∀ i, S i = true → A i = true) {p q : Nat} (c : con S R D p q) : con A R D p q := fun T hp hc => c T hp (fun a b ha hb e => hc a b ha (h b hb) e)
/-- a note reads so, by its chapter -/
theorem rdB_iff {V : St} {g : Nat → Int32} (hS : SR V 1 g) (hg : GG g) {k n : Nat} {S y z : Int32} (h : NT V g k n S y z) : rdB g k = true ↔ (hkB g n S y z = true ∧ otS g n S = 0) ∧ P0 S (g (6 + 5 * n + 2)) (g (6 + 5 * n + 3)) = 1 := by
  have r := rd_u hS hg h
  obtain ⟨n1, k6, h0, h1, h2, h3, h4, h5, h6, h7, h8⟩ := id h
  obtain ⟨p, hp⟩ := isLow.ex h5.1 h5.2.1
  have hA := hg.k24 n1
  have n0 : V (1 + 4 + n) 0 = g (6 + 5 * n) := hS.2.1 n 0 n1 (by decide)
  have n11 : V (1 + 4 + n) 1 = g (6 + 5 * n + 1) := hS.2.1 n 1 n1 (by decide)
  have ec : ∀ C, f_X3_chapterAt V (1 + 4 + n) (nI p) = some C → rdB g k = (decide (g (6 + 5 * n) &&& C = y) && decide (g (6 + 5 * n + 1) &&& C = z)) := by
    intro C hC
    have e : f_X8_readsAsNoted V 1 (1 + 11 + k) = some (bI (decide (g (6 + 5 * n) &&& C = y) && decide (g (6 + 5 * n + 1) &&& C = z))) := by
      rw [f_X8_readsAsNoted, h6, net_eq _ _ n1, bs, f_X4_places, h7, h8, ← h4, bs, lowP_eq hp, bs, hC, bs, isOf_eq, n0, n11, h7, h8, bs, nr_b, bs]
    rw [r] at e
    have e := Option.some.inj e
    cases hx : rdB g k <;> cases hy : (decide (g (6 + 5 * n) &&& C = y) && decide (g (6 + 5 * n + 1) &&& C = z))
    · rfl
    · rw [hx, hy] at e
      exact absurd e (by decide)
    · rw [hx, hy] at e
      exact absurd e (by decide)
    · rfl
  constructor
  · intro hr
    rcases chp hS hg n1 hp.1 with ⟨e, d1⟩ | ⟨e, C, d1, d2, d3, d4, -⟩
    · rw [ec 0 d1, Bool.and_eq_true, decide_eq_true_eq, decide_eq_true_eq] at hr
      have := and_or_bit hr.1 hr.2 p
      rw [← h4, hp.2.1, b_0, Bool.and_false] at this
      cases this
    · rw [ec C d1, Bool.and_eq_true, decide_eq_true_eq, decide_eq_true_eq] at hr
      have ce : C = S := b_ext fun i hi => by
        have := and_or_bit hr.1 hr.2 i
        rw [← h4] at this
        rw [this]
        show bt C i = (bt (kA g n) i && bt C i)
        cases w : bt C i
        · rw [Bool.and_false]
        · rw [con.inA ((d4 i hi).mp w) e]
          rfl
      subst ce
      obtain ⟨k1, k2, k3⟩ := comp_in hA e d4
      refine ⟨⟨?_, ?_⟩, pt_one k1 k2 k3⟩
      · unfold hkB
        rw [decide_eq_true hr.1, decide_eq_true hr.2]
        rfl
      · refine b_ext fun i hi => ?_
        rw [b_0]
        unfold otS
        rw [b_minus _ _ hi]
        cases c : bt (bsd C (kR g n) (kD g n) &&& kA g n) i
        · rfl
        · rw [b_and, Bool.and_eq_true] at c
          obtain ⟨q, q1, q2⟩ := (bsd_iff k1 hi).mp c.1
          have hq := k1.lt q1
          rw [(d4 i hi).mpr (((d4 q (by omega)).mp q1).st c.2 q2)]
          rfl
  · rintro ⟨⟨hk, ho⟩, hP⟩
    unfold hkB at hk
    rw [Bool.and_eq_true, decide_eq_true_eq, decide_eq_true_eq] at hk
    have hSA : ∀ i, bt S i = true → bt (kA g n) i = true := fun i hi => by
      have := and_or_bit hk.1 hk.2 i
      rw [← h4, hi, Bool.and_true] at this
      exact this.symm
    have hcl : Sub (bsd S (kR g n) (kD g n) &&& kA g n) S := fun i hi => by
      rcases Nat.lt_or_ge i 32 with hi32 | hi32
      · cases c : bt S i
        · have : bt (otS g n S) i = true := by
            unfold otS
            rw [b_minus _ _ hi32, hi, c]
            rfl
          rw [ho, b_0] at this
          cases this
        · rfl
      · rw [b_big hi32] at hi
        cases hi
    have hC : Cmp (bt (kA g n)) (bt (kR g n)) (bt (kD g n)) p S := Cmp.of hA h5.1 hp.2.1 (fun i hi => con_sup hSA (pt_con1 h5.1 (R := bt (kR g n)) (D := bt (kD g n)) hP hp hi)) hcl
    rcases chp hS hg n1 hp.1 with ⟨e, -⟩ | ⟨e, C, d1, d2, d3, d4, -⟩
    · rw [hSA p hp.2.1] at e
      cases e
    · have ce := d4.one hC
      subst ce
      rw [ec C d1, decide_eq_true hk.1, decide_eq_true hk.2]
      rfl
/-- how little twine would do: the same in every state of these ints -/
theorem q_lst {V : St} {g : Nat → Int32} (hS : SR V 1 g) (hG : GG g) {m k n : Nat} {S y z : Int32} (hm : g 2 = nI m) (hm6 : m ≤ 6) (hk : k < m) (h : NT V g k n S y z) : ∃ r : Int32, (∀ V2, SR V2 1 g → ∃ V1, f_L_least V2 (nI k) = some (r, V1) ∧ FB V2 V1) ∧ (∀ V2, SR V2 1 g → f_L_leastAgain V2 (nI k) = some r) ∧ ((r = -75 ∧ rdB g k = false) ∨ ∃ t, r = nI t ∧ t ≤ 2 * (nb S - 1) ∧ (t = 0 ↔ rdB g k = true)) := by
  have k6 : k < 6 := by omega
  have hr := rdB_iff hS hG h
  by_cases c : hkB g n S y z = true ∧ otS g n S = 0
  · refine ⟨nI (lsT g n S), fun V2 hS2 => ?_, fun V2 hS2 => ?_, Or.inr ⟨lsT g n S, rfl, ?_, ?_⟩⟩
    · obtain ⟨a1, ⟨V1, a2, a3⟩, a4, -⟩ := (lsc hS2 hG (h.mv hS2 hm hm6 hk)).1 c
      refine ⟨V1, ?_, a3.b⟩
      rw [f_L_least, f_X9_least, hn_k hS2 hm hm6 hk, bs, if_neg (by decide), no_eq _ _ k6, bs, a1, bs, if_neg (by decide), a2, bs, bs]
      rfl
    · obtain ⟨a1, -, a4, -⟩ := (lsc hS2 hG (h.mv hS2 hm hm6 hk)).1 c
      rw [f_L_leastAgain, f_X9_leastAgain, hn_k hS2 hm hm6 hk, bs, if_neg (by decide), no_eq _ _ k6, bs, a1, bs, if_neg (by decide), a4, bs, bs]
      rfl
    · obtain ⟨-, -, -, j1, j2, e1, e2⟩ := (lsc hS hG h).1 c
      have : P0 S (g (6 + 5 * n + 2)) (g (6 + 5 * n + 3)) ≤ nb S := pt_le
      omega
    · obtain ⟨-, -, -, j1, j2, e1, e2⟩ := (lsc hS hG h).1 c
      rw [hr]
      constructor
      · intro e
        exact ⟨c, by omega⟩
      · rintro ⟨-, e⟩
        omega
  · refine ⟨-75, fun V2 hS2 => ⟨V2, ?_, FB.rf _⟩, fun V2 hS2 => ?_, Or.inl ⟨rfl, ?_⟩⟩
    · have a1 := (lsc hS2 hG (h.mv hS2 hm hm6 hk)).2 c
      rw [f_L_least, f_X9_least, hn_k hS2 hm hm6 hk, bs, if_neg (by decide), no_eq _ _ k6, bs, a1, bs, if_pos rfl]
      rfl
    · have a1 := (lsc hS2 hG (h.mv hS2 hm hm6 hk)).2 c
      rw [f_L_leastAgain, f_X9_leastAgain, hn_k hS2 hm hm6 hk, bs, if_neg (by decide), no_eq _ _ k6, bs, a1, bs, if_pos rfl]
      rfl
    · cases e : rdB g k
      · rfl
      · exact absurd (hr.mp e).1 c
