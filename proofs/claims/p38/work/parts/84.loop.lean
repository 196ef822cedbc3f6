/-! the whole run -/
/-- the sums that the law keeps fit the state and its history -/
def LSu (A : Nat → Int64) (g : Nat → Int32) (made c : Nat) (G : Nat → Nat → Int32) : Prop := c = min 8 made ∧ A made = smF g ∧ ∀ j, j < c → A (made - c + j) = smF (G j)
theorem LSu.push {A : Nat → Int64} {g g1 : Nat → Int32} {made c : Nat} {G : Nat → Nat → Int32} (h : LSu A g made c G) : LSu (updA A (made + 1) (smF g1)) g1 (made + 1) (cp8 c) (Gp G c g) := by
  obtain ⟨h1, h2, h3⟩ := h
  have un : ∀ j, j ≠ made + 1 → updA A (made + 1) (smF g1) j = A j := fun j hj => if_neg hj
  refine ⟨by unfold cp8; split <;> omega, if_pos rfl, fun j hj => ?_⟩
  unfold cp8 at hj ⊢
  unfold Gp
  by_cases q : c < 8
  · rw [if_pos q] at hj ⊢
    rw [if_pos q]
    show _ = smF (if j = c then g else G j)
    rw [un _ (by omega)]
    by_cases e : j = c
    · rw [if_pos e, ← h2]
      congr 1
      omega
    · rw [if_neg e, ← h3 j (by omega)]
      congr 1
      omega
  · rw [if_neg q] at hj ⊢
    rw [if_neg q]
    show _ = smF (if j = 7 then g else G (j + 1))
    rw [un _ (by omega)]
    by_cases e : j = 7
    · rw [if_pos e, ← h2]
      congr 1
      omega
    · rw [if_neg e, ← h3 (j + 1) (by omega)]
      congr 1
      omega
theorem i_n (a : Nat) (ha : a < 2 ^ 31) (z : Int32) {b : Nat} (hz : z = nI b) (hb : b < 2 ^ 31) : (nI a ≤ z ↔ a ≤ b) ∧ (z ≤ nI a ↔ b ≤ a) ∧ (nI a < z ↔ a < b) ∧ (z < nI a ↔ b < a) := by
  rw [hz]
  exact ⟨nI_leI ha hb, nI_leI hb ha, nI_ltI ha hb, nI_ltI hb ha⟩
theorem neg_le {a : Nat} (ha : a < 1000) {z : Int32} (hz : z.toInt < 0) : ¬ nI a ≤ z ∧ z < nI a := by
  have e := nI_toInt (n := a) (by omega)
  refine ⟨fun q => ?_, i_lt.mpr (by omega)⟩
  have := i_le.mp q
  omega
section LO
variable {L : Nat} {xs : Nat → Int32} {f : Nat}
/-- behind an order: isWhole, the sums -/
theorem lo_300 {V : St} {g : Nat → Int32} {c : Nat} {G : Nat → Nat → Int32} {A : Nat → Int64} {c28 : St → (Nat → Int64) → Int32 → Int32 → Int32 → Option Int32} {made n p y : Nat} {x4 x8 r : Int32} {x6 : Int64} (hJ : JJ V g c G) (hp : p < 24) (hy : y < 3) (hm : made + 1 < 60)
    (ok : (∃ a, r = nI a ∧ a < 1000 ∧ ∀ V1, JJ V1 g c G → c28 V1 (updA A (made + 1) (smF g)) (nI (made + 1)) x4 (nI (n + 1)) = some 1) ∨ ((r = -76 ∨ r = -78) ∧ x6 = smF g ∧ x8 = nI c ∧ ∀ V1, JJ V1 g c G → c28 V1 A (nI made) x4 (nI (n + 1)) = some 1)) : f_L_law_b300 L xs c28 V A (nI made) x4 (nI n) x6 x8 (nI p) r (nI y) = some 1 := by
  obtain ⟨V1, a1, a2⟩ := isWhole_ok hJ.1 hJ.2.1 hJ.2.2.1 hp hy
  have hJ1 := hJ.b a2
  obtain ⟨V2, b1, b2⟩ := smF_s hJ1.1 hJ1.2.1 hJ1.2.2.1
  have hJ2 := hJ1.b b2
  rw [f_L_law_b300, a1, bs]
  show (if (1 : Int32) = 0 then _ else if (-74 : Int32) < r then (f_L_sum V1).bind _ else (f_L_sum V1).bind _) = _
  rw [if_neg (by decide), b1]
  rcases ok with ⟨a, rfl, ha, ok⟩ | ⟨hr, h6, h8, ok⟩
  · rw [if_pos (neg_le ha (by decide)).2, bs, nI_1, ix_nI hm (by decide), bs, f_L_law_b359, nI_1]
    exact ok V2 hJ2
  · rw [if_neg (by rcases hr with rfl | rfl <;> decide), bs]
    show (if lg_cmp (smF g) x6 = 0 then (f_L_account V2 12).bind _ else _) = _
    rw [h6, if_pos (lgc _), q_a12, bs, hJ2.2.2.2.2.1.n, h8, if_pos rfl]
    show (f_L_account V2 11).bind _ = _
    rw [q_a11, bs, hJ2.2.2.2.2.2.2, if_pos rfl, f_L_law_b359, nI_1]
    exact ok V2 hJ2
theorem lo_276 {V : St} {g : Nat → Int32} {c : Nat} {G : Nat → Nat → Int32} {A : Nat → Int64} {c28 : St → (Nat → Int64) → Int32 → Int32 → Int32 → Option Int32} {made n p k : Nat} {x8 r : Int32} {x6 : Int64} (hJ : JJ V g c G) (hp : p < 24) (hm : made + 1 < 60) (hn : n < 1000)
    (ok : (∃ a, r = nI a ∧ a < 1000 ∧ ∀ V1, JJ V1 g c G → c28 V1 (updA A (made + 1) (smF g)) (nI (made + 1)) (nI (k + 5)) (nI (n + 1)) = some 1) ∨ ((r = -76 ∨ r = -78) ∧ x6 = smF g ∧ x8 = nI c ∧ ∀ V1, JJ V1 g c G → c28 V1 A (nI made) (nI (k + 5)) (nI (n + 1)) = some 1)) : f_L_law_b271 L xs c28 V A (nI made) (nI k) (nI n) x6 x8 (nI p) r = some 1 := by
  have e5 : nI k + 5 = nI (k + 5) := nI_add k 5
  rw [f_L_law_b271, f_L_law_b276, if_neg (by decide)]
  by_cases h : nI n - nI n / 4 * 4 = 3
  · rw [if_pos h, e5]
    exact lo_300 (y := 2) hJ hp (by decide) hm ok
  · rw [if_neg h, e5]
    exact lo_300 (y := 0) hJ hp (by decide) hm ok
theorem so_0 {c28 : St → (Nat → Int64) → Int32 → Int32 → Int32 → Option Int32} {V : St} {A : Nat → Int64} {x3 x4 x5 x8 x10 x11 x12 x13 x14 : Int32} {x6 : Int64} {kind : Nat} (hk : kind < 27) (h : kind ≤ 7 ∨ 13 ≤ kind ∨ x14 ≤ -70) : f_L_law_b170 L xs c28 V A x3 x4 x5 x6 x8 (nI kind) x10 x11 x12 x13 x14 0 = f_L_law_b271 L xs c28 V A x3 x4 x5 x6 x8 x11 x14 := by
  have e : f_L_law_b197 L xs c28 V A x3 x4 x5 x6 x8 x10 x11 x12 x13 x14 0 = f_L_law_b271 L xs c28 V A x3 x4 x5 x6 x8 x11 x14 := by
    rw [f_L_law_b197, f_L_law_b198, if_pos rfl, f_L_law_b239, if_pos rfl]
  rw [f_L_law_b170]
  by_cases c1 : nI kind ≤ (7 : Int32)
  · rw [if_pos c1]; exact e
  · rw [if_neg c1]
    by_cases c2 : (13 : Int32) ≤ nI kind
    · rw [if_pos c2]; exact e
    · rw [if_neg c2]
      have i7 := (i_n kind (by omega) 7 (b := 7) rfl (by decide)).1
      have i13 := (i_n kind (by omega) 13 (b := 13) rfl (by decide)).2.1
      rcases h with h | h | h
      · exact absurd (i7.mpr h) c1
      · exact absurd (i13.mpr h) c2
      · rw [if_pos h]; exact e
theorem so_t {c28 : St → (Nat → Int64) → Int32 → Int32 → Int32 → Option Int32} {V : St} {g g1 : Nat → Int32} {A : Nat → Int64} {x3 x4 x5 x8 x11 x12 : Int32} {x6 : Int64} {kind net a : Nat} (hk : 8 ≤ kind ∧ kind ≤ 12) (ha : a < 1000) (hS : SR V 1 g1) (hG : GG g1) (hn : net < 3) (h : TPr g net g1 a) : f_L_law_b170 L xs c28 V A x3 x4 x5 x6 x8 (nI kind) (nI net) x11 x12 (nI (nch g net)) (nI a) 0 = f_L_law_b271 L xs c28 V A x3 x4 x5 x6 x8 x11 (nI a) := by
  obtain ⟨h1, h2, h3⟩ := h
  have i7 := (i_n kind (by omega) 7 (b := 7) rfl (by decide)).1
  have i13 := (i_n kind (by omega) 13 (b := 13) rfl (by decide)).2.1
  have n1 := nch_le g net
  have n2 := nch_le g1 net
  rw [f_L_law_b170, if_neg (fun q => by have := i7.mp q; omega), if_neg (fun q => by have := i13.mp q; omega), if_neg (neg_le ha (by decide)).1, f_L_law_b198, if_pos rfl, f_L_law_b239, if_neg (by decide), q_nch hS hG hn, bs, h1, if_pos rfl, if_neg (nI_nlt h2 (by omega)), nI_1, if_neg (nI_nlt h3 (by omega))]
theorem so_m {c28 : St → (Nat → Int64) → Int32 → Int32 → Int32 → Option Int32} {V : St} {g g1 : Nat → Int32} {A : Nat → Int64} {x3 x4 x5 x8 x11 : Int32} {x6 : Int64} {kind net a s : Nat} (hk : 13 ≤ kind ∧ kind ≤ 15) (hS : SR V 1 g1) (hG : GG g1) (hA : AC g1) (hn : net < 3) (hs : TW g s) (h : MPr g net g1) : f_L_law_b170 L xs c28 V A x3 x4 x5 x6 x8 (nI kind) (nI net) x11 (nI s) (nI (nch g net)) (nI a) 1 = f_L_law_b271 L xs c28 V A x3 x4 x5 x6 x8 x11 (nI a) := by
  obtain ⟨h1, h2, h3⟩ := h
  obtain ⟨s1, hs1⟩ := hA.tw
  have lt := h3 s s1 hs hs1
  have i7 := (i_n kind (by omega) 7 (b := 7) rfl (by decide)).1
  have i13 := (i_n kind (by omega) 13 (b := 13) rfl (by decide)).2.1
  have n1 := nch_le g net
  have n2 := nch_le g1 net
  have s400 : s ≤ 400 := by
    obtain ⟨_, _, -, -, -, -, h⟩ := hs
    exact h
  have lo : ¬ nI (nch g1 net) < nI (nch g net) - 1 := by
    by_cases z : nch g net = 0
    · rw [z]
      intro q
      exact (neg_le (a := nch g1 net) (by omega) (z := nI 0 - 1) (by decide)).1 (by
        have := i_lt.mp q
        exact i_le.mpr (by omega))
    · rw [show (1 : Int32) = nI 1 from rfl, pk_sub (by omega)]
      exact nI_nlt (by omega) (by omega)
  rw [f_L_law_b170, if_neg (fun q => by have := i7.mp q; omega), if_pos (i13.mpr hk.1), f_L_law_b197, f_L_law_b198, if_neg (by decide), hs1.q hS, bs, if_neg (nI_ge lt (by omega)), q_nch hS hG hn, bs, if_neg lo, bs, if_neg (nI_nlt h1 (by omega)), f_L_law_b239, if_pos rfl]
theorem lo_100 (hL : L ≤ 260) {V : St} {g : Nat → Int32} {c : Nat} {G : Nat → Nat → Int32} {A : Nat → Int64} {c28 : St → (Nat → Int64) → Int32 → Int32 → Int32 → Option Int32} {made n k kind net : Nat} (hJ : JJ V g c G) (hLS : LSu A g made c G) (hk : kind < 27) (hn : net < 2) (hm : made + 1 < 60) (hn9 : n < 1000) (hk9 : k < 900)
    (ih : ∀ (V1 : St) (g1 : Nat → Int32) (c1 : Nat) (G1 : Nat → Nat → Int32) (A1 : Nat → Int64) (made1 : Nat), made1 ≤ made + 1 → JJ V1 g1 c1 G1 → LSu A1 g1 made1 c1 G1 → c28 V1 A1 (nI made1) (nI (k + 5)) (nI (n + 1)) = some 1) : f_L_law_b100 L xs c28 V A (nI made) (nI k) (nI n) (smF g) (nI c) (nI kind) (nI net) = some 1 := by
  obtain ⟨p, p1, p2⟩ := pick_ok hL xs (k := k + 3) (d := 24) (by omega) (by decide) (by decide)
  have p2 : f_L_pick L xs (nI k + 3) 24 = some (nI p) := by rw [show nI k + 3 = nI (k + 3) from nI_add k 3]; exact p2
  obtain ⟨s, hs⟩ := hJ.2.2.1.tw
  have i12 := (i_n kind (by omega) 12 (b := 12) rfl (by decide)).1
  have i16 := (i_n kind (by omega) 16 (b := 16) rfl (by decide)).2.1
  rw [f_L_law_b100, p2, bs, hs.q hJ.1, bs, q_nch hJ.1 hJ.2.1 (show net < 3 by omega), bs]
  rcases does_ok hJ hL xs hk9 hk hn p1 with ⟨r, V1, d1, d2, d3⟩ | ⟨V1, g1, a, d1, d2, d3, d4⟩
  · have fin : f_L_law_b271 L xs c28 V1 A (nI made) (nI k) (nI n) (smF g) (nI c) (nI p) r = some 1 := lo_276 d3 p1 hm hn9 (Or.inr ⟨d2, rfl, rfl, fun V2 h2 => ih V2 g c G A made (by omega) h2 hLS⟩)
    have r70 : r ≤ -70 := by rcases d2 with rfl | rfl <;> decide
    have e : f_L_law_b169 L xs c28 V1 A (nI made) (nI k) (nI n) (smF g) (nI c) (nI kind) (nI net) (nI p) (nI s) (nI (nch g net)) r = some 1 := by
      rw [f_L_law_b169, so_0 hk (Or.inr (Or.inr r70))]
      exact fin
    rw [d1, bs]
    show (if nI kind ≤ 12 then _ else if (16 : Int32) ≤ nI kind then _ else if r ≤ -70 then _ else _) = _
    by_cases c1 : nI kind ≤ (12 : Int32)
    · rw [if_pos c1]; exact e
    · rw [if_neg c1]
      by_cases c2 : (16 : Int32) ≤ nI kind
      · rw [if_pos c2]; exact e
      · rw [if_neg c2, if_pos r70]; exact e
  · have fin : f_L_law_b271 L xs c28 V1 A (nI made) (nI k) (nI n) (smF g) (nI c) (nI p) (nI a) = some 1 := lo_276 d2 p1 hm hn9 (Or.inl ⟨a, rfl, d3, fun V2 h2 => ih V2 g1 (cp8 c) (Gp G c g) _ (made + 1) (Nat.le_refl _) h2 hLS.push⟩)
    have n70 := (neg_le (a := a) d3 (z := -70) (by decide)).1
    rw [d1, bs]
    show (if nI kind ≤ 12 then _ else if (16 : Int32) ≤ nI kind then _ else if nI a ≤ -70 then _ else _) = _
    by_cases c1 : kind ≤ 12
    · rw [if_pos (i12.mpr c1), f_L_law_b169]
      by_cases c3 : kind ≤ 7
      · rw [so_0 hk (Or.inl c3)]
        exact fin
      · rw [so_t ⟨by omega, c1⟩ d3 d2.1 d2.2.1 (by omega) (d4.1 ⟨by omega, c1⟩)]
        exact fin
    · rw [if_neg (fun q => c1 (i12.mp q))]
      by_cases c2 : 16 ≤ kind
      · rw [if_pos (i16.mpr c2), f_L_law_b169, so_0 hk (Or.inr (Or.inl (by omega)))]
        exact fin
      · rw [if_neg (fun q => c2 (i16.mp q)), if_neg n70, so_m ⟨by omega, by omega⟩ d2.1 d2.2.1 d2.2.2.1 (by omega) hs (d4.2 ⟨by omega, by omega⟩)]
        exact fin
end LO
theorem law_lp {L : Nat} (hL : L ≤ 260) (xs : Nat → Int32) : ∀ (f n made : Nat) (V : St) (g : Nat → Int32) (c : Nat) (G : Nat → Nat → Int32) (A : Nat → Int64), n ≤ 46 → 46 < f + n → made ≤ n → JJ V g c G → LSu A g made c G → f_L_law_b28 L xs f V A (nI made) (nI (5 * n)) (nI n) = some 1
  | 0, n, made, V, g, c, G, A, _, h, _, _, _ => by omega
  | f + 1, n, made, V, g, c, G, A, hn, hf, hm, hJ, hLS => by
    rw [f_L_law_b28]
    by_cases e : n = 46
    · obtain ⟨V2, h2⟩ := isKept_ok hJ (made := made) (by omega) hLS.1 hLS.2.1 hLS.2.2
      rw [e, if_pos (by decide), h2, bs]
    · have hn : n < 46 := by omega
      obtain ⟨V1, a1, a2⟩ := smF_s hJ.1 hJ.2.1 hJ.2.2.1
      have hJ1 := hJ.b a2
      have i7 := (i_n n (by omega) 7 (b := 7) rfl (by decide)).2.1
      have i9 := (i_n n (by omega) 9 (b := 9) rfl (by decide)).2.1
      rw [if_neg (show ¬ (46 : Int32) ≤ nI n from nI_ge (b := 46) hn (by decide)), a1, bs]
      show (f_L_account V1 12).bind _ = _
      rw [q_a12, bs, hJ1.2.2.2.2.1.n]
      have go : ∀ kind, kind < 27 → f_L_law_b80 L xs (fun V A x3 x4 x5 => f_L_law_b28 L xs f V A x3 x4 x5) V1 A (nI made) (nI (5 * n)) (nI n) (smF g) (nI c) (nI kind) = some 1 := by
        intro kind hk
        obtain ⟨j, j1, j2⟩ := pick_ok hL xs (k := 5 * n + 2) (d := 9) (by omega) (by decide) (by decide)
        have j2 : f_L_pick L xs (nI (5 * n) + 2) 9 = some (nI j) := by rw [show nI (5 * n) + 2 = nI (5 * n + 2) from nI_add _ 2]; exact j2
        have fin : ∀ net, net < 2 → f_L_law_b100 L xs (fun V A x3 x4 x5 => f_L_law_b28 L xs f V A x3 x4 x5) V1 A (nI made) (nI (5 * n)) (nI n) (smF g) (nI c) (nI kind) (nI net) = some 1 := fun net h2 =>
          lo_100 hL hJ1 hLS hk h2 (by omega) (by omega) (by omega) (fun V2 g2 c2 G2 A2 made2 m2 q1 q2 => law_lp hL xs f (n + 1) made2 V2 g2 c2 G2 A2 (by omega) (by omega) (by omega) q1 q2)
        rw [f_L_law_b80, j2, bs]
        by_cases z : nI j = 0
        · rw [if_pos z]
          exact fin 1 (by decide)
        · rw [if_neg z]
          exact fin 0 (by decide)
      show (if (7 : Int32) ≤ nI n then (if (9 : Int32) ≤ nI n then (f_L_pick L xs (nI (5 * n)) 27).bind _ else f_L_law_b80 L xs _ V1 A (nI made) (nI (5 * n)) (nI n) (smF g) (nI c) 16) else f_L_law_b80 L xs _ V1 A (nI made) (nI (5 * n)) (nI n) (smF g) (nI c) 0) = _
      by_cases c7 : (7 : Int32) ≤ nI n
      · rw [if_pos c7]
        by_cases c9 : (9 : Int32) ≤ nI n
        · obtain ⟨j, j1, j2⟩ := pick_ok hL xs (k := 5 * n) (d := 27) (by omega) (by decide) (by decide)
          have j2 : f_L_pick L xs (nI (5 * n)) 27 = some (nI j) := j2
          rw [if_pos c9, j2, bs]
          exact go j j1
        · rw [if_neg c9]
          exact go 16 (by decide)
      · rw [if_neg c7]
        exact go 0 (by decide)
/-! the two agree at the start -/
theorem V0_eq {k : Nat} (h1 : k ≠ 0) : V0 k = fun _ => 0 := by
  unfold V0
  rw [up_at h1]
  rfl
theorem SR_0 {B : Nat} (h1 : 1 ≤ B) : SR V0 B (fun _ => 0) := by
  have e : ∀ k, B ≤ k → V0 k = fun _ => 0 := fun k a => V0_eq (by omega)
  refine ⟨⟨?_, ?_, ?_, ?_, ?_, ?_⟩, fun n w a b => ?_, fun q w a b => ?_, fun k a b => ⟨?_, ?_, ?_⟩⟩ <;> rw [e _ (by omega)]
theorem I24_0 : I24 0 := fun i _ => b_0 i
theorem Sub_0 (y : Int32) : Sub 0 y := by
  intro i h
  rw [b_0] at h
  cases h
theorem GG_0 : GG (fun _ => 0) := ⟨⟨0, by decide, rfl⟩, ⟨0, by decide, rfl⟩, ⟨0, by decide, rfl, fun k h => absurd h (Nat.not_lt_zero k)⟩, fun n _ => ⟨I24_0, I24_0, Sub_0 _, Sub_0 _, 0, by decide, rfl⟩⟩
theorem AC_0 : AC (fun _ => 0) := ⟨0, 0, 0, fun _ => 0, fun _ => 0, by decide, rfl, fun e h => absurd h (Nat.not_lt_zero e), rfl, rfl, by decide, by decide, rfl, by
  have z : ∀ n, ntn (fun _ => 0) n = 0 := fun n => by
    unfold ntn
    rw [nb_0]
  rw [z, z, z]
  rfl⟩
theorem JJ_0 : JJ V0 (fun _ => 0) 0 (fun _ _ => 0) := ⟨SR_0 (by decide), GG_0, AC_0, by decide, ⟨0, by decide, by rw [V0_eq (by decide)]; rfl, by rw [V0_eq (by decide)]; rfl, fun j h => absurd h (Nat.not_lt_zero j)⟩, fun j h => absurd h (Nat.not_lt_zero j), by rw [V0_eq (by decide)]⟩
theorem law_ok {L : Nat} (hL : L ≤ 260) (xs : Nat → Int32) : ∃ v V1, f_L_sum V0 = some (v, V1) ∧ f_L_law_b28 L xs 47 V1 (updA (fun _ => 0) 0 v) 0 0 0 = some 1 := by
  obtain ⟨V1, a1, a2⟩ := smF_s JJ_0.1 JJ_0.2.1 JJ_0.2.2.1
  exact ⟨_, V1, a1, law_lp hL xs 47 0 0 V1 (fun _ => 0) 0 (fun _ _ => 0) _ (by decide) (by decide) (Nat.le_refl _) (JJ_0.b a2) ⟨rfl, if_pos rfl, fun j h => absurd h (Nat.not_lt_zero j)⟩⟩
