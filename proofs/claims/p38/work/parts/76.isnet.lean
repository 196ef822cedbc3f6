/-! the law's isNet -/
noncomputable def lwI (g : Nat → Int32) (n p : Nat) : Int32 := if bt (kA g n) p = true then nI (lw g n p) else -1
def b2n (b : Bool) : Nat := if b = true then 1 else 0
theorem ct_s (f : Nat → Bool) (p : Nat) : fb_ct f (p + 1) = fb_ct f p + b2n (f p) := rfl
theorem m1_lt : (-1 : Int32) < 0 := by decide
section IN
variable {V : St} {g : Nat → Int32} {n a : Nat}
theorem lwI_t {p : Nat} (h : bt (kA g n) p = true) : lwI g n p = nI (lw g n p) := if_pos h
theorem lwI_f {p : Nat} (h : bt (kA g n) p = false) : lwI g n p = -1 := if_neg (by rw [h]; exact Bool.false_ne_true)
theorem lwI_neg (hA : I24 (kA g n)) {p : Nat} : lwI g n p < 0 ↔ bt (kA g n) p = false := by
  cases e : bt (kA g n) p
  · rw [lwI_f e]
    exact ⟨fun _ => rfl, fun _ => m1_lt⟩
  · rw [lwI_t e]
    have := lw_lt hA e
    exact ⟨fun h => absurd h (nI_pos (by omega)), fun h => by cases h⟩
theorem lwI_me (hA : I24 (kA g n)) {p : Nat} (hp : p < 24) : lwI g n p = nI p ↔ fs g n p = true := by
  rw [fs_t]
  cases e : bt (kA g n) p
  · rw [lwI_f e]
    exact ⟨fun h => absurd h.symm (m1_nI ⟨p, by omega⟩).1, fun h => by cases h.1⟩
  · rw [lwI_t e]
    have := lw_lt hA e
    exact ⟨fun h => ⟨rfl, (nI_eq (by omega) (by omega)).mp h⟩, fun h => by rw [h.2]⟩
theorem lwI_eq (hA : I24 (kA g n)) {p q : Nat} (hp : bt (kA g n) p = true) : lwI g n q = lwI g n p ↔ bt (kA g n) q = true ∧ lw g n q = lw g n p := by
  have h1 := lw_lt hA hp
  cases e : bt (kA g n) q
  · rw [lwI_f e, lwI_t hp]
    exact ⟨fun h => absurd h.symm (m1_nI ⟨lw g n p, by omega⟩).1, fun h => by cases h.1⟩
  · have h2 := lw_lt hA e
    rw [lwI_t e, lwI_t hp]
    exact ⟨fun h => ⟨rfl, (nI_eq (by omega) (by omega)).mp h⟩, fun h => by rw [h.2]⟩
theorem in_153 (hS : SR V 1 g) (hG : GG g) (hn : n < 3) (c : St → (Nat → Int32) → Int32 → Int32 → Int32 → Int32 → Int32 → Int32 → Int32 → Int32 → Option (Int32 × St)) (A : Nat → Int32) (x2 x3 x4 x5 x6 x7 x11 y0 : Int32) {p : Nat} (hp : p < 24) : f_L_isNet_b153 c V A (nI n) x2 x3 x4 x5 x6 x7 (nI p) (bI (bt (kA g n) p)) x11 y0 = c V (updA A p (lwI g n p)) (nI n) x2 x3 x4 x5 (x6 + (x11 + y0)) (x7 + (x11 + 2 * y0)) (nI (p + 1)) := by
  rw [f_L_isNet_b153]
  cases e : bt (kA g n) p
  · rw [if_pos (by decide), f_L_isNet_b198, ix_nI hp (by decide), bs, nI_1, lwI_f e]
  · rw [if_neg (by decide), (q_ch hS hG hn hp e).1, bs, f_L_isNet_b198, ix_nI hp (by decide), bs, nI_1, lwI_t e]
theorem in_128 (hS : SR V 1 g) (hG : GG g) (hn : n < 3) (c : St → (Nat → Int32) → Int32 → Int32 → Int32 → Int32 → Int32 → Int32 → Int32 → Int32 → Option (Int32 × St)) (A : Nat → Int32) (x2 x3 x4 x5 x6 x7 y0 : Int32) {p : Nat} (hp : p < 24) : f_L_isNet_b128 c V A (nI n) x2 x3 x4 x5 x6 x7 (nI p) (bI (bt (kA g n) p)) y0 = c V (updA A p (lwI g n p)) (nI n) x2 x3 x4 x5 (x6 + (y0 + nI (b2n (bt (g (6 + 5 * n + 3)) p)))) (x7 + (y0 + 2 * nI (b2n (bt (g (6 + 5 * n + 3)) p)))) (nI (p + 1)) := by
  rw [f_L_isNet_b128]
  by_cases h : p < 18
  · rw [if_pos (show nI p ≤ (17 : Int32) from nI_le (b := 17) (by omega) (by decide)), show nI p + 6 = nI (p + 6) from nI_add p 6, q_td hS hn h, bs, in_153 hS hG hn c A _ _ _ _ _ _ _ _ hp]
    cases bt (g (6 + 5 * n + 3)) p <;> rfl
  · have : bt (g (6 + 5 * n + 3)) p = false := by
      cases e : bt (g (6 + 5 * n + 3)) p
      · rfl
      · have := (hG.2.2.2 n hn).2.2.2.1 p e
        rw [DN_p hp, decide_eq_true_eq] at this
        exact absurd this h
    rw [if_neg (show ¬ nI p ≤ (17 : Int32) from nI_ge (a := 17) (by omega) (by omega)), in_153 hS hG hn c A _ _ _ _ _ _ _ _ hp, this]
    rfl
theorem m6_5 {p : Nat} (hp : p < 24) : nI p - nI p / 6 * 6 = 5 ↔ p % 6 = 5 := by
  rw [lr_dec ⟨p, hp⟩]
  exact nI_eq (a := p % 6) (b := 5) (by omega) (by decide)
theorem in_101 (hS : SR V 1 g) (hG : GG g) (hn : n < 3) (c : St → (Nat → Int32) → Int32 → Int32 → Int32 → Int32 → Int32 → Int32 → Int32 → Int32 → Option (Int32 × St)) (A : Nat → Int32) (x2 x3 x4 x6 x7 y0 y1 : Int32) {p : Nat} (hp : p < 24) : f_L_isNet_b101 c V A (nI n) x2 x3 x4 x6 x7 (nI p) (bI (bt (kA g n) p)) y0 y1 = c V (updA A p (lwI g n p)) (nI n) x2 x3 x4 (y1 + y0) (x6 + (nI (b2n (bt (g (6 + 5 * n + 2)) p)) + nI (b2n (bt (g (6 + 5 * n + 3)) p)))) (x7 + (nI (b2n (bt (g (6 + 5 * n + 2)) p)) + 2 * nI (b2n (bt (g (6 + 5 * n + 3)) p)))) (nI (p + 1)) := by
  rw [f_L_isNet_b101]
  by_cases h : p % 6 = 5
  · have : bt (g (6 + 5 * n + 2)) p = false := by
      cases e : bt (g (6 + 5 * n + 2)) p
      · rfl
      · have := (hG.2.2.2 n hn).2.2.1 p e
        rw [RT_p hp, decide_eq_true_eq] at this
        exact absurd h this
    rw [if_pos ((m6_5 hp).mpr h), in_128 hS hG hn c A _ _ _ _ _ _ _ hp, this]
    rfl
  · rw [if_neg (fun q => h ((m6_5 hp).mp q)), nI_1, q_tr hS hn hp h, bs, in_128 hS hG hn c A _ _ _ _ _ _ _ hp]
    cases bt (g (6 + 5 * n + 2)) p <;> rfl
theorem row_le {u p : Nat} (hu : u ≤ 4) (hp : p < 24) : (4 : Int32) - nI u ≤ nI p / 6 ↔ ¬ p / 6 < 4 - u := by
  rw [show (4 : Int32) = nI 4 from rfl, pk_sub hu, show (6 : Int32) = nI 6 from rfl, pk_div (by omega) (by decide) (by decide), nI_leI (by omega) (by omega)]
  omega
theorem in_61 (hS : SR V 1 g) (hG : GG g) (hn : n < 3) (c : St → (Nat → Int32) → Int32 → Int32 → Int32 → Int32 → Int32 → Int32 → Int32 → Int32 → Option (Int32 × St)) (A : Nat → Int32) (x2 x4 x5 x6 x7 : Int32) {u p : Nat} (hu : u ≤ 4) (hp : p < 24) : f_L_isNet_b61 c V A (nI n) x2 (nI u) x4 x5 x6 x7 (nI p) (bI (bt (kA g n) p)) = c V (updA A p (lwI g n p)) (nI n) x2 (nI u) (x4 + nI (b2n (bt (kA g n) p))) (x5 + nI (b2n (bt (kA g n) p && decide (p / 6 < 4 - u)))) (x6 + (nI (b2n (bt (g (6 + 5 * n + 2)) p)) + nI (b2n (bt (g (6 + 5 * n + 3)) p)))) (x7 + (nI (b2n (bt (g (6 + 5 * n + 2)) p)) + 2 * nI (b2n (bt (g (6 + 5 * n + 3)) p)))) (nI (p + 1)) := by
  have i := fun x4 y0 y1 => in_101 hS hG hn c A x2 (nI u) x4 x6 x7 y0 y1 hp
  rw [f_L_isNet_b61]
  cases e : bt (kA g n) p
  · rw [e] at i
    rw [if_pos (by decide), f_L_isNet_b75, if_pos (by decide), f_L_isNet_b100]
    exact i _ 0 x5
  · rw [e] at i
    rw [if_neg (by decide), f_L_isNet_b75, if_neg (by decide)]
    by_cases h : p / 6 < 4 - u
    · rw [if_neg (fun q => (row_le hu hp).mp q h), decide_eq_true h]
      exact i _ 1 x5
    · rw [if_pos ((row_le hu hp).mpr h), decide_eq_false h, f_L_isNet_b100]
      exact i _ 0 x5
theorem kv_le (a b : Bool) : kv a b ≤ 0 ↔ (a || b) = false := by cases a <;> cases b <;> decide
theorem in_39 (hS : SR V 1 g) (hG : GG g) (hn : n < 3) (x2 : Int32) {u : Nat} (hu : u ≤ 4) : ∀ (f p : Nat) (A : Nat → Int32), p ≤ 24 → 24 < f + p → (∀ i, i < p → A i = lwI g n i) → ∃ A2, (∀ i, i < 24 → A2 i = lwI g n i) ∧
    f_L_isNet_b39 f V A (nI n) x2 (nI u) (nI (fb_ct (bt (kA g n)) p)) (nI (fb_ct (fun i => bt (kA g n) i && decide (i / 6 < 4 - u)) p)) (nI (fb_ct (bt (g (6 + 5 * n + 2))) p + fb_ct (bt (g (6 + 5 * n + 3))) p)) (nI (fb_ct (bt (g (6 + 5 * n + 2))) p + 2 * fb_ct (bt (g (6 + 5 * n + 3))) p)) (nI p) =
    f_L_isNet_b214 25 V A2 (nI n) x2 (nI u) (nI (fb_ct (bt (kA g n)) 24)) (nI (fb_ct (fun i => bt (kA g n) i && decide (i / 6 < 4 - u)) 24)) (nI (fb_ct (bt (g (6 + 5 * n + 2))) 24 + fb_ct (bt (g (6 + 5 * n + 3))) 24)) (nI (fb_ct (bt (g (6 + 5 * n + 2))) 24 + 2 * fb_ct (bt (g (6 + 5 * n + 3))) 24)) 0 0 0
  | 0, p, A, _, h, _ => by omega
  | f + 1, p, A, hp, hf, hA => by
    rw [f_L_isNet_b39]
    by_cases e : p = 24
    · subst e
      exact ⟨A, hA, if_pos (by decide)⟩
    · have hp : p < 24 := by omega
      obtain ⟨A2, h1, h2⟩ := in_39 hS hG hn x2 hu f (p + 1) (updA A p (lwI g n p)) (by omega) (by omega) (fun i hi => by
        unfold updA
        by_cases q : i = p
        · rw [if_pos q, q]
        · rw [if_neg q]
          exact hA i (by omega))
      refine ⟨A2, h1, ?_⟩
      rw [← h2, if_neg (show ¬ (24 : Int32) ≤ nI p from nI_ge (b := 24) hp (by decide)), q_kind hS hn hp, bs]
      have i := in_61 hS hG hn (fun V A x1 x2 x3 x4 x5 x6 x7 x9 => f_L_isNet_b39 f V A x1 x2 x3 x4 x5 x6 x7 x9) A x2 (nI (fb_ct (bt (kA g n)) p)) (nI (fb_ct (fun i => bt (kA g n) i && decide (i / 6 < 4 - u)) p)) (nI (fb_ct (bt (g (6 + 5 * n + 2))) p + fb_ct (bt (g (6 + 5 * n + 3))) p)) (nI (fb_ct (bt (g (6 + 5 * n + 2))) p + 2 * fb_ct (bt (g (6 + 5 * n + 3))) p)) hu hp
      have eo : (bt (g (6 + 5 * n)) p || bt (g (6 + 5 * n + 1)) p) = bt (kA g n) p := by unfold kA; rw [b_or]
      have go : (if kv (bt (g (6 + 5 * n)) p) (bt (g (6 + 5 * n + 1)) p) ≤ 0 then f_L_isNet_b61 (fun V A x1 x2 x3 x4 x5 x6 x7 x9 => f_L_isNet_b39 f V A x1 x2 x3 x4 x5 x6 x7 x9) V A (nI n) x2 (nI u) (nI (fb_ct (bt (kA g n)) p)) (nI (fb_ct (fun i => bt (kA g n) i && decide (i / 6 < 4 - u)) p)) (nI (fb_ct (bt (g (6 + 5 * n + 2))) p + fb_ct (bt (g (6 + 5 * n + 3))) p)) (nI (fb_ct (bt (g (6 + 5 * n + 2))) p + 2 * fb_ct (bt (g (6 + 5 * n + 3))) p)) (nI p) 0 else f_L_isNet_b61 (fun V A x1 x2 x3 x4 x5 x6 x7 x9 => f_L_isNet_b39 f V A x1 x2 x3 x4 x5 x6 x7 x9) V A (nI n) x2 (nI u) (nI (fb_ct (bt (kA g n)) p)) (nI (fb_ct (fun i => bt (kA g n) i && decide (i / 6 < 4 - u)) p)) (nI (fb_ct (bt (g (6 + 5 * n + 2))) p + fb_ct (bt (g (6 + 5 * n + 3))) p)) (nI (fb_ct (bt (g (6 + 5 * n + 2))) p + 2 * fb_ct (bt (g (6 + 5 * n + 3))) p)) (nI p) 1) = f_L_isNet_b61 (fun V A x1 x2 x3 x4 x5 x6 x7 x9 => f_L_isNet_b39 f V A x1 x2 x3 x4 x5 x6 x7 x9) V A (nI n) x2 (nI u) (nI (fb_ct (bt (kA g n)) p)) (nI (fb_ct (fun i => bt (kA g n) i && decide (i / 6 < 4 - u)) p)) (nI (fb_ct (bt (g (6 + 5 * n + 2))) p + fb_ct (bt (g (6 + 5 * n + 3))) p)) (nI (fb_ct (bt (g (6 + 5 * n + 2))) p + 2 * fb_ct (bt (g (6 + 5 * n + 3))) p)) (nI p) (bI (bt (kA g n) p)) := by
        cases w : bt (kA g n) p
        · rw [if_pos ((kv_le _ _).mpr (by rw [eo, w]))]
          rfl
        · rw [if_neg (fun q => by rw [kv_le, eo, w] at q; cases q)]
          rfl
      refine go.trans (i.trans ?_)
      simp only [nI_add, show (2 : Int32) = nI 2 from rfl, pk_mul, ct_s]
      rw [show fb_ct (bt (g (6 + 5 * n + 2))) p + fb_ct (bt (g (6 + 5 * n + 3))) p + (b2n (bt (g (6 + 5 * n + 2)) p) + b2n (bt (g (6 + 5 * n + 3)) p)) = fb_ct (bt (g (6 + 5 * n + 2))) p + b2n (bt (g (6 + 5 * n + 2)) p) + (fb_ct (bt (g (6 + 5 * n + 3))) p + b2n (bt (g (6 + 5 * n + 3)) p)) by omega, show fb_ct (bt (g (6 + 5 * n + 2))) p + 2 * fb_ct (bt (g (6 + 5 * n + 3))) p + (b2n (bt (g (6 + 5 * n + 2)) p) + 2 * b2n (bt (g (6 + 5 * n + 3)) p)) = fb_ct (bt (g (6 + 5 * n + 2))) p + b2n (bt (g (6 + 5 * n + 2)) p) + 2 * (fb_ct (bt (g (6 + 5 * n + 3))) p + b2n (bt (g (6 + 5 * n + 3)) p)) by omega]
end IN
