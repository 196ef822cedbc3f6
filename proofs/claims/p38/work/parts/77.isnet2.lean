/-! the law's isNet: strings and chapters, sizes, ranks -/
theorem imx {a b : Nat} (ha : a < 2 ^ 30) (hb : b < 2 ^ 30) : imax (nI a) (nI b) = nI (max a b) := by
  unfold imax
  by_cases c : a < b
  · rw [if_pos ((nI_ltI (by omega) (by omega)).mpr c), Nat.max_eq_right (by omega)]
  · rw [if_neg (fun q => c ((nI_ltI (by omega) (by omega)).mp q)), Nat.max_eq_left (by omega)]
def C12 : Type := St → (Nat → Int32) → Int32 → Int32 → Int32 → Int32 → Int32 → Int32 → Int32 → Int32 → Int32 → Int32 → Option (Int32 × St)
section IM
variable {V : St} {g : Nat → Int32} {n : Nat} {A : Nat → Int32} {c : St → (Nat → Int32) → Int32 → Int32 → Int32 → Int32 → Int32 → Int32 → Int32 → Int32 → Int32 → Int32 → Option (Int32 × St)} {x2 x3 x4 x5 x6 x7 : Int32} {p : Nat}
theorem mxs_24 (g : Nat → Int32) (n k : Nat) : mxs g n k ≤ 24 := mxs_le (fun p _ => nb_le _) k
theorem in_394 (hS : SR V 1 g) (hG : GG g) (hn : n < 3) (hA : ∀ i, i < 24 → A i = lwI g n i) (hp : p < 24) : f_L_isNet_b394 c V A (nI n) x2 x3 x4 x5 x6 x7 (nI (fb_ct (fs g n) p)) (nI (mxs g n p)) (nI p) = c V A (nI n) x2 x3 x4 x5 x6 x7 (nI (fb_ct (fs g n) (p + 1))) (nI (mxs g n (p + 1))) (nI (p + 1)) := by
  have h24 := hG.k24 hn
  rw [f_L_isNet_b394, ix_nI hp (by decide), bs, hA p hp]
  have e0 : mxs g n (p + 1) = if fs g n p = true then max (mxs g n p) (nb (chC g n p)) else mxs g n p := rfl
  cases e : fs g n p
  · have ne : ¬ lwI g n p = nI p := fun q => by rw [(lwI_me h24 hp).mp q] at e; cases e
    rw [if_neg ne, f_L_isNet_b411, ix_nI hp (by decide), bs, hA p hp, if_neg ne, f_L_isNet_b442, nI_1, fb_ct_succ, e0, e]
    simp only [if_false, Bool.false_eq_true]
    rw [show nI (fb_ct (fs g n) p) + 0 = nI (fb_ct (fs g n) p + 0) from Int32.add_zero _]
  · have ye := (lwI_me h24 hp).mpr e
    have hk := (fs_t.mp e).1
    have m1 := mxs_24 g n p
    have m2 := nb_le (chC g n p)
    rw [if_pos ye, f_L_isNet_b411, ix_nI hp (by decide), bs, hA p hp, if_pos ye, (q_ch hS hG hn hp hk).2.1, bs, f_L_isNet_b442, nI_1, nI_1, fb_ct_succ, e0, e, imx (by omega) (by omega)]
    simp only [if_true]
theorem in_358 (hS : SR V 1 g) (hG : GG g) (hn : n < 3) (hA : ∀ i, i < 24 → A i = lwI g n i) (hp : p < 24) : f_L_isNet_b358 c V A (nI n) x2 x3 x4 x5 x6 x7 (nI (fb_ct (fs g n) p)) (nI (mxs g n p)) (nI p) = c V A (nI n) x2 x3 x4 x5 x6 x7 (nI (fb_ct (fs g n) (p + 1))) (nI (mxs g n (p + 1))) (nI (p + 1)) := by
  have h24 := hG.k24 hn
  rw [f_L_isNet_b358, ix_nI hp (by decide), bs, hA p hp]
  cases e : bt (kA g n) p
  · rw [if_neg (fun q => by
      rw [lwI_f e] at q
      have q1 := i_lt.mp q
      rw [nI_toInt (by omega)] at q1
      have : (-1 : Int32).toInt = -1 := rfl
      omega), bs, hA p hp, if_pos ((lwI_neg h24).mpr e)]
    exact in_394 hS hG hn hA hp
  · have l1 := lw_lt h24 e
    have l2 := lw_le h24 e
    rw [if_neg (by rw [lwI_t e]; exact nI_nlt l2 (by omega)), bs, hA p hp, if_neg (fun q => by rw [(lwI_neg h24).mp q] at e; cases e), bs, hA p hp, lwI_t e, ix_nI l1 (by decide), bs, bs, hA _ l1, hA p hp, lwI_t e, lwI_t (lw_A h24 e), lw_lw h24 e, if_pos rfl]
    exact in_394 hS hG hn hA hp
theorem in_337 (hS : SR V 1 g) (hG : GG g) (hn : n < 3) (hA : ∀ i, i < 24 → A i = lwI g n i) (hp : p < 24) {d : Bool} (hd : d = true → p + 6 < 24 ∧ lwI g n p = lwI g n (p + 6)) : f_L_isNet_b337 c V A (nI n) x2 x3 x4 x5 x6 x7 (nI (fb_ct (fs g n) p)) (nI (mxs g n p)) (nI p) (bI d) = c V A (nI n) x2 x3 x4 x5 x6 x7 (nI (fb_ct (fs g n) (p + 1))) (nI (mxs g n (p + 1))) (nI (p + 1)) := by
  rw [f_L_isNet_b337]
  cases d
  · rw [if_pos (by decide)]
    exact in_358 hS hG hn hA hp
  · obtain ⟨h1, h2⟩ := hd rfl
    rw [if_neg (by decide), ix_nI hp (by decide), bs, show nI p + 6 = nI (p + 6) from nI_add p 6, ix_nI h1 (by decide), bs, hA p hp, hA _ h1, if_pos h2]
    exact in_358 hS hG hn hA hp
theorem in_315 (hS : SR V 1 g) (hG : GG g) (hn : n < 3) (hA : ∀ i, i < 24 → A i = lwI g n i) (hp : p < 24) {r d : Bool} (hr : r = true → p + 1 < 24 ∧ lwI g n p = lwI g n (p + 1)) (hd : d = true → p + 6 < 24 ∧ lwI g n p = lwI g n (p + 6)) : f_L_isNet_b315 c V A (nI n) x2 x3 x4 x5 x6 x7 (nI (fb_ct (fs g n) p)) (nI (mxs g n p)) (nI p) (bI r) (bI d) = c V A (nI n) x2 x3 x4 x5 x6 x7 (nI (fb_ct (fs g n) (p + 1))) (nI (mxs g n (p + 1))) (nI (p + 1)) := by
  rw [f_L_isNet_b315]
  cases r
  · rw [if_pos (by decide)]
    exact in_337 hS hG hn hA hp hd
  · obtain ⟨h1, h2⟩ := hr rfl
    rw [if_neg (by decide), ix_nI hp (by decide), bs, nI_1, ix_nI h1 (by decide), bs, hA p hp, hA _ h1, if_pos h2]
    exact in_337 hS hG hn hA hp hd
theorem bI_ne {b : Bool} : bI b = 0 ↔ b = false := bI_0 b
theorem lw_r (hG : GG g) (hn : n < 3) (hp : p < 24) (h6 : p % 6 ≠ 5) (ht : bt (g (6 + 5 * n + 2)) p = false) (h1 : bt (kA g n) p = true) (h2 : bt (kA g n) (p + 1) = true) : lwI g n p = lwI g n (p + 1) := by
  have hR : bt (kR g n) p = true := by
    show bt (RT &&& (g (6 + 5 * n + 2) ^^^ (-1))) p = true
    rw [b_minus _ _ (by omega), RT_p hp, ht, decide_eq_true h6]
    rfl
  have e : cn g n p (p + 1) := (con.rf p).st h2 (adj_iff.mpr (Or.inl ⟨rfl, hR⟩))
  rw [lwI_t h1, lwI_t h2, lw_cg (hG.k24 hn) h1 e]
theorem lw_d (hG : GG g) (hn : n < 3) (hp : p < 18) (ht : bt (g (6 + 5 * n + 3)) p = false) (h1 : bt (kA g n) p = true) (h2 : bt (kA g n) (p + 6) = true) : lwI g n p = lwI g n (p + 6) := by
  have hR : bt (kD g n) p = true := by
    show bt (DN &&& (g (6 + 5 * n + 3) ^^^ (-1))) p = true
    rw [b_minus _ _ (by omega), DN_p (by omega), ht, decide_eq_true hp]
    rfl
  have e : cn g n p (p + 6) := (con.rf p).st h2 (adj_iff.mpr (Or.inr (Or.inr (Or.inl ⟨rfl, hR⟩))))
  rw [lwI_t h1, lwI_t h2, lw_cg (hG.k24 hn) h1 e]
theorem in_267 (hS : SR V 1 g) (hG : GG g) (hn : n < 3) (hA : ∀ i, i < 24 → A i = lwI g n i) (hp : p < 24) {r : Bool} (hr : r = true → p + 1 < 24 ∧ lwI g n p = lwI g n (p + 1)) : f_L_isNet_b267 c V A (nI n) x2 x3 x4 x5 x6 x7 (nI (fb_ct (fs g n) p)) (nI (mxs g n p)) (nI p) (bI r) = c V A (nI n) x2 x3 x4 x5 x6 x7 (nI (fb_ct (fs g n) (p + 1))) (nI (mxs g n (p + 1))) (nI (p + 1)) := by
  have h24 := hG.k24 hn
  have f0 : f_L_isNet_b314 c V A (nI n) x2 x3 x4 x5 x6 x7 (nI (fb_ct (fs g n) p)) (nI (mxs g n p)) (nI p) (bI r) = c V A (nI n) x2 x3 x4 x5 x6 x7 (nI (fb_ct (fs g n) (p + 1))) (nI (mxs g n (p + 1))) (nI (p + 1)) := by
    rw [f_L_isNet_b314]
    exact in_315 (d := false) hS hG hn hA hp hr (fun h => by cases h)
  rw [f_L_isNet_b267]
  by_cases h : p < 18
  · rw [if_neg (show ¬ (18 : Int32) ≤ nI p from nI_ge (b := 18) h (by decide)), show nI p + 6 = nI (p + 6) from nI_add p 6, q_td hS hn h, bs]
    cases e : bt (g (6 + 5 * n + 3)) p
    · rw [if_pos (by decide), ix_nI hp (by decide), bs, hA p hp]
      cases e1 : bt (kA g n) p
      · rw [if_pos ((lwI_neg h24).mpr e1)]
        exact f0
      · rw [if_neg (fun q => by rw [(lwI_neg h24).mp q] at e1; cases e1), ix_nI (by omega) (by decide), bs, hA _ (by omega)]
        cases e2 : bt (kA g n) (p + 6)
        · rw [if_pos ((lwI_neg h24).mpr e2)]
          exact f0
        · rw [if_neg (fun q => by rw [(lwI_neg h24).mp q] at e2; cases e2)]
          exact in_315 (d := true) hS hG hn hA hp hr (fun _ => ⟨by omega, lw_d hG hn h e e1 e2⟩)
    · rw [if_neg (by decide)]
      exact f0
  · rw [if_pos (show (18 : Int32) ≤ nI p from nI_le (a := 18) (by omega) (by omega))]
    exact f0
theorem in_214 (hS : SR V 1 g) (hG : GG g) (hn : n < 3) (hA : ∀ i, i < 24 → A i = lwI g n i) : ∀ (f p : Nat), p ≤ 24 → 24 < f + p → f_L_isNet_b214 f V A (nI n) x2 x3 x4 x5 x6 x7 (nI (fb_ct (fs g n) p)) (nI (mxs g n p)) (nI p) = f_L_isNet_b459 25 V A (nI n) x2 x3 x4 x5 x6 x7 (nI (nch g n)) (nI (mxs g n 24)) 0 0 0
  | 0, p, _, h => by omega
  | f + 1, p, hp, hf => by
    have h24 := hG.k24 hn
    rw [f_L_isNet_b214]
    by_cases e : p = 24
    · subst e
      rw [if_pos (by decide), fs_ct h24]
    · have hp : p < 24 := by omega
      have ih := in_214 hS hG hn hA f (p + 1) (by omega) (by omega)
      have go : ∀ r : Bool, (r = true → p + 1 < 24 ∧ lwI g n p = lwI g n (p + 1)) → f_L_isNet_b267 (fun V A x1 x2 x3 x4 x5 x6 x7 x9 x10 x11 => f_L_isNet_b214 f V A x1 x2 x3 x4 x5 x6 x7 x9 x10 x11) V A (nI n) x2 x3 x4 x5 x6 x7 (nI (fb_ct (fs g n) p)) (nI (mxs g n p)) (nI p) (bI r) = f_L_isNet_b459 25 V A (nI n) x2 x3 x4 x5 x6 x7 (nI (nch g n)) (nI (mxs g n 24)) 0 0 0 := fun r hr => (in_267 hS hG hn hA hp hr).trans ih
      have g0 := go false (fun h => by cases h)
      rw [if_neg (show ¬ (24 : Int32) ≤ nI p from nI_ge (b := 24) hp (by decide))]
      by_cases h6 : p % 6 = 5
      · rw [if_pos ((m6_5 hp).mpr h6), f_L_isNet_b266]
        exact g0
      · rw [if_neg (fun q => h6 ((m6_5 hp).mp q)), nI_1, q_tr hS hn hp h6, bs]
        cases e : bt (g (6 + 5 * n + 2)) p
        · rw [if_pos (by decide), ix_nI hp (by decide), bs, hA p hp]
          cases e1 : bt (kA g n) p
          · rw [if_pos ((lwI_neg h24).mpr e1), f_L_isNet_b266]
            exact g0
          · rw [if_neg (fun q => by rw [(lwI_neg h24).mp q] at e1; cases e1), ix_nI (by omega) (by decide), bs, hA _ (by omega)]
            cases e2 : bt (kA g n) (p + 1)
            · rw [if_pos ((lwI_neg h24).mpr e2), f_L_isNet_b266]
              exact g0
            · rw [if_neg (fun q => by rw [(lwI_neg h24).mp q] at e2; cases e2)]
              exact go true (fun _ => ⟨by omega, lw_r hG hn hp h6 e e1 e2⟩)
        · rw [if_neg (by decide), f_L_isNet_b266]
          exact g0
end IM
section IS
variable {V : St} {g : Nat → Int32} {n : Nat} {A : Nat → Int32} {x4 x5 x6 x7 x9 x10 : Int32} {p a u : Nat}
/-- in the chapter of the place a -/
noncomputable def ic (g : Nat → Int32) (n a : Nat) (p : Nat) : Bool := bt (kA g n) a && (bt (kA g n) p && decide (lw g n p = lw g n a))
theorem in_504 {c : St → (Nat → Int32) → Int32 → Int32 → Int32 → Int32 → Int32 → Int32 → Int32 → Int32 → Int32 → Int32 → Int32 → Int32 → Option (Int32 × St)} (hu : u ≤ 4) (hp : p < 24) (b : Bool) (x2 : Int32) (s r : Nat) : f_L_isNet_b490 c V A (nI n) x2 (nI u) x4 x5 x6 x7 x9 x10 (nI s) (nI r) (nI p) (bI b) = c V A (nI n) x2 (nI u) x4 x5 x6 x7 x9 x10 (nI (s + b2n b)) (nI (r + b2n (b && decide (p / 6 < 4 - u)))) (nI (p + 1)) := by
  rw [f_L_isNet_b490]
  cases b
  · rw [if_pos (by decide), f_L_isNet_b504, if_pos (by decide), f_L_isNet_b529, f_L_isNet_b530, nI_1]
    rw [show nI s + 0 = nI (s + 0) from Int32.add_zero _, show nI r + 0 = nI (r + 0) from Int32.add_zero _]
    rfl
  · rw [if_neg (by decide), f_L_isNet_b504, if_neg (by decide)]
    by_cases h : p / 6 < 4 - u
    · rw [if_neg (fun q => (row_le hu hp).mp q h), f_L_isNet_b530, nI_1, nI_1, nI_1, decide_eq_true h]
      rfl
    · rw [if_pos ((row_le hu hp).mpr h), f_L_isNet_b529, f_L_isNet_b530, nI_1, nI_1, decide_eq_false h]
      rw [show nI r + 0 = nI (r + 0) from Int32.add_zero _]
      rfl
theorem in_459 (hS : SR V 1 g) (hG : GG g) (hn : n < 3) (ha : a < 24) (hu : u = uwg g n) (hA : ∀ i, i < 24 → A i = lwI g n i) : ∀ (f p : Nat), p ≤ 24 → 24 < f + p → ∃ V2, FB V V2 ∧ f_L_isNet_b459 f V A (nI n) (nI a) (nI u) x4 x5 x6 x7 x9 x10 (nI (fb_ct (ic g n a) p)) (nI (fb_ct (fun i => ic g n a i && decide (i / 6 < 4 - u)) p)) (nI p) = f_L_isNet_b634 25 V2 A (nI n) (nI a) (nI u) x4 x5 x6 x7 x9 x10 1 1
  | 0, p, _, h => by omega
  | f + 1, p, hp, hf => by
    have h24 := hG.k24 hn
    have hu4 : u ≤ 4 := by rw [hu]; exact uwg_le g n
    rw [f_L_isNet_b459]
    by_cases e : p = 24
    · subst e
      rw [if_pos (by decide)]
      cases k : bt (kA g n) a
      · have z : fb_ct (ic g n a) 24 = 0 := fb_ct_zero.mpr fun i _ => by
          unfold ic
          rw [k]
          rfl
        have c1 : f_L_chapterOf V (nI n) (nI a) 1 = some (-75) := q_ch0 (w := 1) hS hG hn ha k (by decide)
        rw [z, if_pos (by decide), c1, bs, if_pos rfl, q_chl0 hS hG hn ha k, bs, if_pos rfl]
        exact ⟨V, FB.rf _, rfl⟩
      · have s1 : fb_ct (ic g n a) 24 = nb (chC g n a) := by
          rw [← sz_ct h24 k]
          exact fb_ct_cong fun i _ => by
            unfold ic
            rw [k]
            rfl
        have s2 : fb_ct (fun i => ic g n a i && decide (i / 6 < 4 - u)) 24 = nb (chC g n a &&& dm u) := by
          rw [← rd_ct h24 hu4 k]
          exact fb_ct_cong fun i _ => by
            unfold ic
            rw [k]
            rfl
        have h0 : 0 < nb (chC g n a) := nb_pos (chC_24 h24 k) (chC_me h24 k)
        have hle := nb_le (chC g n a)
        obtain ⟨-, c1, c2, -⟩ := q_ch hS hG hn ha k
        obtain ⟨V2, l1, l2⟩ := q_chl hS hG hn ha k
        obtain ⟨-, -, -, w, c3, w1, w2⟩ := q_ch (hS.b l2) hG hn ha k
        rw [s1, s2, if_neg (nI_ne0 h0 (by omega)), c1, bs, if_pos rfl, c2, bs, hu, if_pos rfl, l1, bs, if_pos rfl, c3, bs, if_neg (by
          rw [show (1 : Int32) = nI 1 from rfl, pk_sub h0]
          exact nI_nlt (by omega) (by omega))]
        exact ⟨V2, l2, rfl⟩
    · have hp : p < 24 := by omega
      obtain ⟨V2, h1, h2⟩ := in_459 hS hG hn ha hu hA f (p + 1) (by omega) (by omega)
      refine ⟨V2, h1, ?_⟩
      rw [← h2, if_neg (show ¬ (24 : Int32) ≤ nI p from nI_ge (b := 24) hp (by decide)), ix_nI ha (by decide), bs, hA a ha, ct_s, ct_s]
      have go := fun b => in_504 (c := fun V A x1 x2 x3 x4 x5 x6 x7 x9 x10 x11 x12 x13 => f_L_isNet_b459 f V A x1 x2 x3 x4 x5 x6 x7 x9 x10 x11 x12 x13) (V := V) (A := A) (n := n) (x4 := x4) (x5 := x5) (x6 := x6) (x7 := x7) (x9 := x9) (x10 := x10) hu4 hp b (nI a) (fb_ct (ic g n a) p) (fb_ct (fun i => ic g n a i && decide (i / 6 < 4 - u)) p)
      cases k : bt (kA g n) a
      · have z : ic g n a p = false := by unfold ic; rw [k]; rfl
        rw [if_pos ((lwI_neg h24).mpr k), f_L_isNet_b489, z]
        exact go false
      · rw [if_neg (fun q => by rw [(lwI_neg h24).mp q] at k; cases k), ix_nI hp (by decide), bs, bs, hA p hp, hA a ha]
        cases z : ic g n a p
        · rw [if_neg (fun q => by
            have := (lwI_eq h24 k).mp q
            unfold ic at z
            rw [k, this.1, this.2, decide_eq_true rfl] at z
            cases z), f_L_isNet_b489]
          exact go false
        · have : bt (kA g n) p = true ∧ lw g n p = lw g n a := by
            unfold ic at z
            rw [k, Bool.true_and, Bool.and_eq_true, decide_eq_true_eq] at z
            exact z
          rw [if_pos ((lwI_eq h24 k).mpr this)]
          exact go true
theorem in_790 (hS : SR V 1 g) (hG : GG g) (hn : n < 3) (ha : a < 24) (hu : u = uwg g n) (h4 : x4 = nI (nkn g n)) (h5 : x5 = nI (nrd g n)) (h6 : x6 = nI (ntn g n)) (h7 : x7 = nI (ntw g n)) (h9 : x9 = nI (nch g n)) (h10 : x10 = nI (mxs g n 24)) : ∃ V2, FB V V2 ∧ f_L_isNet_b790 V A (nI n) (nI a) (nI u) x4 x5 x6 x7 x9 x10 1 1 = some (1, V2) := by
  subst h4 h5 h6 h7 h9 h10 hu
  obtain ⟨V1, a1, a2⟩ := q_nchA hS hG hn
  have hS1 := hS.b a2
  obtain ⟨V2, b1, b2⟩ := q_line hS1 hG hn (num := a / 6) (by omega)
  have d6 : nI a / 6 = nI (a / 6) := pk_div (a := a) (d := 6) (by omega) (by decide) (by decide)
  refine ⟨V2, a2.tr b2, ?_⟩
  rw [f_L_isNet_b790, q_net0 hS hG hn, bs, if_pos rfl, q_net1 hS hG hn, bs, if_pos rfl, q_net2 hS hG hn, bs, if_pos rfl, q_net4 hS hG hn, bs, if_pos rfl, q_net5 hS hG hn, bs, if_pos rfl, q_net6 hS hG hn, bs, if_pos rfl, q_nch hS hG hn, bs, if_pos rfl, a1, bs, if_pos rfl, q_rank0 hS1 hG hn, bs, if_pos rfl, f_L_isNet_b895, if_neg (by decide), if_neg (by decide), if_neg (by decide), d6, b1, bs, ← d6]
  by_cases h : a / 6 < 4 - uwg g n
  · rw [if_neg (fun q => (row_le (uwg_le g n) ha).mp q h), f_L_isNet_b938, if_pos h]
    exact if_pos rfl
  · rw [if_pos ((row_le (uwg_le g n) ha).mpr h), f_L_isNet_b938, if_neg h]
    exact if_pos rfl
theorem in_634 (hS : SR V 1 g) (hG : GG g) (hn : n < 3) (ha : a < 24) (hu : u = uwg g n) (hA : ∀ i, i < 24 → A i = lwI g n i) (h4 : x4 = nI (nkn g n)) (h5 : x5 = nI (nrd g n)) (h6 : x6 = nI (ntn g n)) (h7 : x7 = nI (ntw g n)) (h10 : x10 = nI (mxs g n 24)) : ∀ (f k : Nat), k ≤ 24 → 24 < f + k → ∃ V2, FB V V2 ∧ f_L_isNet_b634 f V A (nI n) (nI a) (nI u) x4 x5 x6 x7 (nI (nch g n)) x10 1 (nI (k + 1)) = some (1, V2)
  | 0, k, _, h => by omega
  | f + 1, k, hk, hf => by
    have h24 := hG.k24 hn
    have hc := nch_le g n
    rw [f_L_isNet_b634]
    by_cases e : nch g n ≤ k + 1
    · rw [if_pos (nI_le e (by omega))]
      have fin := in_790 (A := A) hS hG hn ha hu h4 h5 h6 h7 rfl h10
      rcases q_best hS hG hn with ⟨b1, b2⟩ | ⟨i, j, i1, j1, b1, b2, b3, b4, b5, b6⟩
      · rw [b1, bs, b2, bs, if_pos rfl, if_pos rfl]
        exact fin
      · have ne : ¬ lwI g n i = lwI g n j := fun q => b6 ((lw_iff h24 b4 b5).mp (((lwI_eq h24 b5).mp q).2))
        rw [b1, bs, b2, bs, if_neg (m1_nI ⟨i, by omega⟩).2, b3, bs, if_pos rfl, ix_nI i1 (by decide), bs, hA i i1, if_neg (fun q => by rw [(lwI_neg h24).mp q] at b4; cases b4), ix_nI j1 (by decide), bs, hA j j1, if_neg (fun q => by rw [(lwI_neg h24).mp q] at b5; cases b5), bs, bs, hA i i1, hA j j1, if_neg ne]
        exact fin
    · obtain ⟨L, h1, -⟩ := ChL.get (bt (kA g n)) (bt (kR g n)) (bt (kD g n)) h24
      obtain ⟨q1, r1, r2, r3, r4, r5⟩ := q_rank hS hG hn h1 (j := k) (by omega)
      obtain ⟨q2, s1, s2, s3, s4, s5⟩ := q_rank hS hG hn h1 (j := k + 1) (by omega)
      have ord := rk_ord h24 h1 r1 s1
      have c1 := (q_ch hS hG hn r3 (fs_t.mp r2).1).2.1
      have c2 := (q_ch hS hG hn s3 (fs_t.mp s2).1).2.1
      obtain ⟨V2, w1, w2⟩ := in_634 hS hG hn ha hu hA h4 h5 h6 h7 h10 f (k + 1) (by omega) (by omega)
      have n1 := nb_le (chC g n q1)
      have n2 := nb_le (chC g n q2)
      refine ⟨V2, w1, ?_⟩
      rw [if_neg (nI_ge (by omega) (by omega)), nI_pred, r5, bs, s5, bs, c1, bs, c2, bs]
      have le : nb (chC g n q2) ≤ nb (chC g n q1) := by
        rcases ord with o | ⟨o, -⟩ <;> omega
      rw [pk_sub le, if_neg (nI_pos (by omega))]
      by_cases z : nb (chC g n q1) - nb (chC g n q2) = 0
      · have lt : q1 < q2 := by
          rcases ord with o | ⟨-, o⟩
          · omega
          · exact o q1 q2 r4 s4
        rw [z, if_pos (by decide), if_pos (nI_le (by omega) (by omega)), f_L_isNet_b699, nI_1]
        exact w2
      · rw [if_neg (nI_ne0 (by omega) (by omega)), f_L_isNet_b699, nI_1]
        exact w2
theorem im_4 : ∀ k : Fin 9, imin 4 (nI k.val) = nI (min k.val 4) := by decide +kernel
theorem isNet_ok (hS : SR V 1 g) (hG : GG g) (hn : n < 3) (ha : a < 24) : ∃ V2, FB V V2 ∧ f_L_isNet V (nI n) (nI a) = some (1, V2) := by
  have h24 := hG.k24 hn
  obtain ⟨t, t1, t2⟩ := hG.1
  obtain ⟨d, d1, d2⟩ := (hG.2.2.2 n hn).2.2.2.2
  have hu : imin 4 (g 0 + g (6 + 5 * n + 4)) = nI (uwg g n) := by
    rw [t2, d2, nI_add, im_4 ⟨t + d, by omega⟩]
    unfold uwg uw
    rw [t2, d2, nI_clamp (by omega), nI_clamp (by omega)]
  rw [f_L_isNet, q_a7 hS, bs, q_net3 hS hn, bs, hu]
  obtain ⟨A2, k1, k2⟩ := in_39 hS hG hn (nI a) (uwg_le g n) 25 0 (fun _ => 0) (by decide) (by decide) (fun i hi => absurd hi (Nat.not_lt_zero i))
  have k2 : f_L_isNet_b39 25 V (fun _ => 0) (nI n) (nI a) (nI (uwg g n)) 0 0 0 0 0 = _ := k2
  have i2 := in_214 (x2 := nI a) (x3 := nI (uwg g n)) (x4 := nI (fb_ct (bt (kA g n)) 24)) (x5 := nI (fb_ct (fun i => bt (kA g n) i && decide (i / 6 < 4 - uwg g n)) 24)) (x6 := nI (fb_ct (bt (g (6 + 5 * n + 2))) 24 + fb_ct (bt (g (6 + 5 * n + 3))) 24)) (x7 := nI (fb_ct (bt (g (6 + 5 * n + 2))) 24 + 2 * fb_ct (bt (g (6 + 5 * n + 3))) 24)) hS hG hn k1 25 0 (by decide) (by decide)
  have i2 : f_L_isNet_b214 25 V A2 (nI n) (nI a) (nI (uwg g n)) (nI (fb_ct (bt (kA g n)) 24)) (nI (fb_ct (fun i => bt (kA g n) i && decide (i / 6 < 4 - uwg g n)) 24)) (nI (fb_ct (bt (g (6 + 5 * n + 2))) 24 + fb_ct (bt (g (6 + 5 * n + 3))) 24)) (nI (fb_ct (bt (g (6 + 5 * n + 2))) 24 + 2 * fb_ct (bt (g (6 + 5 * n + 3))) 24)) 0 0 0 = _ := i2
  obtain ⟨V2, j1, j2⟩ := in_459 (x4 := nI (fb_ct (bt (kA g n)) 24)) (x5 := nI (fb_ct (fun i => bt (kA g n) i && decide (i / 6 < 4 - uwg g n)) 24)) (x6 := nI (fb_ct (bt (g (6 + 5 * n + 2))) 24 + fb_ct (bt (g (6 + 5 * n + 3))) 24)) (x7 := nI (fb_ct (bt (g (6 + 5 * n + 2))) 24 + 2 * fb_ct (bt (g (6 + 5 * n + 3))) 24)) (x9 := nI (nch g n)) (x10 := nI (mxs g n 24)) hS hG hn ha rfl k1 25 0 (by decide) (by decide)
  have j2 : f_L_isNet_b459 25 V A2 (nI n) (nI a) (nI (uwg g n)) (nI (fb_ct (bt (kA g n)) 24)) (nI (fb_ct (fun i => bt (kA g n) i && decide (i / 6 < 4 - uwg g n)) 24)) (nI (fb_ct (bt (g (6 + 5 * n + 2))) 24 + fb_ct (bt (g (6 + 5 * n + 3))) 24)) (nI (fb_ct (bt (g (6 + 5 * n + 2))) 24 + 2 * fb_ct (bt (g (6 + 5 * n + 3))) 24)) (nI (nch g n)) (nI (mxs g n 24)) 0 0 0 = _ := j2
  obtain ⟨V3, m1, m2⟩ := in_634 (A := A2) (x4 := nI (fb_ct (bt (kA g n)) 24)) (x5 := nI (fb_ct (fun i => bt (kA g n) i && decide (i / 6 < 4 - uwg g n)) 24)) (x6 := nI (fb_ct (bt (g (6 + 5 * n + 2))) 24 + fb_ct (bt (g (6 + 5 * n + 3))) 24)) (x7 := nI (fb_ct (bt (g (6 + 5 * n + 2))) 24 + 2 * fb_ct (bt (g (6 + 5 * n + 3))) 24)) (x10 := nI (mxs g n 24)) (hS.b j1) hG hn ha rfl k1 rfl (by
    congr 1
    refine fb_ct_cong fun i hi => ?_
    show _ = bt (kA g n &&& dm (uwg g n)) i
    rw [b_and, dm_bt (uwg_le g n) hi]) rfl (by
    congr 1
    unfold ntw nb
    omega) rfl 25 0 (by decide) (by decide)
  refine ⟨V3, j1.tr m1, ?_⟩
  rw [k2, i2, j2]
  exact m2
end IS
