/-! the law's sum: of the ints g alone -/
def UNI (g : Nat → Int32) (F : St → Option (Int64 × St)) : Prop := ∃ v, ∀ V, SR V 1 g → ∃ V1, F V = some (v, V1) ∧ FB V V1
theorem UNI.st {g : Nat → Int32} {F F2 : St → Option (Int64 × St)} (h : UNI g F) (e : ∀ V, SR V 1 g → ∃ V', FB V V' ∧ F2 V = F V') : UNI g F2 := by
  obtain ⟨v, hv⟩ := h
  refine ⟨v, fun V hS => ?_⟩
  obtain ⟨V', a1, a2⟩ := e V hS
  obtain ⟨V1, b1, b2⟩ := hv V' (hS.b a1)
  exact ⟨V1, by rw [a2]; exact b1, a1.tr b2⟩
theorem UNI.of {g : Nat → Int32} {F F2 : St → Option (Int64 × St)} (h : UNI g F) (e : ∀ V, SR V 1 g → F2 V = F V) : UNI g F2 := h.st fun V hS => ⟨V, FB.rf _, e V hS⟩
section US
variable {g : Nat → Int32}
theorem u_211 {m : Nat} (hm : g 1 = nI m) (hm4 : m ≤ 4) : ∀ (f i : Nat) (x1 : Int64), i ≤ m → m < f + i → UNI g (fun V => f_L_sum_b211 f V x1 (nI i))
  | 0, i, x1, _, h => by omega
  | f + 1, i, x1, hi, hf => by
    by_cases e : i = m
    · refine ⟨x1, fun V hS => ⟨V, ?_, FB.rf _⟩⟩
      show f_L_sum_b211 (f + 1) V x1 (nI i) = _
      rw [f_L_sum_b211, q_a3 hS, bs, hm, e, if_pos (nI_le (Nat.le_refl _) (by omega))]
    · have hi : i < m := by omega
      refine (u_211 hm hm4 f (i + 1) (((31 * x1) + (17 * (Int32.toInt64 (g (21 + 2 * i + 0))))) + (Int32.toInt64 (g (21 + 2 * i + 1)))) (by omega) (by omega)).of fun V hS => ?_
      have e0 : f_L_editorOf V (nI i) 0 = some (g (21 + 2 * i + 0)) := q_edw hS hm hm4 hi (w := 0) (by decide)
      have e1 : f_L_editorOf V (nI i) 1 = some (g (21 + 2 * i + 1)) := q_edw hS hm hm4 hi (w := 1) (by decide)
      show f_L_sum_b211 (f + 1) V x1 (nI i) = _
      rw [f_L_sum_b211, q_a3 hS, bs, hm, if_neg (nI_ge hi (by omega)), e0, bs, e1, bs, nI_1]
theorem u_145 (hG : GG g) {m : Nat} (hm : g 2 = nI m) (hm6 : m ≤ 6) : ∀ (f i : Nat) (x1 : Int64), i ≤ m → m < f + i → UNI g (fun V => f_L_sum_b145 f V x1 (nI i))
  | 0, i, x1, _, h => by omega
  | f + 1, i, x1, hi, hf => by
    by_cases e : i = m
    · obtain ⟨m1, h4, h1⟩ := hG.2.1
      refine (u_211 h1 h4 5 0 x1 (Nat.zero_le _) (by omega)).of fun V hS => ?_
      show f_L_sum_b145 (f + 1) V x1 (nI i) = f_L_sum_b211 5 V x1 0
      rw [f_L_sum_b145, q_a5 hS, bs, hm, e, if_pos (nI_le (Nat.le_refl _) (by omega))]
    · have hi : i < m := by omega
      rcases Classical.em (∃ V, SR V 1 g) with ⟨V0, hS0⟩ | no
      · obtain ⟨n, S, y, z, h⟩ := nts hS0 hG hm6 hm hi
        obtain ⟨-, ⟨p, hp, -⟩, -, -⟩ := q_nt hS0 hG hm hm6 hi h
        refine (u_145 hG hm hm6 f (i + 1) (((((31 * x1) + (1009 * (Int32.toInt64 (nI n)))) + (31 * (Int32.toInt64 (nI p)))) + (Int32.toInt64 (nI (nb S)))) + (7 * (Int32.toInt64 (nI (nb S + if rdB g i = true then 0 else 1))))) (by omega) (by omega)).st fun V hS => ?_
        have h' := h.mv hS hm hm6 hi
        obtain ⟨n0, ⟨p1, hp1, n1⟩, n2, -⟩ := q_nt hS hG hm hm6 hi h'
        have ep := hp1.one hp
        subst ep
        obtain ⟨V2, o1, o2⟩ := q_nol hS hG hm hm6 hi h'
        refine ⟨V2, o2, ?_⟩
        show f_L_sum_b145 (f + 1) V x1 (nI i) = _
        rw [f_L_sum_b145, q_a5 hS, bs, hm, if_neg (nI_ge hi (by omega)), n0, bs, n1, bs, n2, bs, o1, bs, nI_1]
      · exact ⟨0, fun V hS => absurd ⟨V, hS⟩ no⟩
theorem u_100 {c : St → Int64 → Int32 → Int32 → Option (Int64 × St)} {c2 : St → Int64 → Int32 → Option (Int64 × St)} {n p : Nat} (hn : n < 3) (hp : p < 24) (y0 : Int32) (y1 : Int64) (hc : ∀ x1, UNI g (fun V => c V x1 (nI n) (nI (p + 1)))) : UNI g (fun V => f_L_sum_b100 c c2 V (nI n) (nI p) y0 y1) := by
  by_cases h : p < 18
  · refine (hc ((y1 + Int32.toInt64 y0) + Int32.toInt64 (11 * bI (bt (g (6 + 5 * n + 3)) p)))).of fun V hS => ?_
    show f_L_sum_b100 c c2 V (nI n) (nI p) y0 y1 = _
    rw [f_L_sum_b100, if_pos (show nI p ≤ (17 : Int32) from nI_le (b := 17) (by omega) (by decide)), show nI p + 6 = nI (p + 6) from nI_add p 6, q_td hS hn h, bs, f_L_sum_b128, nI_1]
  · refine (hc ((y1 + Int32.toInt64 y0) + Int32.toInt64 0)).of fun V hS => ?_
    show f_L_sum_b100 c c2 V (nI n) (nI p) y0 y1 = _
    rw [f_L_sum_b100, if_neg (show ¬ nI p ≤ (17 : Int32) from nI_ge (a := 17) (by omega) (by omega)), f_L_sum_b128, nI_1]
theorem u_53 {c : St → Int64 → Int32 → Option (Int64 × St)} {n : Nat} (hn : n < 3) (hc : ∀ x1, UNI g (fun V => c V x1 (nI (n + 1)))) : ∀ (f p : Nat) (x1 : Int64), p ≤ 24 → 24 < f + p → UNI g (fun V => f_L_sum_b53 c f V x1 (nI n) (nI p))
  | 0, p, x1, _, h => by omega
  | f + 1, p, x1, hp, hf => by
    by_cases e : p = 24
    · refine (hc x1).of fun V hS => ?_
      show f_L_sum_b53 c (f + 1) V x1 (nI n) (nI p) = _
      rw [f_L_sum_b53, e, if_pos (by decide), nI_1]
    · have hp : p < 24 := by omega
      have ih := fun x1 => u_53 hn hc f (p + 1) x1 (by omega) (by omega)
      by_cases h6 : p % 6 = 5
      · refine (u_100 (c := fun V x1 x3 x4 => f_L_sum_b53 c f V x1 x3 x4) (c2 := c) hn hp 0 ((31 * x1) + (Int32.toInt64 (kv (bt (g (6 + 5 * n)) p) (bt (g (6 + 5 * n + 1)) p)))) ih).of fun V hS => ?_
        show f_L_sum_b53 c (f + 1) V x1 (nI n) (nI p) = _
        rw [f_L_sum_b53, if_neg (show ¬ (24 : Int32) ≤ nI p from nI_ge (b := 24) hp (by decide)), q_kind hS hn hp, bs, if_pos ((m6_5 hp).mpr h6)]
      · refine (u_100 (c := fun V x1 x3 x4 => f_L_sum_b53 c f V x1 x3 x4) (c2 := c) hn hp (5 * bI (bt (g (6 + 5 * n + 2)) p)) ((31 * x1) + (Int32.toInt64 (kv (bt (g (6 + 5 * n)) p) (bt (g (6 + 5 * n + 1)) p)))) ih).of fun V hS => ?_
        show f_L_sum_b53 c (f + 1) V x1 (nI n) (nI p) = _
        rw [f_L_sum_b53, if_neg (show ¬ (24 : Int32) ≤ nI p from nI_ge (b := 24) hp (by decide)), q_kind hS hn hp, bs, if_neg (fun q => h6 ((m6_5 hp).mp q)), nI_1, q_tr hS hn hp h6, bs]
theorem u_31 (hG : GG g) : ∀ (f n : Nat) (x1 : Int64), n ≤ 3 → 3 < f + n → UNI g (fun V => f_L_sum_b31 f V x1 (nI n))
  | 0, n, x1, _, h => by omega
  | f + 1, n, x1, hn, hf => by
    by_cases e : n = 3
    · obtain ⟨m, h6, h2, -⟩ := hG.2.2.1
      refine (u_145 hG h2 h6 7 0 x1 (Nat.zero_le _) (by omega)).of fun V hS => ?_
      show f_L_sum_b31 (f + 1) V x1 (nI n) = f_L_sum_b145 7 V x1 0
      rw [f_L_sum_b31, e, if_pos (by decide)]
    · have hn : n < 3 := by omega
      refine (u_53 (c := fun V x1 x3 => f_L_sum_b31 f V x1 x3) hn (fun x1 => u_31 hG f (n + 1) x1 (by omega) (by omega)) 25 0 ((31 * x1) + (Int32.toInt64 (g (6 + 5 * n + 4)))) (by omega) (by omega)).of fun V hS => ?_
      show f_L_sum_b31 (f + 1) V x1 (nI n) = f_L_sum_b53 _ 25 V _ (nI n) 0
      rw [f_L_sum_b31, if_neg (show ¬ (3 : Int32) ≤ nI n from nI_ge (b := 3) hn (by decide)), q_net3 hS hn, bs]
theorem acc_u (hG : GG g) (hA : AC g) {k : Nat} (hk : k < 11) : ∃ a, ∀ V, SR V 1 g → f_L_account V (nI k) = some a := by
  obtain ⟨m, b, c, t, w, h1, h2, h3, -⟩ := hA
  obtain ⟨m9, h6, h9, -⟩ := hG.2.2.1
  have ck : k = 0 ∨ k = 1 ∨ k = 2 ∨ k = 3 ∨ k = 4 ∨ k = 5 ∨ k = 6 ∨ k = 7 ∨ k = 8 ∨ k = 9 ∨ k = 10 := by omega
  rcases ck with rfl | rfl | rfl | rfl | rfl | rfl | rfl | rfl | rfl | rfl | rfl
  · exact ⟨_, fun V hS => q_a0 hS hG⟩
  · exact ⟨_, fun V hS => q_a1 hS hG⟩
  · exact ⟨_, fun V hS => q_a2 hS hG⟩
  · exact ⟨_, fun V hS => q_a3 hS⟩
  · exact ⟨_, fun V hS => q_a4 hS h2 h1 (fun e he => (h3 e he).1)⟩
  · exact ⟨_, fun V hS => q_a5 hS⟩
  · exact ⟨_, fun V hS => q_a6 hS hG h9 h6⟩
  · exact ⟨_, fun V hS => q_a7 hS⟩
  · exact ⟨_, fun V hS => q_a8 hS⟩
  · exact ⟨_, fun V hS => q_a9 hS⟩
  · exact ⟨_, fun V hS => q_a10 hS⟩
theorem u_4 (hG : GG g) (hA : AC g) : ∀ (f k : Nat) (x1 : Int64), k ≤ 11 → 11 < f + k → UNI g (fun V => f_L_sum_b4 f V x1 (nI k))
  | 0, k, x1, _, h => by omega
  | f + 1, k, x1, hk, hf => by
    by_cases e : k = 11
    · refine (u_31 hG 4 0 x1 (by decide) (by decide)).of fun V hS => ?_
      show f_L_sum_b4 (f + 1) V x1 (nI k) = f_L_sum_b31 4 V x1 0
      rw [f_L_sum_b4, e, if_pos (by decide)]
    · have hk : k < 11 := by omega
      obtain ⟨a, ha⟩ := acc_u hG hA hk
      refine (u_4 hG hA f (k + 1) ((31 * x1) + (Int32.toInt64 a)) (by omega) (by omega)).of fun V hS => ?_
      show f_L_sum_b4 (f + 1) V x1 (nI k) = _
      rw [f_L_sum_b4, if_neg (show ¬ (11 : Int32) ≤ nI k from nI_ge (b := 11) hk (by decide)), ha V hS, bs, nI_1]
theorem sum_u (hG : GG g) (hA : AC g) : UNI g f_L_sum := u_4 hG hA 12 0 0 (by decide) (by decide)
end US
noncomputable def smF (g : Nat → Int32) : Int64 := if h : dP (UNI g f_L_sum) = true then Classical.choose (dP_t.mp h) else 0
theorem smF_s {V : St} {g : Nat → Int32} (hS : SR V 1 g) (hG : GG g) (hA : AC g) : ∃ V1, f_L_sum V = some (smF g, V1) ∧ FB V V1 := by
  have h := sum_u hG hA
  have e : smF g = Classical.choose h := by
    unfold smF
    rw [dif_pos (dP_t.mpr h)]
  rw [e]
  exact Classical.choose_spec h V hS
