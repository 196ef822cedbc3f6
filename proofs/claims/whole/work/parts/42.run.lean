/-! orders are done one by one; all or none -/
theorem ORD.fr {V U V1 U1 : St} {j : Nat} (hj : j < 9) (h : ORD V U j) (a : ∀ k, 190 ≤ k → k < 205 → k ≠ 192 → V1 k = V k) (b : U1 214 = U 214) : ORD V1 U1 j := by
  obtain ⟨s, s1, s2, s3, s4⟩ := h
  exact ⟨s, s1, by rw [a 194 (by decide) (by decide) (by decide), s2], by rw [b, s3], fun i hi => by rw [a _ (by omega) (by omega) (by omega), b, s4 i hi]⟩
theorem ex_loop {O : Nat} (hO : O ≤ 9) {V0 U0 : St} : ∀ (f f' j : Nat) (V U : St), j ≤ O → O < f + j → O < f' + j → SR V 1 (U 209) → GG (U 209) → (∀ i, i < O → ORD V U i) → V 192 5 = nI O → U 208 24 = nI O → Out 1 V0 V → Fm U0 U →
    (∃ jj r d V1 U1, f_X9_run_b49 f V (nI j) = ((f_X8_copyFrom (up V1 0 9 d) 1 18).bind fun q6 => (f_X6_keepOrder q6 (nI jj) r (q6 0 9)).bind fun q7 => some (.error 0, q7)) ∧ f_X10_run_b104 f' U (nI j) = f_X10_run_b127 500 U1 (nI jj) r 0 ∧ r ≠ 0 ∧ U1 208 17 = d ∧ Out 1 V0 V1 ∧ Fm U0 U1) ∨
    (∃ V1 U1, f_X9_run_b49 f V (nI j) = ((f_X1_push V1 18).bind fun q2 => some (.ok (q2 192 5), q2)) ∧ f_X10_run_b104 f' U (nI j) = ((f_X10_changed U1 (U1 208 24)).bind fun q7 => some (q7.1, q7.2)) ∧ SR V1 1 (U1 209) ∧ GG (U1 209) ∧ Out 1 V0 V1 ∧ Fm U0 U1)
  | 0, _, j, V, U, _, h, _, _, _, _, _, _, _, _ => by omega
  | _, 0, j, V, U, _, _, h, _, _, _, _, _, _, _ => by omega
  | f + 1, f' + 1, j, V, U, hj, hf, hf', hS, hG, hD, h5, h24, fo, fm => by
    by_cases e : j = O
    · subst e
      refine Or.inr ⟨V, U, ?_, ?_, hS, hG, fo, fm⟩
      · rw [f_X9_run_b49, h5, if_pos (nI_le (Nat.le_refl _) (by omega))]
      · rw [f_X10_run_b104, h24, if_pos (nI_le (Nat.le_refl _) (by omega))]
    · have hj : j < O := by omega
      rcases do_ord (show j < 9 by omega) (hD j hj) hS hG with ⟨r, d, U1, n0, c1, m1, m2, m3, m4⟩ | ⟨V1, U1, c1, c2, m1, m2, m3, m4, m5⟩
      · refine Or.inl ⟨j, r, d, V, U1, ?_, ?_, n0, m2, fo, fm.tr m4⟩
        · rw [f_X9_run_b49, h5, if_neg (nI_ge hj (by omega)), c1, bs, if_neg (show ¬ (r, up V 0 9 d).1 = 0 from n0)]
        · rw [f_X10_run_b104, h24, if_neg (nI_ge hj (by omega)), m1, bs, if_neg (show ¬ (r, U1).1 = 0 from n0)]
      · have ec : f_X9_run_b49 (f + 1) V (nI j) = f_X9_run_b49 f V1 (nI (j + 1)) := by
          rw [f_X9_run_b49, h5, if_neg (nI_ge hj (by omega)), c1, bs, if_pos (show ((0 : Int32), V).1 = 0 from rfl)]
          show ((f_X9_doOrder V (nI j)).bind fun q5 => f_X9_run_b49 f q5 (nI j + 1)) = _
          rw [c2, bs, nI_1]
        have em : f_X10_run_b104 (f' + 1) U (nI j) = f_X10_run_b104 f' U1 (nI (j + 1)) := by
          rw [f_X10_run_b104, h24, if_neg (nI_ge hj (by omega)), m1, bs, if_pos (show ((0 : Int32), U1).1 = 0 from rfl)]
          show f_X10_run_b104 f' U1 (nI j + 1) = _
          rw [nI_1]
        rw [ec, em]
        exact ex_loop hO f f' (j + 1) V1 U1 (by omega) (by omega) (by omega) m2 m3 (fun i hi => (hD i hi).fr (by omega) (fun k a b _ => m4 k (by omega)) (m5.1 214 (by decide) (by decide))) (by rw [m4 192 (by omega), h5]) (by rw [m5.2 24 (by decide), h24]) (fun k hk => (m4 k hk).trans (fo k hk)) (fm.tr m5)
theorem bk_loop (x1 x2 : Int32) : ∀ (n p : Nat) (V : St), p ≤ 53 → 53 < n + p → (∀ q, q < p → V 209 q = V 210 q) → ∃ V1, f_X10_run_b127 n V x1 x2 (nI p) = some (0, up (up (up (up (up V1 208 13 9) 208 14 x1) 208 15 x2) 208 16 (V 208 17)) 208 0 2) ∧ (∀ k, k ≠ 209 → V1 k = V k) ∧ ∀ q, q < 53 → V1 209 q = V 210 q
  | 0, p, V, h1, h2, _ => by omega
  | n + 1, p, V, h1, h2, h => by
    rw [f_X10_run_b127]
    by_cases e : p = 53
    · subst e
      rw [if_pos (show (53 : Int32) ≤ nI 53 by decide), up_ne _ (fun _ => by decide), up_ne _ (fun _ => by decide), up_ne _ (fun _ => by decide)]
      exact ⟨V, rfl, fun _ _ => rfl, h⟩
    · have hp : p < 53 := by omega
      rw [if_neg (show ¬ (53 : Int32) ≤ nI p from nI_ge (b := 53) hp (by decide)), ix_nI hp (by decide), bs, bs, nI_1]
      obtain ⟨V1, g1, g2, g3⟩ := bk_loop x1 x2 n (p + 1) (up V 209 p (V 210 p)) (by omega) (by omega) (fun q hq => by
        rw [up_at (show 210 ≠ 209 by decide)]
        by_cases z : q = p
        · rw [z, up_self]
        · rw [up_ne _ (fun _ => z), h q (by omega)])
      rw [up_at (show 208 ≠ 209 by decide)] at g1
      rw [up_at (show 210 ≠ 209 by decide)] at g3
      exact ⟨V1, g1, fun k hk => by rw [g2 k hk, up_at hk], g3⟩
theorem s_run : SIM (fun V => f_X9_run V) (fun V => f_X10_run V) [(3, 1), (0, 2)] := by
  intro Vc Vm hR
  obtain ⟨h1, ⟨c, G, c8, k1, k2, k3⟩, h3, ⟨n, n60, n2, n3, n4⟩, h5, h6, h7⟩ := id hR
  obtain ⟨g, hg⟩ : ∃ g, g = Vm 209 := ⟨_, rfl⟩
  obtain ⟨W0, r1, r2, r3⟩ := rem_eq Vm
  obtain ⟨V0, hV0⟩ : ∃ z, z = up (up Vc 192 2 0) 192 5 0 := ⟨_, rfl⟩
  obtain ⟨U0, hU0⟩ : ∃ z, z = up (up (up (up (up W0 208 22 0) 208 23 ((up W0 208 22 0) 208 10)) 208 10 0) 208 24 0) 208 25 0 := ⟨_, rfl⟩
  have w8 : ∀ j, j ≠ 0 → W0 208 j = Vm 208 j := fun j hj => by rw [r2 208 (by decide), up_ne _ (fun _ => hj)]
  have wk : ∀ k, k ≠ 208 → k ≠ 210 → W0 k = Vm k := fun k a b => by rw [r2 k b, up_at a]
  have uk : ∀ k, k ≠ 208 → U0 k = W0 k := fun k a => by rw [hU0, up_at a, up_at a, up_at a, up_at a, up_at a]
  have u8 : ∀ j, j ≠ 0 → j ≠ 10 → j ≠ 22 → j ≠ 23 → j ≠ 24 → j ≠ 25 → U0 208 j = Vm 208 j := fun j a b c d e f => by rw [hU0, up_ne _ (fun _ => f), up_ne _ (fun _ => e), up_ne _ (fun _ => b), up_ne _ (fun _ => d), up_ne _ (fun _ => c), w8 j a]
  have u80 : U0 208 0 = 0 := by rw [hU0, up_ne _ (fun _ => by decide), up_ne _ (fun _ => by decide), up_ne _ (fun _ => by decide), up_ne _ (fun _ => by decide), up_ne _ (fun _ => by decide), r2 208 (by decide), up_self]
  have u10 : U0 208 10 = 0 := by rw [hU0, up_ne _ (fun _ => by decide), up_ne _ (fun _ => by decide), up_self]
  have vk : ∀ k, k ≠ 192 → V0 k = Vc k := fun k a => by rw [hV0, up_at a, up_at a]
  have pz : PZ (Vc 193) n 0 V0 := ⟨by rw [hV0, up_ne _ (fun _ => by decide), up_self]; rfl, by rw [hV0, up_ne _ (fun _ => by decide), up_ne _ (fun _ => by decide), n2], fun j hj => by rw [vk 193 (by decide)]⟩
  have ms : MS (Vc 193) n false 0 U0 := by
    refine ⟨by rw [hU0, up_self]; rfl, ?_, ?_, fun j hj => ?_⟩
    · rw [hU0, up_ne _ (fun _ => by decide), up_ne _ (fun _ => by decide), up_ne _ (fun _ => by decide), up_ne _ (fun _ => by decide), up_self]
      rfl
    · rw [hU0, up_ne _ (fun _ => by decide), up_ne _ (fun _ => by decide), up_ne _ (fun _ => by decide), up_self, up_ne _ (fun _ => by decide), w8 10 (by decide), n3]
    · rw [uk 213 (by decide), wk 213 (by decide) (by decide), n4 j hj]
  have o24 : U0 208 24 = nI 0 := by rw [hU0, up_ne _ (fun _ => by decide), up_self]; rfl
  have o5 : V0 192 5 = nI 0 := by rw [hV0, up_self]; rfl
  have em : f_X10_run Vm = (f_X10_readsOne U0).bind fun U2 => f_X10_run_b36 500 U2 := by
    rw [f_X10_run, r1, bs, ← hU0]
  rcases pl_loop n60 500 500 0 0 V0 U0 pz o5 ms o24 (Nat.zero_le _) (Nat.zero_le _) (fun j hj => absurd hj (Nat.not_lt_zero j)) (by decide) (by decide) with ⟨q, V1, U1, a1, a2, a3, a4, a5, a6⟩ | ⟨O, V1, U1, a1, a2, a3, a4, a5, a6, a7, a8⟩
  · have a1 : f_X7_findFault Vc = some (nI q, V1) := by rw [f_X7_findFault, ← hV0]; exact a1
    rw [a2] at em
    have v1 : ∀ k, k ≠ 192 → ¬ (194 ≤ k ∧ k < 205) → V1 k = Vc k := fun k a b => (a5 k a b).trans (vk k a)
    have x1 : ∀ k, k ≠ 208 → k ≠ 210 → k ≠ 214 → U1 k = Vm k := fun k a b c => by rw [a6.1 k a c, uk k a, wk k a b]
    have x8 : ∀ j, j ≠ 0 → j ≠ 10 → j < 22 → U1 208 j = Vm 208 j := fun j a b c => by rw [a6.2 j (by omega) (by omega) (by omega), u8 j a b (by omega) (by omega) (by omega) (by omega)]
    refine ⟨.error 3, up (up V1 192 1 0) 0 10 (nI q), 0, up (up U1 208 12 (nI q)) 208 0 1, ?_, ?_, ⟨?_, ?_, ?_, ?_, ?_, ?_, ?_⟩, fun k hk => ?_, fun k hk => ?_, Ans.er (by simp) (by decide) (up_self _ _ _ _)⟩
    · show f_X9_run Vc = _
      rw [f_X9_run, a1, bs, f_X7_clear, bs, if_neg (show ¬ (nI q, V1).1 = -1 from m1_ne (by omega))]
    · show f_X10_run Vm = _
      rw [em, f_X10_run_b88, a3]
      rfl
    · exact h1.fr (fun k a b => by rw [up_at (by omega), up_at (by omega), v1 k (by omega) (by omega)]) (by rw [up_at (by decide), up_at (by decide), x1 209 (by decide) (by decide) (by decide)])
    · exact R2.fr ⟨c, G, c8, k1, k2, k3⟩ (fun k a b => by rw [up_at (by omega), up_at (by omega), v1 k (by omega) (by omega)]) (by rw [up_ne _ (fun _ => by decide), up_ne _ (fun _ => by decide), x8 5 (by decide) (by decide) (by decide)]) (by rw [up_at (by decide), up_at (by decide), x1 212 (by decide) (by decide) (by decide)])
    · exact h3.fr (by rw [up_ne _ (fun _ => by decide), up_at (by decide), v1 0 (by decide) (by omega)]) (fun k a b => by rw [up_at (by omega), up_at (by omega), v1 k (by omega) (by omega)]) (by rw [up_ne _ (fun _ => by decide), up_ne _ (fun _ => by decide), x8 6 (by decide) (by decide) (by decide)]) (by rw [up_at (by decide), up_at (by decide), x1 211 (by decide) (by decide) (by decide)])
    · refine ⟨0, by decide, ?_, ?_, fun j hj => absurd hj (Nat.not_lt_zero j)⟩
      · rw [up_at (by decide), up_self]
        rfl
      · rw [up_ne _ (fun _ => by decide), up_ne _ (fun _ => by decide), a6.2 10 (by decide) (by decide) (by decide), u10]
        rfl
    · exact h5.fr (by rw [up_at (by decide), up_at (by decide), v1 205 (by decide) (by omega)]) (by rw [up_at (by decide), up_at (by decide), v1 206 (by decide) (by omega)]) (by rw [up_ne _ (fun _ => by decide), up_ne _ (fun _ => by decide), x8 11 (by decide) (by decide) (by decide)]) (by rw [up_at (by decide), up_at (by decide), x1 215 (by decide) (by decide) (by decide)])
    · exact h6.fr (by rw [up_at (by decide), up_at (by decide), v1 207 (by decide) (by omega)]) (fun j a b => by rw [up_ne _ (fun _ => by omega), up_ne _ (fun _ => by omega), x8 j (by omega) (by omega) (by omega)])
    · show up (up V1 192 1 0) 0 10 (nI q) 0 10 = up (up U1 208 12 (nI q)) 208 0 1 208 12
      rw [up_self, up_ne _ (fun _ => by decide), up_self]
    · rw [up_at (by omega), up_at (by omega), v1 k (by omega) (by omega)]
    · rw [up_at (by omega), up_at (by omega)]
      by_cases z : k = 210
      · omega
      · exact x1 k (by omega) z (by omega)
  · have a1 : f_X7_findFault Vc = some (-1, V1) := by rw [f_X7_findFault, ← hV0]; exact a1
    rw [a2] at em
    have v1 : ∀ k, k ≠ 192 → ¬ (194 ≤ k ∧ k < 205) → V1 k = Vc k := fun k a b => (a7 k a b).trans (vk k a)
    have x1 : ∀ k, k ≠ 208 → k ≠ 214 → U1 k = W0 k := fun k a c => by rw [a8.1 k a c, uk k a]
    have x8 : ∀ j, j ≠ 0 → j ≠ 10 → j < 22 → U1 208 j = Vm 208 j := fun j a b c => by rw [a8.2 j (by omega) (by omega) (by omega), u8 j a b (by omega) (by omega) (by omega) (by omega)]
    have x9 : U1 209 = g := by rw [x1 209 (by decide) (by decide), wk 209 (by decide) (by decide), hg]
    obtain ⟨W, w1, w2, w3⟩ := cf_eq (up V1 192 1 0) (a := 18) (b := 1) (by decide)
    have sS : SR (up V1 192 1 0) 1 g := by
      rw [hg]
      exact h1.1.fr fun k a b => by rw [up_at (by omega), v1 k (by omega) (by omega)]
    have wS := w3 g sS
    have sW : SR W 1 (U1 209) := by
      rw [x9]
      exact sS.fr fun k a b => w2 k (by omega)
    have gg : GG (U1 209) := by rw [x9, hg]; exact h1.2
    have W5 : W 192 5 = nI O := by rw [w2 192 (by omega), up_ne _ (fun _ => by decide), a4]
    have ec : f_X9_run Vc = f_X9_run_b49 500 W (nI 0) := by
      rw [f_X9_run, a1, bs, f_X7_clear, bs, if_pos (show ((-1 : Int32), V1).1 = -1 from rfl)]
      show ((f_X8_copyFrom (up V1 192 1 0) 18 1).bind fun q11 => f_X9_run_b49 500 q11 0) = _
      rw [w1, bs]
      rfl
    have wv : ∀ k, k ≠ 192 → ¬ (194 ≤ k ∧ k < 205) → ¬ (18 ≤ k ∧ k < 35) → W k = Vc k := fun k a b c => by rw [w2 k (by omega), up_at a, v1 k a b]
    rcases ex_loop a3 500 500 0 W U1 (Nat.zero_le _) (by omega) (by omega) sW gg (fun i hi => (a6 i hi).fr (by omega) (fun k a b c => by rw [w2 k (by omega), up_at c]) rfl) W5 a5 (Out.rf 1 W) (Fm.rf U1) with ⟨jj, r, d, V2, U2, b1, b2, b3, b4, b5, b6⟩ | ⟨V2, U2, b1, b2, b3, b4, b5, b6⟩
    · have y1 : ∀ k, k ≠ 208 → k ≠ 209 → U2 k = U1 k := b6.1
      have y8 : ∀ j, j ≠ 0 → j ≠ 10 → j < 17 → U2 208 j = Vm 208 j := fun j a b c => by rw [b6.2 j (Or.inl c), x8 j a b (by omega)]
      have y210 : ∀ q, q < 53 → U2 210 q = g q := fun q hq => by rw [y1 210 (by decide) (by decide), x1 210 (by decide) (by decide), r3 q hq, hg]
      have yk : ∀ k, k ≠ 208 → k ≠ 209 → k ≠ 210 → k ≠ 214 → U2 k = Vm k := fun k a b c d => by rw [y1 k a b, x1 k a d, wk k a c]
      obtain ⟨U3, e1, e2, e3⟩ := bk_loop (nI jj) r 500 0 U2 (by decide) (by decide) (fun q hq => absurd hq (Nat.not_lt_zero q))
      obtain ⟨V3, f1', f2', f3'⟩ := cf_eq (up V2 0 9 d) (a := 1) (b := 18) (by decide)
      have s18 : SR (up V2 0 9 d) 18 g := wS.fr fun k a b => by rw [up_at (by omega), b5 k (by omega)]
      have s3 := f3' g s18
      have z9 : V3 0 9 = d := by rw [f2' 0 (by omega), up_self]
      have vv : ∀ k, k ≠ 0 → k ≠ 192 → ¬ (194 ≤ k ∧ k < 205) → ¬ (1 ≤ k ∧ k < 35) → V3 k = Vc k := fun k a b c d => by rw [f2' k (by omega), up_at a, b5 k (by omega), wv k b c (by omega)]
      have v0' : ∀ j, j ≠ 9 → V3 0 j = Vc 0 j := fun j hj => by rw [f2' 0 (by omega), up_ne _ (fun _ => hj), b5 0 (by omega), wv 0 (by decide) (by omega) (by omega)]
      obtain ⟨A, hA⟩ : ∃ z, z = up (up (up (up V3 207 0 9) 207 1 (nI jj)) 207 2 r) 207 3 d := ⟨_, rfl⟩
      obtain ⟨B, hB⟩ : ∃ z, z = up (up (up (up (up U3 208 13 9) 208 14 (nI jj)) 208 15 r) 208 16 (U2 208 17)) 208 0 2 := ⟨_, rfl⟩
      have ak : ∀ k, k ≠ 207 → A k = V3 k := fun k a => by rw [hA, up_at a, up_at a, up_at a, up_at a]
      have bk : ∀ k, k ≠ 208 → B k = U3 k := fun k a => by rw [hB, up_at a, up_at a, up_at a, up_at a, up_at a]
      have b8 : ∀ j, j ≠ 0 → j < 13 → B 208 j = U2 208 j := fun j a b => by rw [hB, up_ne _ (fun _ => a), up_ne _ (fun _ => by omega), up_ne _ (fun _ => by omega), up_ne _ (fun _ => by omega), up_ne _ (fun _ => by omega), e2 208 (by decide)]
      have b9 : ∀ q, q < 53 → B 209 q = g q := fun q hq => by rw [bk 209 (by decide), e3 q hq, y210 q hq]
      have bo : ∀ k, k ≠ 208 → k ≠ 209 → k ≠ 210 → k ≠ 214 → B k = Vm k := fun k a b c d => by rw [bk k a, e2 k b, yk k a b c d]
      have av : ∀ k, k ≠ 0 → k ≠ 192 → ¬ (194 ≤ k ∧ k < 205) → ¬ (1 ≤ k ∧ k < 35) → k ≠ 207 → A k = Vc k := fun k a b c d e => by rw [ak k e, vv k a b c d]
      refine ⟨.error 0, A, 0, B, ?_, ?_, ⟨?_, ?_, ?_, ?_, ?_, ?_, ?_⟩, fun k hk => av k (by omega) (by omega) (by omega) (by omega) (by omega), fun k hk => bo k (by omega) (by omega) (by omega) (by omega), Ans.er (c := 2) (by simp) (by decide) (by rw [hB, up_self])⟩
      · show f_X9_run Vc = _
        rw [ec, b1, f1', bs, z9, f_X6_keepOrder, bs, ← hA]
      · show f_X10_run Vm = _
        rw [em]
        have b2 : f_X10_run_b104 500 U1 0 = _ := b2
        have e1 : f_X10_run_b127 500 U2 (nI jj) r 0 = _ := e1
        rw [b2, e1, ← hB]
      · refine ⟨?_, (GG.cg (g := g) (by rw [hg]; exact h1.2) b9)⟩
        exact (s3.fr fun k a b => ak k (by omega)).cg b9
      · refine R2.fr ⟨c, G, c8, k1, k2, k3⟩ (fun k a b => av k (by omega) (by omega) (by omega) (by omega) (by omega)) ?_ (bo 212 (by decide) (by decide) (by decide) (by decide))
        rw [b8 5 (by decide) (by decide), y8 5 (by decide) (by decide) (by decide)]
      · refine h3.fr ?_ (fun k a b => av k (by omega) (by omega) (by omega) (by omega) (by omega)) ?_ (bo 211 (by decide) (by decide) (by decide) (by decide))
        · rw [ak 0 (by decide), v0' 3 (by decide)]
        · rw [b8 6 (by decide) (by decide), y8 6 (by decide) (by decide) (by decide)]
      · refine ⟨0, by decide, ?_, ?_, fun j hj => absurd hj (Nat.not_lt_zero j)⟩
        · rw [ak 192 (by decide), f2' 192 (by omega), up_at (by decide), b5 192 (by omega), w2 192 (by omega), up_self]
          rfl
        · rw [b8 10 (by decide) (by decide), b6.2 10 (by decide), a8.2 10 (by decide) (by decide) (by decide), u10]
          rfl
      · exact h5.fr (by rw [av 205 (by decide) (by decide) (by omega) (by omega) (by decide)]) (av 206 (by decide) (by decide) (by omega) (by omega) (by decide)) (by rw [b8 11 (by decide) (by decide), y8 11 (by decide) (by decide) (by decide)]) (bo 215 (by decide) (by decide) (by decide) (by decide))
      · refine ⟨?_, ?_, Or.inl ⟨?_, ?_, ?_, ?_⟩⟩
        · rw [hA, hB]
          simp [up_ev]
        · rw [hA, hB]
          simp [up_ev]
        · rw [hB]
          simp [up_ev]
        · rw [hB]
          simp [up_ev, b3]
        · rw [hA, hB]
          simp [up_ev]
        · rw [hA, hB]
          simp [up_ev, b4]
      · show A 0 10 = B 208 12
        rw [ak 0 (by decide), v0' 10 (by decide), b8 12 (by decide) (by decide), y8 12 (by decide) (by decide) (by decide)]
        exact h7
    · have y1 : ∀ k, k ≠ 208 → k ≠ 209 → U2 k = U1 k := b6.1
      have y8 : ∀ j, j ≠ 0 → j ≠ 10 → j < 17 → U2 208 j = Vm 208 j := fun j a b c => by rw [b6.2 j (Or.inl c), x8 j a b (by omega)]
      have y210 : ∀ q, q < 53 → U2 210 q = g q := fun q hq => by rw [y1 210 (by decide) (by decide), x1 210 (by decide) (by decide), r3 q hq, hg]
      have yk : ∀ k, k ≠ 208 → k ≠ 209 → k ≠ 210 → k ≠ 214 → U2 k = Vm k := fun k a b c d => by rw [y1 k a b, x1 k a d, wk k a c]
      have s18 : SR V2 18 g := wS.fr fun k a b => by rw [b5 k (by omega)]
      have vv : ∀ k, k ≠ 192 → ¬ (194 ≤ k ∧ k < 205) → ¬ (1 ≤ k ∧ k < 35) → V2 k = Vc k := fun k b c d => by rw [b5 k (by omega), wv k b c (by omega)]
      have kh : HRc V2 G c := k1.fr fun k a b => vv k (by omega) (by omega) (by omega)
      have mh : HRm U2 G c := k2.fr (y8 5 (by decide) (by decide) (by decide)) (yk 212 (by decide) (by decide) (by decide) (by decide))
      obtain ⟨V3, p1, p2, p3⟩ := push_c c8 kh s18 (by decide)
      obtain ⟨U3, q1, q2, q3, q4⟩ := chg_eq (g := g) c8 mh y210 (U2 208 24)
      have u24 : U2 208 24 = nI O := by rw [b6.2 24 (by decide), a5]
      have v25 : V3 192 5 = nI O := by rw [p2 192 (by omega), b5 192 (by omega), W5]
      have av : ∀ k, k ≠ 192 → ¬ (194 ≤ k ∧ k < 205) → ¬ (1 ≤ k ∧ k < 35) → ¬ (52 ≤ k ∧ k < 190) → V3 k = Vc k := fun k b c d e => by rw [p2 k (by omega), vv k b c d]
      have b8 : ∀ j, j ≠ 0 → j ≠ 5 → j ≠ 10 → j < 17 → U3 208 j = Vm 208 j := fun j a b c d => by rw [q3 j b, y8 j a c d]
      have bo : ∀ k, k ≠ 208 → k ≠ 209 → k ≠ 210 → k ≠ 212 → k ≠ 214 → U3 k = Vm k := fun k a b c d e => by rw [q2 k a d, yk k a b c e]
      refine ⟨.ok (nI O), V3, nI O, U3, ?_, ?_, ⟨?_, ?_, ?_, ?_, ?_, ?_, ?_⟩, fun k hk => av k (by omega) (by omega) (by omega) (by omega), fun k hk => bo k (by omega) (by omega) (by omega) (by omega) (by omega), Ans.ok ?_⟩
      · show f_X9_run Vc = _
        rw [ec, b1, p1, bs, v25]
      · show f_X10_run Vm = _
        rw [em]
        have b2 : f_X10_run_b104 500 U1 0 = _ := b2
        rw [b2, q1, bs, u24]
      · refine ⟨?_, ?_⟩
        · rw [q2 209 (by decide) (by decide)]
          exact b3.fr fun k a b => p2 k (Or.inl (by omega))
        · rw [q2 209 (by decide) (by decide)]
          exact b4
      · refine ⟨cp8 c, Gp G c g, ?_, p3, q4, fun j hj => ?_⟩
        · unfold cp8
          split <;> omega
        · unfold Gp
          unfold cp8 at hj
          by_cases q : c < 8
          · rw [if_pos q] at hj ⊢
            show GG (if j = c then _ else _)
            split
            · rw [hg]
              exact h1.2
            · exact k3 j (by omega)
          · rw [if_neg q] at hj ⊢
            show GG (if j = 7 then _ else _)
            split
            · rw [hg]
              exact h1.2
            · exact k3 (j + 1) (by omega)
      · exact h3.fr (by rw [av 0 (by decide) (by omega) (by omega) (by omega)]) (fun k a b => av k (by omega) (by omega) (by omega) (by omega)) (b8 6 (by decide) (by decide) (by decide) (by decide)) (bo 211 (by decide) (by decide) (by decide) (by decide) (by decide))
      · refine ⟨0, by decide, ?_, ?_, fun j hj => absurd hj (Nat.not_lt_zero j)⟩
        · rw [p2 192 (by omega), b5 192 (by omega), w2 192 (by omega), up_self]
          rfl
        · rw [q3 10 (by decide), b6.2 10 (by decide), a8.2 10 (by decide) (by decide) (by decide), u10]
          rfl
      · exact h5.fr (by rw [av 205 (by decide) (by omega) (by omega) (by omega)]) (av 206 (by decide) (by omega) (by omega) (by omega)) (b8 11 (by decide) (by decide) (by decide) (by decide)) (bo 215 (by decide) (by decide) (by decide) (by decide) (by decide))
      · exact h6.fr (av 207 (by decide) (by omega) (by omega) (by omega)) (fun j a b => b8 j (by omega) (by omega) (by omega) (by omega))
      · exact h7.fr (by rw [av 0 (by decide) (by omega) (by omega) (by omega)]) (b8 12 (by decide) (by decide) (by decide) (by decide))
      · rw [q3 0 (by decide), b6.2 0 (by decide), a8.2 0 (by decide) (by decide) (by decide), u80]
