/-! the snapshot -/
theorem sv_loop : ∀ (n p : Nat) (V : St), p ≤ 53 → 53 < n + p → (∀ q, q < p → V 211 q = V 209 q) → ∃ V1, f_X10_save_b7 n V (nI p) = some (V 209 2, up V1 208 6 1) ∧ (∀ k, k ≠ 211 → V1 k = V k) ∧ ∀ q, q < 53 → V1 211 q = V 209 q
  | 0, p, V, h1, h2, _ => by omega
  | n + 1, p, V, h1, h2, h => by
    rw [f_X10_save_b7]
    by_cases e : p = 53
    · subst e
      rw [if_pos (show (53 : Int32) ≤ nI 53 by decide), up_at (show 209 ≠ 208 by decide)]
      exact ⟨V, rfl, fun _ _ => rfl, h⟩
    · have hp : p < 53 := by omega
      rw [if_neg (show ¬ (53 : Int32) ≤ nI p from nI_ge (b := 53) hp (by decide)), ix_nI hp (by decide), bs, bs, nI_1]
      obtain ⟨V1, g1, g2, g3⟩ := sv_loop n (p + 1) (up V 211 p (V 209 p)) (by omega) (by omega) (fun q hq => by
        rw [up_at (show 209 ≠ 211 by decide)]
        by_cases z : q = p
        · rw [z, up_self]
        · rw [up_ne _ (fun _ => z), h q (by omega)])
      rw [up_at (show 209 ≠ 211 by decide)] at g1 g3
      exact ⟨V1, g1, fun k hk => by rw [g2 k hk, up_at hk], g3⟩
theorem rs_loop : ∀ (n p : Nat) (V : St), p ≤ 53 → 53 < n + p → (∀ q, q < p → V 209 q = V 211 q) → ∃ V1, f_X10_restore_b20 n V (nI p) = some (V 211 2, up V1 208 5 0) ∧ (∀ k, k ≠ 209 → V1 k = V k) ∧ ∀ q, q < 53 → V1 209 q = V 211 q
  | 0, p, V, h1, h2, _ => by omega
  | n + 1, p, V, h1, h2, h => by
    rw [f_X10_restore_b20]
    by_cases e : p = 53
    · subst e
      rw [if_pos (show (53 : Int32) ≤ nI 53 by decide), up_at (show 209 ≠ 208 by decide), h 2 (by decide)]
      exact ⟨V, rfl, fun _ _ => rfl, h⟩
    · have hp : p < 53 := by omega
      rw [if_neg (show ¬ (53 : Int32) ≤ nI p from nI_ge (b := 53) hp (by decide)), ix_nI hp (by decide), bs, bs, nI_1]
      obtain ⟨V1, g1, g2, g3⟩ := rs_loop n (p + 1) (up V 209 p (V 211 p)) (by omega) (by omega) (fun q hq => by
        rw [up_at (show 211 ≠ 209 by decide)]
        by_cases z : q = p
        · rw [z, up_self]
        · rw [up_ne _ (fun _ => z), h q (by omega)])
      rw [up_at (show 211 ≠ 209 by decide)] at g1 g3
      exact ⟨V1, g1, fun k hk => by rw [g2 k hk, up_at hk], g3⟩
theorem t_save {V : St} (hR : RR V V) : ∃ V1, k_33 V = some V1 ∧ RR V1 V1 := by
  obtain ⟨h1, h2, h3, h4, h5, h6, h7⟩ := id hR
  obtain ⟨W, w1, w2, w3⟩ := cf_eq V (a := 35) (b := 1) (by decide)
  have wS := w3 _ h1.1
  obtain ⟨Z, hZ⟩ : ∃ z, z = up W 0 3 1 := ⟨_, rfl⟩
  have z4 : Z 35 4 = V 209 2 := by rw [hZ, up_at (by decide), wS.1.2.2.1]
  have zk : ∀ k, ¬ (35 ≤ k ∧ k < 52) → k ≠ 0 → Z k = V k := fun k a b => by rw [hZ, up_at b, w2 k (by omega)]
  have z0 : ∀ j, j ≠ 3 → Z 0 j = V 0 j := fun j hj => by rw [hZ, up_ne _ (fun _ => hj), w2 0 (by omega)]
  have m9 : Z 209 = V 209 := zk 209 (by omega) (by decide)
  obtain ⟨Y, hY⟩ : ∃ y, y = up Z 208 0 0 := ⟨_, rfl⟩
  have y9 : Y 209 = V 209 := by rw [hY, up_at (by decide), m9]
  obtain ⟨U, u1, u2, u3⟩ := sv_loop 500 0 Y (by decide) (by decide) (fun q hq => absurd hq (Nat.not_lt_zero q))
  rw [y9] at u1 u3
  have uk : ∀ k, k ≠ 208 → k ≠ 211 → up U 208 6 1 k = Z k := fun k a b => by rw [up_at a, u2 k b, hY, up_at a]
  have u8 : ∀ j, j ≠ 0 → j ≠ 6 → up U 208 6 1 208 j = V 208 j := fun j a b => by rw [up_ne _ (fun _ => b), u2 208 (by decide), hY, up_ne _ (fun _ => a), zk 208 (by omega) (by decide)]
  have uv : ∀ k, k ≠ 208 → k ≠ 211 → ¬ (35 ≤ k ∧ k < 52) → k ≠ 0 → up U 208 6 1 k = V k := fun k a b c d => by rw [uk k a b, zk k c d]
  refine ⟨up U 208 6 1, ?_, ?_, ?_, ?_, ?_, ?_, ?_, ?_⟩
  · rw [k_33, f_X9_save, w1, bs, ← hZ, bs]
    show ((f_X10_save Z).bind fun q2 => if Z 35 4 = q2.1 then some q2.2 else none) = _
    rw [f_X10_save, ← hY]
    rw [show (0 : Int32) = nI 0 from rfl, u1, bs, z4, if_pos rfl]
  · exact h1.fr (fun k a b => uv k (by omega) (by omega) (by omega) (by omega)) (uv 209 (by decide) (by decide) (by omega) (by decide))
  · exact h2.fr (fun k a b => uv k (by omega) (by omega) (by omega) (by omega)) (u8 5 (by decide) (by decide)) (uv 212 (by decide) (by decide) (by omega) (by decide))
  · refine Or.inr ⟨?_, up_self _ _ _ _, V 209, ?_, h1.2, fun q hq => ?_⟩
    · rw [uk 0 (by decide) (by decide), hZ, up_self]
    · refine wS.fr fun k a b => ?_
      rw [uk k (by omega) (by omega), hZ, up_at (by omega)]
    · rw [up_at (by decide), u3 q hq]
  · exact h4.fr (by rw [uv 192 (by decide) (by decide) (by omega) (by decide)]) (uv 193 (by decide) (by decide) (by omega) (by decide)) (u8 10 (by decide) (by decide)) (uv 213 (by decide) (by decide) (by omega) (by decide))
  · exact h5.fr (by rw [uv 205 (by decide) (by decide) (by omega) (by decide)]) (uv 206 (by decide) (by decide) (by omega) (by decide)) (u8 11 (by decide) (by decide)) (uv 215 (by decide) (by decide) (by omega) (by decide))
  · exact h6.fr (uv 207 (by decide) (by decide) (by omega) (by decide)) (fun j a b => u8 j (by omega) (by omega))
  · exact h7.fr (by rw [uk 0 (by decide) (by decide), z0 10 (by decide)]) (u8 12 (by decide) (by decide))
theorem s_restore : SIM (fun V => f_X9_restore V) (fun V => f_X10_restore V) [(4, 1)] := by
  intro Vc Vm hR
  obtain ⟨h1, h2, h3, h4, h5, h6, h7⟩ := id hR
  have e6 : (up Vm 208 0 0) 208 6 = Vm 208 6 := up_ne _ (fun _ => by decide)
  rcases h3 with ⟨a1, a2⟩ | ⟨a1, a2, g, a3, a4, a5⟩
  · refine ⟨.error 4, Vc, 0, up (up Vm 208 0 0) 208 0 1, ?_, ?_, hR.qq (F191.rf _) ((Fq.t _ _).tr (Fq.t _ _)), fun _ _ => rfl, fun k hk => by rw [up_at (by omega), up_at (by omega)], Ans.er (by simp) (by decide) (up_self _ _ _ _)⟩
    · show f_X9_restore Vc = _
      rw [f_X9_restore, a1, if_pos rfl]
    · show f_X10_restore Vm = _
      rw [f_X10_restore, e6, a2, if_pos rfl]
      rfl
  · obtain ⟨W, w1, w2, w3⟩ := cf_eq Vc (a := 1) (b := 35) (by decide)
    have wS := w3 _ a3
    obtain ⟨Y, hY⟩ : ∃ y, y = up Vm 208 0 0 := ⟨_, rfl⟩
    have yk : ∀ k, k ≠ 208 → Y k = Vm k := fun k a => by rw [hY, up_at a]
    have y8 : ∀ j, j ≠ 0 → Y 208 j = Vm 208 j := fun j a => by rw [hY, up_ne _ (fun _ => a)]
    obtain ⟨U, u1, u2, u3⟩ := rs_loop 500 0 Y (by decide) (by decide) (fun q hq => absurd hq (Nat.not_lt_zero q))
    have eg : ∀ q, q < 53 → up U 208 5 0 209 q = g q := fun q hq => by rw [up_at (show 209 ≠ 208 by decide), u3 q hq, yk 211 (by decide), a5 q hq]
    have uk : ∀ k, k ≠ 208 → k ≠ 209 → up U 208 5 0 k = Vm k := fun k a b => by rw [up_at a, u2 k b, yk k a]
    have u8 : ∀ j, j ≠ 0 → j ≠ 5 → up U 208 5 0 208 j = Vm 208 j := fun j a b => by rw [up_ne _ (fun _ => b), u2 208 (by decide), y8 j a]
    have wk : ∀ k, ¬ (1 ≤ k ∧ k < 18) → k ≠ 52 → up W 52 2 0 k = Vc k := fun k a b => by rw [up_at b, w2 k (by omega)]
    obtain ⟨c, G, c8, ⟨o, o1, o2, o3, o4⟩, k2, k3⟩ := h2
    refine ⟨.ok (g 2), up W 52 2 0, g 2, up U 208 5 0, ?_, ?_, ⟨?_, ?_, ?_, ?_, ?_, ?_, ?_⟩, fun k hk => wk k (by omega) (by omega), fun k hk => uk k (by omega) (by omega), ?_⟩
    · show f_X9_restore Vc = _
      rw [f_X9_restore, a1, if_neg (by decide), w1, bs]
      show some (Except.ok (up W 52 2 0 1 4), up W 52 2 0) = _
      rw [up_at (show 1 ≠ 52 by decide), wS.1.2.2.1]
    · show f_X10_restore Vm = _
      rw [f_X10_restore, e6, a2, if_neg (by decide), ← hY, show (0 : Int32) = nI 0 from rfl, u1, yk 211 (by decide), a5 2 (by decide)]
      rfl
    · refine ⟨?_, a4.cg eg⟩
      exact (wS.fr fun k a b => up_at (by omega)).cg eg
    · refine ⟨0, G, by decide, ⟨o, o1, ?_, up_self _ _ _ _, fun j hj => absurd hj (Nat.not_lt_zero j)⟩, ⟨up_self _ _ _ _, fun j q hj _ => absurd hj (Nat.not_lt_zero j)⟩, fun j hj => absurd hj (Nat.not_lt_zero j)⟩
      rw [up_ne _ (fun _ => by decide), w2 52 (by omega), o2]
    · refine Or.inr ⟨?_, ?_, g, ?_, a4, fun q hq => ?_⟩
      · rw [wk 0 (by omega) (by decide), a1]
      · rw [u8 6 (by decide) (by decide), a2]
      · exact a3.fr fun k a b => wk k (by omega) (by omega)
      · rw [uk 211 (by decide) (by decide), a5 q hq]
    · exact h4.fr (by rw [wk 192 (by omega) (by decide)]) (wk 193 (by omega) (by decide)) (u8 10 (by decide) (by decide)) (uk 213 (by decide) (by decide))
    · exact h5.fr (by rw [wk 205 (by omega) (by decide)]) (wk 206 (by omega) (by decide)) (u8 11 (by decide) (by decide)) (uk 215 (by decide) (by decide))
    · exact h6.fr (wk 207 (by omega) (by decide)) (fun j a b => u8 j (by omega) (by omega))
    · exact h7.fr (by rw [wk 0 (by omega) (by decide)]) (u8 12 (by decide) (by decide))
    · exact Ans.ok (by rw [up_ne _ (fun _ => by decide), u2 208 (by decide), hY, up_self])
theorem c128 {c : Nat} (h : c < 128) : vp_nar .char (nI c) = nI c ∧ i2c (nI c) = nI c := by
  have : ∀ c : Fin 128, vp_nar .char (nI c.val) = nI c.val ∧ i2c (nI c.val) = nI c.val := by decide +kernel
  exact this ⟨c, h⟩
theorem nr_ch {c : Nat} (h : c < 128) : nr .char (nI c) = some (nI c) := if_pos (c128 h).1
theorem s_character (x1 : Int32) : SIM (RO fun V => f_X9_character V x1) (fun V => f_X10_character V x1) [(1, 1)] := by
  refine q_rro fun Vc Vm hR => ?_
  obtain ⟨n, n1, n2, n3, n4⟩ := hR.2.2.2.2.1
  rcases cnt_cs x1 (n := n) (by omega) with ⟨j, hj, rfl, d2⟩ | ⟨d2, d3⟩
  · obtain ⟨c, c1, c2, c3⟩ := n4 j hj
    have hi : f_X2_hasIndex Vc (nI j) = some 1 := by
      rw [f_X2_hasIndex, if_neg (nI_pos (by omega)), n2, if_neg (nI_ge hj (by omega)), if_neg (show ¬ (25 : Int32) ≤ nI j from nI_ge (b := 25) (by omega) (by decide))]
    refine ⟨.ok (nI c), nI c, up Vm 208 0 0, ?_, ?_, Fq.t _ _, Ans.ok (up_self _ _ _ _)⟩
    · rw [f_X9_character, hi, bs, if_neg (by decide), f_X2_at, hi, bs, if_neg (by decide), ix_nI (show j < 25 by omega) (by decide), bs, c2, nr_ch c1, bs, bs, nr_ch c1, bs]
    · rw [f_X10_character, n3, d2, bs, if_neg (by decide), f_X10_character_b20, up_self, if_pos (by decide), ix_nI (show j < 60 by omega) (by decide), bs, up_at (show 215 ≠ 208 by decide), c3, (c128 c1).2, nr_ch c1, bs]
  · refine ⟨.error 1, 0, up Vm 208 0 1, ?_, ?_, Fq.t _ _, Ans.er (by simp) (by decide) (up_self _ _ _ _)⟩
    · rw [f_X9_character, f_X2_hasIndex, n2]
      by_cases z : x1 < 0
      · rw [if_pos z, bs, if_pos rfl]
      · rw [if_neg z, if_pos (d3.resolve_left z), bs, if_pos rfl]
    · rw [f_X10_character, n3, d2, bs, if_pos rfl, f_X10_character_b20, up_self, if_neg (by decide)]
