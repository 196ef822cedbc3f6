/-! the best mending, the order, editors -/
theorem q_rr {fc : St → Option ((Except Nat Int32) × St)} {fm : St → Option (Int32 × St)} {L : List (Nat × Int32)} (h : ∀ Vc Vm, RR Vc Vm → ∃ res Vc1 a Vm1, fc Vc = some (res, Vc1) ∧ fm Vm = some (a, Vm1) ∧ F191 Vc Vc1 ∧ Fq Vm Vm1 ∧ Ans L res a (Vm1 208 0)) : SIM fc fm L := by
  intro Vc Vm hR
  obtain ⟨res, Vc1, a, Vm1, h1, h2, h3, h4, h5⟩ := h Vc Vm hR
  exact ⟨res, Vc1, a, Vm1, h1, h2, hR.qq h3 h4, fun k hk => h3 k (by omega), fun k hk => h4.1 k (by omega), h5⟩
theorem q_rro {f : St → Option (Except Nat Int32)} {fm : St → Option (Int32 × St)} {L : List (Nat × Int32)} (h : ∀ Vc Vm, RR Vc Vm → ∃ res a Vm1, f Vc = some res ∧ fm Vm = some (a, Vm1) ∧ Fq Vm Vm1 ∧ Ans L res a (Vm1 208 0)) : SIM (RO f) fm L :=
  q_rr fun Vc Vm a => by
    obtain ⟨res, x, Vm1, h1, h2, h3, h4⟩ := h Vc Vm a
    exact ⟨res, Vc, x, Vm1, by unfold RO; rw [h1, bs], h2, F191.rf _, h3, h4⟩
theorem s_bestMend (x1 x2 : Int32) : SIM (RO fun V => f_X9_bestMend V x1 x2) (fun V => f_X10_bestMend V x1 x2) [(1, 1), (2, 2)] := by
  refine q_ro fun Vc Vm hS hG => ?_
  rcases net_cs x1 with ⟨n, hn, rfl, a1, a2⟩ | ⟨a1, a2⟩
  · obtain ⟨V1, u1, u2, u3, u4, u5⟩ := lk (up Vm 208 0 0) hn
    rw [up_at (show 209 ≠ 208 by decide)] at u4 u5
    have hF : Fq Vm V1 := (Fq.t _ _).tr u2
    have h0 : V1 208 0 = 0 := u3.trans (up_self _ _ _ _)
    have hA : I24 (nA Vc (1 + 4 + n)) := by rw [hS.eA hn]; exact hG.k24 hn
    have hTA : Sub (Vc (1 + 4 + n) 2) RT := by rw [hS.2.1 n 2 hn (by decide)]; exact (hG.2.2.2 n hn).2.2.1
    have hTD : Sub (Vc (1 + 4 + n) 3) DN := by rw [hS.2.1 n 3 hn (by decide)]; exact (hG.2.2.2 n hn).2.2.2.1
    have hAm : I24 (V1 208 19) := by rw [u5.1]; exact hG.k24 hn
    have ja : ∀ p, p < 24 → f_X10_joins V1 (nI n) 2 (nI p) = some (mv (gA Vc (1 + 4 + n) p)) := by
      intro p hp
      rw [f_X10_joins, if_pos rfl, nI_1, jo_eq (row := 2) (q := p + 1) hp (by omega) ((of_eq V1 hn (show 2 < 5 by decide)).trans (by rw [u4])) hAm, u5.1, u5.2.1, u5.2.2]
      show _ = some (mv (fA (Vc (1 + 4 + n) 2) (nA Vc (1 + 4 + n)) (nR Vc (1 + 4 + n)) (nD Vc (1 + 4 + n)) p))
      rw [hS.2.1 n 2 hn (by decide), hS.eA hn, hS.eR hn, hS.eD hn]
      rfl
    have jd : ∀ p, p < 24 → f_X10_joins V1 (nI n) 3 (nI p) = some (mv (gD Vc (1 + 4 + n) p)) := by
      intro p hp
      rw [f_X10_joins, if_neg (by decide), show nI p + 6 = nI (p + 6) from nI_add p 6, jo_eq (row := 3) (q := p + 6) hp (by omega) ((of_eq V1 hn (show 3 < 5 by decide)).trans (by rw [u4])) hAm, u5.1, u5.2.1, u5.2.2]
      show _ = some (mv (fD (Vc (1 + 4 + n) 3) (nA Vc (1 + 4 + n)) (nR Vc (1 + 4 + n)) (nD Vc (1 + 4 + n)) p))
      rw [hS.2.1 n 3 hn (by decide), hS.eA hn, hS.eR hn, hS.eD hn]
      rfl
    have e := bm_eq (x2 := x2) (fa := gA Vc (1 + 4 + n)) (fd := gD Vc (1 + 4 + n)) (fun k => fA_le _ _ _ _ k) (fun k => fD_le _ _ _ _ k) ja jd
    have m1 : f_X10_bestMend Vm (nI n) x2 = f_X10_bestMend_b41 500 V1 (nI n) x2 (-1) (-1) 0 2 := by
      rw [f_X10_bestMend, a2, bs, if_neg (by decide), f_X10_bestMend_b13, up_self, if_pos (by decide), u1, bs]
    have c1 : f_X9_bestMend Vc (nI n) x2 = if (cb x2 (am (gA Vc (1 + 4 + n)) 24) (am (gD Vc (1 + 4 + n)) 24)).1 = -1 then some (.error 2) else some (.ok (cb x2 (am (gA Vc (1 + 4 + n)) 24) (am (gD Vc (1 + 4 + n)) 24)).1) := by
      rw [f_X9_bestMend, a1, bs, if_neg (by decide), net_eq _ _ hn, bs, bts_eq hA hTA hTD, bs]
    rw [m1, e, c1]
    by_cases z : (cb x2 (am (gA Vc (1 + 4 + n)) 24) (am (gD Vc (1 + 4 + n)) 24)).1 = -1
    · rw [if_pos z, if_pos z]
      exact ⟨.error 2, 0, up V1 208 0 2, rfl, rfl, hF.tr (Fq.t _ _), Ans.er (by simp) (by decide) (up_self _ _ _ _)⟩
    · rw [if_neg z, if_neg z]
      exact ⟨_, _, V1, rfl, rfl, hF, Ans.ok h0⟩
  · refine ⟨.error 1, 0, up Vm 208 0 1, ?_, ?_, Fq.t _ _, Ans.er (by simp) (by decide) (up_self _ _ _ _)⟩
    · rw [f_X9_bestMend, a1, bs, if_pos rfl]
    · rw [f_X10_bestMend, a2, bs, if_pos rfl, f_X10_bestMend_b13, up_self, if_neg (by decide)]
theorem s_ranked (x1 x2 : Int32) : SIM (RO fun V => f_X9_ranked V x1 x2) (fun V => f_X10_ranked V x1 x2) [(1, 1), (2, 2)] := by
  refine q_ro fun Vc Vm hS hG => ?_
  rcases net_cs x1 with ⟨n, hn, rfl, a1, a2⟩ | ⟨a1, a2⟩
  · obtain ⟨V1, u1, u2, u3, u4, u5⟩ := lk (up Vm 208 0 0) hn
    rw [up_at (show 209 ≠ 208 by decide)] at u4 u5
    have hF : Fq Vm V1 := (Fq.t _ _).tr u2
    have h0 : V1 208 0 = 0 := u3.trans (up_self _ _ _ _)
    have hA : I24 (nA Vc (1 + 4 + n)) := by rw [hS.eA hn]; exact hG.k24 hn
    have hAm : I24 (V1 208 19) := by rw [u5.1]; exact hG.k24 hn
    obtain ⟨L, h1, hL⟩ := ChL.get (bt (kA (Vm 209) n)) (bt (kR (Vm 209) n)) (bt (kD (Vm 209) n)) (hG.k24 hn)
    have hc : ChL (bt (nA Vc (1 + 4 + n))) (bt (nR Vc (1 + 4 + n))) (bt (nD Vc (1 + 4 + n))) (nA Vc (1 + 4 + n)) L := by
      rw [hS.eA hn, hS.eR hn, hS.eD hn]
      exact h1
    have hm : ChL (bt (V1 208 19)) (bt (V1 208 20)) (bt (V1 208 21)) (V1 208 19) L := by
      rw [u5.1, u5.2.1, u5.2.2]
      exact h1
    have m1 : f_X10_ranked Vm (nI n) x2 = f_X10_ranked_b36 500 V1 x2 (nI 24) := by
      rw [f_X10_ranked, a2, bs, if_neg (by decide), f_X10_ranked_b13, up_self, if_pos (by decide), u1, bs]
      rfl
    have mr := mr_out hAm hm 500 24 x2 (Nat.le_refl _) (by decide)
    have c0 : ∀ z, f_X3_chapterRanked Vc (1 + 4 + n) x2 = some z → f_X9_ranked Vc (nI n) x2 = if z = 0 then some (.error 2) else (f_X9_lowestPlace z).bind fun q6 => some (.ok q6) := fun z hz => by
      rw [f_X9_ranked, a1, bs, if_neg (by decide), net_eq _ _ hn, bs, hz, bs]
    have ln := sel_len L.length L rfl (ch_pos h1 (hG.k24 hn) Clo.all)
    rw [m1]
    cases e : pk x2 (selN 24 L) with
    | some C =>
      rw [e] at mr
      obtain ⟨p, hp, mp⟩ := mr
      obtain ⟨⟨j, j1, j2⟩, -⟩ := pk_some e
      have c1 := rk_eq (j := j) hA (by omega) hc
      rw [← j2, e] at c1
      rw [c0 C c1, if_neg hp.ne, lowP_eq hp, bs, mp]
      exact ⟨_, _, V1, rfl, rfl, hF, Ans.ok h0⟩
    | none =>
      rw [e] at mr
      have mp : f_X10_ranked_b36 500 V1 x2 (nI 24) = some (0, up V1 208 0 2) := mr
      have c1 : f_X3_chapterRanked Vc (1 + 4 + n) x2 = some 0 := by
        rcases rng x2 (n := 24) (by decide) with ⟨j, hj, rfl⟩ | h
        · rw [rk_eq hA hj hc, e]
          rfl
        · rw [f_X3_chapterRanked]
          by_cases z : x2 < 0
          · rw [if_pos z]
          · rw [if_neg z, if_neg (fun q => by
              have q1 := i_lt.mp q
              have q2 := not_lt0 z
              have q3 : (24 : Int32).toInt = 24 := rfl
              omega)]
      rw [c0 0 c1, if_pos rfl, mp]
      exact ⟨.error 2, 0, up V1 208 0 2, rfl, rfl, hF.tr (Fq.t _ _), Ans.er (by simp) (by decide) (up_self _ _ _ _)⟩
  · refine ⟨.error 1, 0, up Vm 208 0 1, ?_, ?_, Fq.t _ _, Ans.er (by simp) (by decide) (up_self _ _ _ _)⟩
    · rw [f_X9_ranked, a1, bs, if_pos rfl]
    · rw [f_X10_ranked, a2, bs, if_pos rfl, f_X10_ranked_b13, up_self, if_neg (by decide)]
theorem s_editorOf (x1 x2 : Int32) : SIM (RO fun V => f_X9_editorOf V x1 x2) (fun V => f_X10_editorOf V x1 x2) [(1, 1), (3, 2)] := by
  refine q_ro fun Vc Vm hS hG => ?_
  obtain ⟨m, m4, hm⟩ := hG.2.1
  have hV3 : Vc 1 3 = nI m := by rw [hS.1.2.1, hm]
  rcases cnt_cs x1 (n := m) (by omega) with ⟨e, he, rfl, d2⟩ | ⟨d2, d3⟩
  · have he4 : e < 4 := by omega
    have d1 := he_yes hV3 he (by omega)
    rcases rng x2 (n := 2) (by decide) with ⟨w, hw, rfl⟩ | h
    · have i1 : ((21 : Int32) + 2 * nI e) + nI w = nI (21 + 2 * e + w) := by rw [show (21 : Int32) = nI 21 from rfl, show (2 : Int32) = nI 2 from rfl, pk_mul, nI_add, nI_add]
      refine ⟨.ok (Vm 209 (21 + 2 * e + w)), _, up Vm 208 0 0, ?_, ?_, Fq.t _ _, Ans.ok (up_self _ _ _ _)⟩
      · have cw : w = 0 ∨ w = 1 := by omega
        rcases cw with rfl | rfl
        · rw [f_X9_editorOf, d1, bs, if_neg (by decide), if_pos (by decide), ed_eq _ _ he4, bs, hS.2.2.1 e 0 he4 (by decide)]
        · rw [f_X9_editorOf, d1, bs, if_neg (by decide), if_neg (by decide), if_pos (by decide), ed_eq _ _ he4, bs, hS.2.2.1 e 1 he4 (by decide)]
      · rw [f_X10_editorOf, hm, d2, bs, if_neg (by decide), in_yes (show (w : Int) ≤ 1 by omega) (by omega), bs, if_neg (by decide), f_X10_editorOf_b35, up_self, if_pos (by decide), i1, ix_nI (by omega) (by decide), bs, up_at (show 209 ≠ 208 by decide)]
    · refine ⟨.error 3, 0, up Vm 208 0 2, ?_, ?_, Fq.t _ _, Ans.er (by simp) (by decide) (up_self _ _ _ _)⟩
      · rw [f_X9_editorOf, d1, bs, if_neg (by decide), if_neg (fun z => by rw [z] at h; have q : (0 : Int32).toInt = 0 := rfl; omega), if_neg (fun z => by rw [z] at h; have q : (1 : Int32).toInt = 1 := rfl; omega)]
      · rw [f_X10_editorOf, hm, d2, bs, if_neg (by decide), in_no (by rcases h with h | h; exact Or.inl h; exact Or.inr (show (1 : Int) < x2.toInt by omega)), bs, if_pos rfl, f_X10_editorOf_b35, up_self, if_neg (by decide)]
  · refine ⟨.error 1, 0, up Vm 208 0 1, ?_, ?_, Fq.t _ _, Ans.er (by simp) (by decide) (up_self _ _ _ _)⟩
    · rw [f_X9_editorOf, he_no hV3 d3, bs, if_pos rfl]
    · rw [f_X10_editorOf, hm, d2, bs, if_pos rfl, f_X10_editorOf_b35, up_self, if_neg (by decide)]
/-! faults and reasons -/
/-! the tape's end, undo, the snapshot -/
theorem nar_i2c (y : Int32) : vp_nar .char (i2c y) = i2c y := by
  have h : ∀ z : UInt32, (z % 65536).toUInt16.toUInt32 = z % 65536 := fun z => UInt32.toNat_inj.mp (by simp)
  exact congrArg UInt32.toInt32 (h y.toUInt32)
theorem s_feed {x : Int32} (hx : vp_nar .char x = x) : SIM (fun V => f_X9_feed V x) (fun V => f_X10_feed V x) [(4, 1)] := by
  intro Vc Vm hR
  obtain ⟨h1, h2, h3, ⟨n, n1, n2, n3, n4⟩, h5, h6, h7⟩ := id hR
  by_cases e : n = 60
  · subst e
    refine ⟨.error 4, Vc, 0, up Vm 208 0 1, ?_, ?_, hR.qq (F191.rf _) (Fq.t _ _), fun _ _ => rfl, fun k hk => up_at (by omega), Ans.er (by simp) (by decide) (up_self _ _ _ _)⟩
    · show f_X9_feed Vc x = _
      rw [f_X9_feed, f_X7_isFull, n2, if_neg (by decide), bs, if_neg (by decide)]
    · show f_X10_feed Vm x = _
      rw [f_X10_feed, n3, if_pos (by decide), f_X10_feed_b15, up_self, if_neg (by decide)]
  · have hn : n < 60 := by omega
    refine ⟨.ok (nI (n + 1)), up (up Vc 193 n x) 192 1 (nI (n + 1)), nI (n + 1), up (up (up Vm 208 0 0) 213 n x) 208 10 (nI (n + 1)), ?_, ?_, ⟨?_, ?_, ?_, ?_, ?_, ?_, ?_⟩, fun k hk => ?_, fun k hk => ?_, ?_⟩
    · show f_X9_feed Vc x = _
      rw [f_X9_feed, f_X7_isFull, n2, if_pos (show nI n < (60 : Int32) from nI_lt (b := 60) hn (by decide)), bs, if_pos rfl, f_X7_append, n2, if_neg (nI_pos (by omega)), if_neg (show ¬ (60 : Int32) ≤ nI n from nI_ge (b := 60) hn (by decide)), ix_nI hn (by decide), bs, hx, up_at (show 192 ≠ 193 by decide), n2, nI_1, bs, up_self]
    · show f_X10_feed Vm x = _
      have e1 : (up Vm 208 0 0) 208 10 = nI n := by rw [up_ne _ (fun _ => by decide), n3]
      rw [f_X10_feed, n3, if_neg (fun q => by have := (nI_eq (a := n) (b := 60) (by omega) (by decide)).mp q; omega), f_X10_feed_b15, up_self, if_pos (by decide), e1, ix_nI hn (by decide), bs, up_at (show 208 ≠ 213 by decide), e1, nI_1, up_self]
    · exact h1.fr (fun k a b => by rw [up_at (by omega), up_at (by omega)]) (by rw [up_at (by decide), up_at (by decide), up_at (by decide)])
    · exact h2.fr (fun k a b => by rw [up_at (by omega), up_at (by omega)]) (by rw [up_ne _ (fun _ => by decide), up_at (by decide), up_ne _ (fun _ => by decide)]) (by rw [up_at (by decide), up_at (by decide), up_at (by decide)])
    · exact h3.fr (by rw [up_at (by decide), up_at (by decide)]) (fun k a b => by rw [up_at (by omega), up_at (by omega)]) (by rw [up_ne _ (fun _ => by decide), up_at (by decide), up_ne _ (fun _ => by decide)]) (by rw [up_at (by decide), up_at (by decide), up_at (by decide)])
    · refine ⟨n + 1, by omega, up_self _ _ _ _, up_self _ _ _ _, fun j hj => ?_⟩
      rw [up_at (show 193 ≠ 192 by decide), up_at (show 213 ≠ 208 by decide)]
      by_cases c : j = n
      · rw [c, up_self, up_self]
      · rw [up_ne _ (fun _ => c), up_ne _ (fun _ => c), up_at (show 213 ≠ 208 by decide), n4 j (by omega)]
    · exact h5.fr (by rw [up_at (by decide), up_at (by decide)]) (by rw [up_at (by decide), up_at (by decide)]) (by rw [up_ne _ (fun _ => by decide), up_at (by decide), up_ne _ (fun _ => by decide)]) (by rw [up_at (by decide), up_at (by decide), up_at (by decide)])
    · exact h6.fr (by rw [up_at (by decide), up_at (by decide)]) (fun j a b => by rw [up_ne _ (fun _ => by omega), up_at (by decide), up_ne _ (fun _ => by omega)])
    · exact h7.fr (by rw [up_at (by decide), up_at (by decide)]) (by rw [up_ne _ (fun _ => by decide), up_at (by decide), up_ne _ (fun _ => by decide)])
    · rw [up_at (by omega), up_at (by omega)]
    · rw [up_at (by omega), up_at (by omega), up_at (by omega)]
    · exact Ans.ok (by rw [up_ne _ (fun _ => by decide), up_at (by decide), up_self])
theorem un_loop {c : Nat} (hc : c < 8) : ∀ (n p : Nat) (V : St), V 208 5 = nI c → p ≤ 53 → 53 < n + p → (∀ q, q < p → V 209 q = V 212 (53 * c + q)) → ∃ V1, f_X10_undo_b30 n V (nI p) = some (nI c, V1) ∧ (∀ k, k ≠ 209 → V1 k = V k) ∧ ∀ q, q < 53 → V1 209 q = V 212 (53 * c + q)
  | 0, p, V, h5, h1, h2, _ => by omega
  | n + 1, p, V, h5, h1, h2, h => by
    rw [f_X10_undo_b30]
    by_cases e : p = 53
    · subst e
      rw [if_pos (show (53 : Int32) ≤ nI 53 by decide), h5]
      exact ⟨V, rfl, fun _ _ => rfl, h⟩
    · have hp : p < 53 := by omega
      have ee : (53 : Int32) * V 208 5 + nI p = nI (53 * c + p) := by rw [h5, show (53 : Int32) = nI 53 from rfl, pk_mul, nI_add]
      rw [if_neg (show ¬ (53 : Int32) ≤ nI p from nI_ge (b := 53) hp (by decide)), ee, ix_nI (by omega) (by decide), bs, ix_nI hp (by decide), bs, nI_1]
      obtain ⟨V1, g1, g2, g3⟩ := un_loop hc n (p + 1) (up V 209 p (V 212 (53 * c + p))) (by rw [up_at (show 208 ≠ 209 by decide), h5]) (by omega) (by omega) (fun q hq => by
        rw [up_at (show 212 ≠ 209 by decide)]
        by_cases z : q = p
        · rw [z, up_self]
        · rw [up_ne _ (fun _ => z), h q (by omega)])
      refine ⟨V1, g1, fun k hk => by rw [g2 k hk, up_at hk], fun q hq => ?_⟩
      rw [g3 q hq, up_at (show 212 ≠ 209 by decide)]
theorem s_undo : SIM (fun V => f_X9_undo V) (fun V => f_X10_undo V) [(4, 1)] := by
  intro Vc Vm hR
  obtain ⟨h1, ⟨c, G, c8, k1, k2, k3⟩, h3, h4, h5, h6, h7⟩ := id hR
  have kc : Vc 52 2 = nI c := by obtain ⟨o, -, -, a, -⟩ := k1; exact a
  have e5 : (up Vm 208 0 0) 208 5 = nI c := by rw [up_ne _ (fun _ => by decide), k2.1]
  cases c with
  | zero =>
    refine ⟨.error 4, Vc, 0, up (up Vm 208 0 0) 208 0 1, ?_, ?_, hR.qq (F191.rf _) ((Fq.t _ _).tr (Fq.t _ _)), fun _ _ => rfl, fun k hk => by rw [up_at (by omega), up_at (by omega)], Ans.er (by simp) (by decide) (up_self _ _ _ _)⟩
    · show f_X9_undo Vc = _
      rw [f_X9_undo, kc, if_pos (by decide)]
    · show f_X10_undo Vm = _
      rw [f_X10_undo, e5, if_pos (by decide)]
      rfl
  | succ c =>
    obtain ⟨V1, p1, p2, p3, p4⟩ := pop_c (s := 1) (by omega) k1 (by decide)
    have p5 : V1 52 2 = nI c := by obtain ⟨o, -, -, a, -⟩ := p3; exact a
    obtain ⟨V2, hV2⟩ : ∃ z, z = up (up Vm 208 0 0) 208 5 (nI c) := ⟨_, rfl⟩
    have w8 : ∀ j, j ≠ 0 → j ≠ 5 → V2 208 j = Vm 208 j := fun j a b => by rw [hV2, up_ne _ (fun _ => b), up_ne _ (fun _ => a)]
    have wo : ∀ k, k ≠ 208 → V2 k = Vm k := fun k a => by rw [hV2, up_at a, up_at a]
    obtain ⟨U, u1, u2, u3⟩ := un_loop (c := c) (by omega) 500 0 V2 (by rw [hV2, up_self]) (by decide) (by decide) (fun q hq => absurd hq (Nat.not_lt_zero q))
    have u8 : ∀ j, U 208 j = V2 208 j := fun j => by rw [u2 208 (by decide)]
    have eg : ∀ q, q < 53 → U 209 q = G c q := fun q hq => by rw [u3 q hq, wo 212 (by decide), k2.2 c q (by omega) hq]
    refine ⟨.ok (nI c), V1, nI c, U, ?_, ?_, ⟨?_, ?_, ?_, ?_, ?_, ?_, ?_⟩, fun k hk => p2 k (by omega) (by omega), fun k hk => ?_, ?_⟩
    · show f_X9_undo Vc = _
      rw [f_X9_undo, kc, if_neg (fun q => by have := (nI_eq (a := c + 1) (b := 0) (by omega) (by decide)).mp q; omega), p1, bs, p5]
    · show f_X10_undo Vm = _
      rw [f_X10_undo, e5, if_neg (fun q => by have := (nI_eq (a := c + 1) (b := 0) (by omega) (by decide)).mp q; omega), nI_pred, ← hV2]
      exact u1
    · exact ⟨p4.cg (fun q hq => eg q hq), (k3 c (by omega)).cg (fun q hq => eg q hq)⟩
    · refine ⟨c, G, by omega, p3, ⟨?_, fun j q hj hq => ?_⟩, fun j hj => k3 j (by omega)⟩
      · rw [u8, hV2, up_self]
      · rw [u2 212 (by decide), wo 212 (by decide), k2.2 j q (by omega) hq]
    · exact h3.fr (by rw [p2 0 (by decide) (by omega)]) (fun k a b => p2 k (by omega) (by omega)) (by rw [u8, w8 6 (by decide) (by decide)]) (by rw [u2 211 (by decide), wo 211 (by decide)])
    · exact h4.fr (by rw [p2 192 (by decide) (by omega)]) (p2 193 (by decide) (by omega)) (by rw [u8, w8 10 (by decide) (by decide)]) (by rw [u2 213 (by decide), wo 213 (by decide)])
    · exact h5.fr (by rw [p2 205 (by decide) (by omega)]) (p2 206 (by decide) (by omega)) (by rw [u8, w8 11 (by decide) (by decide)]) (by rw [u2 215 (by decide), wo 215 (by decide)])
    · exact h6.fr (p2 207 (by decide) (by omega)) (fun j a b => by rw [u8, w8 j (by omega) (by omega)])
    · exact h7.fr (by rw [p2 0 (by decide) (by omega)]) (by rw [u8, w8 12 (by decide) (by decide)])
    · rw [u2 k (by omega), wo k (by omega)]
    · exact Ans.ok (by rw [u8, hV2, up_ne _ (fun _ => by decide), up_self])
