/-! the other orders -/
theorem ends_cs (x1 x2 x3 : Int32) : (∃ n p q, n < 3 ∧ p < 24 ∧ q < 24 ∧ x1 = nI n ∧ x2 = nI p ∧ x3 = nI q ∧ (∀ V, f_X9_reasonAgainstEnds V x1 x2 x3 = some (0, V)) ∧ f_X10_isNet x1 = some 1 ∧ f_X10_isPlace x2 = some 1 ∧ f_X10_isPlace x3 = some 1) ∨
    (∃ d, (∀ V, f_X9_reasonAgainstEnds V x1 x2 x3 = some (2, up V 0 9 d)) ∧ (∀ V, f_X10_tears V x1 x2 x3 = some (2, up V 208 17 d)) ∧ ∀ V x4, f_X10_mends V x1 x2 x3 x4 = some (2, up V 208 17 d)) := by
  rcases net_cs x1 with ⟨n, hn, h1, a1, a2⟩ | ⟨a1, a2⟩
  · rcases pl_cs x2 with ⟨p, hp, h2, b1, b2⟩ | ⟨b1, b2⟩
    · rcases pl_cs x3 with ⟨q, hq, h3, c1, c2⟩ | ⟨c1, c2⟩
      · refine Or.inl ⟨n, p, q, hn, hp, hq, h1, h2, h3, fun V => ?_, a2, b2, c2⟩
        rw [f_X9_reasonAgainstEnds, a1, bs, if_neg (by decide), b1, bs, if_neg (by decide), c1, bs, if_neg (by decide)]
      · refine Or.inr ⟨x3, fun V => ?_, fun V => ?_, fun V x4 => ?_⟩
        · rw [f_X9_reasonAgainstEnds, a1, bs, if_neg (by decide), b1, bs, if_neg (by decide), c1, bs, if_pos rfl]
          rfl
        · rw [f_X10_tears, a2, bs, if_neg (by decide), b2, bs, if_neg (by decide), c2, bs, if_pos rfl]
          rfl
        · rw [f_X10_mends, a2, bs, if_neg (by decide), b2, bs, if_neg (by decide), c2, bs, if_pos rfl]
          rfl
    · refine Or.inr ⟨x2, fun V => ?_, fun V => ?_, fun V x4 => ?_⟩
      · rw [f_X9_reasonAgainstEnds, a1, bs, if_neg (by decide), b1, bs, if_pos rfl]
        rfl
      · rw [f_X10_tears, a2, bs, if_neg (by decide), b2, bs, if_pos rfl]
        rfl
      · rw [f_X10_mends, a2, bs, if_neg (by decide), b2, bs, if_pos rfl]
        rfl
  · refine Or.inr ⟨x1, fun V => ?_, fun V => ?_, fun V x4 => ?_⟩
    · rw [f_X9_reasonAgainstEnds, a1, bs, if_pos rfl]
      rfl
    · rw [f_X10_tears, a2, bs, if_pos rfl]
      rfl
    · rw [f_X10_mends, a2, bs, if_pos rfl]
      rfl
theorem row_cs {p q : Nat} (h : rw2 p q ≠ 0) : rw2 p q = 2 ∨ rw2 p q = 3 := by
  unfold rw2 at h ⊢
  split
  · exact Or.inl rfl
  · split
    · exact Or.inr rfl
    · rename_i h1 h2
      rw [if_neg h1, if_neg h2] at h
      exact absurd rfl h
theorem min_lt {p q : Nat} (hp : p < 24) : min p q < 24 := Nat.lt_of_le_of_lt (Nat.min_le_left p q) hp
theorem tornB (V : St) (k : Nat) {p q : Nat} (hp : p < 24) (hq : q < 24) (h : rw2 p q ≠ 0) : f_X3_isTornBetween V k (nI p) (nI q) = some (bI (bt (V k (rw2 p q)) (min p q))) := by
  obtain ⟨-, -, h3, -, h5, -⟩ := (st_fin ⟨p, hp⟩ ⟨q, hq⟩).2 h
  have hm := min_lt (q := q) hp
  rcases row_cs h with e | e
  · rw [f_X3_isTornBetween, h3, bs, e, if_neg (by decide), f_X3_isTornBetween_b19, h5, isIn_eq _ (by omega), bs, nr_b, bs]
  · rw [f_X3_isTornBetween, h3, bs, e, if_pos (by decide), f_X3_isTornBetween_b19, h5, isIn_eq _ (by omega), bs, nr_b, bs]
theorem putS (V : St) (k : Nat) {p q : Nat} (hp : p < 24) (hq : q < 24) (h : rw2 p q ≠ 0) (b : Bool) : f_X3_putString V k (nI p) (nI q) (bI b) = some (up V k (rw2 p q) (wi (V k (rw2 p q)) (nI (min p q)) b)) := by
  obtain ⟨-, -, h3, -, h5, -⟩ := (st_fin ⟨p, hp⟩ ⟨q, hq⟩).2 h
  rcases row_cs h with e | e
  · rw [f_X3_putString, h3, bs, e, if_neg (by decide), h5, wi_c, bs]
  · rw [f_X3_putString, h3, bs, e, if_pos (by decide), h5, wi_c, bs]
/-- what class and model say against a string -/
theorem rs_cs {Vc : St} {g : Nat → Int32} (hS : SR Vc 1 g) {n p q : Nat} (hn : n < 3) (hp : p < 24) (hq : q < 24) (b : Bool) :
    (rw2 p q = 0 ∧ f_X9_reasonAgainstString Vc (nI n) (nI p) (nI q) (bI b) = some (5, up Vc 0 9 (nI q)) ∧ f_X10_stringFor (nI p) (nI q) = some (-1)) ∨
    (rw2 p q ≠ 0 ∧ f_X10_stringFor (nI p) (nI q) = some (nI (rw2 p q)) ∧ f_X9_reasonAgainstString Vc (nI n) (nI p) (nI q) (bI b) = if bt (g (6 + 5 * n + rw2 p q)) (min p q) = b then some (0, Vc) else some (4, up Vc 0 9 ((nI p + nI q) - nI (min p q)))) := by
  by_cases h : rw2 p q = 0
  · obtain ⟨h1, h2⟩ := (st_fin ⟨p, hp⟩ ⟨q, hq⟩).1 h
    refine Or.inl ⟨h, ?_, h2⟩
    rw [f_X9_reasonAgainstString, h1, bs, if_pos rfl]
    rfl
  · obtain ⟨h1, h2, -, -, -, h6, -⟩ := (st_fin ⟨p, hp⟩ ⟨q, hq⟩).2 h
    refine Or.inr ⟨h, h2, ?_⟩
    have hr : rw2 p q < 5 := by rcases row_cs h with e | e <;> omega
    rw [f_X9_reasonAgainstString, h1, bs, if_neg (by decide), net_eq _ _ hn, bs, tornB _ _ hp hq h, bs, hS.2.1 n _ hn hr]
    by_cases c : bt (g (6 + 5 * n + rw2 p q)) (min p q) = b
    · rw [if_pos c, c, if_pos rfl]
    · rw [if_neg c, if_neg (fun e => c (by
        cases z : bt (g (6 + 5 * n + rw2 p q)) (min p q) <;> cases b <;> simp_all [bI]))]
      rw [← h6]
      rfl
theorem op_tear {Vc Vm : St} (hS : SR Vc 1 (Vm 209)) (hG : GG (Vm 209)) (x1 x2 x3 : Int32) : OP Vc Vm (f_X9_reasonAgainstTear Vc x1 x2 x3) (f_X8_tearString Vc 1 x1 x2 x3) (f_X10_tears Vm x1 x2 x3) (fun V => (f_X8_netNumbered V 1 x1).bind fun q => f_X3_countChapters V q) := by
  rcases ends_cs x1 x2 x3 with ⟨n, p, q, hn, hp, hq, rfl, rfl, rfl, e1, a2, b2, c2⟩ | ⟨d, e1, e2, -⟩
  · obtain ⟨g, hg⟩ : ∃ g, g = Vm 209 := ⟨_, rfl⟩
    rw [← hg] at hS hG
    rcases rs_cs hS hn hp hq false with ⟨h, r1, r2⟩ | ⟨h, r2, r1⟩
    · refine OP.no 5 (nI q) (by decide) (by decide) ?_ ?_
      · rw [f_X9_reasonAgainstTear, e1, bs, if_pos rfl]
        have r1 : f_X9_reasonAgainstString Vc (nI n) (nI p) (nI q) 0 = some (5, up Vc 0 9 (nI q)) := r1
        rw [r1, bs]
      · rw [f_X10_tears, a2, bs, if_neg (by decide), b2, bs, if_neg (by decide), c2, bs, if_neg (by decide), r2, bs, if_pos rfl]
        rfl
    · have hr : rw2 p q < 5 := by rcases row_cs h with e | e <;> omega
      have hm := min_lt (q := q) hp
      obtain ⟨T, hT⟩ : ∃ T, T = g (6 + 5 * n + rw2 p q) := ⟨_, rfl⟩
      have rm1 : f_X10_tears Vm (nI n) (nI p) (nI q) = f_X10_tears_b72 Vm (nI n) (nI p) (nI q) (nI (rw2 p q)) (nI (min p q)) := by
        rw [f_X10_tears, a2, bs, if_neg (by decide), b2, bs, if_neg (by decide), c2, bs, if_neg (by decide), r2, bs, if_neg (by rcases row_cs h with e | e <;> rw [e] <;> decide)]
        exact low_m hp hq (fun z => f_X10_tears_b72 Vm (nI n) (nI p) (nI q) (nI (rw2 p q)) z)
      have r1 : f_X9_reasonAgainstString Vc (nI n) (nI p) (nI q) 0 = _ := r1
      rw [← hT] at r1
      cases z : bt T (min p q)
      · rw [z, if_pos rfl] at r1
        obtain ⟨T1, hT1⟩ : ∃ T1, T1 = wi T (nI (min p q)) true := ⟨_, rfl⟩
        obtain ⟨-, -, -, -, -, -, h7⟩ := (st_fin ⟨p, hp⟩ ⟨q, hq⟩).2 h
        have hN := hG.2.2.2 n hn
        have hG1 : GG (upd (upd g (6 + 5 * n + rw2 p q) T1) 3 (g 3 + 1)) := by
          refine (hG.net hn hr (fun h9 => ?_) (fun h9 => ?_) (fun h9 => ?_) (fun h9 => ?_)).oth (by decide) _
          · rcases row_cs h with e | e <;> omega
          · rw [h9] at hT
            rw [hT1, hT]
            rcases h7 with ⟨-, h8⟩ | ⟨h8, -⟩
            · exact wi_sub hN.2.2.1 hm (fun _ => h8)
            · have h8 : rw2 p q = 3 := h8
              omega
          · rw [h9] at hT
            rw [hT1, hT]
            rcases h7 with ⟨h8, -⟩ | ⟨-, h8⟩
            · have h8 : rw2 p q = 2 := h8
              omega
            · exact wi_sub hN.2.2.2.1 hm (fun _ => h8)
          · rcases row_cs h with e | e <;> omega
        have hS1 : SR (up (up Vc (1 + 4 + n) (rw2 p q) T1) 1 6 (g 3 + 1)) 1 (upd (upd g (6 + 5 * n + rw2 p q) T1) 3 (g 3 + 1)) := (hS.net hn hr T1).fld (by decide) _
        obtain ⟨V2, v1, v2, v3, v4, v5, v6⟩ := look_eq (up (up Vm 209 (6 + 5 * n + rw2 p q) T1) 209 3 (g 3 + 1)) hn
        have g2 : V2 209 = upd (upd g (6 + 5 * n + rw2 p q) T1) 3 (g 3 + 1) := by rw [v2 209 (by decide), up_me, up_me, hg]
        rw [up_me, up_me, ← hg] at v4 v5 v6
        refine Or.inr ⟨up (up Vc (1 + 4 + n) (rw2 p q) T1) 1 6 (g 3 + 1), up V2 208 18 (nI (nch (upd (upd g (6 + 5 * n + rw2 p q) T1) 3 (g 3 + 1)) n)), ?_, ?_, ?_, ?_, ?_, ?_, ?_, ?_⟩
        · rw [f_X9_reasonAgainstTear, e1, bs, if_pos rfl]
          show (f_X9_reasonAgainstString Vc (nI n) (nI p) (nI q) 0).bind _ = _
          rw [r1, bs]
        · rw [f_X8_tearString, net_eq _ _ hn, bs]
          have := putS Vc (1 + 4 + n) hp hq h true
          have this : f_X3_putString Vc (1 + 4 + n) (nI p) (nI q) 1 = _ := this
          rw [this, bs, hS.2.1 n _ hn hr, ← hT, ← hT1, up_ne _ (fun h => by omega), hS.1.2.2.2.1]
        · have m1 := wi_m Vm hn hr (nI (min p q)) true
          have m1 : f_X10_sets Vm (nI n) (nI (rw2 p q)) (nI (min p q)) 1 = _ := m1
          rw [rm1, f_X10_tears_b72, of_eq _ hn hr, bs, ← hg, ← hT, if_neg (fun e => by rw [(b_tst1 T (by omega)).mp e] at z; cases z), m1, bs, ← hg, ← hT, ← hT1, up_me, pk_un (by omega), ← hg, v1, bs, pc_s ⟨v4, v5, v6⟩ hG1 hn, bs]
          rfl
        · rw [up_at (show 209 ≠ 208 by decide), g2]
          exact hS1
        · rw [up_at (show 209 ≠ 208 by decide), g2]
          exact hG1
        · exact ((Out.rf 1 Vc).up (by omega)).up (by omega)
        · exact (((Fm.s Vm _ _).tr (Fm.s _ _ _)).tr (Fm.look v2 v3)).tr (Fm.d _ (by decide) _)
        · show (f_X8_netNumbered _ 1 (nI n)).bind _ = _
          rw [net_eq _ _ hn, bs, cc_s hS1 hG1 hn, up_self]
      · rw [z, if_neg (by decide)] at r1
        refine OP.no 4 ((nI p + nI q) - nI (min p q)) (by decide) (by decide) ?_ ?_
        · rw [f_X9_reasonAgainstTear, e1, bs, if_pos rfl]
          show (f_X9_reasonAgainstString Vc (nI n) (nI p) (nI q) 0).bind _ = _
          rw [r1, bs]
        · rw [rm1, f_X10_tears_b72, of_eq _ hn hr, bs, ← hg, ← hT, if_pos ((b_tst1 T (by omega)).mpr z)]
          rfl
  · refine OP.no 2 d (by decide) (by decide) ?_ (e2 Vm)
    rw [f_X9_reasonAgainstTear, e1, bs, if_neg (by show ¬ (2 : Int32) = 0; decide)]
theorem op_mend {Vc Vm : St} (hS : SR Vc 1 (Vm 209)) (hG : GG (Vm 209)) (x1 x2 x3 x4 : Int32) : OP Vc Vm (f_X9_reasonAgainstMend Vc x1 x2 x3 x4) (f_X8_mendString Vc 1 x1 x2 x3 x4) (f_X10_mends Vm x1 x2 x3 x4) (fun V => (f_X8_editorNumbered V 1 x4).bind fun q => some (V q 0)) := by
  rcases ends_cs x1 x2 x3 with ⟨n, p, q, hn, hp, hq, rfl, rfl, rfl, e1, a2, b2, c2⟩ | ⟨d, e1, -, e2⟩
  · obtain ⟨g, hg⟩ : ∃ g, g = Vm 209 := ⟨_, rfl⟩
    rw [← hg] at hS hG
    obtain ⟨m, hm4, hm⟩ := hG.2.1
    have hV3 : Vc 1 3 = nI m := by rw [hS.1.2.1, hm]
    have hg1 : Vm 209 1 = nI m := by rw [← hg, hm]
    rcases cnt_cs x4 (n := m) (by omega) with ⟨e, he, rfl, d2⟩ | ⟨d2, d3⟩
    · have d1 := he_yes hV3 he (by omega)
      have he4 : e < 4 := by omega
      rcases rs_cs hS hn hp hq true with ⟨h, r1, r2⟩ | ⟨h, r2, r1⟩
      · refine OP.no 5 (nI q) (by decide) (by decide) ?_ ?_
        · have r1 : f_X9_reasonAgainstString Vc (nI n) (nI p) (nI q) 1 = some (5, up Vc 0 9 (nI q)) := r1
          rw [f_X9_reasonAgainstMend, e1, bs, if_pos rfl]
          show (f_X8_hasEditor Vc 1 (nI e)).bind _ = _
          rw [d1, bs, if_neg (by decide)]
          show (f_X9_reasonAgainstString Vc (nI n) (nI p) (nI q) 1).bind _ = _
          rw [r1, bs, if_neg (by show ¬ (5 : Int32) = 0; decide)]
        · rw [f_X10_mends, a2, bs, if_neg (by decide), b2, bs, if_neg (by decide), c2, bs, if_neg (by decide), hg1, d2, bs, if_neg (by decide), r2, bs, if_pos rfl]
          rfl
      · have hr : rw2 p q < 5 := by rcases row_cs h with e | e <;> omega
        have hmn := min_lt (q := q) hp
        obtain ⟨T, hT⟩ : ∃ T, T = g (6 + 5 * n + rw2 p q) := ⟨_, rfl⟩
        obtain ⟨tw, htw⟩ : ∃ tw : Int32, tw = if rw2 p q = 2 then 1 else 2 := ⟨_, rfl⟩
        obtain ⟨-, -, -, h4, -, -, h7⟩ := (st_fin ⟨p, hp⟩ ⟨q, hq⟩).2 h
        have h4 : f_X9_twineFor (nI p) (nI q) = some tw := by rw [htw]; exact h4
        have rm1 : f_X10_mends Vm (nI n) (nI p) (nI q) (nI e) = f_X10_mends_b97 Vm (nI n) (nI p) (nI q) (nI e) (nI (rw2 p q)) (nI (min p q)) := by
          rw [f_X10_mends, a2, bs, if_neg (by decide), b2, bs, if_neg (by decide), c2, bs, if_neg (by decide), hg1, d2, bs, if_neg (by decide), r2, bs, if_neg (by rcases row_cs h with e | e <;> rw [e] <;> decide)]
          exact low_m hp hq (fun z => f_X10_mends_b97 Vm (nI n) (nI p) (nI q) (nI e) (nI (rw2 p q)) z)
        have r1 : f_X9_reasonAgainstString Vc (nI n) (nI p) (nI q) 1 = _ := r1
        rw [← hT] at r1
        have rc1 : ∀ o, f_X9_reasonAgainstString Vc (nI n) (nI p) (nI q) 1 = o → f_X9_reasonAgainstMend Vc (nI n) (nI p) (nI q) (nI e) = o.bind fun q5 => if q5.1 = 0 then (f_X8_editorNumbered q5.2 1 (nI e)).bind fun q7 => (f_X9_twineFor (nI p) (nI q)).bind fun q8 => if q8 ≤ (q5.2 q7 0) then some (0, q5.2) else (f_X9_found q5.2 6 (q5.2 q7 0)).bind fun q10 => some (q10.1, q10.2) else some (q5.1, q5.2) := by
          intro o ho
          rw [f_X9_reasonAgainstMend, e1, bs, if_pos rfl]
          show (f_X8_hasEditor Vc 1 (nI e)).bind _ = _
          rw [d1, bs, if_neg (by decide)]
          show (f_X9_reasonAgainstString Vc (nI n) (nI p) (nI q) 1).bind _ = _
          rw [ho]
        cases z : bt T (min p q)
        · rw [z, if_neg (by decide)] at r1
          refine OP.no 4 ((nI p + nI q) - nI (min p q)) (by decide) (by decide) ?_ ?_
          · rw [rc1 _ r1, bs, if_neg (by show ¬ (4 : Int32) = 0; decide)]
          · rw [rm1, f_X10_mends_b97, of_eq _ hn hr, bs, ← hg, ← hT, if_pos ((b_tst T (by omega)).mpr z)]
            rfl
        · rw [z, if_pos rfl] at r1
          have i1 : (21 : Int32) + 2 * nI e = nI (21 + 2 * e) := by rw [show (21 : Int32) = nI 21 from rfl, show (2 : Int32) = nI 2 from rfl, pk_mul, nI_add]
          have rm2 : f_X10_mends_b97 Vm (nI n) (nI p) (nI q) (nI e) (nI (rw2 p q)) (nI (min p q)) = f_X10_mends_b137 Vm (nI n) (nI e) (nI (rw2 p q)) (nI (min p q)) tw := by
            rw [f_X10_mends_b97, of_eq _ hn hr, bs, ← hg, ← hT, if_neg (fun q => by rw [(b_tst T (by omega)).mp q] at z; cases z), htw]
            rcases row_cs h with e | e
            · rw [e, if_pos (by decide), if_pos rfl]
            · rw [e, if_neg (by decide), if_neg (by decide)]
          obtain ⟨t0, ht0⟩ : ∃ t0, t0 = g (21 + 2 * e + 0) := ⟨_, rfl⟩
          have hc0 : Vc (1 + 7 + e) 0 = t0 := by rw [hS.2.2.1 e 0 he4 (by decide), ht0]
          have hm0 : Vm 209 (21 + 2 * e) = t0 := by rw [← hg, ht0, Nat.add_zero]
          by_cases ct : tw ≤ t0
          · obtain ⟨T1, hT1⟩ : ∃ T1, T1 = wi T (nI (min p q)) false := ⟨_, rfl⟩
            obtain ⟨m0, hm9⟩ : ∃ m0, m0 = g (21 + 2 * e + 1) := ⟨_, rfl⟩
            have hN := hG.2.2.2 n hn
            have hG1 : GG (upd (upd (upd (upd (upd g (6 + 5 * n + rw2 p q) T1) (21 + 2 * e + 0) (t0 - tw)) (21 + 2 * e + 1) (m0 + 1)) 4 (g 4 + 1)) 5 (g 5 + tw)) := by
              refine ((((hG.net hn hr (fun h9 => ?_) (fun h9 => ?_) (fun h9 => ?_) (fun h9 => ?_)).oth (by omega) _).oth (by omega) _).oth (by decide) _).oth (by decide) _
              · rcases row_cs h with e | e <;> omega
              · rw [h9] at hT
                rw [hT1, hT]
                exact wi_sub hN.2.2.1 hmn (fun h => by cases h)
              · rw [h9] at hT
                rw [hT1, hT]
                exact wi_sub hN.2.2.2.1 hmn (fun h => by cases h)
              · rcases row_cs h with e | e <;> omega
            have hS1 : SR (up (up (up (up (up Vc (1 + 4 + n) (rw2 p q) T1) (1 + 7 + e) 0 (t0 - tw)) (1 + 7 + e) 1 (m0 + 1)) 1 7 (g 4 + 1)) 1 8 (g 5 + tw)) 1 (upd (upd (upd (upd (upd g (6 + 5 * n + rw2 p q) T1) (21 + 2 * e + 0) (t0 - tw)) (21 + 2 * e + 1) (m0 + 1)) 4 (g 4 + 1)) 5 (g 5 + tw)) := ((((hS.net hn hr T1).ed he4 (by decide) _).ed he4 (by decide) _).fld (by decide) _).fld (by decide) _
            refine Or.inr ⟨up (up (up (up (up Vc (1 + 4 + n) (rw2 p q) T1) (1 + 7 + e) 0 (t0 - tw)) (1 + 7 + e) 1 (m0 + 1)) 1 7 (g 4 + 1)) 1 8 (g 5 + tw), up (up (up (up (up (up Vm 209 (6 + 5 * n + rw2 p q) T1) 209 (21 + 2 * e + 0) (t0 - tw)) 209 (21 + 2 * e + 1) (m0 + 1)) 209 4 (g 4 + 1)) 209 5 (g 5 + tw)) 208 18 (t0 - tw), ?_, ?_, ?_, ?_, ?_, ?_, ?_, ?_⟩
            · rw [rc1 _ r1, bs, if_pos rfl, ed_eq _ _ he4, bs, h4, bs]
              show (if tw ≤ Vc (1 + 7 + e) 0 then _ else _) = _
              rw [hc0, if_pos ct]
            · have p0 := putS Vc (1 + 4 + n) hp hq h false
              have p0 : f_X3_putString Vc (1 + 4 + n) (nI p) (nI q) 0 = _ := p0
              rw [f_X8_mendString, h4, bs, net_eq _ _ hn, bs, p0, bs, hS.2.1 n _ hn hr, ← hT, ← hT1, ed_eq _ _ he4, bs, ed_eq _ _ he4, bs]
              have s0 : (up Vc (1 + 4 + n) (rw2 p q) T1) (1 + 7 + e) 0 = t0 := by rw [up_ne _ (fun h => by omega), hc0]
              rw [s0]
              have s1 : ∀ x, (up (up Vc (1 + 4 + n) (rw2 p q) T1) (1 + 7 + e) 0 x) (1 + 7 + e) 1 = m0 := fun x => by rw [up_ne _ (fun _ => by decide), up_ne _ (fun h => by omega), hS.2.2.1 e 1 he4 (by decide), hm9]
              rw [s1]
              have s2 : ∀ x y, (up (up (up Vc (1 + 4 + n) (rw2 p q) T1) (1 + 7 + e) 0 x) (1 + 7 + e) 1 y) 1 7 = g 4 := fun x y => by rw [up_ne _ (fun h => by omega), up_ne _ (fun h => by omega), up_ne _ (fun h => by omega), hS.1.2.2.2.2.1]
              rw [s2]
              have s3 : ∀ x y z, (up (up (up (up Vc (1 + 4 + n) (rw2 p q) T1) (1 + 7 + e) 0 x) (1 + 7 + e) 1 y) 1 7 z) 1 8 = g 5 := fun x y z => by rw [up_ne _ (fun h => by decide), up_ne _ (fun h => by omega), up_ne _ (fun h => by omega), up_ne _ (fun h => by omega), hS.1.2.2.2.2.2]
              rw [s3]
            · have m1 := wi_m Vm hn hr (nI (min p q)) false
              have m1 : f_X10_sets Vm (nI n) (nI (rw2 p q)) (nI (min p q)) 0 = _ := m1
              rw [rm1, rm2, f_X10_mends_b137, i1, nI_1, ix_nI (by omega) (by decide), bs, hm0, if_pos ct, m1, bs, ← hg, ← hT, ← hT1, bs, ix_nI (by omega) (by decide), bs, bs]
              have s1 : ∀ x, (up (up Vm 209 (6 + 5 * n + rw2 p q) T1) 209 (21 + 2 * e) x) 209 (21 + 2 * e + 1) = m0 := fun x => by rw [up_ne _ (fun _ => by omega), up_ne _ (fun h => by omega), ← hg, hm9]
              rw [s1]
              have s2 : ∀ x y, (up (up (up Vm 209 (6 + 5 * n + rw2 p q) T1) 209 (21 + 2 * e) x) 209 (21 + 2 * e + 1) y) 209 4 = g 4 := fun x y => by rw [up_ne _ (fun h => by omega), up_ne _ (fun h => by omega), up_ne _ (fun h => by omega), ← hg]
              rw [s2]
              have s3 : ∀ x y z, (up (up (up (up Vm 209 (6 + 5 * n + rw2 p q) T1) 209 (21 + 2 * e) x) 209 (21 + 2 * e + 1) y) 209 4 z) 209 5 = g 5 := fun x y z => by rw [up_ne _ (fun h => by decide), up_ne _ (fun h => by omega), up_ne _ (fun h => by omega), up_ne _ (fun h => by omega), ← hg]
              rw [s3]
              rfl
            · rw [up_at (show 209 ≠ 208 by decide), up_me, up_me, up_me, up_me, up_me, ← hg]
              exact hS1
            · rw [up_at (show 209 ≠ 208 by decide), up_me, up_me, up_me, up_me, up_me, ← hg]
              exact hG1
            · exact (((((Out.rf 1 Vc).up (by omega)).up (by omega)).up (by omega)).up (by omega)).up (by omega)
            · exact (((((Fm.s Vm _ _).tr (Fm.s _ _ _)).tr (Fm.s _ _ _)).tr (Fm.s _ _ _)).tr (Fm.s _ _ _)).tr (Fm.d _ (by decide) _)
            · show (f_X8_editorNumbered _ 1 (nI e)).bind _ = _
              rw [ed_eq _ _ he4, bs, up_self, up_ne _ (fun h => by omega), up_ne _ (fun h => by omega), up_ne _ (fun _ => by decide), up_self]
          · refine OP.no 6 t0 (by decide) (by decide) ?_ ?_
            · rw [rc1 _ r1, bs, if_pos rfl, ed_eq _ _ he4, bs, h4, bs]
              show (if tw ≤ Vc (1 + 7 + e) 0 then _ else (f_X9_found Vc 6 (Vc (1 + 7 + e) 0)).bind _) = _
              rw [hc0, if_neg ct]
              rfl
            · rw [rm1, rm2, f_X10_mends_b137, i1, ix_nI (by omega) (by decide), bs, hm0, if_neg ct]
              rfl
    · refine OP.no 2 x4 (by decide) (by decide) ?_ ?_
      · rw [f_X9_reasonAgainstMend, e1, bs, if_pos rfl]
        show (f_X8_hasEditor Vc 1 x4).bind _ = _
        rw [he_no hV3 d3, bs, if_pos rfl]
        rfl
      · rw [f_X10_mends, a2, bs, if_neg (by decide), b2, bs, if_neg (by decide), c2, bs, if_neg (by decide), hg1, d2, bs, if_pos rfl]
        rfl
  · refine OP.no 2 d (by decide) (by decide) ?_ (e2 Vm x4)
    rw [f_X9_reasonAgainstMend, e1, bs, if_neg (by show ¬ (2 : Int32) = 0; decide)]
