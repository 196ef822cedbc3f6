/-! a chapter hangs together -/
theorem comp_hang {A R D : Int32} {p : Nat} {C : Int32} (hA : I24 A) (hp : bt A p = true) (hR : Sub R RT) (hD : Sub D DN) (h : Cmp (bt A) (bt R) (bt D) p C) : Hang C := by
  have hC := ch_I24 hA hp h
  have hp24 := hA.lt hp
  have hCp : bt C p = true := (h p (by omega)).mpr (con.rf p)
  have key : ∀ q, bt C q = true → con (bt C) (bt RT) (bt DN) p q := by
    intro q hq
    have hq24 := hC.lt hq
    have c := (h q (by omega)).mp hq
    refine (c (fun r => con (bt A) (bt R) (bt D) p r ∧ con (bt C) (bt RT) (bt DN) p r) ⟨con.rf p, con.rf p⟩ ?_).2
    rintro a b ⟨h1, h2⟩ hb e
    have hb24 := hA.lt hb
    have h3 := h1.st hb e
    exact ⟨h3, h2.st ((h b (by omega)).mpr h3) (adj_sub hR hD a b e)⟩
  refine ⟨hC, (fun e => by rw [e, b_0] at hCp; cases hCp), fun a b ha hb => ?_⟩
  exact ((key a ha).sy hCp).tr (key b hb)
theorem SR.note {V : St} {B : Nat} {g : Nat → Int32} (h : SR V B g) {m : Nat} (hm : m < 6) (hg : g 2 = nI m) (x c y z : Int32) :
    SR (up (up (up (up V (B + 11 + m) 0 x) (B + 11 + m) 1 y) (B + 11 + m) 2 z) B 4 (nI (m + 1))) B (upd (upd (upd (upd (upd g (29 + 4 * m) x) (29 + 4 * m + 1) c) (29 + 4 * m + 2) y) (29 + 4 * m + 3) z) 2 (nI (m + 1))) := by
  obtain ⟨⟨h1, h2, h3, h4, h5, h6⟩, hN, hE, hO⟩ := h
  have eg : ∀ i, i ≠ 2 → (i < 29 + 4 * m ∨ 29 + 4 * m + 3 < i) → upd (upd (upd (upd (upd g (29 + 4 * m) x) (29 + 4 * m + 1) c) (29 + 4 * m + 2) y) (29 + 4 * m + 3) z) 2 (nI (m + 1)) i = g i := fun i i1 i2 => by
    rw [pk_un i1, pk_un (by omega), pk_un (by omega), pk_un (by omega), pk_un (by omega)]
  have eV : ∀ k i, (k = B → i ≠ 4) → k ≠ B + 11 + m → (up (up (up (up V (B + 11 + m) 0 x) (B + 11 + m) 1 y) (B + 11 + m) 2 z) B 4 (nI (m + 1))) k i = V k i := fun k i i1 i2 => by
    rw [up_ne _ i1, up_at i2, up_at i2, up_at i2]
  refine ⟨⟨?_, ?_, ?_, ?_, ?_, ?_⟩, fun n w a b => ?_, fun e w a b => ?_, fun k a b => ?_⟩
  · rw [eV _ _ (fun _ => by decide) (by omega), eg _ (by decide) (by omega), h1]
  · rw [eV _ _ (fun _ => by decide) (by omega), eg _ (by decide) (by omega), h2]
  · rw [up_self, pk_us]
  · rw [eV _ _ (fun _ => by decide) (by omega), eg _ (by decide) (by omega), h4]
  · rw [eV _ _ (fun _ => by decide) (by omega), eg _ (by decide) (by omega), h5]
  · rw [eV _ _ (fun _ => by decide) (by omega), eg _ (by decide) (by omega), h6]
  · rw [eV _ _ (fun h => by omega) (by omega), eg _ (by omega) (by omega), hN n w a b]
  · rw [eV _ _ (fun h => by omega) (by omega), eg _ (by omega) (by omega), hE e w a b]
  · rw [pk_us, nI_clamp (by omega)] at b
    by_cases e : k = m
    · subst e
      refine ⟨?_, ?_, ?_⟩
      · rw [up_ne _ (fun h => by omega), up_ne _ (fun _ => by decide), up_ne _ (fun _ => by decide), up_self, pk_un (by omega), pk_un (by omega), pk_un (by omega), pk_un (by omega), pk_us]
      · rw [up_ne _ (fun h => by omega), up_ne _ (fun _ => by decide), up_self, pk_un (by omega), pk_un (by omega), pk_us]
      · rw [up_ne _ (fun h => by omega), up_self, pk_un (by omega), pk_us]
    · rw [eV _ _ (fun h => by omega) (by omega), eV _ _ (fun h => by omega) (by omega), eV _ _ (fun h => by omega) (by omega), eg _ (by omega) (by omega), eg _ (by omega) (by omega), eg _ (by omega) (by omega)]
      exact hO k a (by rw [hg, nI_clamp (by omega)]; omega)
theorem GG.note {g : Nat → Int32} (h : GG g) {m n : Nat} (hm : m < 6) (hg : g 2 = nI m) (hn : n < 3) {c y z : Int32} (hc : c = y ||| z) (hh : Hang c) :
    GG (upd (upd (upd (upd (upd g (29 + 4 * m) (nI n)) (29 + 4 * m + 1) c) (29 + 4 * m + 2) y) (29 + 4 * m + 3) z) 2 (nI (m + 1))) := by
  obtain ⟨⟨t, t1, t2⟩, ⟨d, d1, d2⟩, ⟨m9, m1, m2, m3⟩, hN⟩ := h
  have : m9 = m := (nI_eq (by omega) (by omega)).mp (m2.symm.trans hg)
  subst this
  refine ⟨⟨t, t1, ?_⟩, ⟨d, d1, ?_⟩, ⟨m9 + 1, by omega, pk_us, fun k hk => ?_⟩, fun n' hn' => ?_⟩
  · rw [pk_un (by omega), pk_un (by omega), pk_un (by omega), pk_un (by omega), pk_un (by omega), t2]
  · rw [pk_un (by omega), pk_un (by omega), pk_un (by omega), pk_un (by omega), pk_un (by omega), d2]
  · by_cases e : k = m9
    · subst e
      refine ⟨n, hn, ?_, ?_, ?_⟩
      · rw [pk_un (by omega), pk_un (by omega), pk_un (by omega), pk_un (by omega), pk_us]
      · rw [pk_un (by omega), pk_un (by omega), pk_un (by omega), pk_us, pk_un (by omega), pk_un (by omega), pk_us, pk_un (by omega), pk_us, hc]
      · rw [pk_un (by omega), pk_un (by omega), pk_un (by omega), pk_us]
        exact hh
    · exact (((((m3 k (by omega)).un (by omega)).un (by omega)).un (by omega)).un (by omega)).un (by omega)
  · exact (((((hN n' hn').un (by omega)).un (by omega)).un (by omega)).un (by omega)).un (by omega)
theorem nt_end (V : St) {m : Nat} (hm : m < 6) (n C y z : Int32) : f_X10_notes_b91 1 V n C y z (nI m) (nI m) = some (0, up (up (up (up (up (up V 209 (29 + 4 * m) n) 209 (29 + 4 * m + 1) C) 209 (29 + 4 * m + 2) y) 209 (29 + 4 * m + 3) z) 209 2 (nI (m + 1))) 208 18 (nI m)) := by
  have i1 : (29 : Int32) + 4 * nI m = nI (29 + 4 * m) := by rw [show (29 : Int32) = nI 29 from rfl, show (4 : Int32) = nI 4 from rfl, pk_mul, nI_add]
  rw [f_X10_notes_b91, if_pos (nI_le (Nat.le_refl _) (by omega)), if_neg (fun q => by have := (nI_eq (a := m) (b := 6) (by omega) (by decide)).mp q; omega), i1, nI_1, show nI (29 + 4 * m) + 2 = nI (29 + 4 * m + 2) from nI_add _ 2, show nI (29 + 4 * m) + 3 = nI (29 + 4 * m + 3) from nI_add _ 3, ix_nI (by omega) (by decide), bs, ix_nI (by omega) (by decide), bs, ix_nI (by omega) (by decide), bs, ix_nI (by omega) (by decide), bs, nI_1]
  rfl
theorem op_note {Vc Vm : St} (hS : SR Vc 1 (Vm 209)) (hG : GG (Vm 209)) (x1 x2 : Int32) : OP Vc Vm (f_X9_reasonAgainstNote Vc x1 x2) (f_X8_addNote Vc 1 x1 x2) (f_X10_notes Vm x1 x2) (fun V => some (V 1 4 - 1)) := by
  obtain ⟨g, hg⟩ : ∃ g, g = Vm 209 := ⟨_, rfl⟩
  rw [← hg] at hS hG
  obtain ⟨m, hm6, hm, -⟩ := hG.2.2.1
  have hV4 : Vc 1 4 = nI m := by rw [hS.1.2.2.1, hm]
  rcases net_cs x1 with ⟨n, hn, rfl, a1, a2⟩ | ⟨a1, a2⟩
  · rcases pl_cs x2 with ⟨p, hp, rfl, b1, b2⟩ | ⟨b1, b2⟩
    · have hN := hG.2.2.2 n hn
      obtain ⟨C, c1, c2, c3, c4⟩ := chap_any (V := Vc) (k := 1 + 4 + n) hp (by rw [hS.eA hn]; exact hG.k24 hn)
      rw [hS.eA hn, hS.eR hn, hS.eD hn] at c4
      rw [hS.eA hn] at c3
      have hk : f_X10_kind Vm (nI n) (nI p) = some (kv (bt (g (6 + 5 * n)) p) (bt (g (6 + 5 * n + 1)) p)) := by rw [kd_m _ hn hp, ← hg]
      have kk : kv (bt (g (6 + 5 * n)) p) (bt (g (6 + 5 * n + 1)) p) = 0 ↔ bt (kA g n) p = false := by
        rw [kv_0]
        unfold kA
        rw [b_or, Bool.or_eq_false_iff]
      cases e : bt (kA g n) p
      · refine OP.no 7 (nI p) (by decide) (by decide) ?_ ?_
        · rw [f_X9_reasonAgainstNote, a1, bs, if_neg (by decide), b1, bs, if_neg (by decide), net_eq _ _ hn, bs, c1, bs, if_pos (c3 e)]
          rfl
        · rw [f_X10_notes, a2, bs, if_neg (by decide), b2, bs, if_neg (by decide), hk, bs, if_pos (kk.mpr e)]
          rfl
      · obtain ⟨c5, c6⟩ := c4 e
        obtain ⟨V2, v1, v2, v3, v4, v5, v6⟩ := look_eq Vm hn
        have g2 : V2 209 = g := by rw [v2 209 (by decide), hg]
        rw [← hg] at v4 v5 v6
        obtain ⟨C2, d1, d2, -⟩ := tog_eq (V := V2) (A := V2 208 19) hp (by rw [v4]; exact hG.k24 hn) (by rw [v4]; exact e)
        rw [v4, v5, v6] at d2
        cases c5.one d2
        have hfin : f_X10_notes Vm (nI n) (nI p) = f_X10_notes_b91 500 V2 (nI n) C (g (6 + 5 * n) &&& C) (g (6 + 5 * n + 1) &&& C) (nI m) 0 := by
          rw [f_X10_notes, a2, bs, if_neg (by decide), b2, bs, if_neg (by decide), hk, bs, if_neg (fun q => by rw [kk.mp q] at e; cases e), v1, bs, d1, bs, show (0 : Int32) = nI 0 from rfl, of_eq _ hn (by decide), bs, show (1 : Int32) = nI 1 from rfl, of_eq _ hn (by decide), bs, g2, hm]
          rfl
        have hCs : Sub C (kA g n) := fun i hi => by
          have hi24 := c2.lt hi
          exact con.inA ((c5 i (by omega)).mp hi) e
        have L1 := nt_loop (V := V2) (by rw [g2]; exact hG) hm6 (by rw [g2]; exact hm) hn (C := C) (by rw [g2]; exact hCs) 500 0 (by omega) (by omega)
        rw [g2] at L1
        rcases lw_loop hS hm6 hm hn C 500 0 (by omega) (by omega) with ⟨k, k1, k2, k3, k4, k5⟩ | ⟨k1, k2⟩
        · have k5 : f_X8_lowestNoteOf Vc 1 (nI n) C = some (nI k) := k5
          refine Or.inl ⟨8, nI k, up V2 208 17 (nI k), by decide, by decide, ?_, ?_, up_self _ _ _ _, ?_, (Fm.look v2 v3).tr (Fm.d _ (by decide) _)⟩
          · rw [f_X9_reasonAgainstNote, a1, bs, if_neg (by decide), b1, bs, if_neg (by decide), net_eq _ _ hn, bs, c1, bs, if_neg c6, k5, bs, if_neg (fun q => by
              have : ∀ k : Fin 6, ¬ nI k.val = -1 := by decide +kernel
              exact this ⟨k, by omega⟩ q)]
            rfl
          · rw [hfin]
            exact L1.1 k k1 k2 k3 k4
          · rw [up_at (show 209 ≠ 208 by decide), g2, hg]
        · have k2 : f_X8_lowestNoteOf Vc 1 (nI n) C = some (-1) := k2
          have hend : f_X10_notes Vm (nI n) (nI p) = _ := hfin.trans (L1.2 k1)
          by_cases e6 : m = 6
          · subst e6
            refine Or.inl ⟨1, 6, up V2 208 17 6, by decide, by decide, ?_, ?_, up_self _ _ _ _, ?_, (Fm.look v2 v3).tr (Fm.d _ (by decide) _)⟩
            · rw [f_X9_reasonAgainstNote, a1, bs, if_neg (by decide), b1, bs, if_neg (by decide), net_eq _ _ hn, bs, c1, bs, if_neg c6, k2, bs, if_pos rfl, hV4, if_neg (by decide)]
              rfl
            · rw [hend, f_X10_notes_b91, if_pos (by decide), if_pos (by decide)]
              rfl
            · rw [up_at (show 209 ≠ 208 by decide), g2, hg]
          · have hm5 : m < 6 := by omega
            rw [nt_end V2 hm5] at hend
            have hlh : C = (g (6 + 5 * n) &&& C) ||| (g (6 + 5 * n + 1) &&& C) := by
              refine b_iff fun z _ => ?_
              rw [b_or, b_and, b_and]
              constructor
              · intro h
                have := hCs z h
                unfold kA at this
                rw [b_or] at this
                rw [h, Bool.and_true, Bool.and_true]
                exact this
              · intro h
                cases q : bt C z
                · rw [q] at h
                  simp at h
                · rfl
            have hS1 := hS.note hm5 hm (nI n) C (g (6 + 5 * n) &&& C) (g (6 + 5 * n + 1) &&& C)
            have hG1 := hG.note hm5 hm hn hlh (comp_hang (hG.k24 hn) e wh_sub wh_sub c5)
            refine Or.inr ⟨up (up (up (up Vc (1 + 11 + m) 0 (nI n)) (1 + 11 + m) 1 (g (6 + 5 * n) &&& C)) (1 + 11 + m) 2 (g (6 + 5 * n + 1) &&& C)) 1 4 (nI (m + 1)), _, ?_, ?_, hend, ?_, ?_, ?_, ?_, ?_⟩
            · rw [f_X9_reasonAgainstNote, a1, bs, if_neg (by decide), b1, bs, if_neg (by decide), net_eq _ _ hn, bs, c1, bs, if_neg c6, k2, bs, if_pos rfl, hV4, if_pos (show nI m < (6 : Int32) from nI_lt (b := 6) hm5 (by decide))]
            · rw [f_X8_addNote, net_eq _ _ hn, bs, c1, bs, hV4, no_eq _ _ hm5, bs]
              have s0 : ∀ x, (up Vc (1 + 11 + m) 0 x) (1 + 4 + n) 0 = g (6 + 5 * n) := fun x => by rw [up_at (by omega), hS.2.1 n 0 hn (by decide), Nat.add_zero]
              rw [s0]
              have s1 : ∀ x y, (up (up Vc (1 + 11 + m) 0 x) (1 + 11 + m) 1 y) (1 + 4 + n) 1 = g (6 + 5 * n + 1) := fun x y => by rw [up_at (by omega), up_at (by omega), hS.2.1 n 1 hn (by decide)]
              rw [s1]
              have s2 : ∀ x y z, (up (up (up Vc (1 + 11 + m) 0 x) (1 + 11 + m) 1 y) (1 + 11 + m) 2 z) 1 4 = nI m := fun x y z => by rw [up_at (by omega), up_at (by omega), up_at (by omega), hV4]
              rw [s2, nI_1]
            · rw [up_at (show 209 ≠ 208 by decide), up_me, up_me, up_me, up_me, up_me, g2]
              exact hS1
            · rw [up_at (show 209 ≠ 208 by decide), up_me, up_me, up_me, up_me, up_me, g2]
              exact hG1
            · exact ((((Out.rf 1 Vc).up (by omega)).up (by omega)).up (by omega)).up (by omega)
            · exact ((((((Fm.look v2 v3).tr (Fm.s _ _ _)).tr (Fm.s _ _ _)).tr (Fm.s _ _ _)).tr (Fm.s _ _ _)).tr (Fm.s _ _ _)).tr (Fm.d _ (by decide) _)
            · show some (_ - 1) = _
              rw [up_self, up_self, nI_pred]
    · refine OP.no 2 x2 (by decide) (by decide) ?_ ?_
      · rw [f_X9_reasonAgainstNote, a1, bs, if_neg (by decide), b1, bs, if_pos rfl]
        rfl
      · rw [f_X10_notes, a2, bs, if_neg (by decide), b2, bs, if_pos rfl]
        rfl
  · refine OP.no 2 x1 (by decide) (by decide) ?_ ?_
    · rw [f_X9_reasonAgainstNote, a1, bs, if_pos rfl]
      rfl
    · rw [f_X10_notes, a2, bs, if_pos rfl]
      rfl
/-! a note is dropped -/
theorem rn_loop {B m : Nat} : ∀ (f i : Nat) (V : St), V B 4 = nI (m + 1) → m < 6 → i ≤ m → m < f + i → ∃ V1, f_X8_removeNote_b2 f V B (nI i) = some V1 ∧ V1 B 4 = nI m ∧ (∀ j, j ≠ 4 → V1 B j = V B j) ∧ (∀ k, k ≠ B → ¬ (B + 11 + i ≤ k ∧ k < B + 11 + m) → V1 k = V k) ∧ ∀ k w, i ≤ k → k < m → w < 3 → V1 (B + 11 + k) w = V (B + 11 + (k + 1)) w
  | 0, i, V, h, hm, h1, h2 => by omega
  | f + 1, i, V, h, hm, h1, h2 => by
    rw [f_X8_removeNote_b2, h, nI_pred]
    by_cases e : i = m
    · rw [if_pos (by rw [e]; exact nI_le (Nat.le_refl _) (by omega))]
      exact ⟨_, rfl, up_self _ _ _ _, fun j hj => up_ne _ (fun _ => hj), fun k hk _ => up_at hk, fun k w a b => by omega⟩
    · rw [if_neg (nI_ge (by omega) (by omega)), nI_1, no_eq _ _ (by omega), bs, no_eq _ _ (by omega), bs]
      obtain ⟨V1, g1, g2, g3⟩ := cp4 V (a := B + 11 + i) (b := B + 11 + (i + 1)) (by omega)
      rw [g1, bs]
      have eB : V1 B = V B := g2 B (by omega)
      obtain ⟨V2, k1, k2, k3, k4, k5⟩ := rn_loop f (i + 1) V1 (by rw [eB, h]) hm (by omega) (by omega)
      refine ⟨V2, k1, k2, fun j hj => by rw [k3 j hj, eB], fun k a b => ?_, fun k w a b c => ?_⟩
      · rw [k4 k a (by omega), g2 k (by omega)]
      · by_cases q : k = i
        · rw [q, k4 _ (by omega) (by omega), g3 w c]
        · rw [k5 k w (by omega) b c, g2 _ (by omega)]
theorem dz_loop {m : Nat} (hm : m < 6) : ∀ (f t : Nat) (V : St), t ≤ 4 → 4 < f + t → ∃ V1, f_X10_drops_b71 f V (nI m) (nI t) = some (0, V1) ∧ V1 208 18 = nI m ∧ Fm V V1 ∧ V1 209 2 = nI m ∧ ∀ q, q ≠ 2 → q < 29 + 4 * m → V1 209 q = V 209 q
  | 0, t, V, h1, h2 => by omega
  | f + 1, t, V, h1, h2 => by
    rw [f_X10_drops_b71]
    by_cases e : t = 4
    · subst e
      rw [if_pos (show (4 : Int32) ≤ nI 4 by decide)]
      refine ⟨up (up V 209 2 (nI m)) 208 18 (nI m), rfl, up_self _ _ _ _, (Fm.s _ _ _).tr (Fm.d _ (by decide) _), ?_, fun q a b => ?_⟩
      · rw [up_at (show 209 ≠ 208 by decide), up_self]
      · rw [up_at (show 209 ≠ 208 by decide), up_ne _ (fun _ => a)]
    · have ht : t < 4 := by omega
      have i1 : ((29 : Int32) + 4 * nI m) + nI t = nI (29 + 4 * m + t) := by rw [show (29 : Int32) = nI 29 from rfl, show (4 : Int32) = nI 4 from rfl, pk_mul, nI_add, nI_add]
      rw [if_neg (show ¬ (4 : Int32) ≤ nI t from nI_ge (b := 4) ht (by decide)), i1, ix_nI (by omega) (by decide), bs, nI_1]
      obtain ⟨V1, g1, g2, g3, g4, g5⟩ := dz_loop hm f (t + 1) (up V 209 (29 + 4 * m + t) 0) (by omega) (by omega)
      exact ⟨V1, g1, g2, (Fm.s _ _ _).tr g3, g4, fun q a b => by rw [g5 q a b, up_ne _ (fun _ => by omega)]⟩
theorem dr_loop {m : Nat} (hm : m < 6) : ∀ (f t : Nat) (V : St), t ≤ 4 * m → 4 * m < f + t → ∃ V1, f_X10_drops_b36 f V (nI m) (nI t) = some (0, V1) ∧ V1 208 18 = nI m ∧ Fm V V1 ∧ V1 209 2 = nI m ∧ (∀ q, q ≠ 2 → q < 29 + t → V1 209 q = V 209 q) ∧ ∀ q, 29 + t ≤ q → q < 29 + 4 * m → V1 209 q = V 209 (q + 4)
  | 0, t, V, h1, h2 => by omega
  | f + 1, t, V, h1, h2 => by
    have i0 : (4 : Int32) * nI m = nI (4 * m) := by rw [show (4 : Int32) = nI 4 from rfl, pk_mul]
    rw [f_X10_drops_b36, i0]
    by_cases e : t = 4 * m
    · rw [if_pos (by rw [e]; exact nI_le (Nat.le_refl _) (by omega))]
      obtain ⟨V1, g1, g2, g3, g4, g5⟩ := dz_loop hm 500 0 V (by omega) (by omega)
      exact ⟨V1, g1, g2, g3, g4, fun q a b => g5 q a (by omega), fun q a b => by omega⟩
    · have ht : t < 4 * m := by omega
      have i1 : ((29 : Int32) + nI t) + 4 = nI (29 + t + 4) := by rw [show (29 : Int32) = nI 29 from rfl, show (4 : Int32) = nI 4 from rfl, nI_add, nI_add]
      have i2 : ((29 : Int32) + nI t) = nI (29 + t) := by rw [show (29 : Int32) = nI 29 from rfl, nI_add]
      rw [if_neg (nI_ge ht (by omega)), i1, i2, ix_nI (by omega) (by decide), bs, ix_nI (by omega) (by decide), bs, nI_1]
      obtain ⟨V1, g1, g2, g3, g4, g5, g6⟩ := dr_loop hm f (t + 1) (up V 209 (29 + t) (V 209 (29 + t + 4))) (by omega) (by omega)
      refine ⟨V1, g1, g2, (Fm.s _ _ _).tr g3, g4, fun q a b => by rw [g5 q a (by omega), up_ne _ (fun _ => by omega)], fun q a b => ?_⟩
      by_cases c : q = 29 + t
      · rw [c, g5 _ (by omega) (by omega), up_self]
      · rw [g6 q (by omega) b, up_ne _ (fun _ => by omega)]
theorem op_drop {Vc Vm : St} (hS : SR Vc 1 (Vm 209)) (hG : GG (Vm 209)) (x1 : Int32) : OP Vc Vm (f_X9_reasonAgainstDrop Vc x1) (f_X8_removeNote Vc 1 x1) (f_X10_drops Vm x1) (fun V => some (V 1 4)) := by
  obtain ⟨g, hg⟩ : ∃ g, g = Vm 209 := ⟨_, rfl⟩
  rw [← hg] at hS hG
  obtain ⟨m, hm6, hm, hT⟩ := hG.2.2.1
  have hV4 : Vc 1 4 = nI m := by rw [hS.1.2.2.1, hm]
  have hg2 : Vm 209 2 = nI m := by rw [← hg, hm]
  rcases cnt_cs x1 (n := m) (by omega) with ⟨i, hi, rfl, d2⟩ | ⟨d2, d3⟩
  · obtain ⟨m, rfl⟩ : ∃ z, m = z + 1 := ⟨m - 1, by omega⟩
    obtain ⟨Vc1, a1, a2, a3, a4, a5⟩ := rn_loop (B := 1) 500 i Vc hV4 (by omega) (by omega) (by omega)
    obtain ⟨Vm1, b1, b2, b3, b4, b5, b6⟩ := dr_loop (m := m) (by omega) 500 (4 * i) Vm (by omega) (by omega)
    rw [← hg] at b5 b6
    obtain ⟨⟨h1, h2, h3, h4, h5, h6⟩, hN, hE, hO⟩ := hS
    refine Or.inr ⟨Vc1, Vm1, ?_, a1, ?_, ?_, ?_, ?_, b3, ?_⟩
    · rw [f_X9_reasonAgainstDrop, hn_yes hV4 hi (by omega), bs, if_neg (by decide)]
    · rw [f_X10_drops, hg2, d2, bs, if_neg (by decide), nI_pred, show (4 : Int32) * nI i = nI (4 * i) from by rw [show (4 : Int32) = nI 4 from rfl, pk_mul]]
      exact b1
    · refine ⟨⟨?_, ?_, ?_, ?_, ?_, ?_⟩, fun n w a b => ?_, fun e w a b => ?_, fun k a b => ?_⟩
      · rw [a3 _ (by decide), b5 _ (by decide) (by omega), h1]
      · rw [a3 _ (by decide), b5 _ (by decide) (by omega), h2]
      · rw [a2, b4]
      · rw [a3 _ (by decide), b5 _ (by decide) (by omega), h4]
      · rw [a3 _ (by decide), b5 _ (by decide) (by omega), h5]
      · rw [a3 _ (by decide), b5 _ (by decide) (by omega), h6]
      · rw [a4 _ (by omega) (by omega), b5 _ (by omega) (by omega), hN n w a b]
      · rw [a4 _ (by omega) (by omega), b5 _ (by omega) (by omega), hE e w a b]
      · rw [b4, nI_clamp (by omega)] at b
        by_cases c : k < i
        · rw [a4 _ (by omega) (by omega), b5 _ (by omega) (by omega), b5 _ (by omega) (by omega), b5 _ (by omega) (by omega)]
          exact hO k a (by rw [hm, nI_clamp (by omega)]; omega)
        · rw [a5 k 0 (by omega) b (by decide), a5 k 1 (by omega) b (by decide), a5 k 2 (by omega) b (by decide), b6 _ (by omega) (by omega), b6 _ (by omega) (by omega), b6 _ (by omega) (by omega)]
          exact hO (k + 1) (by omega) (by rw [hm, nI_clamp (by omega)]; omega)
    · obtain ⟨⟨t, t1, t2⟩, ⟨d, d1, d2⟩, -, hNn⟩ := hG
      refine ⟨⟨t, t1, by rw [b5 _ (by decide) (by omega), t2]⟩, ⟨d, d1, by rw [b5 _ (by decide) (by omega), d2]⟩, ⟨m, by omega, b4, fun k hk => ?_⟩, fun n hn => ?_⟩
      · by_cases c : k < i
        · have := hT k (by omega)
          unfold GT
          rw [b5 _ (by omega) (by omega), b5 _ (by omega) (by omega), b5 _ (by omega) (by omega), b5 _ (by omega) (by omega)]
          exact this
        · have := hT (k + 1) (by omega)
          unfold GT
          rw [b6 _ (by omega) (by omega), b6 _ (by omega) (by omega), b6 _ (by omega) (by omega), b6 _ (by omega) (by omega)]
          exact this
      · have := hNn n hn
        unfold GN
        rw [b5 _ (by omega) (by omega), b5 _ (by omega) (by omega), b5 _ (by omega) (by omega), b5 _ (by omega) (by omega), b5 _ (by omega) (by omega)]
        exact this
    · intro k hk
      exact a4 k (by omega) (by omega)
    · show some (Vc1 1 4) = _
      rw [a2, b2]
  · refine OP.no 2 x1 (by decide) (by decide) ?_ ?_
    · rw [f_X9_reasonAgainstDrop, hn_no hV4 d3, bs, if_pos rfl]
      rfl
    · rw [f_X10_drops, hg2, d2, bs, if_pos rfl]
      rfl
