/-! lines -/
def LW (n : Nat) (V U : St) : Prop := V 205 1 = nI n ∧ U 208 11 = nI n ∧ ∀ j, j < n → ∃ c, c < 128 ∧ V 206 j = nI c ∧ U 215 j = nI c
def FLc (V V1 : St) : Prop := ∀ k, k ≠ 205 → k ≠ 206 → V1 k = V k
def FLm (U U1 : St) : Prop := (∀ k, k ≠ 208 → k ≠ 215 → U1 k = U k) ∧ ∀ j, j ≠ 11 → U1 208 j = U 208 j
theorem FLc.rf (V : St) : FLc V V := fun _ _ _ => rfl
theorem FLm.rf (V : St) : FLm V V := ⟨fun _ _ _ => rfl, fun _ _ => rfl⟩
theorem FLc.tr {V V1 V2 : St} (h : FLc V V1) (h2 : FLc V1 V2) : FLc V V2 := fun k a b => (h2 k a b).trans (h k a b)
theorem FLm.tr {V V1 V2 : St} (h : FLm V V1) (h2 : FLm V1 V2) : FLm V V2 := ⟨fun k a b => (h2.1 k a b).trans (h.1 k a b), fun j a => (h2.2 j a).trans (h.2 j a)⟩
theorem RR.ln {Vc Vm V1 U1 : St} {m : Nat} (h : RR Vc Vm) (a : FLc Vc V1) (b : ∀ k, k ≠ 208 → k ≠ 215 → U1 k = Vm k) (d : ∀ j, 1 ≤ j → j ≠ 11 → (j < 17 ∨ 21 < j) → U1 208 j = Vm 208 j) (w : LW m V1 U1) (hm : m ≤ 25) : RR V1 U1 := by
  obtain ⟨h1, h2, h3, h4, h5, h6, h7⟩ := h
  exact ⟨h1.fr (fun k _ k2 => a k (by omega) (by omega)) (b 209 (by decide) (by decide)), h2.fr (fun k _ k2 => a k (by omega) (by omega)) (d 5 (by decide) (by decide) (by decide)) (b 212 (by decide) (by decide)), h3.fr (by rw [a 0 (by decide) (by decide)]) (fun k _ k2 => a k (by omega) (by omega)) (d 6 (by decide) (by decide) (by decide)) (b 211 (by decide) (by decide)), h4.fr (by rw [a 192 (by decide) (by decide)]) (a 193 (by decide) (by decide)) (d 10 (by decide) (by decide) (by decide)) (b 213 (by decide) (by decide)), ⟨m, hm, w⟩, h6.fr (a 207 (by decide) (by decide)) (fun j j1 j2 => d j (by omega) (by omega) (Or.inl j2)), h7.fr (by rw [a 0 (by decide) (by decide)]) (d 12 (by decide) (by decide) (by decide))⟩
theorem wr1 {n c : Nat} {V U : St} (h : LW n V U) (hn : n < 25) (hc : c < 128) : ∃ V1 U1, f_X2_append V (nI c) = some V1 ∧ f_X10_writes U (nI c) = some U1 ∧ LW (n + 1) V1 U1 ∧ FLc V V1 ∧ FLm U U1 := by
  obtain ⟨h1, h2, h3⟩ := h
  refine ⟨up (up V 206 n (nI c)) 205 1 (nI (n + 1)), up (up U 215 n (nI c)) 208 11 (nI (n + 1)), ?_, ?_, ⟨up_self _ _ _ _, up_self _ _ _ _, fun j hj => ?_⟩, fun k a b => by rw [up_at a, up_at b], fun k a b => by rw [up_at a, up_at b], fun j hj => by rw [up_ne _ (fun _ => hj), up_at (by decide)]⟩
  · rw [f_X2_append, h1, if_neg (nI_pos (by omega)), if_neg (show ¬ (25 : Int32) ≤ nI n from nI_ge (b := 25) hn (by decide)), ix_nI hn (by decide), bs, (c128 hc).1, up_at (show 205 ≠ 206 by decide), h1, nI_1]
  · rw [f_X10_writes, h2, ix_nI (show n < 60 by omega) (by decide), bs, up_at (show 208 ≠ 215 by decide), h2, nI_1]
  · rw [up_at (show 206 ≠ 205 by decide), up_at (show 215 ≠ 208 by decide)]
    by_cases e : j = n
    · subst e
      exact ⟨c, hc, up_self _ _ _ _, up_self _ _ _ _⟩
    · rw [up_ne _ (fun _ => e), up_ne _ (fun _ => e)]
      exact h3 j (by omega)
def ltr (a b : Bool) : Nat := if a = true then (if b = true then 99 else 97) else (if b = true then 98 else 46)
theorem ltr_lt (a b : Bool) : ltr a b < 128 := by cases a <;> cases b <;> decide
theorem let_m (a b : Bool) : f_X10_letter (kv a b) = some (nI (ltr a b)) := by cases a <;> cases b <;> decide +kernel
theorem let_c (a b : Bool) (h : ¬ kv a b = 0) : f_X9_letterOf (kv a b) = some (nI (ltr a b)) := by
  cases a <;> cases b
  · exact absurd rfl h
  · decide +kernel
  · decide +kernel
  · decide +kernel
theorem ltr_0 {a b : Bool} (h : kv a b = 0) : ltr a b = 46 := by
  cases a <;> cases b
  · rfl
  · exact absurd h (by decide)
  · exact absurd h (by decide)
  · exact absurd h (by decide)
/-! a line of a net -/
theorem b44_eq (c : St → Nat → Int32 → Int32 → Option St) (V : St) (k : Nat) (x1 : Int32) {col p : Nat} (hp : p < 24) : f_X3_writeLine_b44 c V k x1 (nI col) (nI p) = (f_X2_append V (nI (ltr (bt (V k 0) p) (bt (V k 1) p)))).bind fun q1 => c q1 k x1 (nI (col + 1)) := by
  rw [f_X3_writeLine_b44, kd_c _ _ hp, bs]
  by_cases e : kv (bt (V k 0) p) (bt (V k 1) p) = 0
  · rw [if_pos e, f_X3_writeLine_b68, ltr_0 e, nI_1]
    rfl
  · rw [if_neg e, let_c _ _ e, bs, f_X3_writeLine_b68, nI_1]
def lrest (f' : Nat) (U : St) (x1 x2 x3 : Int32) : Option (Int32 × St) :=
  if 5 ≤ (x3 - x3 / 6 * 6) then f_X10_line_b118 (fun V x1 x2 x3 => f_X10_line_b61 f' V x1 x2 x3) U x1 x2 x3
  else (f_X10_of U x1 2).bind fun q7 => if ((q7 >>> (x3 &&& 31)) &&& 1) = 1 then f_X10_line_b115 (fun V x1 x2 x3 => f_X10_line_b61 f' V x1 x2 x3) U x1 x2 x3 47 else f_X10_line_b115 (fun V x1 x2 x3 => f_X10_line_b61 f' V x1 x2 x3) U x1 x2 x3 45
theorem ln_m6 (num : Nat) : ((6 : Int32) * nI num) + 6 = nI (6 * num + 6) := by
  rw [show (6 : Int32) = nI 6 from rfl, pk_mul, nI_add]
theorem b61_step (f' : Nat) (U : St) {n num c : Nat} (hn : n < 3) (hnum : num < 4) (hc : c < 6) : f_X10_line_b61 (f' + 1) U (nI n) (nI num) (nI (6 * num + c)) = (f_X10_writes U (nI (ltr (bt (U 209 (6 + 5 * n)) (6 * num + c)) (bt (U 209 (6 + 5 * n + 1)) (6 * num + c))))).bind fun q5 => lrest f' q5 (nI n) (nI num) (nI (6 * num + c)) := by
  rw [f_X10_line_b61, ln_m6, if_neg (nI_ge (by omega) (by omega)), kd_m _ hn (by omega), bs, let_m, bs]
  rfl
theorem lr_dec : ∀ p : Fin 24, nI p.val - nI p.val / 6 * 6 = nI (p.val % 6) := by decide +kernel
theorem ln_loop {g : Nat → Int32} {k n num : Nat} (hn : n < 3) (hnum : num < 4) (hk : k ≠ 205 ∧ k ≠ 206) : ∀ (f f' c m : Nat) (V U : St), 1 ≤ c → c ≤ 6 → 6 < f + c → 6 < f' + c → m ≤ 2 * c → LW m V U → V k 0 = g (6 + 5 * n) → V k 1 = g (6 + 5 * n + 1) → V k 2 = g (6 + 5 * n + 2) → U 209 = g →
    ∃ V1 U1 m1, f_X3_writeLine_b2 f V k (nI num) (nI c) = some V1 ∧ lrest f' U (nI n) (nI num) (nI (6 * num + (c - 1))) = some (nI m1, U1) ∧ LW m1 V1 U1 ∧ m1 ≤ 12 ∧ FLc V V1 ∧ FLm U U1
  | 0, _, c, m, V, U, _, _, h1, _, _, _, _, _, _, _ => by omega
  | _, 0, c, m, V, U, _, _, _, h1, _, _, _, _, _, _ => by omega
  | f + 1, f' + 1, c, m, V, U, c1, c6, hf, hf', hm, hW, v0, v1, v2, hU => by
    have dm := lr_dec ⟨6 * num + (c - 1), by omega⟩
    have dm : nI (6 * num + (c - 1)) - nI (6 * num + (c - 1)) / 6 * 6 = nI ((6 * num + (c - 1)) % 6) := dm
    by_cases e : c = 6
    · subst e
      refine ⟨V, U, m, ?_, ?_, hW, by omega, FLc.rf _, FLm.rf _⟩
      · rw [f_X3_writeLine_b2, if_pos (show (6 : Int32) ≤ nI 6 by decide)]
      · rw [lrest, dm, show (6 * num + (6 - 1)) % 6 = 5 from by omega, if_pos (show (5 : Int32) ≤ nI 5 by decide), f_X10_line_b118, nI_1]
        show f_X10_line_b61 (f' + 1) U (nI n) (nI num) (nI (6 * num + (6 - 1) + 1)) = _
        rw [f_X10_line_b61, ln_m6, if_pos (nI_le (by omega) (by omega)), hW.2.1]
    · have hc : c < 6 := by omega
      obtain ⟨p, hp⟩ : ∃ p, p = 6 * num + (c - 1) := ⟨_, rfl⟩
      have p24 : p + 1 < 24 := by omega
      obtain ⟨s, hs⟩ : ∃ s, s = if bt (g (6 + 5 * n + 2)) p = true then 47 else 45 := ⟨_, rfl⟩
      have s128 : s < 128 := by rw [hs]; split <;> decide
      obtain ⟨V1, U1, a1, a2, a3, a4, a5⟩ := wr1 hW (by omega) s128
      obtain ⟨t, ht⟩ : ∃ t, t = ltr (bt (g (6 + 5 * n)) (p + 1)) (bt (g (6 + 5 * n + 1)) (p + 1)) := ⟨_, rfl⟩
      obtain ⟨V2, U2, b1, b2, b3, b4, b5⟩ := wr1 a3 (by omega) (show t < 128 by rw [ht]; exact ltr_lt _ _)
      have kk : ∀ {W W1 : St}, FLc W W1 → W1 k = W k := fun h => h k hk.1 hk.2
      have u9 : U1 209 = g := (a5.1 209 (by decide) (by decide)).trans hU
      obtain ⟨V3, U3, m1, d1, d2, d3, d4, d5, d6⟩ := ln_loop hn hnum hk f f' (c + 1) (m + 1 + 1) V2 U2 (by omega) (by omega) (by omega) (by omega) (by omega) b3 (by rw [kk b4, kk a4, v0]) (by rw [kk b4, kk a4, v1]) (by rw [kk b4, kk a4, v2]) ((b5.1 209 (by decide) (by decide)).trans u9)
      refine ⟨V3, U3, m1, ?_, ?_, d3, d4, (a4.tr b4).tr d5, (a5.tr b5).tr d6⟩
      · have x4 : (nI num * 6) + nI c = nI (p + 1) := by
          rw [show (6 : Int32) = nI 6 from rfl, pk_mul, nI_add]
          exact congrArg nI (by omega)
        have e1 : f_X3_writeLine_b44 (fun V k0 x1 x3 => f_X3_writeLine_b2 f V k0 x1 x3) V1 k (nI num) (nI c) (nI (p + 1)) = some V3 := by
          rw [b44_eq _ _ _ _ p24, kk a4, v0, v1, ← ht, b1, bs]
          exact d1
        rw [f_X3_writeLine_b2, if_neg (show ¬ (6 : Int32) ≤ nI c from nI_ge (b := 6) hc (by decide)), if_neg (nI_nle (by omega) (by omega)), x4, nI_pred, torn1 V k (show p < 24 by omega), bs, v2]
        cases z : bt (g (6 + 5 * n + 2)) p
        · rw [if_pos (show bI false = 0 by decide), f_X3_writeLine_b41]
          rw [z, if_neg Bool.false_ne_true] at hs
          rw [show (45 : Int32) = nI s from by rw [hs]; rfl, a1, bs]
          exact e1
        · rw [if_neg (show ¬ bI true = 0 by decide), f_X3_writeLine_b41]
          rw [z, if_pos rfl] at hs
          rw [show (47 : Int32) = nI s from by rw [hs]; rfl, a1, bs]
          exact e1
      · have e2 : f_X10_line_b118 (fun V x1 x2 x3 => f_X10_line_b61 (f' + 1) V x1 x2 x3) U1 (nI n) (nI num) (nI p) = some (nI m1, U3) := by
          rw [f_X10_line_b118, nI_1]
          show f_X10_line_b61 (f' + 1) U1 (nI n) (nI num) (nI (p + 1)) = _
          rw [show p + 1 = 6 * num + c from by omega, b61_step f' U1 hn hnum hc, u9, show 6 * num + c = p + 1 from by omega, ← ht, b2, bs, show p + 1 = 6 * num + (c + 1 - 1) from by omega]
          exact d2
        have oo : f_X10_of U (nI n) 2 = some (g (6 + 5 * n + 2)) := (of_eq U hn (show 2 < 5 by decide)).trans (by rw [hU])
        rw [← hp] at dm ⊢
        rw [lrest, dm, if_neg (show ¬ (5 : Int32) ≤ nI (p % 6) from nI_ge (b := 5) (by omega) (by decide)), oo, bs]
        cases z : bt (g (6 + 5 * n + 2)) p
        · rw [if_neg (fun w => by rw [(b_tst1 _ (by omega)).mp w] at z; cases z), f_X10_line_b115]
          rw [z, if_neg Bool.false_ne_true] at hs
          rw [show (45 : Int32) = nI s from by rw [hs]; rfl, a2, bs]
          exact e2
        · rw [if_pos ((b_tst1 _ (by omega)).mpr z), f_X10_line_b115]
          rw [z, if_pos rfl] at hs
          rw [show (47 : Int32) = nI s from by rw [hs]; rfl, a2, bs]
          exact e2
theorem ln_all {g : Nat → Int32} {k n num m : Nat} {V U : St} (hn : n < 3) (hnum : num < 4) (hk : k ≠ 205 ∧ k ≠ 206) (hm : m ≤ 1) (hW : LW m V U) (v0 : V k 0 = g (6 + 5 * n)) (v1 : V k 1 = g (6 + 5 * n + 1)) (v2 : V k 2 = g (6 + 5 * n + 2)) (hU : U 209 = g) :
    ∃ V1 U1 m1, f_X3_writeLine V k (nI num) = some V1 ∧ f_X10_line_b61 500 U (nI n) (nI num) (nI (6 * num + 0)) = some (nI m1, U1) ∧ LW m1 V1 U1 ∧ m1 ≤ 12 ∧ FLc V V1 ∧ FLm U U1 := by
  obtain ⟨t, ht⟩ : ∃ t, t = ltr (bt (g (6 + 5 * n)) (6 * num + 0)) (bt (g (6 + 5 * n + 1)) (6 * num + 0)) := ⟨_, rfl⟩
  obtain ⟨V2, U2, b1, b2, b3, b4, b5⟩ := wr1 hW (by omega) (show t < 128 by rw [ht]; exact ltr_lt _ _)
  have kk : V2 k = V k := b4 k hk.1 hk.2
  obtain ⟨V3, U3, m1, d1, d2, d3, d4, d5, d6⟩ := ln_loop hn hnum hk 499 499 1 (m + 1) V2 U2 (by omega) (by omega) (by omega) (by omega) (by omega) b3 (by rw [kk, v0]) (by rw [kk, v1]) (by rw [kk, v2]) ((b5.1 209 (by decide) (by decide)).trans hU)
  refine ⟨V3, U3, m1, ?_, ?_, d3, d4, b4.tr d5, b5.tr d6⟩
  · have x4 : (nI num * 6) + nI 0 = nI (6 * num + 0) := by
      rw [show (6 : Int32) = nI 6 from rfl, pk_mul, nI_add]
      exact congrArg nI (by omega)
    show f_X3_writeLine_b2 (499 + 1) V k (nI num) (nI 0) = _
    rw [f_X3_writeLine_b2, if_neg (show ¬ (6 : Int32) ≤ nI 0 by decide), if_pos (show nI 0 ≤ (0 : Int32) by decide), x4, b44_eq _ _ _ _ (by omega), v0, v1, ← ht, b1, bs]
    exact d1
  · show f_X10_line_b61 (499 + 1) U (nI n) (nI num) (nI (6 * num + 0)) = _
    rw [b61_step 499 U hn hnum (by decide), hU, ← ht, b2, bs]
    exact d2
theorem s_line (x1 x2 : Int32) : SIM (fun V => f_X9_line V x1 x2) (fun V => f_X10_line V x1 x2) [(1, 1)] := by
  intro Vc Vm hR
  have bad : f_X9_line Vc x1 x2 = some (.error 1, Vc) → f_X10_line Vm x1 x2 = f_X10_line_b22 Vm x1 x2 1 → ∃ (res : Except Nat Int32) (Vc1 : St) (a : Int32) (Vm1 : St), f_X9_line Vc x1 x2 = some (res, Vc1) ∧ f_X10_line Vm x1 x2 = some (a, Vm1) ∧ RR Vc1 Vm1 ∧ FC Vc Vc1 ∧ FM Vm Vm1 ∧ Ans [(1, 1)] res a (Vm1 208 0) := by
    intro h1 h2
    refine ⟨.error 1, Vc, 0, up Vm 208 0 1, h1, ?_, hR.qq (F191.rf _) (Fq.t _ _), fun _ _ => rfl, fun k hk => up_at (by omega), Ans.er (by simp) (by decide) (up_self _ _ _ _)⟩
    rw [h2, f_X10_line_b22, up_self, if_neg (by decide)]
  have hS := hR.1.1
  have hG := hR.1.2
  rcases net_cs x1 with ⟨n, hn, rfl, a1, a2⟩ | ⟨a1, a2⟩
  · rcases rng x2 (n := 4) (by decide) with ⟨num, hnum, rfl⟩ | h
    · have c2 : f_X10_in (nI num) 0 3 = some 1 := in_yes (show (num : Int) ≤ 3 by omega) (by omega)
      obtain ⟨V0, hV0⟩ : ∃ z, z = up Vc 205 1 0 := ⟨_, rfl⟩
      obtain ⟨U0, hU0⟩ : ∃ z, z = up (up Vm 208 0 0) 208 11 0 := ⟨_, rfl⟩
      have w0 : LW 0 V0 U0 := ⟨by rw [hV0, up_self]; rfl, by rw [hU0, up_self]; rfl, fun j hj => absurd hj (Nat.not_lt_zero j)⟩
      have fc : FLc Vc V0 := fun k a b => by rw [hV0, up_at a]
      have u9 : U0 209 = Vm 209 := by rw [hU0, up_at (by decide), up_at (by decide)]
      have uk : ∀ k, k ≠ 208 → k ≠ 215 → U0 k = Vm k := fun k a b => by rw [hU0, up_at a, up_at a]
      have u8 : ∀ j, 1 ≤ j → j ≠ 11 → U0 208 j = Vm 208 j := fun j a b => by rw [hU0, up_ne _ (fun _ => b), up_ne _ (fun _ => by omega)]
      have u0 : U0 208 0 = 0 := by rw [hU0, up_ne _ (fun _ => by decide), up_self]
      have hS0 : SR V0 1 (Vm 209) := hS.fr fun k a b => fc k (by omega) (by omega)
      have lc := uw_c hS0 hG hn
      have lm := uw_m (V := U0) (by rw [u9]; exact hG) hn
      rw [u9] at lm
      obtain ⟨q, hq⟩ : ∃ q : Int32, q = 4 - nI (uwg (Vm 209) n) := ⟨_, rfl⟩
      have fin : ∀ (m : Nat) (V2 U2 : St), m ≤ 1 → LW m V2 U2 → FLc V0 V2 → FLm U0 U2 → f_X9_line Vc (nI n) (nI num) = f_X9_line_b57 V2 (nI n) (nI num) → f_X10_line Vm (nI n) (nI num) = f_X10_line_b56 U2 (nI n) (nI num) → ∃ (res : Except Nat Int32) (Vc1 : St) (a : Int32) (Vm1 : St), f_X9_line Vc (nI n) (nI num) = some (res, Vc1) ∧ f_X10_line Vm (nI n) (nI num) = some (a, Vm1) ∧ RR Vc1 Vm1 ∧ FC Vc Vc1 ∧ FM Vm Vm1 ∧ Ans [(1, 1)] res a (Vm1 208 0) := by
        intro m V2 U2 hm hW f1 f2 e1 e2
        have kk : V2 (1 + 4 + n) = Vc (1 + 4 + n) := (fc.tr f1) (1 + 4 + n) (by omega) (by omega)
        obtain ⟨V3, U3, m1, d1, d2, d3, d4, d5, d6⟩ := ln_all (g := Vm 209) (k := 1 + 4 + n) hn hnum (by omega) hm hW (by rw [kk]; exact hS.2.1 n 0 hn (by decide)) (by rw [kk]; exact hS.2.1 n 1 hn (by decide)) (by rw [kk]; exact hS.2.1 n 2 hn (by decide)) ((f2.1 209 (by decide) (by decide)).trans u9)
        have ff := (fc.tr f1).tr d5
        have fm := f2.tr d6
        refine ⟨.ok (nI m1), V3, nI m1, U3, ?_, ?_, hR.ln ff (fun k a b => (fm.1 k a b).trans (uk k a b)) (fun j a b c => (fm.2 j b).trans (u8 j a b)) d3 (by omega), fun k hk => ff k (by omega) (by omega), fun k hk => (fm.1 k (by omega) (by omega)).trans (uk k (by omega) (by omega)), Ans.ok ((fm.2 0 (by decide)).trans u0)⟩
        · rw [e1, f_X9_line_b57, net_eq _ _ hn, bs, d1, bs, d3.1]
        · rw [e2, f_X10_line_b56, show (6 : Int32) * nI num = nI (6 * num + 0) from by rw [show (6 : Int32) = nI 6 from rfl, pk_mul, Nat.add_zero]]
          exact d2
      have ec : f_X9_line Vc (nI n) (nI num) = if nI num < q then f_X9_line_b57 V0 (nI n) (nI num) else (f_X2_append V0 126).bind fun q10 => f_X9_line_b57 q10 (nI n) (nI num) := by
        rw [f_X9_line, a1, bs, if_neg (by decide), if_neg (nI_pos (by omega)), if_pos (show nI num < (4 : Int32) from nI_lt (b := 4) hnum (by decide)), f_X2_clear, bs, ← hV0, lc, bs, ← hq]
      have em : f_X10_line Vm (nI n) (nI num) = if nI num < q then f_X10_line_b56 U0 (nI n) (nI num) else (f_X10_writes U0 126).bind fun q12 => f_X10_line_b56 q12 (nI n) (nI num) := by
        rw [f_X10_line, a2, bs, if_neg (by decide), c2, bs, if_neg (by decide), f_X10_line_b22, up_self, if_pos (by decide), ← hU0, lm, bs, ← hq]
      by_cases z : nI num < q
      · exact fin 0 V0 U0 (by decide) w0 (FLc.rf _) (FLm.rf _) (by rw [ec, if_pos z]) (by rw [em, if_pos z])
      · obtain ⟨V2, U2, b1, b2, b3, b4, b5⟩ := wr1 (c := 126) w0 (by decide) (by decide)
        have b1 : f_X2_append V0 126 = some V2 := b1
        have b2 : f_X10_writes U0 126 = some U2 := b2
        exact fin 1 V2 U2 (by decide) b3 b4 b5 (by rw [ec, if_neg z, b1, bs]) (by rw [em, if_neg z, b2, bs])
    · have c2 : f_X10_in x2 0 3 = some 0 := in_no (by rcases h with h | h; exact Or.inl h; exact Or.inr (show (3 : Int) < x2.toInt by omega))
      refine bad ?_ ?_
      · rw [f_X9_line, a1, bs, if_neg (by decide)]
        by_cases z : x2 < 0
        · rw [if_pos z]
          rfl
        · rw [if_neg z, if_neg (fun q => by
            have q1 := i_lt.mp q
            have q2 := not_lt0 z
            have q3 : (4 : Int32).toInt = 4 := rfl
            omega)]
          rfl
      · rw [f_X10_line, a2, bs, if_neg (by decide), c2, bs, if_pos rfl, f_X10_line_b21]
  · refine bad ?_ ?_
    · rw [f_X9_line, a1, bs, if_pos rfl]
      rfl
    · rw [f_X10_line, a2, bs, if_pos rfl, f_X10_line_b21]
/-! what chapters read as -/
theorem ak_step (f : Nat) (V : St) (x y : Int32) {p : Nat} (hp : p < 24) : f_X2_appendKnots_b2 (f + 1) V x y (nI p) = if kv (bt x p) (bt y p) = 0 then f_X2_appendKnots_b2 f V x y (nI (p + 1)) else (f_X2_append V (nI (ltr (bt x p) (bt y p)))).bind fun V1 => f_X2_appendKnots_b2 f V1 x y (nI (p + 1)) := by
  have b34 : ∀ y0 y1 : Int32, y1 + y0 = kv (bt x p) (bt y p) → f_X2_appendKnots_b34 (fun V x1 x2 x3 => f_X2_appendKnots_b2 f V x1 x2 x3) V x y (nI p) y0 y1 = if kv (bt x p) (bt y p) = 0 then f_X2_appendKnots_b2 f V x y (nI (p + 1)) else (f_X2_append V (nI (ltr (bt x p) (bt y p)))).bind fun V1 => f_X2_appendKnots_b2 f V1 x y (nI (p + 1)) := by
    intro y0 y1 h
    rw [f_X2_appendKnots_b34, h]
    by_cases e : kv (bt x p) (bt y p) = 0
    · rw [if_pos e, if_pos e, f_X2_appendKnots_b51, nI_1]
    · rw [if_neg e, if_neg e, let_c _ _ e, bs]
      refine congrArg _ (funext fun V1 => ?_)
      rw [f_X2_appendKnots_b51, nI_1]
  rw [f_X2_appendKnots_b2, if_neg (show ¬ (24 : Int32) ≤ nI p from nI_ge (b := 24) hp (by decide)), isIn_eq _ (by omega), bs]
  cases e1 : bt x p
  · rw [if_pos (show bI false = 0 by decide), f_X2_appendKnots_b21, isIn_eq _ (by omega), bs]
    rw [e1] at b34
    cases e2 : bt y p
    · rw [if_pos (show bI false = 0 by decide)]
      rw [e2] at b34
      exact b34 0 0 rfl
    · rw [if_neg (show ¬ bI true = 0 by decide)]
      rw [e2] at b34
      exact b34 2 0 rfl
  · rw [if_neg (show ¬ bI true = 0 by decide), f_X2_appendKnots_b21, isIn_eq _ (by omega), bs]
    rw [e1] at b34
    cases e2 : bt y p
    · rw [if_pos (show bI false = 0 by decide)]
      rw [e2] at b34
      exact b34 0 1 rfl
    · rw [if_neg (show ¬ bI true = 0 by decide)]
      rw [e2] at b34
      exact b34 2 1 rfl
theorem ak_end (f : Nat) (V : St) (x y : Int32) : f_X2_appendKnots_b2 (f + 1) V x y (nI 24) = some V := by
  rw [f_X2_appendKnots_b2, if_pos (show (24 : Int32) ≤ nI 24 by decide)]
theorem cl_loop {g : Nat → Int32} {n : Nat} (hn : n < 3) {C : Int32} (hC : ∀ p, p < 24 → bt C p = true → bt (kA g n) p = true) : ∀ (f f' p m : Nat) (V U : St), p ≤ 24 → 24 < f + p → 24 < f' + p → m ≤ p → LW m V U → U 209 = g →
    ∃ V1 U1 m1, f_X2_appendKnots_b2 f V (g (6 + 5 * n) &&& C) (g (6 + 5 * n + 1) &&& C) (nI p) = some V1 ∧ f_X10_chapterLine_b68 f' U (nI n) C (nI p) = some (nI m1, U1) ∧ LW m1 V1 U1 ∧ m1 ≤ 24 ∧ FLc V V1 ∧ FLm U U1
  | 0, _, p, m, V, U, _, h1, _, _, _, _ => by omega
  | _, 0, p, m, V, U, _, _, h1, _, _, _ => by omega
  | f + 1, f' + 1, p, m, V, U, hp, hf, hf', hm, hW, hU => by
    by_cases e : p = 24
    · subst e
      refine ⟨V, U, m, ak_end f V _ _, ?_, hW, hm, FLc.rf _, FLm.rf _⟩
      rw [f_X10_chapterLine_b68, if_pos (show (24 : Int32) ≤ nI 24 by decide), hW.2.1]
    · have hp : p < 24 := by omega
      rw [ak_step f V _ _ hp, f_X10_chapterLine_b68, if_neg (show ¬ (24 : Int32) ≤ nI p from nI_ge (b := 24) hp (by decide)), b_and, b_and]
      cases z : bt C p
      · rw [Bool.and_false, Bool.and_false, if_pos (show kv false false = 0 by decide), if_neg (fun w => by rw [(b_tst1 _ (by omega)).mp w] at z; cases z), f_X10_chapterLine_b99, nI_1]
        exact cl_loop hn hC f f' (p + 1) m V U (by omega) (by omega) (by omega) (by omega) hW hU
      · have hk : ¬ kv (bt (g (6 + 5 * n)) p) (bt (g (6 + 5 * n + 1)) p) = 0 := fun w => by
          have := (kz g n p).mp w
          rw [hC p hp z] at this
          cases this
        obtain ⟨V2, U2, b1, b2, b3, b4, b5⟩ := wr1 hW (by omega) (ltr_lt (bt (g (6 + 5 * n)) p) (bt (g (6 + 5 * n + 1)) p))
        obtain ⟨V3, U3, m1, d1, d2, d3, d4, d5, d6⟩ := cl_loop hn hC f f' (p + 1) (m + 1) V2 U2 (by omega) (by omega) (by omega) (by omega) b3 ((b5.1 209 (by decide) (by decide)).trans hU)
        rw [Bool.and_true, Bool.and_true, if_neg hk, b1, bs, if_pos ((b_tst1 _ (by omega)).mpr z), kd_m _ hn hp, bs, hU, let_m, bs, b2, bs, f_X10_chapterLine_b99, nI_1]
        exact ⟨V3, U3, m1, d1, d2, d3, d4, b4.tr d5, b5.tr d6⟩
theorem s_chapterLine (x1 x2 : Int32) : SIM (fun V => f_X9_chapterLine V x1 x2) (fun V => f_X10_chapterLine V x1 x2) [(1, 1), (2, 2)] := by
  intro Vc Vm hR
  have bad : ∀ (e : Nat) (y : Int32), (e, y) ∈ [((1 : Nat), (1 : Int32)), (2, 2)] → ¬ y ≤ 0 → f_X9_chapterLine Vc x1 x2 = some (.error e, Vc) → f_X10_chapterLine Vm x1 x2 = f_X10_chapterLine_b33 Vm x1 x2 y → ∃ (res : Except Nat Int32) (Vc1 : St) (a : Int32) (Vm1 : St), f_X9_chapterLine Vc x1 x2 = some (res, Vc1) ∧ f_X10_chapterLine Vm x1 x2 = some (a, Vm1) ∧ RR Vc1 Vm1 ∧ FC Vc Vc1 ∧ FM Vm Vm1 ∧ Ans [(1, 1), (2, 2)] res a (Vm1 208 0) := by
    intro e y hm hy h1 h2
    refine ⟨.error e, Vc, 0, up Vm 208 0 y, h1, ?_, hR.qq (F191.rf _) (Fq.t _ _), fun _ _ => rfl, fun k hk => up_at (by omega), Ans.er hm (fun z => hy (by rw [z]; decide)) (up_self _ _ _ _)⟩
    rw [h2, f_X10_chapterLine_b33, up_self, if_neg hy]
  have hS := hR.1.1
  have hG := hR.1.2
  rcases net_cs x1 with ⟨n, hn, rfl, a1, a2⟩ | ⟨a1, a2⟩
  · rcases pl_cs x2 with ⟨p, hp, rfl, b1, b2⟩ | ⟨b1, b2⟩
    · rcases chp hS hG hn hp with ⟨e, d1⟩ | ⟨e, C, d1, d2, d3, d4, d5⟩
      · refine bad 2 2 (by simp) (by decide) ?_ ?_
        · rw [f_X9_chapterLine, a1, bs, if_neg (by decide), b1, bs, if_neg (by decide), net_eq _ _ hn, bs, d1, bs, if_pos rfl]
        · rw [f_X10_chapterLine, a2, bs, if_neg (by decide), b2, bs, if_neg (by decide), kd_m _ hn hp, bs, if_pos ((kz _ _ _).mpr e)]
      · obtain ⟨U1, u1, u2, u3, u4, u5⟩ := lk (up Vm 208 0 0) hn
        rw [up_at (show 209 ≠ 208 by decide)] at u4 u5
        have hF : Fq Vm U1 := (Fq.t _ _).tr u2
        obtain ⟨V0, hV0⟩ : ∃ z, z = up Vc 205 1 0 := ⟨_, rfl⟩
        obtain ⟨U0, hU0⟩ : ∃ z, z = up U1 208 11 0 := ⟨_, rfl⟩
        have w0 : LW 0 V0 U0 := ⟨by rw [hV0, up_self]; rfl, by rw [hU0, up_self]; rfl, fun j hj => absurd hj (Nat.not_lt_zero j)⟩
        have fc : FLc Vc V0 := fun k a b => by rw [hV0, up_at a]
        have uk : ∀ k, k ≠ 208 → k ≠ 215 → U0 k = Vm k := fun k a b => by rw [hU0, up_at a, hF.1 k a]
        have u8 : ∀ j, 1 ≤ j → j ≠ 11 → (j < 17 ∨ 21 < j) → U0 208 j = Vm 208 j := fun j a b c => by rw [hU0, up_ne _ (fun _ => b), hF.2 j a c]
        have u0 : U0 208 0 = 0 := by rw [hU0, up_ne _ (fun _ => by decide), u3, up_self]
        have v0 : V0 (1 + 4 + n) = Vc (1 + 4 + n) := fc _ (by omega) (by omega)
        obtain ⟨V3, U3, m1, c1, c2, c3, c4, c5, c6⟩ := cl_loop (g := Vm 209) hn (C := C) (fun q hq hc => con.inA ((d4 q (by omega)).mp hc) e) 500 500 0 0 V0 U0 (by decide) (by decide) (by decide) (by decide) w0 (uk 209 (by decide) (by decide))
        have ff := fc.tr c5
        refine ⟨.ok (nI m1), V3, nI m1, U3, ?_, ?_, hR.ln ff (fun k a b => (c6.1 k a b).trans (uk k a b)) (fun j a b c => (c6.2 j b).trans (u8 j a b c)) c3 (by omega), fun k hk => ff k (by omega) (by omega), fun k hk => (c6.1 k (by omega) (by omega)).trans (uk k (by omega) (by omega)), Ans.ok ((c6.2 0 (by decide)).trans u0)⟩
        · show f_X9_chapterLine Vc (nI n) (nI p) = _
          rw [f_X9_chapterLine, a1, bs, if_neg (by decide), b1, bs, if_neg (by decide), net_eq _ _ hn, bs, d1, bs, if_neg d2, f_X2_clear, bs, ← hV0, v0, hS.2.1 n 0 hn (by decide), hS.2.1 n 1 hn (by decide)]
          have c1 : f_X2_appendKnots V0 (Vm 209 (6 + 5 * n) &&& C) (Vm 209 (6 + 5 * n + 1) &&& C) = some V3 := c1
          rw [Nat.add_zero, c1, bs, c3.1]
        · show f_X10_chapterLine Vm (nI n) (nI p) = _
          rw [f_X10_chapterLine, a2, bs, if_neg (by decide), b2, bs, if_neg (by decide), kd_m _ hn hp, bs, if_neg (fun z => by rw [(kz _ _ _).mp z] at e; cases e), f_X10_chapterLine_b33, up_self, if_pos (by decide), u1, bs, d5 U1 u5, bs, ← hU0]
          exact c2
    · refine bad 1 1 (by simp) (by decide) ?_ ?_
      · rw [f_X9_chapterLine, a1, bs, if_neg (by decide), b1, bs, if_pos rfl]
        rfl
      · rw [f_X10_chapterLine, a2, bs, if_neg (by decide), b2, bs, if_pos rfl, f_X10_chapterLine_b15]
  · refine bad 1 1 (by simp) (by decide) ?_ ?_
    · rw [f_X9_chapterLine, a1, bs, if_pos rfl]
      rfl
    · rw [f_X10_chapterLine, a2, bs, if_pos rfl, f_X10_chapterLine_b15]
theorem nl_m (y z : Int32) {p : Nat} (hp : p < 24) : ((y >>> (nI p &&& 31)) &&& 1) + (2 * ((z >>> (nI p &&& 31)) &&& 1)) = kv (bt y p) (bt z p) := by
  rw [b_val _ (by omega), b_val _ (by omega)]
  cases bt y p <;> cases bt z p <;> rfl
theorem nl_loop {Vc : St} {g : Nat → Int32} {k n : Nat} {S y z : Int32} (h : NT Vc g k n S y z) : ∀ (f f' p m : Nat) (V U : St), p ≤ 24 → 24 < f + p → 24 < f' + p → m ≤ p → LW m V U → U 209 = g →
    ∃ V1 U1 m1, f_X2_appendKnots_b2 f V y z (nI p) = some V1 ∧ (∃ f2, f_X10_noteLine_b33 f' U (nI k) (nI p) = f_X10_noteLine_b33 (f2 + 1) U1 (nI k) (nI 24)) ∧ LW m1 V1 U1 ∧ m1 ≤ 24 ∧ FLc V V1 ∧ FLm U U1
  | 0, _, p, m, V, U, _, h1, _, _, _, _ => by omega
  | _, 0, p, m, V, U, _, _, h1, _, _, _ => by omega
  | f + 1, f' + 1, p, m, V, U, hp, hf, hf', hm, hW, hU => by
    by_cases e : p = 24
    · subst e
      exact ⟨V, U, m, ak_end f V _ _, ⟨f', rfl⟩, hW, hm, FLc.rf _, FLm.rf _⟩
    · have hp : p < 24 := by omega
      obtain ⟨n1, k6, g0, g1, g2, g3, g4, -⟩ := id h
      have o1 : f_X10_ofNote U (nI k) 1 = some S := (on_eq U k6 (show 1 < 4 by decide)).trans (by rw [hU, g1])
      have o2 : f_X10_ofNote U (nI k) 2 = some y := (on_eq U k6 (show 2 < 4 by decide)).trans (by rw [hU, g2])
      have o3 : f_X10_ofNote U (nI k) 3 = some z := (on_eq U k6 (show 3 < 4 by decide)).trans (by rw [hU, g3])
      have hk : bt S p = false ↔ kv (bt y p) (bt z p) = 0 := by
        rw [kv_0, g4, b_or]
        cases bt y p <;> cases bt z p <;> simp
      rw [ak_step f V _ _ hp, f_X10_noteLine_b33, if_neg (show ¬ (24 : Int32) ≤ nI p from nI_ge (b := 24) hp (by decide)), o1, bs]
      cases w : bt S p
      · rw [if_pos (hk.mp w), if_neg (fun q => by rw [(b_tst1 _ (by omega)).mp q] at w; cases w), f_X10_noteLine_b83, nI_1]
        exact nl_loop h f f' (p + 1) m V U (by omega) (by omega) (by omega) (by omega) hW hU
      · have hkn : ¬ kv (bt y p) (bt z p) = 0 := fun q => by rw [hk.mpr q] at w; cases w
        obtain ⟨V2, U2, b1, b2, b3, b4, b5⟩ := wr1 hW (by omega) (ltr_lt (bt y p) (bt z p))
        obtain ⟨V3, U3, m1, d1, d2, d3, d4, d5, d6⟩ := nl_loop h f f' (p + 1) (m + 1) V2 U2 (by omega) (by omega) (by omega) (by omega) b3 ((b5.1 209 (by decide) (by decide)).trans hU)
        rw [if_neg hkn, b1, bs, if_pos ((b_tst1 _ (by omega)).mpr w), o2, bs, o3, bs, nl_m _ _ hp, let_m, bs, b2, bs, f_X10_noteLine_b83, nI_1]
        exact ⟨V3, U3, m1, d1, d2, d3, d4, b4.tr d5, b5.tr d6⟩
theorem s_noteLine (x1 : Int32) : SIM (fun V => f_X9_noteLine V x1) (fun V => f_X10_noteLine V x1) [(1, 1)] := by
  intro Vc Vm hR
  have hS := hR.1.1
  have hG := hR.1.2
  rcases nt_cs hS hG x1 with ⟨k, n, S, y, z, rfl, h, a1, a2, a3⟩ | ⟨a1, a2⟩
  · obtain ⟨V0, hV0⟩ : ∃ z, z = up Vc 205 1 0 := ⟨_, rfl⟩
    obtain ⟨U0, hU0⟩ : ∃ z, z = up (up Vm 208 0 0) 208 11 0 := ⟨_, rfl⟩
    have w0 : LW 0 V0 U0 := ⟨by rw [hV0, up_self]; rfl, by rw [hU0, up_self]; rfl, fun j hj => absurd hj (Nat.not_lt_zero j)⟩
    have fc : FLc Vc V0 := fun k a b => by rw [hV0, up_at a]
    have uk : ∀ k, k ≠ 208 → k ≠ 215 → U0 k = Vm k := fun k a b => by rw [hU0, up_at a, up_at a]
    have u8 : ∀ j, 1 ≤ j → j ≠ 11 → U0 208 j = Vm 208 j := fun j a b => by rw [hU0, up_ne _ (fun _ => b), up_ne _ (fun _ => by omega)]
    have u0 : U0 208 0 = 0 := by rw [hU0, up_ne _ (fun _ => by decide), up_self]
    obtain ⟨n1, k6, -, -, -, -, -, -, -, g7, g8⟩ := id h
    obtain ⟨V3, U3, m1, c1, ⟨f2, c2⟩, c3, c4, c5, c6⟩ := nl_loop h 500 500 0 0 V0 U0 (by decide) (by decide) (by decide) (by decide) w0 (uk 209 (by decide) (by decide))
    have c1 : f_X2_appendKnots V0 y z = some V3 := c1
    have ff := fc.tr c5
    have hS3 : SR V3 1 (Vm 209) := hS.fr fun k a b => ff k (by omega) (by omega)
    have h3 : NT V3 (Vm 209) k n S y z := by
      obtain ⟨q0, q1, q2, q3, q4, q5, q6, q7, q8, q9, q10⟩ := h
      have := ff (1 + 11 + k) (by omega) (by omega)
      exact ⟨q0, q1, q2, q3, q4, q5, q6, q7, by rw [this]; exact q8, by rw [this]; exact q9, by rw [this]; exact q10⟩
    obtain ⟨b, r1, r2⟩ := rdn hS3 hG h3
    obtain ⟨U4, s1, s2, s3, s4⟩ := r2 U3 ((c6.1 209 (by decide) (by decide)).trans (uk 209 (by decide) (by decide)))
    have ek : ∀ j, V0 (1 + 11 + k) j = Vc (1 + 11 + k) j := fun j => by rw [fc (1 + 11 + k) (by omega) (by omega)]
    have ec : f_X9_noteLine Vc (nI k) = if bI b = 0 then (f_X2_append V3 33).bind fun q8 => some (.ok (q8 205 1), q8) else some (.ok (V3 205 1), V3) := by
      rw [f_X9_noteLine, a1, bs, if_neg (by decide), a3, bs, f_X2_clear, bs, ← hV0, ek, ek, g7, g8, c1, bs, r1, bs]
    have em : f_X10_noteLine Vm (nI k) = if bI b = 0 then (f_X10_writes U4 33).bind fun q4 => some (q4 208 11, q4) else some (U4 208 11, U4) := by
      rw [f_X10_noteLine, a2, bs, if_neg (by decide), f_X10_noteLine_b14, up_self, if_pos (by decide), ← hU0]
      have c2 : f_X10_noteLine_b33 500 U0 (nI k) 0 = _ := c2
      rw [c2, f_X10_noteLine_b33, if_pos (by decide), s1, bs]
    have w4 : LW m1 V3 U4 := ⟨c3.1, (s2.2 11 (by decide) (by decide)).trans c3.2.1, fun j hj => by
      obtain ⟨c, q1, q2, q3⟩ := c3.2.2 j hj
      exact ⟨c, q1, q2, by rw [s2.1 215 (by decide), q3]⟩⟩
    have k4 : ∀ k, k ≠ 208 → k ≠ 215 → U4 k = Vm k := fun k a b => by rw [s2.1 k a, c6.1 k a b, uk k a b]
    have k8 : ∀ j, 1 ≤ j → j ≠ 11 → (j < 17 ∨ 21 < j) → U4 208 j = Vm 208 j := fun j a b c => by rw [s2.2 j a c, c6.2 j b, u8 j a b]
    have k0 : U4 208 0 = 0 := by rw [s3, c6.2 0 (by decide), u0]
    cases b
    · obtain ⟨V5, U5, e1, e2, e3, e4, e5⟩ := wr1 (c := 33) w4 (by omega) (by decide)
      have e1 : f_X2_append V3 33 = some V5 := e1
      have e2 : f_X10_writes U4 33 = some U5 := e2
      have ff5 := ff.tr e4
      refine ⟨.ok (nI (m1 + 1)), V5, nI (m1 + 1), U5, ?_, ?_, hR.ln ff5 (fun k a b => (e5.1 k a b).trans (k4 k a b)) (fun j a b c => (e5.2 j b).trans (k8 j a b c)) e3 (by omega), fun k hk => ff5 k (by omega) (by omega), fun k hk => (e5.1 k (by omega) (by omega)).trans (k4 k (by omega) (by omega)), Ans.ok ((e5.2 0 (by decide)).trans k0)⟩
      · show f_X9_noteLine Vc (nI k) = _
        rw [ec, if_pos (by decide), e1, bs, e3.1]
      · show f_X10_noteLine Vm (nI k) = _
        rw [em, if_pos (by decide), e2, bs, e3.2.1]
    · refine ⟨.ok (nI m1), V3, nI m1, U4, ?_, ?_, hR.ln ff k4 k8 w4 (by omega), fun k hk => ff k (by omega) (by omega), fun k hk => k4 k (by omega) (by omega), Ans.ok k0⟩
      · show f_X9_noteLine Vc (nI k) = _
        rw [ec, if_neg (by decide), w4.1]
      · show f_X10_noteLine Vm (nI k) = _
        rw [em, if_neg (by decide), w4.2.1]
  · refine ⟨.error 1, Vc, 0, up Vm 208 0 1, ?_, ?_, hR.qq (F191.rf _) (Fq.t _ _), fun _ _ => rfl, fun k hk => up_at (by omega), Ans.er (by simp) (by decide) (up_self _ _ _ _)⟩
    · show f_X9_noteLine Vc x1 = _
      rw [f_X9_noteLine, a1, bs, if_pos rfl]
    · show f_X10_noteLine Vm x1 = _
      rw [f_X10_noteLine, a2, bs, if_pos rfl, f_X10_noteLine_b14, up_self, if_neg (by decide)]
