/-! states: the class's blocks, the model's rows of 53 -/
theorem up_ev (V : St) (a j : Nat) (x : Int32) (k i : Nat) : up V a j x k i = if k = a then (if i = j then x else V k i) else V k i := by
  by_cases h : k = a
  · subst h
    rw [if_pos rfl, up_me]
    by_cases h2 : i = j
    · rw [if_pos h2, h2, pk_us]
    · rw [if_neg h2, pk_un h2]
  · rw [if_neg h, up_at h]
theorem up_self (V : St) (a j : Nat) (x : Int32) : up V a j x a j = x := by rw [up_ev, if_pos rfl, if_pos rfl]
theorem up_ne (V : St) {a j : Nat} {x : Int32} {k i : Nat} (h : k = a → i ≠ j) : up V a j x k i = V k i := by
  rw [up_ev]
  by_cases c : k = a
  · rw [if_pos c, if_neg (h c)]
  · rw [if_neg c]
def SR (V : St) (B : Nat) (g : Nat → Int32) : Prop :=
  (V B 5 = g 0 ∧ V B 3 = g 1 ∧ V B 4 = g 2 ∧ V B 6 = g 3 ∧ V B 7 = g 4 ∧ V B 8 = g 5) ∧
  (∀ n w, n < 3 → w < 5 → V (B + 4 + n) w = g (6 + 5 * n + w)) ∧
  (∀ e w, e < 4 → w < 2 → V (B + 7 + e) w = g (21 + 2 * e + w)) ∧
  (∀ k, k < 6 → k < (g 2).toNatClampNeg → V (B + 11 + k) 0 = g (29 + 4 * k) ∧ V (B + 11 + k) 1 = g (29 + 4 * k + 2) ∧ V (B + 11 + k) 2 = g (29 + 4 * k + 3))
def GN (g : Nat → Int32) (n : Nat) : Prop := I24 (g (6 + 5 * n)) ∧ I24 (g (6 + 5 * n + 1)) ∧ Sub (g (6 + 5 * n + 2)) RT ∧ Sub (g (6 + 5 * n + 3)) DN ∧ ∃ d, d ≤ 4 ∧ g (6 + 5 * n + 4) = nI d
def GT (g : Nat → Int32) (k : Nat) : Prop := ∃ m, m < 3 ∧ g (29 + 4 * k) = nI m ∧ g (29 + 4 * k + 1) = g (29 + 4 * k + 2) ||| g (29 + 4 * k + 3) ∧ Hang (g (29 + 4 * k + 1))
def GG (g : Nat → Int32) : Prop :=
  (∃ t, t ≤ 4 ∧ g 0 = nI t) ∧ (∃ e, e ≤ 4 ∧ g 1 = nI e) ∧ (∃ n, n ≤ 6 ∧ g 2 = nI n ∧ ∀ k, k < n → GT g k) ∧ (∀ n, n < 3 → GN g n)
theorem SR.cg {V : St} {B : Nat} {g g2 : Nat → Int32} (h : SR V B g) (e : ∀ q, q < 53 → g2 q = g q) : SR V B g2 := by
  obtain ⟨⟨h1, h2, h3, h4, h5, h6⟩, hn, he, ho⟩ := h
  refine ⟨⟨?_, ?_, ?_, ?_, ?_, ?_⟩, fun n w a b => ?_, fun n w a b => ?_, fun k a b => ?_⟩
  · rw [e 0 (by decide), h1]
  · rw [e 1 (by decide), h2]
  · rw [e 2 (by decide), h3]
  · rw [e 3 (by decide), h4]
  · rw [e 4 (by decide), h5]
  · rw [e 5 (by decide), h6]
  · rw [e _ (by omega), hn n w a b]
  · rw [e _ (by omega), he n w a b]
  · rw [e 2 (by decide)] at b
    rw [e _ (by omega), e _ (by omega), e _ (by omega)]
    exact ho k a b
theorem GN.cg {g g2 : Nat → Int32} {n : Nat} (hn : n < 3) (h : GN g n) (e : ∀ q, q < 53 → g2 q = g q) : GN g2 n := by
  unfold GN
  rw [e _ (by omega), e _ (by omega), e _ (by omega), e _ (by omega), e _ (by omega)]
  exact h
theorem GT.cg {g g2 : Nat → Int32} {n : Nat} (hn : n < 6) (h : GT g n) (e : ∀ q, q < 53 → g2 q = g q) : GT g2 n := by
  unfold GT
  rw [e _ (by omega), e _ (by omega), e _ (by omega), e _ (by omega)]
  exact h
theorem GG.cg {g g2 : Nat → Int32} (h : GG g) (e : ∀ q, q < 53 → g2 q = g q) : GG g2 := by
  obtain ⟨⟨t, t1, t2⟩, ⟨d, d1, d2⟩, ⟨n, n1, n2, n3⟩, hn⟩ := h
  exact ⟨⟨t, t1, (e 0 (by decide)).trans t2⟩, ⟨d, d1, (e 1 (by decide)).trans d2⟩, ⟨n, n1, (e 2 (by decide)).trans n2, fun k hk => (n3 k hk).cg (by omega) e⟩, fun m hm => (hn m hm).cg hm e⟩
theorem SR.fr {V V1 : St} {B : Nat} {g : Nat → Int32} (h : SR V B g) (e : ∀ k, B ≤ k → k < B + 17 → V1 k = V k) : SR V1 B g := by
  obtain ⟨h1, hn, he, ho⟩ := h
  refine ⟨?_, fun n w a b => ?_, fun n w a b => ?_, fun k a b => ?_⟩
  · rw [e B (Nat.le_refl _) (by omega)]
    exact h1
  · rw [e _ (by omega) (by omega)]
    exact hn n w a b
  · rw [e _ (by omega) (by omega)]
    exact he n w a b
  · rw [e _ (by omega) (by omega)]
    exact ho k a b
/-! numbered -/
theorem net_eq (V : St) (B : Nat) {n : Nat} (hn : n < 3) : f_X8_netNumbered V B (nI n) = some (B + 4 + n) := by
  have h : ∀ n : Fin 3, f_X9_isNet (nI n.val) = some 1 := by decide +kernel
  rw [f_X8_netNumbered, h ⟨n, hn⟩, bs, if_neg (by decide), ix_nI hn (by decide), bs]
theorem ed_eq (V : St) (B : Nat) {n : Nat} (hn : n < 4) : f_X8_editorNumbered V B (nI n) = some (B + 7 + n) := by
  rw [f_X8_editorNumbered, if_neg (nI_pos (by omega)), if_neg (show ¬ (4 : Int32) ≤ nI n from nI_ge (b := 4) hn (by decide)), ix_nI hn (by decide), bs]
theorem no_eq (V : St) (B : Nat) {n : Nat} (hn : n < 6) : f_X8_noteNumbered V B (nI n) = some (B + 11 + n) := by
  rw [f_X8_noteNumbered, if_neg (nI_pos (by omega)), if_neg (show ¬ (6 : Int32) ≤ nI n from nI_ge (b := 6) hn (by decide)), ix_nI hn (by decide), bs]
theorem of_eq (V : St) {n w : Nat} (hn : n < 3) (hw : w < 5) : f_X10_of V (nI n) (nI w) = some (V 209 (6 + 5 * n + w)) := by
  rw [f_X10_of, show ((6 : Int32) + 5 * nI n) + nI w = nI (6 + 5 * n + w) from by rw [show (6 : Int32) = nI 6 from rfl, show (5 : Int32) = nI 5 from rfl, pk_mul, nI_add, nI_add], ix_nI (by omega) (by decide), bs]
theorem on_eq (V : St) {k w : Nat} (hk : k < 6) (hw : w < 4) : f_X10_ofNote V (nI k) (nI w) = some (V 209 (29 + 4 * k + w)) := by
  rw [f_X10_ofNote, show ((29 : Int32) + 4 * nI k) + nI w = nI (29 + 4 * k + w) from by rw [show (29 : Int32) = nI 29 from rfl, show (4 : Int32) = nI 4 from rfl, pk_mul, nI_add, nI_add], ix_nI (by omega) (by decide), bs]
/-! copies -/
theorem cp3 (V : St) {a b : Nat} (h : ¬ b = a) : ∃ V1, f_X3_copyFrom V a b = some V1 ∧ (∀ k, k ≠ a → V1 k = V k) ∧ ∀ w, w < 5 → V1 a w = V b w := by
  refine ⟨_, rfl, fun k hk => ?_, fun w hw => ?_⟩
  · simp only [up_at hk]
  · have : w = 0 ∨ w = 1 ∨ w = 2 ∨ w = 3 ∨ w = 4 := by omega
    rcases this with rfl | rfl | rfl | rfl | rfl <;> simp [up_ev, h]
theorem cp0 (V : St) {a b : Nat} (h : ¬ b = a) : ∃ V1, f_X0_copyFrom V a b = some V1 ∧ (∀ k, k ≠ a → V1 k = V k) ∧ ∀ w, w < 2 → V1 a w = V b w := by
  refine ⟨_, rfl, fun k hk => ?_, fun w hw => ?_⟩
  · simp only [up_at hk]
  · have : w = 0 ∨ w = 1 := by omega
    rcases this with rfl | rfl <;> simp [up_ev, h]
theorem cp4 (V : St) {a b : Nat} (h : ¬ b = a) : ∃ V1, f_X4_copyFrom V a b = some V1 ∧ (∀ k, k ≠ a → V1 k = V k) ∧ ∀ w, w < 3 → V1 a w = V b w := by
  refine ⟨_, rfl, fun k hk => ?_, fun w hw => ?_⟩
  · simp only [up_at hk]
  · have : w = 0 ∨ w = 1 ∨ w = 2 := by omega
    rcases this with rfl | rfl | rfl <;> simp [up_ev, h]
section CPF
variable {V0 : St} {a b : Nat}
def Out (a : Nat) (V0 V : St) : Prop := ∀ k, ¬ (a ≤ k ∧ k < a + 17) → V k = V0 k
theorem cf_o (hab : a + 17 ≤ b ∨ b + 17 ≤ a) : ∀ (n j : Nat) (V : St), j ≤ 6 → 6 < n + j → Out a V0 V → (∀ i w, i < 3 → w < 5 → V (a + 4 + i) w = V0 (b + 4 + i) w) → (∀ i w, i < 4 → w < 2 → V (a + 7 + i) w = V0 (b + 7 + i) w) → (∀ i w, i < j → w < 3 → V (a + 11 + i) w = V0 (b + 11 + i) w) →
    ∃ V1, f_X8_copyFrom_b58 n V a b (nI j) = some V1 ∧ Out a V0 V1 ∧ (∀ w, 3 ≤ w → w < 9 → V1 a w = V0 b w) ∧ (∀ i w, i < 3 → w < 5 → V1 (a + 4 + i) w = V0 (b + 4 + i) w) ∧ (∀ i w, i < 4 → w < 2 → V1 (a + 7 + i) w = V0 (b + 7 + i) w) ∧ (∀ i w, i < 6 → w < 3 → V1 (a + 11 + i) w = V0 (b + 11 + i) w)
  | 0, j, V, h1, h2, _, _, _, _ => by omega
  | n + 1, j, V, h1, h2, hO, hN, hE, hT => by
    rw [f_X8_copyFrom_b58]
    by_cases e : j = 6
    · subst e
      rw [if_pos (show (6 : Int32) ≤ nI 6 by decide)]
      have hba : ¬ b = a := by omega
      have hb : V b = V0 b := hO b (by omega)
      refine ⟨_, rfl, fun k hk => ?_, fun w w1 w2 => ?_, fun i w u1 u2 => ?_, fun i w u1 u2 => ?_, fun i w u1 u2 => ?_⟩
      · simp only [up_at (show k ≠ a by omega)]
        exact hO k hk
      · have : w = 3 ∨ w = 4 ∨ w = 5 ∨ w = 6 ∨ w = 7 ∨ w = 8 := by omega
        rcases this with rfl | rfl | rfl | rfl | rfl | rfl <;> simp [up_ev, hba, hb]
      · simp only [up_at (show a + 4 + i ≠ a by omega)]
        exact hN i w u1 u2
      · simp only [up_at (show a + 7 + i ≠ a by omega)]
        exact hE i w u1 u2
      · simp only [up_at (show a + 11 + i ≠ a by omega)]
        exact hT i w u1 u2
    · have hj : j < 6 := by omega
      rw [if_neg (show ¬ (6 : Int32) ≤ nI j from nI_ge (b := 6) hj (by decide)), ix_nI hj (by decide), bs, bs]
      obtain ⟨V1, g1, g2, g3⟩ := cp4 V (a := a + 3 + 8 + j) (b := b + 3 + 8 + j) (by omega)
      rw [g1, bs, nI_1]
      refine cf_o hab n (j + 1) V1 (by omega) (by omega) (fun k hk => ?_) (fun i w u1 u2 => ?_) (fun i w u1 u2 => ?_) (fun i w u1 u2 => ?_)
      · rw [g2 k (by omega)]
        exact hO k hk
      · rw [g2 _ (by omega)]
        exact hN i w u1 u2
      · rw [g2 _ (by omega)]
        exact hE i w u1 u2
      · by_cases c : i = j
        · subst c
          rw [show a + 11 + i = a + 3 + 8 + i from by omega, show b + 11 + i = b + 3 + 8 + i from by omega, g3 w u2, hO _ (by omega)]
        · rw [g2 _ (by omega)]
          exact hT i w (by omega) u2
theorem cf_e (hab : a + 17 ≤ b ∨ b + 17 ≤ a) : ∀ (n j : Nat) (V : St), j ≤ 4 → 4 < n + j → Out a V0 V → (∀ i w, i < 3 → w < 5 → V (a + 4 + i) w = V0 (b + 4 + i) w) → (∀ i w, i < j → w < 2 → V (a + 7 + i) w = V0 (b + 7 + i) w) →
    ∃ V1, f_X8_copyFrom_b30 n V a b (nI j) = some V1 ∧ Out a V0 V1 ∧ (∀ w, 3 ≤ w → w < 9 → V1 a w = V0 b w) ∧ (∀ i w, i < 3 → w < 5 → V1 (a + 4 + i) w = V0 (b + 4 + i) w) ∧ (∀ i w, i < 4 → w < 2 → V1 (a + 7 + i) w = V0 (b + 7 + i) w) ∧ (∀ i w, i < 6 → w < 3 → V1 (a + 11 + i) w = V0 (b + 11 + i) w)
  | 0, j, V, h1, h2, _, _, _ => by omega
  | n + 1, j, V, h1, h2, hO, hN, hE => by
    rw [f_X8_copyFrom_b30]
    by_cases e : j = 4
    · subst e
      rw [if_pos (show (4 : Int32) ≤ nI 4 by decide)]
      exact cf_o hab 500 0 V (by omega) (by omega) hO hN hE (fun i w h => absurd h (Nat.not_lt_zero i))
    · have hj : j < 4 := by omega
      rw [if_neg (show ¬ (4 : Int32) ≤ nI j from nI_ge (b := 4) hj (by decide)), ix_nI hj (by decide), bs, bs]
      obtain ⟨V1, g1, g2, g3⟩ := cp0 V (a := a + 2 + 5 + j) (b := b + 2 + 5 + j) (by omega)
      rw [g1, bs, nI_1]
      refine cf_e hab n (j + 1) V1 (by omega) (by omega) (fun k hk => ?_) (fun i w u1 u2 => ?_) (fun i w u1 u2 => ?_)
      · rw [g2 k (by omega)]
        exact hO k hk
      · rw [g2 _ (by omega)]
        exact hN i w u1 u2
      · by_cases c : i = j
        · subst c
          rw [show a + 7 + i = a + 2 + 5 + i from by omega, show b + 7 + i = b + 2 + 5 + i from by omega, g3 w u2, hO _ (by omega)]
        · rw [g2 _ (by omega)]
          exact hE i w (by omega) u2
theorem cf_n (hab : a + 17 ≤ b ∨ b + 17 ≤ a) : ∀ (n j : Nat) (V : St), j ≤ 3 → 3 < n + j → Out a V0 V → (∀ i w, i < j → w < 5 → V (a + 4 + i) w = V0 (b + 4 + i) w) →
    ∃ V1, f_X8_copyFrom_b2 n V a b (nI j) = some V1 ∧ Out a V0 V1 ∧ (∀ w, 3 ≤ w → w < 9 → V1 a w = V0 b w) ∧ (∀ i w, i < 3 → w < 5 → V1 (a + 4 + i) w = V0 (b + 4 + i) w) ∧ (∀ i w, i < 4 → w < 2 → V1 (a + 7 + i) w = V0 (b + 7 + i) w) ∧ (∀ i w, i < 6 → w < 3 → V1 (a + 11 + i) w = V0 (b + 11 + i) w)
  | 0, j, V, h1, h2, _, _ => by omega
  | n + 1, j, V, h1, h2, hO, hN => by
    rw [f_X8_copyFrom_b2]
    by_cases e : j = 3
    · subst e
      rw [if_pos (show (3 : Int32) ≤ nI 3 by decide)]
      exact cf_e hab 500 0 V (by omega) (by omega) hO hN (fun i w h => absurd h (Nat.not_lt_zero i))
    · have hj : j < 3 := by omega
      rw [if_neg (show ¬ (3 : Int32) ≤ nI j from nI_ge (b := 3) hj (by decide)), ix_nI hj (by decide), bs, bs]
      obtain ⟨V1, g1, g2, g3⟩ := cp3 V (a := a + 1 + 3 + j) (b := b + 1 + 3 + j) (by omega)
      rw [g1, bs, nI_1]
      refine cf_n hab n (j + 1) V1 (by omega) (by omega) (fun k hk => ?_) (fun i w u1 u2 => ?_)
      · rw [g2 k (by omega)]
        exact hO k hk
      · by_cases c : i = j
        · subst c
          rw [show a + 4 + i = a + 1 + 3 + i from by omega, show b + 4 + i = b + 1 + 3 + i from by omega, g3 w u2, hO _ (by omega)]
        · rw [g2 _ (by omega)]
          exact hN i w (by omega) u2
end CPF
theorem cf_eq (V : St) {a b : Nat} (hab : a + 17 ≤ b ∨ b + 17 ≤ a) : ∃ V1, f_X8_copyFrom V a b = some V1 ∧ Out a V V1 ∧ ∀ g, SR V b g → SR V1 a g := by
  obtain ⟨V1, g1, g2, g3, g4, g5, g6⟩ := cf_n (V0 := V) hab 500 0 V (by omega) (by omega) (fun _ _ => rfl) (fun i w h => absurd h (Nat.not_lt_zero i))
  refine ⟨V1, g1, g2, fun g hg => ?_⟩
  obtain ⟨⟨h1, h2, h3, h4, h5, h6⟩, hn, he, ho⟩ := hg
  refine ⟨⟨?_, ?_, ?_, ?_, ?_, ?_⟩, fun n w a b => ?_, fun n w a b => ?_, fun k a b => ?_⟩
  · rw [g3 5 (by decide) (by decide), h1]
  · rw [g3 3 (by decide) (by decide), h2]
  · rw [g3 4 (by decide) (by decide), h3]
  · rw [g3 6 (by decide) (by decide), h4]
  · rw [g3 7 (by decide) (by decide), h5]
  · rw [g3 8 (by decide) (by decide), h6]
  · rw [g4 n w a b, hn n w a b]
  · rw [g5 n w a b, he n w a b]
  · rw [g6 k 0 a (by decide), g6 k 1 a (by decide), g6 k 2 a (by decide)]
    exact ho k a b
/-! the history -/
def HRc (V : St) (G : Nat → Nat → Int32) (c : Nat) : Prop := ∃ o, o < 8 ∧ V 52 1 = nI o ∧ V 52 2 = nI c ∧ ∀ j, j < c → SR V (54 + 17 * ((o + j) % 8)) (G j)
def HRm (V : St) (G : Nat → Nat → Int32) (c : Nat) : Prop := V 208 5 = nI c ∧ ∀ j q, j < c → q < 53 → V 212 (53 * j + q) = G j q
def Gp (G : Nat → Nat → Int32) (c : Nat) (g : Nat → Int32) : Nat → Nat → Int32 := if c < 8 then fun j => if j = c then g else G j else fun j => if j = 7 then g else G (j + 1)
def cp8 (c : Nat) : Nat := if c < 8 then c + 1 else 8
theorem flo8 {m : Nat} (h : m < 17) : f_J9_floorMod_7cf53 (nI m) 8 = some (nI (m % 8)) := by
  have : ∀ m : Fin 17, f_J9_floorMod_7cf53 (nI m.val) 8 = some (nI (m.val % 8)) := by decide +kernel
  exact this ⟨m, h⟩
def FH (V V1 : St) : Prop := ∀ k, k < 52 ∨ 190 ≤ k → V1 k = V k
theorem push_c {V : St} {G : Nat → Nat → Int32} {c s : Nat} {g : Nat → Int32} (hc : c ≤ 8) (h : HRc V G c) (hs : SR V s g) (hs2 : s + 17 ≤ 52) : ∃ V1, f_X1_push V s = some V1 ∧ FH V V1 ∧ HRc V1 (Gp G c g) (cp8 c) := by
  obtain ⟨o, ho, h1, h2, h3⟩ := h
  have hm : (o + c) % 8 < 8 := Nat.mod_lt _ (by decide)
  obtain ⟨V1, g1, g2, g3⟩ := cf_eq V (a := 53 + 1 + 17 * ((o + c) % 8)) (b := s) (by omega)
  rw [f_X1_push, h1, h2, nI_add, flo8 (by omega), bs, ix_nI hm (by decide), bs, g1, bs]
  have e52 : V1 52 = V 52 := g2 52 (by omega)
  rw [e52, h2, h1]
  by_cases hc8 : c < 8
  · rw [if_neg (show ¬ (8 : Int32) ≤ nI c from nI_ge (b := 8) hc8 (by decide)), nI_1]
    refine ⟨_, rfl, fun k hk => ?_, o, ho, ?_, ?_, fun j hj => ?_⟩
    · rw [up_at (by omega), g2 k (by omega)]
    · rw [up_ne _ (fun _ => by decide), e52, h1]
    · rw [up_self, cp8, if_pos hc8]
    · rw [cp8, if_pos hc8] at hj
      unfold Gp
      rw [if_pos hc8]
      by_cases e : j = c
      · subst e
        show SR _ _ (if j = j then g else G j)
        rw [if_pos rfl]
        exact (g3 g hs).fr fun k k1 k2 => up_at (by omega)
      · show SR _ _ (if j = c then g else G j)
        rw [if_neg e]
        refine (h3 j (by omega)).fr fun k k1 k2 => ?_
        rw [up_at (by omega), g2 k (by omega)]
  · have hc9 : c = 8 := by omega
    subst hc9
    rw [if_pos (show (8 : Int32) ≤ nI 8 by decide), nI_1, flo8 (by omega), bs]
    refine ⟨_, rfl, fun k hk => ?_, (o + 1) % 8, Nat.mod_lt _ (by decide), ?_, ?_, fun j hj => ?_⟩
    · rw [up_at (by omega), g2 k (by omega)]
    · rw [up_self]
    · rw [up_ne _ (fun _ => by decide), e52, h2]
      rfl
    · have hj : j < 8 := hj
      show SR _ _ (if j = 7 then g else G (j + 1))
      by_cases e : j = 7
      · subst e
        rw [if_pos rfl]
        have ee : (54 + 17 * (((o + 1) % 8 + 7) % 8)) = 53 + 1 + 17 * ((o + 8) % 8) := by omega
        rw [ee]
        exact (g3 g hs).fr fun k k1 k2 => up_at (by omega)
      · rw [if_neg e]
        have ee : ((o + 1) % 8 + j) % 8 = (o + (j + 1)) % 8 := by omega
        rw [ee]
        refine (h3 (j + 1) (by omega)).fr fun k k1 k2 => ?_
        rw [up_at (by omega), g2 k (by omega)]
theorem pop_c {V : St} {G : Nat → Nat → Int32} {c s : Nat} (hc : c < 8) (h : HRc V G (c + 1)) (hs2 : s + 17 ≤ 52) : ∃ V1, f_X1_popInto V s = some V1 ∧ (∀ k, k ≠ 52 → ¬ (s ≤ k ∧ k < s + 17) → V1 k = V k) ∧ HRc V1 G c ∧ SR V1 s (G c) := by
  obtain ⟨o, ho, h1, h2, h3⟩ := h
  have hm : (o + c) % 8 < 8 := Nat.mod_lt _ (by decide)
  obtain ⟨V0, hV0⟩ : ∃ z, z = up V 52 2 (nI c) := ⟨_, rfl⟩
  have e1 : V0 52 1 = nI o := by rw [hV0, up_ne _ (fun _ => by decide), h1]
  have e2 : V0 52 2 = nI c := by rw [hV0, up_self]
  have e3 : ∀ k, k ≠ 52 → V0 k = V k := fun k hk => by rw [hV0, up_at hk]
  obtain ⟨V1, g1, g2, g3⟩ := cf_eq V0 (a := s) (b := 53 + 1 + 17 * ((o + c) % 8)) (by omega)
  rw [f_X1_popInto, h2, if_neg (nI_nle (by omega) (by omega)), nI_pred, ← hV0, e1, e2, nI_add, flo8 (by omega), bs, ix_nI hm (by decide), bs, g1, bs]
  refine ⟨V1, rfl, fun k k1 k2 => (g2 k k2).trans (e3 k k1), ⟨o, ho, ?_, ?_, fun j hj => ?_⟩, ?_⟩
  · rw [g2 52 (by omega), e1]
  · rw [g2 52 (by omega), e2]
  · refine (h3 j (by omega)).fr fun k k1 k2 => ?_
    rw [g2 k (by omega), e3 k (by omega)]
  · refine g3 _ ((h3 c (by omega)).fr fun k k1 k2 => ?_)
    rw [e3 k (by omega)]
/-! the model's copies of rows -/
theorem rem_loop : ∀ (n p : Nat) (V : St), p ≤ 53 → 53 < n + p → (∀ q, q < p → V 210 q = V 209 q) → ∃ V1, f_X10_remembers_b7 n V (nI p) = some V1 ∧ (∀ k, k ≠ 210 → V1 k = V k) ∧ ∀ q, q < 53 → V1 210 q = V 209 q
  | 0, p, V, h1, h2, _ => by omega
  | n + 1, p, V, h1, h2, h => by
    rw [f_X10_remembers_b7]
    by_cases e : p = 53
    · subst e
      rw [if_pos (show (53 : Int32) ≤ nI 53 by decide)]
      exact ⟨V, rfl, fun _ _ => rfl, h⟩
    · have hp : p < 53 := by omega
      rw [if_neg (show ¬ (53 : Int32) ≤ nI p from nI_ge (b := 53) hp (by decide)), ix_nI hp (by decide), bs, bs, nI_1]
      obtain ⟨V1, g1, g2, g3⟩ := rem_loop n (p + 1) (up V 210 p (V 209 p)) (by omega) (by omega) (fun q hq => by
        rw [up_at (show 209 ≠ 210 by decide)]
        by_cases c : q = p
        · rw [c, up_self]
        · rw [up_ne _ (fun _ => c), h q (by omega)])
      refine ⟨V1, g1, fun k hk => by rw [g2 k hk, up_at hk], fun q hq => ?_⟩
      rw [g3 q hq, up_at (show 209 ≠ 210 by decide)]
theorem rem_eq (V : St) : ∃ V1, f_X10_remembers V = some V1 ∧ (∀ k, k ≠ 210 → V1 k = up V 208 0 0 k) ∧ ∀ q, q < 53 → V1 210 q = V 209 q := by
  obtain ⟨V1, g1, g2, g3⟩ := rem_loop 500 0 (up V 208 0 0) (by decide) (by decide) (fun q hq => absurd hq (Nat.not_lt_zero q))
  exact ⟨V1, g1, g2, fun q hq => by rw [g3 q hq, up_at (show 209 ≠ 208 by decide)]⟩
theorem chg_w {c : Nat} (hc : c < 8) (x1 : Int32) : ∀ (n p : Nat) (V : St), V 208 5 = nI (c + 1) → p ≤ 53 → 53 < n + p → (∀ q, q < p → V 212 (53 * c + q) = V 210 q) → ∃ V1, f_X10_changed_b54 n V x1 (nI p) = some (x1, V1) ∧ (∀ k, k ≠ 212 → V1 k = V k) ∧ (∀ q, q < 53 → V1 212 (53 * c + q) = V 210 q) ∧ ∀ i, (i < 53 * c ∨ 53 * c + 53 ≤ i) → V1 212 i = V 212 i
  | 0, p, V, h5, h1, h2, _ => by omega
  | n + 1, p, V, h5, h1, h2, h => by
    rw [f_X10_changed_b54]
    by_cases e : p = 53
    · subst e
      rw [if_pos (show (53 : Int32) ≤ nI 53 by decide)]
      exact ⟨V, rfl, fun _ _ => rfl, h, fun _ _ => rfl⟩
    · have hp : p < 53 := by omega
      have ee : (53 : Int32) * (V 208 5 - 1) + nI p = nI (53 * c + p) := by rw [h5, nI_pred, show (53 : Int32) = nI 53 from rfl, pk_mul, nI_add]
      rw [if_neg (show ¬ (53 : Int32) ≤ nI p from nI_ge (b := 53) hp (by decide)), ix_nI hp (by decide), bs, ee, ix_nI (by omega) (by decide), bs, nI_1]
      obtain ⟨V1, g1, g2, g3, g4⟩ := chg_w hc x1 n (p + 1) (up V 212 (53 * c + p) (V 210 p)) (by rw [up_at (show 208 ≠ 212 by decide), h5]) (by omega) (by omega) (fun q hq => by
        rw [up_at (show 210 ≠ 212 by decide)]
        by_cases z : q = p
        · rw [z, up_self]
        · rw [up_ne _ (fun _ => by omega), h q (by omega)])
      refine ⟨V1, g1, fun k hk => by rw [g2 k hk, up_at hk], fun q hq => ?_, fun i hi => ?_⟩
      · rw [g3 q hq, up_at (show 210 ≠ 212 by decide)]
      · rw [g4 i hi, up_ne _ (fun _ => by omega)]
theorem chg_s (x1 : Int32) : ∀ (n p : Nat) (V V0 : St), p ≤ 371 → 371 < n + p → (∀ k, k ≠ 212 → V k = V0 k) → (∀ q, q < p → V 212 q = V0 212 (q + 53)) → (∀ q, p ≤ q → V 212 q = V0 212 q) → ∃ V1, f_X10_changed_b11 n V x1 (nI p) = f_X10_changed_b52 V1 x1 ∧ (∀ k, k ≠ 212 → V1 k = V0 k) ∧ ∀ q, q < 371 → V1 212 q = V0 212 (q + 53)
  | 0, p, V, V0, h1, h2, _, _, _ => by omega
  | n + 1, p, V, V0, h1, h2, h3, h4, h5 => by
    rw [f_X10_changed_b11]
    by_cases e : p = 371
    · subst e
      rw [if_pos (show (371 : Int32) ≤ nI 371 by decide)]
      exact ⟨V, rfl, h3, h4⟩
    · have hp : p < 371 := by omega
      rw [if_neg (show ¬ (371 : Int32) ≤ nI p from nI_ge (b := 371) hp (by decide)), show nI p + 53 = nI (p + 53) from nI_add p 53, ix_nI (by omega) (by decide), bs, ix_nI (by omega) (by decide), bs, nI_1]
      refine chg_s x1 n (p + 1) _ V0 (by omega) (by omega) (fun k hk => by rw [up_at hk, h3 k hk]) (fun q hq => ?_) (fun q hq => ?_)
      · by_cases z : q = p
        · rw [z, up_self, h5 _ (by omega)]
        · rw [up_ne _ (fun _ => z), h4 q (by omega)]
      · rw [up_ne _ (fun _ => by omega), h5 q (by omega)]
theorem chg_eq {V : St} {G : Nat → Nat → Int32} {c : Nat} {g : Nat → Int32} (hc : c ≤ 8) (h : HRm V G c) (hg : ∀ q, q < 53 → V 210 q = g q) (x1 : Int32) : ∃ V1, f_X10_changed V x1 = some (x1, V1) ∧ (∀ k, k ≠ 208 → k ≠ 212 → V1 k = V k) ∧ (∀ j, j ≠ 5 → V1 208 j = V 208 j) ∧ HRm V1 (Gp G c g) (cp8 c) := by
  obtain ⟨h1, h2⟩ := h
  rw [f_X10_changed, h1]
  by_cases hc8 : c < 8
  · rw [if_neg (fun e => by have := (nI_eq (a := c) (b := 8) (by omega) (by decide)).mp e; omega), nI_1]
    obtain ⟨V1, g1, g2, g3, g4⟩ := chg_w hc8 x1 500 0 (up V 208 5 (nI (c + 1))) (up_self _ _ _ _) (by decide) (by decide) (fun q hq => absurd hq (Nat.not_lt_zero q))
    refine ⟨V1, g1, fun k k1 k2 => by rw [g2 k k2, up_at k1], fun j hj => ?_, ?_, fun j q hj hq => ?_⟩
    · rw [g2 208 (by decide), up_ne _ (fun _ => hj)]
    · rw [g2 208 (by decide), up_self, cp8, if_pos hc8]
    · rw [cp8, if_pos hc8] at hj
      unfold Gp
      rw [if_pos hc8]
      show _ = (if j = c then g else G j) q
      by_cases e : j = c
      · subst e
        rw [if_pos rfl, g3 q hq, up_at (show 210 ≠ 208 by decide), hg q hq]
      · rw [if_neg e, g4 _ (by omega), up_at (show 212 ≠ 208 by decide), h2 j q (by omega) hq]
  · have hc9 : c = 8 := by omega
    subst hc9
    rw [if_pos (show nI 8 = 8 by decide)]
    obtain ⟨V2, k1, k2, k3⟩ := chg_s x1 500 0 V V (by decide) (by decide) (fun _ _ => rfl) (fun q hq => absurd hq (Nat.not_lt_zero q)) (fun _ _ => rfl)
    obtain ⟨V1, g1, g2, g3, g4⟩ := chg_w (c := 7) (by decide) x1 500 0 V2 (by rw [k2 208 (by decide), h1]) (by decide) (by decide) (fun q hq => absurd hq (Nat.not_lt_zero q))
    refine ⟨V1, k1.trans g1, fun k a b => by rw [g2 k b, k2 k b], fun j hj => ?_, ?_, fun j q hj hq => ?_⟩
    · rw [g2 208 (by decide), k2 208 (by decide)]
    · rw [g2 208 (by decide), k2 208 (by decide), h1]
      rfl
    · have hj : j < 8 := hj
      show _ = (if j = 7 then g else G (j + 1)) q
      by_cases e : j = 7
      · subst e
        rw [if_pos rfl, g3 q hq, k2 210 (by decide), hg q hq]
      · rw [if_neg e, g4 _ (by omega), k3 _ (by omega), show 53 * j + q + 53 = 53 * (j + 1) + q from by omega, h2 (j + 1) q (by omega) hq]
