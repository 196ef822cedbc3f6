/-! which order begins here -/
def frm : Nat → List Int32
  | 0 => [107, 110, 111, 116, 32, 68, 32, 78, 61, 68]
  | 1 => [116, 101, 97, 114, 32, 68, 32, 78, 45, 78]
  | 2 => [109, 101, 110, 100, 32, 68, 32, 78, 45, 78, 47, 68]
  | 3 => [101, 100, 105, 116, 111, 114, 32, 78]
  | 4 => [116, 105, 100, 101, 32, 68]
  | 5 => [115, 105, 110, 107, 32, 68, 61, 68]
  | 6 => [110, 111, 116, 101, 32, 68, 32, 78]
  | _ => [100, 114, 111, 112, 32, 68]
def f1 : Nat → Int32
  | 0 => 107
  | 1 => 116
  | 2 => 109
  | 3 => 101
  | 4 => 116
  | 5 => 115
  | 6 => 110
  | _ => 100
def f2 : Nat → Int32
  | 0 => 110
  | 1 => 101
  | 2 => 101
  | 3 => 100
  | 4 => 105
  | 5 => 105
  | 6 => 111
  | _ => 114
def cdo : Nat → Int32
  | 0 => 107
  | 1 => 116
  | 2 => 109
  | 3 => 101
  | 4 => 119
  | 5 => 115
  | 6 => 110
  | _ => 100
theorem frm_stx : ∀ w : Fin 8, stx (19 + w.val) = some (frm w.val) := by decide +kernel
theorem frm_of : ∀ w : Fin 8, f_X7_formOf (nI w.val) = some (19 + w.val) := by decide +kernel
theorem frm_n : ∀ w : Fin 8, dct (frm w.val) ≤ 4 ∧ (frm w.val).length < 60 ∧ 6 ≤ (frm w.val).length := by decide +kernel
theorem frm_2 : ∀ w : Fin 8, frm w.val = f1 w.val :: f2 w.val :: (frm w.val).drop 2 ∧ f1 w.val ≠ 68 ∧ f1 w.val ≠ 78 ∧ f2 w.val ≠ 68 ∧ f2 w.val ≠ 78 := by decide +kernel
def opsOf : Nat → List MO
  | 0 => [.inl 38, .inr (1, 1), .inl 39, .inr (2, 2), .inl 40, .inr (3, 1)]
  | 1 => [.inl 41, .inr (1, 1), .inl 39, .inr (2, 2), .inl 42, .inr (3, 2)]
  | 2 => [.inl 43, .inr (1, 1), .inl 39, .inr (2, 2), .inl 42, .inr (3, 2), .inl 44, .inr (4, 1)]
  | 3 => [.inl 45, .inr (1, 2)]
  | 4 => [.inl 46, .inr (1, 1)]
  | 5 => [.inl 47, .inr (1, 1), .inl 40, .inr (2, 1)]
  | 6 => [.inl 48, .inr (1, 1), .inl 39, .inr (2, 2)]
  | _ => [.inl 49, .inr (1, 1)]
theorem ops_cod : ∀ w : Fin 8, mcod (opsOf w.val) = frm w.val := by decide +kernel
def lokB (t : Nat) : Bool := match stx t with
  | none => false
  | some L => decide (L.length < 60) && L.all fun c => !decide (c = 68) && !decide (c = 78) && !decide (c = -1)
theorem lok_in {t : Nat} (h : lokB t = true) : ∃ L, stx t = some L ∧ L.length < 60 ∧ ∀ c ∈ L, ¬ isD c ∧ ¬ c = -1 := by
  unfold lokB at h
  cases e : stx t with
  | none => rw [e] at h; cases h
  | some L =>
    rw [e] at h
    have h : (decide (L.length < 60) && L.all fun c => !decide (c = 68) && !decide (c = 78) && !decide (c = -1)) = true := h
    rw [Bool.and_eq_true, List.all_eq_true] at h
    refine ⟨L, rfl, of_decide_eq_true h.1, fun c hc => ?_⟩
    have q := h.2 c hc
    rw [Bool.and_eq_true, Bool.and_eq_true, Bool.not_eq_true', Bool.not_eq_true', Bool.not_eq_true'] at q
    have q1 := of_decide_eq_false q.1.1
    have q2 := of_decide_eq_false q.1.2
    have q3 := of_decide_eq_false q.2
    exact ⟨fun z => z.elim q1 q2, q3⟩
theorem mok_l {i t : Nat} {r : List MO} (h : lokB t = true) (h2 : mok i r) : mok i (.inl t :: r) := And.intro (lok_in h) h2
theorem mok_f {i w : Nat} {r : List MO} (hi : i ≤ 4) (hw : w = 1 ∨ w = 2) (h2 : mok (i + 1) r) : mok i (.inr (i, w) :: r) := And.intro rfl (And.intro hi (And.intro hw h2))
theorem lk_all : lokB 38 = true ∧ lokB 39 = true ∧ lokB 40 = true ∧ lokB 41 = true ∧ lokB 42 = true ∧ lokB 43 = true ∧ lokB 44 = true ∧ lokB 45 = true ∧ lokB 46 = true ∧ lokB 47 = true ∧ lokB 48 = true ∧ lokB 49 = true := by decide +kernel
theorem w8 {w : Nat} (h : w < 8) : w = 0 ∨ w = 1 ∨ w = 2 ∨ w = 3 ∨ w = 4 ∨ w = 5 ∨ w = 6 ∨ w = 7 := by omega
theorem ops_ok {w : Nat} (hw : w < 8) : mok 1 (opsOf w) := by
  obtain ⟨a38, a39, a40, a41, a42, a43, a44, a45, a46, a47, a48, a49⟩ := lk_all
  rcases w8 hw with rfl | rfl | rfl | rfl | rfl | rfl | rfl | rfl
  · exact mok_l a38 (mok_f (by decide) (Or.inl rfl) (mok_l a39 (mok_f (by decide) (Or.inr rfl) (mok_l a40 (mok_f (by decide) (Or.inl rfl) trivial)))))
  · exact mok_l a41 (mok_f (by decide) (Or.inl rfl) (mok_l a39 (mok_f (by decide) (Or.inr rfl) (mok_l a42 (mok_f (by decide) (Or.inr rfl) trivial)))))
  · exact mok_l a43 (mok_f (by decide) (Or.inl rfl) (mok_l a39 (mok_f (by decide) (Or.inr rfl) (mok_l a42 (mok_f (by decide) (Or.inr rfl) (mok_l a44 (mok_f (by decide) (Or.inl rfl) trivial)))))))
  · exact mok_l a45 (mok_f (by decide) (Or.inr rfl) trivial)
  · exact mok_l a46 (mok_f (by decide) (Or.inl rfl) trivial)
  · exact mok_l a47 (mok_f (by decide) (Or.inl rfl) (mok_l a40 (mok_f (by decide) (Or.inl rfl) trivial)))
  · exact mok_l a48 (mok_f (by decide) (Or.inl rfl) (mok_l a39 (mok_f (by decide) (Or.inr rfl) trivial)))
  · exact mok_l a49 (mok_f (by decide) (Or.inl rfl) trivial)
/-- by its first letter, and for t by the second -/
def selT (x : Int32) (b : Bool) : Nat := if x = 107 then 0 else if x = 116 then (if b = true then 4 else 1) else if x = 109 then 2 else if x = 101 then 3 else if x = 115 then 5 else if x = 110 then 6 else if x = 100 then 7 else 8
def sel (T : Nat → Int32) (n p : Nat) : Nat := if p < n then selT (T p) (decide (p + 1 < n) && decide (T (p + 1) = 105)) else 8
def rsl (T : Nat → Int32) (n p : Nat) : Bool × Nat × List Int32 := if sel T n p < 8 then mtp T n (frm (sel T n p)) p else (false, p, [])
theorem selT_f : ∀ w : Fin 8, ∀ b : Bool, selT (f1 w.val) b < 8 ∧ ((w.val = 4 → b = true) → (w.val = 1 → b = false) → selT (f1 w.val) b = w.val) := by decide +kernel
theorem selT_in (x : Int32) (b : Bool) (h : selT x b < 8) : x = f1 (selT x b) ∧ (selT x b = 4 ↔ x = 116 ∧ b = true) := by
  unfold selT at h ⊢
  by_cases h0 : x = 107
  · subst h0
    cases b <;> decide
  rw [if_neg h0] at h ⊢
  by_cases h1 : x = 116
  · subst h1
    cases b <;> decide
  rw [if_neg h1] at h ⊢
  have nx : ∀ k : Nat, k ≠ 4 → (k = 4 ↔ x = 116 ∧ b = true) := fun k hk => ⟨fun e => absurd e hk, fun e => absurd e.1 h1⟩
  by_cases h2 : x = 109
  · rw [if_pos h2]
    exact ⟨h2, nx 2 (by decide)⟩
  rw [if_neg h2] at h ⊢
  by_cases h3 : x = 101
  · rw [if_pos h3]
    exact ⟨h3, nx 3 (by decide)⟩
  rw [if_neg h3] at h ⊢
  by_cases h4 : x = 115
  · rw [if_pos h4]
    exact ⟨h4, nx 5 (by decide)⟩
  rw [if_neg h4] at h ⊢
  by_cases h5 : x = 110
  · rw [if_pos h5]
    exact ⟨h5, nx 6 (by decide)⟩
  rw [if_neg h5] at h ⊢
  by_cases h6 : x = 100
  · rw [if_pos h6]
    exact ⟨h6, nx 7 (by decide)⟩
  rw [if_neg h6] at h
  omega
theorem selT_no {x : Int32} {b : Bool} (h : ¬ selT x b < 8) : x ≠ 107 ∧ x ≠ 116 ∧ x ≠ 109 ∧ x ≠ 101 ∧ x ≠ 115 ∧ x ≠ 110 ∧ x ≠ 100 := by
  have k : ∀ w : Fin 8, x ≠ f1 w.val := fun w e => h (by rw [e]; exact (selT_f w b).1)
  exact ⟨k 0, k 1, k 2, k 3, k 5, k 6, k 7⟩
section OM
variable {T : Nat → Int32} {n : Nat}
theorem fnD (w : Fin 8) : ¬ isD (f1 w.val) ∧ ¬ isD (f2 w.val) := by
  obtain ⟨-, h1, h2, h3, h4⟩ := frm_2 w
  exact ⟨fun e => e.elim h1 h2, fun e => e.elim h3 h4⟩
theorem mt_other {w p : Nat} (hw : w < 8) (h : w ≠ sel T n p) : (mtp T n (frm w) p).1 = false ∧ p ≤ (mtp T n (frm w) p).2.1 ∧ (mtp T n (frm w) p).2.1 ≤ if sel T n p < 8 then p + 1 else p := by
  obtain ⟨d1, d2⟩ := fnD ⟨w, hw⟩
  have d1 : ¬ isD (f1 w) := d1
  have d2 : ¬ isD (f2 w) := d2
  have e := (frm_2 ⟨w, hw⟩).1
  have e : frm w = f1 w :: f2 w :: (frm w).drop 2 := e
  rw [e, mtp_l d1]
  by_cases c : p < n ∧ T p = f1 w
  · have s8 : sel T n p < 8 := by
      unfold sel
      rw [if_pos c.1, c.2]
      exact (selT_f ⟨w, hw⟩ _).1
    rw [if_pos c, mtp_l d2, if_pos s8]
    by_cases c2 : p + 1 < n ∧ T (p + 1) = f2 w
    · refine absurd ?_ h
      unfold sel
      rw [if_pos c.1, c.2]
      refine ((selT_f ⟨w, hw⟩ _).2 (fun q => ?_) (fun q => ?_)).symm
      · have q : w = 4 := q
        subst q
        rw [decide_eq_true c2.1, c2.2]
        rfl
      · have q : w = 1 := q
        subst q
        rw [c2.2, decide_eq_true c2.1]
        rfl
    · rw [if_neg c2]
      exact ⟨rfl, Nat.le_succ _, Nat.le_refl _⟩
  · rw [if_neg c]
    refine ⟨rfl, Nat.le_refl _, ?_⟩
    show p ≤ _
    split <;> omega
theorem sel_in {p : Nat} (h : sel T n p < 8) : p < n ∧ T p = f1 (sel T n p) ∧ (sel T n p = 4 ↔ T p = 116 ∧ (p + 1 < n ∧ T (p + 1) = 105)) := by
  unfold sel at h ⊢
  by_cases c : p < n
  · rw [if_pos c] at h ⊢
    obtain ⟨a, b⟩ := selT_in _ _ h
    refine ⟨c, a, b.trans ?_⟩
    rw [Bool.and_eq_true, decide_eq_true_eq, decide_eq_true_eq]
  · rw [if_neg c] at h
    omega
theorem mt_sel {p : Nat} (h : sel T n p < 8) : p + 1 ≤ (mtp T n (frm (sel T n p)) p).2.1 := by
  obtain ⟨a, b, -⟩ := sel_in h
  obtain ⟨d1, -⟩ := fnD ⟨_, h⟩
  have e := (frm_2 ⟨_, h⟩).1
  have e : frm (sel T n p) = f1 (sel T n p) :: f2 (sel T n p) :: (frm (sel T n p)).drop 2 := e
  have d1 : ¬ isD (f1 (sel T n p)) := d1
  rw [e, mtp_l d1, if_pos ⟨a, b⟩]
  exact (mtp_le _ (p + 1) a).1
theorem rsl_le {p : Nat} (hp : p ≤ n) : p ≤ (rsl T n p).2.1 ∧ (rsl T n p).2.1 ≤ n ∧ ((rsl T n p).1 = true → p + 6 ≤ (rsl T n p).2.1) := by
  unfold rsl
  by_cases c : sel T n p < 8
  · rw [if_pos c]
    obtain ⟨a, b, d⟩ := mtp_le (T := T) (frm (sel T n p)) p hp
    refine ⟨a, b, fun q => ?_⟩
    have e := d q
    have f := (frm_n ⟨_, c⟩).2.2
    have f : 6 ≤ (frm (sel T n p)).length := f
    omega
  · rw [if_neg c]
    exact ⟨Nat.le_refl _, hp, fun q => by cases q⟩
theorem mtp_len : ∀ (L : List Int32) (p : Nat), (mtp T n L p).1 = true → (mtp T n L p).2.2.length = dct L
  | [], _, _ => rfl
  | c :: r, p, h => by
    by_cases d : isD c
    · rw [mtp_d d] at h ⊢
      have di : dct (c :: r) = dct r + 1 := if_pos d
      by_cases e : p < n ∧ dgt (T p) = true
      · rw [if_pos e] at h ⊢
        have h : (mtp T n r (rdv T n (dw c) p 0).2).1 = true := h
        rw [di]
        exact congrArg (· + 1) (mtp_len r _ h)
      · rw [if_neg e] at h
        cases h
    · rw [mtp_l d] at h ⊢
      have di : dct (c :: r) = dct r := if_neg d
      by_cases e : p < n ∧ T p = c
      · rw [if_pos e] at h ⊢
        rw [di]
        exact mtp_len r _ h
      · rw [if_neg e] at h
        cases h
/-! the class -/
theorem imax_nI {a b : Nat} (ha : a < 2 ^ 30) (hb : b < 2 ^ 30) : imax (nI a) (nI b) = nI (max a b) := by
  unfold imax
  by_cases c : a < b
  · rw [if_pos ((nI_ltI (by omega) (by omega)).mpr c), Nat.max_eq_right (by omega)]
  · rw [if_neg (fun q => c ((nI_ltI (by omega) (by omega)).mp q)), Nat.max_eq_left (by omega)]
def F4 (o : Nat) (V V1 : St) : Prop := (∀ k, k ≠ 192 → k ≠ 194 → k ≠ 196 + o → V1 k = V k) ∧ (∀ j, j ≠ 2 → V1 192 j = V 192 j) ∧ ∀ j, j ≠ o → V1 194 j = V 194 j
theorem F4.tr {o : Nat} {V V1 V2 : St} (h : F4 o V V1) (h2 : F4 o V1 V2) : F4 o V V2 := ⟨fun k a b c => (h2.1 k a b c).trans (h.1 k a b c), fun j a => (h2.2.1 j a).trans (h.2.1 j a), fun j a => (h2.2.2 j a).trans (h.2.2 j a)⟩
theorem F3.f4 {o : Nat} (ho : o < 9) {V V1 : St} (h : F3 o V V1) : F4 o V V1 := ⟨fun k a _ c => h.1 k a c, h.2, fun j _ => by rw [h.1 194 (by decide) (by omega)]⟩
theorem pw_eq (V : St) {o : Nat} (ho : o < 9) (x : Int32) : f_X7_putWord V (nI o) x = some (up V 194 o x) := by
  rw [f_X7_putWord, if_neg (nI_pos (by omega)), if_neg (show ¬ (9 : Int32) ≤ nI o from nI_ge (b := 9) ho (by decide)), ix_nI ho (by decide), bs]
theorem ro_lp (hn : n ≤ 60) {o : Nat} (ho : o < 9) {p : Nat} (hp : p ≤ n) : ∀ (f w x q : Nat) (V : St), w ≤ 8 → 8 < f + w → PZ T n q V → x ≤ n + 1 → (w ≤ sel T n p → p ≤ x ∧ x ≤ if sel T n p < 8 then p + 1 else p) → (sel T n p < w → (rsl T n p).1 = false ∧ x = (rsl T n p).2.1) →
    ∃ V1, f_X7_readOrder_b13 f V (nI o) (nI p) (nI x) (nI w) = some (bI (rsl T n p).1, V1) ∧ PZ T n (rsl T n p).2.1 V1 ∧ F4 o V V1 ∧ ((rsl T n p).1 = true → V1 194 o = nI (sel T n p) ∧ ∀ j, j < (rsl T n p).2.2.length → V1 (196 + o) j = (rsl T n p).2.2.getD j 0)
  | 0, w, x, q, V, h1, h2, _, _, _, _ => by omega
  | f + 1, w, x, q, V, h1, h2, hP, hx, ha, hb => by
    rw [f_X7_readOrder_b13]
    by_cases e : w = 8
    · subst e
      have hr : (rsl T n p).1 = false ∧ x = (rsl T n p).2.1 := by
        by_cases c : sel T n p < 8
        · exact hb c
        · obtain ⟨a1, a2⟩ := ha (by omega)
          rw [if_neg c] at a2
          unfold rsl
          rw [if_neg c]
          exact ⟨rfl, show x = p by omega⟩
      rw [if_pos (show (8 : Int32) ≤ nI 8 by decide), hr.1]
      refine ⟨up V 192 2 (nI x), rfl, ?_, ⟨fun k a _ _ => up_at a, fun j a => up_ne _ (fun _ => a), fun j _ => by rw [up_at (by decide)]⟩, fun z => by cases z⟩
      rw [← hr.2]
      exact hP.mv
    · have hw : w < 8 := by omega
      have es := frm_stx ⟨w, hw⟩
      have eo := frm_of ⟨w, hw⟩
      have en := frm_n ⟨w, hw⟩
      obtain ⟨V1, b1, b2, b3, b4, b5⟩ := rf_lp hn ho (t := 19 + w) (L := frm w) es en.2.1 (frm w) 500 0 0 p (up V 192 2 (nI p)) List.drop_zero (Nat.zero_le _) (by have := en.2.1; show (frm w).length < 500; have q : (frm w).length < 60 := this; omega) (by have q : dct (frm w) ≤ 4 := en.1; omega) hP.mv hp
      have b1 : f_X7_readForm (up V 192 2 (nI p)) (19 + w) (nI o) = some (bI (mtp T n (frm w) p).1, V1) := b1
      have F : F4 o V V1 := ((F2.s V (nI p)).f3 o).tr b3 |>.f4 ho
      rw [if_neg (show ¬ (8 : Int32) ≤ nI w from nI_ge (b := 8) hw (by decide)), eo, bs, b1, bs]
      have ml := mtp_le (T := T) (frm w) p hp
      by_cases s : w = sel T n p
      · have s8 : sel T n p < 8 := by omega
        have er : rsl T n p = mtp T n (frm w) p := by
          unfold rsl
          rw [if_pos s8, ← s]
        obtain ⟨a1, a2⟩ := ha (by omega)
        rw [if_pos s8] at a2
        cases z : (mtp T n (frm w) p).1
        · rw [if_pos (show (bI false, V1).1 = 0 from (by decide : bI false = 0))]
          show ∃ V2, f_X7_readOrder_b13 f V1 (nI o) (nI p) (imax (nI x) (V1 192 2)) (nI w + 1) = _ ∧ _
          have m1 := mt_sel s8
          rw [← s] at m1
          rw [b2.1, imax_nI (by omega) (by omega), Nat.max_eq_right (by omega), nI_1]
          obtain ⟨V2, c1, c2, c3, c4⟩ := ro_lp hn ho hp f (w + 1) (mtp T n (frm w) p).2.1 (mtp T n (frm w) p).2.1 V1 (by omega) (by omega) b2 (by omega) (fun q => by omega) (fun _ => by rw [er]; exact ⟨z, rfl⟩)
          exact ⟨V2, c1, c2, F.tr c3, c4⟩
        · rw [if_neg (show ¬ (bI true, V1).1 = 0 from (by decide : ¬ bI true = 0))]
          show ∃ V2, ((f_X7_putWord V1 (nI o) (nI w)).bind fun q5 => some ((1 : Int32), q5)) = _ ∧ _
          rw [pw_eq V1 ho (nI w), bs, er, z]
          refine ⟨up V1 194 o (nI w), rfl, ⟨by rw [up_at (by decide), b2.1], by rw [up_at (by decide), b2.2.1], fun j hj => by rw [up_at (by decide), b2.2.2 j hj]⟩, F.tr ⟨fun k _ b _ => up_at b, fun j _ => by rw [up_at (by decide)], fun j hj => up_ne _ (fun _ => hj)⟩, fun _ => ⟨by rw [up_self, s], fun j hj => ?_⟩⟩
          rw [up_at (by omega)]
          have := b5 j hj
          rw [Nat.zero_add] at this
          exact this
      · obtain ⟨m1, m2, m3⟩ := mt_other hw s
        rw [m1, if_pos (show (bI false, V1).1 = 0 from (by decide : bI false = 0))]
        show ∃ V2, f_X7_readOrder_b13 f V1 (nI o) (nI p) (imax (nI x) (V1 192 2)) (nI w + 1) = _ ∧ _
        rw [b2.1, imax_nI (by omega) (by omega), nI_1]
        by_cases c : w < sel T n p
        · obtain ⟨a1, a2⟩ := ha (by omega)
          obtain ⟨V2, c1, c2, c3, c4⟩ := ro_lp hn ho hp f (w + 1) (max x (mtp T n (frm w) p).2.1) (mtp T n (frm w) p).2.1 V1 (by omega) (by omega) b2 (by omega) (fun q => ⟨by omega, Nat.max_le.mpr ⟨a2, m3⟩⟩) (fun q => by omega)
          exact ⟨V2, c1, c2, F.tr c3, c4⟩
        · have s8 : sel T n p < 8 := by omega
          obtain ⟨r1, r2⟩ := hb (by omega)
          rw [if_pos s8] at m3
          have r3 : p + 1 ≤ x := by
            rw [r2]
            unfold rsl
            rw [if_pos s8]
            exact mt_sel s8
          obtain ⟨V2, c1, c2, c3, c4⟩ := ro_lp hn ho hp f (w + 1) (max x (mtp T n (frm w) p).2.1) (mtp T n (frm w) p).2.1 V1 (by omega) (by omega) b2 (by omega) (fun q => by omega) (fun _ => ⟨r1, by rw [Nat.max_eq_left (by omega)]; exact r2⟩)
          exact ⟨V2, c1, c2, F.tr c3, c4⟩
theorem ro_eq (hn : n ≤ 60) {o : Nat} (ho : o < 9) {p : Nat} (hp : p ≤ n) {V : St} (hP : PZ T n p V) : ∃ V1, f_X7_readOrder V (nI o) = some (bI (rsl T n p).1, V1) ∧ PZ T n (rsl T n p).2.1 V1 ∧ F4 o V V1 ∧ ((rsl T n p).1 = true → V1 194 o = nI (sel T n p) ∧ ∀ j, j < (rsl T n p).2.2.length → V1 (196 + o) j = (rsl T n p).2.2.getD j 0) := by
  rw [f_X7_readOrder, hP.1]
  exact ro_lp hn ho hp 500 0 p p V (by decide) (by decide) hP (by omega) (fun _ => ⟨Nat.le_refl _, by split <;> omega⟩) (fun h => absurd h (Nat.not_lt_zero _))
/-! the model -/
theorem b59_0 (V : St) : f_X10_readsOne_b59 V 107 107 = (mops (opsOf 0) V).bind fun U => f_X10_readsOne_b283 U := by
  have e : mops (opsOf 0) V = (f_X10_says V 38).bind fun a => (f_X10_figure a 1 1).bind fun b => (f_X10_says b 39).bind fun c => (f_X10_figure c 2 2).bind fun d => (f_X10_says d 40).bind fun e => (f_X10_figure e 3 1).bind fun g => some g := rfl
  rw [f_X10_readsOne_b59, if_neg (by decide), if_neg (by decide), if_neg (by decide), if_neg (by decide), if_neg (by decide), if_neg (by decide), if_neg (by decide), if_pos rfl, e]
  simp only [f_X10_two, ba, bs]
theorem b59_1 (V : St) : f_X10_readsOne_b59 V 116 116 = (mops (opsOf 1) V).bind fun U => f_X10_readsOne_b283 U := by
  have e : mops (opsOf 1) V = (f_X10_says V 41).bind fun a => (f_X10_figure a 1 1).bind fun b => (f_X10_says b 39).bind fun c => (f_X10_figure c 2 2).bind fun d => (f_X10_says d 42).bind fun e => (f_X10_figure e 3 2).bind fun g => some g := rfl
  rw [f_X10_readsOne_b59, if_neg (by decide), if_neg (by decide), if_neg (by decide), if_neg (by decide), if_neg (by decide), if_neg (by decide), if_neg (by decide), if_neg (by decide), if_neg (by decide), if_neg (by decide), if_neg (by decide), if_neg (by decide), if_neg (by decide), if_neg (by decide), if_neg (by decide), if_neg (by decide), if_pos rfl, e]
  simp only [f_X10_string, ba, bs]
theorem b59_2 (V : St) : f_X10_readsOne_b59 V 109 109 = (mops (opsOf 2) V).bind fun U => f_X10_readsOne_b283 U := by
  have e : mops (opsOf 2) V = (f_X10_says V 43).bind fun a => (f_X10_figure a 1 1).bind fun b => (f_X10_says b 39).bind fun c => (f_X10_figure c 2 2).bind fun d => (f_X10_says d 42).bind fun e => (f_X10_figure e 3 2).bind fun g => (f_X10_says g 44).bind fun h => (f_X10_figure h 4 1).bind fun i => some i := rfl
  rw [f_X10_readsOne_b59, if_neg (by decide), if_neg (by decide), if_neg (by decide), if_neg (by decide), if_neg (by decide), if_neg (by decide), if_neg (by decide), if_neg (by decide), if_neg (by decide), if_pos rfl, e]
  simp only [f_X10_string, ba, bs]
theorem b59_3 (V : St) : f_X10_readsOne_b59 V 101 101 = (mops (opsOf 3) V).bind fun U => f_X10_readsOne_b283 U := by
  have e : mops (opsOf 3) V = (f_X10_says V 45).bind fun a => (f_X10_figure a 1 2).bind fun g => some g := rfl
  rw [f_X10_readsOne_b59, if_neg (by decide), if_pos rfl, e]
  simp only [f_X10_one, ba, bs]
theorem b59_4 (V : St) : f_X10_readsOne_b59 V 116 119 = (mops (opsOf 4) V).bind fun U => f_X10_readsOne_b283 U := by
  have e : mops (opsOf 4) V = (f_X10_says V 46).bind fun a => (f_X10_figure a 1 1).bind fun g => some g := rfl
  rw [f_X10_readsOne_b59, if_neg (by decide), if_neg (by decide), if_neg (by decide), if_neg (by decide), if_neg (by decide), if_neg (by decide), if_neg (by decide), if_neg (by decide), if_neg (by decide), if_neg (by decide), if_neg (by decide), if_neg (by decide), if_neg (by decide), if_neg (by decide), if_neg (by decide), if_neg (by decide), if_neg (by decide), if_neg (by decide), if_neg (by decide), if_pos rfl, if_neg (by decide), e]
  simp only [f_X10_one, ba, bs]
theorem b59_5 (V : St) : f_X10_readsOne_b59 V 115 115 = (mops (opsOf 5) V).bind fun U => f_X10_readsOne_b283 U := by
  have e : mops (opsOf 5) V = (f_X10_says V 47).bind fun a => (f_X10_figure a 1 1).bind fun b => (f_X10_says b 40).bind fun c => (f_X10_figure c 2 1).bind fun g => some g := rfl
  rw [f_X10_readsOne_b59, if_neg (by decide), if_neg (by decide), if_neg (by decide), if_neg (by decide), if_neg (by decide), if_neg (by decide), if_neg (by decide), if_neg (by decide), if_neg (by decide), if_neg (by decide), if_neg (by decide), if_neg (by decide), if_neg (by decide), if_neg (by decide), if_neg (by decide), if_pos rfl, e]
  simp only [f_X10_two, ba, bs]
theorem b59_6 (V : St) : f_X10_readsOne_b59 V 110 110 = (mops (opsOf 6) V).bind fun U => f_X10_readsOne_b283 U := by
  have e : mops (opsOf 6) V = (f_X10_says V 48).bind fun a => (f_X10_figure a 1 1).bind fun b => (f_X10_says b 39).bind fun c => (f_X10_figure c 2 2).bind fun g => some g := rfl
  rw [f_X10_readsOne_b59, if_neg (by decide), if_neg (by decide), if_neg (by decide), if_neg (by decide), if_neg (by decide), if_neg (by decide), if_neg (by decide), if_neg (by decide), if_neg (by decide), if_neg (by decide), if_pos rfl, e]
  simp only [f_X10_two, ba, bs]
theorem b59_7 (V : St) : f_X10_readsOne_b59 V 100 100 = (mops (opsOf 7) V).bind fun U => f_X10_readsOne_b283 U := by
  have e : mops (opsOf 7) V = (f_X10_says V 49).bind fun a => (f_X10_figure a 1 1).bind fun g => some g := rfl
  rw [f_X10_readsOne_b59, if_pos rfl, e]
  simp only [f_X10_one, ba, bs]
theorem b59_s (V : St) {s : Nat} (hs : s < 8) : f_X10_readsOne_b59 V (f1 s) (cdo s) = (mops (opsOf s) V).bind fun U => f_X10_readsOne_b283 U := by
  rcases w8 hs with rfl | rfl | rfl | rfl | rfl | rfl | rfl | rfl
  · exact b59_0 V
  · exact b59_1 V
  · exact b59_2 V
  · exact b59_3 V
  · exact b59_4 V
  · exact b59_5 V
  · exact b59_6 V
  · exact b59_7 V
theorem ih2 {α : Type} {c : Prop} [Decidable c] {a b r : α} (h1 : a = r) (h2 : b = r) : (if c then a else b) = r := by
  split
  · exact h1
  · exact h2
theorem b59_n (V : St) (c : Int32) (h : c ≠ 107 ∧ c ≠ 116 ∧ c ≠ 109 ∧ c ≠ 101 ∧ c ≠ 115 ∧ c ≠ 110 ∧ c ≠ 100) : f_X10_readsOne_b59 V c c = f_X10_readsOne_b283 (up V 208 25 1) := by
  obtain ⟨h0, h1, h2, h3, h4, h5, h6⟩ := h
  rw [f_X10_readsOne_b59, if_neg h6, if_neg h3]
  refine ih2 rfl (ih2 rfl (ih2 rfl (ih2 rfl (ih2 rfl ((if_neg h0).trans (ih2 rfl ((if_neg h2).trans ((if_neg h5).trans (ih2 rfl (ih2 rfl (ih2 rfl (ih2 rfl ((if_neg h4).trans ((if_neg h1).trans (ih2 rfl (ih2 rfl ?_))))))))))))))))
  by_cases z : c = 119
  · rw [if_pos z, if_pos z]
  · rw [if_neg z]
/-- readsOne, as far as the row that it takes -/
theorem ro_b59 (hn : n ≤ 60) {o p : Nat} (ho : o < 59) {U : St} (h24 : U 208 24 = nI o) (h : MS T n false p U) (hp : p ≤ n) :
    f_X10_readsOne U = if sel T n p < 8 then f_X10_readsOne_b59 (up U 214 (5 * o) (cdo (sel T n p))) (f1 (sel T n p)) (cdo (sel T n p)) else f_X10_readsOne_b59 (up U 214 (5 * o) (if p < n then T p else -1)) (if p < n then T p else -1) (if p < n then T p else -1) := by
  have i5 : (5 : Int32) * U 208 24 = nI (5 * o) := by rw [h24, show (5 : Int32) = nI 5 from rfl, pk_mul]
  have e26 : ∀ c : Int32, f_X10_readsOne_b26 U c = f_X10_readsOne_b59 (up U 214 (5 * o) c) c c := fun c => by
    rw [f_X10_readsOne_b26, f_X10_readsOne_b27, if_pos rfl, f_X10_readsOne_b48, i5, ix_nI (by omega) (by decide), bs, if_pos rfl]
  have e27 : ∀ c : Int32, f_X10_readsOne_b27 U c 1 = f_X10_readsOne_b59 (up U 214 (5 * o) 119) c 119 := fun c => by
    rw [f_X10_readsOne_b27, if_neg (by decide), f_X10_readsOne_b48, i5, ix_nI (by omega) (by decide), bs, if_neg (by decide)]
  rw [f_X10_readsOne, here0 h hn hp, bs]
  by_cases s : sel T n p < 8
  · obtain ⟨a, b, c⟩ := sel_in s
    rw [if_pos a, if_pos s]
    by_cases t : T p = 116
    · rw [if_pos t, here1 h hn hp, bs]
      by_cases u : p + 1 < n ∧ T (p + 1) = 105
      · have s4 := c.mpr ⟨t, u⟩
        rw [if_pos u.1, if_pos u.2, e27, s4, t]
        rfl
      · have nu : ¬ (if p + 1 < n then T (p + 1) else -1) = 105 := by
          by_cases q : p + 1 < n
          · rw [if_pos q]
            exact fun z => u ⟨q, z⟩
          · rw [if_neg q]
            decide
        have s1 : sel T n p = 1 := by
          unfold sel
          rw [if_pos a, t]
          have e : (decide (p + 1 < n) && decide (T (p + 1) = 105)) = false := by
            cases z : (decide (p + 1 < n) && decide (T (p + 1) = 105))
            · rfl
            · rw [Bool.and_eq_true, decide_eq_true_eq, decide_eq_true_eq] at z
              exact absurd z u
          rw [e]
          decide
        rw [if_neg nu, e26, s1, t]
        rfl
    · rw [if_neg t, e26]
      have ne4 : sel T n p ≠ 4 := fun e => t (c.mp e).1
      have ce : T p = cdo (sel T n p) := by
        rw [b]
        have k : ∀ w : Fin 8, w.val ≠ 4 → f1 w.val = cdo w.val := by decide +kernel
        exact k ⟨_, s⟩ ne4
      rw [← ce, ← b]
  · rw [if_neg s]
    have nt : ¬ (if p < n then T p else -1) = 116 := by
      by_cases q : p < n
      · rw [if_pos q]
        unfold sel at s
        rw [if_pos q] at s
        exact (selT_no s).2.1
      · rw [if_neg q]
        decide
    rw [if_neg nt, e26]
def GF2 (U U1 : St) : Prop := (∀ k, k ≠ 208 → k ≠ 214 → U1 k = U k) ∧ ∀ j, j ≠ 22 → j ≠ 24 → j ≠ 25 → U1 208 j = U 208 j
theorem GF2.tr {V V1 V2 : St} (h : GF2 V V1) (h2 : GF2 V1 V2) : GF2 V V2 := ⟨fun k a b => (h2.1 k a b).trans (h.1 k a b), fun j a b c => (h2.2 j a b c).trans (h.2 j a b c)⟩
theorem GF.f2 {V V1 : St} (h : GF V V1) : GF2 V V1 := ⟨h.1, fun j a _ c => h.2 j a c⟩
theorem GF2.o (U : St) (x : Int32) : GF2 U (up U 208 24 x) := ⟨fun _ h _ => up_at h, fun _ _ h _ => up_ne _ (fun _ => h)⟩
theorem MS.o {w : Bool} {p : Nat} {U : St} (h : MS T n w p U) (x : Int32) : MS T n w p (up U 208 24 x) := ⟨by rw [up_ne _ (fun _ => by decide), h.1], by rw [up_ne _ (fun _ => by decide), h.2.1], by rw [up_ne _ (fun _ => by decide), h.2.2.1], fun j hj => by rw [up_at (by decide), h.2.2.2 j hj]⟩
theorem ro_m (hn : n ≤ 60) {o p : Nat} (ho : o < 59) {U : St} (h24 : U 208 24 = nI o) (h : MS T n false p U) (hp : p ≤ n) : ∃ U1, f_X10_readsOne U = some U1 ∧ U1 208 24 = nI (o + 1) ∧ MS T n (!(rsl T n p).1) (rsl T n p).2.1 U1 ∧ GF2 U U1 ∧ (∀ q, q < 5 * o → U1 214 q = U 214 q) ∧
    ((rsl T n p).1 = true → sel T n p < 8 ∧ U1 214 (5 * o) = cdo (sel T n p) ∧ ∀ j, j < (rsl T n p).2.2.length → U1 214 (5 * o + 1 + j) = (rsl T n p).2.2.getD j 0) := by
  rw [ro_b59 hn ho h24 h hp]
  unfold rsl
  have g1 : ∀ x, GF U (up U 214 (5 * o) x) := fun x => GF.t U _ x
  have hm : ∀ x, MS T n false p (up U 214 (5 * o) x) := fun x => h.g (g1 x) false p (by rw [up_at (by decide), h.1]) (by rw [up_at (by decide), h.2.1])
  by_cases s : sel T n p < 8
  · rw [if_pos s, if_pos s, b59_s _ s]
    have ec := ops_cod ⟨_, s⟩
    have ec : mcod (opsOf (sel T n p)) = frm (sel T n p) := ec
    obtain ⟨U1, a1, a2, a3, a4, a5⟩ := mops_eq hn ho (opsOf (sel T n p)) 1 p (up U 214 (5 * o) (cdo (sel T n p))) (ops_ok s) (Nat.le_refl _) (by rw [up_at (by decide), h24]) (hm _) hp
    rw [ec] at a2 a5
    have u24 : U1 208 24 = nI o := by rw [a3.2 24 (by decide) (by decide), up_at (by decide), h24]
    rw [a1, bs, f_X10_readsOne_b283, u24, nI_1]
    refine ⟨_, rfl, up_self _ _ _ _, a2.o _, ((g1 _).tr a3).f2.tr (GF2.o _ _), fun q hq => ?_, fun ok => ⟨s, ?_, fun j hj => ?_⟩⟩
    · rw [up_at (by decide), a4 q (by omega), up_ne _ (fun _ => by omega)]
    · rw [up_at (by decide), a4 _ (by omega), up_self]
    · rw [up_at (by decide)]
      exact a5 ok j hj
  · rw [if_neg s, if_neg s]
    have hc : (if p < n then T p else -1) ≠ 107 ∧ (if p < n then T p else -1) ≠ 116 ∧ (if p < n then T p else -1) ≠ 109 ∧ (if p < n then T p else -1) ≠ 101 ∧ (if p < n then T p else -1) ≠ 115 ∧ (if p < n then T p else -1) ≠ 110 ∧ (if p < n then T p else -1) ≠ 100 := by
      by_cases q : p < n
      · rw [if_pos q]
        unfold sel at s
        rw [if_pos q] at s
        exact selT_no s
      · rw [if_neg q]
        decide
    obtain ⟨c, hcc⟩ : ∃ c : Int32, c = if p < n then T p else -1 := ⟨_, rfl⟩
    rw [← hcc] at hc ⊢
    rw [b59_n _ _ hc, f_X10_readsOne_b283]
    have g2 : GF U (up (up U 214 (5 * o) c) 208 25 1) := (g1 c).tr (GF.w _ _)
    have u24 : (up (up U 214 (5 * o) c) 208 25 1) 208 24 = nI o := by rw [g2.2 24 (by decide) (by decide), h24]
    rw [u24, nI_1]
    refine ⟨_, rfl, up_self _ _ _ _, (h.g g2 true p (by rw [up_self]; rfl) (by rw [up_ne _ (fun _ => by decide), up_at (by decide), h.2.1])).o _, g2.f2.tr (GF2.o _ _), fun q hq => ?_, fun ok => by cases ok⟩
    rw [up_at (by decide), up_at (by decide), up_ne _ (fun _ => by omega)]
end OM
