/-! the tape read as a text: by codes of forms -/
def dgt (x : Int32) : Bool := if x < 48 then false else if 57 < x then false else true
/-- the digits from p on, w at most, behind the number x -/
def rdv (T : Nat → Int32) (n : Nat) : Nat → Nat → Int32 → Int32 × Nat
  | 0, p, x => (x, p)
  | w + 1, p, x => if p < n ∧ dgt (T p) = true then rdv T n w (p + 1) (10 * x + (T p - 48)) else (x, p)
theorem rdv_s (T : Nat → Int32) (n w p : Nat) (x : Int32) : rdv T n (w + 1) p x = if p < n ∧ dgt (T p) = true then rdv T n w (p + 1) (10 * x + (T p - 48)) else (x, p) := rfl
theorem rdv_le (T : Nat → Int32) (n : Nat) : ∀ (w p : Nat) (x : Int32), p ≤ n → p ≤ (rdv T n w p x).2 ∧ (rdv T n w p x).2 ≤ n
  | 0, p, x, h => ⟨Nat.le_refl _, h⟩
  | w + 1, p, x, h => by
    rw [rdv_s]
    by_cases c : p < n ∧ dgt (T p) = true
    · rw [if_pos c]
      have := rdv_le T n w (p + 1) (10 * x + (T p - 48)) c.1
      exact ⟨by omega, this.2⟩
    · rw [if_neg c]
      exact ⟨Nat.le_refl _, h⟩
def dw (c : Int32) : Nat := if c = 78 then 2 else 1
def isD (c : Int32) : Prop := c = 68 ∨ c = 78
def mtp (T : Nat → Int32) (n : Nat) : List Int32 → Nat → Bool × Nat × List Int32
  | [], p => (true, p, [])
  | c :: r, p =>
    if c = 68 ∨ c = 78 then
      (if p < n ∧ dgt (T p) = true then ((mtp T n r (rdv T n (dw c) p 0).2).1, (mtp T n r (rdv T n (dw c) p 0).2).2.1, (rdv T n (dw c) p 0).1 :: (mtp T n r (rdv T n (dw c) p 0).2).2.2) else (false, p, []))
    else (if p < n ∧ T p = c then mtp T n r (p + 1) else (false, p, []))
section MT
variable {T : Nat → Int32} {n : Nat}
theorem mtp_n (p : Nat) : mtp T n [] p = (true, p, []) := rfl
theorem mtp_d {c : Int32} (h : isD c) (r : List Int32) (p : Nat) : mtp T n (c :: r) p = if p < n ∧ dgt (T p) = true then ((mtp T n r (rdv T n (dw c) p 0).2).1, (mtp T n r (rdv T n (dw c) p 0).2).2.1, (rdv T n (dw c) p 0).1 :: (mtp T n r (rdv T n (dw c) p 0).2).2.2) else (false, p, []) := by
  rw [mtp]
  exact if_pos h
theorem mtp_l {c : Int32} (h : ¬ isD c) (r : List Int32) (p : Nat) : mtp T n (c :: r) p = if p < n ∧ T p = c then mtp T n r (p + 1) else (false, p, []) := by
  rw [mtp]
  exact if_neg h
theorem dw_pos (c : Int32) : 1 ≤ dw c := by unfold dw; split <;> decide
theorem rdv_1 {c : Int32} {p : Nat} (h : p < n ∧ dgt (T p) = true) : p + 1 ≤ (rdv T n (dw c) p 0).2 ∧ (rdv T n (dw c) p 0).2 ≤ n := by
  obtain ⟨w, hw⟩ : ∃ w, dw c = w + 1 := ⟨dw c - 1, by have := dw_pos c; omega⟩
  rw [hw, rdv_s, if_pos h]
  have := rdv_le T n w (p + 1) (10 * 0 + (T p - 48)) h.1
  exact this
theorem mtp_le : ∀ (L : List Int32) (p : Nat), p ≤ n → p ≤ (mtp T n L p).2.1 ∧ (mtp T n L p).2.1 ≤ n ∧ ((mtp T n L p).1 = true → p + L.length ≤ (mtp T n L p).2.1)
  | [], p, h => ⟨Nat.le_refl _, h, fun _ => Nat.le_refl _⟩
  | c :: r, p, h => by
    by_cases d : isD c
    · rw [mtp_d d]
      by_cases e : p < n ∧ dgt (T p) = true
      · rw [if_pos e]
        have h1 := rdv_1 (c := c) e
        have h2 := mtp_le r (rdv T n (dw c) p 0).2 h1.2
        refine ⟨?_, h2.2.1, fun q => ?_⟩
        · show p ≤ (mtp T n r (rdv T n (dw c) p 0).2).2.1
          omega
        · have q : (mtp T n r (rdv T n (dw c) p 0).2).1 = true := q
          have := h2.2.2 q
          show p + (r.length + 1) ≤ (mtp T n r (rdv T n (dw c) p 0).2).2.1
          omega
      · rw [if_neg e]
        exact ⟨Nat.le_refl _, h, fun q => by cases q⟩
    · rw [mtp_l d]
      by_cases e : p < n ∧ T p = c
      · rw [if_pos e]
        have h2 := mtp_le r (p + 1) e.1
        refine ⟨by omega, h2.2.1, fun q => ?_⟩
        have := h2.2.2 q
        show p + (r.length + 1) ≤ _
        omega
      · rw [if_neg e]
        exact ⟨Nat.le_refl _, h, fun q => by cases q⟩
end MT
/-- how many numbers a form asks for -/
def dct : List Int32 → Nat
  | [] => 0
  | c :: r => if c = 68 ∨ c = 78 then dct r + 1 else dct r
/-! the class reads -/
def PZ (T : Nat → Int32) (n p : Nat) (V : St) : Prop := V 192 2 = nI p ∧ V 192 1 = nI n ∧ ∀ j, j < n → V 193 j = T j
section CR
variable {T : Nat → Int32} {n : Nat}
theorem inT {p : Nat} {V : St} (h : PZ T n p V) (hn : n ≤ 60) (hp : p ≤ n) : f_X7_isInText V = some (bI (decide (p < n))) := by
  rw [f_X7_isInText, h.1, h.2.1, if_neg (nI_pos (by omega))]
  by_cases c : p < n
  · rw [if_neg (nI_ge c (by omega)), if_neg (show ¬ (60 : Int32) ≤ nI p from nI_ge (b := 60) (by omega) (by decide)), decide_eq_true c]
    rfl
  · rw [if_pos (nI_le (by omega) (by omega)), decide_eq_false c]
    rfl
theorem isDN {p : Nat} {V : St} (h : PZ T n p V) (hn : n ≤ 60) (hp : p ≤ n) : f_X7_isDigitNext V = some (if p < n ∧ dgt (T p) = true then 1 else 0) := by
  rw [f_X7_isDigitNext, inT h hn hp, bs]
  by_cases c : p < n
  · rw [decide_eq_true c, if_neg (show ¬ bI true = 0 by decide), h.1, ix_nI (show p < 60 by omega) (by decide), bs, bs, h.2.2 p c]
    unfold dgt
    by_cases a : T p < 48
    · rw [if_pos a, if_pos a, if_neg (fun q => by cases q.2)]
    · rw [if_neg a, if_neg a]
      by_cases b : 57 < T p
      · rw [if_pos b, if_pos b, if_neg (fun q => by cases q.2)]
      · rw [if_neg b, if_neg b, if_pos ⟨c, rfl⟩]
  · rw [decide_eq_false c, if_pos (show bI false = 0 by decide), if_neg (fun q => c q.1)]
theorem isNX {p : Nat} {V : St} (h : PZ T n p V) (hn : n ≤ 60) (hp : p ≤ n) (x : Int32) : f_X7_isNext V x = some (if p < n ∧ T p = x then 1 else 0) := by
  rw [f_X7_isNext, inT h hn hp, bs]
  by_cases c : p < n
  · rw [decide_eq_true c, if_neg (show ¬ bI true = 0 by decide), h.1, ix_nI (show p < 60 by omega) (by decide), bs, h.2.2 p c]
    by_cases a : T p = x
    · rw [if_pos a, if_pos ⟨c, a⟩]
    · rw [if_neg a, if_neg (fun q => a q.2)]
  · rw [decide_eq_false c, if_pos (show bI false = 0 by decide), if_neg (fun q => c q.1)]
def F2 (V V1 : St) : Prop := (∀ k, k ≠ 192 → V1 k = V k) ∧ ∀ j, j ≠ 2 → V1 192 j = V 192 j
theorem F2.rf (V : St) : F2 V V := ⟨fun _ _ => rfl, fun _ _ => rfl⟩
theorem F2.tr {V V1 V2 : St} (h : F2 V V1) (h2 : F2 V1 V2) : F2 V V2 := ⟨fun k a => (h2.1 k a).trans (h.1 k a), fun j a => (h2.2 j a).trans (h.2 j a)⟩
theorem F2.s (V : St) (x : Int32) : F2 V (up V 192 2 x) := ⟨fun _ h => up_at h, fun _ h => up_ne _ (fun _ => h)⟩
theorem PZ.mv {p q : Nat} {V : St} (h : PZ T n p V) : PZ T n q (up V 192 2 (nI q)) := ⟨up_self _ _ _ _, by rw [up_ne _ (fun _ => by decide), h.2.1], fun j hj => by rw [up_at (by decide), h.2.2 j hj]⟩
theorem rn_lp (hn : n ≤ 60) : ∀ (f w i p : Nat) (x : Int32) (V : St), PZ T n p V → p ≤ n → w < f → i + w < 100 → ∃ V1, f_X7_readNumber_b15 f V x (nI (i + w)) (nI i) = some ((rdv T n w p x).1, V1) ∧ PZ T n (rdv T n w p x).2 V1 ∧ F2 V V1
  | 0, w, i, p, x, V, _, _, h, _ => by omega
  | f + 1, 0, i, p, x, V, h, hp, hf, hi => by
    rw [f_X7_readNumber_b15, if_pos (nI_le (by omega) (by omega))]
    exact ⟨V, rfl, h, F2.rf V⟩
  | f + 1, w + 1, i, p, x, V, h, hp, hf, hi => by
    rw [f_X7_readNumber_b15, if_neg (nI_ge (by omega) (by omega)), isDN h hn hp, bs, rdv_s]
    by_cases c : p < n ∧ dgt (T p) = true
    · rw [if_pos c, if_pos c, if_neg (show ¬ (1 : Int32) = 0 by decide), h.1, ix_nI (show p < 60 by omega) (by decide), bs, h.2.2 p c.1, nI_1, nI_1]
      obtain ⟨V1, a1, a2, a3⟩ := rn_lp hn f w (i + 1) (p + 1) (10 * x + (T p - 48)) _ (h.mv (q := p + 1)) c.1 (by omega) (by omega)
      rw [show i + (w + 1) = i + 1 + w from by omega]
      exact ⟨V1, a1, a2, (F2.s _ _).tr a3⟩
    · rw [if_neg c, if_neg c, if_pos (show (0 : Int32) = 0 by decide)]
      exact ⟨V, rfl, h, F2.rf V⟩
theorem rn_eq (hn : n ≤ 60) {p : Nat} {V : St} (h : PZ T n p V) (hp : p ≤ n) (c : Int32) : ∃ V1, f_X7_readNumber V (if c = 78 then 1 else 0) = some ((rdv T n (dw c) p 0).1, V1) ∧ PZ T n (rdv T n (dw c) p 0).2 V1 ∧ F2 V V1 := by
  by_cases e : c = 78
  · obtain ⟨V1, a1, a2, a3⟩ := rn_lp hn 500 2 0 p 0 V h hp (by decide) (by decide)
    rw [if_pos e, f_X7_readNumber, if_neg (by decide), show dw c = 2 from if_pos e]
    exact ⟨V1, a1, a2, a3⟩
  · obtain ⟨V1, a1, a2, a3⟩ := rn_lp hn 500 1 0 p 0 V h hp (by decide) (by decide)
    rw [if_neg e, f_X7_readNumber, if_pos rfl, show dw c = 1 from if_neg e]
    exact ⟨V1, a1, a2, a3⟩
/-- what reading one order leaves alone -/
def F3 (o : Nat) (V V1 : St) : Prop := (∀ k, k ≠ 192 → k ≠ 196 + o → V1 k = V k) ∧ ∀ j, j ≠ 2 → V1 192 j = V 192 j
theorem F3.rf (o : Nat) (V : St) : F3 o V V := ⟨fun _ _ _ => rfl, fun _ _ => rfl⟩
theorem F3.tr {o : Nat} {V V1 V2 : St} (h : F3 o V V1) (h2 : F3 o V1 V2) : F3 o V V2 := ⟨fun k a b => (h2.1 k a b).trans (h.1 k a b), fun j a => (h2.2 j a).trans (h.2 j a)⟩
theorem F2.f3 {V V1 : St} (h : F2 V V1) (o : Nat) : F3 o V V1 := ⟨fun k a _ => h.1 k a, h.2⟩
theorem PZ.f {p o : Nat} {V V1 : St} (h : PZ T n p V) (f : F3 o V V1) (ho : o < 9) (e : V1 192 2 = V 192 2) : PZ T n p V1 := ⟨e.trans h.1, (f.2 1 (by decide)).trans h.2.1, fun j hj => by rw [f.1 193 (by decide) (by omega), h.2.2 j hj]⟩
theorem dp_cons {L r : List Int32} {c : Int32} {i : Nat} (h : L.drop i = c :: r) : i < L.length ∧ L.getD i 0 = c ∧ L.drop (i + 1) = r := by
  have hi : i < L.length := by
    rcases Nat.lt_or_ge i L.length with q | q
    · exact q
    · rw [List.drop_eq_nil_iff.mpr q] at h
      cases h
  have e := List.drop_eq_getElem_cons hi
  rw [h] at e
  injection e with e1 e2
  refine ⟨hi, ?_, e2.symm⟩
  rw [List.getD_eq_getElem?_getD, List.getElem?_eq_getElem hi]
  exact e1.symm
theorem dp_nil {L : List Int32} {i : Nat} (h : L.drop i = []) (hi : i ≤ L.length) : i = L.length := Nat.le_antisymm hi (List.drop_eq_nil_iff.mp h)
theorem len_eq {t : Nat} {L : List Int32} (hL : stx t = some L) : f_J0_length_8abf5 t = some (nI L.length) := by rw [f_J0_length_8abf5, hL, bs]
theorem chr_eq {t : Nat} {L : List Int32} (hL : stx t = some L) {i : Nat} (hi : i < L.length) (hl : L.length < 60) : f_J0_charAt_5068e t (nI i) = some (L.getD i 0) := by rw [f_J0_charAt_5068e, hL, bs, ix_nI hi (by omega), bs]
theorem b36_d (C : St → Nat → Int32 → Int32 → Int32 → Option (Int32 × St)) (hn : n ≤ 60) {p : Nat} {V : St} (h : PZ T n p V) (hp : p ≤ n) (t : Nat) (x2 x3 x4 c : Int32) :
    f_X7_readForm_b36 C V t x2 x3 x4 c = if p < n ∧ dgt (T p) = true then (f_X7_readNumber V (if c = 78 then 1 else 0)).bind fun q1 => (f_X7_putNumber q1.2 x2 x3 q1.1).bind fun q2 => C q2 t x2 (x3 + 1) (x4 + 1) else some (0, V) := by
  rw [f_X7_readForm_b36, isDN h hn hp, bs]
  by_cases e : p < n ∧ dgt (T p) = true
  · rw [if_pos e, if_pos e, if_neg (show ¬ (1 : Int32) = 0 by decide)]
    by_cases d : c = 78
    · rw [if_pos d, if_pos d]
      rfl
    · rw [if_neg d, if_neg d]
      rfl
  · rw [if_neg e, if_neg e, if_pos (show (0 : Int32) = 0 by decide)]
theorem pn_eq (V : St) {o i : Nat} (ho : o < 9) (hi : i < 4) (x : Int32) : f_X7_putNumber V (nI o) (nI i) x = some (up V (196 + o) i x) := by
  rw [f_X7_putNumber, if_neg (nI_pos (by omega)), if_neg (show ¬ (9 : Int32) ≤ nI o from nI_ge (b := 9) ho (by decide)), if_neg (nI_pos (by omega)), if_neg (show ¬ (4 : Int32) ≤ nI i from nI_ge (b := 4) hi (by decide)), ix_nI ho (by decide), bs, ix_nI hi (by decide), bs]
theorem rf_lp (hn : n ≤ 60) {t o : Nat} (ho : o < 9) {L : List Int32} (hL : stx t = some L) (hl : L.length < 60) : ∀ (r : List Int32) (f i idx p : Nat) (V : St), L.drop i = r → i ≤ L.length → r.length < f → idx + dct r ≤ 4 → PZ T n p V → p ≤ n →
    ∃ V1, f_X7_readForm_b5 f V t (nI o) (nI idx) (nI i) = some (bI (mtp T n r p).1, V1) ∧ PZ T n (mtp T n r p).2.1 V1 ∧ F3 o V V1 ∧ (∀ j, j < idx → V1 (196 + o) j = V (196 + o) j) ∧ ∀ j, j < (mtp T n r p).2.2.length → V1 (196 + o) (idx + j) = (mtp T n r p).2.2.getD j 0
  | r, 0, i, idx, p, V, _, _, h, _, _, _ => by omega
  | [], f + 1, i, idx, p, V, hd, hil, hf, hi, h, hp => by
    have il := dp_nil hd hil
    rw [f_X7_readForm_b5, len_eq hL, bs, il, if_pos (nI_le (Nat.le_refl _) (by omega))]
    exact ⟨V, rfl, h, F3.rf _ _, fun _ _ => rfl, fun j hj => absurd hj (Nat.not_lt_zero j)⟩
  | c :: r, f + 1, i, idx, p, V, hd, hil, hf, hi, h, hp => by
    obtain ⟨h1, h2, h3⟩ := dp_cons hd
    rw [f_X7_readForm_b5, len_eq hL, bs, if_neg (nI_ge h1 (by omega)), chr_eq hL h1 hl, bs, h2]
    have hf : r.length < f := by
      have : r.length + 1 < f + 1 := hf
      omega
    by_cases d : isD c
    · have e36 : (if c = 68 then f_X7_readForm_b36 (fun V t1 x2 x3 x4 => f_X7_readForm_b5 f V t1 x2 x3 x4) V t (nI o) (nI idx) (nI i) c else if c = 78 then f_X7_readForm_b36 (fun V t1 x2 x3 x4 => f_X7_readForm_b5 f V t1 x2 x3 x4) V t (nI o) (nI idx) (nI i) c else (f_X7_isNext V c).bind fun q11 => if q11 = 0 then some (0, V) else f_X7_readForm_b97 (fun V t1 x2 x3 x4 => f_X7_readForm_b5 f V t1 x2 x3 x4) (up V 192 2 ((V 192 2) + 1)) t (nI o) (nI idx) (nI i)) = f_X7_readForm_b36 (fun V t1 x2 x3 x4 => f_X7_readForm_b5 f V t1 x2 x3 x4) V t (nI o) (nI idx) (nI i) c := by
        by_cases e : c = 68
        · rw [if_pos e]
        · rw [if_neg e, if_pos (d.resolve_left e)]
      rw [e36, b36_d _ hn h hp, mtp_d d]
      have di : dct (c :: r) = dct r + 1 := if_pos d
      by_cases e : p < n ∧ dgt (T p) = true
      · obtain ⟨V1, a1, a2, a3⟩ := rn_eq hn h hp c
        have hq := rdv_1 (c := c) e
        have P2 : PZ T n (rdv T n (dw c) p 0).2 (up V1 (196 + o) idx (rdv T n (dw c) p 0).1) := ⟨by rw [up_at (by omega), a2.1], by rw [up_at (by omega), a2.2.1], fun j hj => by rw [up_at (by omega), a2.2.2 j hj]⟩
        obtain ⟨V3, b1, b2, b3, b4, b5⟩ := rf_lp hn ho hL hl r f (i + 1) (idx + 1) _ _ h3 h1 hf (by omega) P2 hq.2
        rw [if_pos e, if_pos e, a1, bs, pn_eq _ ho (by omega), bs, nI_1, nI_1]
        have F : F3 o V (up V1 (196 + o) idx (rdv T n (dw c) p 0).1) := ⟨fun k k1 k2 => by rw [up_at k2, a3.1 k k1], fun j hj => by rw [up_at (by omega), a3.2 j hj]⟩
        refine ⟨V3, b1, b2, F.tr b3, fun j hj => ?_, fun j hj => ?_⟩
        · rw [b4 j (by omega), up_ne _ (fun _ => by omega), a3.1 _ (by omega)]
        · cases j with
          | zero =>
            show V3 (196 + o) idx = (rdv T n (dw c) p 0).1
            rw [b4 idx (by omega), up_self]
          | succ j =>
            have hj : j + 1 < (mtp T n r (rdv T n (dw c) p 0).2).2.2.length + 1 := hj
            have := b5 j (by omega)
            show V3 (196 + o) (idx + (j + 1)) = (mtp T n r (rdv T n (dw c) p 0).2).2.2.getD j 0
            rw [← this, show idx + (j + 1) = idx + 1 + j from by omega]
      · rw [if_neg e, if_neg e]
        exact ⟨V, rfl, h, F3.rf _ _, fun _ _ => rfl, fun j hj => absurd hj (Nat.not_lt_zero j)⟩
    · have di : dct (c :: r) = dct r := if_neg d
      rw [if_neg (fun e => d (Or.inl e)), if_neg (fun e => d (Or.inr e)), isNX h hn hp, bs, mtp_l d]
      by_cases e : p < n ∧ T p = c
      · obtain ⟨V3, b1, b2, b3, b4, b5⟩ := rf_lp hn ho hL hl r f (i + 1) idx (p + 1) _ h3 h1 hf (by omega) (h.mv (q := p + 1)) e.1
        rw [if_pos e, if_pos e, if_neg (show ¬ (1 : Int32) = 0 by decide), f_X7_readForm_b97, h.1, nI_1, nI_1]
        refine ⟨V3, b1, b2, ((F2.s V _).f3 o).tr b3, fun j hj => ?_, b5⟩
        rw [b4 j hj, up_at (by omega)]
      · rw [if_neg e, if_neg e, if_pos (show (0 : Int32) = 0 by decide)]
        exact ⟨V, rfl, h, F3.rf _ _, fun _ _ => rfl, fun j hj => absurd hj (Nat.not_lt_zero j)⟩
end CR
def frm : Nat → List Int32
  | 0 => [107, 110, 111, 116, 32, 68, 32, 78, 61, 68]
  | 1 => [116, 101, 97, 114, 32, 68, 32, 78, 45, 78]
  | 2 => [109, 101, 110, 100, 32, 68, 32, 78, 45, 78, 47, 68]
  | 3 => [101, 100, 105, 116, 111, 114, 32, 78]
  | 4 => [116, 105, 100, 101, 32, 68]
  | 5 => [115, 105, 110, 107, 32, 68, 61, 68]
  | 6 => [110, 111, 116, 101, 32, 68, 32, 78]
  | _ => [100, 114, 111, 112, 32, 68]
def f1 : Nat → Int32
  | 0 => 107
  | 1 => 116
  | 2 => 109
  | 3 => 101
  | 4 => 116
  | 5 => 115
  | 6 => 110
  | _ => 100
def f2 : Nat → Int32
  | 0 => 110
  | 1 => 101
  | 2 => 101
  | 3 => 100
  | 4 => 105
  | 5 => 105
  | 6 => 111
  | _ => 114
theorem frm_stx : ∀ w : Fin 8, stx (20 + w.val) = some (frm w.val) := by decide +kernel
theorem frm_of : ∀ w : Fin 8, f_X7_formOf (nI w.val) = some (20 + w.val) := by decide +kernel
theorem frm_n : ∀ w : Fin 8, dct (frm w.val) ≤ 4 ∧ (frm w.val).length < 60 ∧ 6 ≤ (frm w.val).length := by decide +kernel
theorem frm_2 : ∀ w : Fin 8, frm w.val = f1 w.val :: f2 w.val :: (frm w.val).drop 2 ∧ f1 w.val ≠ 68 ∧ f1 w.val ≠ 78 ∧ f2 w.val ≠ 68 ∧ f2 w.val ≠ 78 := by decide +kernel
theorem w8 {w : Nat} (h : w < 8) : w = 0 ∨ w = 1 ∨ w = 2 ∨ w = 3 ∨ w = 4 ∨ w = 5 ∨ w = 6 ∨ w = 7 := by omega
def selT (x : Int32) (b : Bool) : Nat := if x = 107 then 0 else if x = 116 then (if b = true then 4 else 1) else if x = 109 then 2 else if x = 101 then 3 else if x = 115 then 5 else if x = 110 then 6 else if x = 100 then 7 else 8
section OM2
variable {T : Nat → Int32} {n : Nat}
def sel (T : Nat → Int32) (n p : Nat) : Nat := if p < n then selT (T p) (decide (p + 1 < n) && decide (T (p + 1) = 105)) else 8
def rsl (T : Nat → Int32) (n p : Nat) : Bool × Nat × List Int32 := if sel T n p < 8 then mtp T n (frm (sel T n p)) p else (false, p, [])
theorem selT_f : ∀ w : Fin 8, ∀ b : Bool, selT (f1 w.val) b < 8 ∧ ((w.val = 4 → b = true) → (w.val = 1 → b = false) → selT (f1 w.val) b = w.val) := by decide +kernel
theorem selT_in (x : Int32) (b : Bool) (h : selT x b < 8) : x = f1 (selT x b) ∧ (selT x b = 4 ↔ x = 116 ∧ b = true) := by
  unfold selT at h ⊢
  by_cases h0 : x = 107
  · subst h0
    cases b <;> decide
  rw [if_neg h0] at h ⊢
  by_cases h1 : x = 116
  · subst h1
    cases b <;> decide
  rw [if_neg h1] at h ⊢
  have nx : ∀ k : Nat, k ≠ 4 → (k = 4 ↔ x = 116 ∧ b = true) := fun k hk => ⟨fun e => absurd e hk, fun e => absurd e.1 h1⟩
  by_cases h2 : x = 109
  · rw [if_pos h2]
    exact ⟨h2, nx 2 (by decide)⟩
  rw [if_neg h2] at h ⊢
  by_cases h3 : x = 101
  · rw [if_pos h3]
    exact ⟨h3, nx 3 (by decide)⟩
  rw [if_neg h3] at h ⊢
  by_cases h4 : x = 115
  · rw [if_pos h4]
    exact ⟨h4, nx 5 (by decide)⟩
  rw [if_neg h4] at h ⊢
  by_cases h5 : x = 110
  · rw [if_pos h5]
    exact ⟨h5, nx 6 (by decide)⟩
  rw [if_neg h5] at h ⊢
  by_cases h6 : x = 100
  · rw [if_pos h6]
    exact ⟨h6, nx 7 (by decide)⟩
  rw [if_neg h6] at h
  omega
theorem selT_no {x : Int32} {b : Bool} (h : ¬ selT x b < 8) : x ≠ 107 ∧ x ≠ 116 ∧ x ≠ 109 ∧ x ≠ 101 ∧ x ≠ 115 ∧ x ≠ 110 ∧ x ≠ 100 := by
  have k : ∀ w : Fin 8, x ≠ f1 w.val := fun w e => h (by rw [e]; exact (selT_f w b).1)
  exact ⟨k 0, k 1, k 2, k 3, k 5, k 6, k 7⟩
theorem fnD (w : Fin 8) : ¬ isD (f1 w.val) ∧ ¬ isD (f2 w.val) := by
  obtain ⟨-, h1, h2, h3, h4⟩ := frm_2 w
  exact ⟨fun e => e.elim h1 h2, fun e => e.elim h3 h4⟩
theorem mt_other {w p : Nat} (hw : w < 8) (h : w ≠ sel T n p) : (mtp T n (frm w) p).1 = false ∧ p ≤ (mtp T n (frm w) p).2.1 ∧ (mtp T n (frm w) p).2.1 ≤ if sel T n p < 8 then p + 1 else p := by
  obtain ⟨d1, d2⟩ := fnD ⟨w, hw⟩
  have d1 : ¬ isD (f1 w) := d1
  have d2 : ¬ isD (f2 w) := d2
  have e := (frm_2 ⟨w, hw⟩).1
  have e : frm w = f1 w :: f2 w :: (frm w).drop 2 := e
  rw [e, mtp_l d1]
  by_cases c : p < n ∧ T p = f1 w
  · have s8 : sel T n p < 8 := by
      unfold sel
      rw [if_pos c.1, c.2]
      exact (selT_f ⟨w, hw⟩ _).1
    rw [if_pos c, mtp_l d2, if_pos s8]
    by_cases c2 : p + 1 < n ∧ T (p + 1) = f2 w
    · refine absurd ?_ h
      unfold sel
      rw [if_pos c.1, c.2]
      refine ((selT_f ⟨w, hw⟩ _).2 (fun q => ?_) (fun q => ?_)).symm
      · have q : w = 4 := q
        subst q
        rw [decide_eq_true c2.1, c2.2]
        rfl
      · have q : w = 1 := q
        subst q
        rw [c2.2, decide_eq_true c2.1]
        rfl
    · rw [if_neg c2]
      exact ⟨rfl, Nat.le_succ _, Nat.le_refl _⟩
  · rw [if_neg c]
    refine ⟨rfl, Nat.le_refl _, ?_⟩
    show p ≤ _
    split <;> omega
theorem sel_in {p : Nat} (h : sel T n p < 8) : p < n ∧ T p = f1 (sel T n p) ∧ (sel T n p = 4 ↔ T p = 116 ∧ (p + 1 < n ∧ T (p + 1) = 105)) := by
  unfold sel at h ⊢
  by_cases c : p < n
  · rw [if_pos c] at h ⊢
    obtain ⟨a, b⟩ := selT_in _ _ h
    refine ⟨c, a, b.trans ?_⟩
    rw [Bool.and_eq_true, decide_eq_true_eq, decide_eq_true_eq]
  · rw [if_neg c] at h
    omega
theorem mt_sel {p : Nat} (h : sel T n p < 8) : p + 1 ≤ (mtp T n (frm (sel T n p)) p).2.1 := by
  obtain ⟨a, b, -⟩ := sel_in h
  obtain ⟨d1, -⟩ := fnD ⟨_, h⟩
  have e := (frm_2 ⟨_, h⟩).1
  have e : frm (sel T n p) = f1 (sel T n p) :: f2 (sel T n p) :: (frm (sel T n p)).drop 2 := e
  have d1 : ¬ isD (f1 (sel T n p)) := d1
  rw [e, mtp_l d1, if_pos ⟨a, b⟩]
  exact (mtp_le _ (p + 1) a).1
theorem rsl_le {p : Nat} (hp : p ≤ n) : p ≤ (rsl T n p).2.1 ∧ (rsl T n p).2.1 ≤ n ∧ ((rsl T n p).1 = true → p + 6 ≤ (rsl T n p).2.1) := by
  unfold rsl
  by_cases c : sel T n p < 8
  · rw [if_pos c]
    obtain ⟨a, b, d⟩ := mtp_le (T := T) (frm (sel T n p)) p hp
    refine ⟨a, b, fun q => ?_⟩
    have e := d q
    have f := (frm_n ⟨_, c⟩).2.2
    have f : 6 ≤ (frm (sel T n p)).length := f
    omega
  · rw [if_neg c]
    exact ⟨Nat.le_refl _, hp, fun q => by cases q⟩
theorem mtp_len : ∀ (L : List Int32) (p : Nat), (mtp T n L p).1 = true → (mtp T n L p).2.2.length = dct L
  | [], _, _ => rfl
  | c :: r, p, h => by
    by_cases d : isD c
    · rw [mtp_d d] at h ⊢
      have di : dct (c :: r) = dct r + 1 := if_pos d
      by_cases e : p < n ∧ dgt (T p) = true
      · rw [if_pos e] at h ⊢
        have h : (mtp T n r (rdv T n (dw c) p 0).2).1 = true := h
        rw [di]
        exact congrArg (· + 1) (mtp_len r _ h)
      · rw [if_neg e] at h
        cases h
    · rw [mtp_l d] at h ⊢
      have di : dct (c :: r) = dct r := if_neg d
      by_cases e : p < n ∧ T p = c
      · rw [if_pos e] at h ⊢
        rw [di]
        exact mtp_len r _ h
      · rw [if_neg e] at h
        cases h
theorem imax_nI {a b : Nat} (ha : a < 2 ^ 30) (hb : b < 2 ^ 30) : imax (nI a) (nI b) = nI (max a b) := by
  unfold imax
  by_cases c : a < b
  · rw [if_pos ((nI_ltI (by omega) (by omega)).mpr c), Nat.max_eq_right (by omega)]
  · rw [if_neg (fun q => c ((nI_ltI (by omega) (by omega)).mp q)), Nat.max_eq_left (by omega)]
def F4 (o : Nat) (V V1 : St) : Prop := (∀ k, k ≠ 192 → k ≠ 194 → k ≠ 196 + o → V1 k = V k) ∧ (∀ j, j ≠ 2 → V1 192 j = V 192 j) ∧ ∀ j, j ≠ o → V1 194 j = V 194 j
theorem F4.tr {o : Nat} {V V1 V2 : St} (h : F4 o V V1) (h2 : F4 o V1 V2) : F4 o V V2 := ⟨fun k a b c => (h2.1 k a b c).trans (h.1 k a b c), fun j a => (h2.2.1 j a).trans (h.2.1 j a), fun j a => (h2.2.2 j a).trans (h.2.2 j a)⟩
theorem F3.f4 {o : Nat} (ho : o < 9) {V V1 : St} (h : F3 o V V1) : F4 o V V1 := ⟨fun k a _ c => h.1 k a c, h.2, fun j _ => by rw [h.1 194 (by decide) (by omega)]⟩
theorem pw_eq (V : St) {o : Nat} (ho : o < 9) (x : Int32) : f_X7_putWord V (nI o) x = some (up V 194 o x) := by
  rw [f_X7_putWord, if_neg (nI_pos (by omega)), if_neg (show ¬ (9 : Int32) ≤ nI o from nI_ge (b := 9) ho (by decide)), ix_nI ho (by decide), bs]
theorem ro_lp (hn : n ≤ 60) {o : Nat} (ho : o < 9) {p : Nat} (hp : p ≤ n) : ∀ (f w x q : Nat) (V : St), w ≤ 8 → 8 < f + w → PZ T n q V → x ≤ n + 1 → (w ≤ sel T n p → p ≤ x ∧ x ≤ if sel T n p < 8 then p + 1 else p) → (sel T n p < w → (rsl T n p).1 = false ∧ x = (rsl T n p).2.1) →
    ∃ V1, f_X7_readOrder_b13 f V (nI o) (nI p) (nI x) (nI w) = some (bI (rsl T n p).1, V1) ∧ PZ T n (rsl T n p).2.1 V1 ∧ F4 o V V1 ∧ ((rsl T n p).1 = true → V1 194 o = nI (sel T n p) ∧ ∀ j, j < (rsl T n p).2.2.length → V1 (196 + o) j = (rsl T n p).2.2.getD j 0)
  | 0, w, x, q, V, h1, h2, _, _, _, _ => by omega
  | f + 1, w, x, q, V, h1, h2, hP, hx, ha, hb => by
    rw [f_X7_readOrder_b13]
    by_cases e : w = 8
    · subst e
      have hr : (rsl T n p).1 = false ∧ x = (rsl T n p).2.1 := by
        by_cases c : sel T n p < 8
        · exact hb c
        · obtain ⟨a1, a2⟩ := ha (by omega)
          rw [if_neg c] at a2
          unfold rsl
          rw [if_neg c]
          exact ⟨rfl, show x = p by omega⟩
      rw [if_pos (show (8 : Int32) ≤ nI 8 by decide), hr.1]
      refine ⟨up V 192 2 (nI x), rfl, ?_, ⟨fun k a _ _ => up_at a, fun j a => up_ne _ (fun _ => a), fun j _ => by rw [up_at (by decide)]⟩, fun z => by cases z⟩
      rw [← hr.2]
      exact hP.mv
    · have hw : w < 8 := by omega
      have es := frm_stx ⟨w, hw⟩
      have eo := frm_of ⟨w, hw⟩
      have en := frm_n ⟨w, hw⟩
      obtain ⟨V1, b1, b2, b3, b4, b5⟩ := rf_lp hn ho (t := 20 + w) (L := frm w) es en.2.1 (frm w) 500 0 0 p (up V 192 2 (nI p)) List.drop_zero (Nat.zero_le _) (by have := en.2.1; show (frm w).length < 500; have q : (frm w).length < 60 := this; omega) (by have q : dct (frm w) ≤ 4 := en.1; omega) hP.mv hp
      have b1 : f_X7_readForm (up V 192 2 (nI p)) (20 + w) (nI o) = some (bI (mtp T n (frm w) p).1, V1) := b1
      have F : F4 o V V1 := ((F2.s V (nI p)).f3 o).tr b3 |>.f4 ho
      rw [if_neg (show ¬ (8 : Int32) ≤ nI w from nI_ge (b := 8) hw (by decide)), eo, bs, b1, bs]
      have ml := mtp_le (T := T) (frm w) p hp
      by_cases s : w = sel T n p
      · have s8 : sel T n p < 8 := by omega
        have er : rsl T n p = mtp T n (frm w) p := by
          unfold rsl
          rw [if_pos s8, ← s]
        obtain ⟨a1, a2⟩ := ha (by omega)
        rw [if_pos s8] at a2
        cases z : (mtp T n (frm w) p).1
        · rw [if_pos (show (bI false, V1).1 = 0 from (by decide : bI false = 0))]
          show ∃ V2, f_X7_readOrder_b13 f V1 (nI o) (nI p) (imax (nI x) (V1 192 2)) (nI w + 1) = _ ∧ _
          have m1 := mt_sel s8
          rw [← s] at m1
          rw [b2.1, imax_nI (by omega) (by omega), Nat.max_eq_right (by omega), nI_1]
          obtain ⟨V2, c1, c2, c3, c4⟩ := ro_lp hn ho hp f (w + 1) (mtp T n (frm w) p).2.1 (mtp T n (frm w) p).2.1 V1 (by omega) (by omega) b2 (by omega) (fun q => by omega) (fun _ => by rw [er]; exact ⟨z, rfl⟩)
          exact ⟨V2, c1, c2, F.tr c3, c4⟩
        · rw [if_neg (show ¬ (bI true, V1).1 = 0 from (by decide : ¬ bI true = 0))]
          show ∃ V2, ((f_X7_putWord V1 (nI o) (nI w)).bind fun q5 => some ((1 : Int32), q5)) = _ ∧ _
          rw [pw_eq V1 ho (nI w), bs, er, z]
          refine ⟨up V1 194 o (nI w), rfl, ⟨by rw [up_at (by decide), b2.1], by rw [up_at (by decide), b2.2.1], fun j hj => by rw [up_at (by decide), b2.2.2 j hj]⟩, F.tr ⟨fun k _ b _ => up_at b, fun j _ => by rw [up_at (by decide)], fun j hj => up_ne _ (fun _ => hj)⟩, fun _ => ⟨by rw [up_self, s], fun j hj => ?_⟩⟩
          rw [up_at (by omega)]
          have := b5 j hj
          rw [Nat.zero_add] at this
          exact this
      · obtain ⟨m1, m2, m3⟩ := mt_other hw s
        rw [m1, if_pos (show (bI false, V1).1 = 0 from (by decide : bI false = 0))]
        show ∃ V2, f_X7_readOrder_b13 f V1 (nI o) (nI p) (imax (nI x) (V1 192 2)) (nI w + 1) = _ ∧ _
        rw [b2.1, imax_nI (by omega) (by omega), nI_1]
        by_cases c : w < sel T n p
        · obtain ⟨a1, a2⟩ := ha (by omega)
          obtain ⟨V2, c1, c2, c3, c4⟩ := ro_lp hn ho hp f (w + 1) (max x (mtp T n (frm w) p).2.1) (mtp T n (frm w) p).2.1 V1 (by omega) (by omega) b2 (by omega) (fun q => ⟨by omega, Nat.max_le.mpr ⟨a2, m3⟩⟩) (fun q => by omega)
          exact ⟨V2, c1, c2, F.tr c3, c4⟩
        · have s8 : sel T n p < 8 := by omega
          obtain ⟨r1, r2⟩ := hb (by omega)
          rw [if_pos s8] at m3
          have r3 : p + 1 ≤ x := by
            rw [r2]
            unfold rsl
            rw [if_pos s8]
            exact mt_sel s8
          obtain ⟨V2, c1, c2, c3, c4⟩ := ro_lp hn ho hp f (w + 1) (max x (mtp T n (frm w) p).2.1) (mtp T n (frm w) p).2.1 V1 (by omega) (by omega) b2 (by omega) (fun q => by omega) (fun _ => ⟨r1, by rw [Nat.max_eq_left (by omega)]; exact r2⟩)
          exact ⟨V2, c1, c2, F.tr c3, c4⟩
theorem ro_eq (hn : n ≤ 60) {o : Nat} (ho : o < 9) {p : Nat} (hp : p ≤ n) {V : St} (hP : PZ T n p V) : ∃ V1, f_X7_readOrder V (nI o) = some (bI (rsl T n p).1, V1) ∧ PZ T n (rsl T n p).2.1 V1 ∧ F4 o V V1 ∧ ((rsl T n p).1 = true → V1 194 o = nI (sel T n p) ∧ ∀ j, j < (rsl T n p).2.2.length → V1 (196 + o) j = (rsl T n p).2.2.getD j 0) := by
  rw [f_X7_readOrder, hP.1]
  exact ro_lp hn ho hp 500 0 p p V (by decide) (by decide) hP (by omega) (fun _ => ⟨Nat.le_refl _, by split <;> omega⟩) (fun h => absurd h (Nat.not_lt_zero _))
end OM2
