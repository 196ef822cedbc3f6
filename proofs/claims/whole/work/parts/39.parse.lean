/-! the tape read as a text: by codes of forms -/
def dgt (x : Int32) : Bool := if x < 48 then false else if 57 < x then false else true
/-- the digits from p on, w at most, behind the number x -/
def rdv (T : Nat → Int32) (n : Nat) : Nat → Nat → Int32 → Int32 × Nat
  | 0, p, x => (x, p)
  | w + 1, p, x => if p < n ∧ dgt (T p) = true then rdv T n w (p + 1) (10 * x + (T p - 48)) else (x, p)
theorem rdv_s (T : Nat → Int32) (n w p : Nat) (x : Int32) : rdv T n (w + 1) p x = if p < n ∧ dgt (T p) = true then rdv T n w (p + 1) (10 * x + (T p - 48)) else (x, p) := rfl
theorem rdv_le (T : Nat → Int32) (n : Nat) : ∀ (w p : Nat) (x : Int32), p ≤ n → p ≤ (rdv T n w p x).2 ∧ (rdv T n w p x).2 ≤ n
  | 0, p, x, h => ⟨Nat.le_refl _, h⟩
  | w + 1, p, x, h => by
    rw [rdv_s]
    by_cases c : p < n ∧ dgt (T p) = true
    · rw [if_pos c]
      have := rdv_le T n w (p + 1) (10 * x + (T p - 48)) c.1
      exact ⟨by omega, this.2⟩
    · rw [if_neg c]
      exact ⟨Nat.le_refl _, h⟩
def dw (c : Int32) : Nat := if c = 78 then 2 else 1
def isD (c : Int32) : Prop := c = 68 ∨ c = 78
def mtp (T : Nat → Int32) (n : Nat) : List Int32 → Nat → Bool × Nat × List Int32
  | [], p => (true, p, [])
  | c :: r, p =>
    if c = 68 ∨ c = 78 then
      (if p < n ∧ dgt (T p) = true then ((mtp T n r (rdv T n (dw c) p 0).2).1, (mtp T n r (rdv T n (dw c) p 0).2).2.1, (rdv T n (dw c) p 0).1 :: (mtp T n r (rdv T n (dw c) p 0).2).2.2) else (false, p, []))
    else (if p < n ∧ T p = c then mtp T n r (p + 1) else (false, p, []))
section MT
variable {T : Nat → Int32} {n : Nat}
theorem mtp_n (p : Nat) : mtp T n [] p = (true, p, []) := rfl
theorem mtp_d {c : Int32} (h : isD c) (r : List Int32) (p : Nat) : mtp T n (c :: r) p = if p < n ∧ dgt (T p) = true then ((mtp T n r (rdv T n (dw c) p 0).2).1, (mtp T n r (rdv T n (dw c) p 0).2).2.1, (rdv T n (dw c) p 0).1 :: (mtp T n r (rdv T n (dw c) p 0).2).2.2) else (false, p, []) := by
  rw [mtp]
  exact if_pos h
theorem mtp_l {c : Int32} (h : ¬ isD c) (r : List Int32) (p : Nat) : mtp T n (c :: r) p = if p < n ∧ T p = c then mtp T n r (p + 1) else (false, p, []) := by
  rw [mtp]
  exact if_neg h
theorem dw_pos (c : Int32) : 1 ≤ dw c := by unfold dw; split <;> decide
theorem rdv_1 {c : Int32} {p : Nat} (h : p < n ∧ dgt (T p) = true) : p + 1 ≤ (rdv T n (dw c) p 0).2 ∧ (rdv T n (dw c) p 0).2 ≤ n := by
  obtain ⟨w, hw⟩ : ∃ w, dw c = w + 1 := ⟨dw c - 1, by have := dw_pos c; omega⟩
  rw [hw, rdv_s, if_pos h]
  have := rdv_le T n w (p + 1) (10 * 0 + (T p - 48)) h.1
  exact this
theorem mtp_le : ∀ (L : List Int32) (p : Nat), p ≤ n → p ≤ (mtp T n L p).2.1 ∧ (mtp T n L p).2.1 ≤ n ∧ ((mtp T n L p).1 = true → p + L.length ≤ (mtp T n L p).2.1)
  | [], p, h => ⟨Nat.le_refl _, h, fun _ => Nat.le_refl _⟩
  | c :: r, p, h => by
    by_cases d : isD c
    · rw [mtp_d d]
      by_cases e : p < n ∧ dgt (T p) = true
      · rw [if_pos e]
        have h1 := rdv_1 (c := c) e
        have h2 := mtp_le r (rdv T n (dw c) p 0).2 h1.2
        refine ⟨?_, h2.2.1, fun q => ?_⟩
        · show p ≤ (mtp T n r (rdv T n (dw c) p 0).2).2.1
          omega
        · have q : (mtp T n r (rdv T n (dw c) p 0).2).1 = true := q
          have := h2.2.2 q
          show p + (r.length + 1) ≤ (mtp T n r (rdv T n (dw c) p 0).2).2.1
          omega
      · rw [if_neg e]
        exact ⟨Nat.le_refl _, h, fun q => by cases q⟩
    · rw [mtp_l d]
      by_cases e : p < n ∧ T p = c
      · rw [if_pos e]
        have h2 := mtp_le r (p + 1) e.1
        refine ⟨by omega, h2.2.1, fun q => ?_⟩
        have := h2.2.2 q
        show p + (r.length + 1) ≤ _
        omega
      · rw [if_neg e]
        exact ⟨Nat.le_refl _, h, fun q => by cases q⟩
end MT
/-- how many numbers a form asks for -/
def dct : List Int32 → Nat
  | [] => 0
  | c :: r => if c = 68 ∨ c = 78 then dct r + 1 else dct r
/-! the class reads -/
def PZ (T : Nat → Int32) (n p : Nat) (V : St) : Prop := V 192 2 = nI p ∧ V 192 1 = nI n ∧ ∀ j, j < n → V 193 j = T j
section CR
variable {T : Nat → Int32} {n : Nat}
theorem inT {p : Nat} {V : St} (h : PZ T n p V) (hn : n ≤ 60) (hp : p ≤ n) : f_X7_isInText V = some (bI (decide (p < n))) := by
  rw [f_X7_isInText, h.1, h.2.1, if_neg (nI_pos (by omega))]
  by_cases c : p < n
  · rw [if_neg (nI_ge c (by omega)), if_neg (show ¬ (60 : Int32) ≤ nI p from nI_ge (b := 60) (by omega) (by decide)), decide_eq_true c]
    rfl
  · rw [if_pos (nI_le (by omega) (by omega)), decide_eq_false c]
    rfl
theorem isDN {p : Nat} {V : St} (h : PZ T n p V) (hn : n ≤ 60) (hp : p ≤ n) : f_X7_isDigitNext V = some (if p < n ∧ dgt (T p) = true then 1 else 0) := by
  rw [f_X7_isDigitNext, inT h hn hp, bs]
  by_cases c : p < n
  · rw [decide_eq_true c, if_neg (show ¬ bI true = 0 by decide), h.1, ix_nI (show p < 60 by omega) (by decide), bs, bs, h.2.2 p c]
    unfold dgt
    by_cases a : T p < 48
    · rw [if_pos a, if_pos a, if_neg (fun q => by cases q.2)]
    · rw [if_neg a, if_neg a]
      by_cases b : 57 < T p
      · rw [if_pos b, if_pos b, if_neg (fun q => by cases q.2)]
      · rw [if_neg b, if_neg b, if_pos ⟨c, rfl⟩]
  · rw [decide_eq_false c, if_pos (show bI false = 0 by decide), if_neg (fun q => c q.1)]
theorem isNX {p : Nat} {V : St} (h : PZ T n p V) (hn : n ≤ 60) (hp : p ≤ n) (x : Int32) : f_X7_isNext V x = some (if p < n ∧ T p = x then 1 else 0) := by
  rw [f_X7_isNext, inT h hn hp, bs]
  by_cases c : p < n
  · rw [decide_eq_true c, if_neg (show ¬ bI true = 0 by decide), h.1, ix_nI (show p < 60 by omega) (by decide), bs, h.2.2 p c]
    by_cases a : T p = x
    · rw [if_pos a, if_pos ⟨c, a⟩]
    · rw [if_neg a, if_neg (fun q => a q.2)]
  · rw [decide_eq_false c, if_pos (show bI false = 0 by decide), if_neg (fun q => c q.1)]
def F2 (V V1 : St) : Prop := (∀ k, k ≠ 192 → V1 k = V k) ∧ ∀ j, j ≠ 2 → V1 192 j = V 192 j
theorem F2.rf (V : St) : F2 V V := ⟨fun _ _ => rfl, fun _ _ => rfl⟩
theorem F2.tr {V V1 V2 : St} (h : F2 V V1) (h2 : F2 V1 V2) : F2 V V2 := ⟨fun k a => (h2.1 k a).trans (h.1 k a), fun j a => (h2.2 j a).trans (h.2 j a)⟩
theorem F2.s (V : St) (x : Int32) : F2 V (up V 192 2 x) := ⟨fun _ h => up_at h, fun _ h => up_ne _ (fun _ => h)⟩
theorem PZ.mv {p q : Nat} {V : St} (h : PZ T n p V) : PZ T n q (up V 192 2 (nI q)) := ⟨up_self _ _ _ _, by rw [up_ne _ (fun _ => by decide), h.2.1], fun j hj => by rw [up_at (by decide), h.2.2 j hj]⟩
theorem rn_lp (hn : n ≤ 60) : ∀ (f w i p : Nat) (x : Int32) (V : St), PZ T n p V → p ≤ n → w < f → i + w < 100 → ∃ V1, f_X7_readNumber_b15 f V x (nI (i + w)) (nI i) = some ((rdv T n w p x).1, V1) ∧ PZ T n (rdv T n w p x).2 V1 ∧ F2 V V1
  | 0, w, i, p, x, V, _, _, h, _ => by omega
  | f + 1, 0, i, p, x, V, h, hp, hf, hi => by
    rw [f_X7_readNumber_b15, if_pos (nI_le (by omega) (by omega))]
    exact ⟨V, rfl, h, F2.rf V⟩
  | f + 1, w + 1, i, p, x, V, h, hp, hf, hi => by
    rw [f_X7_readNumber_b15, if_neg (nI_ge (by omega) (by omega)), isDN h hn hp, bs, rdv_s]
    by_cases c : p < n ∧ dgt (T p) = true
    · rw [if_pos c, if_pos c, if_neg (show ¬ (1 : Int32) = 0 by decide), h.1, ix_nI (show p < 60 by omega) (by decide), bs, h.2.2 p c.1, nI_1, nI_1]
      obtain ⟨V1, a1, a2, a3⟩ := rn_lp hn f w (i + 1) (p + 1) (10 * x + (T p - 48)) _ (h.mv (q := p + 1)) c.1 (by omega) (by omega)
      rw [show i + (w + 1) = i + 1 + w from by omega]
      exact ⟨V1, a1, a2, (F2.s _ _).tr a3⟩
    · rw [if_neg c, if_neg c, if_pos (show (0 : Int32) = 0 by decide)]
      exact ⟨V, rfl, h, F2.rf V⟩
theorem rn_eq (hn : n ≤ 60) {p : Nat} {V : St} (h : PZ T n p V) (hp : p ≤ n) (c : Int32) : ∃ V1, f_X7_readNumber V (if c = 78 then 1 else 0) = some ((rdv T n (dw c) p 0).1, V1) ∧ PZ T n (rdv T n (dw c) p 0).2 V1 ∧ F2 V V1 := by
  by_cases e : c = 78
  · obtain ⟨V1, a1, a2, a3⟩ := rn_lp hn 500 2 0 p 0 V h hp (by decide) (by decide)
    rw [if_pos e, f_X7_readNumber, if_neg (by decide), show dw c = 2 from if_pos e]
    exact ⟨V1, a1, a2, a3⟩
  · obtain ⟨V1, a1, a2, a3⟩ := rn_lp hn 500 1 0 p 0 V h hp (by decide) (by decide)
    rw [if_neg e, f_X7_readNumber, if_pos rfl, show dw c = 1 from if_neg e]
    exact ⟨V1, a1, a2, a3⟩
/-- what reading one order leaves alone -/
def F3 (o : Nat) (V V1 : St) : Prop := (∀ k, k ≠ 192 → k ≠ 196 + o → V1 k = V k) ∧ ∀ j, j ≠ 2 → V1 192 j = V 192 j
theorem F3.rf (o : Nat) (V : St) : F3 o V V := ⟨fun _ _ _ => rfl, fun _ _ => rfl⟩
theorem F3.tr {o : Nat} {V V1 V2 : St} (h : F3 o V V1) (h2 : F3 o V1 V2) : F3 o V V2 := ⟨fun k a b => (h2.1 k a b).trans (h.1 k a b), fun j a => (h2.2 j a).trans (h.2 j a)⟩
theorem F2.f3 {V V1 : St} (h : F2 V V1) (o : Nat) : F3 o V V1 := ⟨fun k a _ => h.1 k a, h.2⟩
theorem PZ.f {p o : Nat} {V V1 : St} (h : PZ T n p V) (f : F3 o V V1) (ho : o < 9) (e : V1 192 2 = V 192 2) : PZ T n p V1 := ⟨e.trans h.1, (f.2 1 (by decide)).trans h.2.1, fun j hj => by rw [f.1 193 (by decide) (by omega), h.2.2 j hj]⟩
theorem dp_cons {L r : List Int32} {c : Int32} {i : Nat} (h : L.drop i = c :: r) : i < L.length ∧ L.getD i 0 = c ∧ L.drop (i + 1) = r := by
  have hi : i < L.length := by
    rcases Nat.lt_or_ge i L.length with q | q
    · exact q
    · rw [List.drop_eq_nil_iff.mpr q] at h
      cases h
  have e := List.drop_eq_getElem_cons hi
  rw [h] at e
  injection e with e1 e2
  refine ⟨hi, ?_, e2.symm⟩
  rw [List.getD_eq_getElem?_getD, List.getElem?_eq_getElem hi]
  exact e1.symm
theorem dp_nil {L : List Int32} {i : Nat} (h : L.drop i = []) (hi : i ≤ L.length) : i = L.length := Nat.le_antisymm hi (List.drop_eq_nil_iff.mp h)
theorem len_eq {t : Nat} {L : List Int32} (hL : stx t = some L) : f_J0_length_8abf5 t = some (nI L.length) := by rw [f_J0_length_8abf5, hL, bs]
theorem chr_eq {t : Nat} {L : List Int32} (hL : stx t = some L) {i : Nat} (hi : i < L.length) (hl : L.length < 60) : f_J0_charAt_5068e t (nI i) = some (L.getD i 0) := by rw [f_J0_charAt_5068e, hL, bs, ix_nI hi (by omega), bs]
theorem b36_d (C : St → Nat → Int32 → Int32 → Int32 → Option (Int32 × St)) (hn : n ≤ 60) {p : Nat} {V : St} (h : PZ T n p V) (hp : p ≤ n) (t : Nat) (x2 x3 x4 c : Int32) :
    f_X7_readForm_b36 C V t x2 x3 x4 c = if p < n ∧ dgt (T p) = true then (f_X7_readNumber V (if c = 78 then 1 else 0)).bind fun q1 => (f_X7_putNumber q1.2 x2 x3 q1.1).bind fun q2 => C q2 t x2 (x3 + 1) (x4 + 1) else some (0, V) := by
  rw [f_X7_readForm_b36, isDN h hn hp, bs]
  by_cases e : p < n ∧ dgt (T p) = true
  · rw [if_pos e, if_pos e, if_neg (show ¬ (1 : Int32) = 0 by decide)]
    by_cases d : c = 78
    · rw [if_pos d, if_pos d]
      rfl
    · rw [if_neg d, if_neg d]
      rfl
  · rw [if_neg e, if_neg e, if_pos (show (0 : Int32) = 0 by decide)]
theorem pn_eq (V : St) {o i : Nat} (ho : o < 9) (hi : i < 4) (x : Int32) : f_X7_putNumber V (nI o) (nI i) x = some (up V (196 + o) i x) := by
  rw [f_X7_putNumber, if_neg (nI_pos (by omega)), if_neg (show ¬ (9 : Int32) ≤ nI o from nI_ge (b := 9) ho (by decide)), if_neg (nI_pos (by omega)), if_neg (show ¬ (4 : Int32) ≤ nI i from nI_ge (b := 4) hi (by decide)), ix_nI ho (by decide), bs, ix_nI hi (by decide), bs]
theorem rf_lp (hn : n ≤ 60) {t o : Nat} (ho : o < 9) {L : List Int32} (hL : stx t = some L) (hl : L.length < 60) : ∀ (r : List Int32) (f i idx p : Nat) (V : St), L.drop i = r → i ≤ L.length → r.length < f → idx + dct r ≤ 4 → PZ T n p V → p ≤ n →
    ∃ V1, f_X7_readForm_b5 f V t (nI o) (nI idx) (nI i) = some (bI (mtp T n r p).1, V1) ∧ PZ T n (mtp T n r p).2.1 V1 ∧ F3 o V V1 ∧ (∀ j, j < idx → V1 (196 + o) j = V (196 + o) j) ∧ ∀ j, j < (mtp T n r p).2.2.length → V1 (196 + o) (idx + j) = (mtp T n r p).2.2.getD j 0
  | r, 0, i, idx, p, V, _, _, h, _, _, _ => by omega
  | [], f + 1, i, idx, p, V, hd, hil, hf, hi, h, hp => by
    have il := dp_nil hd hil
    rw [f_X7_readForm_b5, len_eq hL, bs, il, if_pos (nI_le (Nat.le_refl _) (by omega))]
    exact ⟨V, rfl, h, F3.rf _ _, fun _ _ => rfl, fun j hj => absurd hj (Nat.not_lt_zero j)⟩
  | c :: r, f + 1, i, idx, p, V, hd, hil, hf, hi, h, hp => by
    obtain ⟨h1, h2, h3⟩ := dp_cons hd
    rw [f_X7_readForm_b5, len_eq hL, bs, if_neg (nI_ge h1 (by omega)), chr_eq hL h1 hl, bs, h2]
    have hf : r.length < f := by
      have : r.length + 1 < f + 1 := hf
      omega
    by_cases d : isD c
    · have e36 : (if c = 68 then f_X7_readForm_b36 (fun V t1 x2 x3 x4 => f_X7_readForm_b5 f V t1 x2 x3 x4) V t (nI o) (nI idx) (nI i) c else if c = 78 then f_X7_readForm_b36 (fun V t1 x2 x3 x4 => f_X7_readForm_b5 f V t1 x2 x3 x4) V t (nI o) (nI idx) (nI i) c else (f_X7_isNext V c).bind fun q11 => if q11 = 0 then some (0, V) else f_X7_readForm_b97 (fun V t1 x2 x3 x4 => f_X7_readForm_b5 f V t1 x2 x3 x4) (up V 192 2 ((V 192 2) + 1)) t (nI o) (nI idx) (nI i)) = f_X7_readForm_b36 (fun V t1 x2 x3 x4 => f_X7_readForm_b5 f V t1 x2 x3 x4) V t (nI o) (nI idx) (nI i) c := by
        by_cases e : c = 68
        · rw [if_pos e]
        · rw [if_neg e, if_pos (d.resolve_left e)]
      rw [e36, b36_d _ hn h hp, mtp_d d]
      have di : dct (c :: r) = dct r + 1 := if_pos d
      by_cases e : p < n ∧ dgt (T p) = true
      · obtain ⟨V1, a1, a2, a3⟩ := rn_eq hn h hp c
        have hq := rdv_1 (c := c) e
        have P2 : PZ T n (rdv T n (dw c) p 0).2 (up V1 (196 + o) idx (rdv T n (dw c) p 0).1) := ⟨by rw [up_at (by omega), a2.1], by rw [up_at (by omega), a2.2.1], fun j hj => by rw [up_at (by omega), a2.2.2 j hj]⟩
        obtain ⟨V3, b1, b2, b3, b4, b5⟩ := rf_lp hn ho hL hl r f (i + 1) (idx + 1) _ _ h3 h1 hf (by omega) P2 hq.2
        rw [if_pos e, if_pos e, a1, bs, pn_eq _ ho (by omega), bs, nI_1, nI_1]
        have F : F3 o V (up V1 (196 + o) idx (rdv T n (dw c) p 0).1) := ⟨fun k k1 k2 => by rw [up_at k2, a3.1 k k1], fun j hj => by rw [up_at (by omega), a3.2 j hj]⟩
        refine ⟨V3, b1, b2, F.tr b3, fun j hj => ?_, fun j hj => ?_⟩
        · rw [b4 j (by omega), up_ne _ (fun _ => by omega), a3.1 _ (by omega)]
        · cases j with
          | zero =>
            show V3 (196 + o) idx = (rdv T n (dw c) p 0).1
            rw [b4 idx (by omega), up_self]
          | succ j =>
            have hj : j + 1 < (mtp T n r (rdv T n (dw c) p 0).2).2.2.length + 1 := hj
            have := b5 j (by omega)
            show V3 (196 + o) (idx + (j + 1)) = (mtp T n r (rdv T n (dw c) p 0).2).2.2.getD j 0
            rw [← this, show idx + (j + 1) = idx + 1 + j from by omega]
      · rw [if_neg e, if_neg e]
        exact ⟨V, rfl, h, F3.rf _ _, fun _ _ => rfl, fun j hj => absurd hj (Nat.not_lt_zero j)⟩
    · have di : dct (c :: r) = dct r := if_neg d
      rw [if_neg (fun e => d (Or.inl e)), if_neg (fun e => d (Or.inr e)), isNX h hn hp, bs, mtp_l d]
      by_cases e : p < n ∧ T p = c
      · obtain ⟨V3, b1, b2, b3, b4, b5⟩ := rf_lp hn ho hL hl r f (i + 1) idx (p + 1) _ h3 h1 hf (by omega) (h.mv (q := p + 1)) e.1
        rw [if_pos e, if_pos e, if_neg (show ¬ (1 : Int32) = 0 by decide), f_X7_readForm_b97, h.1, nI_1, nI_1]
        refine ⟨V3, b1, b2, ((F2.s V _).f3 o).tr b3, fun j hj => ?_, b5⟩
        rw [b4 j hj, up_at (by omega)]
      · rw [if_neg e, if_neg e, if_pos (show (0 : Int32) = 0 by decide)]
        exact ⟨V, rfl, h, F3.rf _ _, fun _ _ => rfl, fun j hj => absurd hj (Nat.not_lt_zero j)⟩
end CR
/-! the model reads -/
def MS (T : Nat → Int32) (n : Nat) (w : Bool) (p : Nat) (U : St) : Prop := U 208 25 = bI w ∧ U 208 22 = nI p ∧ U 208 23 = nI n ∧ ∀ j, j < n → U 213 j = T j
def GF (U U1 : St) : Prop := (∀ k, k ≠ 208 → k ≠ 214 → U1 k = U k) ∧ ∀ j, j ≠ 22 → j ≠ 25 → U1 208 j = U 208 j
theorem GF.rf (U : St) : GF U U := ⟨fun _ _ _ => rfl, fun _ _ _ => rfl⟩
theorem GF.tr {V V1 V2 : St} (h : GF V V1) (h2 : GF V1 V2) : GF V V2 := ⟨fun k a b => (h2.1 k a b).trans (h.1 k a b), fun j a b => (h2.2 j a b).trans (h.2 j a b)⟩
theorem GF.w (U : St) (x : Int32) : GF U (up U 208 25 x) := ⟨fun _ h _ => up_at h, fun _ _ h => up_ne _ (fun _ => h)⟩
theorem GF.p (U : St) (x : Int32) : GF U (up U 208 22 x) := ⟨fun _ h _ => up_at h, fun _ h _ => up_ne _ (fun _ => h)⟩
theorem GF.t (U : St) (q : Nat) (x : Int32) : GF U (up U 214 q x) := ⟨fun _ _ h => up_at h, fun _ _ _ => by rw [up_at (by decide)]⟩
section MR
variable {T : Nat → Int32} {n : Nat}
theorem MS.g {w : Bool} {p : Nat} {U U1 : St} (h : MS T n w p U) (f : GF U U1) (w1 : Bool) (p1 : Nat) (e1 : U1 208 25 = bI w1) (e2 : U1 208 22 = nI p1) : MS T n w1 p1 U1 := ⟨e1, e2, (f.2 23 (by decide) (by decide)).trans h.2.2.1, fun j hj => by rw [f.1 213 (by decide) (by decide), h.2.2.2 j hj]⟩
theorem here0 {w : Bool} {p : Nat} {U : St} (h : MS T n w p U) (hn : n ≤ 60) (hp : p ≤ n) : f_X10_here U 0 = some (if p < n then T p else -1) := by
  rw [f_X10_here, h.2.1, h.2.2.1, Int32.add_zero]
  by_cases c : p < n
  · rw [if_neg (nI_ge c (by omega)), ix_nI (show p < 60 by omega) (by decide), bs, h.2.2.2 p c, if_pos c]
  · rw [if_pos (nI_le (by omega) (by omega)), if_neg c]
theorem here1 {w : Bool} {p : Nat} {U : St} (h : MS T n w p U) (hn : n ≤ 60) (hp : p ≤ n) : f_X10_here U 1 = some (if p + 1 < n then T (p + 1) else -1) := by
  rw [f_X10_here, h.2.1, h.2.2.1, nI_1]
  by_cases c : p + 1 < n
  · rw [if_neg (nI_ge c (by omega)), ix_nI (show p + 1 < 60 by omega) (by decide), bs, h.2.2.2 _ c, if_pos c]
  · rw [if_pos (nI_le (by omega) (by omega)), if_neg c]
theorem sy_w {t : Nat} {L : List Int32} (hL : stx t = some L) (f i : Nat) (U : St) (h : U 208 25 = 1) : f_X10_says_b2 (f + 1) U t (nI i) = some U := by
  rw [f_X10_says_b2, len_eq hL, bs, h]
  split
  · rfl
  · rw [if_neg (by decide)]
theorem b36_0 (C : St → Nat → Int32 → Option St) (U : St) (t : Nat) (x2 : Int32) : f_X10_says_b36 C U t x2 0 = C (up (up U 208 25 0) 208 22 (U 208 22 + 1)) t (x2 + 1) := by
  have b0 : nr .boolean 0 = some (0 : Int32) := nr_b false
  rw [f_X10_says_b36, b0, bs, up_self, if_pos rfl, f_X10_says_b56, up_ne U (fun _ => by decide)]
theorem b36_1 (C : St → Nat → Int32 → Option St) (U : St) (t : Nat) (x2 : Int32) : f_X10_says_b36 C U t x2 1 = C (up (up U 208 25 1) 208 22 (U 208 22 + 0)) t (x2 + 1) := by
  have b1 : nr .boolean 1 = some (1 : Int32) := nr_b true
  rw [f_X10_says_b36, b1, bs, up_self, if_neg (by decide), f_X10_says_b56, up_ne U (fun _ => by decide)]
theorem sy_lp (hn : n ≤ 60) {t : Nat} {L : List Int32} (hL : stx t = some L) (hl : L.length < 60) (hc : ∀ c ∈ L, ¬ isD c ∧ ¬ c = -1) : ∀ (r : List Int32) (f i p : Nat) (U : St), L.drop i = r → i ≤ L.length → r.length < f → MS T n false p U → p ≤ n →
    ∃ U1, f_X10_says_b2 f U t (nI i) = some U1 ∧ MS T n (!(mtp T n r p).1) (mtp T n r p).2.1 U1 ∧ GF U U1 ∧ U1 214 = U 214
  | r, 0, i, p, U, _, _, h, _, _ => by omega
  | [], f + 1, i, p, U, hd, hil, hf, h, hp => by
    have il := dp_nil hd hil
    rw [f_X10_says_b2, len_eq hL, bs, il, if_pos (nI_le (Nat.le_refl _) (by omega))]
    exact ⟨U, rfl, h, GF.rf _, rfl⟩
  | c :: r, f + 1, i, p, U, hd, hil, hf, h, hp => by
    obtain ⟨h1, h2, h3⟩ := dp_cons hd
    have hcm : c ∈ L := by
      have : c ∈ L.drop i := by rw [hd]; exact List.mem_cons_self
      exact List.mem_of_mem_drop this
    obtain ⟨d, m1⟩ := hc c hcm
    have hf : r.length < f := by
      have : r.length + 1 < f + 1 := hf
      omega
    have e25 : U 208 25 = 0 := h.1
    rw [f_X10_says_b2, len_eq hL, bs, if_neg (nI_ge h1 (by omega)), if_pos e25, here0 h hn hp, bs, chr_eq hL h1 hl, bs, h2, mtp_l d]
    by_cases e : p < n ∧ T p = c
    · rw [if_pos e.1, if_pos e.2, if_pos e, b36_0, h.2.1, nI_1, nI_1]
      have g : GF U (up (up U 208 25 0) 208 22 (nI (p + 1))) := (GF.w U 0).tr (GF.p _ _)
      obtain ⟨U1, a1, a2, a3, a4⟩ := sy_lp hn hL hl hc r f (i + 1) (p + 1) _ h3 h1 hf (h.g g false (p + 1) (by rw [up_ne _ (fun _ => by decide), up_self]; rfl) (up_self _ _ _ _)) e.1
      refine ⟨U1, a1, a2, g.tr a3, ?_⟩
      rw [a4, up_at (by decide), up_at (by decide)]
    · have ne : ¬ (if p < n then T p else -1) = c := by
        by_cases q : p < n
        · rw [if_pos q]
          exact fun z => e ⟨q, z⟩
        · rw [if_neg q]
          exact fun z => m1 z.symm
      obtain ⟨f', hf'⟩ : ∃ f', f = f' + 1 := ⟨f - 1, by omega⟩
      subst hf'
      have g : GF U (up (up U 208 25 1) 208 22 (nI p + 0)) := (GF.w U 1).tr (GF.p _ _)
      rw [if_neg ne, if_neg e, b36_1, h.2.1, nI_1, sy_w hL f' (i + 1) _ (by rw [up_ne _ (fun _ => by decide), up_self])]
      refine ⟨_, rfl, h.g g true p (by rw [up_ne _ (fun _ => by decide), up_self]; rfl) (by rw [up_self, Int32.add_zero]), g, ?_⟩
      rw [up_at (by decide), up_at (by decide)]
theorem i_as (a b c : Int32) : (a + b) - c = a + (b - c) := by rw [Int32.sub_eq_add_neg, Int32.sub_eq_add_neg, Int32.add_assoc]
theorem in_dgt (x : Int32) : f_X10_in x 48 57 = some (bI (dgt x)) := by
  rw [f_X10_in]
  unfold dgt
  by_cases a : x < 48
  · rw [if_pos a, if_pos a]
    rfl
  · rw [if_neg a, if_neg a]
    by_cases b : 57 < x
    · rw [if_pos b, if_pos b]
      rfl
    · rw [if_neg b, if_neg b]
      rfl
theorem dgt_m1 : dgt (-1) = false := by decide
theorem fg_lp (hn : n ≤ 60) (k : Int32) : ∀ (f w i p : Nat) (x : Int32) (U : St), MS T n false p U → p ≤ n → w < f → i + w < 100 →
    ∃ U1 i', f_X10_figure_b5 f U k (nI (i + w)) x (nI i) = f_X10_figure_b63 U1 k (rdv T n w p x).1 (nI i') ∧ MS T n false (rdv T n w p x).2 U1 ∧ GF U U1 ∧ U1 214 = U 214 ∧ i' ≤ i + w ∧ (0 < w → p < n ∧ dgt (T p) = true → i < i') ∧ (¬ (p < n ∧ dgt (T p) = true) → i' = i) ∧ i ≤ i'
  | 0, w, i, p, x, U, _, _, h, _ => by omega
  | f + 1, 0, i, p, x, U, h, hp, hf, hi => by
    have e25 : U 208 25 = 0 := h.1
    rw [f_X10_figure_b5, if_pos e25, if_pos (nI_le (by omega) (by omega))]
    exact ⟨U, i, rfl, h, GF.rf _, rfl, by omega, fun h => absurd h (Nat.lt_irrefl 0), fun _ => rfl, Nat.le_refl _⟩
  | f + 1, w + 1, i, p, x, U, h, hp, hf, hi => by
    have e25 : U 208 25 = 0 := h.1
    rw [f_X10_figure_b5, if_pos e25, if_neg (nI_ge (by omega) (by omega)), here0 h hn hp, bs, in_dgt, bs, bs, rdv_s]
    by_cases c : p < n ∧ dgt (T p) = true
    · rw [if_pos c.1, c.2, if_neg (show ¬ bI true = 0 by decide), if_pos ⟨c.1, rfl⟩, h.2.1, nI_1, nI_1, i_as]
      obtain ⟨U1, i', a1, a2, a3, a4, a5, a6, a7, a8⟩ := fg_lp hn k f w (i + 1) (p + 1) (10 * x + (T p - 48)) _ (h.g (GF.p U _) false (p + 1) (by rw [up_ne _ (fun _ => by decide)]; exact e25) (up_self _ _ _ _)) c.1 (by omega) (by omega)
      rw [show i + (w + 1) = i + 1 + w from by omega]
      exact ⟨U1, i', a1, a2, (GF.p U _).tr a3, by rw [a4, up_at (by decide)], by omega, fun _ _ => by omega, fun q => absurd ⟨c.1, rfl⟩ q, by omega⟩
    · have z : dgt (if p < n then T p else -1) = false := by
        by_cases q : p < n
        · rw [if_pos q]
          cases z : dgt (T p)
          · rfl
          · exact absurd ⟨q, z⟩ c
        · rw [if_neg q]
          exact dgt_m1
      rw [z, if_pos (show bI false = 0 by decide), if_neg c]
      exact ⟨U, i, rfl, h, GF.rf _, rfl, by omega, fun _ q => absurd q c, fun _ => rfl, Nat.le_refl _⟩
theorem b81_eq (U : St) {k o : Nat} (hk : k ≤ 4) (ho : o < 59) (h24 : U 208 24 = nI o) (x : Int32) (b : Bool) : f_X10_figure_b81 U (nI k) x (bI b) = some (up (up U 208 25 (bI b)) 214 (5 * o + k) x) := by
  rw [f_X10_figure_b81, nr_b, bs, up_ne U (fun _ => by decide), h24, show (5 : Int32) * nI o + nI k = nI (5 * o + k) from by rw [show (5 : Int32) = nI 5 from rfl, pk_mul, nI_add], ix_nI (by omega) (by decide), bs]
def cw (w : Nat) : Int32 := if w = 2 then 78 else 68
theorem cw_D (w : Nat) : isD (cw w) := by
  unfold cw
  split
  · exact Or.inr rfl
  · exact Or.inl rfl
theorem cw_dw {w : Nat} (h : w = 1 ∨ w = 2) : dw (cw w) = w := by
  rcases h with rfl | rfl <;> decide
theorem fig_eq (hn : n ≤ 60) {k o w p : Nat} (hk : k ≤ 4) (ho : o < 59) (hw : w = 1 ∨ w = 2) {U : St} (h24 : U 208 24 = nI o) (h : MS T n false p U) (hp : p ≤ n) : ∃ U1, f_X10_figure U (nI k) (nI w) = some U1 ∧ GF U U1 ∧ (∀ q, q ≠ 5 * o + k → U1 214 q = U 214 q) ∧
    (if p < n ∧ dgt (T p) = true then MS T n false (rdv T n w p 0).2 U1 ∧ U1 214 (5 * o + k) = (rdv T n w p 0).1 else MS T n true p U1) := by
  obtain ⟨U1, i', a1, a2, a3, a4, a5, a6, a7, -⟩ := fg_lp hn (nI k) 500 w 0 p 0 U h hp (by omega) (by omega)
  rw [Nat.zero_add] at a1 a5
  have a1 : f_X10_figure U (nI k) (nI w) = _ := a1
  have u24 : U1 208 24 = nI o := (a3.2 24 (by decide) (by decide)).trans h24
  have e25 : U1 208 25 = 0 := a2.1
  rw [a1, f_X10_figure_b63, if_pos e25]
  by_cases c : p < n ∧ dgt (T p) = true
  · have i0 : 0 < i' := a6 (by omega) c
    have b := b81_eq U1 hk ho u24 (rdv T n w p 0).1 false
    have b : f_X10_figure_b81 U1 (nI k) (rdv T n w p 0).1 0 = _ := b
    have g : GF U1 (up (up U1 208 25 (bI false)) 214 (5 * o + k) (rdv T n w p 0).1) := (GF.w _ _).tr (GF.t _ _ _)
    rw [if_neg (fun q => by have := (nI_eq (a := i') (b := 0) (by omega) (by decide)).mp q; omega), b]
    refine ⟨_, rfl, a3.tr g, fun q hq => ?_, ?_⟩
    · rw [up_ne _ (fun _ => hq), up_at (by decide), a4]
    · rw [if_pos c]
      exact ⟨a2.g g false _ (by rw [up_at (by decide), up_self]) (by rw [up_at (by decide), up_ne _ (fun _ => by decide), a2.2.1]), up_self _ _ _ _⟩
  · have b := b81_eq U1 hk ho u24 (rdv T n w p 0).1 true
    have b : f_X10_figure_b81 U1 (nI k) (rdv T n w p 0).1 1 = _ := b
    have g : GF U1 (up (up U1 208 25 (bI true)) 214 (5 * o + k) (rdv T n w p 0).1) := (GF.w _ _).tr (GF.t _ _ _)
    have e2 : (rdv T n w p 0).2 = p := by
      rcases hw with rfl | rfl
      · rw [rdv_s, if_neg c]
      · rw [rdv_s, if_neg c]
    rw [a7 c, if_pos (show nI 0 = 0 by decide), f_X10_figure_b76, b]
    refine ⟨_, rfl, a3.tr g, fun q hq => ?_, ?_⟩
    · rw [up_ne _ (fun _ => hq), up_at (by decide), a4]
    · rw [if_neg c]
      exact a2.g g true _ (by rw [up_at (by decide), up_self]) (by rw [up_at (by decide), up_ne _ (fun _ => by decide), a2.2.1, e2])
theorem fig_w {k o p : Nat} (hk : k ≤ 4) (ho : o < 59) (w : Int32) {U : St} (h24 : U 208 24 = nI o) (h : MS T n true p U) : ∃ U1, f_X10_figure U (nI k) w = some U1 ∧ GF U U1 ∧ (∀ q, q ≠ 5 * o + k → U1 214 q = U 214 q) ∧ MS T n true p U1 := by
  have e25 : ¬ U 208 25 = 0 := by rw [h.1]; decide
  have b := b81_eq U hk ho h24 0 true
  have b : f_X10_figure_b81 U (nI k) 0 1 = _ := b
  have g : GF U (up (up U 208 25 (bI true)) 214 (5 * o + k) 0) := (GF.w _ _).tr (GF.t _ _ _)
  refine ⟨_, ?_, g, fun q hq => ?_, h.g g true p (by rw [up_at (by decide), up_self]) (by rw [up_at (by decide), up_ne _ (fun _ => by decide), h.2.1])⟩
  · show f_X10_figure_b5 (499 + 1) U (nI k) w 0 0 = _
    rw [f_X10_figure_b5, if_neg e25, f_X10_figure_b63, if_neg e25, f_X10_figure_b76, b]
  · rw [up_ne _ (fun _ => hq), up_at (by decide)]
/-! a row of sayings and figures -/
abbrev MO : Type := Sum Nat (Nat × Nat)
def mops : List MO → St → Option St
  | [], U => some U
  | .inl t :: r, U => (f_X10_says U t).bind fun U1 => mops r U1
  | .inr (k, w) :: r, U => (f_X10_figure U (nI k) (nI w)).bind fun U1 => mops r U1
def mcod : List MO → List Int32
  | [] => []
  | .inl t :: r => (stx t).getD [] ++ mcod r
  | .inr (_, w) :: r => cw w :: mcod r
def mok : Nat → List MO → Prop
  | _, [] => True
  | i, .inl t :: r => (∃ L, stx t = some L ∧ L.length < 60 ∧ ∀ c ∈ L, ¬ isD c ∧ ¬ c = -1) ∧ mok i r
  | i, .inr (k, w) :: r => k = i ∧ k ≤ 4 ∧ (w = 1 ∨ w = 2) ∧ mok (i + 1) r
theorem mtp_al : ∀ (a b : List Int32) (p : Nat), (∀ c ∈ a, ¬ isD c) → mtp T n (a ++ b) p = if (mtp T n a p).1 = true then mtp T n b (mtp T n a p).2.1 else (false, (mtp T n a p).2.1, [])
  | [], b, p, _ => rfl
  | c :: a, b, p, h => by
    have d := h c List.mem_cons_self
    rw [List.cons_append, mtp_l d, mtp_l d]
    by_cases e : p < n ∧ T p = c
    · rw [if_pos e, if_pos e]
      exact mtp_al a b (p + 1) (fun x hx => h x (List.mem_cons_of_mem _ hx))
    · rw [if_neg e, if_neg e]
      rfl
theorem mops_w {o : Nat} (ho : o < 59) : ∀ (ops : List MO) (i p : Nat) (U : St), mok i ops → 1 ≤ i → U 208 24 = nI o → MS T n true p U → ∃ U1, mops ops U = some U1 ∧ MS T n true p U1 ∧ GF U U1 ∧ ∀ q, (q < 5 * o + i ∨ 5 * o + 5 ≤ q) → U1 214 q = U 214 q
  | [], i, p, U, _, _, _, h => ⟨U, rfl, h, GF.rf _, fun _ _ => rfl⟩
  | .inl t :: r, i, p, U, hk, hi, h24, h => by
    obtain ⟨⟨L, hL, -, -⟩, hk⟩ := hk
    have e : f_X10_says U t = some U := sy_w hL 499 0 U h.1
    obtain ⟨U1, a1, a2, a3, a4⟩ := mops_w ho r i p U hk hi h24 h
    exact ⟨U1, by rw [mops, e, bs, a1], a2, a3, a4⟩
  | .inr (k, w) :: r, i, p, U, hk, hi, h24, h => by
    obtain ⟨k1, k2, k3, hk⟩ := hk
    obtain ⟨U1, b1, b2, b3, b4⟩ := fig_w k2 ho (nI w) h24 h
    obtain ⟨U2, a1, a2, a3, a4⟩ := mops_w ho r (i + 1) p U1 hk (by omega) ((b2.2 24 (by decide) (by decide)).trans h24) b4
    exact ⟨U2, by rw [mops, b1, bs, a1], a2, b2.tr a3, fun q hq => by rw [a4 q (by omega), b3 q (by omega)]⟩
theorem mops_eq (hn : n ≤ 60) {o : Nat} (ho : o < 59) : ∀ (ops : List MO) (i p : Nat) (U : St), mok i ops → 1 ≤ i → U 208 24 = nI o → MS T n false p U → p ≤ n → ∃ U1, mops ops U = some U1 ∧ MS T n (!(mtp T n (mcod ops) p).1) (mtp T n (mcod ops) p).2.1 U1 ∧ GF U U1 ∧ (∀ q, (q < 5 * o + i ∨ 5 * o + 5 ≤ q) → U1 214 q = U 214 q) ∧
    ((mtp T n (mcod ops) p).1 = true → ∀ j, j < (mtp T n (mcod ops) p).2.2.length → U1 214 (5 * o + i + j) = (mtp T n (mcod ops) p).2.2.getD j 0)
  | [], i, p, U, _, _, _, h, _ => ⟨U, rfl, h, GF.rf _, fun _ _ => rfl, fun _ j hj => absurd hj (Nat.not_lt_zero j)⟩
  | .inl t :: r, i, p, U, hk, hi, h24, h, hp => by
    obtain ⟨⟨L, hL, hl, hc⟩, hk⟩ := hk
    obtain ⟨U1, b1, b2, b3, b4⟩ := sy_lp hn hL hl hc L 500 0 p U List.drop_zero (Nat.zero_le _) (by omega) h hp
    have b1 : f_X10_says U t = some U1 := b1
    have ml := mtp_le (T := T) (n := n) L p hp
    have u24 : U1 208 24 = nI o := (b3.2 24 (by decide) (by decide)).trans h24
    rw [mcod, hL, Option.getD_some, mtp_al L _ p (fun c hc' => (hc c hc').1), mops, b1, bs]
    cases e : (mtp T n L p).1
    · rw [e] at b2
      rw [if_neg Bool.false_ne_true]
      obtain ⟨U2, a1, a2, a3, a4⟩ := mops_w ho r i _ U1 hk hi u24 b2
      exact ⟨U2, a1, a2, b3.tr a3, fun q hq => by rw [a4 q hq, b4], fun q => by cases q⟩
    · rw [e] at b2
      rw [if_pos rfl]
      obtain ⟨U2, a1, a2, a3, a4, a5⟩ := mops_eq hn ho r i _ U1 hk hi u24 b2 ml.2.1
      exact ⟨U2, a1, a2, b3.tr a3, fun q hq => by rw [a4 q hq, b4], a5⟩
  | .inr (k, w) :: r, i, p, U, hk, hi, h24, h, hp => by
    obtain ⟨k1, k2, k3, hk⟩ := hk
    obtain ⟨U1, b1, b2, b3, b4⟩ := fig_eq hn k2 ho k3 h24 h hp
    have u24 : U1 208 24 = nI o := (b2.2 24 (by decide) (by decide)).trans h24
    rw [mcod, mtp_d (cw_D w), cw_dw k3, mops, b1, bs]
    by_cases c : p < n ∧ dgt (T p) = true
    · rw [if_pos c] at b4 ⊢
      have hq := rdv_1 (c := cw w) c
      rw [cw_dw k3] at hq
      obtain ⟨U2, a1, a2, a3, a4, a5⟩ := mops_eq hn ho r (i + 1) _ U1 hk (by omega) u24 b4.1 hq.2
      refine ⟨U2, a1, a2, b2.tr a3, fun q hq => by rw [a4 q (by omega), b3 q (by omega)], fun ok j hj => ?_⟩
      cases j with
      | zero =>
        show U2 214 (5 * o + i + 0) = (rdv T n w p 0).1
        rw [a4 _ (by omega), ← b4.2, k1, Nat.add_zero]
      | succ j =>
        have hj : j + 1 < (mtp T n (mcod r) (rdv T n w p 0).2).2.2.length + 1 := hj
        have := a5 ok j (by omega)
        show U2 214 (5 * o + i + (j + 1)) = (mtp T n (mcod r) (rdv T n w p 0).2).2.2.getD j 0
        rw [← this, show 5 * o + i + (j + 1) = 5 * o + (i + 1) + j from by omega]
    · rw [if_neg c] at b4 ⊢
      obtain ⟨U2, a1, a2, a3, a4⟩ := mops_w ho r (i + 1) p U1 hk (by omega) u24 b4
      exact ⟨U2, a1, a2, b2.tr a3, fun q hq => by rw [a4 q (by omega), b3 q (by omega)], fun q => by cases q⟩
end MR
