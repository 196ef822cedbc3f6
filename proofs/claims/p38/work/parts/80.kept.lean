/-! the law's isKept: undone one by one, restored -/
theorem lgc (x : Int64) : lg_cmp x x = 0 := by
  unfold lg_cmp
  rw [if_neg Int64.lt_irrefl, if_pos rfl]
theorem im_8 {m : Nat} (h : m < 100) : imin 8 (nI m) = nI (min 8 m) := by
  unfold imin
  by_cases c : m < 8
  · rw [if_pos (show nI m < (8 : Int32) from nI_lt (b := 8) c (by decide)), Nat.min_eq_right (by omega)]
  · rw [if_neg (show ¬ nI m < (8 : Int32) from nI_nlt (b := 8) (by omega) (by omega)), Nat.min_eq_left (by omega)]
    rfl
/-- undone: the state of i changes ago -/
def KP (V : St) (g : Nat → Int32) (G : Nat → Nat → Int32) (i : Nat) : Prop := HRc V G i ∧ SR V 35 g ∧ V 0 3 = 1
theorem KP.b {V V1 : St} {g : Nat → Int32} {G : Nat → Nat → Int32} {i : Nat} (h : KP V g G i) (f : FB V V1) : KP V1 g G i := ⟨h.1.fr fun k a b => f k (by omega) (by omega) (by omega), h.2.1.fr fun k a b => f k (by omega) (by omega) (by omega), by rw [f 0 (by decide) (by decide) (by decide), h.2.2]⟩
theorem HRc.n {V : St} {G : Nat → Nat → Int32} {c : Nat} (h : HRc V G c) : V 52 2 = nI c := by
  obtain ⟨o, -, -, h2, -⟩ := h
  exact h2
theorem kept_44 {g : Nat → Int32} {G : Nat → Nat → Int32} {made c : Nat} {U : Nat → Int64} (hG : GG g) (hA : AC g) (hGG : ∀ j, j < c → GG (G j) ∧ AC (G j)) (hm : made < 60) (hc : c = min 8 made) (hU : U made = smF g) (hUj : ∀ j, j < c → U (made - c + j) = smF (G j)) : ∀ (f i : Nat) (V : St) (x5 : Int32), i ≤ c → i < f → KP V g G i → (0 < i → x5 = nI (made - c + i - 1)) → ∃ V2, f_L_isKept_b44 U f V (nI made) (g 2) (nI i) x5 = some (1, V2)
  | 0, i, V, x5, _, h, _, _ => by omega
  | f + 1, i, V, x5, hi, hf, hK, hx => by
    rw [f_L_isKept_b44]
    by_cases e : i = 0
    · subst e
      have u0 : ∀ W : St, W 52 2 = 0 → f_L_undo W = some (-79, W) := fun W hW => by
        rw [f_L_undo, f_X9_undo, if_pos hW]
        rfl
      have n0 : V 52 2 = 0 := hK.1.n
      obtain ⟨V1, a1, a2, a3⟩ := cf_eq V (a := 1) (b := 35) (Or.inl (by decide))
      have hS1 := a3 g hK.2.1
      have hS2 : SR (up V1 52 2 0) 1 g := hS1.fr fun k k1 k2 => up_at (by omega)
      obtain ⟨V3, b1, b2⟩ := smF_s hS2 hG hA
      have r1 : f_L_restore V = some (g 2, up V1 52 2 0) := by
        rw [f_L_restore, f_X9_restore, if_neg (by rw [hK.2.2]; decide), a1, bs, f_X1_clear, bs, bs, hS2.1.2.2.1]
        rfl
      refine ⟨V3, ?_⟩
      rw [if_pos (by decide), u0 V n0, bs]
      show (if (-79 : Int32) = -79 then _ else _) = _
      rw [if_pos rfl, r1, bs]
      show (if g 2 = g 2 then _ else _) = _
      rw [if_pos rfl, b1, bs, ix_nI hm (by decide), bs]
      show (if lg_cmp (smF g) (U made) = 0 then _ else _) = _
      rw [hU, if_pos (lgc _), u0 V3 (by rw [b2 52 (by decide) (by decide) (by decide), up_self]), bs]
      show (if (-79 : Int32) = -79 then _ else _) = _
      rw [if_pos rfl]
    · obtain ⟨i, rfl⟩ : ∃ j, i = j + 1 := ⟨i - 1, by omega⟩
      have hx := hx (by omega)
      have hc8 : c ≤ 8 := by omega
      obtain ⟨hH, h35, h03⟩ := hK
      have n1 : V 52 2 = nI (i + 1) := hH.n
      obtain ⟨V1, a1, a2, a3, a4⟩ := pop_c (s := 1) (by omega) hH (by decide)
      have hK1 : KP V1 g G i := ⟨a3, h35.fr fun k k1 k2 => a2 k (by omega) (by omega), by rw [a2 0 (by decide) (by omega), h03]⟩
      obtain ⟨g1, g2⟩ := hGG i (by omega)
      obtain ⟨V2, b1, b2⟩ := smF_s a4 g1 g2
      have u1 : f_L_undo V = some (nI i, V1) := by
        rw [f_L_undo, f_X9_undo, if_neg (by rw [n1]; exact nI_ne0 (by omega) (by omega)), a1, bs, bs, a3.n]
        rfl
      obtain ⟨V3, d1⟩ := kept_44 hG hA hGG hm hc hU hUj f i V2 (x5 + (-1)) (by omega) (by omega) (hK1.b b2) (fun h0 => by
        rw [hx, show made - c + (i + 1) - 1 = (made - c + i - 1) + 1 by omega, nI_m1])
      refine ⟨V3, ?_⟩
      rw [if_neg (nI_nle (by omega) (by omega)), u1, bs]
      show (if nI i = nI (i + 1) + -1 then _ else _) = _
      rw [if_pos (nI_m1 i).symm, b1, bs, hx, ix_nI (by omega) (by decide), bs]
      show (if lg_cmp (smF (G i)) (U (made - c + (i + 1) - 1)) = 0 then f_L_isKept_b44 U f V2 (nI made) (g 2) (nI (i + 1) + -1) (nI (made - c + (i + 1) - 1) + -1) else _) = _
      rw [show made - c + (i + 1) - 1 = made - c + i by omega, hUj i (by omega), if_pos (lgc _), nI_m1 i]
      rw [hx, show made - c + (i + 1) - 1 = made - c + i by omega] at d1
      exact d1
theorem isKept_ok {V : St} {g : Nat → Int32} {G : Nat → Nat → Int32} {made c : Nat} {U : Nat → Int64} (hJ : JJ V g c G) (hm : made < 60) (hc : c = min 8 made) (hU : U made = smF g) (hUj : ∀ j, j < c → U (made - c + j) = smF (G j)) : ∃ V2, f_L_isKept U V (nI made) = some (1, V2) := by
  obtain ⟨hS, hG, hA, h8, hH, hGG, h192⟩ := hJ
  obtain ⟨V1, a1, a2, a3⟩ := cf_eq V (a := 35) (b := 1) (Or.inr (by decide))
  have hK : KP (up V1 0 3 1) g G c := ⟨hH.fr fun k k1 k2 => by rw [up_at (by omega), a2 k (by omega)], (a3 g hS).fr fun k k1 k2 => up_at (by omega), up_self _ _ _ _⟩
  obtain ⟨V2, d1⟩ := kept_44 hG hA hGG hm hc hU hUj 9 c (up V1 0 3 1) (nI made - 1) (Nat.le_refl _) (by omega) hK (fun h0 => by
    rw [show (1 : Int32) = nI 1 from rfl, pk_sub (by omega)]
    congr 1
    omega)
  have s1 : f_X9_save V = some (g 2, up V1 0 3 1) := by
    rw [f_X9_save, a1, bs, hK.2.1.1.2.2.1]
  refine ⟨V2, ?_⟩
  rw [f_L_isKept, q_a5 hS, bs, s1, bs]
  show (if g 2 = g 2 then _ else _) = _
  rw [if_pos rfl]
  show (f_L_account (up V1 0 3 1) 12).bind _ = _
  rw [q_a12, bs, hK.1.n, im_8 (by omega), ← hc, if_pos rfl]
  exact d1
