/-! the law's isWhole -/
def dvk (a b : Int32) : Bool := match dv (FP.i2d a) (FP.i2d b) with
  | some q => decide (dcm q q = 0)
  | none => false
theorem dvk_dec : ∀ a : Fin 73, ∀ b : Fin 72, dvk (nI a.val) (nI (b.val + 1)) = true := by decide +kernel
theorem dvk_ok {a b : Nat} (ha : a ≤ 72) (hb : b ≤ 72) (h0 : ¬ b = 0) : ∃ q, dv (FP.i2d (nI a)) (FP.i2d (nI b)) = some q ∧ dcm q q = 0 := by
  have h := dvk_dec ⟨a, by omega⟩ ⟨b - 1, by omega⟩
  rw [show (b - 1 + 1 : Nat) = b by omega] at h
  have h : dvk (nI a) (nI b) = true := h
  unfold dvk at h
  cases e : dv (FP.i2d (nI a)) (FP.i2d (nI b)) with
  | none =>
    rw [e] at h
    cases h
  | some q =>
    rw [e] at h
    exact ⟨q, rfl, of_decide_eq_true h⟩
def fvk (a b : Int32) : Bool := match fv (FP.i2f a) (FP.i2f b) with
  | some q => decide (fcm q q = 0)
  | none => false
theorem fvk_dec : ∀ a : Fin 73, ∀ b : Fin 72, fvk (nI a.val) (nI (b.val + 1)) = true := by decide +kernel
theorem fvk_ok {a b : Nat} (ha : a ≤ 72) (hb : b ≤ 72) (h0 : ¬ b = 0) : ∃ q, fv (FP.i2f (nI a)) (FP.i2f (nI b)) = some q ∧ fcm q q = 0 := by
  have h := fvk_dec ⟨a, by omega⟩ ⟨b - 1, by omega⟩
  rw [show (b - 1 + 1 : Nat) = b by omega] at h
  have h : fvk (nI a) (nI b) = true := h
  unfold fvk at h
  cases e : fv (FP.i2f (nI a)) (FP.i2f (nI b)) with
  | none =>
    rw [e] at h
    cases h
  | some q =>
    rw [e] at h
    exact ⟨q, rfl, of_decide_eq_true h⟩
section IW
variable {V : St} {g : Nat → Int32}
theorem bal_ok (hS : SR V 1 g) (hG : GG g) (hA : AC g) : ∃ V2, f_X9_isBalanced V = some (1, V2) ∧ FB V V2 := by
  obtain ⟨V1, a1, a2⟩ := ac_loop hG hS
  obtain ⟨m, hm6, hm, -⟩ := hG.2.2.1
  obtain ⟨V2, b1, b2⟩ := al_loop hG hm6 hm 500 0 V1 (hS.f1 a2) (Nat.zero_le _) (by omega)
  have b1 : f_X8_areNotesToldAlike V1 1 = some (1, V2) := b1
  have hS2 := (hS.f1 a2).f1 b2
  obtain ⟨_, b, c, t, w, -, -, -, h4, -, -, -, -, h9⟩ := hA
  refine ⟨V2, ?_, (a2.tr b2).b⟩
  rw [f_X9_isBalanced, a1, bs, if_neg (by show ¬ (1 : Int32) = 0; decide)]
  show (f_X8_areNotesToldAlike V1 1).bind _ = _
  rw [b1, bs, if_neg (by show ¬ (1 : Int32) = 0; decide)]
  show (f_X8_countTorn V2 1).bind (fun q5 => if V2 1 6 = q5 + V2 1 7 then some (1, V2) else some (0, V2)) = _
  rw [ct_a hS2 hG, bs, hS2.1.2.2.2.1, hS2.1.2.2.2.2.1, h9, h4, nI_add, if_pos (by congr 1; omega)]
theorem q_mean (hS : SR V 1 g) (hG : GG g) : f_L_meanKnots V = if nI (nch g 0 + nch g 1 + nch g 2) = 0 then some 13858279740860792832 else dv (FP.i2d (nI (nkn g 0 + nkn g 1 + nkn g 2))) (FP.i2d (nI (nch g 0 + nch g 1 + nch g 2))) := by
  rw [f_L_meanKnots, f_X9_meanKnots, ca_c hS hG, bs]
  by_cases e : nI (nch g 0 + nch g 1 + nch g 2) = 0
  · rw [if_pos e, if_pos e, bs]
    rfl
  · rw [if_neg e, if_neg e, ck_c hS hG, bs]
    cases dv (FP.i2d (nI (nkn g 0 + nkn g 1 + nkn g 2))) (FP.i2d (nI (nch g 0 + nch g 1 + nch g 2))) <;> rfl
theorem q_share (hS : SR V 1 g) (hG : GG g) : f_L_readShare V = if nI (nkn g 0 + nkn g 1 + nkn g 2) = 0 then some 3264479232 else fv (FP.i2f (nI (nrd g 0 + nrd g 1 + nrd g 2))) (FP.i2f (nI (nkn g 0 + nkn g 1 + nkn g 2))) := by
  rw [f_L_readShare, f_X9_readShare, ck_c hS hG, bs]
  by_cases e : nI (nkn g 0 + nkn g 1 + nkn g 2) = 0
  · rw [if_pos e, if_pos e, bs]
    rfl
  · rw [if_neg e, if_neg e, cr_c hS hG, bs]
    cases fv (FP.i2f (nI (nrd g 0 + nrd g 1 + nrd g 2))) (FP.i2f (nI (nkn g 0 + nkn g 1 + nkn g 2))) <;> rfl
theorem iw_405 (hS : SR V 1 g) (hG : GG g) (hA : AC g) : ∃ V2, f_L_isWhole_b405 V (nI (nkn g 0 + nkn g 1 + nkn g 2)) (nI (nrd g 0 + nrd g 1 + nrd g 2)) (nI (nch g 0 + nch g 1 + nch g 2)) 1 = some (1, V2) ∧ FB V V2 := by
  obtain ⟨V2, b1, b2⟩ := bal_ok hS hG hA
  have k0 := nkn_le g 0
  have k1 := nkn_le g 1
  have k2 := nkn_le g 2
  have r0 := nrd_le g 0
  have r1 := nrd_le g 1
  have r2 := nrd_le g 2
  have c0 := nch_le g 0
  have c1 := nch_le g 1
  have c2 := nch_le g 2
  refine ⟨V2, ?_, b2⟩
  have fin : f_L_isWhole_b463 V 1 1 = some (1, V2) := by
    rw [f_L_isWhole_b463, if_neg (by decide), if_neg (by decide), b1, bs]
    exact if_neg (by show ¬ (1 : Int32) = 0; decide)
  have sh : ∀ y z, dcm z y = 0 → f_L_isWhole_b429 V (nI (nkn g 0 + nkn g 1 + nkn g 2)) (nI (nrd g 0 + nrd g 1 + nrd g 2)) 1 y z = some (1, V2) := by
    intro y z h
    rw [f_L_isWhole_b429, if_pos h, q_share hS hG]
    by_cases e : nkn g 0 + nkn g 1 + nkn g 2 = 0
    · have e2 : nI (nkn g 0 + nkn g 1 + nkn g 2) = 0 := by rw [e]; rfl
      rw [if_pos e2, bs, if_pos e2, f_L_isWhole_b454, if_pos (by decide +kernel)]
      exact fin
    · obtain ⟨q, q1, q2⟩ := fvk_ok (a := nrd g 0 + nrd g 1 + nrd g 2) (b := nkn g 0 + nkn g 1 + nkn g 2) (by omega) (by omega) e
      have e2 : ¬ nI (nkn g 0 + nkn g 1 + nkn g 2) = 0 := nI_ne0 (by omega) (by omega)
      rw [if_neg e2, q1, bs, if_neg e2, bs, f_L_isWhole_b454, if_pos q2]
      exact fin
  rw [f_L_isWhole_b405, q_mean hS hG]
  by_cases e : nch g 0 + nch g 1 + nch g 2 = 0
  · have e2 : nI (nch g 0 + nch g 1 + nch g 2) = 0 := by rw [e]; rfl
    rw [if_pos e2, bs, if_pos e2]
    exact sh _ _ (by decide +kernel)
  · obtain ⟨q, q1, q2⟩ := dvk_ok (a := nkn g 0 + nkn g 1 + nkn g 2) (b := nch g 0 + nch g 1 + nch g 2) (by omega) (by omega) e
    have e2 : ¬ nI (nch g 0 + nch g 1 + nch g 2) = 0 := nI_ne0 (by omega) (by omega)
    rw [if_neg e2, q1, bs, if_neg e2, bs]
    exact sh _ _ q2
theorem iw_173 (hS : SR V 1 g) (hG : GG g) (hA : AC g) {m9 : Nat} (hm9 : g 2 = nI m9) (hm96 : m9 ≤ 6) {m b c : Nat} {t w : Nat → Nat} (h1 : m ≤ 4) (h2 : g 1 = nI m) (h3 : ∀ e, e < m → g (21 + 2 * e + 0) = nI (t e) ∧ g (21 + 2 * e + 1) = nI (w e) ∧ t e + w e ≤ 99) (h4 : g 4 = nI b) (h5 : g 5 = nI c) (h6 : b ≤ c) (h7 : c ≤ 2 * b) (h8 : b = ws m w) (h9 : g 3 = nI (b + ntn g 0 + ntn g 1 + ntn g 2)) : ∀ (f i : Nat), i ≤ m → m < f + i → ∃ V2, f_L_isWhole_b173 f V (nI (ws m9 (fun k => if rdB g k = true then 1 else 0))) (nI (ws i t)) (nI (ws i w)) (nI i) = some (1, V2) ∧ FB V V2
  | 0, i, _, h => by omega
  | f + 1, i, hi, hf => by
    rw [f_L_isWhole_b173, q_a3 hS, bs, h2]
    by_cases e : i = m
    · subst e
      have w99 : ws i w ≤ 99 * i := ws_le fun e he => by have := h3 e he; omega
      have z0 : ∀ {α : Type} (F : Int32 → α), F 0 = F (nI 0) := fun _ => rfl
      have a00 : f_L_netOf V 0 0 = some (nI (nkn g 0)) := q_net0 hS hG (n := 0) (by decide)
      have a10 : f_L_netOf V 1 0 = some (nI (nkn g 1)) := q_net0 hS hG (n := 1) (by decide)
      have a20 : f_L_netOf V 2 0 = some (nI (nkn g 2)) := q_net0 hS hG (n := 2) (by decide)
      have a01 : f_L_netOf V 0 1 = some (nI (nrd g 0)) := q_net1 hS hG (n := 0) (by decide)
      have a11 : f_L_netOf V 1 1 = some (nI (nrd g 1)) := q_net1 hS hG (n := 1) (by decide)
      have a21 : f_L_netOf V 2 1 = some (nI (nrd g 2)) := q_net1 hS hG (n := 2) (by decide)
      have a02 : f_L_netOf V 0 2 = some (nI (ntn g 0)) := q_net2 hS hG (n := 0) (by decide)
      have a12 : f_L_netOf V 1 2 = some (nI (ntn g 1)) := q_net2 hS hG (n := 1) (by decide)
      have a22 : f_L_netOf V 2 2 = some (nI (ntn g 2)) := q_net2 hS hG (n := 2) (by decide)
      have c0 : f_L_chapters V 0 = some (nI (nch g 0)) := q_nch hS hG (n := 0) (by decide)
      have c1 : f_L_chapters V 1 = some (nI (nch g 1)) := q_nch hS hG (n := 1) (by decide)
      have c2 : f_L_chapters V 2 = some (nI (nch g 2)) := q_nch hS hG (n := 2) (by decide)
      have hsub : g 3 - g 4 = nI (ntn g 0 + ntn g 1 + ntn g 2) := by
        rw [h9, h4, pk_sub (by omega)]
        congr 1
        omega
      have h2b : (2 : Int32) * nI (ws i w) = nI (2 * ws i w) := by rw [show (2 : Int32) = nI 2 from rfl, pk_mul]
      obtain ⟨V2, d1, d2⟩ := iw_405 hS hG hA
      refine ⟨V2, ?_, d2⟩
      rw [if_pos (nI_le (Nat.le_refl _) (by omega)), a00, bs, a10, bs, a20, bs, a01, bs, a11, bs, a21, bs, c0, bs, c1, bs, c2, bs, nI_add, nI_add, nI_add, nI_add, nI_add, nI_add, q_a0 hS hG, bs, if_pos rfl, q_a1 hS hG, bs, if_pos rfl, q_a2 hS hG, bs, a02, bs, a12, bs, a22, bs, nI_add, nI_add, if_pos rfl, bs, q_a8 hS, bs, q_a9 hS, bs, hsub, if_pos rfl, q_a4 hS h2 h1 (fun e he => (h3 e he).1), bs, if_pos rfl, bs, h4, ← h8, if_pos rfl, q_a10 hS, bs, h5, if_neg (nI_nlt h6 (by omega)), bs, h8, h2b, if_neg (nI_nlt (by omega) (by omega)), q_a6 hS hG hm9 hm96, bs, if_pos rfl]
      exact d1
    · have hi : i < m := by omega
      obtain ⟨k1, k2, -⟩ := h3 i hi
      have e0 : f_L_editorOf V (nI i) 0 = some (g (21 + 2 * i + 0)) := q_edw hS h2 h1 hi (w := 0) (by decide)
      have e1 : f_L_editorOf V (nI i) 1 = some (g (21 + 2 * i + 1)) := q_edw hS h2 h1 hi (w := 1) (by decide)
      rw [if_neg (nI_ge hi (by omega)), e0, bs, e1, bs, k1, k2, nI_add, nI_add, nI_1]
      exact iw_173 hS hG hA hm9 hm96 h1 h2 h3 h4 h5 h6 h7 h8 h9 f (i + 1) (by omega) (by omega)
end IW
theorem iw_29 {g : Nat → Int32} (hG : GG g) (hA : AC g) {m : Nat} (hm : g 2 = nI m) (hm6 : m ≤ 6) : ∀ (f i : Nat) (V : St), SR V 1 g → i ≤ m → m < f + i → ∃ V2, f_L_isWhole_b29 f V (nI (ws i (fun k => if rdB g k = true then 1 else 0))) (nI i) = some (1, V2) ∧ FB V V2
  | 0, i, V, _, _, h => by omega
  | f + 1, i, V, hS, hi, hf => by
    rw [f_L_isWhole_b29, q_a5 hS, bs, hm]
    by_cases e : i = m
    · subst e
      rw [if_pos (nI_le (Nat.le_refl _) (by omega))]
      obtain ⟨m1, b, c, t, w, h1, h2, h3, h4, h5, h6, h7, h8, h9⟩ := id hA
      exact iw_173 hS hG hA hm hm6 h1 h2 h3 h4 h5 h6 h7 h8 h9 5 0 (Nat.zero_le _) (by omega)
    · have hi : i < m := by omega
      obtain ⟨n, S, y, z, h⟩ := nts hS hG hm6 hm hi
      obtain ⟨r, r1, r2, r3⟩ := q_lst hS hG hm hm6 hi h
      obtain ⟨V1, l1, l2⟩ := r1 V hS
      have hS1 := hS.b l2
      have h' := h.mv hS1 hm hm6 hi
      obtain ⟨-, -, n2, n3⟩ := q_nt hS1 hG hm hm6 hi h'
      obtain ⟨V2, o1, o2⟩ := q_nol hS1 hG hm hm6 hi h'
      obtain ⟨V3, w1, w2⟩ := iw_29 hG hA hm hm6 f (i + 1) V2 (hS1.b o2) (by omega) (by omega)
      have hS0 : 0 < nb S := by
        obtain ⟨-, -, -, -, -, -, -, h5, -⟩ := h
        obtain ⟨p, hp⟩ := isLow.ex h5.1 h5.2.1
        exact nb_pos h5.1 hp.2.1
      have hle := nb_le S
      have b132 : f_L_isWhole_b132 (fun V x3 x4 => f_L_isWhole_b29 f V x3 x4) V1 (nI (ws i (fun k => if rdB g k = true then 1 else 0))) (nI i) (bI (rdB g i)) (nI (nb S)) (bI (rdB g i)) (bI (rdB g i)) = some (1, V3) := by
        rw [f_L_isWhole_b132, if_pos rfl, o1, bs]
        have e0 : ws (i + 1) (fun k => if rdB g k = true then 1 else 0) = ws i (fun k => if rdB g k = true then 1 else 0) + (if rdB g i = true then 1 else 0) := rfl
        rw [e0] at w1
        cases c : rdB g i
        · rw [c] at w1
          show (if nI (nb S + 1) = (nI (nb S) + 1) - 0 then _ else _) = _
          rw [if_pos (by rw [nI_1, Int32.sub_zero]), nI_1]
          rw [show nI (ws i fun k => if rdB g k = true then 1 else 0) + bI false = nI ((ws i fun k => if rdB g k = true then 1 else 0) + 0) from Int32.add_zero _]
          exact w1
        · rw [c] at w1
          show (if nI (nb S + 0) = (nI (nb S) + 1) - 1 then _ else _) = _
          rw [if_pos (by rw [nI_1, nI_pred]; rfl), nI_1]
          rw [show nI (ws i fun k => if rdB g k = true then 1 else 0) + bI true = nI ((ws i fun k => if rdB g k = true then 1 else 0) + 1) from nI_1 _]
          exact w1
      have b121 : f_L_isWhole_b121 (fun V x3 x4 => f_L_isWhole_b29 f V x3 x4) V1 (nI (ws i (fun k => if rdB g k = true then 1 else 0))) (nI i) (bI (rdB g i)) (nI (nb S)) (bI (rdB g i)) = some (1, V3) := by
        rw [f_L_isWhole_b121]
        cases c : rdB g i
        · rw [c] at b132
          rw [if_neg (by decide)]
          exact b132
        · rw [c] at b132
          rw [if_pos (by decide)]
          exact b132
      have b93 : f_L_isWhole_b93 (fun V x3 x4 => f_L_isWhole_b29 f V x3 x4) V1 (nI (ws i (fun k => if rdB g k = true then 1 else 0))) (nI i) r (bI (rdB g i)) (nI (nb S)) 1 = some (1, V3) := by
        rw [f_L_isWhole_b93, if_neg (by decide), r2 V1 hS1, bs, if_pos rfl]
        rcases r3 with ⟨e1, e2⟩ | ⟨t, e1, e2, e3⟩
        · rw [e1, if_neg (by decide)]
          rw [e2] at b121 ⊢
          exact b121
        · by_cases t0 : t = 0
          · rw [e1, t0, if_pos (by decide)]
            rw [e3.mp t0] at b121 ⊢
            exact b121
          · have e4 : rdB g i = false := by
              cases c : rdB g i
              · rfl
              · exact absurd (e3.mpr c) t0
            rw [e1, if_neg (nI_ne0 (by omega) (by omega))]
            rw [e4] at b121 ⊢
            exact b121
      refine ⟨V3, ?_, (l2.tr o2).tr w2⟩
      have n2 : f_L_noteOf V1 (nI i) 2 = some (nI (nb S)) := n2
      have n3 : f_L_noteOf V1 (nI i) 3 = some (bI (rdB g i)) := n3
      rw [if_neg (nI_ge hi (by omega)), l1, bs]
      show (f_L_noteOf V1 (nI i) 3).bind (fun q60 => (f_L_noteOf V1 (nI i) 2).bind fun q61 => _) = _
      rw [n3, bs, n2, bs]
      rcases r3 with ⟨e1, e2⟩ | ⟨t, e1, e2, e3⟩
      · show (if r = -75 then _ else _) = _
        rw [if_pos e1, f_L_isWhole_b88]
        exact b93
      · show (if r = -75 then _ else if r < 0 then _ else if (2 * (nI (nb S) - 1)) < r then _ else _) = _
        have ne : ¬ r = -75 := by
          rw [e1]
          intro q
          have := nI_pos (n := t) (by omega)
          rw [q] at this
          exact this (by decide)
        rw [if_neg ne, if_neg (by rw [e1]; exact nI_pos (by omega)), if_neg (by
          rw [e1, show (1 : Int32) = nI 1 from rfl, pk_sub hS0, show (2 : Int32) = nI 2 from rfl, pk_mul]
          exact nI_nlt e2 (by omega)), f_L_isWhole_b88]
        exact b93
theorem iw_2 {g : Nat → Int32} (hG : GG g) (hA : AC g) {a m : Nat} (ha : a < 24) (hm : m < 3) : ∀ (f i : Nat) (V : St), SR V 1 g → i ≤ m + 1 → m + 1 < f + i → ∃ V2, f_L_isWhole_b2 f V (nI m) (nI a) (nI i) = some (1, V2) ∧ FB V V2
  | 0, i, V, _, _, h => by omega
  | f + 1, i, V, hS, hi, hf => by
    rw [f_L_isWhole_b2]
    by_cases e : i = m + 1
    · obtain ⟨m9, h6, h2, -⟩ := hG.2.2.1
      rw [if_pos (nI_lt (by omega) (by omega))]
      exact iw_29 hG hA h2 h6 7 0 V hS (Nat.zero_le _) (by omega)
    · obtain ⟨V1, a1, a2⟩ := isNet_ok hS hG (show i < 3 by omega) ha
      obtain ⟨V2, b1, b2⟩ := iw_2 hG hA ha hm f (i + 1) V1 (hS.b a1) (by omega) (by omega)
      refine ⟨V2, ?_, a1.tr b2⟩
      rw [if_neg (nI_nlt (by omega) (by omega)), a2, bs]
      show (if (1 : Int32) = 0 then _ else _) = _
      rw [if_neg (by decide), nI_1]
      exact b1
theorem isWhole_ok {V : St} {g : Nat → Int32} (hS : SR V 1 g) (hG : GG g) (hA : AC g) {a m : Nat} (ha : a < 24) (hm : m < 3) : ∃ V2, f_L_isWhole V (nI m) (nI a) = some (1, V2) ∧ FB V V2 := iw_2 hG hA ha hm 4 0 V hS (Nat.zero_le _) (by omega)
