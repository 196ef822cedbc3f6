/-! one net: what class and model say of its chapters -/
theorem bs {α β : Type} (a : α) (f : α → Option β) : (some a).bind f = f a := rfl
theorem ix_nI {j n : Nat} (h : j < n) (hn : n < 2 ^ 31) : ix (nI j) n = some j := by
  unfold ix
  rw [if_neg (nI_in h hn), nI_clamp (by omega)]
def bI (b : Bool) : Int32 := if b = true then 1 else 0
theorem bI_0 (b : Bool) : bI b = 0 ↔ b = false := by cases b <;> decide
theorem bI_1 (b : Bool) : bI b = 1 ↔ b = true := by cases b <;> decide
theorem isIn_eq (x : Int32) {p : Nat} (hp : p < 32) : f_X9_isIn x (nI p) = some (bI (bt x p)) := by
  unfold f_X9_isIn
  rw [b_val x hp]
  cases bt x p <;> rfl
def nA (V : St) (k : Nat) : Int32 := V k 0 ||| V k 1
def nR (V : St) (k : Nat) : Int32 := 8255455 &&& (V k 2 ^^^ (-1))
def nD (V : St) (k : Nat) : Int32 := 262143 &&& (V k 3 ^^^ (-1))
theorem whA (V : St) (k : Nat) : f_X3_wholeAcross V k = some (nR V k) := rfl
theorem whD (V : St) (k : Nat) : f_X3_wholeDown V k = some (nD V k) := rfl
theorem kn_eq (V : St) (k : Nat) : f_X3_knots V k = some (nA V k) := rfl
theorem bes_eq (x R D : Int32) : f_X9_beside x R D = some (bsd x R D) := rfl
theorem one_bt {p i : Nat} (hp : p < 24) : bt ((1 : Int32) <<< (nI p &&& 31)) i = decide (i = p) := by
  rcases Nat.lt_or_ge i 32 with c | c
  · exact b_one (by omega) c
  · rw [b_big c, decide_eq_false (by omega : ¬ i = p)]
theorem one_self {p : Nat} (hp : p < 24) : bt ((1 : Int32) <<< (nI p &&& 31)) p = true := by rw [one_bt hp, decide_eq_true rfl]
theorem one_con {A R D : PS} {p : Nat} (hp : p < 24) : ∀ i, bt ((1 : Int32) <<< (nI p &&& 31)) i = true → con A R D p i := by
  intro i hi
  rw [one_bt hp] at hi
  rw [of_decide_eq_true hi]
  exact con.rf p
theorem ch_loop {V : St} {k p : Nat} (hA : I24 (nA V k)) : ∀ (n c : Nat) (x : Int32), I24 x → bt x p = true → (∀ i, bt x i = true → con (bt (nA V k)) (bt (nR V k)) (bt (nD V k)) p i) → c < nb x → 24 - nb x < n → ∃ C, f_X3_chapterAt_b11 n V k x (nI c) = some C ∧ Cmp (bt (nA V k)) (bt (nR V k)) (bt (nD V k)) p C ∧ I24 C
  | 0, c, x, _, _, _, _, h => by omega
  | n + 1, c, x, hx, hp, hs, hc, hn => by
    have h24 := nb_le x
    rw [f_X3_chapterAt_b11, if_neg (show ¬ (24 : Int32) ≤ nI c from nI_ge (b := 24) (by omega) (by decide)), whA, bs, whD, bs, bes_eq, bs, kn_eq, bs]
    by_cases e : (x ||| (bsd x (nR V k) (nD V k) &&& nA V k)) = x
    · rw [if_pos e]
      refine ⟨x, rfl, Cmp.of hA hx hp hs ?_, hx⟩
      intro i hi
      rw [← e, b_or, hi, Bool.or_true]
    · rw [if_neg e, nI_1]
      have hy : I24 (x ||| (bsd x (nR V k) (nD V k) &&& nA V k)) := hx.or hA.andr
      have hsub : Sub x (x ||| (bsd x (nR V k) (nD V k) &&& nA V k)) := fun i hi => by rw [b_or, hi]; rfl
      have hlt := nb_lt hx hy hsub (fun h => e h.symm)
      have h25 := nb_le (x ||| (bsd x (nR V k) (nD V k) &&& nA V k))
      refine ch_loop hA n (c + 1) _ hy (hsub p hp) (fun i hi => ?_) (by omega) (by omega)
      rw [b_or, Bool.or_eq_true] at hi
      rcases hi with h | h
      · exact hs i h
      · exact con.nx hx hs (by have := I24.lt hA.andr h; omega) h
theorem chap_eq {V : St} {k p : Nat} (hp : p < 24) (hA : I24 (nA V k)) (h : bt (nA V k) p = true) : ∃ C, f_X3_chapterAt V k (nI p) = some C ∧ Cmp (bt (nA V k)) (bt (nR V k)) (bt (nD V k)) p C ∧ I24 C := by
  rw [f_X3_chapterAt, kn_eq, bs]
  have e : nA V k &&& ((1 : Int32) <<< (nI p &&& 31)) = (1 : Int32) <<< (nI p &&& 31) := b_iff fun i hi => by
    rw [b_and, one_bt hp]
    by_cases c : i = p
    · subst c
      rw [h, decide_eq_true rfl]
      simp
    · rw [decide_eq_false c, Bool.and_false]
  rw [e]
  exact ch_loop hA 500 0 _ (I24.one hp) (one_self hp) (one_con hp) (nb_pos (I24.one hp) (one_self hp)) (by omega)
theorem chap_0 {V : St} {k p : Nat} (hp : p < 24) (h : bt (nA V k) p = false) : f_X3_chapterAt V k (nI p) = some 0 := by
  rw [f_X3_chapterAt, kn_eq, bs]
  have e : nA V k &&& ((1 : Int32) <<< (nI p &&& 31)) = 0 := b_iff fun i hi => by
    rw [b_and, one_bt hp, b_0]
    by_cases c : i = p
    · subst c
      rw [h, Bool.false_and]
    · rw [decide_eq_false c, Bool.and_false]
  rw [e]
  have key : ∀ n, f_X3_chapterAt_b11 (n + 1) V k 0 0 = some 0 := by
    intro n
    rw [f_X3_chapterAt_b11, if_neg (by decide), whA, bs, whD, bs, bes_eq, bs, kn_eq, bs, bsd_0]
    rw [if_pos (by rw [show (0 : Int32) &&& nA V k = 0 from b_iff fun i _ => by rw [b_and, b_0, Bool.false_and]]; decide)]
  exact key 499
/-! the model -/
theorem spr_eq (V : St) (x : Int32) : f_X10_spread V x = some (x ||| bsd x (V 208 20) (V 208 21)) := by
  unfold f_X10_spread bsd
  congr 1
  exact b_ext fun i hi => by simp only [b_or, Bool.or_assoc]
theorem to_loop {V : St} {A : Int32} {p : Nat} (hA : I24 A) : ∀ (n : Nat) (x : Int32), I24 x → bt x p = true → (∀ i, bt x i = true → con (bt A) (bt (V 208 20)) (bt (V 208 21)) p i) → Sub x A → 24 - nb x < n → ∃ C, f_X10_together_b13 n V A x ((x ||| bsd x (V 208 20) (V 208 21)) &&& A) = some C ∧ Cmp (bt A) (bt (V 208 20)) (bt (V 208 21)) p C ∧ I24 C
  | 0, x, _, _, _, _, h => by omega
  | n + 1, x, hx, hp, hs, hsA, hn => by
    have h24 := nb_le x
    rw [f_X10_together_b13]
    by_cases e : ((x ||| bsd x (V 208 20) (V 208 21)) &&& A) = x
    · rw [if_pos e]
      refine ⟨x, rfl, Cmp.of hA hx hp hs ?_, hx⟩
      intro i hi
      rw [b_and, Bool.and_eq_true] at hi
      rw [← e, b_and, b_or, hi.1, hi.2, Bool.or_true]
      rfl
    · rw [if_neg e, spr_eq, bs]
      have hy : I24 ((x ||| bsd x (V 208 20) (V 208 21)) &&& A) := hA.andr
      have hsub : Sub x ((x ||| bsd x (V 208 20) (V 208 21)) &&& A) := fun i hi => by rw [b_and, b_or, hi, hsA i hi]; rfl
      have hlt := nb_lt hx hy hsub (fun h => e h.symm)
      have h25 := nb_le ((x ||| bsd x (V 208 20) (V 208 21)) &&& A)
      refine to_loop hA n _ hy (hsub p hp) (fun i hi => ?_) (fun i hi => ?_) (by omega)
      · have hi24 := hy.lt hi
        rw [b_and, b_or, Bool.and_eq_true, Bool.or_eq_true] at hi
        rcases hi.1 with h | h
        · exact hs i h
        · exact con.nx hx hs (by omega) (by rw [b_and, h, hi.2]; rfl)
      · rw [b_and, Bool.and_eq_true] at hi
        exact hi.2
theorem tog_eq {V : St} {A : Int32} {p : Nat} (hp : p < 24) (hA : I24 A) (h : bt A p = true) : ∃ C, f_X10_together V (nI p) A = some C ∧ Cmp (bt A) (bt (V 208 20)) (bt (V 208 21)) p C ∧ I24 C := by
  rw [f_X10_together, spr_eq, bs]
  refine to_loop hA 500 _ (I24.one hp) (one_self hp) (one_con hp) (fun i hi => ?_) (by omega)
  rw [one_bt hp] at hi
  rw [of_decide_eq_true hi]
  exact h
/-! chapters in their order -/
theorem Clo.at {A R D : PS} {r : Int32} (h : Clo A R D r) {p : Nat} (hp : isLow r p) : A p = true := h.1 p hp.2.1
theorem cc_loop {V : St} {k : Nat} (hA : I24 (nA V k)) : ∀ (n : Nat) (L : List Int32) (r : Int32) (c : Nat), ChL (bt (nA V k)) (bt (nR V k)) (bt (nD V k)) r L → Clo (bt (nA V k)) (bt (nR V k)) (bt (nD V k)) r → I24 r → c + L.length ≤ 24 → L.length < n → f_X3_countChapters_b7 n V k r (nI c) = some (nI (c + L.length))
  | 0, _, _, _, _, _, _, _, h => by omega
  | n + 1, [], r, c, hL, _, _, _, _ => by
    rw [f_X3_countChapters_b7, if_pos (show r = 0 from hL)]
    rfl
  | n + 1, C :: t, r, c, ⟨⟨p, hp, hC⟩, h1⟩, hc, hr, hn, hlt => by
    simp only [List.length_cons] at hn hlt ⊢
    obtain ⟨C2, e1, e2, -⟩ := chap_eq hp.1 hA (hc.at hp)
    cases hC.one e2
    rw [f_X3_countChapters_b7, if_neg hp.ne, if_neg (show ¬ (24 : Int32) ≤ nI c from nI_ge (b := 24) (by omega) (by decide)), lowP_eq hp, bs, e1, bs, nI_1]
    rw [cc_loop hA n t _ (c + 1) h1 (hc.minus hr hp.2.1 hC) hr.minus (by omega) (by omega)]
    congr 2
    omega
theorem cc_eq {V : St} {k : Nat} (hA : I24 (nA V k)) : f_X3_countChapters V k = some (nI (pt (con (bt (nA V k)) (bt (nR V k)) (bt (nD V k))) (bt (nA V k)))) := by
  obtain ⟨L, h1, h2⟩ := ChL.get (bt (nA V k)) (bt (nR V k)) (bt (nD V k)) hA
  rw [f_X3_countChapters, kn_eq, bs, ← ChL.parts h1 hA]
  have := cc_loop hA 500 L _ 0 h1 Clo.all hA (by omega) (by omega)
  rw [Nat.zero_add] at this
  exact this
theorem pc_loop {V : St} {A : Int32} (hA : I24 A) : ∀ (n : Nat) (L : List Int32) (r : Int32) (c : Nat), ChL (bt A) (bt (V 208 20)) (bt (V 208 21)) r L → Clo (bt A) (bt (V 208 20)) (bt (V 208 21)) r → I24 r → L.length < n → f_X10_partsOf_b4 n V A r (nI c) = some (nI (c + L.length))
  | 0, _, _, _, _, _, _, h => by omega
  | n + 1, [], r, c, hL, _, _, _ => by
    rw [f_X10_partsOf_b4, if_pos (show r = 0 from hL)]
    rfl
  | n + 1, C :: t, r, c, ⟨⟨p, hp, hC⟩, h1⟩, hc, hr, hlt => by
    simp only [List.length_cons] at hlt ⊢
    obtain ⟨C2, e1, e2, -⟩ := tog_eq hp.1 hA (hc.at hp)
    cases hC.one e2
    rw [f_X10_partsOf_b4, if_neg hp.ne, lowest_eq hp, bs, e1, bs, nI_1]
    rw [pc_loop hA n t _ (c + 1) h1 (hc.minus hr hp.2.1 hC) hr.minus (by omega)]
    congr 2
    omega
theorem pc_eq {V : St} {A : Int32} (hA : I24 A) : f_X10_partsOf V A = some (nI (pt (con (bt A) (bt (V 208 20)) (bt (V 208 21))) (bt A))) := by
  obtain ⟨L, h1, h2⟩ := ChL.get (bt A) (bt (V 208 20)) (bt (V 208 21)) hA
  rw [f_X10_partsOf, ← ChL.parts h1 hA]
  have := pc_loop hA 500 L _ 0 h1 Clo.all hA (by omega)
  rw [Nat.zero_add] at this
  exact this
/-! the greatest -/
def gfold (g : Int32) : List Int32 → Int32
  | [] => g
  | C :: t => gfold (if nb C ≤ nb g then g else C) t
theorem ch_I24 {A R D : Int32} (hA : I24 A) {p : Nat} {C : Int32} (hp : bt A p = true) (h : Cmp (bt A) (bt R) (bt D) p C) : I24 C := by
  intro i hi
  rcases Nat.lt_or_ge i 32 with c | c
  · cases e : bt C i
    · rfl
    · have := con.inA ((h i c).mp e) hp
      rw [hA i hi] at this
      cases this
  · exact b_big c
theorem gr_loop {V : St} {k : Nat} (hA : I24 (nA V k)) : ∀ (n : Nat) (L : List Int32) (r g : Int32) (c : Nat), ChL (bt (nA V k)) (bt (nR V k)) (bt (nD V k)) r L → Clo (bt (nA V k)) (bt (nR V k)) (bt (nD V k)) r → I24 r → I24 g → c + L.length ≤ 24 → L.length < n → f_X3_greatestChapter_b7 n V k r g (nI c) = some (gfold g L)
  | 0, _, _, _, _, _, _, _, _, _, h => by omega
  | n + 1, [], r, g, c, hL, _, _, _, hn, _ => by
    rw [f_X3_greatestChapter_b7, if_pos (show r = 0 from hL)]
    split <;> rfl
  | n + 1, C :: t, r, g, c, ⟨⟨p, hp, hC⟩, h1⟩, hc, hr, hg, hn, hlt => by
    simp only [List.length_cons] at hn hlt
    obtain ⟨C2, e1, e2, e3⟩ := chap_eq hp.1 hA (hc.at hp)
    cases hC.one e2
    rw [f_X3_greatestChapter_b7, if_neg (show ¬ (24 : Int32) ≤ nI c from nI_ge (b := 24) (by omega) (by decide)), if_neg hp.ne, lowP_eq hp, bs, e1, bs, bc24 e3, bs, bc24 hg, bs]
    have h9 := nb_le C
    have h8 := nb_le g
    have hh := hc.minus hr hp.2.1 hC
    by_cases q : nb C ≤ nb g
    · rw [if_pos ((nI_leI (by omega) (by omega)).mpr q)]
      show f_X3_greatestChapter_b7 n V k (r &&& (C ^^^ (-1))) g (nI c + 1) = some (gfold (if nb C ≤ nb g then g else C) t)
      rw [if_pos q, nI_1]
      exact gr_loop hA n t _ g (c + 1) h1 hh hr.minus hg (by omega) (by omega)
    · rw [if_neg (fun h => q ((nI_leI (by omega) (by omega)).mp h))]
      show f_X3_greatestChapter_b7 n V k (r &&& (C ^^^ (-1))) C (nI c + 1) = some (gfold (if nb C ≤ nb g then g else C) t)
      rw [if_neg q, nI_1]
      exact gr_loop hA n t _ C (c + 1) h1 hh hr.minus e3 (by omega) (by omega)
theorem gr_eq {V : St} {k : Nat} (hA : I24 (nA V k)) {L : List Int32} {r : Int32} (h1 : ChL (bt (nA V k)) (bt (nR V k)) (bt (nD V k)) r L) (hc : Clo (bt (nA V k)) (bt (nR V k)) (bt (nD V k)) r) (hr : I24 r) : f_X3_greatestChapter V k r = some (gfold 0 L) := by
  have h2 := h1.len hr
  have h3 := nb_le r
  exact gr_loop hA 500 L r 0 0 h1 hc hr I24.zero (by omega) (by omega)
theorem nb_0 : nb 0 = 0 := fb_ct_zero.mpr fun k _ => b_0 k
theorem mg_loop {V : St} (hA : I24 (V 208 19)) : ∀ (n : Nat) (L : List Int32) (r g : Int32), ChL (bt (V 208 19)) (bt (V 208 20)) (bt (V 208 21)) r L → Clo (bt (V 208 19)) (bt (V 208 20)) (bt (V 208 21)) r → I24 r → L.length < n → f_X10_greatest_b12 n V r (nI (nb g)) = some (nI (nb (gfold g L)), V)
  | 0, _, _, _, _, _, _, h => by omega
  | n + 1, [], r, g, hL, _, _, _ => by
    rw [f_X10_greatest_b12, if_pos (show r = 0 from hL)]
    rfl
  | n + 1, C :: t, r, g, ⟨⟨p, hp, hC⟩, h1⟩, hc, hr, hlt => by
    simp only [List.length_cons] at hlt
    obtain ⟨C2, e1, e2, e3⟩ := tog_eq hp.1 hA (hc.at hp)
    cases hC.one e2
    rw [f_X10_greatest_b12, if_neg hp.ne, lowest_eq hp, bs, e1, bs, bits_eq, bs]
    have h9 := nb_le C
    have h8 := nb_le g
    have hh := hc.minus hr hp.2.1 hC
    by_cases q : nb C ≤ nb g
    · rw [if_pos ((nI_leI (by omega) (by omega)).mpr q)]
      show f_X10_greatest_b12 n V (r &&& (C ^^^ (-1))) (nI (nb g)) = some (nI (nb (gfold (if nb C ≤ nb g then g else C) t)), V)
      rw [if_pos q]
      exact mg_loop hA n t _ g h1 hh hr.minus (by omega)
    · rw [if_neg (fun h => q ((nI_leI (by omega) (by omega)).mp h)), bs]
      show f_X10_greatest_b12 n V (r &&& (C ^^^ (-1))) (nI (nb C)) = some (nI (nb (gfold (if nb C ≤ nb g then g else C) t)), V)
      rw [if_neg q]
      exact mg_loop hA n t _ C h1 hh hr.minus (by omega)
theorem mg_eq {V : St} (hA : I24 (V 208 19)) {L : List Int32} (h1 : ChL (bt (V 208 19)) (bt (V 208 20)) (bt (V 208 21)) (V 208 19) L) : f_X10_greatest_b12 500 V (V 208 19) 0 = some (nI (nb (gfold 0 L)), V) := by
  have h2 := h1.len hA
  have h3 := nb_le (V 208 19)
  have := mg_loop hA 500 L (V 208 19) 0 h1 Clo.all hA (by omega)
  rw [nb_0] at this
  exact this
theorem gfold_I24 : ∀ {L : List Int32} {g : Int32}, I24 g → (∀ C ∈ L, I24 C) → I24 (gfold g L)
  | [], _, h, _ => h
  | C :: t, g, h, hL => by
    show I24 (gfold (if nb C ≤ nb g then g else C) t)
    refine gfold_I24 ?_ (fun X hX => hL X (List.mem_cons_of_mem _ hX))
    split
    · exact h
    · exact hL C List.mem_cons_self
