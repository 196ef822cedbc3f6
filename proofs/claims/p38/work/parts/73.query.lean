/-! what the class answers, by the ints g -/
def FB (V V1 : St) : Prop := ∀ k, k ≠ 191 → k ≠ 205 → k ≠ 206 → V1 k = V k
theorem FB.rf (V : St) : FB V V := fun _ _ _ _ => rfl
theorem FB.tr {V V1 V2 : St} (h : FB V V1) (h2 : FB V1 V2) : FB V V2 := fun k a b c => (h2 k a b c).trans (h k a b c)
theorem F191.b {V V1 : St} (h : F191 V V1) : FB V V1 := fun k a _ _ => h k a
theorem FLc.b {V V1 : St} (h : FLc V V1) : FB V V1 := fun k _ b c => h k b c
theorem SR.b {V V1 : St} {g : Nat → Int32} (h : SR V 1 g) (f : FB V V1) : SR V1 1 g := h.fr fun k a b => f k (by omega) (by omega) (by omega)
theorem JJ.b {V V1 : St} {g : Nat → Int32} {c : Nat} {G : Nat → Nat → Int32} (h : JJ V g c G) (f : FB V V1) : JJ V1 g c G := h.fr (fun k a b => f k (by omega) (by omega) (by omega)) (by rw [f 192 (by decide) (by decide) (by decide)])
theorem isN_dec : ∀ n : Fin 3, f_X9_isNet (nI n.val) = some 1 := by decide +kernel
theorem isN {n : Nat} (h : n < 3) : f_X9_isNet (nI n) = some 1 := isN_dec ⟨n, h⟩
theorem RT_dec : ∀ p : Fin 24, bt RT p.val = decide (p.val % 6 ≠ 5) := by decide +kernel
theorem DN_dec : ∀ p : Fin 24, bt DN p.val = decide (p.val < 18) := by decide +kernel
theorem RT_p {p : Nat} (hp : p < 24) : bt RT p = decide (p % 6 ≠ 5) := RT_dec ⟨p, hp⟩
theorem DN_p {p : Nat} (hp : p < 24) : bt DN p = decide (p < 18) := DN_dec ⟨p, hp⟩
section QY
variable {V : St} {g : Nat → Int32} {n p : Nat}
theorem q_kind (hS : SR V 1 g) (hn : n < 3) (hp : p < 24) : f_L_kindOf V (nI n) (nI p) = some (kv (bt (g (6 + 5 * n)) p) (bt (g (6 + 5 * n + 1)) p)) := by
  rw [f_L_kindOf, f_X9_kindOf, isN hn, bs, if_neg (by decide), isPl hp, bs, if_neg (by decide), net_eq _ _ hn, bs, kd_c _ _ hp, bs, bs, hS.2.1 n 0 hn (by decide), hS.2.1 n 1 hn (by decide)]
  rfl
theorem q_tr (hS : SR V 1 g) (hn : n < 3) (hp : p < 24) (h : p % 6 ≠ 5) : f_L_torn V (nI n) (nI p) (nI (p + 1)) = some (bI (bt (g (6 + 5 * n + 2)) p)) := by
  obtain ⟨-, -, -, a4, a5⟩ := acr1 hp
  have hr : bt RT p = true := by rw [RT_p hp]; exact decide_eq_true h
  rw [hr] at a4
  have hp1 := a5 hr
  rw [f_L_torn, f_X9_isTorn, isN hn, bs, if_neg (by decide), isPl hp, bs, if_neg (by decide), isPl hp1, bs, if_neg (by decide), a4, bs, if_neg (by decide), net_eq _ _ hn, bs, torn1 _ _ hp, bs, nr_b, bs, bs, hS.2.1 n 2 hn (by decide)]
  cases bt (g (6 + 5 * n + 2)) p <;> rfl
theorem q_td (hS : SR V 1 g) (hn : n < 3) (hp : p < 18) : f_L_torn V (nI n) (nI p) (nI (p + 6)) = some (bI (bt (g (6 + 5 * n + 3)) p)) := by
  have hp24 : p < 24 := by omega
  obtain ⟨-, -, -, a4, a5⟩ := acr6 hp24
  have hr : bt DN p = true := by rw [DN_p hp24]; exact decide_eq_true hp
  rw [hr] at a4
  have hp1 := a5 hr
  rw [f_L_torn, f_X9_isTorn, isN hn, bs, if_neg (by decide), isPl hp24, bs, if_neg (by decide), isPl hp1, bs, if_neg (by decide), a4, bs, if_neg (by decide), net_eq _ _ hn, bs, torn6 _ _ hp24, bs, nr_b, bs, bs, hS.2.1 n 3 hn (by decide)]
  cases bt (g (6 + 5 * n + 3)) p <;> rfl
theorem q_net0 (hS : SR V 1 g) (hG : GG g) (hn : n < 3) : f_L_netOf V (nI n) 0 = some (nI (nkn g n)) := by
  rw [f_L_netOf, f_X9_netOf, isN hn, bs, if_neg (by decide), net_eq _ _ hn, bs, if_pos rfl, kn_eq, bs, hS.eA hn, bc24 (hG.k24 hn), bs, bs]
  rfl
theorem q_net1 (hS : SR V 1 g) (hG : GG g) (hn : n < 3) : f_L_netOf V (nI n) 1 = some (nI (nrd g n)) := by
  rw [f_L_netOf, f_X9_netOf, isN hn, bs, if_neg (by decide), net_eq _ _ hn, bs, if_neg (by decide), if_pos rfl, kn_eq, bs, dry_c hS hG hn, bs, hS.eA hn, bc24 (I24.andl (hG.k24 hn)), bs, bs]
  rfl
theorem q_net2 (hS : SR V 1 g) (hG : GG g) (hn : n < 3) : f_L_netOf V (nI n) 2 = some (nI (ntn g n)) := by
  rw [f_L_netOf, f_X9_netOf, isN hn, bs, if_neg (by decide), net_eq _ _ hn, bs, if_neg (by decide), if_neg (by decide), if_pos rfl, ct_c hS hG hn, bs, bs]
  rfl
theorem q_net3 (hS : SR V 1 g) (hn : n < 3) : f_L_netOf V (nI n) 3 = some (g (6 + 5 * n + 4)) := by
  rw [f_L_netOf, f_X9_netOf, isN hn, bs, if_neg (by decide), net_eq _ _ hn, bs, if_neg (by decide), if_neg (by decide), if_neg (by decide), if_pos rfl, hS.2.1 n 4 hn (by decide)]
  rfl
theorem q_net4 (hS : SR V 1 g) (hG : GG g) (hn : n < 3) : f_L_netOf V (nI n) 4 = some (nI (uwg g n)) := by
  rw [f_L_netOf, f_X9_netOf, isN hn, bs, if_neg (by decide), net_eq _ _ hn, bs, if_neg (by decide), if_neg (by decide), if_neg (by decide), if_neg (by decide), if_pos rfl, uw_c hS hG hn, bs, bs]
  rfl
theorem q_net5 (hS : SR V 1 g) (hG : GG g) (hn : n < 3) : f_L_netOf V (nI n) 5 = some (nI (mxs g n 24)) := by
  obtain ⟨L, h1, -⟩ := ChL.get (bt (kA g n)) (bt (kR g n)) (bt (kD g n)) (hG.k24 hn)
  have hA : I24 (nA V (1 + 4 + n)) := by rw [hS.eA hn]; exact hG.k24 hn
  have e := gr_eq hA (by rw [hS.eA hn, hS.eR hn, hS.eD hn]; exact h1) Clo.all hA
  have i24 : I24 (gfold 0 L) := gfold_I24 I24.zero (fun C hC => by
    obtain ⟨q, q1, q2, q3, -⟩ := ch_mem h1 (hG.k24 hn) Clo.all hC
    exact ch_I24 (hG.k24 hn) q1 q3)
  rw [f_L_netOf, f_X9_netOf, isN hn, bs, if_neg (by decide), net_eq _ _ hn, bs, if_neg (by decide), if_neg (by decide), if_neg (by decide), if_neg (by decide), if_neg (by decide), if_pos rfl, kn_eq, bs, e, bs, bc24 i24, bs, bs, mxs_gf (hG.k24 hn) h1]
  rfl
theorem q_net6 (hS : SR V 1 g) (hG : GG g) (hn : n < 3) : f_L_netOf V (nI n) 6 = some (nI (ntw g n)) := by
  rw [f_L_netOf, f_X9_netOf, isN hn, bs, if_neg (by decide), net_eq _ _ hn, bs, if_neg (by decide), if_neg (by decide), if_neg (by decide), if_neg (by decide), if_neg (by decide), if_neg (by decide), if_pos rfl, tw_c hS hG hn, bs, bs]
  rfl
theorem q_nch (hS : SR V 1 g) (hG : GG g) (hn : n < 3) : f_L_chapters V (nI n) = some (nI (nch g n)) := by
  rw [f_L_chapters, f_X9_chapters, isN hn, bs, if_neg (by decide), net_eq _ _ hn, bs, cc_s hS hG hn, bs, bs]
  rfl
theorem q_nchA (hS : SR V 1 g) (hG : GG g) (hn : n < 3) : ∃ V1, f_L_chaptersAgain V (nI n) = some (nI (nch g n), V1) ∧ FB V V1 := by
  obtain ⟨V1, h1, h2⟩ := cs_s hS hG hn
  refine ⟨V1, ?_, h2.b⟩
  rw [f_L_chaptersAgain, f_X9_chaptersAgain, isN hn, bs, if_neg (by decide), net_eq _ _ hn, bs, h1, bs, bs]
  rfl
theorem q_ch0 (hS : SR V 1 g) (hG : GG g) (hn : n < 3) (hp : p < 24) (h : bt (kA g n) p = false) {w : Nat} (hw : w < 4) : f_L_chapterOf V (nI n) (nI p) (nI w) = some (-75) := by
  rcases chp hS hG hn hp with ⟨-, d1⟩ | ⟨e, -⟩
  · rw [f_L_chapterOf, f_X9_chapterOf, isN hn, bs, if_neg (by decide), isPl hp, bs, if_neg (by decide), if_neg (nI_pos (by omega)), if_pos (show nI w ≤ (3 : Int32) from nI_le (b := 3) (by omega) (by decide)), net_eq _ _ hn, bs, d1, bs, if_pos rfl]
    rfl
  · rw [h] at e
    cases e
theorem q_ch (hS : SR V 1 g) (hG : GG g) (hn : n < 3) (hp : p < 24) (h : bt (kA g n) p = true) : f_L_chapterOf V (nI n) (nI p) 0 = some (nI (lw g n p)) ∧ f_L_chapterOf V (nI n) (nI p) 1 = some (nI (nb (chC g n p))) ∧ f_L_chapterOf V (nI n) (nI p) 2 = some (nI (nb (chC g n p &&& dm (uwg g n)))) ∧ ∃ e, f_L_chapterOf V (nI n) (nI p) 3 = some (nI e) ∧ nb (chC g n p) ≤ e + 1 ∧ e ≤ 48 := by
  rcases chp hS hG hn hp with ⟨e, -⟩ | ⟨-, C, d1, d2, d3, d4, -⟩
  · rw [h] at e
    cases e
  · have hA := hG.k24 hn
    have ec : C = chC g n p := d4.one (chC_s g n p)
    subst ec
    have hl := lw_s hA h
    obtain ⟨e, w1, w2, w3⟩ := cwh (V := V) (k := 1 + 4 + n) hA h (by rw [hS.eR hn, hS.eD hn]; exact chC_s g n p)
    have e0 : ∀ w : Nat, w < 4 → f_X9_chapterOf V (nI n) (nI p) (nI w) = if nI w = 0 then (f_X9_lowestPlace (chC g n p)).bind fun q11 => some (.ok q11) else if nI w = 1 then (f_J6_bitCount_0f7a4 (chC g n p)).bind fun q13 => some (.ok q13) else if nI w = 2 then (f_X8_dryPlaces V 1 (nI n)).bind fun q15 => (f_J6_bitCount_0f7a4 (chC g n p &&& q15)).bind fun q16 => some (.ok q16) else (f_X8_netNumbered V 1 (nI n)).bind fun q17 => (f_X3_countWholeWithin V q17 (chC g n p)).bind fun q18 => some (.ok q18) := fun w hw => by
      rw [f_X9_chapterOf, isN hn, bs, if_neg (by decide), isPl hp, bs, if_neg (by decide), if_neg (nI_pos (by omega)), if_pos (show nI w ≤ (3 : Int32) from nI_le (b := 3) (by omega) (by decide)), net_eq _ _ hn, bs, d1, bs, if_neg d2]
    refine ⟨?_, ?_, ?_, e, ?_, w2, w3⟩
    · have e1 : f_X9_chapterOf V (nI n) (nI p) 0 = _ := e0 0 (by decide)
      rw [f_L_chapterOf, e1, if_pos (by decide), lowP_eq hl, bs, bs]
      rfl
    · have e1 : f_X9_chapterOf V (nI n) (nI p) 1 = _ := e0 1 (by decide)
      rw [f_L_chapterOf, e1, if_neg (by decide), if_pos (by decide), bc24 d3, bs, bs]
      rfl
    · have e1 : f_X9_chapterOf V (nI n) (nI p) 2 = _ := e0 2 (by decide)
      rw [f_L_chapterOf, e1, if_neg (by decide), if_neg (by decide), if_pos (by decide), dry_c hS hG hn, bs, bc24 (I24.andl d3), bs, bs]
      rfl
    · have e1 : f_X9_chapterOf V (nI n) (nI p) 3 = _ := e0 3 (by decide)
      rw [f_L_chapterOf, e1, if_neg (by decide), if_neg (by decide), if_neg (by decide), net_eq _ _ hn, bs, w1, bs, bs]
      rfl
theorem q_rank (hS : SR V 1 g) (hG : GG g) (hn : n < 3) {L : List Int32} (h1 : ChL (bt (kA g n)) (bt (kR g n)) (bt (kD g n)) (kA g n) L) {j : Nat} (hj : j < nch g n) : ∃ q, (selN 24 L)[j]? = some (chC g n q) ∧ fs g n q = true ∧ q < 24 ∧ isLow (chC g n q) q ∧ f_L_ranked V (nI n) (nI j) = some (nI q) := by
  have hA : I24 (nA V (1 + 4 + n)) := by rw [hS.eA hn]; exact hG.k24 hn
  obtain ⟨r1, r2⟩ := rk_at (hG.k24 hn) h1
  have h24 := nch_le g n
  have hc : ChL (bt (nA V (1 + 4 + n))) (bt (nR V (1 + 4 + n))) (bt (nD V (1 + 4 + n))) (nA V (1 + 4 + n)) L := by
    rw [hS.eA hn, hS.eR hn, hS.eD hn]
    exact h1
  obtain ⟨C, hC⟩ : ∃ C, (selN 24 L)[j]? = some C := ⟨_, List.getElem?_eq_getElem (by rw [r1]; exact hj)⟩
  obtain ⟨q, q1, q2, rfl, q4⟩ := r2 j C hC
  refine ⟨q, hC, q1, q2, q4, ?_⟩
  have e := rk_eq (j := j) hA (by omega) hc
  rw [pk_get _ _ (by omega), hC] at e
  have e : f_X3_chapterRanked V (1 + 4 + n) (nI j) = some (chC g n q) := e
  rw [f_L_ranked, f_X9_ranked, isN hn, bs, if_neg (by decide), net_eq _ _ hn, bs, e, bs, if_neg q4.ne, lowP_eq q4, bs, bs]
  rfl
theorem q_rank0 (hS : SR V 1 g) (hG : GG g) (hn : n < 3) : f_L_ranked V (nI n) (nI (nch g n)) = some (-75) := by
  obtain ⟨L, h1, -⟩ := ChL.get (bt (kA g n)) (bt (kR g n)) (bt (kD g n)) (hG.k24 hn)
  have hA : I24 (nA V (1 + 4 + n)) := by rw [hS.eA hn]; exact hG.k24 hn
  have hc : ChL (bt (nA V (1 + 4 + n))) (bt (nR V (1 + 4 + n))) (bt (nD V (1 + 4 + n))) (nA V (1 + 4 + n)) L := by
    rw [hS.eA hn, hS.eR hn, hS.eD hn]
    exact h1
  obtain ⟨r1, -⟩ := rk_at (hG.k24 hn) h1
  have h24 := nch_le g n
  have e : f_X3_chapterRanked V (1 + 4 + n) (nI (nch g n)) = some 0 := by
    by_cases c : nch g n < 24
    · have e := rk_eq (j := nch g n) hA c hc
      rw [pk_get _ _ (by omega), List.getElem?_eq_none (by rw [r1]; exact Nat.le_refl _)] at e
      exact e
    · have : nch g n = 24 := by omega
      rw [this, f_X3_chapterRanked, if_neg (by decide), if_neg (by decide)]
  rw [f_L_ranked, f_X9_ranked, isN hn, bs, if_neg (by decide), net_eq _ _ hn, bs, e, bs, if_pos rfl]
  rfl
end QY
/-! lines -/
theorem wa1 {m c : Nat} {V : St} (h1 : V 205 1 = nI m) (hm : m < 25) (hc : c < 128) : ∃ V1, f_X2_append V (nI c) = some V1 ∧ V1 205 1 = nI (m + 1) ∧ FLc V V1 := by
  refine ⟨up (up V 206 m (nI c)) 205 1 (nI (m + 1)), ?_, up_self _ _ _ _, fun k a b => by rw [up_at a, up_at b]⟩
  rw [f_X2_append, h1, if_neg (nI_pos (by omega)), if_neg (show ¬ (25 : Int32) ≤ nI m from nI_ge (b := 25) hm (by decide)), ix_nI hm (by decide), bs, (c128 hc).1, up_at (show 205 ≠ 206 by decide), h1, nI_1]
theorem akl (x y : Int32) : ∀ (f p m : Nat) (V : St), p ≤ 24 → 24 < f + p → V 205 1 = nI m → m = fb_ct (bt (x ||| y)) p → ∃ V1, f_X2_appendKnots_b2 f V x y (nI p) = some V1 ∧ V1 205 1 = nI (nb (x ||| y)) ∧ FLc V V1
  | 0, p, m, V, _, h1, _, _ => by omega
  | f + 1, p, m, V, hp, hf, hV, hm => by
    by_cases e : p = 24
    · subst e
      exact ⟨V, ak_end f V _ _, by rw [hV, hm]; rfl, FLc.rf _⟩
    · have hp : p < 24 := by omega
      have hle := fb_ct_le (bt (x ||| y)) p
      have hk : kv (bt x p) (bt y p) = 0 ↔ bt (x ||| y) p = false := by
        rw [kv_0, b_or, Bool.or_eq_false_iff]
      rw [ak_step f V _ _ hp]
      cases z : bt (x ||| y) p
      · rw [if_pos (hk.mpr z)]
        exact akl x y f (p + 1) m V (by omega) (by omega) hV (by rw [fb_ct_succ, z, hm]; rfl)
      · rw [if_neg (fun q => by rw [hk.mp q] at z; cases z)]
        obtain ⟨V2, b1, b2, b3⟩ := wa1 hV (by omega) (ltr_lt (bt x p) (bt y p))
        obtain ⟨V3, d1, d2, d3⟩ := akl x y f (p + 1) (m + 1) V2 (by omega) (by omega) b2 (by rw [fb_ct_succ, z, hm]; rfl)
        rw [b1, bs]
        exact ⟨V3, d1, d2, b3.tr d3⟩
theorem clr_eq (V : St) : ∃ V0, f_X2_clear V = some V0 ∧ V0 205 1 = nI 0 ∧ FLc V V0 := ⟨up V 205 1 0, rfl, up_self _ _ _ _, fun k a _ => up_at a⟩
section QL
variable {V : St} {g : Nat → Int32} {n p : Nat}
theorem or_and_C {x y C : Int32} (h : ∀ i, bt C i = true → bt (x ||| y) i = true) : (x &&& C) ||| (y &&& C) = C := b_ext fun i hi => by
  rw [b_or, b_and, b_and]
  cases e : bt C i
  · simp
  · have := h i e
    rw [b_or] at this
    rw [Bool.and_true, Bool.and_true, this]
theorem q_chl0 (hS : SR V 1 g) (hG : GG g) (hn : n < 3) (hp : p < 24) (h : bt (kA g n) p = false) : f_L_chapterLine V (nI n) (nI p) = some (-75, V) := by
  rcases chp hS hG hn hp with ⟨-, d1⟩ | ⟨e, -⟩
  · rw [f_L_chapterLine, f_X9_chapterLine, isN hn, bs, if_neg (by decide), isPl hp, bs, if_neg (by decide), net_eq _ _ hn, bs, d1, bs, if_pos rfl]
    rfl
  · rw [h] at e
    cases e
theorem q_chl (hS : SR V 1 g) (hG : GG g) (hn : n < 3) (hp : p < 24) (h : bt (kA g n) p = true) : ∃ V1, f_L_chapterLine V (nI n) (nI p) = some (nI (nb (chC g n p)), V1) ∧ FB V V1 := by
  rcases chp hS hG hn hp with ⟨e, -⟩ | ⟨-, C, d1, d2, d3, d4, -⟩
  · rw [h] at e
    cases e
  · have ec : C = chC g n p := d4.one (chC_s g n p)
    subst ec
    obtain ⟨V0, a1, a2, a3⟩ := clr_eq V
    have hS0 := hS.b a3.b
    have hor : (g (6 + 5 * n + 0) &&& chC g n p) ||| (g (6 + 5 * n + 1) &&& chC g n p) = chC g n p := or_and_C fun i hi => by
      have hi24 := d3.lt hi
      exact con.inA ((d4 i (by omega)).mp hi) h
    obtain ⟨V1, b1, b2, b3⟩ := akl (g (6 + 5 * n + 0) &&& chC g n p) (g (6 + 5 * n + 1) &&& chC g n p) 500 0 0 V0 (by decide) (by decide) a2 rfl
    have b1 : f_X2_appendKnots V0 (g (6 + 5 * n + 0) &&& chC g n p) (g (6 + 5 * n + 1) &&& chC g n p) = some V1 := b1
    refine ⟨V1, ?_, (a3.tr b3).b⟩
    rw [f_L_chapterLine, f_X9_chapterLine, isN hn, bs, if_neg (by decide), isPl hp, bs, if_neg (by decide), net_eq _ _ hn, bs, d1, bs, if_neg d2, a1, bs, hS0.2.1 n 0 hn (by decide), hS0.2.1 n 1 hn (by decide), b1, bs, bs, b2, hor]
    rfl
theorem lnb {num k : Nat} (hnum : num < 4) (hk : k ≠ 205 ∧ k ≠ 206) : ∀ (f c m : Nat) (V : St), 1 ≤ c → c ≤ 6 → 6 < f + c → m + 2 * (6 - c) ≤ 12 → V 205 1 = nI m → ∃ V1, f_X3_writeLine_b2 f V k (nI num) (nI c) = some V1 ∧ V1 205 1 = nI (m + 2 * (6 - c)) ∧ FLc V V1
  | 0, c, m, V, _, _, h1, _, _ => by omega
  | f + 1, c, m, V, c1, c6, hf, hm, hV => by
    by_cases e : c = 6
    · subst e
      refine ⟨V, ?_, by rw [hV]; rfl, FLc.rf _⟩
      rw [f_X3_writeLine_b2, if_pos (show (6 : Int32) ≤ nI 6 by decide)]
    · have hc : c < 6 := by omega
      obtain ⟨p, hp⟩ : ∃ p, p = 6 * num + (c - 1) := ⟨_, rfl⟩
      have p24 : p + 1 < 24 := by omega
      obtain ⟨s, hs⟩ : ∃ s, s = if bt (V k 2) p = true then 47 else 45 := ⟨_, rfl⟩
      have s128 : s < 128 := by rw [hs]; split <;> decide
      obtain ⟨V1, a1, a2, a3⟩ := wa1 hV (by omega) s128
      obtain ⟨t, ht⟩ : ∃ t, t = ltr (bt (V1 k 0) (p + 1)) (bt (V1 k 1) (p + 1)) := ⟨_, rfl⟩
      obtain ⟨V2, b1, b2, b3⟩ := wa1 a2 (by omega) (show t < 128 by rw [ht]; exact ltr_lt _ _)
      obtain ⟨V3, d1, d2, d3⟩ := lnb hnum hk f (c + 1) (m + 1 + 1) V2 (by omega) (by omega) (by omega) (by omega) b2
      refine ⟨V3, ?_, by rw [d2]; congr 1; omega, (a3.tr b3).tr d3⟩
      have x4 : (nI num * 6) + nI c = nI (p + 1) := by
        rw [show (6 : Int32) = nI 6 from rfl, pk_mul, nI_add]
        exact congrArg nI (by omega)
      have e1 : f_X3_writeLine_b44 (fun V k0 x1 x3 => f_X3_writeLine_b2 f V k0 x1 x3) V1 k (nI num) (nI c) (nI (p + 1)) = some V3 := by
        rw [b44_eq _ _ _ _ p24, ← ht, b1, bs]
        exact d1
      rw [f_X3_writeLine_b2, if_neg (show ¬ (6 : Int32) ≤ nI c from nI_ge (b := 6) hc (by decide)), if_neg (nI_nle (by omega) (by omega)), x4, nI_pred, torn1 V k (show p < 24 by omega), bs]
      cases z : bt (V k 2) p
      · rw [if_pos (show bI false = 0 by decide), f_X3_writeLine_b41]
        rw [z, if_neg Bool.false_ne_true] at hs
        rw [show (45 : Int32) = nI s from by rw [hs]; rfl, a1, bs]
        exact e1
      · rw [if_neg (show ¬ bI true = 0 by decide), f_X3_writeLine_b41]
        rw [z, if_pos rfl] at hs
        rw [show (47 : Int32) = nI s from by rw [hs]; rfl, a1, bs]
        exact e1
theorem lna {num k m : Nat} {V : St} (hnum : num < 4) (hk : k ≠ 205 ∧ k ≠ 206) (hm : m ≤ 1) (hV : V 205 1 = nI m) : ∃ V1, f_X3_writeLine V k (nI num) = some V1 ∧ V1 205 1 = nI (m + 11) ∧ FLc V V1 := by
  obtain ⟨t, ht⟩ : ∃ t, t = ltr (bt (V k 0) (6 * num + 0)) (bt (V k 1) (6 * num + 0)) := ⟨_, rfl⟩
  obtain ⟨V2, b1, b2, b3⟩ := wa1 hV (by omega) (show t < 128 by rw [ht]; exact ltr_lt _ _)
  obtain ⟨V3, d1, d2, d3⟩ := lnb hnum hk 499 1 (m + 1) V2 (by omega) (by omega) (by omega) (by omega) b2
  refine ⟨V3, ?_, by rw [d2], b3.tr d3⟩
  have x4 : (nI num * 6) + nI 0 = nI (6 * num + 0) := by
    rw [show (6 : Int32) = nI 6 from rfl, pk_mul, nI_add]
    exact congrArg nI (by omega)
  show f_X3_writeLine_b2 (499 + 1) V k (nI num) (nI 0) = _
  rw [f_X3_writeLine_b2, if_neg (show ¬ (6 : Int32) ≤ nI 0 by decide), if_pos (show nI 0 ≤ (0 : Int32) by decide), x4, b44_eq _ _ _ _ (by omega), ← ht, b1, bs]
  exact d1
theorem q_line (hS : SR V 1 g) (hG : GG g) (hn : n < 3) {num : Nat} (hnum : num < 4) : ∃ V1, f_L_line V (nI n) (nI num) = some (nI (if num < 4 - uwg g n then 11 else 12), V1) ∧ FB V V1 := by
  obtain ⟨V0, a1, a2, a3⟩ := clr_eq V
  have hS0 := hS.b a3.b
  have hu := uwg_le g n
  have e4 : (4 : Int32) - nI (uwg g n) = nI (4 - uwg g n) := by rw [show (4 : Int32) = nI 4 from rfl, pk_sub hu]
  have ec : f_X9_line V (nI n) (nI num) = if nI num < nI (4 - uwg g n) then f_X9_line_b57 V0 (nI n) (nI num) else (f_X2_append V0 126).bind fun q10 => f_X9_line_b57 q10 (nI n) (nI num) := by
    rw [f_X9_line, isN hn, bs, if_neg (by decide), if_neg (nI_pos (by omega)), if_pos (show nI num < (4 : Int32) from nI_lt (b := 4) hnum (by decide)), a1, bs, uw_c hS0 hG hn, bs, e4]
  by_cases c : num < 4 - uwg g n
  · obtain ⟨V1, b1, b2, b3⟩ := lna (k := 1 + 4 + n) (m := 0) hnum (by omega) (by decide) a2
    refine ⟨V1, ?_, (a3.tr b3).b⟩
    rw [if_pos c, f_L_line, ec, if_pos (nI_lt c (by omega)), f_X9_line_b57, net_eq _ _ hn, bs, b1, bs, bs, b2]
    rfl
  · obtain ⟨V2, c1, c2, c3⟩ := wa1 (c := 126) a2 (by decide) (by decide)
    have c1 : f_X2_append V0 126 = some V2 := c1
    obtain ⟨V1, b1, b2, b3⟩ := lna (k := 1 + 4 + n) (m := 1) hnum (by omega) (by decide) c2
    refine ⟨V1, ?_, ((a3.tr c3).tr b3).b⟩
    rw [if_neg c, f_L_line, ec, if_neg (nI_nlt (by omega) (by omega)), c1, bs, f_X9_line_b57, net_eq _ _ hn, bs, b1, bs, bs, b2]
    rfl
end QL
