/-! chapters in an order -/
def del (C : Int32) : List Int32 → List Int32
  | [] => []
  | X :: t => if X = C then t else X :: del C t
def fil (s : Nat) : List Int32 → List Int32
  | [] => []
  | X :: t => if nb X = s then X :: fil s t else fil s t
def selN : Nat → List Int32 → List Int32
  | 0, _ => []
  | s + 1, L => fil (s + 1) L ++ selN s L
theorem fil_app (s : Nat) (Y : List Int32) : ∀ X : List Int32, fil s (X ++ Y) = fil s X ++ fil s Y
  | [] => rfl
  | C :: t => by
    show (if nb C = s then C :: fil s (t ++ Y) else fil s (t ++ Y)) = (if nb C = s then C :: fil s t else fil s t) ++ fil s Y
    rw [fil_app s Y t]
    split <;> rfl
theorem fil_none {s : Nat} : ∀ {X : List Int32}, (∀ C ∈ X, nb C ≠ s) → fil s X = []
  | [], _ => rfl
  | C :: t, h => by
    show (if nb C = s then C :: fil s t else fil s t) = []
    rw [if_neg (h C List.mem_cons_self), fil_none (fun X hX => h X (List.mem_cons_of_mem _ hX))]
theorem gf_split : ∀ (L : List Int32) (a : Int32), (gfold a L = a ∧ ∀ C ∈ L, nb C ≤ nb a) ∨ (∃ pre post, L = pre ++ gfold a L :: post ∧ (∀ C ∈ pre, nb C < nb (gfold a L)) ∧ (∀ C ∈ post, nb C ≤ nb (gfold a L)) ∧ nb a < nb (gfold a L))
  | [], a => Or.inl ⟨rfl, fun C h => by cases h⟩
  | C :: t, a => by
    by_cases q : nb C ≤ nb a
    · have e : gfold a (C :: t) = gfold a t := by
        show gfold (if nb C ≤ nb a then a else C) t = gfold a t
        rw [if_pos q]
      rw [e]
      rcases gf_split t a with ⟨h1, h2⟩ | ⟨pre, post, h1, h2, h3, h4⟩
      · refine Or.inl ⟨h1, fun X hX => ?_⟩
        rcases List.mem_cons.mp hX with rfl | hX
        · exact q
        · exact h2 X hX
      · refine Or.inr ⟨C :: pre, post, ?_, fun X hX => ?_, h3, h4⟩
        · rw [List.cons_append, ← h1]
        · rcases List.mem_cons.mp hX with rfl | hX
          · omega
          · exact h2 X hX
    · have e : gfold a (C :: t) = gfold C t := by
        show gfold (if nb C ≤ nb a then a else C) t = gfold C t
        rw [if_neg q]
      rw [e]
      rcases gf_split t C with ⟨h1, h2⟩ | ⟨pre, post, h1, h2, h3, h4⟩
      · refine Or.inr ⟨[], t, ?_, (fun X hX => by cases hX), ?_, ?_⟩
        · rw [h1, List.nil_append]
        · rw [h1]
          exact h2
        · rw [h1]
          omega
      · refine Or.inr ⟨C :: pre, post, ?_, fun X hX => ?_, h3, by omega⟩
        · rw [List.cons_append, ← h1]
        · rcases List.mem_cons.mp hX with rfl | hX
          · exact h4
          · exact h2 X hX
theorem del_app {g : Int32} {post : List Int32} : ∀ {pre : List Int32}, (∀ C ∈ pre, nb C < nb g) → del g (pre ++ g :: post) = pre ++ post
  | [], _ => by
    show (if g = g then post else _) = post
    rw [if_pos rfl]
  | C :: t, h => by
    show (if C = g then t ++ g :: post else C :: del g (t ++ g :: post)) = C :: (t ++ post)
    have h1 := h C List.mem_cons_self
    rw [if_neg (fun e => by rw [e] at h1; omega), del_app (fun X hX => h X (List.mem_cons_of_mem _ hX))]
theorem selN_skip {g : Int32} (pre post : List Int32) : ∀ (s : Nat), s < nb g → selN s (pre ++ g :: post) = selN s (pre ++ post)
  | 0, _ => rfl
  | s + 1, h => by
    show fil (s + 1) (pre ++ g :: post) ++ selN s (pre ++ g :: post) = fil (s + 1) (pre ++ post) ++ selN s (pre ++ post)
    rw [selN_skip pre post s (by omega), fil_app, fil_app]
    have : fil (s + 1) (g :: post) = fil (s + 1) post := if_neg (by omega)
    rw [this]
theorem selN_cons {g : Int32} (pre post : List Int32) (h1 : ∀ C ∈ pre, nb C < nb g) (h2 : ∀ C ∈ post, nb C ≤ nb g) : ∀ (s : Nat), nb g ≤ s → 0 < nb g → selN s (pre ++ g :: post) = g :: selN s (pre ++ post)
  | 0, h, h0 => by omega
  | s + 1, h, h0 => by
    show fil (s + 1) (pre ++ g :: post) ++ selN s (pre ++ g :: post) = g :: (fil (s + 1) (pre ++ post) ++ selN s (pre ++ post))
    rw [fil_app, fil_app]
    rw [fil_none (s := s + 1) (X := pre) (fun C hC => by have := h1 C hC; omega)]
    by_cases e : nb g = s + 1
    · have : fil (s + 1) (g :: post) = g :: fil (s + 1) post := if_pos e
      rw [this, selN_skip pre post s (by omega)]
      rfl
    · have : fil (s + 1) (g :: post) = fil (s + 1) post := if_neg e
      rw [this, fil_none (s := s + 1) (X := post) (fun C hC => by have := h2 C hC; omega), selN_cons pre post h1 h2 s (by omega) h0]
      rfl
theorem sel_cons {L : List Int32} (hne : L ≠ []) (h : ∀ C ∈ L, 0 < nb C) : selN 24 L = gfold 0 L :: selN 24 (del (gfold 0 L) L) ∧ gfold 0 L ∈ L := by
  rcases gf_split L 0 with ⟨h1, h2⟩ | ⟨pre, post, h1, h2, h3, h4⟩
  · exfalso
    cases L with
    | nil => exact hne rfl
    | cons C t =>
      have a := h C List.mem_cons_self
      have b := h2 C List.mem_cons_self
      rw [nb_0] at b
      omega
  · rw [nb_0] at h4
    obtain ⟨g, hg⟩ : ∃ g, g = gfold 0 L := ⟨_, rfl⟩
    rw [← hg] at h1 h2 h3 h4 ⊢
    rw [h1, del_app h2]
    exact ⟨selN_cons pre post h2 h3 24 (nb_le g) h4, List.mem_append.mpr (Or.inr List.mem_cons_self)⟩
theorem del_mem {C X : Int32} : ∀ {L : List Int32}, X ∈ del C L → X ∈ L
  | [], h => by cases h
  | Y :: t, h => by
    have h : X ∈ (if Y = C then t else Y :: del C t) := h
    by_cases e : Y = C
    · rw [if_pos e] at h
      exact List.mem_cons_of_mem _ h
    · rw [if_neg e] at h
      rcases List.mem_cons.mp h with rfl | h
      · exact List.mem_cons_self
      · exact List.mem_cons_of_mem _ (del_mem h)
theorem del_len {C : Int32} : ∀ {L : List Int32}, C ∈ L → (del C L).length + 1 = L.length
  | [], h => by cases h
  | Y :: t, h => by
    show (if Y = C then t else Y :: del C t).length + 1 = t.length + 1
    by_cases e : Y = C
    · rw [if_pos e]
    · rw [if_neg e]
      rcases List.mem_cons.mp h with h | h
      · exact absurd h.symm e
      · have := del_len h
        rw [List.length_cons]
        omega
theorem sel_len : ∀ (n : Nat) (L : List Int32), L.length = n → (∀ C ∈ L, 0 < nb C) → (selN 24 L).length = n
  | 0, L, h, _ => by
    cases L with
    | nil => decide +kernel
    | cons C t => cases h
  | n + 1, L, h, hp => by
    have hne : L ≠ [] := fun e => by rw [e] at h; cases h
    obtain ⟨h1, h2⟩ := sel_cons hne hp
    have h3 := del_len h2
    rw [h1, List.length_cons, sel_len n _ (by omega) (fun C hC => hp C (del_mem hC))]
/-- the chapter at a place of a list -/
def pk (x : Int32) : List Int32 → Option Int32
  | [] => none
  | C :: t => if x = 0 then some C else pk (x + (-1)) t
def dcn (n : Nat) (x : Int32) : Int32 := x - nI n
theorem dcn_0 (x : Int32) : dcn 0 x = x := Int32.sub_zero x
theorem pk_cons (x C : Int32) (t : List Int32) : pk x (C :: t) = if x = 0 then some C else pk (x + (-1)) t := rfl
theorem dcn_succ (x : Int32) (n : Nat) : dcn (n + 1) x = dcn n (x + (-1)) := by
  unfold dcn
  rw [← nI_1, Int32.sub_eq_add_neg, Int32.sub_eq_add_neg, Int32.neg_add, Int32.sub_eq_add_neg, Int32.add_comm (-nI n), ← Int32.add_assoc]
theorem pk_app (Y : List Int32) : ∀ (X : List Int32) (x : Int32), pk x (X ++ Y) = (pk x X).elim (pk (dcn X.length x) Y) some
  | [], x => by
    rw [List.nil_append, List.length_nil, dcn_0]
    rfl
  | C :: t, x => by
    rw [List.cons_append, pk_cons, pk_cons, List.length_cons, dcn_succ]
    by_cases e : x = 0
    · rw [if_pos e, if_pos e]
      rfl
    · rw [if_neg e, if_neg e]
      exact pk_app Y t (x + (-1))
theorem m1_back (x y : Int32) (h : x + (-1) = y) : x = y + 1 := by
  rw [← h, Int32.add_assoc]
  exact (Int32.add_zero x).symm
theorem pk_some : ∀ {L : List Int32} {x C : Int32}, pk x L = some C → (∃ j, j < L.length ∧ x = nI j) ∧ C ∈ L
  | [], x, C, h => by cases h
  | X :: t, x, C, h => by
    rw [pk_cons] at h
    by_cases e : x = 0
    · rw [if_pos e] at h
      cases h
      exact ⟨⟨0, Nat.zero_lt_succ _, e⟩, List.mem_cons_self⟩
    · rw [if_neg e] at h
      obtain ⟨⟨j, h1, h2⟩, h3⟩ := pk_some h
      refine ⟨⟨j + 1, Nat.succ_lt_succ h1, ?_⟩, List.mem_cons_of_mem _ h3⟩
      rw [← nI_1]
      exact m1_back x _ h2
theorem ch_low {A R D : PS} {r C : Int32} {p : Nat} (hc : Clo A R D r) (hp : isLow r p) (hC : Cmp A R D p C) : isLow C p := by
  have h24 := hp.1
  refine ⟨hp.1, (hC p (by omega)).mpr (con.rf p), fun q hq => ?_⟩
  cases e : bt C q
  · rfl
  · have := hc.2 p q hp.2.1 ((hC q (by omega)).mp e)
    rw [hp.2.2 q hq] at this
    cases this
theorem ch_mem {A R D : PS} : ∀ {L : List Int32} {r C : Int32}, ChL A R D r L → I24 r → Clo A R D r → C ∈ L → ∃ q, bt r q = true ∧ q < 24 ∧ Cmp A R D q C ∧ isLow C q
  | [], _, _, _, _, _, h => by cases h
  | X :: t, r, C, ⟨⟨p, hp, hX⟩, h1⟩, hr, hc, h => by
    rcases List.mem_cons.mp h with rfl | h
    · exact ⟨p, hp.2.1, hp.1, hX, ch_low hc hp hX⟩
    · obtain ⟨q, a, b, c, d⟩ := ch_mem h1 hr.minus (hc.minus hr hp.2.1 hX) h
      refine ⟨q, ?_, b, c, d⟩
      rw [b_and, Bool.and_eq_true] at a
      exact a.1
theorem minus_comm (r C X : Int32) : (r &&& (C ^^^ (-1))) &&& (X ^^^ (-1)) = (r &&& (X ^^^ (-1))) &&& (C ^^^ (-1)) := b_ext fun i _ => by
  rw [b_and, b_and, b_and, b_and]
  cases bt r i <;> cases bt (C ^^^ (-1)) i <;> cases bt (X ^^^ (-1)) i <;> rfl
theorem ch_del {A R D : PS} : ∀ {L : List Int32} {r C : Int32}, ChL A R D r L → I24 r → Clo A R D r → C ∈ L → ChL A R D (r &&& (C ^^^ (-1))) (del C L)
  | [], _, _, _, _, _, h => by cases h
  | X :: t, r, C, ⟨⟨p, hp, hX⟩, h1⟩, hr, hc, h => by
    show ChL A R D (r &&& (C ^^^ (-1))) (if X = C then t else X :: del C t)
    by_cases e : X = C
    · rw [if_pos e, ← e]
      exact h1
    · rw [if_neg e]
      rcases List.mem_cons.mp h with h | h
      · exact absurd h.symm e
      · have hc2 := hc.minus hr hp.2.1 hX
        obtain ⟨q, a, b, c, d⟩ := ch_mem h1 hr.minus hc2 h
        have h24 := hp.1
        have ha : bt r q = true ∧ bt X q = false := by
          rw [b_minus r X (by omega), Bool.and_eq_true] at a
          refine ⟨a.1, ?_⟩
          cases z : bt X q
          · rfl
          · rw [z] at a
            exact absurd a.2 (by decide)
        have hCp : bt C p = false := by
          cases z : bt C p
          · rfl
          · have k1 := (c p (by omega)).mp z
            have k2 := (hX q (by omega)).mpr (k1.sy (hc.1 q ha.1))
            rw [ha.2] at k2
            cases k2
        refine ⟨⟨p, ⟨hp.1, ?_, fun z hz => ?_⟩, hX⟩, ?_⟩
        · rw [b_minus r C (by omega), hp.2.1, hCp]
          rfl
        · rw [b_and, hp.2.2 z hz, Bool.false_and]
        · rw [minus_comm]
          exact ch_del h1 hr.minus hc2 h
theorem ch_pos {A R D : PS} {L : List Int32} {r : Int32} (h : ChL A R D r L) (hr : I24 r) (hc : Clo A R D r) : ∀ C ∈ L, 0 < nb C := by
  intro C hC
  obtain ⟨q, -, b, -, d⟩ := ch_mem h hr hc hC
  exact fb_ct_pos.mpr ⟨q, b, d.2.1⟩
theorem del_Clo {A R D : PS} {L : List Int32} {r C : Int32} (h : ChL A R D r L) (hr : I24 r) (hc : Clo A R D r) (hC : C ∈ L) : Clo A R D (r &&& (C ^^^ (-1))) := by
  obtain ⟨q, a, -, c, -⟩ := ch_mem h hr hc hC
  exact hc.minus hr a c
/-- the class's search -/
theorem rk_loop {V : St} {k : Nat} (hA : I24 (nA V k)) : ∀ (n i j : Nat) (L : List Int32) (r : Int32), ChL (bt (nA V k)) (bt (nR V k)) (bt (nD V k)) r L → Clo (bt (nA V k)) (bt (nR V k)) (bt (nD V k)) r → I24 r → j < n → i + j < 24 → f_X3_chapterRanked_b19 n V k (nI (i + j)) r (nI i) = some ((pk (nI j) (selN 24 L)).getD 0)
  | 0, i, j, L, r, _, _, _, h, _ => by omega
  | n + 1, i, j, L, r, h1, hc, hr, hj, hij => by
    rw [f_X3_chapterRanked_b19]
    have hpos := ch_pos h1 hr hc
    rw [gr_eq hA h1 hc hr]
    cases j with
    | zero =>
      rw [if_pos (show nI (i + 0) ≤ nI i from (nI_leI (by omega) (by omega)).mpr (by omega)), bs]
      cases L with
      | nil => rfl
      | cons C t =>
        rw [(sel_cons (by intro e; cases e) hpos).1]
        rfl
    | succ j =>
      rw [if_neg (fun h => by have := (nI_leI (by omega) (by omega)).mp h; omega), bs, nI_1]
      by_cases e : L = []
      · subst e
        have h0 : r = 0 := h1
        subst h0
        have e0 : (0 : Int32) &&& (gfold 0 [] ^^^ (-1)) = 0 := b_ext fun z _ => by rw [b_and, b_0, Bool.false_and]
        rw [e0]
        have := rk_loop hA n (i + 1) j [] 0 h1 hc hr (by omega) (by omega)
        rw [show i + 1 + j = i + (j + 1) from by omega] at this
        rw [this]
        have h7 : ∀ x, pk x (selN 24 []) = none := fun x => by
          rw [show selN 24 ([] : List Int32) = [] from by decide +kernel]
          rfl
        rw [h7, h7]
      · obtain ⟨h2, h3⟩ := sel_cons e hpos
        have := rk_loop hA n (i + 1) j (del (gfold 0 L) L) _ (ch_del h1 hr hc h3) (del_Clo h1 hr hc h3) hr.minus (by omega) (by omega)
        rw [show i + 1 + j = i + (j + 1) from by omega] at this
        rw [this, h2]
        rw [pk_cons, if_neg (nI_ne0 (by omega) (by omega)), pk_m1]
theorem rk_eq {V : St} {k j : Nat} (hA : I24 (nA V k)) (hj : j < 24) {L : List Int32} (h1 : ChL (bt (nA V k)) (bt (nR V k)) (bt (nD V k)) (nA V k) L) : f_X3_chapterRanked V k (nI j) = some ((pk (nI j) (selN 24 L)).getD 0) := by
  rw [f_X3_chapterRanked, if_neg (nI_pos (by omega)), if_pos (show nI j < (24 : Int32) from nI_lt (b := 24) hj (by decide)), kn_eq, bs]
  have := rk_loop hA 500 0 j L _ h1 Clo.all hA (by omega) (by omega)
  rw [Nat.zero_add] at this
  exact this
/-- the model's -/
def rkR (V : St) (o : Option Int32) (e : Option (Int32 × St)) (r : Option (Int32 × St)) : Prop := match o with
  | some C => ∃ p, isLow C p ∧ r = some (nI p, V)
  | none => r = e
theorem mr_in {V : St} (hA : I24 (V 208 19)) {c : St → Int32 → Int32 → Option (Int32 × St)} {s : Nat} (hs : s ≤ 24) : ∀ (n : Nat) (L : List Int32) (r x : Int32), ChL (bt (V 208 19)) (bt (V 208 20)) (bt (V 208 21)) r L → Clo (bt (V 208 19)) (bt (V 208 20)) (bt (V 208 21)) r → I24 r → L.length < n → rkR V (pk x (fil s L)) (c V (dcn (fil s L).length x) (nI s + (-1))) (f_X10_ranked_b47 c n V x (nI s) r)
  | 0, _, _, _, _, _, _, h => by omega
  | n + 1, [], r, x, hL, _, _, _ => by
    rw [f_X10_ranked_b47, if_pos (show r = 0 from hL), show fil s ([] : List Int32) = [] from rfl, List.length_nil, dcn_0]
    rfl
  | n + 1, C :: t, r, x, ⟨⟨p, hp, hC⟩, h1⟩, hc, hr, hlt => by
    simp only [List.length_cons] at hlt
    obtain ⟨C2, e1, e2, e3⟩ := tog_eq hp.1 hA (hc.at hp)
    cases hC.one e2
    rw [f_X10_ranked_b47, if_neg hp.ne, lowest_eq hp, bs, e1, bs, bits_eq, bs]
    have h9 := nb_le C
    have hh := hc.minus hr hp.2.1 hC
    by_cases q : nb C = s
    · rw [if_pos (by rw [q])]
      rw [show fil s (C :: t) = C :: fil s t from if_pos q]
      by_cases z : x = 0
      · rw [if_pos z]
        rw [show pk x (C :: fil s t) = some C from if_pos z]
        exact ⟨p, ch_low hc hp hC, rfl⟩
      · rw [if_neg z]
        rw [show pk x (C :: fil s t) = pk (x + (-1)) (fil s t) from if_neg z, List.length_cons, dcn_succ]
        exact mr_in hA hs n t _ (x + (-1)) h1 hh hr.minus (by omega)
    · rw [if_neg (fun h => q ((nI_eq (by omega) (by omega)).mp h))]
      rw [show fil s (C :: t) = fil s t from if_neg q]
      exact mr_in hA hs n t _ x h1 hh hr.minus (by omega)
theorem mr_out {V : St} (hA : I24 (V 208 19)) {L : List Int32} (h1 : ChL (bt (V 208 19)) (bt (V 208 20)) (bt (V 208 21)) (V 208 19) L) : ∀ (n s : Nat) (x : Int32), s ≤ 24 → s < n → rkR V (pk x (selN s L)) (some (0, up V 208 0 2)) (f_X10_ranked_b36 n V x (nI s))
  | 0, _, _, _, h => by omega
  | n + 1, 0, x, hs, hn => by
    rw [f_X10_ranked_b36, if_pos (show nI 0 ≤ 0 by decide)]
    rfl
  | n + 1, s + 1, x, hs, hn => by
    rw [f_X10_ranked_b36, if_neg (nI_nle (by omega) (by omega))]
    have h2 := h1.len hA
    have h3 := nb_le (V 208 19)
    have a := mr_in hA (c := fun V x3 x4 => f_X10_ranked_b36 n V x3 x4) hs 500 L (V 208 19) x h1 Clo.all hA (by omega)
    have b := mr_out hA h1 n s (dcn (fil (s + 1) L).length x) (by omega) (by omega)
    rw [show selN (s + 1) L = fil (s + 1) L ++ selN s L from rfl, pk_app]
    cases e : pk x (fil (s + 1) L) with
    | some C =>
      rw [e] at a
      exact a
    | none =>
      rw [e] at a
      have a : f_X10_ranked_b47 (fun V x3 x4 => f_X10_ranked_b36 n V x3 x4) 500 V x (nI (s + 1)) (V 208 19) = f_X10_ranked_b36 n V (dcn (fil (s + 1) L).length x) (nI (s + 1) + (-1)) := a
      rw [a, pk_m1]
      exact b
/-! two places, one string -/
theorem areB {p q : Nat} (hp : p < 24) (hq : q < 24) : f_X9_areBeside (nI p) (nI q) = some (bI (decide (p + 1 = q ∧ q % 6 ≠ 0 ∨ q + 1 = p ∧ p % 6 ≠ 0 ∨ p + 6 = q ∨ q + 6 = p))) := by
  have : ∀ p : Fin 24, ∀ q : Fin 24, f_X9_areBeside (nI p.val) (nI q.val) = some (bI (decide (p.val + 1 = q.val ∧ q.val % 6 ≠ 0 ∨ q.val + 1 = p.val ∧ p.val % 6 ≠ 0 ∨ p.val + 6 = q.val ∨ q.val + 6 = p.val))) := by decide +kernel
  exact this ⟨p, hp⟩ ⟨q, hq⟩
