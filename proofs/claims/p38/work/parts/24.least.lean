/-! how little twine would do -/
def RT : Int32 := 8255455
def DN : Int32 := 262143
theorem wh_or {M T : Int32} (h : Sub T M) (i : Nat) (hi : i < 32) : bt M i = (bt (M &&& (T ^^^ (-1))) i || bt T i) := by
  rw [b_and, b_not T hi]
  have := h i
  cases e1 : bt M i <;> cases e2 : bt T i <;> simp_all
theorem wh_sub {M T : Int32} : Sub (M &&& (T ^^^ (-1))) M := fun i hi => by
  rw [b_and, Bool.and_eq_true] at hi
  exact hi.1
theorem RT_24 : I24 RT := by
  intro i hi
  rcases Nat.lt_or_ge i 32 with c | c
  · exact (by decide +kernel : ∀ i, i < 32 → 24 ≤ i → bt RT i = false) i c hi
  · exact b_big c
theorem DN_24 : I24 DN := by
  intro i hi
  rcases Nat.lt_or_ge i 32 with c | c
  · exact (by decide +kernel : ∀ i, i < 32 → 24 ≤ i → bt DN i = false) i c hi
  · exact b_big c
theorem wh_all {M T : Int32} (hM : I24 M) (h : Sub T M) (i : Nat) : bt M i = true ↔ bt (M &&& (T ^^^ (-1))) i = true ∨ bt T i = true := by
  rcases Nat.lt_or_ge i 32 with c | c
  · rw [wh_or h i c, Bool.or_eq_true]
  · rw [b_big c, b_big c, b_big c]
    simp
/-- a set that hangs together when all strings are whole -/
def Hang (S : Int32) : Prop := I24 S ∧ ¬ S = 0 ∧ ∀ p q, bt S p = true → bt S q = true → con (bt S) (bt RT) (bt DN) p q
theorem Ed_or {S M T : Int32} (hM : I24 M) (h : Sub T M) {s : Nat} (x y : Nat) : Ed S (bt M) s x y ↔ Ed S (bt (M &&& (T ^^^ (-1)))) s x y ∨ Ed S (bt T) s x y := by
  unfold Ed
  rw [wh_all hM h]
  constructor
  · rintro ⟨a, b, c | c, d⟩
    · exact Or.inl ⟨a, b, c, d⟩
    · exact Or.inr ⟨a, b, c, d⟩
  · rintro (⟨a, b, c, d⟩ | ⟨a, b, c, d⟩)
    · exact ⟨a, b, Or.inl c, d⟩
    · exact ⟨a, b, Or.inr c, d⟩
theorem pt_hang {S : Int32} (h : Hang S) : pt (con (bt S) (bt RT) (bt DN)) (bt S) = 1 := by
  obtain ⟨h1, h2, h3⟩ := h
  obtain ⟨p, hp⟩ := isLow.ex h1 h2
  have := ct_one (f := fo (con (bt S) (bt RT) (bt DN)) (bt S)) (g := fun _ => false) hp.1 (dP_t.mpr ⟨hp.2.1, fun q hq hA => by rw [hp.2.2 q hq] at hA; cases hA⟩) rfl (fun i hi hne => dP_f.mpr (by
    rintro ⟨a, b⟩
    rcases Nat.lt_or_ge p i with c | c
    · exact b p c hp.2.1 (h3 p i hp.2.1 a)
    · rw [hp.2.2 i (by omega)] at a
      cases a))
  rw [show fb_ct (fun _ => false) 24 = 0 from by decide +kernel] at this
  exact this
/-- parts by whole strings; parts when all strings across are whole -/
noncomputable def P0 (S TA TD : Int32) : Nat := pt (con (bt S) (bt (RT &&& (TA ^^^ (-1)))) (bt (DN &&& (TD ^^^ (-1))))) (bt S)
noncomputable def P1 (S TD : Int32) : Nat := pt (con (bt S) (bt RT) (bt (DN &&& (TD ^^^ (-1))))) (bt S)
theorem ls_eq {V : St} {k : Nat} (hk : k ≠ 191) {S : Int32} (hS : Hang S) (hTA : Sub (V k 2) RT) (hTD : Sub (V k 3) DN) : ∃ V1 j1 j2, f_X3_leastByStrings V k S = some (nI (j1 + 2 * j2), V1) ∧ F191 V V1 ∧ P0 S (V k 2) (V k 3) = P1 S (V k 3) + j1 ∧ P1 S (V k 3) = 1 + j2 := by
  have hA := hS.1
  obtain ⟨V1, a1, a2, a3, a4⟩ := sep_eq V (A := bt S)
  obtain ⟨j1, V2, b1, b2, b3, b4⟩ := ja_eq (X := nR V k) hA (s := 1) (by decide) a3
  obtain ⟨j2, V3, c1, c2, c3, c4⟩ := ja_eq (X := nD V k) hA (s := 6) (by decide) b3
  obtain ⟨j3, V4, d1, d2, d3, d4⟩ := ja_eq (X := V k 2) hA (s := 1) (by decide) c3
  obtain ⟨j4, V5, e1, e2, e3, e4⟩ := ja_eq (X := V k 3) hA (s := 6) (by decide) d3
  have b1 : f_X5_joinAll V1 ((S &&& (S >>> (1 &&& 31))) &&& nR V k) 1 = some (nI j1, V2) := b1
  have c1 : f_X5_joinAll V2 ((S &&& (S >>> (6 &&& 31))) &&& nD V k) 6 = some (nI j2, V3) := c1
  have d1 : f_X5_joinAll V3 ((S &&& (S >>> (1 &&& 31))) &&& V k 2) 1 = some (nI j3, V4) := d1
  have e1 : f_X5_joinAll V4 ((S &&& (S >>> (6 &&& 31))) &&& V k 3) 6 = some (nI j4, V5) := e1
  have f2 := a2.tr b2
  have f3 := f2.tr c2
  have f4 := f3.tr d2
  have h1 := lp_con hA c3 (R := bt (nR V k)) (D := bt (nD V k)) (fun x y => by
    constructor
    · rintro ((h | h) | h)
      · exact h.elim
      · exact Or.inl h
      · exact Or.inr h
    · rintro (h | h)
      · exact Or.inl (Or.inr h)
      · exact Or.inr h)
  have h2 := lp_con hA d3 (R := bt RT) (D := bt (nD V k)) (fun x y => by
    rw [Ed_or RT_24 hTA]
    constructor
    · rintro (((h | h) | h) | h)
      · exact h.elim
      · exact Or.inl (Or.inl h)
      · exact Or.inr h
      · exact Or.inl (Or.inr h)
    · rintro ((h | h) | h)
      · exact Or.inl (Or.inl (Or.inr h))
      · exact Or.inr h
      · exact Or.inl (Or.inr h))
  have h3 := lp_con hA e3 (R := bt RT) (D := bt DN) (fun x y => by
    rw [Ed_or RT_24 hTA, Ed_or DN_24 hTD]
    constructor
    · rintro ((((h | h) | h) | h) | h)
      · exact h.elim
      · exact Or.inl (Or.inl h)
      · exact Or.inr (Or.inl h)
      · exact Or.inl (Or.inr h)
      · exact Or.inr (Or.inr h)
    · rintro ((h | h) | (h | h))
      · exact Or.inl (Or.inl (Or.inl (Or.inr h)))
      · exact Or.inl (Or.inr h)
      · exact Or.inl (Or.inl (Or.inr h))
      · exact Or.inr h)
  rw [pt_hang hS] at h3
  have h1 : lp V3 (bt S) = P0 S (V k 2) (V k 3) := h1
  have h2 : lp V4 (bt S) = P1 S (V k 3) := h2
  refine ⟨V5, j3, j4, ?_, f4.tr e2, by omega, by omega⟩
  rw [f_X3_leastByStrings, a1, bs, whA, bs, nR_F a2 hk, wi_eq, bs, b1, bs]
  rw [show ((nI j1, V2) : Int32 × St).2 = V2 from rfl, whD, bs, nD_F f2 hk, wi_eq, bs, c1, bs]
  rw [show ((nI j2, V3) : Int32 × St).2 = V3 from rfl, f3 k hk, wi_eq, bs, d1, bs]
  rw [show ((nI j3, V4) : Int32 × St).2 = V4 from rfl, f4 k hk, wi_eq, bs, e1, bs]
  show some ((1 : Int32) * nI j3 + 2 * nI j4, V5) = _
  rw [show (1 : Int32) = nI 1 from rfl, show (2 : Int32) = nI 2 from rfl, pk_mul, pk_mul, nI_add, Nat.one_mul]
/-! place by place -/
theorem low_bit {x : Int32} {p : Nat} (hp : isLow x p) : x &&& (-x) = (1 : Int32) <<< (nI p &&& 31) := by
  have hp24 := hp.1
  refine b_ext fun i hi => ?_
  rw [b_and, b_neg x i hi, b_one (by omega) hi]
  by_cases c : i = p
  · subst c
    rw [hp.2.1, decide_eq_true rfl]
    have : ¬ ∃ j, j < i ∧ bt x j = true := by
      rintro ⟨j, hj, e⟩
      rw [hp.2.2 j hj] at e
      cases e
    rw [decide_eq_false this]
    rfl
  · rw [decide_eq_false c]
    rcases Nat.lt_or_ge i p with d | d
    · rw [hp.2.2 i d]
      rfl
    · have : ∃ j, j < i ∧ bt x j = true := ⟨p, by omega, hp.2.1⟩
      rw [decide_eq_true this]
      cases bt x i <;> rfl
theorem con_tr {A R D : PS} : ∀ p q r, con A R D p q → con A R D q r → con A R D p r := fun _ _ _ h1 h2 => h1.tr h2
theorem con_sy {A R D : PS} : ∀ p q, A p = true → con A R D p q → con A R D q p := fun _ _ hp h => h.sy hp
/-- a part that no string leaves is closed -/
theorem con_shut {S T : Int32} {R D : PS} (h : ∀ a b, bt T a = true → bt S b = true → bt T b = false → adj R D a b = false) {p q : Nat} (hp : bt T p = true) (hc : con (bt S) R D p q) : bt T q = true := by
  refine hc (fun r => bt T r = true) hp fun a b ha hb e => ?_
  cases z : bt T b
  · rw [h a b ha hb z] at e
    cases e
  · rfl
theorem add_bt {T : Int32} {v : Nat} (hv : v < 24) (p : Nat) : bt (T ||| ((1 : Int32) <<< (nI v &&& 31))) p = true ↔ bt T p = true ∨ p = v := by
  rw [b_or, one_bt hv, Bool.or_eq_true, decide_eq_true_eq]
section PRIM
variable {V : St} {k : Nat} {S : Int32}
noncomputable def c0 (V : St) (k : Nat) (S T : Int32) : Nat := cT (con (bt S) (bt (nR V k)) (bt (nD V k))) (bt S) (bt T)
noncomputable def c1 (V : St) (k : Nat) (S T : Int32) : Nat := cT (con (bt S) (bt RT) (bt (nD V k))) (bt S) (bt T)
theorem adj_sub {R D R2 D2 : PS} (h1 : ∀ i, R i = true → R2 i = true) (h2 : ∀ i, D i = true → D2 i = true) (a b : Nat) (h : adj R D a b = true) : adj R2 D2 a b = true := by
  rw [adj_iff] at h ⊢
  rcases h with ⟨e, h⟩ | ⟨e, h⟩ | ⟨e, h⟩ | ⟨e, h⟩
  · exact Or.inl ⟨e, h1 _ h⟩
  · exact Or.inr (Or.inl ⟨e, h1 _ h⟩)
  · exact Or.inr (Or.inr (Or.inl ⟨e, h2 _ h⟩))
  · exact Or.inr (Or.inr (Or.inr ⟨e, h2 _ h⟩))
theorem adj_or {R1 R2 D1 D2 R D : PS} (h1 : ∀ i, R i = true → R1 i = true ∨ R2 i = true) (h2 : ∀ i, D i = true → D1 i = true ∨ D2 i = true) (a b : Nat) (h : adj R D a b = true) : adj R1 D1 a b = true ∨ adj R2 D2 a b = true := by
  rw [adj_iff] at h
  rw [adj_iff, adj_iff]
  rcases h with ⟨e, h⟩ | ⟨e, h⟩ | ⟨e, h⟩ | ⟨e, h⟩
  · exact (h1 _ h).imp (fun h => Or.inl ⟨e, h⟩) (fun h => Or.inl ⟨e, h⟩)
  · exact (h1 _ h).imp (fun h => Or.inr (Or.inl ⟨e, h⟩)) (fun h => Or.inr (Or.inl ⟨e, h⟩))
  · exact (h2 _ h).imp (fun h => Or.inr (Or.inr (Or.inl ⟨e, h⟩))) (fun h => Or.inr (Or.inr (Or.inl ⟨e, h⟩)))
  · exact (h2 _ h).imp (fun h => Or.inr (Or.inr (Or.inr ⟨e, h⟩))) (fun h => Or.inr (Or.inr (Or.inr ⟨e, h⟩)))
theorem nx_bt {T R D : Int32} (hT : I24 T) (hS : I24 S) {v : Nat} : bt (bsd T R D &&& (S &&& (T ^^^ (-1)))) v = true ↔ bt S v = true ∧ bt T v = false ∧ ∃ t, bt T t = true ∧ adj (bt R) (bt D) t v = true := by
  rcases Nat.lt_or_ge v 32 with c | c
  · rw [b_and, Bool.and_eq_true, bsd_iff hT c, b_minus S T c, Bool.and_eq_true]
    constructor
    · rintro ⟨a, b, d⟩
      refine ⟨b, ?_, a⟩
      cases z : bt T v
      · rfl
      · rw [z] at d
        cases d
    · rintro ⟨a, b, d⟩
      exact ⟨d, a, by rw [b]; rfl⟩
  · rw [b_big c, b_big (x := S) c]
    constructor
    · intro h
      cases h
    · rintro ⟨h, -⟩
      cases h
theorem nx_24 {T R D : Int32} (hS : I24 S) : I24 (bsd T R D &&& (S &&& (T ^^^ (-1)))) := I24.andr hS.minus
theorem nx_none {T R D : Int32} (hT : I24 T) (hS : I24 S) (h : bsd T R D &&& (S &&& (T ^^^ (-1))) = 0) : ∀ a b, bt T a = true → bt S b = true → bt T b = false → adj (bt R) (bt D) a b = false := by
  intro a b ha hb hn
  cases z : adj (bt R) (bt D) a b
  · rfl
  · have := (nx_bt hT hS).mpr ⟨hb, hn, a, ha, z⟩
    rw [h, b_0] at this
    cases this
theorem bt_0 : ∀ i, bt (0 : Int32) i = true → False := fun i h => by rw [b_0] at h; cases h
theorem lp_step (hS : Hang S) (hTA : Sub (V k 2) RT) (hTD : Sub (V k 3) DN) {T : Int32} (hT : I24 T) (hTS : Sub T S) (hne : ∃ t, bt T t = true) (hnS : ¬ T = S) :
    ∃ pr v, pr < 3 ∧ bt S v = true ∧ bt T v = false ∧ v < 24 ∧ (∀ (n c tw : Nat), c < 24 → f_X3_leastByPlaces_b10 (n + 1) V k S T (nI tw) (nI c) = f_X3_leastByPlaces_b10 n V k S (T ||| ((1 : Int32) <<< (nI v &&& 31))) (nI (tw + pr)) (nI (c + 1))) ∧ c0 V k S (T ||| ((1 : Int32) <<< (nI v &&& 31))) + c1 V k S (T ||| ((1 : Int32) <<< (nI v &&& 31))) = c0 V k S T + c1 V k S T + pr := by
  have hA := hS.1
  have hlt : ∀ p, 24 ≤ p → bt S p = false := hA
  have sub01 : ∀ a b, adj (bt (nR V k)) (bt (nD V k)) a b = true → adj (bt RT) (bt (nD V k)) a b = true := adj_sub (fun i hi => wh_sub i hi) (fun i hi => hi)
  by_cases e1 : bsd T (nR V k) (nD V k) &&& (S &&& (T ^^^ (-1))) = 0
  · have no1 := nx_none hT hA e1
    by_cases e2 : bsd T (V k 2) 0 &&& (S &&& (T ^^^ (-1))) = 0
    · have no2 := nx_none hT hA e2
      have no12 : ∀ a b, bt T a = true → bt S b = true → bt T b = false → adj (bt RT) (bt (nD V k)) a b = false := by
        intro a b ha hb hn
        cases z : adj (bt RT) (bt (nD V k)) a b
        · rfl
        · rcases adj_or (R1 := bt (nR V k)) (R2 := bt (V k 2)) (D1 := bt (nD V k)) (D2 := bt 0) (fun i hi => (wh_all RT_24 hTA i).mp hi) (fun i hi => Or.inl hi) a b z with h | h
          · rw [no1 a b ha hb hn] at h
            cases h
          · rw [no2 a b ha hb hn] at h
            cases h
      have e3 : ¬ bsd T 0 (V k 3) &&& (S &&& (T ^^^ (-1))) = 0 := by
        intro e3
        have no3 := nx_none hT hA e3
        apply hnS
        have all : ∀ a b, bt T a = true → bt S b = true → bt T b = false → adj (bt RT) (bt DN) a b = false := by
          intro a b ha hb hn
          cases z : adj (bt RT) (bt DN) a b
          · rfl
          · rcases adj_or (R1 := bt RT) (R2 := bt 0) (D1 := bt (nD V k)) (D2 := bt (V k 3)) (fun i hi => Or.inl hi) (fun i hi => (wh_all DN_24 hTD i).mp hi) a b z with h | h
            · rw [no12 a b ha hb hn] at h
              cases h
            · rw [no3 a b ha hb hn] at h
              cases h
        obtain ⟨t, ht⟩ := hne
        refine b_iff fun i _ => ⟨hTS i, fun hi => ?_⟩
        exact con_shut all ht (hS.2.2 t i (hTS t ht) hi)
      obtain ⟨v, hv⟩ := isLow.ex (nx_24 (S := S) (T := T) (R := 0) (D := V k 3) hA) e3
      obtain ⟨v1, v2, t, v3, v4⟩ := (nx_bt hT hA).mp hv.2.1
      refine ⟨2, v, by decide, v1, v2, hv.1, fun n c tw hc => ?_, ?_⟩
      · rw [f_X3_leastByPlaces_b10, if_neg (show ¬ (24 : Int32) ≤ nI c from nI_ge (b := 24) hc (by decide)), if_neg hnS, whA, bs, whD, bs, bes_eq, bs, if_pos e1, bes_eq, bs, f_X3_leastByPlaces_b71, if_pos e2, bes_eq, bs]
        show f_X3_leastByPlaces_b10 n V k S (T ||| (_ &&& (-_))) (nI tw + nI 2) (nI c + 1) = _
        rw [low_bit hv, nI_add, nI_1]
      · have a0 : c0 V k S (T ||| ((1 : Int32) <<< (nI v &&& 31))) = c0 V k S T + 1 := cT_new hlt con.rf con_sy con_tr v1 (fun t ht hk => by
          have := con_shut no1 ht (hk.sy v1)
          rw [v2] at this
          cases this) (add_bt hv.1)
        have a1 : c1 V k S (T ||| ((1 : Int32) <<< (nI v &&& 31))) = c1 V k S T + 1 := cT_new hlt con.rf con_sy con_tr v1 (fun t ht hk => by
          have := con_shut no12 ht (hk.sy v1)
          rw [v2] at this
          cases this) (add_bt hv.1)
        omega
    · obtain ⟨v, hv⟩ := isLow.ex (nx_24 (S := S) (T := T) (R := V k 2) (D := 0) hA) e2
      obtain ⟨v1, v2, t, v3, v4⟩ := (nx_bt hT hA).mp hv.2.1
      refine ⟨1, v, by decide, v1, v2, hv.1, fun n c tw hc => ?_, ?_⟩
      · rw [f_X3_leastByPlaces_b10, if_neg (show ¬ (24 : Int32) ≤ nI c from nI_ge (b := 24) hc (by decide)), if_neg hnS, whA, bs, whD, bs, bes_eq, bs, if_pos e1, bes_eq, bs, f_X3_leastByPlaces_b71, if_neg e2]
        show f_X3_leastByPlaces_b10 n V k S (T ||| (_ &&& (-_))) (nI tw + nI 1) (nI c + 1) = _
        rw [low_bit hv, nI_add, nI_1]
      · have a0 : c0 V k S (T ||| ((1 : Int32) <<< (nI v &&& 31))) = c0 V k S T + 1 := cT_new hlt con.rf con_sy con_tr v1 (fun t ht hk => by
          have := con_shut no1 ht (hk.sy v1)
          rw [v2] at this
          cases this) (add_bt hv.1)
        have a1 : c1 V k S (T ||| ((1 : Int32) <<< (nI v &&& 31))) = c1 V k S T := cT_old con_tr v3 (((con.rf t).st v1 (adj_sub (fun i hi => hTA i hi) (fun i hi => (bt_0 i hi).elim) t v v4)).sy (hTS t v3)) (add_bt hv.1)
        omega
  · obtain ⟨v, hv⟩ := isLow.ex (nx_24 (S := S) (T := T) (R := nR V k) (D := nD V k) hA) e1
    obtain ⟨v1, v2, t, v3, v4⟩ := (nx_bt hT hA).mp hv.2.1
    refine ⟨0, v, by decide, v1, v2, hv.1, fun n c tw hc => ?_, ?_⟩
    · rw [f_X3_leastByPlaces_b10, if_neg (show ¬ (24 : Int32) ≤ nI c from nI_ge (b := 24) hc (by decide)), if_neg hnS, whA, bs, whD, bs, bes_eq, bs, if_neg e1, f_X3_leastByPlaces_b71, if_neg e1]
      show f_X3_leastByPlaces_b10 n V k S (T ||| (_ &&& (-_))) (nI tw + nI 0) (nI c + 1) = _
      rw [low_bit hv, nI_add, nI_1]
    · have a0 : c0 V k S (T ||| ((1 : Int32) <<< (nI v &&& 31))) = c0 V k S T := cT_old con_tr v3 (((con.rf t).st v1 v4).sy (hTS t v3)) (add_bt hv.1)
      have a1 : c1 V k S (T ||| ((1 : Int32) <<< (nI v &&& 31))) = c1 V k S T := cT_old con_tr v3 (((con.rf t).st v1 (sub01 t v v4)).sy (hTS t v3)) (add_bt hv.1)
      omega
theorem nb_add {T : Int32} {v : Nat} (hv : v < 24) (h : bt T v = false) : nb (T ||| ((1 : Int32) <<< (nI v &&& 31))) = nb T + 1 := by
  refine ct_one hv ((add_bt hv v).mpr (Or.inr rfl)) h fun i hi hne => ?_
  rw [b_or, one_bt hv, decide_eq_false hne, Bool.or_false]
theorem lpl_loop (hS : Hang S) (hTA : Sub (V k 2) RT) (hTD : Sub (V k 3) DN) : ∀ (n c tw : Nat) (T : Int32), I24 T → Sub T S → nb T = c + 1 → tw + 2 = c0 V k S T + c1 V k S T → 24 < n + c → ∃ tw2, f_X3_leastByPlaces_b10 n V k S T (nI tw) (nI c) = some (nI tw2) ∧ tw2 + 2 = c0 V k S S + c1 V k S S
  | 0, c, tw, T, hT, _, hn, _, h => by
    have := nb_le T
    omega
  | n + 1, c, tw, T, hT, hTS, hn, hw, h => by
    have h24 := nb_le T
    by_cases e : T = S
    · subst e
      refine ⟨tw, ?_, hw⟩
      rw [f_X3_leastByPlaces_b10, if_neg (show ¬ (24 : Int32) ≤ nI c from nI_ge (b := 24) (by omega) (by decide)), if_pos rfl]
    · obtain ⟨t, ht, ht2⟩ := fb_ct_pos.mp (show 0 < nb T by omega)
      obtain ⟨pr, v, g1, g2, g3, g4, g5, g6⟩ := lp_step hS hTA hTD hT hTS ⟨t, ht2⟩ e
      rw [g5 n c tw (by omega)]
      refine lpl_loop hS hTA hTD n (c + 1) (tw + pr) _ (hT.or (I24.one g4)) (fun i hi => ?_) (by rw [nb_add g4 g3]; omega) (by omega) (by omega)
      rcases (add_bt g4 i).mp hi with h | h
      · exact hTS i h
      · rw [h]
        exact g2
theorem lpl_eq (hS : Hang S) (hTA : Sub (V k 2) RT) (hTD : Sub (V k 3) DN) : ∃ tw, f_X3_leastByPlaces V k S = some (nI tw) ∧ tw + 2 = P0 S (V k 2) (V k 3) + P1 S (V k 3) := by
  obtain ⟨p, hp⟩ := isLow.ex hS.1 hS.2.1
  have one : ∀ R D, cT (con (bt S) R D) (bt S) (bt ((1 : Int32) <<< (nI p &&& 31))) = 1 := fun R D => cT_one hS.1 con.rf con_sy con_tr hp.2.1 (fun q => by rw [one_bt hp.1, decide_eq_true_eq])
  rw [f_X3_leastByPlaces, low_bit hp]
  have hn : nb ((1 : Int32) <<< (nI p &&& 31)) = 0 + 1 := by
    refine (ct_one hp.1 (one_self hp.1) (g := fun _ => false) rfl fun i hi hne => ?_).trans ?_
    · rw [one_bt hp.1, decide_eq_false hne]
    · rw [show fb_ct (fun _ => false) 24 = 0 from by decide +kernel]
  obtain ⟨tw, g1, g2⟩ := lpl_loop hS hTA hTD 500 0 0 _ (I24.one hp.1) (fun i hi => by
    rw [one_bt hp.1] at hi
    rw [of_decide_eq_true hi]
    exact hp.2.1) hn (by
    show 0 + 2 = cT _ _ _ + cT _ _ _
    rw [one, one]) (by omega)
  refine ⟨tw, g1, ?_⟩
  rw [g2]
  show cT _ _ _ + cT _ _ _ = _
  rw [cT_all con.rf, cT_all con.rf]
  rfl
end PRIM
