/-! questions -/
def Fq (V V1 : St) : Prop := (∀ k, k ≠ 208 → V1 k = V k) ∧ ∀ j, 1 ≤ j → (j < 17 ∨ 21 < j) → V1 208 j = V 208 j
theorem Fq.rf (V : St) : Fq V V := ⟨fun _ _ => rfl, fun _ _ _ => rfl⟩
theorem Fq.tr {V V1 V2 : St} (h : Fq V V1) (h2 : Fq V1 V2) : Fq V V2 := ⟨fun k a => (h2.1 k a).trans (h.1 k a), fun j a b => (h2.2 j a b).trans (h.2 j a b)⟩
theorem Fq.t (V : St) (x : Int32) : Fq V (up V 208 0 x) := ⟨fun _ h => up_at h, fun j a _ => up_ne _ (fun _ => by omega)⟩
theorem Fq.d (V : St) {j : Nat} (hj : 17 ≤ j ∧ j ≤ 21) (x : Int32) : Fq V (up V 208 j x) := ⟨fun _ h => up_at h, fun i _ hi => up_ne _ (fun _ => by omega)⟩
theorem RR.qq {Vc Vm Vc1 Vm1 : St} (h : RR Vc Vm) (a : F191 Vc Vc1) (b : Fq Vm Vm1) : RR Vc1 Vm1 := by
  obtain ⟨h1, h2, h3, h4, h5, h6, h7⟩ := h
  exact ⟨h1.fr (fun k _ k2 => a k (by omega)) (b.1 209 (by decide)), h2.fr (fun k _ k2 => a k (by omega)) (b.2 5 (by decide) (by decide)) (b.1 212 (by decide)), h3.fr (by rw [a 0 (by decide)]) (fun k _ k2 => a k (by omega)) (b.2 6 (by decide) (by decide)) (b.1 211 (by decide)), h4.fr (by rw [a 192 (by decide)]) (a 193 (by decide)) (b.2 10 (by decide) (by decide)) (b.1 213 (by decide)), h5.fr (by rw [a 205 (by decide)]) (a 206 (by decide)) (b.2 11 (by decide) (by decide)) (b.1 215 (by decide)), h6.fr (a 207 (by decide)) (fun j j1 j2 => b.2 j (by omega) (Or.inl j2)), h7.fr (by rw [a 0 (by decide)]) (b.2 12 (by decide) (by decide))⟩
theorem Ans.ok {L : List (Nat × Int32)} {a t : Int32} (h : t = 0) : Ans L (.ok a) a t := Or.inl ⟨rfl, h⟩
theorem Ans.er {L : List (Nat × Int32)} {n : Nat} {c a t : Int32} (hm : (n, c) ∈ L) (hc : c ≠ 0) (h : t = c) : Ans L (.error n) a t := Or.inr ⟨n, c, rfl, hm, h, hc⟩
theorem q_sim {fc : St → Option ((Except Nat Int32) × St)} {fm : St → Option (Int32 × St)} {L : List (Nat × Int32)} (h : ∀ Vc Vm, SR Vc 1 (Vm 209) → GG (Vm 209) → ∃ res Vc1 a Vm1, fc Vc = some (res, Vc1) ∧ fm Vm = some (a, Vm1) ∧ F191 Vc Vc1 ∧ Fq Vm Vm1 ∧ Ans L res a (Vm1 208 0)) : SIM fc fm L := by
  intro Vc Vm hR
  obtain ⟨res, Vc1, a, Vm1, h1, h2, h3, h4, h5⟩ := h Vc Vm hR.1.1 hR.1.2
  exact ⟨res, Vc1, a, Vm1, h1, h2, hR.qq h3 h4, fun k hk => h3 k (by omega), fun k hk => h4.1 k (by omega), h5⟩
/-- a question that changes nothing of the class's -/
def RO (f : St → Option (Except Nat Int32)) : St → Option ((Except Nat Int32) × St) := fun V => (f V).bind fun r => some (r, V)
theorem q_ro {f : St → Option (Except Nat Int32)} {fm : St → Option (Int32 × St)} {L : List (Nat × Int32)} (h : ∀ Vc Vm, SR Vc 1 (Vm 209) → GG (Vm 209) → ∃ res a Vm1, f Vc = some res ∧ fm Vm = some (a, Vm1) ∧ Fq Vm Vm1 ∧ Ans L res a (Vm1 208 0)) : SIM (RO f) fm L :=
  q_sim fun Vc Vm a b => by
    obtain ⟨res, x, Vm1, h1, h2, h3, h4⟩ := h Vc Vm a b
    exact ⟨res, Vc, x, Vm1, by unfold RO; rw [h1, bs], h2, F191.rf _, h3, h4⟩
theorem s_kindOf (x1 x2 : Int32) : SIM (RO fun V => f_X9_kindOf V x1 x2) (fun V => f_X10_kindOf V x1 x2) [(1, 1)] := by
  refine q_ro fun Vc Vm hS hG => ?_
  have wr : f_X10_kindOf_b19 Vm x1 x2 = some (0, up Vm 208 0 1) := by
    rw [f_X10_kindOf_b19, f_X10_kindOf_b20, up_self, if_neg (by decide)]
  rcases net_cs x1 with ⟨n, hn, rfl, a1, a2⟩ | ⟨a1, a2⟩
  · rcases pl_cs x2 with ⟨p, hp, rfl, b1, b2⟩ | ⟨b1, b2⟩
    · refine ⟨_, kv (bt (Vm 209 (6 + 5 * n)) p) (bt (Vm 209 (6 + 5 * n + 1)) p), up Vm 208 0 0, ?_, ?_, Fq.t _ _, Ans.ok (up_self _ _ _ _)⟩
      · rw [f_X9_kindOf, a1, bs, if_neg (by decide), b1, bs, if_neg (by decide), net_eq _ _ hn, bs, kd_c _ _ hp, bs, hS.2.1 n 0 hn (by decide), hS.2.1 n 1 hn (by decide)]
        rfl
      · rw [f_X10_kindOf, a2, bs, if_neg (by decide), b2, bs, if_neg (by decide), f_X10_kindOf_b20, up_self, if_pos (by decide), kd_m _ hn hp, bs, up_at (by decide)]
    · refine ⟨.error 1, 0, up Vm 208 0 1, ?_, ?_, Fq.t _ _, Ans.er (by simp) (by decide) (up_self _ _ _ _)⟩
      · rw [f_X9_kindOf, a1, bs, if_neg (by decide), b1, bs, if_pos rfl]
        rfl
      · rw [f_X10_kindOf, a2, bs, if_neg (by decide), b2, bs, if_pos rfl, wr]
  · refine ⟨.error 1, 0, up Vm 208 0 1, ?_, ?_, Fq.t _ _, Ans.er (by simp) (by decide) (up_self _ _ _ _)⟩
    · rw [f_X9_kindOf, a1, bs, if_pos rfl]
      rfl
    · rw [f_X10_kindOf, a2, bs, if_pos rfl, wr]
def exb (r : Except Nat Int32) : Except Nat Int32 := match r with
  | .ok x => .ok (if x = 0 then 0 else 1)
  | .error n => .error n
/-! one net's numbers -/
theorem Sub.i24 {x M : Int32} (hM : I24 M) (h : Sub x M) : I24 x := fun i hi => by
  cases e : bt x i
  · rfl
  · have := hM i hi
    rw [h i e] at this
    cases this
def ntn (g : Nat → Int32) (n : Nat) : Nat := nb (g (6 + 5 * n + 2)) + nb (g (6 + 5 * n + 3))
theorem GG.t24 {g : Nat → Int32} (h : GG g) {n : Nat} (hn : n < 3) : I24 (g (6 + 5 * n + 2)) ∧ I24 (g (6 + 5 * n + 3)) := ⟨Sub.i24 RT_24 (h.2.2.2 n hn).2.2.1, Sub.i24 DN_24 (h.2.2.2 n hn).2.2.2.1⟩
theorem ti_m {V : St} {n : Nat} (hn : n < 3) : f_X10_tornIn V (nI n) = some (nI (ntn (V 209) n)) := by
  rw [f_X10_tornIn, show (2 : Int32) = nI 2 from rfl, of_eq V hn (by decide), bs, bits_eq, bs, show (3 : Int32) = nI 3 from rfl, of_eq V hn (by decide), bs, bits_eq, bs, nI_add]
  rfl
theorem ct_c {V : St} {B n : Nat} {g : Nat → Int32} (h : SR V B g) (hg : GG g) (hn : n < 3) : f_X3_countTorn V (B + 4 + n) = some (nI (ntn g n)) := by
  rw [f_X3_countTorn, h.2.1 n 2 hn (by decide), h.2.1 n 3 hn (by decide), bc24 (hg.t24 hn).1, bs, bc24 (hg.t24 hn).2, bs, nI_add]
  rfl
def ntw (g : Nat → Int32) (n : Nat) : Nat := 1 * nb (g (6 + 5 * n + 2)) + 2 * nb (g (6 + 5 * n + 3))
theorem tw_c {V : St} {B n : Nat} {g : Nat → Int32} (h : SR V B g) (hg : GG g) (hn : n < 3) : f_X3_twineForAll V (B + 4 + n) = some (nI (ntw g n)) := by
  rw [f_X3_twineForAll, h.2.1 n 2 hn (by decide), h.2.1 n 3 hn (by decide), bc24 (hg.t24 hn).1, bs, bc24 (hg.t24 hn).2, bs]
  show some (nI 1 * _ + nI 2 * _) = _
  rw [pk_mul, pk_mul, nI_add]
  rfl
/-- behind looksAt -/
theorem lk (V : St) {n : Nat} (hn : n < 3) : ∃ V1, f_X10_looksAt V (nI n) = some V1 ∧ Fq V V1 ∧ V1 208 0 = V 208 0 ∧ V1 209 = V 209 ∧ LK V1 (V 209) n := by
  obtain ⟨V1, h1, h2, h3, h4, h5, h6⟩ := look_eq V hn
  exact ⟨V1, h1, ⟨h2, fun j a b => h3 j (by omega)⟩, h3 0 (by decide), h2 209 (by decide), h4, h5, h6⟩
theorem gr_s {V : St} {B n : Nat} {g : Nat → Int32} (h : SR V B g) (hg : GG g) (hn : n < 3) : ∃ C, f_X3_greatestChapter V (B + 4 + n) (nA V (B + 4 + n)) = some C ∧ I24 C ∧ ∀ U, LK U g n → f_X10_greatest_b12 500 U (U 208 19) 0 = some (nI (nb C), U) := by
  obtain ⟨L, h1, -⟩ := ChL.get (bt (kA g n)) (bt (kR g n)) (bt (kD g n)) (hg.k24 hn)
  have hA : I24 (nA V (B + 4 + n)) := by rw [h.eA hn]; exact hg.k24 hn
  refine ⟨gfold 0 L, gr_eq hA (by rw [h.eA hn, h.eR hn, h.eD hn]; exact h1) Clo.all hA, gfold_I24 I24.zero (fun C hC => ?_), fun U hU => mg_eq (by rw [hU.1]; exact hg.k24 hn) (by rw [hU.1, hU.2.1, hU.2.2]; exact h1)⟩
  obtain ⟨q, q1, q2, q3, -⟩ := ch_mem h1 (hg.k24 hn) Clo.all hC
  exact ch_I24 (hg.k24 hn) q1 q3
theorem s_netOf (x1 x2 : Int32) : SIM (RO fun V => f_X9_netOf V x1 x2) (fun V => f_X10_netOf V x1 x2) [(1, 1), (3, 2)] := by
  refine q_ro fun Vc Vm hS hG => ?_
  rcases net_cs x1 with ⟨n, hn, rfl, a1, a2⟩ | ⟨a1, a2⟩
  · obtain ⟨V0, hV0⟩ : ∃ V0, V0 = up Vm 208 0 0 := ⟨_, rfl⟩
    have h0 : V0 208 0 = 0 := by rw [hV0, up_self]
    have h9 : V0 209 = Vm 209 := by rw [hV0, up_at (by decide)]
    have hF : Fq Vm V0 := by rw [hV0]; exact Fq.t _ _
    have o0 : ∀ w, w < 5 → f_X10_of V0 (nI n) (nI w) = some (Vm 209 (6 + 5 * n + w)) := fun w hw => by rw [of_eq V0 hn hw, h9]
    have hG0 : GG (V0 209) := by rw [h9]; exact hG
    have m1 : f_X10_netOf Vm (nI n) x2 = f_X10_netOf_b13 Vm (nI n) x2 0 := by rw [f_X10_netOf, a2, bs, if_neg (by decide)]
    rw [m1, f_X9_netOf, a1, bs, if_neg (by decide), net_eq _ _ hn, bs, f_X10_netOf_b13, ← hV0, h0, if_pos (show (0 : Int32) ≤ 0 by decide)]
    by_cases e0 : x2 = 0
    · rw [if_pos e0, if_pos e0, kn_eq, bs, hS.eA hn, bc24 (hG.k24 hn), bs, show (0 : Int32) = nI 0 from rfl, o0 0 (by decide), bs, show (1 : Int32) = nI 1 from rfl, o0 1 (by decide), bs, bits_eq, bs]
      exact ⟨_, _, V0, rfl, rfl, hF, Ans.ok h0⟩
    rw [if_neg e0, if_neg e0]
    by_cases e1 : x2 = 1
    · rw [if_pos e1, if_pos e1, kn_eq, bs, dry_c hS hG hn, bs, hS.eA hn, bc24 (I24.andl (hG.k24 hn)), bs, rd_m hG0 hn, bs, h9]
      exact ⟨_, _, V0, rfl, rfl, hF, Ans.ok h0⟩
    rw [if_neg e1, if_neg e1]
    by_cases e2 : x2 = 2
    · rw [if_pos e2, if_pos e2, ct_c hS hG hn, bs, ti_m hn, bs, h9]
      exact ⟨_, _, V0, rfl, rfl, hF, Ans.ok h0⟩
    rw [if_neg e2, if_neg e2]
    by_cases e3 : x2 = 3
    · rw [if_pos e3, if_pos e3, hS.2.1 n 4 hn (by decide), show (4 : Int32) = nI 4 from rfl, o0 4 (by decide), bs]
      exact ⟨_, _, V0, rfl, rfl, hF, Ans.ok h0⟩
    rw [if_neg e3, if_neg e3]
    by_cases e4 : x2 = 4
    · rw [if_pos e4, if_pos e4, uw_c hS hG hn, bs, uw_m hG0 hn, bs, h9]
      exact ⟨_, _, V0, rfl, rfl, hF, Ans.ok h0⟩
    rw [if_neg e4, if_neg e4]
    by_cases e5 : x2 = 5
    · obtain ⟨C, c1, c2, c3⟩ := gr_s hS hG hn
      obtain ⟨V1, d1, d2, d3, d4, d5⟩ := lk V0 hn
      rw [h9] at d5
      rw [if_pos e5, if_pos e5, kn_eq, bs, c1, bs, bc24 c2, bs, f_X10_greatest, d1, bs, c3 V1 d5, bs]
      exact ⟨_, _, V1, rfl, rfl, hF.tr d2, Ans.ok (d3.trans h0)⟩
    rw [if_neg e5, if_neg e5]
    by_cases e6 : x2 = 6
    · rw [if_pos e6, if_pos e6, tw_c hS hG hn, bs, show (2 : Int32) = nI 2 from rfl, o0 2 (by decide), bs, bits_eq, bs, show (3 : Int32) = nI 3 from rfl, o0 3 (by decide), bs, bits_eq, bs, pk_mul, nI_add]
      refine ⟨_, _, V0, rfl, rfl, hF, ?_⟩
      unfold ntw
      rw [Nat.one_mul]
      exact Ans.ok h0
    rw [if_neg e6, if_neg e6]
    exact ⟨.error 3, 0, up V0 208 0 2, rfl, rfl, hF.tr (Fq.t _ _), Ans.er (by simp) (by decide) (up_self _ _ _ _)⟩
  · refine ⟨.error 1, 0, up Vm 208 0 1, ?_, ?_, Fq.t _ _, Ans.er (by simp) (by decide) (up_self _ _ _ _)⟩
    · rw [f_X9_netOf, a1, bs, if_pos rfl]
    · rw [f_X10_netOf, a2, bs, if_pos rfl, f_X10_netOf_b13, up_self, if_neg (by decide)]
theorem cs_s {V : St} {n : Nat} {g : Nat → Int32} (h : SR V 1 g) (hg : GG g) (hn : n < 3) : ∃ V1, f_X3_countChaptersByStrings V (1 + 4 + n) = some (nI (nch g n), V1) ∧ F191 V V1 := by
  obtain ⟨V1, h1, h2⟩ := cs_eq (V := V) (k := 1 + 4 + n) (by omega) (by rw [h.eA hn]; exact hg.k24 hn)
  rw [h.eA hn, h.eR hn, h.eD hn] at h1
  exact ⟨V1, h1, h2⟩
theorem co_m {V : St} {n : Nat} (hg : GG (V 209)) (hn : n < 3) : ∃ V1, f_X10_chaptersOf V (nI n) = some (nI (nch (V 209) n), V1) ∧ Fq V V1 ∧ V1 208 0 = V 208 0 := by
  obtain ⟨V1, d1, d2, d3, d4, d5⟩ := lk V hn
  refine ⟨V1, ?_, d2, d3⟩
  rw [f_X10_chaptersOf, d1, bs, pc_s d5 hg hn, bs]
theorem ch_m {Vm : St} (hG : GG (Vm 209)) (x1 : Int32) : (∃ n V1, n < 3 ∧ x1 = nI n ∧ f_X9_isNet x1 = some 1 ∧ f_X10_chapters Vm x1 = some (nI (nch (Vm 209) n), V1) ∧ Fq Vm V1 ∧ V1 208 0 = 0) ∨ (f_X9_isNet x1 = some 0 ∧ f_X10_chapters Vm x1 = some (0, up Vm 208 0 1)) := by
  rcases net_cs x1 with ⟨n, hn, rfl, a1, a2⟩ | ⟨a1, a2⟩
  · obtain ⟨V1, d1, d2, d3⟩ := co_m (V := up Vm 208 0 0) (by rw [up_at (by decide)]; exact hG) hn
    rw [up_at (show 209 ≠ 208 by decide)] at d1
    refine Or.inl ⟨n, V1, hn, rfl, a1, ?_, (Fq.t _ _).tr d2, d3.trans (up_self _ _ _ _)⟩
    rw [f_X10_chapters, a2, bs, if_neg (by decide), f_X10_chapters_b13, up_self, if_pos (by decide), d1, bs]
  · refine Or.inr ⟨a1, ?_⟩
    rw [f_X10_chapters, a2, bs, if_pos rfl, f_X10_chapters_b13, up_self, if_neg (by decide)]
theorem s_chapters (x1 : Int32) : SIM (RO fun V => f_X9_chapters V x1) (fun V => f_X10_chapters V x1) [(1, 1)] := by
  refine q_ro fun Vc Vm hS hG => ?_
  rcases ch_m hG x1 with ⟨n, V1, hn, rfl, a1, h1, h2, h3⟩ | ⟨a1, h1⟩
  · refine ⟨_, _, V1, ?_, h1, h2, Ans.ok h3⟩
    rw [f_X9_chapters, a1, bs, if_neg (by decide), net_eq _ _ hn, bs, cc_s hS hG hn, bs]
  · refine ⟨.error 1, 0, up Vm 208 0 1, ?_, h1, Fq.t _ _, Ans.er (by simp) (by decide) (up_self _ _ _ _)⟩
    rw [f_X9_chapters, a1, bs, if_pos rfl]
theorem s_chaptersAgain (x1 : Int32) : SIM (fun V => f_X9_chaptersAgain V x1) (fun V => f_X10_chaptersAgain V x1) [(1, 1)] := by
  refine q_sim fun Vc Vm hS hG => ?_
  rcases ch_m hG x1 with ⟨n, V1, hn, rfl, a1, h1, h2, h3⟩ | ⟨a1, h1⟩
  · obtain ⟨Vc1, c1, c2⟩ := cs_s hS hG hn
    refine ⟨.ok (nI (nch (Vm 209) n)), Vc1, nI (nch (Vm 209) n), V1, ?_, ?_, c2, h2, Ans.ok h3⟩
    · rw [f_X9_chaptersAgain, a1, bs, if_neg (by decide), net_eq _ _ hn, bs, c1, bs]
    · rw [f_X10_chaptersAgain, h1, bs]
  · refine ⟨.error 1, Vc, 0, up Vm 208 0 1, ?_, ?_, F191.rf _, Fq.t _ _, Ans.er (by simp) (by decide) (up_self _ _ _ _)⟩
    · rw [f_X9_chaptersAgain, a1, bs, if_pos rfl]
    · rw [f_X10_chaptersAgain, h1, bs]
/-! one chapter -/
theorem chp {V : St} {B n p : Nat} {g : Nat → Int32} (h : SR V B g) (hg : GG g) (hn : n < 3) (hp : p < 24) : (bt (kA g n) p = false ∧ f_X3_chapterAt V (B + 4 + n) (nI p) = some 0) ∨
    (bt (kA g n) p = true ∧ ∃ C, f_X3_chapterAt V (B + 4 + n) (nI p) = some C ∧ ¬ C = 0 ∧ I24 C ∧ Cmp (bt (kA g n)) (bt (kR g n)) (bt (kD g n)) p C ∧ ∀ U, LK U g n → f_X10_together U (nI p) (U 208 19) = some C) := by
  have hA : I24 (nA V (B + 4 + n)) := by rw [h.eA hn]; exact hg.k24 hn
  cases e : bt (kA g n) p
  · exact Or.inl ⟨rfl, chap_0 hp (by rw [h.eA hn]; exact e)⟩
  · obtain ⟨C, c1, c2, c3⟩ := chap_eq hp hA (by rw [h.eA hn]; exact e)
    rw [h.eA hn, h.eR hn, h.eD hn] at c2
    refine Or.inr ⟨rfl, C, c1, fun z => ?_, c3, c2, fun U hU => ?_⟩
    · have := (c2 p (by omega)).mpr (con.rf p)
      rw [z, b_0] at this
      cases this
    · obtain ⟨C2, d1, d2, d3⟩ := tog_eq (V := U) (A := U 208 19) hp (by rw [hU.1]; exact hg.k24 hn) (by rw [hU.1]; exact e)
      rw [hU.1, hU.2.1, hU.2.2] at d2
      rw [d1, c2.one d2]
theorem kz (g : Nat → Int32) (n p : Nat) : kv (bt (g (6 + 5 * n)) p) (bt (g (6 + 5 * n + 1)) p) = 0 ↔ bt (kA g n) p = false := by
  rw [kv_0]
  unfold kA
  rw [b_or]
  cases bt (g (6 + 5 * n)) p <;> cases bt (g (6 + 5 * n + 1)) p <;> simp
theorem s_chapterOf (x1 x2 x3 : Int32) : SIM (RO fun V => f_X9_chapterOf V x1 x2 x3) (fun V => f_X10_chapterOf V x1 x2 x3) [(1, 1), (3, 2), (2, 3)] := by
  refine q_ro fun Vc Vm hS hG => ?_
  have wr : ∀ y, ¬ y ≤ (0 : Int32) → f_X10_chapterOf_b46 Vm x1 x2 x3 y = some (0, up Vm 208 0 y) := fun y hy => by
    rw [f_X10_chapterOf_b46, up_self, if_neg hy]
  rcases net_cs x1 with ⟨n, hn, rfl, a1, a2⟩ | ⟨a1, a2⟩
  · rcases pl_cs x2 with ⟨p, hp, rfl, b1, b2⟩ | ⟨b1, b2⟩
    · rcases rng x3 (n := 4) (by decide) with ⟨j, hj, rfl⟩ | h
      · have c2 : f_X10_in (nI j) 0 3 = some 1 := in_yes (show (j : Int) ≤ 3 by omega) (by omega)
        have c1 : nI j ≤ (3 : Int32) := nI_le (b := 3) (by omega) (by decide)
        rw [f_X9_chapterOf, a1, bs, if_neg (by decide), b1, bs, if_neg (by decide), if_neg (nI_pos (by omega)), if_pos c1, net_eq _ _ hn, bs, f_X10_chapterOf, a2, bs, if_neg (by decide), b2, bs, if_neg (by decide), c2, bs, if_neg (by decide), kd_m _ hn hp, bs]
        rcases chp hS hG hn hp with ⟨e, d1⟩ | ⟨e, C, d1, d2, d3, d4, d5⟩
        · rw [d1, bs, if_pos rfl, if_pos ((kz _ _ _).mpr e), wr 3 (by decide)]
          exact ⟨.error 2, 0, up Vm 208 0 3, rfl, rfl, Fq.t _ _, Ans.er (by simp) (by decide) (up_self _ _ _ _)⟩
        · obtain ⟨V1, u1, u2, u3, u4, u5⟩ := lk (up Vm 208 0 0) hn
          rw [up_at (show 209 ≠ 208 by decide)] at u4 u5
          have hF : Fq Vm V1 := (Fq.t _ _).tr u2
          have h0 : V1 208 0 = 0 := u3.trans (up_self _ _ _ _)
          rw [d1, bs, if_neg d2, if_neg (show ¬ kv (bt (Vm 209 (6 + 5 * n)) p) (bt (Vm 209 (6 + 5 * n + 1)) p) = 0 from fun z => by rw [(kz _ _ _).mp z] at e; cases e), f_X10_chapterOf_b46, up_self, if_pos (show (0 : Int32) ≤ 0 by decide), u1, bs, bs, d5 V1 u5, bs]
          have cj : j = 0 ∨ j = 1 ∨ j = 2 ∨ j = 3 := by omega
          rcases cj with rfl | rfl | rfl | rfl
          · obtain ⟨q, hq⟩ := isLow.ex d3 d2
            rw [if_pos (by decide), if_pos (by decide), lowP_eq hq, bs, lowest_eq hq, bs]
            exact ⟨_, _, V1, rfl, rfl, hF, Ans.ok h0⟩
          · rw [if_neg (by decide), if_pos (by decide), if_neg (by decide), if_pos (by decide), bc24 d3, bs, bits_eq, bs]
            exact ⟨_, _, V1, rfl, rfl, hF, Ans.ok h0⟩
          · rw [if_neg (by decide), if_neg (by decide), if_pos (by decide), if_neg (by decide), if_neg (by decide), if_pos (by decide), dry_c hS hG hn, bs, bc24 (I24.andl d3), bs, dry_m (by rw [u4]; exact hG) hn, bs, bits_eq, bs, u4]
            exact ⟨_, _, V1, rfl, rfl, hF, Ans.ok h0⟩
          · rw [if_neg (by decide), if_neg (by decide), if_neg (by decide), if_neg (by decide), if_neg (by decide), if_neg (by decide), f_X3_countWholeWithin, whA, bs, wi_eq, bs, bc24 (I24.andl (I24.andl d3)), bs, whD, bs, wi_eq, bs, bc24 (I24.andl (I24.andl d3)), bs, bs, bits_eq, bs, bits_eq, bs, u5.2.1, u5.2.2, hS.eR hn, hS.eD hn]
            exact ⟨_, _, V1, rfl, rfl, hF, Ans.ok h0⟩
      · have c2 : f_X10_in x3 0 3 = some 0 := in_no (by rcases h with h | h; exact Or.inl h; exact Or.inr (show (3 : Int) < x3.toInt by omega))
        refine ⟨.error 3, 0, up Vm 208 0 2, ?_, ?_, Fq.t _ _, Ans.er (by simp) (by decide) (up_self _ _ _ _)⟩
        · rw [f_X9_chapterOf, a1, bs, if_neg (by decide), b1, bs, if_neg (by decide)]
          exact out_c (n := 3) rfl h _ _
        · rw [f_X10_chapterOf, a2, bs, if_neg (by decide), b2, bs, if_neg (by decide), c2, bs, if_pos rfl, wr 2 (by decide)]
    · refine ⟨.error 1, 0, up Vm 208 0 1, ?_, ?_, Fq.t _ _, Ans.er (by simp) (by decide) (up_self _ _ _ _)⟩
      · rw [f_X9_chapterOf, a1, bs, if_neg (by decide), b1, bs, if_pos rfl]
        rfl
      · rw [f_X10_chapterOf, a2, bs, if_neg (by decide), b2, bs, if_pos rfl, f_X10_chapterOf_b15, wr 1 (by decide)]
  · refine ⟨.error 1, 0, up Vm 208 0 1, ?_, ?_, Fq.t _ _, Ans.er (by simp) (by decide) (up_self _ _ _ _)⟩
    · rw [f_X9_chapterOf, a1, bs, if_pos rfl]
      rfl
    · rw [f_X10_chapterOf, a2, bs, if_pos rfl, f_X10_chapterOf_b15, wr 1 (by decide)]
