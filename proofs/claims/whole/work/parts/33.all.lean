/-! questions -/
def Fq (V V1 : St) : Prop := (∀ k, k ≠ 208 → V1 k = V k) ∧ ∀ j, 1 ≤ j → (j < 17 ∨ 21 < j) → V1 208 j = V 208 j
theorem Fq.rf (V : St) : Fq V V := ⟨fun _ _ => rfl, fun _ _ _ => rfl⟩
theorem Fq.tr {V V1 V2 : St} (h : Fq V V1) (h2 : Fq V1 V2) : Fq V V2 := ⟨fun k a => (h2.1 k a).trans (h.1 k a), fun j a b => (h2.2 j a b).trans (h.2 j a b)⟩
theorem Fq.t (V : St) (x : Int32) : Fq V (up V 208 0 x) := ⟨fun _ h => up_at h, fun j a _ => up_ne _ (fun _ => by omega)⟩
theorem Fq.d (V : St) {j : Nat} (hj : 17 ≤ j ∧ j ≤ 21) (x : Int32) : Fq V (up V 208 j x) := ⟨fun _ h => up_at h, fun i _ hi => up_ne _ (fun _ => by omega)⟩
theorem RR.qq {Vc Vm Vc1 Vm1 : St} (h : RR Vc Vm) (a : F191 Vc Vc1) (b : Fq Vm Vm1) : RR Vc1 Vm1 := by
  obtain ⟨h1, h2, h3, h4, h5, h6, h7⟩ := h
  exact ⟨h1.fr (fun k _ k2 => a k (by omega)) (b.1 209 (by decide)), h2.fr (fun k _ k2 => a k (by omega)) (b.2 5 (by decide) (by decide)) (b.1 212 (by decide)), h3.fr (by rw [a 0 (by decide)]) (fun k _ k2 => a k (by omega)) (b.2 6 (by decide) (by decide)) (b.1 211 (by decide)), h4.fr (by rw [a 192 (by decide)]) (a 193 (by decide)) (b.2 10 (by decide) (by decide)) (b.1 213 (by decide)), h5.fr (by rw [a 205 (by decide)]) (a 206 (by decide)) (b.2 11 (by decide) (by decide)) (b.1 215 (by decide)), h6.fr (a 207 (by decide)) (fun j j1 j2 => b.2 j (by omega) (Or.inl j2)), h7.fr (by rw [a 0 (by decide)]) (b.2 12 (by decide) (by decide))⟩
theorem Ans.ok {L : List (Nat × Int32)} {a t : Int32} (h : t = 0) : Ans L (.ok a) a t := Or.inl ⟨rfl, h⟩
theorem Ans.er {L : List (Nat × Int32)} {n : Nat} {c a t : Int32} (hm : (n, c) ∈ L) (hc : c ≠ 0) (h : t = c) : Ans L (.error n) a t := Or.inr ⟨n, c, rfl, hm, h, hc⟩
theorem q_sim {fc : St → Option ((Except Nat Int32) × St)} {fm : St → Option (Int32 × St)} {L : List (Nat × Int32)} (h : ∀ Vc Vm, SR Vc 1 (Vm 209) → GG (Vm 209) → ∃ res Vc1 a Vm1, fc Vc = some (res, Vc1) ∧ fm Vm = some (a, Vm1) ∧ F191 Vc Vc1 ∧ Fq Vm Vm1 ∧ Ans L res a (Vm1 208 0)) : SIM fc fm L := by
  intro Vc Vm hR
  obtain ⟨res, Vc1, a, Vm1, h1, h2, h3, h4, h5⟩ := h Vc Vm hR.1.1 hR.1.2
  exact ⟨res, Vc1, a, Vm1, h1, h2, hR.qq h3 h4, fun k hk => h3 k (by omega), fun k hk => h4.1 k (by omega), h5⟩
/-- a question that changes nothing of the class's -/
def RO (f : St → Option (Except Nat Int32)) : St → Option ((Except Nat Int32) × St) := fun V => (f V).bind fun r => some (r, V)
theorem q_ro {f : St → Option (Except Nat Int32)} {fm : St → Option (Int32 × St)} {L : List (Nat × Int32)} (h : ∀ Vc Vm, SR Vc 1 (Vm 209) → GG (Vm 209) → ∃ res a Vm1, f Vc = some res ∧ fm Vm = some (a, Vm1) ∧ Fq Vm Vm1 ∧ Ans L res a (Vm1 208 0)) : SIM (RO f) fm L :=
  q_sim fun Vc Vm a b => by
    obtain ⟨res, x, Vm1, h1, h2, h3, h4⟩ := h Vc Vm a b
    exact ⟨res, Vc, x, Vm1, by unfold RO; rw [h1, bs], h2, F191.rf _, h3, h4⟩
theorem s_kindOf (x1 x2 : Int32) : SIM (RO fun V => f_X9_kindOf V x1 x2) (fun V => f_X10_kindOf V x1 x2) [(1, 1)] := by
  refine q_ro fun Vc Vm hS hG => ?_
  have wr : f_X10_kindOf_b19 Vm x1 x2 = some (0, up Vm 208 0 1) := by
    rw [f_X10_kindOf_b19, f_X10_kindOf_b20, up_self, if_neg (by decide)]
  rcases net_cs x1 with ⟨n, hn, rfl, a1, a2⟩ | ⟨a1, a2⟩
  · rcases pl_cs x2 with ⟨p, hp, rfl, b1, b2⟩ | ⟨b1, b2⟩
    · refine ⟨_, kv (bt (Vm 209 (6 + 5 * n)) p) (bt (Vm 209 (6 + 5 * n + 1)) p), up Vm 208 0 0, ?_, ?_, Fq.t _ _, Ans.ok (up_self _ _ _ _)⟩
      · rw [f_X9_kindOf, a1, bs, if_neg (by decide), b1, bs, if_neg (by decide), net_eq _ _ hn, bs, kd_c _ _ hp, bs, hS.2.1 n 0 hn (by decide), hS.2.1 n 1 hn (by decide)]
        rfl
      · rw [f_X10_kindOf, a2, bs, if_neg (by decide), b2, bs, if_neg (by decide), f_X10_kindOf_b20, up_self, if_pos (by decide), kd_m _ hn hp, bs, up_at (by decide)]
    · refine ⟨.error 1, 0, up Vm 208 0 1, ?_, ?_, Fq.t _ _, Ans.er (by simp) (by decide) (up_self _ _ _ _)⟩
      · rw [f_X9_kindOf, a1, bs, if_neg (by decide), b1, bs, if_pos rfl]
        rfl
      · rw [f_X10_kindOf, a2, bs, if_neg (by decide), b2, bs, if_pos rfl, wr]
  · refine ⟨.error 1, 0, up Vm 208 0 1, ?_, ?_, Fq.t _ _, Ans.er (by simp) (by decide) (up_self _ _ _ _)⟩
    · rw [f_X9_kindOf, a1, bs, if_pos rfl]
      rfl
    · rw [f_X10_kindOf, a2, bs, if_pos rfl, wr]
def exb (r : Except Nat Int32) : Except Nat Int32 := match r with
  | .ok x => .ok (if x = 0 then 0 else 1)
  | .error n => .error n
theorem s_isTorn (x1 x2 x3 : Int32) : SIM (RO fun V => (f_X9_isTorn V x1 x2 x3).bind fun r => some (exb r)) (fun V => (f_X10_isTorn V x1 x2 x3).bind fun q => some (bz q.1, q.2)) [(1, 1), (2, 2)] := by
  refine q_ro fun Vc Vm hS hG => ?_
  have wr : f_X10_isTorn_b22 Vm x1 x2 x3 = some (0, up Vm 208 0 1) := by
    rw [f_X10_isTorn_b22, f_X10_isTorn_b40, up_self, if_neg (by decide)]
  have bad : ∀ o1 o2, o1 = some (.error 1) → o2 = some ((0 : Int32), up Vm 208 0 1) → ∃ (res : Except Nat Int32) (a : Int32) (Vm1 : St), (o1.bind fun r => some (exb r)) = some res ∧ (o2.bind fun q => some (bz q.1, q.2)) = some (a, Vm1) ∧ Fq Vm Vm1 ∧ Ans [(1, 1), (2, 2)] res a (Vm1 208 0) := by
    intro o1 o2 h1 h2
    rw [h1, h2]
    exact ⟨.error 1, 0, up Vm 208 0 1, rfl, rfl, Fq.t _ _, Ans.er (by simp) (by decide) (up_self _ _ _ _)⟩
  rcases net_cs x1 with ⟨n, hn, rfl, a1, a2⟩ | ⟨a1, a2⟩
  · rcases pl_cs x2 with ⟨p, hp, rfl, b1, b2⟩ | ⟨b1, b2⟩
    · rcases pl_cs x3 with ⟨q, hq, rfl, c1, c2⟩ | ⟨c1, c2⟩
      · by_cases h : rw2 p q = 0
        · obtain ⟨h1, h2⟩ := (st_fin ⟨p, hp⟩ ⟨q, hq⟩).1 h
          refine ⟨.error 2, 0, up Vm 208 0 2, ?_, ?_, Fq.t _ _, Ans.er (by simp) (by decide) (up_self _ _ _ _)⟩
          · rw [f_X9_isTorn, a1, bs, if_neg (by decide), b1, bs, if_neg (by decide), c1, bs, if_neg (by decide), h1, bs, if_pos rfl]
            rfl
          · rw [f_X10_isTorn, a2, bs, if_neg (by decide), b2, bs, if_neg (by decide), c2, bs, if_neg (by decide), h2, bs, if_pos rfl, f_X10_isTorn_b40, up_self, if_neg (by decide)]
            rfl
        · obtain ⟨h1, h2, -⟩ := (st_fin ⟨p, hp⟩ ⟨q, hq⟩).2 h
          have hr : rw2 p q < 5 := by rcases row_cs h with e | e <;> omega
          have hm := min_lt (q := q) hp
          refine ⟨_, bI (bt (Vm 209 (6 + 5 * n + rw2 p q)) (min p q)), up Vm 208 0 0, ?_, ?_, Fq.t _ _, Ans.ok (up_self _ _ _ _)⟩
          · rw [f_X9_isTorn, a1, bs, if_neg (by decide), b1, bs, if_neg (by decide), c1, bs, if_neg (by decide), h1, bs, if_neg (by decide), net_eq _ _ hn, bs, tornB _ _ hp hq h, bs, nr_b, bs, bs, hS.2.1 n _ hn hr]
            cases bt (Vm 209 (6 + 5 * n + rw2 p q)) (min p q) <;> rfl
          · have e1 : f_X10_isTorn Vm (nI n) (nI p) (nI q) = f_X10_isTorn_b70 (up Vm 208 0 0) (nI (min p q)) (Vm 209 (6 + 5 * n + rw2 p q)) := by
              rw [f_X10_isTorn, a2, bs, if_neg (by decide), b2, bs, if_neg (by decide), c2, bs, if_neg (by decide), h2, bs, if_neg (by rcases row_cs h with e | e <;> rw [e] <;> decide), f_X10_isTorn_b40, up_self, if_pos rfl, h2, bs, of_eq _ hn hr, bs, up_at (show 209 ≠ 208 by decide)]
              exact low_m hp hq (fun z => f_X10_isTorn_b70 (up Vm 208 0 0) z (Vm 209 (6 + 5 * n + rw2 p q)))
            rw [e1, f_X10_isTorn_b70]
            cases z : bt (Vm 209 (6 + 5 * n + rw2 p q)) (min p q)
            · rw [if_neg (fun e => by rw [(b_tst1 _ (by omega)).mp e] at z; cases z)]
              rfl
            · rw [if_pos ((b_tst1 _ (by omega)).mpr z)]
              rfl
      · refine bad _ _ ?_ ?_
        · rw [f_X9_isTorn, a1, bs, if_neg (by decide), b1, bs, if_neg (by decide), c1, bs, if_pos rfl]
          rfl
        · rw [f_X10_isTorn, a2, bs, if_neg (by decide), b2, bs, if_neg (by decide), c2, bs, if_pos rfl, wr]
    · refine bad _ _ ?_ ?_
      · rw [f_X9_isTorn, a1, bs, if_neg (by decide), b1, bs, if_pos rfl]
        rfl
      · rw [f_X10_isTorn, a2, bs, if_neg (by decide), b2, bs, if_pos rfl, wr]
  · refine bad _ _ ?_ ?_
    · rw [f_X9_isTorn, a1, bs, if_pos rfl]
      rfl
    · rw [f_X10_isTorn, a2, bs, if_pos rfl, wr]
/-! one net's numbers -/
theorem Sub.i24 {x M : Int32} (hM : I24 M) (h : Sub x M) : I24 x := fun i hi => by
  cases e : bt x i
  · rfl
  · have := hM i hi
    rw [h i e] at this
    cases this
def ntn (g : Nat → Int32) (n : Nat) : Nat := nb (g (6 + 5 * n + 2)) + nb (g (6 + 5 * n + 3))
theorem GG.t24 {g : Nat → Int32} (h : GG g) {n : Nat} (hn : n < 3) : I24 (g (6 + 5 * n + 2)) ∧ I24 (g (6 + 5 * n + 3)) := ⟨Sub.i24 RT_24 (h.2.2.2 n hn).2.2.1, Sub.i24 DN_24 (h.2.2.2 n hn).2.2.2.1⟩
theorem ti_m {V : St} {n : Nat} (hn : n < 3) : f_X10_tornIn V (nI n) = some (nI (ntn (V 209) n)) := by
  rw [f_X10_tornIn, show (2 : Int32) = nI 2 from rfl, of_eq V hn (by decide), bs, bits_eq, bs, show (3 : Int32) = nI 3 from rfl, of_eq V hn (by decide), bs, bits_eq, bs, nI_add]
  rfl
theorem ct_c {V : St} {B n : Nat} {g : Nat → Int32} (h : SR V B g) (hg : GG g) (hn : n < 3) : f_X3_countTorn V (B + 4 + n) = some (nI (ntn g n)) := by
  rw [f_X3_countTorn, h.2.1 n 2 hn (by decide), h.2.1 n 3 hn (by decide), bc24 (hg.t24 hn).1, bs, bc24 (hg.t24 hn).2, bs, nI_add]
  rfl
def ntw (g : Nat → Int32) (n : Nat) : Nat := 1 * nb (g (6 + 5 * n + 2)) + 2 * nb (g (6 + 5 * n + 3))
theorem tw_c {V : St} {B n : Nat} {g : Nat → Int32} (h : SR V B g) (hg : GG g) (hn : n < 3) : f_X3_twineForAll V (B + 4 + n) = some (nI (ntw g n)) := by
  rw [f_X3_twineForAll, h.2.1 n 2 hn (by decide), h.2.1 n 3 hn (by decide), bc24 (hg.t24 hn).1, bs, bc24 (hg.t24 hn).2, bs]
  show some (nI 1 * _ + nI 2 * _) = _
  rw [pk_mul, pk_mul, nI_add]
  rfl
/-- behind looksAt -/
theorem lk (V : St) {n : Nat} (hn : n < 3) : ∃ V1, f_X10_looksAt V (nI n) = some V1 ∧ Fq V V1 ∧ V1 208 0 = V 208 0 ∧ V1 209 = V 209 ∧ LK V1 (V 209) n := by
  obtain ⟨V1, h1, h2, h3, h4, h5, h6⟩ := look_eq V hn
  exact ⟨V1, h1, ⟨h2, fun j a b => h3 j (by omega)⟩, h3 0 (by decide), h2 209 (by decide), h4, h5, h6⟩
theorem gr_s {V : St} {B n : Nat} {g : Nat → Int32} (h : SR V B g) (hg : GG g) (hn : n < 3) : ∃ C, f_X3_greatestChapter V (B + 4 + n) (nA V (B + 4 + n)) = some C ∧ I24 C ∧ ∀ U, LK U g n → f_X10_greatest_b12 500 U (U 208 19) 0 = some (nI (nb C), U) := by
  obtain ⟨L, h1, -⟩ := ChL.get (bt (kA g n)) (bt (kR g n)) (bt (kD g n)) (hg.k24 hn)
  have hA : I24 (nA V (B + 4 + n)) := by rw [h.eA hn]; exact hg.k24 hn
  refine ⟨gfold 0 L, gr_eq hA (by rw [h.eA hn, h.eR hn, h.eD hn]; exact h1) Clo.all hA, gfold_I24 I24.zero (fun C hC => ?_), fun U hU => mg_eq (by rw [hU.1]; exact hg.k24 hn) (by rw [hU.1, hU.2.1, hU.2.2]; exact h1)⟩
  obtain ⟨q, q1, q2, q3, -⟩ := ch_mem h1 (hg.k24 hn) Clo.all hC
  exact ch_I24 (hg.k24 hn) q1 q3
theorem s_netOf (x1 x2 : Int32) : SIM (RO fun V => f_X9_netOf V x1 x2) (fun V => f_X10_netOf V x1 x2) [(1, 1), (3, 2)] := by
  refine q_ro fun Vc Vm hS hG => ?_
  rcases net_cs x1 with ⟨n, hn, rfl, a1, a2⟩ | ⟨a1, a2⟩
  · obtain ⟨V0, hV0⟩ : ∃ V0, V0 = up Vm 208 0 0 := ⟨_, rfl⟩
    have h0 : V0 208 0 = 0 := by rw [hV0, up_self]
    have h9 : V0 209 = Vm 209 := by rw [hV0, up_at (by decide)]
    have hF : Fq Vm V0 := by rw [hV0]; exact Fq.t _ _
    have o0 : ∀ w, w < 5 → f_X10_of V0 (nI n) (nI w) = some (Vm 209 (6 + 5 * n + w)) := fun w hw => by rw [of_eq V0 hn hw, h9]
    have hG0 : GG (V0 209) := by rw [h9]; exact hG
    have m1 : f_X10_netOf Vm (nI n) x2 = f_X10_netOf_b13 Vm (nI n) x2 0 := by rw [f_X10_netOf, a2, bs, if_neg (by decide)]
    rw [m1, f_X9_netOf, a1, bs, if_neg (by decide), net_eq _ _ hn, bs, f_X10_netOf_b13, ← hV0, h0, if_pos (show (0 : Int32) ≤ 0 by decide)]
    by_cases e0 : x2 = 0
    · rw [if_pos e0, if_pos e0, kn_eq, bs, hS.eA hn, bc24 (hG.k24 hn), bs, show (0 : Int32) = nI 0 from rfl, o0 0 (by decide), bs, show (1 : Int32) = nI 1 from rfl, o0 1 (by decide), bs, bits_eq, bs]
      exact ⟨_, _, V0, rfl, rfl, hF, Ans.ok h0⟩
    rw [if_neg e0, if_neg e0]
    by_cases e1 : x2 = 1
    · rw [if_pos e1, if_pos e1, kn_eq, bs, dry_c hS hG hn, bs, hS.eA hn, bc24 (I24.andl (hG.k24 hn)), bs, rd_m hG0 hn, bs, h9]
      exact ⟨_, _, V0, rfl, rfl, hF, Ans.ok h0⟩
    rw [if_neg e1, if_neg e1]
    by_cases e2 : x2 = 2
    · rw [if_pos e2, if_pos e2, ct_c hS hG hn, bs, ti_m hn, bs, h9]
      exact ⟨_, _, V0, rfl, rfl, hF, Ans.ok h0⟩
    rw [if_neg e2, if_neg e2]
    by_cases e3 : x2 = 3
    · rw [if_pos e3, if_pos e3, hS.2.1 n 4 hn (by decide), show (4 : Int32) = nI 4 from rfl, o0 4 (by decide), bs]
      exact ⟨_, _, V0, rfl, rfl, hF, Ans.ok h0⟩
    rw [if_neg e3, if_neg e3]
    by_cases e4 : x2 = 4
    · rw [if_pos e4, if_pos e4, uw_c hS hG hn, bs, uw_m hG0 hn, bs, h9]
      exact ⟨_, _, V0, rfl, rfl, hF, Ans.ok h0⟩
    rw [if_neg e4, if_neg e4]
    by_cases e5 : x2 = 5
    · obtain ⟨C, c1, c2, c3⟩ := gr_s hS hG hn
      obtain ⟨V1, d1, d2, d3, d4, d5⟩ := lk V0 hn
      rw [h9] at d5
      rw [if_pos e5, if_pos e5, kn_eq, bs, c1, bs, bc24 c2, bs, f_X10_greatest, d1, bs, c3 V1 d5, bs]
      exact ⟨_, _, V1, rfl, rfl, hF.tr d2, Ans.ok (d3.trans h0)⟩
    rw [if_neg e5, if_neg e5]
    by_cases e6 : x2 = 6
    · rw [if_pos e6, if_pos e6, tw_c hS hG hn, bs, show (2 : Int32) = nI 2 from rfl, o0 2 (by decide), bs, bits_eq, bs, show (3 : Int32) = nI 3 from rfl, o0 3 (by decide), bs, bits_eq, bs, pk_mul, nI_add]
      refine ⟨_, _, V0, rfl, rfl, hF, ?_⟩
      unfold ntw
      rw [Nat.one_mul]
      exact Ans.ok h0
    rw [if_neg e6, if_neg e6]
    exact ⟨.error 3, 0, up V0 208 0 2, rfl, rfl, hF.tr (Fq.t _ _), Ans.er (by simp) (by decide) (up_self _ _ _ _)⟩
  · refine ⟨.error 1, 0, up Vm 208 0 1, ?_, ?_, Fq.t _ _, Ans.er (by simp) (by decide) (up_self _ _ _ _)⟩
    · rw [f_X9_netOf, a1, bs, if_pos rfl]
    · rw [f_X10_netOf, a2, bs, if_pos rfl, f_X10_netOf_b13, up_self, if_neg (by decide)]
theorem cs_s {V : St} {n : Nat} {g : Nat → Int32} (h : SR V 1 g) (hg : GG g) (hn : n < 3) : ∃ V1, f_X3_countChaptersByStrings V (1 + 4 + n) = some (nI (nch g n), V1) ∧ F191 V V1 := by
  obtain ⟨V1, h1, h2⟩ := cs_eq (V := V) (k := 1 + 4 + n) (by omega) (by rw [h.eA hn]; exact hg.k24 hn)
  rw [h.eA hn, h.eR hn, h.eD hn] at h1
  exact ⟨V1, h1, h2⟩
theorem co_m {V : St} {n : Nat} (hg : GG (V 209)) (hn : n < 3) : ∃ V1, f_X10_chaptersOf V (nI n) = some (nI (nch (V 209) n), V1) ∧ Fq V V1 ∧ V1 208 0 = V 208 0 := by
  obtain ⟨V1, d1, d2, d3, d4, d5⟩ := lk V hn
  refine ⟨V1, ?_, d2, d3⟩
  rw [f_X10_chaptersOf, d1, bs, pc_s d5 hg hn, bs]
theorem ch_m {Vm : St} (hG : GG (Vm 209)) (x1 : Int32) : (∃ n V1, n < 3 ∧ x1 = nI n ∧ f_X9_isNet x1 = some 1 ∧ f_X10_chapters Vm x1 = some (nI (nch (Vm 209) n), V1) ∧ Fq Vm V1 ∧ V1 208 0 = 0) ∨ (f_X9_isNet x1 = some 0 ∧ f_X10_chapters Vm x1 = some (0, up Vm 208 0 1)) := by
  rcases net_cs x1 with ⟨n, hn, rfl, a1, a2⟩ | ⟨a1, a2⟩
  · obtain ⟨V1, d1, d2, d3⟩ := co_m (V := up Vm 208 0 0) (by rw [up_at (by decide)]; exact hG) hn
    rw [up_at (show 209 ≠ 208 by decide)] at d1
    refine Or.inl ⟨n, V1, hn, rfl, a1, ?_, (Fq.t _ _).tr d2, d3.trans (up_self _ _ _ _)⟩
    rw [f_X10_chapters, a2, bs, if_neg (by decide), f_X10_chapters_b13, up_self, if_pos (by decide), d1, bs]
  · refine Or.inr ⟨a1, ?_⟩
    rw [f_X10_chapters, a2, bs, if_pos rfl, f_X10_chapters_b13, up_self, if_neg (by decide)]
theorem s_chapters (x1 : Int32) : SIM (RO fun V => f_X9_chapters V x1) (fun V => f_X10_chapters V x1) [(1, 1)] := by
  refine q_ro fun Vc Vm hS hG => ?_
  rcases ch_m hG x1 with ⟨n, V1, hn, rfl, a1, h1, h2, h3⟩ | ⟨a1, h1⟩
  · refine ⟨_, _, V1, ?_, h1, h2, Ans.ok h3⟩
    rw [f_X9_chapters, a1, bs, if_neg (by decide), net_eq _ _ hn, bs, cc_s hS hG hn, bs]
  · refine ⟨.error 1, 0, up Vm 208 0 1, ?_, h1, Fq.t _ _, Ans.er (by simp) (by decide) (up_self _ _ _ _)⟩
    rw [f_X9_chapters, a1, bs, if_pos rfl]
theorem s_chaptersAgain (x1 : Int32) : SIM (fun V => f_X9_chaptersAgain V x1) (fun V => f_X10_chaptersAgain V x1) [(1, 1)] := by
  refine q_sim fun Vc Vm hS hG => ?_
  rcases ch_m hG x1 with ⟨n, V1, hn, rfl, a1, h1, h2, h3⟩ | ⟨a1, h1⟩
  · obtain ⟨Vc1, c1, c2⟩ := cs_s hS hG hn
    refine ⟨.ok (nI (nch (Vm 209) n)), Vc1, nI (nch (Vm 209) n), V1, ?_, ?_, c2, h2, Ans.ok h3⟩
    · rw [f_X9_chaptersAgain, a1, bs, if_neg (by decide), net_eq _ _ hn, bs, c1, bs]
    · rw [f_X10_chaptersAgain, h1, bs]
  · refine ⟨.error 1, Vc, 0, up Vm 208 0 1, ?_, ?_, F191.rf _, Fq.t _ _, Ans.er (by simp) (by decide) (up_self _ _ _ _)⟩
    · rw [f_X9_chaptersAgain, a1, bs, if_pos rfl]
    · rw [f_X10_chaptersAgain, h1, bs]
/-! one chapter -/
theorem chp {V : St} {B n p : Nat} {g : Nat → Int32} (h : SR V B g) (hg : GG g) (hn : n < 3) (hp : p < 24) : (bt (kA g n) p = false ∧ f_X3_chapterAt V (B + 4 + n) (nI p) = some 0) ∨
    (bt (kA g n) p = true ∧ ∃ C, f_X3_chapterAt V (B + 4 + n) (nI p) = some C ∧ ¬ C = 0 ∧ I24 C ∧ Cmp (bt (kA g n)) (bt (kR g n)) (bt (kD g n)) p C ∧ ∀ U, LK U g n → f_X10_together U (nI p) (U 208 19) = some C) := by
  have hA : I24 (nA V (B + 4 + n)) := by rw [h.eA hn]; exact hg.k24 hn
  cases e : bt (kA g n) p
  · exact Or.inl ⟨rfl, chap_0 hp (by rw [h.eA hn]; exact e)⟩
  · obtain ⟨C, c1, c2, c3⟩ := chap_eq hp hA (by rw [h.eA hn]; exact e)
    rw [h.eA hn, h.eR hn, h.eD hn] at c2
    refine Or.inr ⟨rfl, C, c1, fun z => ?_, c3, c2, fun U hU => ?_⟩
    · have := (c2 p (by omega)).mpr (con.rf p)
      rw [z, b_0] at this
      cases this
    · obtain ⟨C2, d1, d2, d3⟩ := tog_eq (V := U) (A := U 208 19) hp (by rw [hU.1]; exact hg.k24 hn) (by rw [hU.1]; exact e)
      rw [hU.1, hU.2.1, hU.2.2] at d2
      rw [d1, c2.one d2]
theorem kz (g : Nat → Int32) (n p : Nat) : kv (bt (g (6 + 5 * n)) p) (bt (g (6 + 5 * n + 1)) p) = 0 ↔ bt (kA g n) p = false := by
  rw [kv_0]
  unfold kA
  rw [b_or]
  cases bt (g (6 + 5 * n)) p <;> cases bt (g (6 + 5 * n + 1)) p <;> simp
theorem s_chapterOf (x1 x2 x3 : Int32) : SIM (RO fun V => f_X9_chapterOf V x1 x2 x3) (fun V => f_X10_chapterOf V x1 x2 x3) [(1, 1), (3, 2), (2, 3)] := by
  refine q_ro fun Vc Vm hS hG => ?_
  have wr : ∀ y, ¬ y ≤ (0 : Int32) → f_X10_chapterOf_b46 Vm x1 x2 x3 y = some (0, up Vm 208 0 y) := fun y hy => by
    rw [f_X10_chapterOf_b46, up_self, if_neg hy]
  rcases net_cs x1 with ⟨n, hn, rfl, a1, a2⟩ | ⟨a1, a2⟩
  · rcases pl_cs x2 with ⟨p, hp, rfl, b1, b2⟩ | ⟨b1, b2⟩
    · rcases rng x3 (n := 4) (by decide) with ⟨j, hj, rfl⟩ | h
      · have c2 : f_X10_in (nI j) 0 3 = some 1 := in_yes (show (j : Int) ≤ 3 by omega) (by omega)
        have c1 : nI j ≤ (3 : Int32) := nI_le (b := 3) (by omega) (by decide)
        rw [f_X9_chapterOf, a1, bs, if_neg (by decide), b1, bs, if_neg (by decide), if_neg (nI_pos (by omega)), if_pos c1, net_eq _ _ hn, bs, f_X10_chapterOf, a2, bs, if_neg (by decide), b2, bs, if_neg (by decide), c2, bs, if_neg (by decide), kd_m _ hn hp, bs]
        rcases chp hS hG hn hp with ⟨e, d1⟩ | ⟨e, C, d1, d2, d3, d4, d5⟩
        · rw [d1, bs, if_pos rfl, if_pos ((kz _ _ _).mpr e), wr 3 (by decide)]
          exact ⟨.error 2, 0, up Vm 208 0 3, rfl, rfl, Fq.t _ _, Ans.er (by simp) (by decide) (up_self _ _ _ _)⟩
        · obtain ⟨V1, u1, u2, u3, u4, u5⟩ := lk (up Vm 208 0 0) hn
          rw [up_at (show 209 ≠ 208 by decide)] at u4 u5
          have hF : Fq Vm V1 := (Fq.t _ _).tr u2
          have h0 : V1 208 0 = 0 := u3.trans (up_self _ _ _ _)
          rw [d1, bs, if_neg d2, if_neg (show ¬ kv (bt (Vm 209 (6 + 5 * n)) p) (bt (Vm 209 (6 + 5 * n + 1)) p) = 0 from fun z => by rw [(kz _ _ _).mp z] at e; cases e), f_X10_chapterOf_b46, up_self, if_pos (show (0 : Int32) ≤ 0 by decide), u1, bs, bs, d5 V1 u5, bs]
          have cj : j = 0 ∨ j = 1 ∨ j = 2 ∨ j = 3 := by omega
          rcases cj with rfl | rfl | rfl | rfl
          · obtain ⟨q, hq⟩ := isLow.ex d3 d2
            rw [if_pos (by decide), if_pos (by decide), lowP_eq hq, bs, lowest_eq hq, bs]
            exact ⟨_, _, V1, rfl, rfl, hF, Ans.ok h0⟩
          · rw [if_neg (by decide), if_pos (by decide), if_neg (by decide), if_pos (by decide), bc24 d3, bs, bits_eq, bs]
            exact ⟨_, _, V1, rfl, rfl, hF, Ans.ok h0⟩
          · rw [if_neg (by decide), if_neg (by decide), if_pos (by decide), if_neg (by decide), if_neg (by decide), if_pos (by decide), dry_c hS hG hn, bs, bc24 (I24.andl d3), bs, dry_m (by rw [u4]; exact hG) hn, bs, bits_eq, bs, u4]
            exact ⟨_, _, V1, rfl, rfl, hF, Ans.ok h0⟩
          · rw [if_neg (by decide), if_neg (by decide), if_neg (by decide), if_neg (by decide), if_neg (by decide), if_neg (by decide), f_X3_countWholeWithin, whA, bs, wi_eq, bs, bc24 (I24.andl (I24.andl d3)), bs, whD, bs, wi_eq, bs, bc24 (I24.andl (I24.andl d3)), bs, bs, bits_eq, bs, bits_eq, bs, u5.2.1, u5.2.2, hS.eR hn, hS.eD hn]
            exact ⟨_, _, V1, rfl, rfl, hF, Ans.ok h0⟩
      · have c2 : f_X10_in x3 0 3 = some 0 := in_no (by rcases h with h | h; exact Or.inl h; exact Or.inr (show (3 : Int) < x3.toInt by omega))
        refine ⟨.error 3, 0, up Vm 208 0 2, ?_, ?_, Fq.t _ _, Ans.er (by simp) (by decide) (up_self _ _ _ _)⟩
        · rw [f_X9_chapterOf, a1, bs, if_neg (by decide), b1, bs, if_neg (by decide)]
          exact out_c (n := 3) rfl h _ _
        · rw [f_X10_chapterOf, a2, bs, if_neg (by decide), b2, bs, if_neg (by decide), c2, bs, if_pos rfl, wr 2 (by decide)]
    · refine ⟨.error 1, 0, up Vm 208 0 1, ?_, ?_, Fq.t _ _, Ans.er (by simp) (by decide) (up_self _ _ _ _)⟩
      · rw [f_X9_chapterOf, a1, bs, if_neg (by decide), b1, bs, if_pos rfl]
        rfl
      · rw [f_X10_chapterOf, a2, bs, if_neg (by decide), b2, bs, if_pos rfl, f_X10_chapterOf_b15, wr 1 (by decide)]
  · refine ⟨.error 1, 0, up Vm 208 0 1, ?_, ?_, Fq.t _ _, Ans.er (by simp) (by decide) (up_self _ _ _ _)⟩
    · rw [f_X9_chapterOf, a1, bs, if_pos rfl]
      rfl
    · rw [f_X10_chapterOf, a2, bs, if_pos rfl, f_X10_chapterOf_b15, wr 1 (by decide)]
/-! notes: what they keep, whether they read so, how little would do -/
theorem isOf_eq (V : St) (k0 k1 : Nat) (x : Int32) : f_X4_isOf V k0 k1 x = some (bI (decide (V k1 0 &&& x = V k0 1) && decide (V k1 1 &&& x = V k0 2))) := by
  rw [f_X4_isOf]
  by_cases a : V k1 0 &&& x = V k0 1
  · by_cases b : V k1 1 &&& x = V k0 2
    · rw [if_pos a, if_pos b, decide_eq_true a, decide_eq_true b]
      rfl
    · rw [if_pos a, if_neg b, decide_eq_true a, decide_eq_false b]
      rfl
  · rw [if_neg a, decide_eq_false a]
    rfl
/-- the note k of a state: net n, places S, kinds y and z -/
def NT (V : St) (g : Nat → Int32) (k n : Nat) (S y z : Int32) : Prop := n < 3 ∧ k < 6 ∧ g (29 + 4 * k) = nI n ∧ g (29 + 4 * k + 1) = S ∧ g (29 + 4 * k + 2) = y ∧ g (29 + 4 * k + 3) = z ∧ S = y ||| z ∧ Hang S ∧ V (1 + 11 + k) 0 = nI n ∧ V (1 + 11 + k) 1 = y ∧ V (1 + 11 + k) 2 = z
theorem nts {V : St} {g : Nat → Int32} (hS : SR V 1 g) (hg : GG g) {m k : Nat} (hm6 : m ≤ 6) (hm : g 2 = nI m) (hk : k < m) : ∃ n S y z, NT V g k n S y z := by
  obtain ⟨m', m1, m2, m3⟩ := hg.2.2.1
  have e : m' = m := by
    rw [hm] at m2
    exact ((nI_eq (by omega) (by omega)).mp m2).symm
  subst e
  obtain ⟨n, n1, n2, n3, n4⟩ := m3 k hk
  obtain ⟨h0, h1, h2⟩ := hS.2.2.2 k (by omega) (by rw [hm, nI_clamp (by omega)]; exact hk)
  exact ⟨n, _, _, _, n1, by omega, n2, rfl, rfl, rfl, n3, n4, h0.trans n2, h1, h2⟩
def hkB (g : Nat → Int32) (n : Nat) (S y z : Int32) : Bool := decide (g (6 + 5 * n) &&& S = y) && decide (g (6 + 5 * n + 1) &&& S = z)
theorem hk_m {V U : St} {k n : Nat} {S y z : Int32} (h : NT V (U 209) k n S y z) : f_X10_hasKinds U (nI k) = some (bI (hkB (U 209) n S y z)) := by
  obtain ⟨n1, k6, h0, h1, h2, h3, -⟩ := h
  have o := fun (w : Nat) (hw : w < 4) => on_eq U k6 hw
  have f := fun (w : Nat) (hw : w < 5) => of_eq U n1 hw
  have o0 : f_X10_ofNote U (nI k) 0 = some (nI n) := (o 0 (by decide)).trans (by rw [Nat.add_zero, h0])
  have o1 : f_X10_ofNote U (nI k) 1 = some S := (o 1 (by decide)).trans (by rw [h1])
  have o2 : f_X10_ofNote U (nI k) 2 = some y := (o 2 (by decide)).trans (by rw [h2])
  have o3 : f_X10_ofNote U (nI k) 3 = some z := (o 3 (by decide)).trans (by rw [h3])
  have f0 : f_X10_of U (nI n) 0 = some (U 209 (6 + 5 * n)) := f 0 (by decide)
  have f1 : f_X10_of U (nI n) 1 = some (U 209 (6 + 5 * n + 1)) := f 1 (by decide)
  rw [f_X10_hasKinds, o0, bs, o1, bs, f0, bs, o2, bs]
  unfold hkB
  by_cases a : U 209 (6 + 5 * n) &&& S = y
  · rw [if_pos a, f1, bs, o3, bs]
    by_cases b : U 209 (6 + 5 * n + 1) &&& S = z
    · rw [if_pos b, decide_eq_true a, decide_eq_true b]
      rfl
    · rw [if_neg b, decide_eq_true a, decide_eq_false b]
      rfl
  · rw [if_neg a, decide_eq_false a]
    rfl
theorem and_or_bit {o h S y z : Int32} (h1 : o &&& S = y) (h2 : h &&& S = z) (i : Nat) : bt (y ||| z) i = (bt (o ||| h) i && bt S i) := by
  rw [← h1, ← h2, b_or, b_and, b_and, b_or]
  cases bt o i <;> cases bt h i <;> cases bt S i <;> rfl
/-- whether the note's chapter reads as noted -/
theorem rdn {V : St} {g : Nat → Int32} (hS : SR V 1 g) (hg : GG g) {k n : Nat} {S y z : Int32} (h : NT V g k n S y z) : ∃ b : Bool, f_X8_readsAsNoted V 1 (1 + 11 + k) = some (bI b) ∧ ∀ U : St, U 209 = g → ∃ U1, f_X10_readsSo U (nI k) = some (bI b, U1) ∧ Fq U U1 ∧ U1 208 0 = U 208 0 ∧ U1 209 = g := by
  obtain ⟨n1, k6, h0, h1, h2, h3, h4, h5, h6, h7, h8⟩ := id h
  obtain ⟨p, hp⟩ := isLow.ex h5.1 h5.2.1
  have n0 : V (1 + 4 + n) 0 = g (6 + 5 * n) := hS.2.1 n 0 n1 (by decide)
  have n11 : V (1 + 4 + n) 1 = g (6 + 5 * n + 1) := hS.2.1 n 1 n1 (by decide)
  have ec : ∀ C b, f_X3_chapterAt V (1 + 4 + n) (nI p) = some C → (decide (g (6 + 5 * n) &&& C = y) && decide (g (6 + 5 * n + 1) &&& C = z)) = b → f_X8_readsAsNoted V 1 (1 + 11 + k) = some (bI b) := by
    intro C b hC hb
    rw [f_X8_readsAsNoted, h6, net_eq _ _ n1, bs, f_X4_places, h7, h8, ← h4, bs, lowP_eq hp, bs, hC, bs, isOf_eq, n0, n11, h7, h8, hb, bs, nr_b, bs]
  by_cases q : g (6 + 5 * n) &&& S = y ∧ g (6 + 5 * n + 1) &&& S = z
  · have hq : hkB g n S y z = true := by
      unfold hkB
      rw [decide_eq_true q.1, decide_eq_true q.2]
      rfl
    have hSA : ∀ i, bt S i = true → bt (kA g n) i = true := fun i hi => by
      have := and_or_bit q.1 q.2 i
      rw [← h4, hi, Bool.and_true] at this
      exact this.symm
    rcases chp hS hg n1 hp.1 with ⟨e, -⟩ | ⟨e, C, d1, d2, d3, d4, d5⟩
    · rw [hSA p hp.2.1] at e
      cases e
    · refine ⟨decide (C = S), ec C _ d1 ?_, fun U hU => ?_⟩
      · have hCA : ∀ i, i < 32 → bt C i = true → bt (kA g n) i = true := fun i hi hc => con.inA ((d4 i hi).mp hc) e
        by_cases c : C = S
        · rw [decide_eq_true c, c, decide_eq_true q.1, decide_eq_true q.2]
          rfl
        · rw [decide_eq_false c]
          cases z1 : decide (g (6 + 5 * n) &&& C = y)
          · rfl
          · cases z2 : decide (g (6 + 5 * n + 1) &&& C = z)
            · rfl
            · refine absurd (b_ext fun i hi => ?_) c
              have := and_or_bit (of_decide_eq_true z1) (of_decide_eq_true z2) i
              rw [← h4] at this
              rw [this]
              show bt C i = (bt (kA g n) i && bt C i)
              cases w : bt C i
              · rw [Bool.and_false]
              · rw [hCA i hi w]
                rfl
      · subst hU
        obtain ⟨U1, u1, u2, u3, u4, u5⟩ := lk U n1
        have o : ∀ U2 : St, U2 209 = U 209 → f_X10_ofNote U2 (nI k) 0 = some (nI n) ∧ f_X10_ofNote U2 (nI k) 1 = some S := fun U2 e2 =>
          ⟨(on_eq U2 k6 (show 0 < 4 by decide)).trans (by rw [Nat.add_zero, e2, h0]), (on_eq U2 k6 (show 1 < 4 by decide)).trans (by rw [e2, h1])⟩
        refine ⟨U1, ?_, u2, u3, u4⟩
        rw [f_X10_readsSo, hk_m h, bs, hq, if_neg (by decide), (o U rfl).1, bs, u1, bs, (o U1 u4).2, bs, lowest_eq hp, bs, d5 U1 u5, bs, bs]
        by_cases c : C = S
        · rw [if_pos c, decide_eq_true c]
          rfl
        · rw [if_neg c, decide_eq_false c]
          rfl
  · have hq : hkB g n S y z = false := by
      unfold hkB
      by_cases q1 : g (6 + 5 * n) &&& S = y
      · rw [decide_eq_true q1, decide_eq_false (fun q2 => q ⟨q1, q2⟩)]
        rfl
      · rw [decide_eq_false q1]
        rfl
    have mU : ∀ U : St, U 209 = g → ∃ U1, f_X10_readsSo U (nI k) = some (bI false, U1) ∧ Fq U U1 ∧ U1 208 0 = U 208 0 ∧ U1 209 = g := by
      intro U hU
      subst hU
      refine ⟨U, ?_, Fq.rf _, rfl, rfl⟩
      rw [f_X10_readsSo, hk_m h, bs, hq, if_pos (by decide)]
      rfl
    rcases chp hS hg n1 hp.1 with ⟨e, d1⟩ | ⟨e, C, d1, d2, d3, d4, d5⟩
    · refine ⟨false, ec 0 _ d1 ?_, mU⟩
      cases z1 : decide (g (6 + 5 * n) &&& (0 : Int32) = y)
      · rfl
      · cases z2 : decide (g (6 + 5 * n + 1) &&& (0 : Int32) = z)
        · rfl
        · have := and_or_bit (of_decide_eq_true z1) (of_decide_eq_true z2) p
          rw [← h4, hp.2.1, b_0, Bool.and_false] at this
          cases this
    · refine ⟨false, ec C _ d1 ?_, mU⟩
      have hCA : ∀ i, i < 32 → bt C i = true → bt (kA g n) i = true := fun i hi hc => con.inA ((d4 i hi).mp hc) e
      cases z1 : decide (g (6 + 5 * n) &&& C = y)
      · rfl
      · cases z2 : decide (g (6 + 5 * n + 1) &&& C = z)
        · rfl
        · refine absurd ?_ q
          have ce : C = S := b_ext fun i hi => by
            have := and_or_bit (of_decide_eq_true z1) (of_decide_eq_true z2) i
            rw [← h4] at this
            rw [this]
            show bt C i = (bt (kA g n) i && bt C i)
            cases w : bt C i
            · rw [Bool.and_false]
            · rw [hCA i hi w]
              rfl
          rw [← ce]
          exact ⟨of_decide_eq_true z1, of_decide_eq_true z2⟩
/-- one of the notes, as class and model ask for it -/
theorem nt_cs {Vc Vm : St} (hS : SR Vc 1 (Vm 209)) (hG : GG (Vm 209)) (x : Int32) : (∃ k n S y z, x = nI k ∧ NT Vc (Vm 209) k n S y z ∧ f_X8_hasNote Vc 1 x = some 1 ∧ f_X10_isNote Vm x = some 1 ∧ f_X8_noteNumbered Vc 1 x = some (1 + 11 + k)) ∨ (f_X8_hasNote Vc 1 x = some 0 ∧ f_X10_isNote Vm x = some 0) := by
  obtain ⟨m, m6, hm, -⟩ := hG.2.2.1
  have hV4 : Vc 1 4 = nI m := by rw [hS.1.2.2.1, hm]
  have b1 := nr_b true
  have b0 := nr_b false
  have b1 : nr .boolean 1 = some (1 : Int32) := b1
  have b0 : nr .boolean 0 = some (0 : Int32) := b0
  rcases cnt_cs x (n := m) (by omega) with ⟨k, hk, rfl, d2⟩ | ⟨d2, d3⟩
  · obtain ⟨n, S, y, z, h⟩ := nts hS hG m6 hm hk
    refine Or.inl ⟨k, n, S, y, z, rfl, h, hn_yes hV4 hk (by omega), ?_, no_eq _ _ h.2.1⟩
    rw [f_X10_isNote, hm, d2, bs, b1, bs]
  · refine Or.inr ⟨hn_no hV4 d3, ?_⟩
    rw [f_X10_isNote, hm, d2, bs, b0, bs]
theorem s_noteOf (x1 x2 : Int32) : SIM (RO fun V => f_X9_noteOf V x1 x2) (fun V => f_X10_noteOf V x1 x2) [(1, 1), (3, 2)] := by
  refine q_ro fun Vc Vm hS hG => ?_
  rcases nt_cs hS hG x1 with ⟨k, n, S, y, z, rfl, h, a1, a2, a3⟩ | ⟨a1, a2⟩
  · obtain ⟨V0, hV0⟩ : ∃ V0, V0 = up Vm 208 0 0 := ⟨_, rfl⟩
    have h0 : V0 208 0 = 0 := by rw [hV0, up_self]
    have h9 : V0 209 = Vm 209 := by rw [hV0, up_at (by decide)]
    have hF : Fq Vm V0 := by rw [hV0]; exact Fq.t _ _
    obtain ⟨n1, k6, g0, g1, g2, g3, g4, g5, g6, g7, g8⟩ := id h
    have o0 : f_X10_ofNote V0 (nI k) 0 = some (nI n) := (on_eq V0 k6 (show 0 < 4 by decide)).trans (by rw [Nat.add_zero, h9, g0])
    have o1 : f_X10_ofNote V0 (nI k) 1 = some S := (on_eq V0 k6 (show 1 < 4 by decide)).trans (by rw [h9, g1])
    have m1 : f_X10_noteOf Vm (nI k) x2 = f_X10_noteOf_b14 Vm (nI k) x2 0 := by rw [f_X10_noteOf, a2, bs, if_neg (by decide)]
    have pl : f_X4_places Vc (1 + 11 + k) = some S := by rw [f_X4_places, g7, g8, g4]
    rw [m1, f_X9_noteOf, a1, bs, if_neg (by decide), a3, bs, f_X10_noteOf_b14, ← hV0, h0, if_pos (show (0 : Int32) ≤ 0 by decide)]
    by_cases e0 : x2 = 0
    · rw [if_pos e0, if_pos e0, g6, o0, bs]
      exact ⟨_, _, V0, rfl, rfl, hF, Ans.ok h0⟩
    rw [if_neg e0, if_neg e0]
    by_cases e1 : x2 = 1
    · obtain ⟨p, hp⟩ := isLow.ex g5.1 g5.2.1
      rw [if_pos e1, if_pos e1, pl, bs, lowP_eq hp, bs, o1, bs, lowest_eq hp, bs]
      exact ⟨_, _, V0, rfl, rfl, hF, Ans.ok h0⟩
    rw [if_neg e1, if_neg e1]
    by_cases e2 : x2 = 2
    · rw [if_pos e2, if_pos e2, pl, bs, bc24 g5.1, bs, o1, bs, bits_eq, bs]
      exact ⟨_, _, V0, rfl, rfl, hF, Ans.ok h0⟩
    rw [if_neg e2, if_neg e2]
    by_cases e3 : x2 = 3
    · obtain ⟨b, b1, b2⟩ := rdn hS hG h
      obtain ⟨U1, u1, u2, u3, -⟩ := b2 V0 h9
      rw [if_pos e3, if_pos e3, b1, bs, u1, bs]
      refine ⟨.ok (bI b), bI b, U1, ?_, ?_, hF.tr u2, Ans.ok (u3.trans h0)⟩
      · cases b <;> rfl
      · cases b <;> rfl
    rw [if_neg e3, if_neg e3]
    exact ⟨.error 3, 0, up V0 208 0 2, rfl, rfl, hF.tr (Fq.t _ _), Ans.er (by simp) (by decide) (up_self _ _ _ _)⟩
  · refine ⟨.error 1, 0, up Vm 208 0 1, ?_, ?_, Fq.t _ _, Ans.er (by simp) (by decide) (up_self _ _ _ _)⟩
    · rw [f_X9_noteOf, a1, bs, if_pos rfl]
    · rw [f_X10_noteOf, a2, bs, if_pos rfl, f_X10_noteOf_b14, up_self, if_neg (by decide)]
/-! how little twine would do -/
theorem out_S (S b A : Int32) : ((S ||| b) &&& A) &&& (S ^^^ (-1)) = (b &&& A) &&& (S ^^^ (-1)) := b_ext fun i hi => by
  rw [b_and, b_and, b_and, b_and, b_or, b_not S hi]
  cases bt S i <;> cases bt b i <;> cases bt A i <;> rfl
theorem P0_le (S TA TD : Int32) : P0 S TA TD ≤ 24 := fb_ct_le _ _
theorem P1_le (S TD : Int32) : P1 S TD ≤ 24 := fb_ct_le _ _
theorem m1_ne {n : Nat} (h : n < 2 ^ 31) : ¬ nI n = -1 := fun e => nI_pos h (by rw [e]; decide)
/-- what the note k would take, by the three ways; none where it can't be mended -/
theorem ltl {Vc : St} {g : Nat → Int32} (hS : SR Vc 1 g) (hg : GG g) {k n : Nat} {S y z : Int32} (h : NT Vc g k n S y z) :
    (f_X8_canBeMended Vc 1 (1 + 11 + k) = some 0 ∧ ∀ U : St, U 209 = g → ∃ U1, f_X10_little U (nI k) = some (-1, U1) ∧ Fq U U1 ∧ U1 208 0 = U 208 0) ∨
    (∃ t V1, t < 100 ∧ f_X8_canBeMended Vc 1 (1 + 11 + k) = some 1 ∧ f_X8_leastByStrings Vc 1 (1 + 11 + k) = some (nI t, V1) ∧ F191 Vc V1 ∧ f_X8_leastByPlaces Vc 1 (1 + 11 + k) = some (nI t) ∧ ∀ U : St, U 209 = g → ∃ U1, f_X10_little U (nI k) = some (nI t, U1) ∧ Fq U U1 ∧ U1 208 0 = U 208 0) := by
  obtain ⟨n1, k6, g0, g1, g2, g3, g4, g5, g6, g7, g8⟩ := id h
  have n0 : Vc (1 + 4 + n) 0 = g (6 + 5 * n) := hS.2.1 n 0 n1 (by decide)
  have n11 : Vc (1 + 4 + n) 1 = g (6 + 5 * n + 1) := hS.2.1 n 1 n1 (by decide)
  have pl : f_X4_places Vc (1 + 11 + k) = some S := by rw [f_X4_places, g7, g8, g4]
  have is0 : f_X4_isOf Vc (1 + 11 + k) (1 + 4 + n) S = some (bI (hkB g n S y z)) := by
    rw [isOf_eq, n0, n11, g7, g8]
    rfl
  have o : ∀ U2 : St, U2 209 = g → f_X10_ofNote U2 (nI k) 0 = some (nI n) ∧ f_X10_ofNote U2 (nI k) 1 = some S := fun U2 e2 =>
    ⟨(on_eq U2 k6 (show 0 < 4 by decide)).trans (by rw [Nat.add_zero, e2, g0]), (on_eq U2 k6 (show 1 < 4 by decide)).trans (by rw [e2, g1])⟩
  cases hq : hkB g n S y z
  · refine Or.inl ⟨?_, fun U hU => ?_⟩
    · rw [f_X8_canBeMended, g6, net_eq _ _ n1, bs, pl, bs, is0, bs, hq, if_pos (by decide)]
    · subst hU
      refine ⟨U, ?_, Fq.rf _, rfl⟩
      rw [f_X10_little, hk_m h, bs, hq, if_pos (by decide)]
  · obtain ⟨b, hb⟩ : ∃ b, b = bsd S (kR g n) (kD g n) := ⟨_, rfl⟩
    by_cases c : (b &&& kA g n) &&& (S ^^^ (-1)) = 0
    · have hTA : Sub (Vc (1 + 4 + n) 2) RT := by rw [hS.2.1 n 2 n1 (by decide)]; exact (hg.2.2.2 n n1).2.2.1
      have hTD : Sub (Vc (1 + 4 + n) 3) DN := by rw [hS.2.1 n 3 n1 (by decide)]; exact (hg.2.2.2 n n1).2.2.2.1
      obtain ⟨V1, j1, j2, l1, l2, l3, l4⟩ := ls_eq (V := Vc) (k := 1 + 4 + n) (by omega) g5 hTA hTD
      obtain ⟨tw, t1, t2⟩ := lpl_eq g5 hTA hTD
      have p0 := P0_le S (Vc (1 + 4 + n) 2) (Vc (1 + 4 + n) 3)
      have p1 := P1_le S (Vc (1 + 4 + n) 3)
      have et : tw = j1 + 2 * j2 := by omega
      subst et
      refine Or.inr ⟨j1 + 2 * j2, V1, by omega, ?_, ?_, l2, ?_, fun U hU => ?_⟩
      · rw [f_X8_canBeMended, g6, net_eq _ _ n1, bs, pl, bs, is0, bs, hq, if_neg (by decide), bs, f_X3_hasStringOutOf, whA, bs, whD, bs, bes_eq, bs, kn_eq, bs, hS.eA n1, hS.eR n1, hS.eD n1, ← hb, if_pos c, bs, if_pos rfl]
      · rw [f_X8_leastByStrings, g6, net_eq _ _ n1, bs, pl, bs, l1, bs]
      · rw [f_X8_leastByPlaces, g6, net_eq _ _ n1, bs, pl, bs, t1, bs]
      · subst hU
        obtain ⟨U1, u1, u2, u3, u4, u5⟩ := lk U n1
        rw [hS.2.1 n 2 n1 (by decide), hS.2.1 n 3 n1 (by decide)] at l3
        rw [hS.2.1 n 3 n1 (by decide)] at l4
        have q1 : f_X10_partsOf U1 S = some (nI (P0 S (U 209 (6 + 5 * n + 2)) (U 209 (6 + 5 * n + 3)))) := by
          have := pc_eq (V := U1) (A := S) g5.1
          rw [u5.2.1, u5.2.2] at this
          exact this
        have q2 : f_X10_partsOf (up U1 208 20 8255455) S = some (nI (P1 S (U 209 (6 + 5 * n + 3)))) := by
          have := pc_eq (V := up U1 208 20 8255455) (A := S) g5.1
          rw [up_self, up_ne _ (fun _ => by decide), u5.2.2] at this
          exact this
        refine ⟨up U1 208 20 8255455, ?_, u2.tr (Fq.d _ (by decide) _), by rw [up_ne _ (fun _ => by decide), u3]⟩
        rw [f_X10_little, hk_m h, bs, hq, if_neg (by decide), (o U rfl).2, bs, (o U rfl).1, bs, u1, bs, spr_eq, bs, u5.1, u5.2.1, u5.2.2, ← hb, out_S, if_pos c, q1, bs, q2, bs, l3, l4, pk_sub (by omega), show 1 + j2 = j2 + 1 from Nat.add_comm _ _, nI_pred, show (2 : Int32) = nI 2 from rfl, pk_mul, nI_add, show j2 + 1 + j1 - (j2 + 1) = j1 from by omega]
    · refine Or.inl ⟨?_, fun U hU => ?_⟩
      · rw [f_X8_canBeMended, g6, net_eq _ _ n1, bs, pl, bs, is0, bs, hq, if_neg (by decide), bs, f_X3_hasStringOutOf, whA, bs, whD, bs, bes_eq, bs, kn_eq, bs, hS.eA n1, hS.eR n1, hS.eD n1, ← hb, if_neg c, bs, if_neg (by decide)]
      · subst hU
        obtain ⟨U1, u1, u2, u3, u4, u5⟩ := lk U n1
        refine ⟨U1, ?_, u2, u3⟩
        rw [f_X10_little, hk_m h, bs, hq, if_neg (by decide), (o U rfl).2, bs, (o U rfl).1, bs, u1, bs, spr_eq, bs, u5.1, u5.2.1, u5.2.2, ← hb, out_S, if_neg c]
theorem le_m {Vc Vm : St} (hS : SR Vc 1 (Vm 209)) (hG : GG (Vm 209)) (x1 : Int32) : (∃ k t V1 U1, f_X8_hasNote Vc 1 x1 = some 1 ∧ f_X8_noteNumbered Vc 1 x1 = some (1 + 11 + k) ∧ f_X8_canBeMended Vc 1 (1 + 11 + k) = some 1 ∧ f_X8_leastByStrings Vc 1 (1 + 11 + k) = some (nI t, V1) ∧ F191 Vc V1 ∧ f_X8_leastByPlaces Vc 1 (1 + 11 + k) = some (nI t) ∧ f_X10_least Vm x1 = some (nI t, U1) ∧ Fq Vm U1 ∧ U1 208 0 = 0) ∨
    (∃ k U1, f_X8_hasNote Vc 1 x1 = some 1 ∧ f_X8_noteNumbered Vc 1 x1 = some (1 + 11 + k) ∧ f_X8_canBeMended Vc 1 (1 + 11 + k) = some 0 ∧ f_X10_least Vm x1 = some (0, U1) ∧ Fq Vm U1 ∧ U1 208 0 = 2) ∨ (f_X8_hasNote Vc 1 x1 = some 0 ∧ f_X10_least Vm x1 = some (0, up Vm 208 0 1)) := by
  rcases nt_cs hS hG x1 with ⟨k, n, S, y, z, rfl, h, a1, a2, a3⟩ | ⟨a1, a2⟩
  · have h0 : up Vm 208 0 0 208 0 = 0 := up_self _ _ _ _
    have h9 : up Vm 208 0 0 209 = Vm 209 := up_at (by decide)
    rcases ltl hS hG h with ⟨c1, c2⟩ | ⟨t, V1, ht, c1, c2, c3, c4, c5⟩
    · obtain ⟨U1, u1, u2, u3⟩ := c2 _ h9
      refine Or.inr (Or.inl ⟨k, up U1 208 0 2, a1, a3, c1, ?_, ((Fq.t _ _).tr u2).tr (Fq.t _ _), up_self _ _ _ _⟩)
      rw [f_X10_least, a2, bs, if_neg (by decide), f_X10_least_b14, h0, if_pos (by decide), u1, bs, if_pos rfl]
      rfl
    · obtain ⟨U1, u1, u2, u3⟩ := c5 _ h9
      refine Or.inl ⟨k, t, V1, U1, a1, a3, c1, c2, c3, c4, ?_, (Fq.t _ _).tr u2, u3.trans h0⟩
      rw [f_X10_least, a2, bs, if_neg (by decide), f_X10_least_b14, h0, if_pos (by decide), u1, bs, if_neg (m1_ne (by omega))]
  · refine Or.inr (Or.inr ⟨a1, ?_⟩)
    rw [f_X10_least, a2, bs, if_pos rfl, f_X10_least_b14, up_self, if_neg (by decide)]
theorem s_least (x1 : Int32) : SIM (fun V => f_X9_least V x1) (fun V => f_X10_least V x1) [(1, 1), (2, 2)] := by
  refine q_sim fun Vc Vm hS hG => ?_
  rcases le_m hS hG x1 with ⟨k, t, V1, U1, a1, a2, a3, a4, a5, a6, a7, a8, a9⟩ | ⟨k, U1, a1, a2, a3, a4, a5, a6⟩ | ⟨a1, a2⟩
  · refine ⟨_, V1, _, U1, ?_, a7, a5, a8, Ans.ok a9⟩
    rw [f_X9_least, a1, bs, if_neg (by decide), a2, bs, a3, bs, if_neg (by decide), a4, bs]
  · refine ⟨.error 2, Vc, 0, U1, ?_, a4, F191.rf _, a5, Ans.er (by simp) (by decide) a6⟩
    rw [f_X9_least, a1, bs, if_neg (by decide), a2, bs, a3, bs, if_pos rfl]
  · refine ⟨.error 1, Vc, 0, up Vm 208 0 1, ?_, a2, F191.rf _, Fq.t _ _, Ans.er (by simp) (by decide) (up_self _ _ _ _)⟩
    rw [f_X9_least, a1, bs, if_pos rfl]
theorem s_leastAgain (x1 : Int32) : SIM (RO fun V => f_X9_leastAgain V x1) (fun V => f_X10_leastAgain V x1) [(1, 1), (2, 2)] := by
  refine q_ro fun Vc Vm hS hG => ?_
  have mm : ∀ a U, f_X10_least Vm x1 = some (a, U) → f_X10_leastAgain Vm x1 = some (a, U) := fun a U e => by rw [f_X10_leastAgain, e, bs]
  rcases le_m hS hG x1 with ⟨k, t, V1, U1, a1, a2, a3, a4, a5, a6, a7, a8, a9⟩ | ⟨k, U1, a1, a2, a3, a4, a5, a6⟩ | ⟨a1, a2⟩
  · refine ⟨_, _, U1, ?_, mm _ _ a7, a8, Ans.ok a9⟩
    rw [f_X9_leastAgain, a1, bs, if_neg (by decide), a2, bs, a3, bs, if_neg (by decide), a6, bs]
  · refine ⟨.error 2, 0, U1, ?_, mm _ _ a4, a5, Ans.er (by simp) (by decide) a6⟩
    rw [f_X9_leastAgain, a1, bs, if_neg (by decide), a2, bs, a3, bs, if_pos rfl]
  · refine ⟨.error 1, 0, up Vm 208 0 1, ?_, mm _ _ a2, Fq.t _ _, Ans.er (by simp) (by decide) (up_self _ _ _ _)⟩
    rw [f_X9_leastAgain, a1, bs, if_pos rfl]
/-! the best mending, the order, editors -/
theorem q_rr {fc : St → Option ((Except Nat Int32) × St)} {fm : St → Option (Int32 × St)} {L : List (Nat × Int32)} (h : ∀ Vc Vm, RR Vc Vm → ∃ res Vc1 a Vm1, fc Vc = some (res, Vc1) ∧ fm Vm = some (a, Vm1) ∧ F191 Vc Vc1 ∧ Fq Vm Vm1 ∧ Ans L res a (Vm1 208 0)) : SIM fc fm L := by
  intro Vc Vm hR
  obtain ⟨res, Vc1, a, Vm1, h1, h2, h3, h4, h5⟩ := h Vc Vm hR
  exact ⟨res, Vc1, a, Vm1, h1, h2, hR.qq h3 h4, fun k hk => h3 k (by omega), fun k hk => h4.1 k (by omega), h5⟩
theorem q_rro {f : St → Option (Except Nat Int32)} {fm : St → Option (Int32 × St)} {L : List (Nat × Int32)} (h : ∀ Vc Vm, RR Vc Vm → ∃ res a Vm1, f Vc = some res ∧ fm Vm = some (a, Vm1) ∧ Fq Vm Vm1 ∧ Ans L res a (Vm1 208 0)) : SIM (RO f) fm L :=
  q_rr fun Vc Vm a => by
    obtain ⟨res, x, Vm1, h1, h2, h3, h4⟩ := h Vc Vm a
    exact ⟨res, Vc, x, Vm1, by unfold RO; rw [h1, bs], h2, F191.rf _, h3, h4⟩
theorem s_bestMend (x1 x2 : Int32) : SIM (RO fun V => f_X9_bestMend V x1 x2) (fun V => f_X10_bestMend V x1 x2) [(1, 1), (2, 2)] := by
  refine q_ro fun Vc Vm hS hG => ?_
  rcases net_cs x1 with ⟨n, hn, rfl, a1, a2⟩ | ⟨a1, a2⟩
  · obtain ⟨V1, u1, u2, u3, u4, u5⟩ := lk (up Vm 208 0 0) hn
    rw [up_at (show 209 ≠ 208 by decide)] at u4 u5
    have hF : Fq Vm V1 := (Fq.t _ _).tr u2
    have h0 : V1 208 0 = 0 := u3.trans (up_self _ _ _ _)
    have hA : I24 (nA Vc (1 + 4 + n)) := by rw [hS.eA hn]; exact hG.k24 hn
    have hTA : Sub (Vc (1 + 4 + n) 2) RT := by rw [hS.2.1 n 2 hn (by decide)]; exact (hG.2.2.2 n hn).2.2.1
    have hTD : Sub (Vc (1 + 4 + n) 3) DN := by rw [hS.2.1 n 3 hn (by decide)]; exact (hG.2.2.2 n hn).2.2.2.1
    have hAm : I24 (V1 208 19) := by rw [u5.1]; exact hG.k24 hn
    have ja : ∀ p, p < 24 → f_X10_joins V1 (nI n) 2 (nI p) = some (mv (gA Vc (1 + 4 + n) p)) := by
      intro p hp
      rw [f_X10_joins, if_pos rfl, nI_1, jo_eq (row := 2) (q := p + 1) hp (by omega) ((of_eq V1 hn (show 2 < 5 by decide)).trans (by rw [u4])) hAm, u5.1, u5.2.1, u5.2.2]
      show _ = some (mv (fA (Vc (1 + 4 + n) 2) (nA Vc (1 + 4 + n)) (nR Vc (1 + 4 + n)) (nD Vc (1 + 4 + n)) p))
      rw [hS.2.1 n 2 hn (by decide), hS.eA hn, hS.eR hn, hS.eD hn]
      rfl
    have jd : ∀ p, p < 24 → f_X10_joins V1 (nI n) 3 (nI p) = some (mv (gD Vc (1 + 4 + n) p)) := by
      intro p hp
      rw [f_X10_joins, if_neg (by decide), show nI p + 6 = nI (p + 6) from nI_add p 6, jo_eq (row := 3) (q := p + 6) hp (by omega) ((of_eq V1 hn (show 3 < 5 by decide)).trans (by rw [u4])) hAm, u5.1, u5.2.1, u5.2.2]
      show _ = some (mv (fD (Vc (1 + 4 + n) 3) (nA Vc (1 + 4 + n)) (nR Vc (1 + 4 + n)) (nD Vc (1 + 4 + n)) p))
      rw [hS.2.1 n 3 hn (by decide), hS.eA hn, hS.eR hn, hS.eD hn]
      rfl
    have e := bm_eq (x2 := x2) (fa := gA Vc (1 + 4 + n)) (fd := gD Vc (1 + 4 + n)) (fun k => fA_le _ _ _ _ k) (fun k => fD_le _ _ _ _ k) ja jd
    have m1 : f_X10_bestMend Vm (nI n) x2 = f_X10_bestMend_b41 500 V1 (nI n) x2 (-1) (-1) 0 2 := by
      rw [f_X10_bestMend, a2, bs, if_neg (by decide), f_X10_bestMend_b13, up_self, if_pos (by decide), u1, bs]
    have c1 : f_X9_bestMend Vc (nI n) x2 = if (cb x2 (am (gA Vc (1 + 4 + n)) 24) (am (gD Vc (1 + 4 + n)) 24)).1 = -1 then some (.error 2) else some (.ok (cb x2 (am (gA Vc (1 + 4 + n)) 24) (am (gD Vc (1 + 4 + n)) 24)).1) := by
      rw [f_X9_bestMend, a1, bs, if_neg (by decide), net_eq _ _ hn, bs, bts_eq hA hTA hTD, bs]
    rw [m1, e, c1]
    by_cases z : (cb x2 (am (gA Vc (1 + 4 + n)) 24) (am (gD Vc (1 + 4 + n)) 24)).1 = -1
    · rw [if_pos z, if_pos z]
      exact ⟨.error 2, 0, up V1 208 0 2, rfl, rfl, hF.tr (Fq.t _ _), Ans.er (by simp) (by decide) (up_self _ _ _ _)⟩
    · rw [if_neg z, if_neg z]
      exact ⟨_, _, V1, rfl, rfl, hF, Ans.ok h0⟩
  · refine ⟨.error 1, 0, up Vm 208 0 1, ?_, ?_, Fq.t _ _, Ans.er (by simp) (by decide) (up_self _ _ _ _)⟩
    · rw [f_X9_bestMend, a1, bs, if_pos rfl]
    · rw [f_X10_bestMend, a2, bs, if_pos rfl, f_X10_bestMend_b13, up_self, if_neg (by decide)]
theorem s_ranked (x1 x2 : Int32) : SIM (RO fun V => f_X9_ranked V x1 x2) (fun V => f_X10_ranked V x1 x2) [(1, 1), (2, 2)] := by
  refine q_ro fun Vc Vm hS hG => ?_
  rcases net_cs x1 with ⟨n, hn, rfl, a1, a2⟩ | ⟨a1, a2⟩
  · obtain ⟨V1, u1, u2, u3, u4, u5⟩ := lk (up Vm 208 0 0) hn
    rw [up_at (show 209 ≠ 208 by decide)] at u4 u5
    have hF : Fq Vm V1 := (Fq.t _ _).tr u2
    have h0 : V1 208 0 = 0 := u3.trans (up_self _ _ _ _)
    have hA : I24 (nA Vc (1 + 4 + n)) := by rw [hS.eA hn]; exact hG.k24 hn
    have hAm : I24 (V1 208 19) := by rw [u5.1]; exact hG.k24 hn
    obtain ⟨L, h1, hL⟩ := ChL.get (bt (kA (Vm 209) n)) (bt (kR (Vm 209) n)) (bt (kD (Vm 209) n)) (hG.k24 hn)
    have hc : ChL (bt (nA Vc (1 + 4 + n))) (bt (nR Vc (1 + 4 + n))) (bt (nD Vc (1 + 4 + n))) (nA Vc (1 + 4 + n)) L := by
      rw [hS.eA hn, hS.eR hn, hS.eD hn]
      exact h1
    have hm : ChL (bt (V1 208 19)) (bt (V1 208 20)) (bt (V1 208 21)) (V1 208 19) L := by
      rw [u5.1, u5.2.1, u5.2.2]
      exact h1
    have m1 : f_X10_ranked Vm (nI n) x2 = f_X10_ranked_b36 500 V1 x2 (nI 24) := by
      rw [f_X10_ranked, a2, bs, if_neg (by decide), f_X10_ranked_b13, up_self, if_pos (by decide), u1, bs]
      rfl
    have mr := mr_out hAm hm 500 24 x2 (Nat.le_refl _) (by decide)
    have c0 : ∀ z, f_X3_chapterRanked Vc (1 + 4 + n) x2 = some z → f_X9_ranked Vc (nI n) x2 = if z = 0 then some (.error 2) else (f_X9_lowestPlace z).bind fun q6 => some (.ok q6) := fun z hz => by
      rw [f_X9_ranked, a1, bs, if_neg (by decide), net_eq _ _ hn, bs, hz, bs]
    have ln := sel_len L.length L rfl (ch_pos h1 (hG.k24 hn) Clo.all)
    rw [m1]
    cases e : pk x2 (selN 24 L) with
    | some C =>
      rw [e] at mr
      obtain ⟨p, hp, mp⟩ := mr
      obtain ⟨⟨j, j1, j2⟩, -⟩ := pk_some e
      have c1 := rk_eq (j := j) hA (by omega) hc
      rw [← j2, e] at c1
      rw [c0 C c1, if_neg hp.ne, lowP_eq hp, bs, mp]
      exact ⟨_, _, V1, rfl, rfl, hF, Ans.ok h0⟩
    | none =>
      rw [e] at mr
      have mp : f_X10_ranked_b36 500 V1 x2 (nI 24) = some (0, up V1 208 0 2) := mr
      have c1 : f_X3_chapterRanked Vc (1 + 4 + n) x2 = some 0 := by
        rcases rng x2 (n := 24) (by decide) with ⟨j, hj, rfl⟩ | h
        · rw [rk_eq hA hj hc, e]
          rfl
        · rw [f_X3_chapterRanked]
          by_cases z : x2 < 0
          · rw [if_pos z]
          · rw [if_neg z, if_neg (fun q => by
              have q1 := i_lt.mp q
              have q2 := not_lt0 z
              have q3 : (24 : Int32).toInt = 24 := rfl
              omega)]
      rw [c0 0 c1, if_pos rfl, mp]
      exact ⟨.error 2, 0, up V1 208 0 2, rfl, rfl, hF.tr (Fq.t _ _), Ans.er (by simp) (by decide) (up_self _ _ _ _)⟩
  · refine ⟨.error 1, 0, up Vm 208 0 1, ?_, ?_, Fq.t _ _, Ans.er (by simp) (by decide) (up_self _ _ _ _)⟩
    · rw [f_X9_ranked, a1, bs, if_pos rfl]
    · rw [f_X10_ranked, a2, bs, if_pos rfl, f_X10_ranked_b13, up_self, if_neg (by decide)]
theorem s_editorOf (x1 x2 : Int32) : SIM (RO fun V => f_X9_editorOf V x1 x2) (fun V => f_X10_editorOf V x1 x2) [(1, 1), (3, 2)] := by
  refine q_ro fun Vc Vm hS hG => ?_
  obtain ⟨m, m4, hm⟩ := hG.2.1
  have hV3 : Vc 1 3 = nI m := by rw [hS.1.2.1, hm]
  rcases cnt_cs x1 (n := m) (by omega) with ⟨e, he, rfl, d2⟩ | ⟨d2, d3⟩
  · have he4 : e < 4 := by omega
    have d1 := he_yes hV3 he (by omega)
    rcases rng x2 (n := 2) (by decide) with ⟨w, hw, rfl⟩ | h
    · have i1 : ((21 : Int32) + 2 * nI e) + nI w = nI (21 + 2 * e + w) := by rw [show (21 : Int32) = nI 21 from rfl, show (2 : Int32) = nI 2 from rfl, pk_mul, nI_add, nI_add]
      refine ⟨.ok (Vm 209 (21 + 2 * e + w)), _, up Vm 208 0 0, ?_, ?_, Fq.t _ _, Ans.ok (up_self _ _ _ _)⟩
      · have cw : w = 0 ∨ w = 1 := by omega
        rcases cw with rfl | rfl
        · rw [f_X9_editorOf, d1, bs, if_neg (by decide), if_pos (by decide), ed_eq _ _ he4, bs, hS.2.2.1 e 0 he4 (by decide)]
        · rw [f_X9_editorOf, d1, bs, if_neg (by decide), if_neg (by decide), if_pos (by decide), ed_eq _ _ he4, bs, hS.2.2.1 e 1 he4 (by decide)]
      · rw [f_X10_editorOf, hm, d2, bs, if_neg (by decide), in_yes (show (w : Int) ≤ 1 by omega) (by omega), bs, if_neg (by decide), f_X10_editorOf_b35, up_self, if_pos (by decide), i1, ix_nI (by omega) (by decide), bs, up_at (show 209 ≠ 208 by decide)]
    · refine ⟨.error 3, 0, up Vm 208 0 2, ?_, ?_, Fq.t _ _, Ans.er (by simp) (by decide) (up_self _ _ _ _)⟩
      · rw [f_X9_editorOf, d1, bs, if_neg (by decide), if_neg (fun z => by rw [z] at h; have q : (0 : Int32).toInt = 0 := rfl; omega), if_neg (fun z => by rw [z] at h; have q : (1 : Int32).toInt = 1 := rfl; omega)]
      · rw [f_X10_editorOf, hm, d2, bs, if_neg (by decide), in_no (by rcases h with h | h; exact Or.inl h; exact Or.inr (show (1 : Int) < x2.toInt by omega)), bs, if_pos rfl, f_X10_editorOf_b35, up_self, if_neg (by decide)]
  · refine ⟨.error 1, 0, up Vm 208 0 1, ?_, ?_, Fq.t _ _, Ans.er (by simp) (by decide) (up_self _ _ _ _)⟩
    · rw [f_X9_editorOf, he_no hV3 d3, bs, if_pos rfl]
    · rw [f_X10_editorOf, hm, d2, bs, if_pos rfl, f_X10_editorOf_b35, up_self, if_neg (by decide)]
/-! faults and reasons -/
theorem s_faultPosition : SIM (RO fun V => f_X9_faultPosition V) (fun V => f_X10_faultPosition V) [(2, 1)] := by
  refine q_rro fun Vc Vm hR => ?_
  have h7 : Vc 0 10 = Vm 208 12 := hR.2.2.2.2.2.2
  have e : up Vm 208 0 0 208 12 = Vm 208 12 := up_ne _ (fun _ => by decide)
  by_cases z : Vm 208 12 = -1
  · refine ⟨.error 2, 0, up (up Vm 208 0 0) 208 0 1, ?_, ?_, (Fq.t _ _).tr (Fq.t _ _), Ans.er (by simp) (by decide) (up_self _ _ _ _)⟩
    · rw [f_X9_faultPosition, h7, if_pos z]
    · rw [f_X10_faultPosition, e, if_pos z]
      rfl
  · refine ⟨.ok (Vm 208 12), Vm 208 12, up Vm 208 0 0, ?_, ?_, Fq.t _ _, Ans.ok (up_self _ _ _ _)⟩
    · rw [f_X9_faultPosition, h7, if_neg z]
    · rw [f_X10_faultPosition, e, if_neg z]
theorem s_reason (x1 x2 : Int32) : SIM (RO fun V => f_X9_reason V x1 x2) (fun V => f_X10_reason V x1 x2) [(2, 1)] := by
  refine q_rro fun Vc Vm hR => ?_
  obtain ⟨r0, r1, r2⟩ := hR.2.2.2.2.2.1
  have e : ∀ j, 1 ≤ j → up Vm 208 0 0 208 j = Vm 208 j := fun j hj => up_ne _ (fun _ => by omega)
  have no : f_X9_reason Vc x1 x2 = some (.error 2) → f_X10_reason Vm x1 x2 = f_X10_reason_b24 Vm x1 x2 1 → ∃ (res : Except Nat Int32) (a : Int32) (Vm1 : St), f_X9_reason Vc x1 x2 = some res ∧ f_X10_reason Vm x1 x2 = some (a, Vm1) ∧ Fq Vm Vm1 ∧ Ans [(2, 1)] res a (Vm1 208 0) := by
    intro h1 h2
    refine ⟨.error 2, 0, up Vm 208 0 1, h1, ?_, Fq.t _ _, Ans.er (by simp) (by decide) (up_self _ _ _ _)⟩
    rw [h2, f_X10_reason_b24, up_self, if_neg (by decide)]
  by_cases z : Vm 208 13 = 0
  · refine no ?_ ?_
    · rw [f_X9_reason, r0, if_pos z]
    · rw [f_X10_reason, if_pos z, f_X10_reason_b19]
  · by_cases y : x1 = 0
    · by_cases w : x2 = 0
      · refine ⟨.ok (Vm 208 13), Vm 208 13, up Vm 208 0 0, ?_, ?_, Fq.t _ _, Ans.ok (up_self _ _ _ _)⟩
        · rw [f_X9_reason, r0, if_neg z, if_pos y, f_X9_reason_b48, if_pos y, if_pos w, r0]
        · rw [f_X10_reason, if_neg z, if_pos y, f_X10_reason_b23, f_X10_reason_b24, up_self, if_pos (by decide), if_pos y, if_pos w, e 13 (by decide)]
      · refine ⟨.ok (Vm 208 14), Vm 208 14, up Vm 208 0 0, ?_, ?_, Fq.t _ _, Ans.ok (up_self _ _ _ _)⟩
        · rw [f_X9_reason, r0, if_neg z, if_pos y, f_X9_reason_b48, if_pos y, if_neg w, r1]
        · rw [f_X10_reason, if_neg z, if_pos y, f_X10_reason_b23, f_X10_reason_b24, up_self, if_pos (by decide), if_pos y, if_neg w, e 14 (by decide)]
    · rcases r2 with ⟨t1, t2, t3, t4⟩ | ⟨t1, t2⟩
      · by_cases w : x2 = 0
        · refine ⟨.ok (Vm 208 15), Vm 208 15, up Vm 208 0 0, ?_, ?_, Fq.t _ _, Ans.ok (up_self _ _ _ _)⟩
          · rw [f_X9_reason, r0, if_neg z, if_neg y, if_pos t1, f_X9_reason_b48, if_neg y, if_pos w, t3]
          · rw [f_X10_reason, if_neg z, if_neg y, if_neg t2, f_X10_reason_b23, f_X10_reason_b24, up_self, if_pos (by decide), if_neg y, if_pos w, e 15 (by decide)]
        · refine ⟨.ok (Vm 208 16), Vm 208 16, up Vm 208 0 0, ?_, ?_, Fq.t _ _, Ans.ok (up_self _ _ _ _)⟩
          · rw [f_X9_reason, r0, if_neg z, if_neg y, if_pos t1, f_X9_reason_b48, if_neg y, if_neg w, t4]
          · rw [f_X10_reason, if_neg z, if_neg y, if_neg t2, f_X10_reason_b23, f_X10_reason_b24, up_self, if_pos (by decide), if_neg y, if_neg w, e 16 (by decide)]
      · refine no ?_ ?_
        · rw [f_X9_reason, r0, if_neg z, if_neg y, if_neg t1]
        · rw [f_X10_reason, if_neg z, if_neg y, if_pos t2, f_X10_reason_b19]
/-! the tape's end, undo, the snapshot -/
theorem nar_i2c (y : Int32) : vp_nar .char (i2c y) = i2c y := by
  have h : ∀ z : UInt32, (z % 65536).toUInt16.toUInt32 = z % 65536 := fun z => UInt32.toNat_inj.mp (by simp)
  exact congrArg UInt32.toInt32 (h y.toUInt32)
theorem s_feed {x : Int32} (hx : vp_nar .char x = x) : SIM (fun V => f_X9_feed V x) (fun V => f_X10_feed V x) [(4, 1)] := by
  intro Vc Vm hR
  obtain ⟨h1, h2, h3, ⟨n, n1, n2, n3, n4⟩, h5, h6, h7⟩ := id hR
  by_cases e : n = 60
  · subst e
    refine ⟨.error 4, Vc, 0, up Vm 208 0 1, ?_, ?_, hR.qq (F191.rf _) (Fq.t _ _), fun _ _ => rfl, fun k hk => up_at (by omega), Ans.er (by simp) (by decide) (up_self _ _ _ _)⟩
    · show f_X9_feed Vc x = _
      rw [f_X9_feed, f_X7_isFull, n2, if_neg (by decide), bs, if_neg (by decide)]
    · show f_X10_feed Vm x = _
      rw [f_X10_feed, n3, if_pos (by decide), f_X10_feed_b15, up_self, if_neg (by decide)]
  · have hn : n < 60 := by omega
    refine ⟨.ok (nI (n + 1)), up (up Vc 193 n x) 192 1 (nI (n + 1)), nI (n + 1), up (up (up Vm 208 0 0) 213 n x) 208 10 (nI (n + 1)), ?_, ?_, ⟨?_, ?_, ?_, ?_, ?_, ?_, ?_⟩, fun k hk => ?_, fun k hk => ?_, ?_⟩
    · show f_X9_feed Vc x = _
      rw [f_X9_feed, f_X7_isFull, n2, if_pos (show nI n < (60 : Int32) from nI_lt (b := 60) hn (by decide)), bs, if_pos rfl, f_X7_append, n2, if_neg (nI_pos (by omega)), if_neg (show ¬ (60 : Int32) ≤ nI n from nI_ge (b := 60) hn (by decide)), ix_nI hn (by decide), bs, hx, up_at (show 192 ≠ 193 by decide), n2, nI_1, bs, up_self]
    · show f_X10_feed Vm x = _
      have e1 : (up Vm 208 0 0) 208 10 = nI n := by rw [up_ne _ (fun _ => by decide), n3]
      rw [f_X10_feed, n3, if_neg (fun q => by have := (nI_eq (a := n) (b := 60) (by omega) (by decide)).mp q; omega), f_X10_feed_b15, up_self, if_pos (by decide), e1, ix_nI hn (by decide), bs, up_at (show 208 ≠ 213 by decide), e1, nI_1, up_self]
    · exact h1.fr (fun k a b => by rw [up_at (by omega), up_at (by omega)]) (by rw [up_at (by decide), up_at (by decide), up_at (by decide)])
    · exact h2.fr (fun k a b => by rw [up_at (by omega), up_at (by omega)]) (by rw [up_ne _ (fun _ => by decide), up_at (by decide), up_ne _ (fun _ => by decide)]) (by rw [up_at (by decide), up_at (by decide), up_at (by decide)])
    · exact h3.fr (by rw [up_at (by decide), up_at (by decide)]) (fun k a b => by rw [up_at (by omega), up_at (by omega)]) (by rw [up_ne _ (fun _ => by decide), up_at (by decide), up_ne _ (fun _ => by decide)]) (by rw [up_at (by decide), up_at (by decide), up_at (by decide)])
    · refine ⟨n + 1, by omega, up_self _ _ _ _, up_self _ _ _ _, fun j hj => ?_⟩
      rw [up_at (show 193 ≠ 192 by decide), up_at (show 213 ≠ 208 by decide)]
      by_cases c : j = n
      · rw [c, up_self, up_self]
      · rw [up_ne _ (fun _ => c), up_ne _ (fun _ => c), up_at (show 213 ≠ 208 by decide), n4 j (by omega)]
    · exact h5.fr (by rw [up_at (by decide), up_at (by decide)]) (by rw [up_at (by decide), up_at (by decide)]) (by rw [up_ne _ (fun _ => by decide), up_at (by decide), up_ne _ (fun _ => by decide)]) (by rw [up_at (by decide), up_at (by decide), up_at (by decide)])
    · exact h6.fr (by rw [up_at (by decide), up_at (by decide)]) (fun j a b => by rw [up_ne _ (fun _ => by omega), up_at (by decide), up_ne _ (fun _ => by omega)])
    · exact h7.fr (by rw [up_at (by decide), up_at (by decide)]) (by rw [up_ne _ (fun _ => by decide), up_at (by decide), up_ne _ (fun _ => by decide)])
    · rw [up_at (by omega), up_at (by omega)]
    · rw [up_at (by omega), up_at (by omega), up_at (by omega)]
    · exact Ans.ok (by rw [up_ne _ (fun _ => by decide), up_at (by decide), up_self])
theorem un_loop {c : Nat} (hc : c < 8) : ∀ (n p : Nat) (V : St), V 208 5 = nI c → p ≤ 53 → 53 < n + p → (∀ q, q < p → V 209 q = V 212 (53 * c + q)) → ∃ V1, f_X10_undo_b30 n V (nI p) = some (nI c, V1) ∧ (∀ k, k ≠ 209 → V1 k = V k) ∧ ∀ q, q < 53 → V1 209 q = V 212 (53 * c + q)
  | 0, p, V, h5, h1, h2, _ => by omega
  | n + 1, p, V, h5, h1, h2, h => by
    rw [f_X10_undo_b30]
    by_cases e : p = 53
    · subst e
      rw [if_pos (show (53 : Int32) ≤ nI 53 by decide), h5]
      exact ⟨V, rfl, fun _ _ => rfl, h⟩
    · have hp : p < 53 := by omega
      have ee : (53 : Int32) * V 208 5 + nI p = nI (53 * c + p) := by rw [h5, show (53 : Int32) = nI 53 from rfl, pk_mul, nI_add]
      rw [if_neg (show ¬ (53 : Int32) ≤ nI p from nI_ge (b := 53) hp (by decide)), ee, ix_nI (by omega) (by decide), bs, ix_nI hp (by decide), bs, nI_1]
      obtain ⟨V1, g1, g2, g3⟩ := un_loop hc n (p + 1) (up V 209 p (V 212 (53 * c + p))) (by rw [up_at (show 208 ≠ 209 by decide), h5]) (by omega) (by omega) (fun q hq => by
        rw [up_at (show 212 ≠ 209 by decide)]
        by_cases z : q = p
        · rw [z, up_self]
        · rw [up_ne _ (fun _ => z), h q (by omega)])
      refine ⟨V1, g1, fun k hk => by rw [g2 k hk, up_at hk], fun q hq => ?_⟩
      rw [g3 q hq, up_at (show 212 ≠ 209 by decide)]
theorem s_undo : SIM (fun V => f_X9_undo V) (fun V => f_X10_undo V) [(4, 1)] := by
  intro Vc Vm hR
  obtain ⟨h1, ⟨c, G, c8, k1, k2, k3⟩, h3, h4, h5, h6, h7⟩ := id hR
  have kc : Vc 52 2 = nI c := by obtain ⟨o, -, -, a, -⟩ := k1; exact a
  have e5 : (up Vm 208 0 0) 208 5 = nI c := by rw [up_ne _ (fun _ => by decide), k2.1]
  cases c with
  | zero =>
    refine ⟨.error 4, Vc, 0, up (up Vm 208 0 0) 208 0 1, ?_, ?_, hR.qq (F191.rf _) ((Fq.t _ _).tr (Fq.t _ _)), fun _ _ => rfl, fun k hk => by rw [up_at (by omega), up_at (by omega)], Ans.er (by simp) (by decide) (up_self _ _ _ _)⟩
    · show f_X9_undo Vc = _
      rw [f_X9_undo, kc, if_pos (by decide)]
    · show f_X10_undo Vm = _
      rw [f_X10_undo, e5, if_pos (by decide)]
      rfl
  | succ c =>
    obtain ⟨V1, p1, p2, p3, p4⟩ := pop_c (s := 1) (by omega) k1 (by decide)
    have p5 : V1 52 2 = nI c := by obtain ⟨o, -, -, a, -⟩ := p3; exact a
    obtain ⟨V2, hV2⟩ : ∃ z, z = up (up Vm 208 0 0) 208 5 (nI c) := ⟨_, rfl⟩
    have w8 : ∀ j, j ≠ 0 → j ≠ 5 → V2 208 j = Vm 208 j := fun j a b => by rw [hV2, up_ne _ (fun _ => b), up_ne _ (fun _ => a)]
    have wo : ∀ k, k ≠ 208 → V2 k = Vm k := fun k a => by rw [hV2, up_at a, up_at a]
    obtain ⟨U, u1, u2, u3⟩ := un_loop (c := c) (by omega) 500 0 V2 (by rw [hV2, up_self]) (by decide) (by decide) (fun q hq => absurd hq (Nat.not_lt_zero q))
    have u8 : ∀ j, U 208 j = V2 208 j := fun j => by rw [u2 208 (by decide)]
    have eg : ∀ q, q < 53 → U 209 q = G c q := fun q hq => by rw [u3 q hq, wo 212 (by decide), k2.2 c q (by omega) hq]
    refine ⟨.ok (nI c), V1, nI c, U, ?_, ?_, ⟨?_, ?_, ?_, ?_, ?_, ?_, ?_⟩, fun k hk => p2 k (by omega) (by omega), fun k hk => ?_, ?_⟩
    · show f_X9_undo Vc = _
      rw [f_X9_undo, kc, if_neg (fun q => by have := (nI_eq (a := c + 1) (b := 0) (by omega) (by decide)).mp q; omega), p1, bs, p5]
    · show f_X10_undo Vm = _
      rw [f_X10_undo, e5, if_neg (fun q => by have := (nI_eq (a := c + 1) (b := 0) (by omega) (by decide)).mp q; omega), nI_pred, ← hV2]
      exact u1
    · exact ⟨p4.cg (fun q hq => eg q hq), (k3 c (by omega)).cg (fun q hq => eg q hq)⟩
    · refine ⟨c, G, by omega, p3, ⟨?_, fun j q hj hq => ?_⟩, fun j hj => k3 j (by omega)⟩
      · rw [u8, hV2, up_self]
      · rw [u2 212 (by decide), wo 212 (by decide), k2.2 j q (by omega) hq]
    · exact h3.fr (by rw [p2 0 (by decide) (by omega)]) (fun k a b => p2 k (by omega) (by omega)) (by rw [u8, w8 6 (by decide) (by decide)]) (by rw [u2 211 (by decide), wo 211 (by decide)])
    · exact h4.fr (by rw [p2 192 (by decide) (by omega)]) (p2 193 (by decide) (by omega)) (by rw [u8, w8 10 (by decide) (by decide)]) (by rw [u2 213 (by decide), wo 213 (by decide)])
    · exact h5.fr (by rw [p2 205 (by decide) (by omega)]) (p2 206 (by decide) (by omega)) (by rw [u8, w8 11 (by decide) (by decide)]) (by rw [u2 215 (by decide), wo 215 (by decide)])
    · exact h6.fr (p2 207 (by decide) (by omega)) (fun j a b => by rw [u8, w8 j (by omega) (by omega)])
    · exact h7.fr (by rw [p2 0 (by decide) (by omega)]) (by rw [u8, w8 12 (by decide) (by decide)])
    · rw [u2 k (by omega), wo k (by omega)]
    · exact Ans.ok (by rw [u8, hV2, up_ne _ (fun _ => by decide), up_self])
/-! the snapshot -/
theorem sv_loop : ∀ (n p : Nat) (V : St), p ≤ 53 → 53 < n + p → (∀ q, q < p → V 211 q = V 209 q) → ∃ V1, f_X10_save_b7 n V (nI p) = some (V 209 2, up V1 208 6 1) ∧ (∀ k, k ≠ 211 → V1 k = V k) ∧ ∀ q, q < 53 → V1 211 q = V 209 q
  | 0, p, V, h1, h2, _ => by omega
  | n + 1, p, V, h1, h2, h => by
    rw [f_X10_save_b7]
    by_cases e : p = 53
    · subst e
      rw [if_pos (show (53 : Int32) ≤ nI 53 by decide), up_at (show 209 ≠ 208 by decide)]
      exact ⟨V, rfl, fun _ _ => rfl, h⟩
    · have hp : p < 53 := by omega
      rw [if_neg (show ¬ (53 : Int32) ≤ nI p from nI_ge (b := 53) hp (by decide)), ix_nI hp (by decide), bs, bs, nI_1]
      obtain ⟨V1, g1, g2, g3⟩ := sv_loop n (p + 1) (up V 211 p (V 209 p)) (by omega) (by omega) (fun q hq => by
        rw [up_at (show 209 ≠ 211 by decide)]
        by_cases z : q = p
        · rw [z, up_self]
        · rw [up_ne _ (fun _ => z), h q (by omega)])
      rw [up_at (show 209 ≠ 211 by decide)] at g1 g3
      exact ⟨V1, g1, fun k hk => by rw [g2 k hk, up_at hk], g3⟩
theorem rs_loop : ∀ (n p : Nat) (V : St), p ≤ 53 → 53 < n + p → (∀ q, q < p → V 209 q = V 211 q) → ∃ V1, f_X10_restore_b20 n V (nI p) = some (V 211 2, up V1 208 5 0) ∧ (∀ k, k ≠ 209 → V1 k = V k) ∧ ∀ q, q < 53 → V1 209 q = V 211 q
  | 0, p, V, h1, h2, _ => by omega
  | n + 1, p, V, h1, h2, h => by
    rw [f_X10_restore_b20]
    by_cases e : p = 53
    · subst e
      rw [if_pos (show (53 : Int32) ≤ nI 53 by decide), up_at (show 209 ≠ 208 by decide), h 2 (by decide)]
      exact ⟨V, rfl, fun _ _ => rfl, h⟩
    · have hp : p < 53 := by omega
      rw [if_neg (show ¬ (53 : Int32) ≤ nI p from nI_ge (b := 53) hp (by decide)), ix_nI hp (by decide), bs, bs, nI_1]
      obtain ⟨V1, g1, g2, g3⟩ := rs_loop n (p + 1) (up V 209 p (V 211 p)) (by omega) (by omega) (fun q hq => by
        rw [up_at (show 211 ≠ 209 by decide)]
        by_cases z : q = p
        · rw [z, up_self]
        · rw [up_ne _ (fun _ => z), h q (by omega)])
      rw [up_at (show 211 ≠ 209 by decide)] at g1 g3
      exact ⟨V1, g1, fun k hk => by rw [g2 k hk, up_at hk], g3⟩
theorem t_save {V : St} (hR : RR V V) : ∃ V1, k_33 V = some V1 ∧ RR V1 V1 := by
  obtain ⟨h1, h2, h3, h4, h5, h6, h7⟩ := id hR
  obtain ⟨W, w1, w2, w3⟩ := cf_eq V (a := 35) (b := 1) (by decide)
  have wS := w3 _ h1.1
  obtain ⟨Z, hZ⟩ : ∃ z, z = up W 0 3 1 := ⟨_, rfl⟩
  have z4 : Z 35 4 = V 209 2 := by rw [hZ, up_at (by decide), wS.1.2.2.1]
  have zk : ∀ k, ¬ (35 ≤ k ∧ k < 52) → k ≠ 0 → Z k = V k := fun k a b => by rw [hZ, up_at b, w2 k (by omega)]
  have z0 : ∀ j, j ≠ 3 → Z 0 j = V 0 j := fun j hj => by rw [hZ, up_ne _ (fun _ => hj), w2 0 (by omega)]
  have m9 : Z 209 = V 209 := zk 209 (by omega) (by decide)
  obtain ⟨Y, hY⟩ : ∃ y, y = up Z 208 0 0 := ⟨_, rfl⟩
  have y9 : Y 209 = V 209 := by rw [hY, up_at (by decide), m9]
  obtain ⟨U, u1, u2, u3⟩ := sv_loop 500 0 Y (by decide) (by decide) (fun q hq => absurd hq (Nat.not_lt_zero q))
  rw [y9] at u1 u3
  have uk : ∀ k, k ≠ 208 → k ≠ 211 → up U 208 6 1 k = Z k := fun k a b => by rw [up_at a, u2 k b, hY, up_at a]
  have u8 : ∀ j, j ≠ 0 → j ≠ 6 → up U 208 6 1 208 j = V 208 j := fun j a b => by rw [up_ne _ (fun _ => b), u2 208 (by decide), hY, up_ne _ (fun _ => a), zk 208 (by omega) (by decide)]
  have uv : ∀ k, k ≠ 208 → k ≠ 211 → ¬ (35 ≤ k ∧ k < 52) → k ≠ 0 → up U 208 6 1 k = V k := fun k a b c d => by rw [uk k a b, zk k c d]
  refine ⟨up U 208 6 1, ?_, ?_, ?_, ?_, ?_, ?_, ?_, ?_⟩
  · rw [k_33, f_X9_save, w1, bs, ← hZ, bs]
    show ((f_X10_save Z).bind fun q2 => if Z 35 4 = q2.1 then some q2.2 else none) = _
    rw [f_X10_save, ← hY]
    rw [show (0 : Int32) = nI 0 from rfl, u1, bs, z4, if_pos rfl]
  · exact h1.fr (fun k a b => uv k (by omega) (by omega) (by omega) (by omega)) (uv 209 (by decide) (by decide) (by omega) (by decide))
  · exact h2.fr (fun k a b => uv k (by omega) (by omega) (by omega) (by omega)) (u8 5 (by decide) (by decide)) (uv 212 (by decide) (by decide) (by omega) (by decide))
  · refine Or.inr ⟨?_, up_self _ _ _ _, V 209, ?_, h1.2, fun q hq => ?_⟩
    · rw [uk 0 (by decide) (by decide), hZ, up_self]
    · refine wS.fr fun k a b => ?_
      rw [uk k (by omega) (by omega), hZ, up_at (by omega)]
    · rw [up_at (by decide), u3 q hq]
  · exact h4.fr (by rw [uv 192 (by decide) (by decide) (by omega) (by decide)]) (uv 193 (by decide) (by decide) (by omega) (by decide)) (u8 10 (by decide) (by decide)) (uv 213 (by decide) (by decide) (by omega) (by decide))
  · exact h5.fr (by rw [uv 205 (by decide) (by decide) (by omega) (by decide)]) (uv 206 (by decide) (by decide) (by omega) (by decide)) (u8 11 (by decide) (by decide)) (uv 215 (by decide) (by decide) (by omega) (by decide))
  · exact h6.fr (uv 207 (by decide) (by decide) (by omega) (by decide)) (fun j a b => u8 j (by omega) (by omega))
  · exact h7.fr (by rw [uk 0 (by decide) (by decide), z0 10 (by decide)]) (u8 12 (by decide) (by decide))
theorem s_restore : SIM (fun V => f_X9_restore V) (fun V => f_X10_restore V) [(4, 1)] := by
  intro Vc Vm hR
  obtain ⟨h1, h2, h3, h4, h5, h6, h7⟩ := id hR
  have e6 : (up Vm 208 0 0) 208 6 = Vm 208 6 := up_ne _ (fun _ => by decide)
  rcases h3 with ⟨a1, a2⟩ | ⟨a1, a2, g, a3, a4, a5⟩
  · refine ⟨.error 4, Vc, 0, up (up Vm 208 0 0) 208 0 1, ?_, ?_, hR.qq (F191.rf _) ((Fq.t _ _).tr (Fq.t _ _)), fun _ _ => rfl, fun k hk => by rw [up_at (by omega), up_at (by omega)], Ans.er (by simp) (by decide) (up_self _ _ _ _)⟩
    · show f_X9_restore Vc = _
      rw [f_X9_restore, a1, if_pos rfl]
    · show f_X10_restore Vm = _
      rw [f_X10_restore, e6, a2, if_pos rfl]
      rfl
  · obtain ⟨W, w1, w2, w3⟩ := cf_eq Vc (a := 1) (b := 35) (by decide)
    have wS := w3 _ a3
    obtain ⟨Y, hY⟩ : ∃ y, y = up Vm 208 0 0 := ⟨_, rfl⟩
    have yk : ∀ k, k ≠ 208 → Y k = Vm k := fun k a => by rw [hY, up_at a]
    have y8 : ∀ j, j ≠ 0 → Y 208 j = Vm 208 j := fun j a => by rw [hY, up_ne _ (fun _ => a)]
    obtain ⟨U, u1, u2, u3⟩ := rs_loop 500 0 Y (by decide) (by decide) (fun q hq => absurd hq (Nat.not_lt_zero q))
    have eg : ∀ q, q < 53 → up U 208 5 0 209 q = g q := fun q hq => by rw [up_at (show 209 ≠ 208 by decide), u3 q hq, yk 211 (by decide), a5 q hq]
    have uk : ∀ k, k ≠ 208 → k ≠ 209 → up U 208 5 0 k = Vm k := fun k a b => by rw [up_at a, u2 k b, yk k a]
    have u8 : ∀ j, j ≠ 0 → j ≠ 5 → up U 208 5 0 208 j = Vm 208 j := fun j a b => by rw [up_ne _ (fun _ => b), u2 208 (by decide), y8 j a]
    have wk : ∀ k, ¬ (1 ≤ k ∧ k < 18) → k ≠ 52 → up W 52 2 0 k = Vc k := fun k a b => by rw [up_at b, w2 k (by omega)]
    obtain ⟨c, G, c8, ⟨o, o1, o2, o3, o4⟩, k2, k3⟩ := h2
    refine ⟨.ok (g 2), up W 52 2 0, g 2, up U 208 5 0, ?_, ?_, ⟨?_, ?_, ?_, ?_, ?_, ?_, ?_⟩, fun k hk => wk k (by omega) (by omega), fun k hk => uk k (by omega) (by omega), ?_⟩
    · show f_X9_restore Vc = _
      rw [f_X9_restore, a1, if_neg (by decide), w1, bs]
      show some (Except.ok (up W 52 2 0 1 4), up W 52 2 0) = _
      rw [up_at (show 1 ≠ 52 by decide), wS.1.2.2.1]
    · show f_X10_restore Vm = _
      rw [f_X10_restore, e6, a2, if_neg (by decide), ← hY, show (0 : Int32) = nI 0 from rfl, u1, yk 211 (by decide), a5 2 (by decide)]
      rfl
    · refine ⟨?_, a4.cg eg⟩
      exact (wS.fr fun k a b => up_at (by omega)).cg eg
    · refine ⟨0, G, by decide, ⟨o, o1, ?_, up_self _ _ _ _, fun j hj => absurd hj (Nat.not_lt_zero j)⟩, ⟨up_self _ _ _ _, fun j q hj _ => absurd hj (Nat.not_lt_zero j)⟩, fun j hj => absurd hj (Nat.not_lt_zero j)⟩
      rw [up_ne _ (fun _ => by decide), w2 52 (by omega), o2]
    · refine Or.inr ⟨?_, ?_, g, ?_, a4, fun q hq => ?_⟩
      · rw [wk 0 (by omega) (by decide), a1]
      · rw [u8 6 (by decide) (by decide), a2]
      · exact a3.fr fun k a b => wk k (by omega) (by omega)
      · rw [uk 211 (by decide) (by decide), a5 q hq]
    · exact h4.fr (by rw [wk 192 (by omega) (by decide)]) (wk 193 (by omega) (by decide)) (u8 10 (by decide) (by decide)) (uk 213 (by decide) (by decide))
    · exact h5.fr (by rw [wk 205 (by omega) (by decide)]) (wk 206 (by omega) (by decide)) (u8 11 (by decide) (by decide)) (uk 215 (by decide) (by decide))
    · exact h6.fr (wk 207 (by omega) (by decide)) (fun j a b => u8 j (by omega) (by omega))
    · exact h7.fr (by rw [wk 0 (by omega) (by decide)]) (u8 12 (by decide) (by decide))
    · exact Ans.ok (by rw [up_ne _ (fun _ => by decide), u2 208 (by decide), hY, up_self])
theorem c128 {c : Nat} (h : c < 128) : vp_nar .char (nI c) = nI c ∧ i2c (nI c) = nI c := by
  have : ∀ c : Fin 128, vp_nar .char (nI c.val) = nI c.val ∧ i2c (nI c.val) = nI c.val := by decide +kernel
  exact this ⟨c, h⟩
theorem nr_ch {c : Nat} (h : c < 128) : nr .char (nI c) = some (nI c) := if_pos (c128 h).1
theorem s_character (x1 : Int32) : SIM (RO fun V => f_X9_character V x1) (fun V => f_X10_character V x1) [(1, 1)] := by
  refine q_rro fun Vc Vm hR => ?_
  obtain ⟨n, n1, n2, n3, n4⟩ := hR.2.2.2.2.1
  rcases cnt_cs x1 (n := n) (by omega) with ⟨j, hj, rfl, d2⟩ | ⟨d2, d3⟩
  · obtain ⟨c, c1, c2, c3⟩ := n4 j hj
    have hi : f_X2_hasIndex Vc (nI j) = some 1 := by
      rw [f_X2_hasIndex, if_neg (nI_pos (by omega)), n2, if_neg (nI_ge hj (by omega)), if_neg (show ¬ (25 : Int32) ≤ nI j from nI_ge (b := 25) (by omega) (by decide))]
    refine ⟨.ok (nI c), nI c, up Vm 208 0 0, ?_, ?_, Fq.t _ _, Ans.ok (up_self _ _ _ _)⟩
    · rw [f_X9_character, hi, bs, if_neg (by decide), f_X2_at, hi, bs, if_neg (by decide), ix_nI (show j < 25 by omega) (by decide), bs, c2, nr_ch c1, bs, bs, nr_ch c1, bs]
    · rw [f_X10_character, n3, d2, bs, if_neg (by decide), f_X10_character_b20, up_self, if_pos (by decide), ix_nI (show j < 60 by omega) (by decide), bs, up_at (show 215 ≠ 208 by decide), c3, (c128 c1).2, nr_ch c1, bs]
  · refine ⟨.error 1, 0, up Vm 208 0 1, ?_, ?_, Fq.t _ _, Ans.er (by simp) (by decide) (up_self _ _ _ _)⟩
    · rw [f_X9_character, f_X2_hasIndex, n2]
      by_cases z : x1 < 0
      · rw [if_pos z, bs, if_pos rfl]
      · rw [if_neg z, if_pos (d3.resolve_left z), bs, if_pos rfl]
    · rw [f_X10_character, n3, d2, bs, if_pos rfl, f_X10_character_b20, up_self, if_neg (by decide)]
/-! accounts, balances, shares -/
theorem RR.self {V U : St} (h : RR V V) (f : Fq V U) : RR U U := (h.qq (F191.rf _) f).cg (fun k hk => f.1 k (by omega)) (fun _ _ _ => rfl)
def nkn (g : Nat → Int32) (n : Nat) : Nat := nb (kA g n)
theorem ck_c {V : St} {B : Nat} {g : Nat → Int32} (h : SR V B g) (hg : GG g) : f_X8_countKnots V B = some (nI (nkn g 0 + nkn g 1 + nkn g 2)) := by
  have st : ∀ m c n, n < 3 → f_X8_countKnots_b4 (m + 1) V B (nI c) (nI n) = f_X8_countKnots_b4 m V B (nI (c + nkn g n)) (nI (n + 1)) := by
    intro m c n hn
    rw [f_X8_countKnots_b4, if_neg (show ¬ (3 : Int32) ≤ nI n from nI_ge (b := 3) hn (by decide)), net_eq V B hn, bs, kn_eq, bs, h.eA hn, bc24 (hg.k24 hn), bs, nI_1, nI_add]
    rfl
  have en : ∀ m c, f_X8_countKnots_b4 (m + 1) V B (nI c) (nI 3) = some (nI c) := by
    intro m c
    rw [f_X8_countKnots_b4, if_pos (by decide)]
  refine (st 499 0 0 (by decide)).trans ((st 498 _ 1 (by decide)).trans ((st 497 _ 2 (by decide)).trans ((en 496 _).trans ?_)))
  rw [Nat.zero_add]
theorem ca_c {V : St} {B : Nat} {g : Nat → Int32} (h : SR V B g) (hg : GG g) : f_X8_countAllChapters V B = some (nI (nch g 0 + nch g 1 + nch g 2)) := by
  have st : ∀ m c n, n < 3 → f_X8_countAllChapters_b4 (m + 1) V B (nI c) (nI n) = f_X8_countAllChapters_b4 m V B (nI (c + nch g n)) (nI (n + 1)) := by
    intro m c n hn
    rw [f_X8_countAllChapters_b4, if_neg (show ¬ (3 : Int32) ≤ nI n from nI_ge (b := 3) hn (by decide)), net_eq V B hn, bs, cc_s h hg hn, bs, nI_1, nI_add]
  have en : ∀ m c, f_X8_countAllChapters_b4 (m + 1) V B (nI c) (nI 3) = some (nI c) := by
    intro m c
    rw [f_X8_countAllChapters_b4, if_pos (by decide)]
  refine (st 499 0 0 (by decide)).trans ((st 498 _ 1 (by decide)).trans ((st 497 _ 2 (by decide)).trans ((en 496 _).trans ?_)))
  rw [Nat.zero_add]
theorem ct_a {V : St} {B : Nat} {g : Nat → Int32} (h : SR V B g) (hg : GG g) : f_X8_countTorn V B = some (nI (ntn g 0 + ntn g 1 + ntn g 2)) := by
  have st : ∀ m c n, n < 3 → f_X8_countTorn_b4 (m + 1) V B (nI c) (nI n) = f_X8_countTorn_b4 m V B (nI (c + ntn g n)) (nI (n + 1)) := by
    intro m c n hn
    rw [f_X8_countTorn_b4, if_neg (show ¬ (3 : Int32) ≤ nI n from nI_ge (b := 3) hn (by decide)), net_eq V B hn, bs, ct_c h hg hn, bs, nI_1, nI_add]
  have en : ∀ m c, f_X8_countTorn_b4 (m + 1) V B (nI c) (nI 3) = some (nI c) := by
    intro m c
    rw [f_X8_countTorn_b4, if_pos (by decide)]
  refine (st 499 0 0 (by decide)).trans ((st 498 _ 1 (by decide)).trans ((st 497 _ 2 (by decide)).trans ((en 496 _).trans ?_)))
  rw [Nat.zero_add]
theorem ak_m (V : St) : f_X10_allKnots V = some (nI (nkn (V 209) 0 + nkn (V 209) 1 + nkn (V 209) 2)) := by
  have o : ∀ n w, n < 3 → w < 5 → f_X10_of V (nI n) (nI w) = some (V 209 (6 + 5 * n + w)) := fun n w a b => of_eq V a b
  rw [f_X10_allKnots, show (0 : Int32) = nI 0 from rfl, show (1 : Int32) = nI 1 from rfl, show (2 : Int32) = nI 2 from rfl, o 0 0 (by decide) (by decide), bs, o 0 1 (by decide) (by decide), bs, bits_eq, bs, o 1 0 (by decide) (by decide), bs, o 1 1 (by decide) (by decide), bs, bits_eq, bs, o 2 0 (by decide) (by decide), bs, o 2 1 (by decide) (by decide), bs, bits_eq, bs, nI_add, nI_add]
  rfl
theorem ac_m {V : St} (hG : GG (V 209)) : ∃ V1, f_X10_allChapters V = some (nI (nch (V 209) 0 + nch (V 209) 1 + nch (V 209) 2), V1) ∧ Fq V V1 ∧ V1 208 0 = V 208 0 := by
  obtain ⟨V1, a1, a2, a3⟩ := co_m hG (n := 0) (by decide)
  have e1 : V1 209 = V 209 := a2.1 209 (by decide)
  obtain ⟨V2, b1, b2, b3⟩ := co_m (V := V1) (by rw [e1]; exact hG) (n := 1) (by decide)
  have e2 : V2 209 = V 209 := (b2.1 209 (by decide)).trans e1
  obtain ⟨V3, c1, c2, c3⟩ := co_m (V := V2) (by rw [e2]; exact hG) (n := 2) (by decide)
  refine ⟨V3, ?_, (a2.tr b2).tr c2, c3.trans (b3.trans a3)⟩
  have a1 : f_X10_chaptersOf V 0 = _ := a1
  have b1 : f_X10_chaptersOf V1 1 = _ := b1
  have c1 : f_X10_chaptersOf V2 2 = _ := c1
  rw [f_X10_allChapters, a1, bs, b1, bs, c1, bs, e1, e2, nI_add, nI_add]
theorem tw_loop {Vc U : St} {g : Nat → Int32} (hS : SR Vc 1 g) (hU : U 209 = g) {m : Nat} (hm4 : m ≤ 4) (hm : g 1 = nI m) : ∀ (f i : Nat) (x : Int32), i ≤ m → m < f + i → ∃ r, f_X8_sumTwine_b4 f Vc 1 x (nI i) = some r ∧ f_X10_allTwine_b4 f U x (nI i) = some r
  | 0, i, x, h1, h2 => by omega
  | f + 1, i, x, h1, h2 => by
    rw [f_X8_sumTwine_b4, f_X10_allTwine_b4, hS.1.2.1, hU, hm]
    by_cases e : i = m
    · subst e
      rw [if_pos (show nI i ≤ nI i from nI_le (Nat.le_refl _) (by omega)), if_pos (show nI i ≤ nI i from nI_le (Nat.le_refl _) (by omega))]
      exact ⟨x, rfl, rfl⟩
    · have hi : i < m := by omega
      have i1 : (21 : Int32) + 2 * nI i = nI (21 + 2 * i + 0) := by rw [show (21 : Int32) = nI 21 from rfl, show (2 : Int32) = nI 2 from rfl, pk_mul, nI_add]
      rw [if_neg (nI_ge hi (by omega)), if_neg (nI_ge hi (by omega)), ed_eq _ _ (by omega), bs, hS.2.2.1 i 0 (by omega) (by decide), i1, ix_nI (by omega) (by decide), bs, nI_1]
      have := tw_loop hS hU hm4 hm f (i + 1) (x + g (21 + 2 * i + 0)) (by omega) (by omega)
      rw [← hU] at this ⊢
      exact this
theorem an_loop {Vc : St} {g : Nat → Int32} (hS : SR Vc 1 g) (hg : GG g) {m : Nat} (hm6 : m ≤ 6) (hm : g 2 = nI m) : ∀ (f i c : Nat) (U : St), U 209 = g → i ≤ m → m < f + i → ∃ r U1, f_X8_countAsNoted_b4 f Vc 1 (nI c) (nI i) = some r ∧ f_X10_readSo_b4 f U (nI c) (nI i) = some (r, U1) ∧ Fq U U1 ∧ U1 208 0 = U 208 0
  | 0, i, c, U, hU, h1, h2 => by omega
  | f + 1, i, c, U, hU, h1, h2 => by
    rw [f_X8_countAsNoted_b4, f_X10_readSo_b4, hS.1.2.2.1, hU, hm]
    by_cases e : i = m
    · subst e
      rw [if_pos (show nI i ≤ nI i from nI_le (Nat.le_refl _) (by omega)), if_pos (show nI i ≤ nI i from nI_le (Nat.le_refl _) (by omega))]
      exact ⟨nI c, U, rfl, rfl, Fq.rf _, rfl⟩
    · have hi : i < m := by omega
      obtain ⟨n, S, y, z, h⟩ := nts hS hg hm6 hm hi
      obtain ⟨b, b1, b2⟩ := rdn hS hg h
      obtain ⟨U1, u1, u2, u3, u4⟩ := b2 U hU
      rw [if_neg (nI_ge hi (by omega)), if_neg (nI_ge hi (by omega)), no_eq _ _ (by omega), bs, b1, bs, u1, bs]
      have ih := fun c => an_loop hS hg hm6 hm f (i + 1) c U1 u4 (by omega) (by omega)
      cases b
      · rw [if_pos (show bI false = 0 by decide), if_pos (show (bI false, U1).1 = 0 by decide)]
        obtain ⟨r, U2, q1, q2, q3, q4⟩ := ih c
        refine ⟨r, U2, ?_, ?_, u2.tr q3, q4.trans u3⟩
        · show f_X8_countAsNoted_b4 f Vc 1 (nI c + 0) (nI i + 1) = _
          rw [nI_1, Int32.add_zero, q1]
        · show f_X10_readSo_b4 f U1 (nI c + 0) (nI i + 1) = _
          rw [nI_1, Int32.add_zero, q2]
      · rw [if_neg (show ¬ bI true = 0 by decide), if_neg (show ¬ (bI true, U1).1 = 0 by decide)]
        obtain ⟨r, U2, q1, q2, q3, q4⟩ := ih (c + 1)
        refine ⟨r, U2, ?_, ?_, u2.tr q3, q4.trans u3⟩
        · show f_X8_countAsNoted_b4 f Vc 1 (nI c + 1) (nI i + 1) = _
          rw [nI_1, nI_1, q1]
        · show f_X10_readSo_b4 f U1 (nI c + 1) (nI i + 1) = _
          rw [nI_1, nI_1, q2]
theorem s_account (x1 : Int32) : SIM (RO fun V => f_X9_account V x1) (fun V => f_X10_account V x1) [(3, 1)] := by
  refine q_rro fun Vc Vm hR => ?_
  have hS := hR.1.1
  have hG := hR.1.2
  obtain ⟨V0, hV0⟩ : ∃ V0, V0 = up Vm 208 0 0 := ⟨_, rfl⟩
  have h0 : V0 208 0 = 0 := by rw [hV0, up_self]
  have h9 : V0 209 = Vm 209 := by rw [hV0, up_at (by decide)]
  have h8 : ∀ j, 1 ≤ j → V0 208 j = Vm 208 j := fun j hj => by rw [hV0, up_ne _ (fun _ => by omega)]
  have hF : Fq Vm V0 := by rw [hV0]; exact Fq.t _ _
  have hG0 : GG (V0 209) := by rw [h9]; exact hG
  rw [f_X9_account, f_X10_account, ← hV0]
  by_cases e : x1 = 0
  · rw [if_pos e, if_pos e, ck_c hS hG, bs, ak_m, bs, h9]
    exact ⟨_, _, V0, rfl, rfl, hF, Ans.ok h0⟩
  rw [if_neg e, if_neg e]
  by_cases e : x1 = 1
  · obtain ⟨V1, u1, u2, u3⟩ := ac_m hG0
    rw [if_pos e, if_pos e, ca_c hS hG, bs, u1, bs, h9]
    exact ⟨_, _, V1, rfl, rfl, hF.tr u2, Ans.ok (u3.trans h0)⟩
  rw [if_neg e, if_neg e]
  by_cases e : x1 = 2
  · have t := fun n (hn : n < 3) => ti_m (V := V0) hn
    have t0 : f_X10_tornIn V0 0 = _ := t 0 (by decide)
    have t1 : f_X10_tornIn V0 1 = _ := t 1 (by decide)
    have t2 : f_X10_tornIn V0 2 = _ := t 2 (by decide)
    rw [if_pos e, if_pos e, ct_a hS hG, bs, t0, bs, t1, bs, t2, bs, h9, nI_add, nI_add]
    exact ⟨_, _, V0, rfl, rfl, hF, Ans.ok h0⟩
  rw [if_neg e, if_neg e]
  by_cases e : x1 = 3
  · rw [if_pos e, if_pos e, hS.1.2.1, h9]
    exact ⟨_, _, V0, rfl, rfl, hF, Ans.ok h0⟩
  rw [if_neg e, if_neg e]
  by_cases e : x1 = 4
  · obtain ⟨m, m4, hm⟩ := hG.2.1
    obtain ⟨r, r1, r2⟩ := tw_loop hS h9 m4 hm 500 0 0 (Nat.zero_le _) (by omega)
    have r1 : f_X8_sumTwine Vc 1 = some r := r1
    have r2 : f_X10_allTwine V0 = some r := r2
    rw [if_pos e, if_pos e, r1, bs, r2, bs]
    exact ⟨_, _, V0, rfl, rfl, hF, Ans.ok h0⟩
  rw [if_neg e, if_neg e]
  by_cases e : x1 = 5
  · rw [if_pos e, if_pos e, hS.1.2.2.1, h9]
    exact ⟨_, _, V0, rfl, rfl, hF, Ans.ok h0⟩
  rw [if_neg e, if_neg e]
  by_cases e : x1 = 6
  · obtain ⟨m, m6, hm, -⟩ := hG.2.2.1
    obtain ⟨r, U1, r1, r2, r3, r4⟩ := an_loop hS hG m6 hm 500 0 0 V0 h9 (Nat.zero_le _) (by omega)
    have r1 : f_X8_countAsNoted Vc 1 = some r := r1
    have r2 : f_X10_readSo V0 = some (r, U1) := r2
    rw [if_pos e, if_pos e, r1, bs, r2, bs]
    exact ⟨_, _, U1, rfl, rfl, hF.tr r3, Ans.ok (r4.trans h0)⟩
  rw [if_neg e, if_neg e]
  by_cases e : x1 = 7
  · rw [if_pos e, if_pos e, hS.1.1, h9]
    exact ⟨_, _, V0, rfl, rfl, hF, Ans.ok h0⟩
  rw [if_neg e, if_neg e]
  by_cases e : x1 = 8
  · rw [if_pos e, if_pos e, hS.1.2.2.2.1, h9]
    exact ⟨_, _, V0, rfl, rfl, hF, Ans.ok h0⟩
  rw [if_neg e, if_neg e]
  by_cases e : x1 = 9
  · rw [if_pos e, if_pos e, hS.1.2.2.2.2.1, h9]
    exact ⟨_, _, V0, rfl, rfl, hF, Ans.ok h0⟩
  rw [if_neg e, if_neg e]
  by_cases e : x1 = 10
  · rw [if_pos e, if_pos e, hS.1.2.2.2.2.2, h9]
    exact ⟨_, _, V0, rfl, rfl, hF, Ans.ok h0⟩
  rw [if_neg e, if_neg e]
  by_cases e : x1 = 11
  · obtain ⟨n, -, n2, n3, -⟩ := hR.2.2.2.1
    rw [if_pos e, if_pos e, n2, h8 10 (by decide), n3]
    exact ⟨_, _, V0, rfl, rfl, hF, Ans.ok h0⟩
  rw [if_neg e, if_neg e]
  by_cases e : x1 = 12
  · obtain ⟨c, G, -, ⟨o, -, -, k1, -⟩, k2, -⟩ := hR.2.1
    rw [if_pos e, if_pos e, k1, h8 5 (by decide), k2.1]
    exact ⟨_, _, V0, rfl, rfl, hF, Ans.ok h0⟩
  rw [if_neg e, if_neg e]
  exact ⟨.error 3, 0, up V0 208 0 1, rfl, rfl, hF.tr (Fq.t _ _), Ans.er (by simp) (by decide) (up_self _ _ _ _)⟩
/-! isBalanced -/
theorem SR.f1 {V V1 : St} {g : Nat → Int32} (h : SR V 1 g) (f : F191 V V1) : SR V1 1 g := h.fr fun k a b => f k (by omega)
theorem ac_loop {g : Nat → Int32} (hg : GG g) {V : St} (hS : SR V 1 g) : ∃ V1, f_X8_areChaptersToldAlike V 1 = some (1, V1) ∧ F191 V V1 := by
  have st : ∀ m c n (V : St), SR V 1 g → n < 3 → ∃ V1, f_X8_areChaptersToldAlike_b4 (m + 1) V 1 (nI c) (nI n) = f_X8_areChaptersToldAlike_b4 m V1 1 (nI (c + nch g n)) (nI (n + 1)) ∧ F191 V V1 := by
    intro m c n V hS hn
    obtain ⟨V1, c1, c2⟩ := cs_s hS hg hn
    refine ⟨V1, ?_, c2⟩
    rw [f_X8_areChaptersToldAlike_b4, if_neg (show ¬ (3 : Int32) ≤ nI n from nI_ge (b := 3) hn (by decide)), net_eq V 1 hn, bs, c1, bs, nI_1, nI_add]
  obtain ⟨V1, a1, a2⟩ := st 499 0 0 V hS (by decide)
  obtain ⟨V2, b1, b2⟩ := st 498 (0 + nch g 0) 1 V1 (hS.f1 a2) (by decide)
  obtain ⟨V3, c1, c2⟩ := st 497 (0 + nch g 0 + nch g 1) 2 V2 ((hS.f1 a2).f1 b2) (by decide)
  refine ⟨V3, a1.trans (b1.trans (c1.trans ?_)), (a2.tr b2).tr c2⟩
  rw [f_X8_areChaptersToldAlike_b4, if_pos (by decide), ca_c (((hS.f1 a2).f1 b2).f1 c2) hg, bs, if_pos (by rw [Nat.zero_add])]
theorem al_loop {g : Nat → Int32} (hg : GG g) {m : Nat} (hm6 : m ≤ 6) (hm : g 2 = nI m) : ∀ (f i : Nat) (V : St), SR V 1 g → i ≤ m → m < f + i → ∃ V1, f_X8_areNotesToldAlike_b2 f V 1 (nI i) = some (1, V1) ∧ F191 V V1
  | 0, i, V, hS, h1, h2 => by omega
  | f + 1, i, V, hS, h1, h2 => by
    rw [f_X8_areNotesToldAlike_b2, hS.1.2.2.1, hm]
    by_cases e : i = m
    · subst e
      rw [if_pos (show nI i ≤ nI i from nI_le (Nat.le_refl _) (by omega))]
      exact ⟨V, rfl, F191.rf _⟩
    · have hi : i < m := by omega
      obtain ⟨n, S, y, z, h⟩ := nts hS hg hm6 hm hi
      rw [if_neg (nI_ge hi (by omega)), no_eq _ _ (by omega), bs]
      rcases ltl hS hg h with ⟨c1, -⟩ | ⟨t, V1, ht, c1, c2, c3, c4, -⟩
      · rw [c1, bs, if_pos rfl]
        show ∃ V1, f_X8_areNotesToldAlike_b2 f V 1 (nI i + 1) = _ ∧ _
        rw [nI_1]
        exact al_loop hg hm6 hm f (i + 1) V hS (by omega) (by omega)
      · have h' : NT V1 g i n S y z := by
          obtain ⟨q0, q1, q2, q3, q4, q5, q6, q7, q8, q9, q10⟩ := h
          have := c3 (1 + 11 + i) (by omega)
          exact ⟨q0, q1, q2, q3, q4, q5, q6, q7, by rw [this]; exact q8, by rw [this]; exact q9, by rw [this]; exact q10⟩
        have lp : f_X8_leastByPlaces V1 1 (1 + 11 + i) = some (nI t) := by
          obtain ⟨q0, q1, q2, q3, q4, q5, q6, q7, q8, q9, q10⟩ := h
          have hTA : ∀ W : St, SR W 1 g → Sub (W (1 + 4 + n) 2) RT := fun W hW => by rw [hW.2.1 n 2 q0 (by decide)]; exact (hg.2.2.2 n q0).2.2.1
          have hTD : ∀ W : St, SR W 1 g → Sub (W (1 + 4 + n) 3) DN := fun W hW => by rw [hW.2.1 n 3 q0 (by decide)]; exact (hg.2.2.2 n q0).2.2.2.1
          have hS1 := hS.f1 c3
          obtain ⟨tw, t1, t2⟩ := lpl_eq q7 (hTA V hS) (hTD V hS)
          obtain ⟨tw', t1', t2'⟩ := lpl_eq q7 (hTA V1 hS1) (hTD V1 hS1)
          rw [c3 (1 + 4 + n) (by omega)] at t2'
          have et : tw' = tw := by omega
          obtain ⟨r0, r1, r2, r3, r4, r5, r6, r7, r8, r9, r10⟩ := h'
          have pl : ∀ W : St, W (1 + 11 + i) 1 = y → W (1 + 11 + i) 2 = z → f_X4_places W (1 + 11 + i) = some S := fun W w1 w2 => by rw [f_X4_places, w1, w2, q6]
          have a1 : f_X8_leastByPlaces V 1 (1 + 11 + i) = some (nI tw) := by rw [f_X8_leastByPlaces, q8, net_eq _ _ q0, bs, pl V q9 q10, bs, t1, bs]
          rw [f_X8_leastByPlaces, r8, net_eq _ _ q0, bs, pl V1 r9 r10, bs, t1', bs, et, ← a1, c4]
        rw [c1, bs, if_neg (by decide), c2, bs]
        show ∃ V2, ((f_X8_leastByPlaces V1 1 (1 + 11 + i)).bind _) = _ ∧ _
        rw [lp, bs, if_pos rfl]
        show ∃ V2, f_X8_areNotesToldAlike_b2 f V1 1 (nI i + 1) = _ ∧ _
        rw [nI_1]
        obtain ⟨V2, d1, d2⟩ := al_loop hg hm6 hm f (i + 1) V1 (hS.f1 c3) (by omega) (by omega)
        exact ⟨V2, d1, c3.tr d2⟩
theorem t_bal {V : St} (hR : RR V V) : ∃ V1, k_31 V = some V1 ∧ RR V1 V1 := by
  have hS := hR.1.1
  have hG := hR.1.2
  obtain ⟨V1, a1, a2⟩ := ac_loop hG hS
  obtain ⟨m, m6, hm, -⟩ := id hG.2.2.1
  obtain ⟨V2, b1, b2⟩ := al_loop hG m6 hm 500 0 V1 (hS.f1 a2) (Nat.zero_le _) (by omega)
  have b1 : f_X8_areNotesToldAlike V1 1 = some (1, V2) := b1
  have hS2 : SR V2 1 (V 209) := (hS.f1 a2).f1 b2
  obtain ⟨T, hT⟩ : ∃ T, T = ntn (V 209) 0 + ntn (V 209) 1 + ntn (V 209) 2 := ⟨_, rfl⟩
  have fV : F191 V V2 := a2.tr b2
  have e9 : V2 209 = V 209 := fV 209 (by decide)
  have c1 : f_X9_isBalanced V = if V 209 3 = nI T + V 209 4 then some (1, V2) else some (0, V2) := by
    rw [f_X9_isBalanced, a1, bs, if_neg (by show ¬ (1 : Int32) = 0; decide)]
    show ((f_X8_areNotesToldAlike V1 1).bind _) = _
    rw [b1, bs, if_neg (by show ¬ (1 : Int32) = 0; decide)]
    show ((f_X8_countTorn V2 1).bind _) = _
    rw [ct_a hS2 hG, bs, ← hT, hS2.1.2.2.2.1, hS2.1.2.2.2.2.1]
  have u9 : up V2 208 0 0 209 = V 209 := by rw [up_at (by decide), e9]
  have m1 : f_X10_isBalanced V2 = if V 209 3 = nI T + V 209 4 then some (1, up V2 208 0 0) else some (0, up V2 208 0 0) := by
    have t := fun n (hn : n < 3) => ti_m (V := up V2 208 0 0) hn
    have t0 : f_X10_tornIn (up V2 208 0 0) 0 = _ := t 0 (by decide)
    have t1 : f_X10_tornIn (up V2 208 0 0) 1 = _ := t 1 (by decide)
    have t2 : f_X10_tornIn (up V2 208 0 0) 2 = _ := t 2 (by decide)
    have ea : ((V 209 4 + nI (ntn (V 209) 0)) + nI (ntn (V 209) 1)) + nI (ntn (V 209) 2) = nI T + V 209 4 := by
      rw [Int32.add_assoc, Int32.add_assoc, nI_add, nI_add, Int32.add_comm, hT, Nat.add_assoc]
    rw [f_X10_isBalanced, t0, bs, t1, bs, t2, bs, u9, ea]
  have r1 : RR V2 (up V2 208 0 0) := (hR.qq fV (Fq.rf _)).cg (fun _ _ => rfl) (fun k a b => fV k (by omega)) |>.qq (F191.rf _) (Fq.t _ _)
  refine ⟨up V2 208 0 0, ?_, r1.cg (fun k hk => up_at (by omega)) (fun _ _ _ => rfl)⟩
  rw [k_31, c1]
  by_cases z : V 209 3 = nI T + V 209 4
  · rw [if_pos z] at m1 ⊢
    rw [bs]
    show ((f_X10_isBalanced V2).bind _) = _
    rw [m1, bs, if_pos rfl]
  · rw [if_neg z] at m1 ⊢
    rw [bs]
    show ((f_X10_isBalanced V2).bind _) = _
    rw [m1, bs, if_pos rfl]
/-! the mean and the share -/
theorem dv_dec : ∀ a : Fin 73, ∀ b : Fin 72, (dv (FP.i2d (nI a.val)) (FP.i2d (nI (b.val + 1)))).isSome = true := by decide +kernel
theorem dv_ok {a b : Nat} (ha : a ≤ 72) (hb : b ≤ 72) (h0 : ¬ b = 0) : ∃ q, dv (FP.i2d (nI a)) (FP.i2d (nI b)) = some q := by
  have h := dv_dec ⟨a, by omega⟩ ⟨b - 1, by omega⟩
  rw [show (⟨b - 1, by omega⟩ : Fin 72).val + 1 = b from by show b - 1 + 1 = b; omega] at h
  exact Option.isSome_iff_exists.mp h
def fdk (a b : Int32) : Bool := match fv (FP.i2f a) (FP.i2f b) with
  | none => false
  | some r => match fdv r with
    | none => false
    | some D => decide (dcm D D = 0)
theorem fv_dec : ∀ a : Fin 73, ∀ b : Fin 72, fdk (nI a.val) (nI (b.val + 1)) = true := by decide +kernel
theorem fv_ok {a b : Nat} (ha : a ≤ 72) (hb : b ≤ 72) (h0 : ¬ b = 0) : ∃ r D, fv (FP.i2f (nI a)) (FP.i2f (nI b)) = some r ∧ fdv r = some D ∧ dcm D D = 0 := by
  have h := fv_dec ⟨a, by omega⟩ ⟨b - 1, by omega⟩
  rw [show (⟨b - 1, by omega⟩ : Fin 72).val + 1 = b from by show b - 1 + 1 = b; omega] at h
  unfold fdk at h
  have h : (match fv (FP.i2f (nI a)) (FP.i2f (nI b)) with
    | none => false
    | some r => match fdv r with
      | none => false
      | some D => decide (dcm D D = 0)) = true := h
  cases e : fv (FP.i2f (nI a)) (FP.i2f (nI b)) with
  | none => rw [e] at h; cases h
  | some r =>
    rw [e] at h
    cases e2 : fdv r with
    | none =>
      have h : (match fdv r with
        | none => false
        | some D => decide (dcm D D = 0)) = true := h
      rw [e2] at h
      cases h
    | some D =>
      have h : (match fdv r with
        | none => false
        | some D => decide (dcm D D = 0)) = true := h
      rw [e2] at h
      exact ⟨r, D, rfl, e2, of_decide_eq_true h⟩
theorem nkn_le (g : Nat → Int32) (n : Nat) : nkn g n ≤ 24 := nb_le _
theorem nrd_le (g : Nat → Int32) (n : Nat) : nrd g n ≤ 24 := nb_le _
theorem t_mean {V : St} (hR : RR V V) : ∃ V1, k_28 V = some V1 ∧ RR V1 V1 := by
  have hS := hR.1.1
  have hG := hR.1.2
  obtain ⟨N, hN⟩ : ∃ N, N = nch (V 209) 0 + nch (V 209) 1 + nch (V 209) 2 := ⟨_, rfl⟩
  obtain ⟨K, hK⟩ : ∃ K, K = nkn (V 209) 0 + nkn (V 209) 1 + nkn (V 209) 2 := ⟨_, rfl⟩
  have n72 : N ≤ 72 := by
    have a := nch_le (V 209) 0
    have b := nch_le (V 209) 1
    have c := nch_le (V 209) 2
    omega
  have k72 : K ≤ 72 := by
    have a := nkn_le (V 209) 0
    have b := nkn_le (V 209) 1
    have c := nkn_le (V 209) 2
    omega
  have mm : ∀ U : St, U 209 = V 209 → ∃ U1, f_X10_allChapters U = some (nI N, U1) ∧ Fq U U1 ∧ U1 208 0 = U 208 0 ∧ f_X10_allKnots U = some (nI K) := by
    intro U hU
    obtain ⟨U1, a, b, c⟩ := ac_m (V := U) (by rw [hU]; exact hG)
    rw [hU, ← hN] at a
    exact ⟨U1, a, b, c, by rw [ak_m, hU, hK]⟩
  by_cases z : N = 0
  · have c1 : f_L_meanKnots V = some (1, V) := by
      rw [f_L_meanKnots, f_X9_meanKnots, ca_c hS hG, bs, ← hN, z, if_pos (by decide)]
      rfl
    obtain ⟨U1, u1, u2, u3, u4⟩ := mm V rfl
    have m1 : f_X10_meanKnots V = some (FP.dconst0, up U1 208 0 1) := by
      rw [f_X10_meanKnots, u1, bs, z, if_pos (by show nI 0 = 0; decide)]
      show f_X10_meanKnots_b13 U1 1 = _
      rw [f_X10_meanKnots_b13, up_self, if_neg (by decide)]
    refine ⟨up U1 208 0 1, ?_, hR.self (u2.tr (Fq.t _ _))⟩
    rw [k_28, c1, bs]
    show ((f_X10_meanKnots V).bind _) = _
    rw [m1, bs, f_X10_thrown, bs, up_self, if_pos rfl, if_neg (by show ¬ (1 : Int32) = 0; decide)]
  · obtain ⟨q, hq⟩ := dv_ok k72 n72 z
    have zz : ¬ nI N = 0 := fun e => z ((nI_eq (b := 0) (by omega) (by decide)).mp e)
    obtain ⟨V0, hV0⟩ : ∃ V0, V0 = up (up V 217 0 (dlo q)) 217 1 (dhi q) := ⟨_, rfl⟩
    have vk : ∀ k, k ≠ 217 → V0 k = V k := fun k hk => by rw [hV0, up_at hk, up_at hk]
    have c1 : f_L_meanKnots V = some (0, V0) := by
      rw [f_L_meanKnots, f_X9_meanKnots, ca_c hS hG, bs, ← hN, if_neg zz, ck_c hS hG, bs, ← hK, hq, hV0]
      rfl
    obtain ⟨U1, u1, u2, u3, u4⟩ := mm V0 (vk 209 (by decide))
    obtain ⟨U2, w1, w2, w3, w4⟩ := mm (up U1 208 0 0) (by rw [up_at (by decide), u2.1 209 (by decide), vk 209 (by decide)])
    have m1 : f_X10_meanKnots V0 = some (q, U2) := by
      rw [f_X10_meanKnots, u1, bs, if_neg zz]
      show f_X10_meanKnots_b13 U1 0 = _
      rw [f_X10_meanKnots_b13, up_self, if_pos (by decide), w4, bs, w1, bs, hq, bs]
    have fq : Fq V0 U2 := (u2.tr (Fq.t _ _)).tr w2
    have t0 : U2 208 0 = 0 := w3.trans (up_self _ _ _ _)
    have e7 : U2 217 = V0 217 := fq.1 217 (by decide)
    have g1 : U2 217 0 = dlo q := by rw [e7, hV0, up_ne _ (fun _ => by decide), up_self]
    have g2 : U2 217 1 = dhi q := by rw [e7, hV0, up_self]
    have r0 : RR V0 V0 := hR.cg (fun k hk => vk k (by omega)) (fun k a b => vk k (by omega))
    refine ⟨U2, ?_, r0.self fq⟩
    rw [k_28, c1, bs]
    show ((f_X10_meanKnots V0).bind _) = _
    rw [m1, bs, f_X10_thrown, bs, t0, if_pos rfl, if_pos rfl, g1, g2, dmk_bit]
    show (if dcm q q = 0 then some U2 else if dcm q q = 0 then none else if dcm q q = 0 then none else some U2) = some U2
    by_cases d : dcm q q = 0
    · rw [if_pos d]
    · rw [if_neg d, if_neg d, if_neg d]
theorem t_share {V : St} (hR : RR V V) : ∃ V1, k_29 V = some V1 ∧ RR V1 V1 := by
  have hS := hR.1.1
  have hG := hR.1.2
  obtain ⟨N, hN⟩ : ∃ N, N = nkn (V 209) 0 + nkn (V 209) 1 + nkn (V 209) 2 := ⟨_, rfl⟩
  obtain ⟨K, hK⟩ : ∃ K, K = nrd (V 209) 0 + nrd (V 209) 1 + nrd (V 209) 2 := ⟨_, rfl⟩
  have n72 : N ≤ 72 := by
    have a := nkn_le (V 209) 0
    have b := nkn_le (V 209) 1
    have c := nkn_le (V 209) 2
    omega
  have k72 : K ≤ 72 := by
    have a := nrd_le (V 209) 0
    have b := nrd_le (V 209) 1
    have c := nrd_le (V 209) 2
    omega
  have mk : ∀ U : St, U 209 = V 209 → f_X10_allKnots U = some (nI N) := fun U hU => by rw [ak_m, hU, hN]
  by_cases z : N = 0
  · have c1 : f_L_readShare V = some (1, V) := by
      rw [f_L_readShare, f_X9_readShare, ck_c hS hG, bs, ← hN, z, if_pos (by decide)]
      rfl
    have m1 : f_X10_readShare V = some (FP.fconst0, up V 208 0 1) := by
      rw [f_X10_readShare, mk V rfl, bs, z, if_pos (by decide), f_X10_readShare_b13, up_self, if_neg (by decide)]
    refine ⟨up V 208 0 1, ?_, hR.self (Fq.t _ _)⟩
    rw [k_29, c1, bs]
    show ((f_X10_readShare V).bind _) = _
    rw [m1, bs, f_X10_thrown, bs, up_self, if_pos rfl, if_neg (by show ¬ (1 : Int32) = 0; decide)]
  · obtain ⟨r, D, hr, hD, hd⟩ := fv_ok k72 n72 z
    have zz : ¬ nI N = 0 := fun e => z ((nI_eq (b := 0) (by omega) (by decide)).mp e)
    obtain ⟨V0, hV0⟩ : ∃ V0, V0 = up (up V 217 0 (dlo D)) 217 1 (dhi D) := ⟨_, rfl⟩
    have vk : ∀ k, k ≠ 217 → V0 k = V k := fun k hk => by rw [hV0, up_at hk, up_at hk]
    have c1 : f_L_readShare V = some (0, V0) := by
      rw [f_L_readShare, f_X9_readShare, ck_c hS hG, bs, ← hN, if_neg zz, cr_c hS hG, bs, ← hK, hr, bs, bs]
      show ((fdv r).bind fun q2 => some (0, up (up V 217 0 (dlo q2)) 217 1 (dhi q2))) = _
      rw [hD, bs, hV0]
    have v9 : (up V0 208 0 0) 209 = V 209 := by rw [up_at (by decide), vk 209 (by decide)]
    have rd := fun n (hn : n < 3) => rd_m (V := up V0 208 0 0) (n := n) (by rw [v9]; exact hG) hn
    have r0 : f_X10_readable (up V0 208 0 0) 0 = _ := rd 0 (by decide)
    have r1 : f_X10_readable (up V0 208 0 0) 1 = _ := rd 1 (by decide)
    have r2 : f_X10_readable (up V0 208 0 0) 2 = _ := rd 2 (by decide)
    have m1 : f_X10_readShare V0 = some (r, up V0 208 0 0) := by
      rw [f_X10_readShare, mk V0 (vk 209 (by decide)), bs, if_neg zz, f_X10_readShare_b13, up_self, if_pos (by decide), r0, bs, r1, bs, r2, bs, mk _ v9, bs, v9, nI_add, nI_add, ← hK, hr, bs]
    have g1 : (up V0 208 0 0) 217 0 = dlo D := by rw [up_at (by decide), hV0, up_ne _ (fun _ => by decide), up_self]
    have g2 : (up V0 208 0 0) 217 1 = dhi D := by rw [up_at (by decide), hV0, up_self]
    have rr : RR V0 V0 := hR.cg (fun k hk => vk k (by omega)) (fun k a b => vk k (by omega))
    refine ⟨up V0 208 0 0, ?_, rr.self (Fq.t _ _)⟩
    rw [k_29, c1, bs]
    show ((f_X10_readShare V0).bind _) = _
    rw [m1, bs, f_X10_thrown, bs, up_self, if_pos rfl, if_pos rfl]
    show ((fdv r).bind _) = _
    rw [hD, bs, g1, g2, dmk_bit, if_pos hd]
/-! lines -/
def LW (n : Nat) (V U : St) : Prop := V 205 1 = nI n ∧ U 208 11 = nI n ∧ ∀ j, j < n → ∃ c, c < 128 ∧ V 206 j = nI c ∧ U 215 j = nI c
def FLc (V V1 : St) : Prop := ∀ k, k ≠ 205 → k ≠ 206 → V1 k = V k
def FLm (U U1 : St) : Prop := (∀ k, k ≠ 208 → k ≠ 215 → U1 k = U k) ∧ ∀ j, j ≠ 11 → U1 208 j = U 208 j
theorem FLc.rf (V : St) : FLc V V := fun _ _ _ => rfl
theorem FLm.rf (V : St) : FLm V V := ⟨fun _ _ _ => rfl, fun _ _ => rfl⟩
theorem FLc.tr {V V1 V2 : St} (h : FLc V V1) (h2 : FLc V1 V2) : FLc V V2 := fun k a b => (h2 k a b).trans (h k a b)
theorem FLm.tr {V V1 V2 : St} (h : FLm V V1) (h2 : FLm V1 V2) : FLm V V2 := ⟨fun k a b => (h2.1 k a b).trans (h.1 k a b), fun j a => (h2.2 j a).trans (h.2 j a)⟩
theorem RR.ln {Vc Vm V1 U1 : St} {m : Nat} (h : RR Vc Vm) (a : FLc Vc V1) (b : ∀ k, k ≠ 208 → k ≠ 215 → U1 k = Vm k) (d : ∀ j, 1 ≤ j → j ≠ 11 → (j < 17 ∨ 21 < j) → U1 208 j = Vm 208 j) (w : LW m V1 U1) (hm : m ≤ 25) : RR V1 U1 := by
  obtain ⟨h1, h2, h3, h4, h5, h6, h7⟩ := h
  exact ⟨h1.fr (fun k _ k2 => a k (by omega) (by omega)) (b 209 (by decide) (by decide)), h2.fr (fun k _ k2 => a k (by omega) (by omega)) (d 5 (by decide) (by decide) (by decide)) (b 212 (by decide) (by decide)), h3.fr (by rw [a 0 (by decide) (by decide)]) (fun k _ k2 => a k (by omega) (by omega)) (d 6 (by decide) (by decide) (by decide)) (b 211 (by decide) (by decide)), h4.fr (by rw [a 192 (by decide) (by decide)]) (a 193 (by decide) (by decide)) (d 10 (by decide) (by decide) (by decide)) (b 213 (by decide) (by decide)), ⟨m, hm, w⟩, h6.fr (a 207 (by decide) (by decide)) (fun j j1 j2 => d j (by omega) (by omega) (Or.inl j2)), h7.fr (by rw [a 0 (by decide) (by decide)]) (d 12 (by decide) (by decide) (by decide))⟩
theorem wr1 {n c : Nat} {V U : St} (h : LW n V U) (hn : n < 25) (hc : c < 128) : ∃ V1 U1, f_X2_append V (nI c) = some V1 ∧ f_X10_writes U (nI c) = some U1 ∧ LW (n + 1) V1 U1 ∧ FLc V V1 ∧ FLm U U1 := by
  obtain ⟨h1, h2, h3⟩ := h
  refine ⟨up (up V 206 n (nI c)) 205 1 (nI (n + 1)), up (up U 215 n (nI c)) 208 11 (nI (n + 1)), ?_, ?_, ⟨up_self _ _ _ _, up_self _ _ _ _, fun j hj => ?_⟩, fun k a b => by rw [up_at a, up_at b], fun k a b => by rw [up_at a, up_at b], fun j hj => by rw [up_ne _ (fun _ => hj), up_at (by decide)]⟩
  · rw [f_X2_append, h1, if_neg (nI_pos (by omega)), if_neg (show ¬ (25 : Int32) ≤ nI n from nI_ge (b := 25) hn (by decide)), ix_nI hn (by decide), bs, (c128 hc).1, up_at (show 205 ≠ 206 by decide), h1, nI_1]
  · rw [f_X10_writes, h2, ix_nI (show n < 60 by omega) (by decide), bs, up_at (show 208 ≠ 215 by decide), h2, nI_1]
  · rw [up_at (show 206 ≠ 205 by decide), up_at (show 215 ≠ 208 by decide)]
    by_cases e : j = n
    · subst e
      exact ⟨c, hc, up_self _ _ _ _, up_self _ _ _ _⟩
    · rw [up_ne _ (fun _ => e), up_ne _ (fun _ => e)]
      exact h3 j (by omega)
def ltr (a b : Bool) : Nat := if a = true then (if b = true then 99 else 97) else (if b = true then 98 else 46)
theorem ltr_lt (a b : Bool) : ltr a b < 128 := by cases a <;> cases b <;> decide
theorem let_m (a b : Bool) : f_X10_letter (kv a b) = some (nI (ltr a b)) := by cases a <;> cases b <;> decide +kernel
theorem let_c (a b : Bool) (h : ¬ kv a b = 0) : f_X9_letterOf (kv a b) = some (nI (ltr a b)) := by
  cases a <;> cases b
  · exact absurd rfl h
  · decide +kernel
  · decide +kernel
  · decide +kernel
theorem ltr_0 {a b : Bool} (h : kv a b = 0) : ltr a b = 46 := by
  cases a <;> cases b
  · rfl
  · exact absurd h (by decide)
  · exact absurd h (by decide)
  · exact absurd h (by decide)
/-! a line of a net -/
theorem b44_eq (c : St → Nat → Int32 → Int32 → Option St) (V : St) (k : Nat) (x1 : Int32) {col p : Nat} (hp : p < 24) : f_X3_writeLine_b44 c V k x1 (nI col) (nI p) = (f_X2_append V (nI (ltr (bt (V k 0) p) (bt (V k 1) p)))).bind fun q1 => c q1 k x1 (nI (col + 1)) := by
  rw [f_X3_writeLine_b44, kd_c _ _ hp, bs]
  by_cases e : kv (bt (V k 0) p) (bt (V k 1) p) = 0
  · rw [if_pos e, f_X3_writeLine_b68, ltr_0 e, nI_1]
    rfl
  · rw [if_neg e, let_c _ _ e, bs, f_X3_writeLine_b68, nI_1]
def lrest (f' : Nat) (U : St) (x1 x2 x3 : Int32) : Option (Int32 × St) :=
  if 5 ≤ (x3 - x3 / 6 * 6) then f_X10_line_b118 (fun V x1 x2 x3 => f_X10_line_b61 f' V x1 x2 x3) U x1 x2 x3
  else (f_X10_of U x1 2).bind fun q7 => if ((q7 >>> (x3 &&& 31)) &&& 1) = 1 then f_X10_line_b115 (fun V x1 x2 x3 => f_X10_line_b61 f' V x1 x2 x3) U x1 x2 x3 47 else f_X10_line_b115 (fun V x1 x2 x3 => f_X10_line_b61 f' V x1 x2 x3) U x1 x2 x3 45
theorem ln_m6 (num : Nat) : ((6 : Int32) * nI num) + 6 = nI (6 * num + 6) := by
  rw [show (6 : Int32) = nI 6 from rfl, pk_mul, nI_add]
theorem b61_step (f' : Nat) (U : St) {n num c : Nat} (hn : n < 3) (hnum : num < 4) (hc : c < 6) : f_X10_line_b61 (f' + 1) U (nI n) (nI num) (nI (6 * num + c)) = (f_X10_writes U (nI (ltr (bt (U 209 (6 + 5 * n)) (6 * num + c)) (bt (U 209 (6 + 5 * n + 1)) (6 * num + c))))).bind fun q5 => lrest f' q5 (nI n) (nI num) (nI (6 * num + c)) := by
  rw [f_X10_line_b61, ln_m6, if_neg (nI_ge (by omega) (by omega)), kd_m _ hn (by omega), bs, let_m, bs]
  rfl
theorem lr_dec : ∀ p : Fin 24, nI p.val - nI p.val / 6 * 6 = nI (p.val % 6) := by decide +kernel
theorem ln_loop {g : Nat → Int32} {k n num : Nat} (hn : n < 3) (hnum : num < 4) (hk : k ≠ 205 ∧ k ≠ 206) : ∀ (f f' c m : Nat) (V U : St), 1 ≤ c → c ≤ 6 → 6 < f + c → 6 < f' + c → m ≤ 2 * c → LW m V U → V k 0 = g (6 + 5 * n) → V k 1 = g (6 + 5 * n + 1) → V k 2 = g (6 + 5 * n + 2) → U 209 = g →
    ∃ V1 U1 m1, f_X3_writeLine_b2 f V k (nI num) (nI c) = some V1 ∧ lrest f' U (nI n) (nI num) (nI (6 * num + (c - 1))) = some (nI m1, U1) ∧ LW m1 V1 U1 ∧ m1 ≤ 12 ∧ FLc V V1 ∧ FLm U U1
  | 0, _, c, m, V, U, _, _, h1, _, _, _, _, _, _, _ => by omega
  | _, 0, c, m, V, U, _, _, _, h1, _, _, _, _, _, _ => by omega
  | f + 1, f' + 1, c, m, V, U, c1, c6, hf, hf', hm, hW, v0, v1, v2, hU => by
    have dm := lr_dec ⟨6 * num + (c - 1), by omega⟩
    have dm : nI (6 * num + (c - 1)) - nI (6 * num + (c - 1)) / 6 * 6 = nI ((6 * num + (c - 1)) % 6) := dm
    by_cases e : c = 6
    · subst e
      refine ⟨V, U, m, ?_, ?_, hW, by omega, FLc.rf _, FLm.rf _⟩
      · rw [f_X3_writeLine_b2, if_pos (show (6 : Int32) ≤ nI 6 by decide)]
      · rw [lrest, dm, show (6 * num + (6 - 1)) % 6 = 5 from by omega, if_pos (show (5 : Int32) ≤ nI 5 by decide), f_X10_line_b118, nI_1]
        show f_X10_line_b61 (f' + 1) U (nI n) (nI num) (nI (6 * num + (6 - 1) + 1)) = _
        rw [f_X10_line_b61, ln_m6, if_pos (nI_le (by omega) (by omega)), hW.2.1]
    · have hc : c < 6 := by omega
      obtain ⟨p, hp⟩ : ∃ p, p = 6 * num + (c - 1) := ⟨_, rfl⟩
      have p24 : p + 1 < 24 := by omega
      obtain ⟨s, hs⟩ : ∃ s, s = if bt (g (6 + 5 * n + 2)) p = true then 47 else 45 := ⟨_, rfl⟩
      have s128 : s < 128 := by rw [hs]; split <;> decide
      obtain ⟨V1, U1, a1, a2, a3, a4, a5⟩ := wr1 hW (by omega) s128
      obtain ⟨t, ht⟩ : ∃ t, t = ltr (bt (g (6 + 5 * n)) (p + 1)) (bt (g (6 + 5 * n + 1)) (p + 1)) := ⟨_, rfl⟩
      obtain ⟨V2, U2, b1, b2, b3, b4, b5⟩ := wr1 a3 (by omega) (show t < 128 by rw [ht]; exact ltr_lt _ _)
      have kk : ∀ {W W1 : St}, FLc W W1 → W1 k = W k := fun h => h k hk.1 hk.2
      have u9 : U1 209 = g := (a5.1 209 (by decide) (by decide)).trans hU
      obtain ⟨V3, U3, m1, d1, d2, d3, d4, d5, d6⟩ := ln_loop hn hnum hk f f' (c + 1) (m + 1 + 1) V2 U2 (by omega) (by omega) (by omega) (by omega) (by omega) b3 (by rw [kk b4, kk a4, v0]) (by rw [kk b4, kk a4, v1]) (by rw [kk b4, kk a4, v2]) ((b5.1 209 (by decide) (by decide)).trans u9)
      refine ⟨V3, U3, m1, ?_, ?_, d3, d4, (a4.tr b4).tr d5, (a5.tr b5).tr d6⟩
      · have x4 : (nI num * 6) + nI c = nI (p + 1) := by
          rw [show (6 : Int32) = nI 6 from rfl, pk_mul, nI_add]
          exact congrArg nI (by omega)
        have e1 : f_X3_writeLine_b44 (fun V k0 x1 x3 => f_X3_writeLine_b2 f V k0 x1 x3) V1 k (nI num) (nI c) (nI (p + 1)) = some V3 := by
          rw [b44_eq _ _ _ _ p24, kk a4, v0, v1, ← ht, b1, bs]
          exact d1
        rw [f_X3_writeLine_b2, if_neg (show ¬ (6 : Int32) ≤ nI c from nI_ge (b := 6) hc (by decide)), if_neg (nI_nle (by omega) (by omega)), x4, nI_pred, torn1 V k (show p < 24 by omega), bs, v2]
        cases z : bt (g (6 + 5 * n + 2)) p
        · rw [if_pos (show bI false = 0 by decide), f_X3_writeLine_b41]
          rw [z, if_neg Bool.false_ne_true] at hs
          rw [show (45 : Int32) = nI s from by rw [hs]; rfl, a1, bs]
          exact e1
        · rw [if_neg (show ¬ bI true = 0 by decide), f_X3_writeLine_b41]
          rw [z, if_pos rfl] at hs
          rw [show (47 : Int32) = nI s from by rw [hs]; rfl, a1, bs]
          exact e1
      · have e2 : f_X10_line_b118 (fun V x1 x2 x3 => f_X10_line_b61 (f' + 1) V x1 x2 x3) U1 (nI n) (nI num) (nI p) = some (nI m1, U3) := by
          rw [f_X10_line_b118, nI_1]
          show f_X10_line_b61 (f' + 1) U1 (nI n) (nI num) (nI (p + 1)) = _
          rw [show p + 1 = 6 * num + c from by omega, b61_step f' U1 hn hnum hc, u9, show 6 * num + c = p + 1 from by omega, ← ht, b2, bs, show p + 1 = 6 * num + (c + 1 - 1) from by omega]
          exact d2
        have oo : f_X10_of U (nI n) 2 = some (g (6 + 5 * n + 2)) := (of_eq U hn (show 2 < 5 by decide)).trans (by rw [hU])
        rw [← hp] at dm ⊢
        rw [lrest, dm, if_neg (show ¬ (5 : Int32) ≤ nI (p % 6) from nI_ge (b := 5) (by omega) (by decide)), oo, bs]
        cases z : bt (g (6 + 5 * n + 2)) p
        · rw [if_neg (fun w => by rw [(b_tst1 _ (by omega)).mp w] at z; cases z), f_X10_line_b115]
          rw [z, if_neg Bool.false_ne_true] at hs
          rw [show (45 : Int32) = nI s from by rw [hs]; rfl, a2, bs]
          exact e2
        · rw [if_pos ((b_tst1 _ (by omega)).mpr z), f_X10_line_b115]
          rw [z, if_pos rfl] at hs
          rw [show (47 : Int32) = nI s from by rw [hs]; rfl, a2, bs]
          exact e2
theorem ln_all {g : Nat → Int32} {k n num m : Nat} {V U : St} (hn : n < 3) (hnum : num < 4) (hk : k ≠ 205 ∧ k ≠ 206) (hm : m ≤ 1) (hW : LW m V U) (v0 : V k 0 = g (6 + 5 * n)) (v1 : V k 1 = g (6 + 5 * n + 1)) (v2 : V k 2 = g (6 + 5 * n + 2)) (hU : U 209 = g) :
    ∃ V1 U1 m1, f_X3_writeLine V k (nI num) = some V1 ∧ f_X10_line_b61 500 U (nI n) (nI num) (nI (6 * num + 0)) = some (nI m1, U1) ∧ LW m1 V1 U1 ∧ m1 ≤ 12 ∧ FLc V V1 ∧ FLm U U1 := by
  obtain ⟨t, ht⟩ : ∃ t, t = ltr (bt (g (6 + 5 * n)) (6 * num + 0)) (bt (g (6 + 5 * n + 1)) (6 * num + 0)) := ⟨_, rfl⟩
  obtain ⟨V2, U2, b1, b2, b3, b4, b5⟩ := wr1 hW (by omega) (show t < 128 by rw [ht]; exact ltr_lt _ _)
  have kk : V2 k = V k := b4 k hk.1 hk.2
  obtain ⟨V3, U3, m1, d1, d2, d3, d4, d5, d6⟩ := ln_loop hn hnum hk 499 499 1 (m + 1) V2 U2 (by omega) (by omega) (by omega) (by omega) (by omega) b3 (by rw [kk, v0]) (by rw [kk, v1]) (by rw [kk, v2]) ((b5.1 209 (by decide) (by decide)).trans hU)
  refine ⟨V3, U3, m1, ?_, ?_, d3, d4, b4.tr d5, b5.tr d6⟩
  · have x4 : (nI num * 6) + nI 0 = nI (6 * num + 0) := by
      rw [show (6 : Int32) = nI 6 from rfl, pk_mul, nI_add]
      exact congrArg nI (by omega)
    show f_X3_writeLine_b2 (499 + 1) V k (nI num) (nI 0) = _
    rw [f_X3_writeLine_b2, if_neg (show ¬ (6 : Int32) ≤ nI 0 by decide), if_pos (show nI 0 ≤ (0 : Int32) by decide), x4, b44_eq _ _ _ _ (by omega), v0, v1, ← ht, b1, bs]
    exact d1
  · show f_X10_line_b61 (499 + 1) U (nI n) (nI num) (nI (6 * num + 0)) = _
    rw [b61_step 499 U hn hnum (by decide), hU, ← ht, b2, bs]
    exact d2
theorem s_line (x1 x2 : Int32) : SIM (fun V => f_X9_line V x1 x2) (fun V => f_X10_line V x1 x2) [(1, 1)] := by
  intro Vc Vm hR
  have bad : f_X9_line Vc x1 x2 = some (.error 1, Vc) → f_X10_line Vm x1 x2 = f_X10_line_b22 Vm x1 x2 1 → ∃ (res : Except Nat Int32) (Vc1 : St) (a : Int32) (Vm1 : St), f_X9_line Vc x1 x2 = some (res, Vc1) ∧ f_X10_line Vm x1 x2 = some (a, Vm1) ∧ RR Vc1 Vm1 ∧ FC Vc Vc1 ∧ FM Vm Vm1 ∧ Ans [(1, 1)] res a (Vm1 208 0) := by
    intro h1 h2
    refine ⟨.error 1, Vc, 0, up Vm 208 0 1, h1, ?_, hR.qq (F191.rf _) (Fq.t _ _), fun _ _ => rfl, fun k hk => up_at (by omega), Ans.er (by simp) (by decide) (up_self _ _ _ _)⟩
    rw [h2, f_X10_line_b22, up_self, if_neg (by decide)]
  have hS := hR.1.1
  have hG := hR.1.2
  rcases net_cs x1 with ⟨n, hn, rfl, a1, a2⟩ | ⟨a1, a2⟩
  · rcases rng x2 (n := 4) (by decide) with ⟨num, hnum, rfl⟩ | h
    · have c2 : f_X10_in (nI num) 0 3 = some 1 := in_yes (show (num : Int) ≤ 3 by omega) (by omega)
      obtain ⟨V0, hV0⟩ : ∃ z, z = up Vc 205 1 0 := ⟨_, rfl⟩
      obtain ⟨U0, hU0⟩ : ∃ z, z = up (up Vm 208 0 0) 208 11 0 := ⟨_, rfl⟩
      have w0 : LW 0 V0 U0 := ⟨by rw [hV0, up_self]; rfl, by rw [hU0, up_self]; rfl, fun j hj => absurd hj (Nat.not_lt_zero j)⟩
      have fc : FLc Vc V0 := fun k a b => by rw [hV0, up_at a]
      have u9 : U0 209 = Vm 209 := by rw [hU0, up_at (by decide), up_at (by decide)]
      have uk : ∀ k, k ≠ 208 → k ≠ 215 → U0 k = Vm k := fun k a b => by rw [hU0, up_at a, up_at a]
      have u8 : ∀ j, 1 ≤ j → j ≠ 11 → U0 208 j = Vm 208 j := fun j a b => by rw [hU0, up_ne _ (fun _ => b), up_ne _ (fun _ => by omega)]
      have u0 : U0 208 0 = 0 := by rw [hU0, up_ne _ (fun _ => by decide), up_self]
      have hS0 : SR V0 1 (Vm 209) := hS.fr fun k a b => fc k (by omega) (by omega)
      have lc := uw_c hS0 hG hn
      have lm := uw_m (V := U0) (by rw [u9]; exact hG) hn
      rw [u9] at lm
      obtain ⟨q, hq⟩ : ∃ q : Int32, q = 4 - nI (uwg (Vm 209) n) := ⟨_, rfl⟩
      have fin : ∀ (m : Nat) (V2 U2 : St), m ≤ 1 → LW m V2 U2 → FLc V0 V2 → FLm U0 U2 → f_X9_line Vc (nI n) (nI num) = f_X9_line_b57 V2 (nI n) (nI num) → f_X10_line Vm (nI n) (nI num) = f_X10_line_b56 U2 (nI n) (nI num) → ∃ (res : Except Nat Int32) (Vc1 : St) (a : Int32) (Vm1 : St), f_X9_line Vc (nI n) (nI num) = some (res, Vc1) ∧ f_X10_line Vm (nI n) (nI num) = some (a, Vm1) ∧ RR Vc1 Vm1 ∧ FC Vc Vc1 ∧ FM Vm Vm1 ∧ Ans [(1, 1)] res a (Vm1 208 0) := by
        intro m V2 U2 hm hW f1 f2 e1 e2
        have kk : V2 (1 + 4 + n) = Vc (1 + 4 + n) := (fc.tr f1) (1 + 4 + n) (by omega) (by omega)
        obtain ⟨V3, U3, m1, d1, d2, d3, d4, d5, d6⟩ := ln_all (g := Vm 209) (k := 1 + 4 + n) hn hnum (by omega) hm hW (by rw [kk]; exact hS.2.1 n 0 hn (by decide)) (by rw [kk]; exact hS.2.1 n 1 hn (by decide)) (by rw [kk]; exact hS.2.1 n 2 hn (by decide)) ((f2.1 209 (by decide) (by decide)).trans u9)
        have ff := (fc.tr f1).tr d5
        have fm := f2.tr d6
        refine ⟨.ok (nI m1), V3, nI m1, U3, ?_, ?_, hR.ln ff (fun k a b => (fm.1 k a b).trans (uk k a b)) (fun j a b c => (fm.2 j b).trans (u8 j a b)) d3 (by omega), fun k hk => ff k (by omega) (by omega), fun k hk => (fm.1 k (by omega) (by omega)).trans (uk k (by omega) (by omega)), Ans.ok ((fm.2 0 (by decide)).trans u0)⟩
        · rw [e1, f_X9_line_b57, net_eq _ _ hn, bs, d1, bs, d3.1]
        · rw [e2, f_X10_line_b56, show (6 : Int32) * nI num = nI (6 * num + 0) from by rw [show (6 : Int32) = nI 6 from rfl, pk_mul, Nat.add_zero]]
          exact d2
      have ec : f_X9_line Vc (nI n) (nI num) = if nI num < q then f_X9_line_b57 V0 (nI n) (nI num) else (f_X2_append V0 126).bind fun q10 => f_X9_line_b57 q10 (nI n) (nI num) := by
        rw [f_X9_line, a1, bs, if_neg (by decide), if_neg (nI_pos (by omega)), if_pos (show nI num < (4 : Int32) from nI_lt (b := 4) hnum (by decide)), f_X2_clear, bs, ← hV0, lc, bs, ← hq]
      have em : f_X10_line Vm (nI n) (nI num) = if nI num < q then f_X10_line_b56 U0 (nI n) (nI num) else (f_X10_writes U0 126).bind fun q12 => f_X10_line_b56 q12 (nI n) (nI num) := by
        rw [f_X10_line, a2, bs, if_neg (by decide), c2, bs, if_neg (by decide), f_X10_line_b22, up_self, if_pos (by decide), ← hU0, lm, bs, ← hq]
      by_cases z : nI num < q
      · exact fin 0 V0 U0 (by decide) w0 (FLc.rf _) (FLm.rf _) (by rw [ec, if_pos z]) (by rw [em, if_pos z])
      · obtain ⟨V2, U2, b1, b2, b3, b4, b5⟩ := wr1 (c := 126) w0 (by decide) (by decide)
        have b1 : f_X2_append V0 126 = some V2 := b1
        have b2 : f_X10_writes U0 126 = some U2 := b2
        exact fin 1 V2 U2 (by decide) b3 b4 b5 (by rw [ec, if_neg z, b1, bs]) (by rw [em, if_neg z, b2, bs])
    · have c2 : f_X10_in x2 0 3 = some 0 := in_no (by rcases h with h | h; exact Or.inl h; exact Or.inr (show (3 : Int) < x2.toInt by omega))
      refine bad ?_ ?_
      · rw [f_X9_line, a1, bs, if_neg (by decide)]
        by_cases z : x2 < 0
        · rw [if_pos z]
          rfl
        · rw [if_neg z, if_neg (fun q => by
            have q1 := i_lt.mp q
            have q2 := not_lt0 z
            have q3 : (4 : Int32).toInt = 4 := rfl
            omega)]
          rfl
      · rw [f_X10_line, a2, bs, if_neg (by decide), c2, bs, if_pos rfl, f_X10_line_b21]
  · refine bad ?_ ?_
    · rw [f_X9_line, a1, bs, if_pos rfl]
      rfl
    · rw [f_X10_line, a2, bs, if_pos rfl, f_X10_line_b21]
/-! what chapters read as -/
theorem ak_step (f : Nat) (V : St) (x y : Int32) {p : Nat} (hp : p < 24) : f_X2_appendKnots_b2 (f + 1) V x y (nI p) = if kv (bt x p) (bt y p) = 0 then f_X2_appendKnots_b2 f V x y (nI (p + 1)) else (f_X2_append V (nI (ltr (bt x p) (bt y p)))).bind fun V1 => f_X2_appendKnots_b2 f V1 x y (nI (p + 1)) := by
  have b34 : ∀ y0 y1 : Int32, y1 + y0 = kv (bt x p) (bt y p) → f_X2_appendKnots_b34 (fun V x1 x2 x3 => f_X2_appendKnots_b2 f V x1 x2 x3) V x y (nI p) y0 y1 = if kv (bt x p) (bt y p) = 0 then f_X2_appendKnots_b2 f V x y (nI (p + 1)) else (f_X2_append V (nI (ltr (bt x p) (bt y p)))).bind fun V1 => f_X2_appendKnots_b2 f V1 x y (nI (p + 1)) := by
    intro y0 y1 h
    rw [f_X2_appendKnots_b34, h]
    by_cases e : kv (bt x p) (bt y p) = 0
    · rw [if_pos e, if_pos e, f_X2_appendKnots_b51, nI_1]
    · rw [if_neg e, if_neg e, let_c _ _ e, bs]
      refine congrArg _ (funext fun V1 => ?_)
      rw [f_X2_appendKnots_b51, nI_1]
  rw [f_X2_appendKnots_b2, if_neg (show ¬ (24 : Int32) ≤ nI p from nI_ge (b := 24) hp (by decide)), isIn_eq _ (by omega), bs]
  cases e1 : bt x p
  · rw [if_pos (show bI false = 0 by decide), f_X2_appendKnots_b21, isIn_eq _ (by omega), bs]
    rw [e1] at b34
    cases e2 : bt y p
    · rw [if_pos (show bI false = 0 by decide)]
      rw [e2] at b34
      exact b34 0 0 rfl
    · rw [if_neg (show ¬ bI true = 0 by decide)]
      rw [e2] at b34
      exact b34 2 0 rfl
  · rw [if_neg (show ¬ bI true = 0 by decide), f_X2_appendKnots_b21, isIn_eq _ (by omega), bs]
    rw [e1] at b34
    cases e2 : bt y p
    · rw [if_pos (show bI false = 0 by decide)]
      rw [e2] at b34
      exact b34 0 1 rfl
    · rw [if_neg (show ¬ bI true = 0 by decide)]
      rw [e2] at b34
      exact b34 2 1 rfl
theorem ak_end (f : Nat) (V : St) (x y : Int32) : f_X2_appendKnots_b2 (f + 1) V x y (nI 24) = some V := by
  rw [f_X2_appendKnots_b2, if_pos (show (24 : Int32) ≤ nI 24 by decide)]
theorem cl_loop {g : Nat → Int32} {n : Nat} (hn : n < 3) {C : Int32} (hC : ∀ p, p < 24 → bt C p = true → bt (kA g n) p = true) : ∀ (f f' p m : Nat) (V U : St), p ≤ 24 → 24 < f + p → 24 < f' + p → m ≤ p → LW m V U → U 209 = g →
    ∃ V1 U1 m1, f_X2_appendKnots_b2 f V (g (6 + 5 * n) &&& C) (g (6 + 5 * n + 1) &&& C) (nI p) = some V1 ∧ f_X10_chapterLine_b68 f' U (nI n) C (nI p) = some (nI m1, U1) ∧ LW m1 V1 U1 ∧ m1 ≤ 24 ∧ FLc V V1 ∧ FLm U U1
  | 0, _, p, m, V, U, _, h1, _, _, _, _ => by omega
  | _, 0, p, m, V, U, _, _, h1, _, _, _ => by omega
  | f + 1, f' + 1, p, m, V, U, hp, hf, hf', hm, hW, hU => by
    by_cases e : p = 24
    · subst e
      refine ⟨V, U, m, ak_end f V _ _, ?_, hW, hm, FLc.rf _, FLm.rf _⟩
      rw [f_X10_chapterLine_b68, if_pos (show (24 : Int32) ≤ nI 24 by decide), hW.2.1]
    · have hp : p < 24 := by omega
      rw [ak_step f V _ _ hp, f_X10_chapterLine_b68, if_neg (show ¬ (24 : Int32) ≤ nI p from nI_ge (b := 24) hp (by decide)), b_and, b_and]
      cases z : bt C p
      · rw [Bool.and_false, Bool.and_false, if_pos (show kv false false = 0 by decide), if_neg (fun w => by rw [(b_tst1 _ (by omega)).mp w] at z; cases z), f_X10_chapterLine_b99, nI_1]
        exact cl_loop hn hC f f' (p + 1) m V U (by omega) (by omega) (by omega) (by omega) hW hU
      · have hk : ¬ kv (bt (g (6 + 5 * n)) p) (bt (g (6 + 5 * n + 1)) p) = 0 := fun w => by
          have := (kz g n p).mp w
          rw [hC p hp z] at this
          cases this
        obtain ⟨V2, U2, b1, b2, b3, b4, b5⟩ := wr1 hW (by omega) (ltr_lt (bt (g (6 + 5 * n)) p) (bt (g (6 + 5 * n + 1)) p))
        obtain ⟨V3, U3, m1, d1, d2, d3, d4, d5, d6⟩ := cl_loop hn hC f f' (p + 1) (m + 1) V2 U2 (by omega) (by omega) (by omega) (by omega) b3 ((b5.1 209 (by decide) (by decide)).trans hU)
        rw [Bool.and_true, Bool.and_true, if_neg hk, b1, bs, if_pos ((b_tst1 _ (by omega)).mpr z), kd_m _ hn hp, bs, hU, let_m, bs, b2, bs, f_X10_chapterLine_b99, nI_1]
        exact ⟨V3, U3, m1, d1, d2, d3, d4, b4.tr d5, b5.tr d6⟩
theorem s_chapterLine (x1 x2 : Int32) : SIM (fun V => f_X9_chapterLine V x1 x2) (fun V => f_X10_chapterLine V x1 x2) [(1, 1), (2, 2)] := by
  intro Vc Vm hR
  have bad : ∀ (e : Nat) (y : Int32), (e, y) ∈ [((1 : Nat), (1 : Int32)), (2, 2)] → ¬ y ≤ 0 → f_X9_chapterLine Vc x1 x2 = some (.error e, Vc) → f_X10_chapterLine Vm x1 x2 = f_X10_chapterLine_b33 Vm x1 x2 y → ∃ (res : Except Nat Int32) (Vc1 : St) (a : Int32) (Vm1 : St), f_X9_chapterLine Vc x1 x2 = some (res, Vc1) ∧ f_X10_chapterLine Vm x1 x2 = some (a, Vm1) ∧ RR Vc1 Vm1 ∧ FC Vc Vc1 ∧ FM Vm Vm1 ∧ Ans [(1, 1), (2, 2)] res a (Vm1 208 0) := by
    intro e y hm hy h1 h2
    refine ⟨.error e, Vc, 0, up Vm 208 0 y, h1, ?_, hR.qq (F191.rf _) (Fq.t _ _), fun _ _ => rfl, fun k hk => up_at (by omega), Ans.er hm (fun z => hy (by rw [z]; decide)) (up_self _ _ _ _)⟩
    rw [h2, f_X10_chapterLine_b33, up_self, if_neg hy]
  have hS := hR.1.1
  have hG := hR.1.2
  rcases net_cs x1 with ⟨n, hn, rfl, a1, a2⟩ | ⟨a1, a2⟩
  · rcases pl_cs x2 with ⟨p, hp, rfl, b1, b2⟩ | ⟨b1, b2⟩
    · rcases chp hS hG hn hp with ⟨e, d1⟩ | ⟨e, C, d1, d2, d3, d4, d5⟩
      · refine bad 2 2 (by simp) (by decide) ?_ ?_
        · rw [f_X9_chapterLine, a1, bs, if_neg (by decide), b1, bs, if_neg (by decide), net_eq _ _ hn, bs, d1, bs, if_pos rfl]
        · rw [f_X10_chapterLine, a2, bs, if_neg (by decide), b2, bs, if_neg (by decide), kd_m _ hn hp, bs, if_pos ((kz _ _ _).mpr e)]
      · obtain ⟨U1, u1, u2, u3, u4, u5⟩ := lk (up Vm 208 0 0) hn
        rw [up_at (show 209 ≠ 208 by decide)] at u4 u5
        have hF : Fq Vm U1 := (Fq.t _ _).tr u2
        obtain ⟨V0, hV0⟩ : ∃ z, z = up Vc 205 1 0 := ⟨_, rfl⟩
        obtain ⟨U0, hU0⟩ : ∃ z, z = up U1 208 11 0 := ⟨_, rfl⟩
        have w0 : LW 0 V0 U0 := ⟨by rw [hV0, up_self]; rfl, by rw [hU0, up_self]; rfl, fun j hj => absurd hj (Nat.not_lt_zero j)⟩
        have fc : FLc Vc V0 := fun k a b => by rw [hV0, up_at a]
        have uk : ∀ k, k ≠ 208 → k ≠ 215 → U0 k = Vm k := fun k a b => by rw [hU0, up_at a, hF.1 k a]
        have u8 : ∀ j, 1 ≤ j → j ≠ 11 → (j < 17 ∨ 21 < j) → U0 208 j = Vm 208 j := fun j a b c => by rw [hU0, up_ne _ (fun _ => b), hF.2 j a c]
        have u0 : U0 208 0 = 0 := by rw [hU0, up_ne _ (fun _ => by decide), u3, up_self]
        have v0 : V0 (1 + 4 + n) = Vc (1 + 4 + n) := fc _ (by omega) (by omega)
        obtain ⟨V3, U3, m1, c1, c2, c3, c4, c5, c6⟩ := cl_loop (g := Vm 209) hn (C := C) (fun q hq hc => con.inA ((d4 q (by omega)).mp hc) e) 500 500 0 0 V0 U0 (by decide) (by decide) (by decide) (by decide) w0 (uk 209 (by decide) (by decide))
        have ff := fc.tr c5
        refine ⟨.ok (nI m1), V3, nI m1, U3, ?_, ?_, hR.ln ff (fun k a b => (c6.1 k a b).trans (uk k a b)) (fun j a b c => (c6.2 j b).trans (u8 j a b c)) c3 (by omega), fun k hk => ff k (by omega) (by omega), fun k hk => (c6.1 k (by omega) (by omega)).trans (uk k (by omega) (by omega)), Ans.ok ((c6.2 0 (by decide)).trans u0)⟩
        · show f_X9_chapterLine Vc (nI n) (nI p) = _
          rw [f_X9_chapterLine, a1, bs, if_neg (by decide), b1, bs, if_neg (by decide), net_eq _ _ hn, bs, d1, bs, if_neg d2, f_X2_clear, bs, ← hV0, v0, hS.2.1 n 0 hn (by decide), hS.2.1 n 1 hn (by decide)]
          have c1 : f_X2_appendKnots V0 (Vm 209 (6 + 5 * n) &&& C) (Vm 209 (6 + 5 * n + 1) &&& C) = some V3 := c1
          rw [Nat.add_zero, c1, bs, c3.1]
        · show f_X10_chapterLine Vm (nI n) (nI p) = _
          rw [f_X10_chapterLine, a2, bs, if_neg (by decide), b2, bs, if_neg (by decide), kd_m _ hn hp, bs, if_neg (fun z => by rw [(kz _ _ _).mp z] at e; cases e), f_X10_chapterLine_b33, up_self, if_pos (by decide), u1, bs, d5 U1 u5, bs, ← hU0]
          exact c2
    · refine bad 1 1 (by simp) (by decide) ?_ ?_
      · rw [f_X9_chapterLine, a1, bs, if_neg (by decide), b1, bs, if_pos rfl]
        rfl
      · rw [f_X10_chapterLine, a2, bs, if_neg (by decide), b2, bs, if_pos rfl, f_X10_chapterLine_b15]
  · refine bad 1 1 (by simp) (by decide) ?_ ?_
    · rw [f_X9_chapterLine, a1, bs, if_pos rfl]
      rfl
    · rw [f_X10_chapterLine, a2, bs, if_pos rfl, f_X10_chapterLine_b15]
theorem nl_m (y z : Int32) {p : Nat} (hp : p < 24) : ((y >>> (nI p &&& 31)) &&& 1) + (2 * ((z >>> (nI p &&& 31)) &&& 1)) = kv (bt y p) (bt z p) := by
  rw [b_val _ (by omega), b_val _ (by omega)]
  cases bt y p <;> cases bt z p <;> rfl
theorem nl_loop {Vc : St} {g : Nat → Int32} {k n : Nat} {S y z : Int32} (h : NT Vc g k n S y z) : ∀ (f f' p m : Nat) (V U : St), p ≤ 24 → 24 < f + p → 24 < f' + p → m ≤ p → LW m V U → U 209 = g →
    ∃ V1 U1 m1, f_X2_appendKnots_b2 f V y z (nI p) = some V1 ∧ (∃ f2, f_X10_noteLine_b33 f' U (nI k) (nI p) = f_X10_noteLine_b33 (f2 + 1) U1 (nI k) (nI 24)) ∧ LW m1 V1 U1 ∧ m1 ≤ 24 ∧ FLc V V1 ∧ FLm U U1
  | 0, _, p, m, V, U, _, h1, _, _, _, _ => by omega
  | _, 0, p, m, V, U, _, _, h1, _, _, _ => by omega
  | f + 1, f' + 1, p, m, V, U, hp, hf, hf', hm, hW, hU => by
    by_cases e : p = 24
    · subst e
      exact ⟨V, U, m, ak_end f V _ _, ⟨f', rfl⟩, hW, hm, FLc.rf _, FLm.rf _⟩
    · have hp : p < 24 := by omega
      obtain ⟨n1, k6, g0, g1, g2, g3, g4, -⟩ := id h
      have o1 : f_X10_ofNote U (nI k) 1 = some S := (on_eq U k6 (show 1 < 4 by decide)).trans (by rw [hU, g1])
      have o2 : f_X10_ofNote U (nI k) 2 = some y := (on_eq U k6 (show 2 < 4 by decide)).trans (by rw [hU, g2])
      have o3 : f_X10_ofNote U (nI k) 3 = some z := (on_eq U k6 (show 3 < 4 by decide)).trans (by rw [hU, g3])
      have hk : bt S p = false ↔ kv (bt y p) (bt z p) = 0 := by
        rw [kv_0, g4, b_or]
        cases bt y p <;> cases bt z p <;> simp
      rw [ak_step f V _ _ hp, f_X10_noteLine_b33, if_neg (show ¬ (24 : Int32) ≤ nI p from nI_ge (b := 24) hp (by decide)), o1, bs]
      cases w : bt S p
      · rw [if_pos (hk.mp w), if_neg (fun q => by rw [(b_tst1 _ (by omega)).mp q] at w; cases w), f_X10_noteLine_b83, nI_1]
        exact nl_loop h f f' (p + 1) m V U (by omega) (by omega) (by omega) (by omega) hW hU
      · have hkn : ¬ kv (bt y p) (bt z p) = 0 := fun q => by rw [hk.mpr q] at w; cases w
        obtain ⟨V2, U2, b1, b2, b3, b4, b5⟩ := wr1 hW (by omega) (ltr_lt (bt y p) (bt z p))
        obtain ⟨V3, U3, m1, d1, d2, d3, d4, d5, d6⟩ := nl_loop h f f' (p + 1) (m + 1) V2 U2 (by omega) (by omega) (by omega) (by omega) b3 ((b5.1 209 (by decide) (by decide)).trans hU)
        rw [if_neg hkn, b1, bs, if_pos ((b_tst1 _ (by omega)).mpr w), o2, bs, o3, bs, nl_m _ _ hp, let_m, bs, b2, bs, f_X10_noteLine_b83, nI_1]
        exact ⟨V3, U3, m1, d1, d2, d3, d4, b4.tr d5, b5.tr d6⟩
theorem s_noteLine (x1 : Int32) : SIM (fun V => f_X9_noteLine V x1) (fun V => f_X10_noteLine V x1) [(1, 1)] := by
  intro Vc Vm hR
  have hS := hR.1.1
  have hG := hR.1.2
  rcases nt_cs hS hG x1 with ⟨k, n, S, y, z, rfl, h, a1, a2, a3⟩ | ⟨a1, a2⟩
  · obtain ⟨V0, hV0⟩ : ∃ z, z = up Vc 205 1 0 := ⟨_, rfl⟩
    obtain ⟨U0, hU0⟩ : ∃ z, z = up (up Vm 208 0 0) 208 11 0 := ⟨_, rfl⟩
    have w0 : LW 0 V0 U0 := ⟨by rw [hV0, up_self]; rfl, by rw [hU0, up_self]; rfl, fun j hj => absurd hj (Nat.not_lt_zero j)⟩
    have fc : FLc Vc V0 := fun k a b => by rw [hV0, up_at a]
    have uk : ∀ k, k ≠ 208 → k ≠ 215 → U0 k = Vm k := fun k a b => by rw [hU0, up_at a, up_at a]
    have u8 : ∀ j, 1 ≤ j → j ≠ 11 → U0 208 j = Vm 208 j := fun j a b => by rw [hU0, up_ne _ (fun _ => b), up_ne _ (fun _ => by omega)]
    have u0 : U0 208 0 = 0 := by rw [hU0, up_ne _ (fun _ => by decide), up_self]
    obtain ⟨n1, k6, -, -, -, -, -, -, -, g7, g8⟩ := id h
    obtain ⟨V3, U3, m1, c1, ⟨f2, c2⟩, c3, c4, c5, c6⟩ := nl_loop h 500 500 0 0 V0 U0 (by decide) (by decide) (by decide) (by decide) w0 (uk 209 (by decide) (by decide))
    have c1 : f_X2_appendKnots V0 y z = some V3 := c1
    have ff := fc.tr c5
    have hS3 : SR V3 1 (Vm 209) := hS.fr fun k a b => ff k (by omega) (by omega)
    have h3 : NT V3 (Vm 209) k n S y z := by
      obtain ⟨q0, q1, q2, q3, q4, q5, q6, q7, q8, q9, q10⟩ := h
      have := ff (1 + 11 + k) (by omega) (by omega)
      exact ⟨q0, q1, q2, q3, q4, q5, q6, q7, by rw [this]; exact q8, by rw [this]; exact q9, by rw [this]; exact q10⟩
    obtain ⟨b, r1, r2⟩ := rdn hS3 hG h3
    obtain ⟨U4, s1, s2, s3, s4⟩ := r2 U3 ((c6.1 209 (by decide) (by decide)).trans (uk 209 (by decide) (by decide)))
    have ek : ∀ j, V0 (1 + 11 + k) j = Vc (1 + 11 + k) j := fun j => by rw [fc (1 + 11 + k) (by omega) (by omega)]
    have ec : f_X9_noteLine Vc (nI k) = if bI b = 0 then (f_X2_append V3 33).bind fun q8 => some (.ok (q8 205 1), q8) else some (.ok (V3 205 1), V3) := by
      rw [f_X9_noteLine, a1, bs, if_neg (by decide), a3, bs, f_X2_clear, bs, ← hV0, ek, ek, g7, g8, c1, bs, r1, bs]
    have em : f_X10_noteLine Vm (nI k) = if bI b = 0 then (f_X10_writes U4 33).bind fun q4 => some (q4 208 11, q4) else some (U4 208 11, U4) := by
      rw [f_X10_noteLine, a2, bs, if_neg (by decide), f_X10_noteLine_b14, up_self, if_pos (by decide), ← hU0]
      have c2 : f_X10_noteLine_b33 500 U0 (nI k) 0 = _ := c2
      rw [c2, f_X10_noteLine_b33, if_pos (by decide), s1, bs]
    have w4 : LW m1 V3 U4 := ⟨c3.1, (s2.2 11 (by decide) (by decide)).trans c3.2.1, fun j hj => by
      obtain ⟨c, q1, q2, q3⟩ := c3.2.2 j hj
      exact ⟨c, q1, q2, by rw [s2.1 215 (by decide), q3]⟩⟩
    have k4 : ∀ k, k ≠ 208 → k ≠ 215 → U4 k = Vm k := fun k a b => by rw [s2.1 k a, c6.1 k a b, uk k a b]
    have k8 : ∀ j, 1 ≤ j → j ≠ 11 → (j < 17 ∨ 21 < j) → U4 208 j = Vm 208 j := fun j a b c => by rw [s2.2 j a c, c6.2 j b, u8 j a b]
    have k0 : U4 208 0 = 0 := by rw [s3, c6.2 0 (by decide), u0]
    cases b
    · obtain ⟨V5, U5, e1, e2, e3, e4, e5⟩ := wr1 (c := 33) w4 (by omega) (by decide)
      have e1 : f_X2_append V3 33 = some V5 := e1
      have e2 : f_X10_writes U4 33 = some U5 := e2
      have ff5 := ff.tr e4
      refine ⟨.ok (nI (m1 + 1)), V5, nI (m1 + 1), U5, ?_, ?_, hR.ln ff5 (fun k a b => (e5.1 k a b).trans (k4 k a b)) (fun j a b c => (e5.2 j b).trans (k8 j a b c)) e3 (by omega), fun k hk => ff5 k (by omega) (by omega), fun k hk => (e5.1 k (by omega) (by omega)).trans (k4 k (by omega) (by omega)), Ans.ok ((e5.2 0 (by decide)).trans k0)⟩
      · show f_X9_noteLine Vc (nI k) = _
        rw [ec, if_pos (by decide), e1, bs, e3.1]
      · show f_X10_noteLine Vm (nI k) = _
        rw [em, if_pos (by decide), e2, bs, e3.2.1]
    · refine ⟨.ok (nI m1), V3, nI m1, U4, ?_, ?_, hR.ln ff k4 k8 w4 (by omega), fun k hk => ff k (by omega) (by omega), fun k hk => k4 k (by omega) (by omega), Ans.ok k0⟩
      · show f_X9_noteLine Vc (nI k) = _
        rw [ec, if_neg (by decide), w4.1]
      · show f_X10_noteLine Vm (nI k) = _
        rw [em, if_neg (by decide), w4.2.1]
  · refine ⟨.error 1, Vc, 0, up Vm 208 0 1, ?_, ?_, hR.qq (F191.rf _) (Fq.t _ _), fun _ _ => rfl, fun k hk => up_at (by omega), Ans.er (by simp) (by decide) (up_self _ _ _ _)⟩
    · show f_X9_noteLine Vc x1 = _
      rw [f_X9_noteLine, a1, bs, if_pos rfl]
    · show f_X10_noteLine Vm x1 = _
      rw [f_X10_noteLine, a2, bs, if_pos rfl, f_X10_noteLine_b14, up_self, if_neg (by decide)]
/-! the tape read as a text: by codes of forms -/
def dgt (x : Int32) : Bool := if x < 48 then false else if 57 < x then false else true
/-- the digits from p on, w at most, behind the number x -/
def rdv (T : Nat → Int32) (n : Nat) : Nat → Nat → Int32 → Int32 × Nat
  | 0, p, x => (x, p)
  | w + 1, p, x => if p < n ∧ dgt (T p) = true then rdv T n w (p + 1) (10 * x + (T p - 48)) else (x, p)
theorem rdv_s (T : Nat → Int32) (n w p : Nat) (x : Int32) : rdv T n (w + 1) p x = if p < n ∧ dgt (T p) = true then rdv T n w (p + 1) (10 * x + (T p - 48)) else (x, p) := rfl
theorem rdv_le (T : Nat → Int32) (n : Nat) : ∀ (w p : Nat) (x : Int32), p ≤ n → p ≤ (rdv T n w p x).2 ∧ (rdv T n w p x).2 ≤ n
  | 0, p, x, h => ⟨Nat.le_refl _, h⟩
  | w + 1, p, x, h => by
    rw [rdv_s]
    by_cases c : p < n ∧ dgt (T p) = true
    · rw [if_pos c]
      have := rdv_le T n w (p + 1) (10 * x + (T p - 48)) c.1
      exact ⟨by omega, this.2⟩
    · rw [if_neg c]
      exact ⟨Nat.le_refl _, h⟩
def dw (c : Int32) : Nat := if c = 78 then 2 else 1
def isD (c : Int32) : Prop := c = 68 ∨ c = 78
def mtp (T : Nat → Int32) (n : Nat) : List Int32 → Nat → Bool × Nat × List Int32
  | [], p => (true, p, [])
  | c :: r, p =>
    if c = 68 ∨ c = 78 then
      (if p < n ∧ dgt (T p) = true then ((mtp T n r (rdv T n (dw c) p 0).2).1, (mtp T n r (rdv T n (dw c) p 0).2).2.1, (rdv T n (dw c) p 0).1 :: (mtp T n r (rdv T n (dw c) p 0).2).2.2) else (false, p, []))
    else (if p < n ∧ T p = c then mtp T n r (p + 1) else (false, p, []))
section MT
variable {T : Nat → Int32} {n : Nat}
theorem mtp_n (p : Nat) : mtp T n [] p = (true, p, []) := rfl
theorem mtp_d {c : Int32} (h : isD c) (r : List Int32) (p : Nat) : mtp T n (c :: r) p = if p < n ∧ dgt (T p) = true then ((mtp T n r (rdv T n (dw c) p 0).2).1, (mtp T n r (rdv T n (dw c) p 0).2).2.1, (rdv T n (dw c) p 0).1 :: (mtp T n r (rdv T n (dw c) p 0).2).2.2) else (false, p, []) := by
  rw [mtp, if_pos h]
theorem mtp_l {c : Int32} (h : ¬ isD c) (r : List Int32) (p : Nat) : mtp T n (c :: r) p = if p < n ∧ T p = c then mtp T n r (p + 1) else (false, p, []) := by
  rw [mtp, if_neg h]
theorem dw_pos (c : Int32) : 1 ≤ dw c := by unfold dw; split <;> decide
theorem rdv_1 {c : Int32} {p : Nat} (h : p < n ∧ dgt (T p) = true) : p + 1 ≤ (rdv T n (dw c) p 0).2 ∧ (rdv T n (dw c) p 0).2 ≤ n := by
  obtain ⟨w, hw⟩ : ∃ w, dw c = w + 1 := ⟨dw c - 1, by have := dw_pos c; omega⟩
  rw [hw, rdv_s, if_pos h]
  have := rdv_le T n w (p + 1) (10 * 0 + (T p - 48)) h.1
  exact this
theorem mtp_le : ∀ (L : List Int32) (p : Nat), p ≤ n → p ≤ (mtp T n L p).2.1 ∧ (mtp T n L p).2.1 ≤ n ∧ ((mtp T n L p).1 = true → p + L.length ≤ (mtp T n L p).2.1)
  | [], p, h => ⟨Nat.le_refl _, h, fun _ => Nat.le_refl _⟩
  | c :: r, p, h => by
    by_cases d : isD c
    · rw [mtp_d d]
      by_cases e : p < n ∧ dgt (T p) = true
      · rw [if_pos e]
        have h1 := rdv_1 (c := c) e
        have h2 := mtp_le r (rdv T n (dw c) p 0).2 h1.2
        refine ⟨?_, h2.2.1, fun q => ?_⟩
        · show p ≤ (mtp T n r (rdv T n (dw c) p 0).2).2.1
          omega
        · have q : (mtp T n r (rdv T n (dw c) p 0).2).1 = true := q
          have := h2.2.2 q
          show p + (r.length + 1) ≤ (mtp T n r (rdv T n (dw c) p 0).2).2.1
          omega
      · rw [if_neg e]
        exact ⟨Nat.le_refl _, h, fun q => by cases q⟩
    · rw [mtp_l d]
      by_cases e : p < n ∧ T p = c
      · rw [if_pos e]
        have h2 := mtp_le r (p + 1) e.1
        refine ⟨by omega, h2.2.1, fun q => ?_⟩
        have := h2.2.2 q
        show p + (r.length + 1) ≤ _
        omega
      · rw [if_neg e]
        exact ⟨Nat.le_refl _, h, fun q => by cases q⟩
end MT
/-- how many numbers a form asks for -/
def dct : List Int32 → Nat
  | [] => 0
  | c :: r => if c = 68 ∨ c = 78 then dct r + 1 else dct r
/-! the class reads -/
def PS (T : Nat → Int32) (n p : Nat) (V : St) : Prop := V 192 2 = nI p ∧ V 192 1 = nI n ∧ ∀ j, j < n → V 193 j = T j
section CR
variable {T : Nat → Int32} {n : Nat}
theorem inT {p : Nat} {V : St} (h : PS T n p V) (hn : n ≤ 60) (hp : p ≤ n) : f_X7_isInText V = some (bI (decide (p < n))) := by
  rw [f_X7_isInText, h.1, h.2.1, if_neg (nI_pos (by omega))]
  by_cases c : p < n
  · rw [if_neg (nI_ge c (by omega)), if_neg (show ¬ (60 : Int32) ≤ nI p from nI_ge (b := 60) (by omega) (by decide)), decide_eq_true c]
    rfl
  · rw [if_pos (nI_le (by omega) (by omega)), decide_eq_false c]
    rfl
theorem isDN {p : Nat} {V : St} (h : PS T n p V) (hn : n ≤ 60) (hp : p ≤ n) : f_X7_isDigitNext V = some (if p < n ∧ dgt (T p) = true then 1 else 0) := by
  rw [f_X7_isDigitNext, inT h hn hp, bs]
  by_cases c : p < n
  · rw [decide_eq_true c, if_neg (show ¬ bI true = 0 by decide), h.1, ix_nI (show p < 60 by omega) (by decide), bs, bs, h.2.2 p c]
    unfold dgt
    by_cases a : T p < 48
    · rw [if_pos a, if_pos a, if_neg (fun q => by cases q.2)]
    · rw [if_neg a, if_neg a]
      by_cases b : 57 < T p
      · rw [if_pos b, if_pos b, if_neg (fun q => by cases q.2)]
      · rw [if_neg b, if_neg b, if_pos ⟨c, rfl⟩]
  · rw [decide_eq_false c, if_pos (show bI false = 0 by decide), if_neg (fun q => c q.1)]
theorem isNX {p : Nat} {V : St} (h : PS T n p V) (hn : n ≤ 60) (hp : p ≤ n) (x : Int32) : f_X7_isNext V x = some (if p < n ∧ T p = x then 1 else 0) := by
  rw [f_X7_isNext, inT h hn hp, bs]
  by_cases c : p < n
  · rw [decide_eq_true c, if_neg (show ¬ bI true = 0 by decide), h.1, ix_nI (show p < 60 by omega) (by decide), bs, h.2.2 p c]
    by_cases a : T p = x
    · rw [if_pos a, if_pos ⟨c, a⟩]
    · rw [if_neg a, if_neg (fun q => a q.2)]
  · rw [decide_eq_false c, if_pos (show bI false = 0 by decide), if_neg (fun q => c q.1)]
def F2 (V V1 : St) : Prop := (∀ k, k ≠ 192 → V1 k = V k) ∧ ∀ j, j ≠ 2 → V1 192 j = V 192 j
theorem F2.rf (V : St) : F2 V V := ⟨fun _ _ => rfl, fun _ _ => rfl⟩
theorem F2.tr {V V1 V2 : St} (h : F2 V V1) (h2 : F2 V1 V2) : F2 V V2 := ⟨fun k a => (h2.1 k a).trans (h.1 k a), fun j a => (h2.2 j a).trans (h.2 j a)⟩
theorem F2.s (V : St) (x : Int32) : F2 V (up V 192 2 x) := ⟨fun _ h => up_at h, fun _ h => up_ne _ (fun _ => h)⟩
theorem PS.mv {p q : Nat} {V : St} (h : PS T n p V) : PS T n q (up V 192 2 (nI q)) := ⟨up_self _ _ _ _, by rw [up_ne _ (fun _ => by decide), h.2.1], fun j hj => by rw [up_at (by decide), h.2.2 j hj]⟩
theorem rn_lp (hn : n ≤ 60) : ∀ (f w i p : Nat) (x : Int32) (V : St), PS T n p V → p ≤ n → w < f → i + w < 100 → ∃ V1, f_X7_readNumber_b15 f V x (nI (i + w)) (nI i) = some ((rdv T n w p x).1, V1) ∧ PS T n (rdv T n w p x).2 V1 ∧ F2 V V1
  | 0, w, i, p, x, V, _, _, h, _ => by omega
  | f + 1, 0, i, p, x, V, h, hp, hf, hi => by
    rw [f_X7_readNumber_b15, if_pos (nI_le (by omega) (by omega))]
    exact ⟨V, rfl, h, F2.rf V⟩
  | f + 1, w + 1, i, p, x, V, h, hp, hf, hi => by
    rw [f_X7_readNumber_b15, if_neg (nI_ge (by omega) (by omega)), isDN h hn hp, bs, rdv_s]
    by_cases c : p < n ∧ dgt (T p) = true
    · rw [if_pos c, if_pos c, if_neg (show ¬ (1 : Int32) = 0 by decide), h.1, ix_nI (show p < 60 by omega) (by decide), bs, h.2.2 p c.1, nI_1, nI_1]
      obtain ⟨V1, a1, a2, a3⟩ := rn_lp hn f w (i + 1) (p + 1) (10 * x + (T p - 48)) _ (h.mv (q := p + 1)) c.1 (by omega) (by omega)
      rw [show i + (w + 1) = i + 1 + w from by omega]
      exact ⟨V1, a1, a2, (F2.s _ _).tr a3⟩
    · rw [if_neg c, if_neg c, if_pos (show (0 : Int32) = 0 by decide)]
      exact ⟨V, rfl, h, F2.rf V⟩
theorem rn_eq (hn : n ≤ 60) {p : Nat} {V : St} (h : PS T n p V) (hp : p ≤ n) (c : Int32) : ∃ V1, f_X7_readNumber V (if c = 78 then 1 else 0) = some ((rdv T n (dw c) p 0).1, V1) ∧ PS T n (rdv T n (dw c) p 0).2 V1 ∧ F2 V V1 := by
  by_cases e : c = 78
  · obtain ⟨V1, a1, a2, a3⟩ := rn_lp hn 500 2 0 p 0 V h hp (by decide) (by decide)
    rw [if_pos e, f_X7_readNumber, if_neg (by decide), show dw c = 2 from if_pos e]
    exact ⟨V1, a1, a2, a3⟩
  · obtain ⟨V1, a1, a2, a3⟩ := rn_lp hn 500 1 0 p 0 V h hp (by decide) (by decide)
    rw [if_neg e, f_X7_readNumber, if_pos rfl, show dw c = 1 from if_neg e]
    exact ⟨V1, a1, a2, a3⟩
/-- what reading one order leaves alone -/
def F3 (o : Nat) (V V1 : St) : Prop := (∀ k, k ≠ 192 → k ≠ 196 + o → V1 k = V k) ∧ ∀ j, j ≠ 2 → V1 192 j = V 192 j
theorem F3.rf (o : Nat) (V : St) : F3 o V V := ⟨fun _ _ _ => rfl, fun _ _ => rfl⟩
theorem F3.tr {o : Nat} {V V1 V2 : St} (h : F3 o V V1) (h2 : F3 o V1 V2) : F3 o V V2 := ⟨fun k a b => (h2.1 k a b).trans (h.1 k a b), fun j a => (h2.2 j a).trans (h.2 j a)⟩
theorem F2.f3 {V V1 : St} (h : F2 V V1) (o : Nat) : F3 o V V1 := ⟨fun k a _ => h.1 k a, h.2⟩
theorem PS.f {p o : Nat} {V V1 : St} (h : PS T n p V) (f : F3 o V V1) (ho : o < 9) (e : V1 192 2 = V 192 2) : PS T n p V1 := ⟨e.trans h.1, (f.2 1 (by decide)).trans h.2.1, fun j hj => by rw [f.1 193 (by decide) (by omega), h.2.2 j hj]⟩
theorem dp_cons {L r : List Int32} {c : Int32} {i : Nat} (h : L.drop i = c :: r) : i < L.length ∧ L.getD i 0 = c ∧ L.drop (i + 1) = r := by
  have hi : i < L.length := by
    rcases Nat.lt_or_ge i L.length with q | q
    · exact q
    · rw [List.drop_eq_nil_iff.mpr q] at h
      cases h
  have e := List.drop_eq_getElem_cons hi
  rw [h] at e
  injection e with e1 e2
  refine ⟨hi, ?_, e2.symm⟩
  rw [List.getD_eq_getElem?_getD, List.getElem?_eq_getElem hi]
  exact e1.symm
theorem dp_nil {L : List Int32} {i : Nat} (h : L.drop i = []) (hi : i ≤ L.length) : i = L.length := Nat.le_antisymm hi (List.drop_eq_nil_iff.mp h)
theorem len_eq {t : Nat} {L : List Int32} (hL : stx t = some L) : f_J0_length_8abf5 t = some (nI L.length) := by rw [f_J0_length_8abf5, hL, bs]
theorem chr_eq {t : Nat} {L : List Int32} (hL : stx t = some L) {i : Nat} (hi : i < L.length) (hl : L.length < 60) : f_J0_charAt_5068e t (nI i) = some (L.getD i 0) := by rw [f_J0_charAt_5068e, hL, bs, ix_nI hi (by omega), bs]
theorem b36_d (C : St → Nat → Int32 → Int32 → Int32 → Option (Int32 × St)) (hn : n ≤ 60) {p : Nat} {V : St} (h : PS T n p V) (hp : p ≤ n) (t : Nat) (x2 x3 x4 c : Int32) :
    f_X7_readForm_b36 C V t x2 x3 x4 c = if p < n ∧ dgt (T p) = true then (f_X7_readNumber V (if c = 78 then 1 else 0)).bind fun q1 => (f_X7_putNumber q1.2 x2 x3 q1.1).bind fun q2 => C q2 t x2 (x3 + 1) (x4 + 1) else some (0, V) := by
  rw [f_X7_readForm_b36, isDN h hn hp, bs]
  by_cases e : p < n ∧ dgt (T p) = true
  · rw [if_pos e, if_pos e, if_neg (show ¬ (1 : Int32) = 0 by decide)]
    by_cases d : c = 78
    · rw [if_pos d, if_pos d]
      rfl
    · rw [if_neg d, if_neg d]
      rfl
  · rw [if_neg e, if_neg e, if_pos (show (0 : Int32) = 0 by decide)]
theorem pn_eq (V : St) {o i : Nat} (ho : o < 9) (hi : i < 4) (x : Int32) : f_X7_putNumber V (nI o) (nI i) x = some (up V (196 + o) i x) := by
  rw [f_X7_putNumber, if_neg (nI_pos (by omega)), if_neg (show ¬ (9 : Int32) ≤ nI o from nI_ge (b := 9) ho (by decide)), if_neg (nI_pos (by omega)), if_neg (show ¬ (4 : Int32) ≤ nI i from nI_ge (b := 4) hi (by decide)), ix_nI ho (by decide), bs, ix_nI hi (by decide), bs]
theorem rf_lp (hn : n ≤ 60) {t o : Nat} (ho : o < 9) {L : List Int32} (hL : stx t = some L) (hl : L.length < 60) : ∀ (r : List Int32) (f i idx p : Nat) (V : St), L.drop i = r → i ≤ L.length → r.length < f → idx + dct r ≤ 4 → PS T n p V → p ≤ n →
    ∃ V1, f_X7_readForm_b5 f V t (nI o) (nI idx) (nI i) = some (bI (mtp T n r p).1, V1) ∧ PS T n (mtp T n r p).2.1 V1 ∧ F3 o V V1 ∧ (∀ j, j < idx → V1 (196 + o) j = V (196 + o) j) ∧ ∀ j, j < (mtp T n r p).2.2.length → V1 (196 + o) (idx + j) = (mtp T n r p).2.2.getD j 0
  | r, 0, i, idx, p, V, _, _, h, _, _, _ => by omega
  | [], f + 1, i, idx, p, V, hd, hil, hf, hi, h, hp => by
    have il := dp_nil hd hil
    rw [f_X7_readForm_b5, len_eq hL, bs, il, if_pos (nI_le (Nat.le_refl _) (by omega))]
    exact ⟨V, rfl, h, F3.rf _ _, fun _ _ => rfl, fun j hj => absurd hj (Nat.not_lt_zero j)⟩
  | c :: r, f + 1, i, idx, p, V, hd, hil, hf, hi, h, hp => by
    obtain ⟨h1, h2, h3⟩ := dp_cons hd
    rw [f_X7_readForm_b5, len_eq hL, bs, if_neg (nI_ge h1 (by omega)), chr_eq hL h1 hl, bs, h2]
    have hf : r.length < f := by
      have : r.length + 1 < f + 1 := hf
      omega
    by_cases d : isD c
    · have e36 : (if c = 68 then f_X7_readForm_b36 (fun V t1 x2 x3 x4 => f_X7_readForm_b5 f V t1 x2 x3 x4) V t (nI o) (nI idx) (nI i) c else if c = 78 then f_X7_readForm_b36 (fun V t1 x2 x3 x4 => f_X7_readForm_b5 f V t1 x2 x3 x4) V t (nI o) (nI idx) (nI i) c else (f_X7_isNext V c).bind fun q11 => if q11 = 0 then some (0, V) else f_X7_readForm_b97 (fun V t1 x2 x3 x4 => f_X7_readForm_b5 f V t1 x2 x3 x4) (up V 192 2 ((V 192 2) + 1)) t (nI o) (nI idx) (nI i)) = f_X7_readForm_b36 (fun V t1 x2 x3 x4 => f_X7_readForm_b5 f V t1 x2 x3 x4) V t (nI o) (nI idx) (nI i) c := by
        by_cases e : c = 68
        · rw [if_pos e]
        · rw [if_neg e, if_pos (d.resolve_left e)]
      rw [e36, b36_d _ hn h hp, mtp_d d]
      have di : dct (c :: r) = dct r + 1 := if_pos d
      by_cases e : p < n ∧ dgt (T p) = true
      · obtain ⟨V1, a1, a2, a3⟩ := rn_eq hn h hp c
        have hq := rdv_1 (c := c) e
        have P2 : PS T n (rdv T n (dw c) p 0).2 (up V1 (196 + o) idx (rdv T n (dw c) p 0).1) := ⟨by rw [up_at (by omega), a2.1], by rw [up_at (by omega), a2.2.1], fun j hj => by rw [up_at (by omega), a2.2.2 j hj]⟩
        obtain ⟨V3, b1, b2, b3, b4, b5⟩ := rf_lp hn ho hL hl r f (i + 1) (idx + 1) _ _ h3 h1 hf (by omega) P2 hq.2
        rw [if_pos e, if_pos e, a1, bs, pn_eq _ ho (by omega), bs, nI_1, nI_1]
        have F : F3 o V (up V1 (196 + o) idx (rdv T n (dw c) p 0).1) := ⟨fun k k1 k2 => by rw [up_at k2, a3.1 k k1], fun j hj => by rw [up_at (by omega), a3.2 j hj]⟩
        refine ⟨V3, b1, b2, F.tr b3, fun j hj => ?_, fun j hj => ?_⟩
        · rw [b4 j (by omega), up_ne _ (fun _ => by omega), a3.1 _ (by omega)]
        · cases j with
          | zero =>
            show V3 (196 + o) idx = (rdv T n (dw c) p 0).1
            rw [b4 idx (by omega), up_self]
          | succ j =>
            have hj : j + 1 < (mtp T n r (rdv T n (dw c) p 0).2).2.2.length + 1 := hj
            have := b5 j (by omega)
            show V3 (196 + o) (idx + (j + 1)) = (mtp T n r (rdv T n (dw c) p 0).2).2.2.getD j 0
            rw [← this, show idx + (j + 1) = idx + 1 + j from by omega]
      · rw [if_neg e, if_neg e]
        exact ⟨V, rfl, h, F3.rf _ _, fun _ _ => rfl, fun j hj => absurd hj (Nat.not_lt_zero j)⟩
    · have di : dct (c :: r) = dct r := if_neg d
      rw [if_neg (fun e => d (Or.inl e)), if_neg (fun e => d (Or.inr e)), isNX h hn hp, bs, mtp_l d]
      by_cases e : p < n ∧ T p = c
      · obtain ⟨V3, b1, b2, b3, b4, b5⟩ := rf_lp hn ho hL hl r f (i + 1) idx (p + 1) _ h3 h1 hf (by omega) (h.mv (q := p + 1)) e.1
        rw [if_pos e, if_pos e, if_neg (show ¬ (1 : Int32) = 0 by decide), f_X7_readForm_b97, h.1, nI_1, nI_1]
        refine ⟨V3, b1, b2, ((F2.s V _).f3 o).tr b3, fun j hj => ?_, b5⟩
        rw [b4 j hj, up_at (by omega)]
      · rw [if_neg e, if_neg e, if_pos (show (0 : Int32) = 0 by decide)]
        exact ⟨V, rfl, h, F3.rf _ _, fun _ _ => rfl, fun j hj => absurd hj (Nat.not_lt_zero j)⟩
end CR
/-! the model reads -/
def MS (T : Nat → Int32) (n : Nat) (w : Bool) (p : Nat) (U : St) : Prop := U 208 25 = bI w ∧ U 208 22 = nI p ∧ U 208 23 = nI n ∧ ∀ j, j < n → U 213 j = T j
def GF (U U1 : St) : Prop := (∀ k, k ≠ 208 → k ≠ 214 → U1 k = U k) ∧ ∀ j, j ≠ 22 → j ≠ 25 → U1 208 j = U 208 j
theorem GF.rf (U : St) : GF U U := ⟨fun _ _ _ => rfl, fun _ _ _ => rfl⟩
theorem GF.tr {V V1 V2 : St} (h : GF V V1) (h2 : GF V1 V2) : GF V V2 := ⟨fun k a b => (h2.1 k a b).trans (h.1 k a b), fun j a b => (h2.2 j a b).trans (h.2 j a b)⟩
theorem GF.w (U : St) (x : Int32) : GF U (up U 208 25 x) := ⟨fun _ h _ => up_at h, fun _ _ h => up_ne _ (fun _ => h)⟩
theorem GF.p (U : St) (x : Int32) : GF U (up U 208 22 x) := ⟨fun _ h _ => up_at h, fun _ h _ => up_ne _ (fun _ => h)⟩
theorem GF.t (U : St) (q : Nat) (x : Int32) : GF U (up U 214 q x) := ⟨fun _ _ h => up_at h, fun _ _ _ => by rw [up_at (by decide)]⟩
section MR
variable {T : Nat → Int32} {n : Nat}
theorem MS.g {w : Bool} {p : Nat} {U U1 : St} (h : MS T n w p U) (f : GF U U1) (w1 : Bool) (p1 : Nat) (e1 : U1 208 25 = bI w1) (e2 : U1 208 22 = nI p1) : MS T n w1 p1 U1 := ⟨e1, e2, (f.2 23 (by decide) (by decide)).trans h.2.2.1, fun j hj => by rw [f.1 213 (by decide) (by decide), h.2.2.2 j hj]⟩
theorem here0 {w : Bool} {p : Nat} {U : St} (h : MS T n w p U) (hn : n ≤ 60) (hp : p ≤ n) : f_X10_here U 0 = some (if p < n then T p else -1) := by
  rw [f_X10_here, h.2.1, h.2.2.1, Int32.add_zero]
  by_cases c : p < n
  · rw [if_neg (nI_ge c (by omega)), ix_nI (show p < 60 by omega) (by decide), bs, h.2.2.2 p c, if_pos c]
  · rw [if_pos (nI_le (by omega) (by omega)), if_neg c]
theorem here1 {w : Bool} {p : Nat} {U : St} (h : MS T n w p U) (hn : n ≤ 60) (hp : p ≤ n) : f_X10_here U 1 = some (if p + 1 < n then T (p + 1) else -1) := by
  rw [f_X10_here, h.2.1, h.2.2.1, nI_1]
  by_cases c : p + 1 < n
  · rw [if_neg (nI_ge c (by omega)), ix_nI (show p + 1 < 60 by omega) (by decide), bs, h.2.2.2 _ c, if_pos c]
  · rw [if_pos (nI_le (by omega) (by omega)), if_neg c]
theorem sy_w {t : Nat} {L : List Int32} (hL : stx t = some L) (f i : Nat) (U : St) (h : U 208 25 = 1) : f_X10_says_b2 (f + 1) U t (nI i) = some U := by
  rw [f_X10_says_b2, len_eq hL, bs, h]
  split
  · rfl
  · rw [if_neg (by decide)]
theorem b36_0 (C : St → Nat → Int32 → Option St) (U : St) (t : Nat) (x2 : Int32) : f_X10_says_b36 C U t x2 0 = C (up (up U 208 25 0) 208 22 (U 208 22 + 1)) t (x2 + 1) := by
  have b0 : nr .boolean 0 = some (0 : Int32) := nr_b false
  rw [f_X10_says_b36, b0, bs, up_self, if_pos rfl, f_X10_says_b56, up_ne U (fun _ => by decide)]
theorem b36_1 (C : St → Nat → Int32 → Option St) (U : St) (t : Nat) (x2 : Int32) : f_X10_says_b36 C U t x2 1 = C (up (up U 208 25 1) 208 22 (U 208 22 + 0)) t (x2 + 1) := by
  have b1 : nr .boolean 1 = some (1 : Int32) := nr_b true
  rw [f_X10_says_b36, b1, bs, up_self, if_neg (by decide), f_X10_says_b56, up_ne U (fun _ => by decide)]
theorem sy_lp (hn : n ≤ 60) {t : Nat} {L : List Int32} (hL : stx t = some L) (hl : L.length < 60) (hc : ∀ c ∈ L, ¬ isD c ∧ ¬ c = -1) : ∀ (r : List Int32) (f i p : Nat) (U : St), L.drop i = r → i ≤ L.length → r.length < f → MS T n false p U → p ≤ n →
    ∃ U1, f_X10_says_b2 f U t (nI i) = some U1 ∧ MS T n (!(mtp T n r p).1) (mtp T n r p).2.1 U1 ∧ GF U U1 ∧ U1 214 = U 214
  | r, 0, i, p, U, _, _, h, _, _ => by omega
  | [], f + 1, i, p, U, hd, hil, hf, h, hp => by
    have il := dp_nil hd hil
    rw [f_X10_says_b2, len_eq hL, bs, il, if_pos (nI_le (Nat.le_refl _) (by omega))]
    exact ⟨U, rfl, h, GF.rf _, rfl⟩
  | c :: r, f + 1, i, p, U, hd, hil, hf, h, hp => by
    obtain ⟨h1, h2, h3⟩ := dp_cons hd
    have hcm : c ∈ L := by
      have : c ∈ L.drop i := by rw [hd]; exact List.mem_cons_self
      exact List.mem_of_mem_drop this
    obtain ⟨d, m1⟩ := hc c hcm
    have hf : r.length < f := by
      have : r.length + 1 < f + 1 := hf
      omega
    have e25 : U 208 25 = 0 := h.1
    rw [f_X10_says_b2, len_eq hL, bs, if_neg (nI_ge h1 (by omega)), if_pos e25, here0 h hn hp, bs, chr_eq hL h1 hl, bs, h2, mtp_l d]
    by_cases e : p < n ∧ T p = c
    · rw [if_pos e.1, if_pos e.2, if_pos e, b36_0, h.2.1, nI_1, nI_1]
      have g : GF U (up (up U 208 25 0) 208 22 (nI (p + 1))) := (GF.w U 0).tr (GF.p _ _)
      obtain ⟨U1, a1, a2, a3, a4⟩ := sy_lp hn hL hl hc r f (i + 1) (p + 1) _ h3 h1 hf (h.g g false (p + 1) (by rw [up_ne _ (fun _ => by decide), up_self]; rfl) (up_self _ _ _ _)) e.1
      refine ⟨U1, a1, a2, g.tr a3, ?_⟩
      rw [a4, up_at (by decide), up_at (by decide)]
    · have ne : ¬ (if p < n then T p else -1) = c := by
        by_cases q : p < n
        · rw [if_pos q]
          exact fun z => e ⟨q, z⟩
        · rw [if_neg q]
          exact fun z => m1 z.symm
      obtain ⟨f', hf'⟩ : ∃ f', f = f' + 1 := ⟨f - 1, by omega⟩
      subst hf'
      have g : GF U (up (up U 208 25 1) 208 22 (nI p + 0)) := (GF.w U 1).tr (GF.p _ _)
      rw [if_neg ne, if_neg e, b36_1, h.2.1, nI_1, sy_w hL f' (i + 1) _ (by rw [up_ne _ (fun _ => by decide), up_self])]
      refine ⟨_, rfl, h.g g true p (by rw [up_ne _ (fun _ => by decide), up_self]; rfl) (by rw [up_self, Int32.add_zero]), g, ?_⟩
      rw [up_at (by decide), up_at (by decide)]
theorem i_as (a b c : Int32) : (a + b) - c = a + (b - c) := by rw [Int32.sub_eq_add_neg, Int32.sub_eq_add_neg, Int32.add_assoc]
theorem in_dgt (x : Int32) : f_X10_in x 48 57 = some (bI (dgt x)) := by
  rw [f_X10_in]
  unfold dgt
  by_cases a : x < 48
  · rw [if_pos a, if_pos a]
    rfl
  · rw [if_neg a, if_neg a]
    by_cases b : 57 < x
    · rw [if_pos b, if_pos b]
      rfl
    · rw [if_neg b, if_neg b]
      rfl
theorem dgt_m1 : dgt (-1) = false := by decide
theorem fg_lp (hn : n ≤ 60) (k : Int32) : ∀ (f w i p : Nat) (x : Int32) (U : St), MS T n false p U → p ≤ n → w < f → i + w < 100 →
    ∃ U1 i', f_X10_figure_b5 f U k (nI (i + w)) x (nI i) = f_X10_figure_b63 U1 k (rdv T n w p x).1 (nI i') ∧ MS T n false (rdv T n w p x).2 U1 ∧ GF U U1 ∧ U1 214 = U 214 ∧ i' ≤ i + w ∧ (0 < w → p < n ∧ dgt (T p) = true → i < i') ∧ (¬ (p < n ∧ dgt (T p) = true) → i' = i) ∧ i ≤ i'
  | 0, w, i, p, x, U, _, _, h, _ => by omega
  | f + 1, 0, i, p, x, U, h, hp, hf, hi => by
    have e25 : U 208 25 = 0 := h.1
    rw [f_X10_figure_b5, if_pos e25, if_pos (nI_le (by omega) (by omega))]
    exact ⟨U, i, rfl, h, GF.rf _, rfl, by omega, fun h => absurd h (Nat.lt_irrefl 0), fun _ => rfl, Nat.le_refl _⟩
  | f + 1, w + 1, i, p, x, U, h, hp, hf, hi => by
    have e25 : U 208 25 = 0 := h.1
    rw [f_X10_figure_b5, if_pos e25, if_neg (nI_ge (by omega) (by omega)), here0 h hn hp, bs, in_dgt, bs, bs, rdv_s]
    by_cases c : p < n ∧ dgt (T p) = true
    · rw [if_pos c.1, c.2, if_neg (show ¬ bI true = 0 by decide), if_pos ⟨c.1, rfl⟩, h.2.1, nI_1, nI_1, i_as]
      obtain ⟨U1, i', a1, a2, a3, a4, a5, a6, a7, a8⟩ := fg_lp hn k f w (i + 1) (p + 1) (10 * x + (T p - 48)) _ (h.g (GF.p U _) false (p + 1) (by rw [up_ne _ (fun _ => by decide)]; exact e25) (up_self _ _ _ _)) c.1 (by omega) (by omega)
      rw [show i + (w + 1) = i + 1 + w from by omega]
      exact ⟨U1, i', a1, a2, (GF.p U _).tr a3, by rw [a4, up_at (by decide)], by omega, fun _ _ => by omega, fun q => absurd ⟨c.1, rfl⟩ q, by omega⟩
    · have z : dgt (if p < n then T p else -1) = false := by
        by_cases q : p < n
        · rw [if_pos q]
          cases z : dgt (T p)
          · rfl
          · exact absurd ⟨q, z⟩ c
        · rw [if_neg q]
          exact dgt_m1
      rw [z, if_pos (show bI false = 0 by decide), if_neg c]
      exact ⟨U, i, rfl, h, GF.rf _, rfl, by omega, fun _ q => absurd q c, fun _ => rfl, Nat.le_refl _⟩
theorem b81_eq (U : St) {k o : Nat} (hk : k ≤ 4) (ho : o < 59) (h24 : U 208 24 = nI o) (x : Int32) (b : Bool) : f_X10_figure_b81 U (nI k) x (bI b) = some (up (up U 208 25 (bI b)) 214 (5 * o + k) x) := by
  rw [f_X10_figure_b81, nr_b, bs, up_ne U (fun _ => by decide), h24, show (5 : Int32) * nI o + nI k = nI (5 * o + k) from by rw [show (5 : Int32) = nI 5 from rfl, pk_mul, nI_add], ix_nI (by omega) (by decide), bs]
def cw (w : Nat) : Int32 := if w = 2 then 78 else 68
theorem cw_D (w : Nat) : isD (cw w) := by
  unfold cw
  split
  · exact Or.inr rfl
  · exact Or.inl rfl
theorem cw_dw {w : Nat} (h : w = 1 ∨ w = 2) : dw (cw w) = w := by
  rcases h with rfl | rfl <;> decide
theorem fig_eq (hn : n ≤ 60) {k o w p : Nat} (hk : k ≤ 4) (ho : o < 59) (hw : w = 1 ∨ w = 2) {U : St} (h24 : U 208 24 = nI o) (h : MS T n false p U) (hp : p ≤ n) : ∃ U1, f_X10_figure U (nI k) (nI w) = some U1 ∧ GF U U1 ∧ (∀ q, q ≠ 5 * o + k → U1 214 q = U 214 q) ∧
    (if p < n ∧ dgt (T p) = true then MS T n false (rdv T n w p 0).2 U1 ∧ U1 214 (5 * o + k) = (rdv T n w p 0).1 else MS T n true p U1) := by
  obtain ⟨U1, i', a1, a2, a3, a4, a5, a6, a7, -⟩ := fg_lp hn (nI k) 500 w 0 p 0 U h hp (by omega) (by omega)
  rw [Nat.zero_add] at a1 a5
  have a1 : f_X10_figure U (nI k) (nI w) = _ := a1
  have u24 : U1 208 24 = nI o := (a3.2 24 (by decide) (by decide)).trans h24
  have e25 : U1 208 25 = 0 := a2.1
  rw [a1, f_X10_figure_b63, if_pos e25]
  by_cases c : p < n ∧ dgt (T p) = true
  · have i0 : 0 < i' := a6 (by omega) c
    have b := b81_eq U1 hk ho u24 (rdv T n w p 0).1 false
    have b : f_X10_figure_b81 U1 (nI k) (rdv T n w p 0).1 0 = _ := b
    have g : GF U1 (up (up U1 208 25 (bI false)) 214 (5 * o + k) (rdv T n w p 0).1) := (GF.w _ _).tr (GF.t _ _ _)
    rw [if_neg (fun q => by have := (nI_eq (a := i') (b := 0) (by omega) (by decide)).mp q; omega), b, if_pos c]
    refine ⟨_, rfl, a3.tr g, fun q hq => ?_, a2.g g false _ (by rw [up_at (by decide), up_self]) (by rw [up_at (by decide), up_ne _ (fun _ => by decide), a2.2.1]), up_self _ _ _ _⟩
    rw [up_ne _ (fun _ => hq), up_at (by decide), a4]
  · have b := b81_eq U1 hk ho u24 (rdv T n w p 0).1 true
    have b : f_X10_figure_b81 U1 (nI k) (rdv T n w p 0).1 1 = _ := b
    have g : GF U1 (up (up U1 208 25 (bI true)) 214 (5 * o + k) (rdv T n w p 0).1) := (GF.w _ _).tr (GF.t _ _ _)
    have e2 : (rdv T n w p 0).2 = p := by
      rcases hw with rfl | rfl
      · rw [rdv_s, if_neg c]
      · rw [rdv_s, if_neg c]
    rw [a7 c, if_pos (show nI 0 = 0 by decide), f_X10_figure_b76, b, if_neg c]
    refine ⟨_, rfl, a3.tr g, fun q hq => ?_, a2.g g true _ (by rw [up_at (by decide), up_self]) (by rw [up_at (by decide), up_ne _ (fun _ => by decide), a2.2.1, e2])⟩
    rw [up_ne _ (fun _ => hq), up_at (by decide), a4]
theorem fig_w {k o p : Nat} (hk : k ≤ 4) (ho : o < 59) (w : Int32) {U : St} (h24 : U 208 24 = nI o) (h : MS T n true p U) : ∃ U1, f_X10_figure U (nI k) w = some U1 ∧ GF U U1 ∧ (∀ q, q ≠ 5 * o + k → U1 214 q = U 214 q) ∧ MS T n true p U1 := by
  have e25 : ¬ U 208 25 = 0 := by rw [h.1]; decide
  have b := b81_eq U hk ho h24 0 true
  have b : f_X10_figure_b81 U (nI k) 0 1 = _ := b
  have g : GF U (up (up U 208 25 (bI true)) 214 (5 * o + k) 0) := (GF.w _ _).tr (GF.t _ _ _)
  refine ⟨_, ?_, g, fun q hq => ?_, h.g g true p (by rw [up_at (by decide), up_self]) (by rw [up_at (by decide), up_ne _ (fun _ => by decide), h.2.1])⟩
  · show f_X10_figure_b5 (499 + 1) U (nI k) w 0 0 = _
    rw [f_X10_figure_b5, if_neg e25, f_X10_figure_b63, if_neg e25, f_X10_figure_b76, b]
  · rw [up_ne _ (fun _ => hq), up_at (by decide)]
/-! a row of sayings and figures -/
abbrev MO : Type := Sum Nat (Nat × Nat)
def mops : List MO → St → Option St
  | [], U => some U
  | .inl t :: r, U => (f_X10_says U t).bind fun U1 => mops r U1
  | .inr (k, w) :: r, U => (f_X10_figure U (nI k) (nI w)).bind fun U1 => mops r U1
def mcod : List MO → List Int32
  | [] => []
  | .inl t :: r => (stx t).getD [] ++ mcod r
  | .inr (_, w) :: r => cw w :: mcod r
def mok : Nat → List MO → Prop
  | _, [] => True
  | i, .inl t :: r => (∃ L, stx t = some L ∧ L.length < 60 ∧ ∀ c ∈ L, ¬ isD c ∧ ¬ c = -1) ∧ mok i r
  | i, .inr (k, w) :: r => k = i ∧ k ≤ 4 ∧ (w = 1 ∨ w = 2) ∧ mok (i + 1) r
theorem mtp_al : ∀ (a b : List Int32) (p : Nat), (∀ c ∈ a, ¬ isD c) → mtp T n (a ++ b) p = if (mtp T n a p).1 = true then mtp T n b (mtp T n a p).2.1 else (false, (mtp T n a p).2.1, [])
  | [], b, p, _ => rfl
  | c :: a, b, p, h => by
    have d := h c List.mem_cons_self
    rw [List.cons_append, mtp_l d, mtp_l d]
    by_cases e : p < n ∧ T p = c
    · rw [if_pos e, if_pos e]
      exact mtp_al a b (p + 1) (fun x hx => h x (List.mem_cons_of_mem _ hx))
    · rw [if_neg e, if_neg e]
      rfl
theorem mops_w {o : Nat} (ho : o < 59) : ∀ (ops : List MO) (i p : Nat) (U : St), mok i ops → 1 ≤ i → U 208 24 = nI o → MS T n true p U → ∃ U1, mops ops U = some U1 ∧ MS T n true p U1 ∧ GF U U1 ∧ ∀ q, (q < 5 * o + i ∨ 5 * o + 5 ≤ q) → U1 214 q = U 214 q
  | [], i, p, U, _, _, _, h => ⟨U, rfl, h, GF.rf _, fun _ _ => rfl⟩
  | .inl t :: r, i, p, U, hk, hi, h24, h => by
    obtain ⟨⟨L, hL, -, -⟩, hk⟩ := hk
    have e : f_X10_says U t = some U := sy_w hL 499 0 U h.1
    obtain ⟨U1, a1, a2, a3, a4⟩ := mops_w ho r i p U hk hi h24 h
    exact ⟨U1, by rw [mops, e, bs, a1], a2, a3, a4⟩
  | .inr (k, w) :: r, i, p, U, hk, hi, h24, h => by
    obtain ⟨k1, k2, k3, hk⟩ := hk
    obtain ⟨U1, b1, b2, b3, b4⟩ := fig_w k2 ho (nI w) h24 h
    obtain ⟨U2, a1, a2, a3, a4⟩ := mops_w ho r (i + 1) p U1 hk (by omega) ((b2.2 24 (by decide) (by decide)).trans h24) b4
    exact ⟨U2, by rw [mops, b1, bs, a1], a2, b2.tr a3, fun q hq => by rw [a4 q (by omega), b3 q (by omega)]⟩
theorem mops_eq (hn : n ≤ 60) {o : Nat} (ho : o < 59) : ∀ (ops : List MO) (i p : Nat) (U : St), mok i ops → 1 ≤ i → U 208 24 = nI o → MS T n false p U → p ≤ n → ∃ U1, mops ops U = some U1 ∧ MS T n (!(mtp T n (mcod ops) p).1) (mtp T n (mcod ops) p).2.1 U1 ∧ GF U U1 ∧ (∀ q, (q < 5 * o + i ∨ 5 * o + 5 ≤ q) → U1 214 q = U 214 q) ∧
    ((mtp T n (mcod ops) p).1 = true → ∀ j, j < (mtp T n (mcod ops) p).2.2.length → U1 214 (5 * o + i + j) = (mtp T n (mcod ops) p).2.2.getD j 0)
  | [], i, p, U, _, _, _, h, _ => ⟨U, rfl, h, GF.rf _, fun _ _ => rfl, fun _ j hj => absurd hj (Nat.not_lt_zero j)⟩
  | .inl t :: r, i, p, U, hk, hi, h24, h, hp => by
    obtain ⟨⟨L, hL, hl, hc⟩, hk⟩ := hk
    obtain ⟨U1, b1, b2, b3, b4⟩ := sy_lp hn hL hl hc L 500 0 p U List.drop_zero (Nat.zero_le _) (by omega) h hp
    have b1 : f_X10_says U t = some U1 := b1
    have ml := mtp_le (T := T) (n := n) L p hp
    have u24 : U1 208 24 = nI o := (b3.2 24 (by decide) (by decide)).trans h24
    rw [mcod, hL, Option.getD_some, mtp_al L _ p (fun c hc' => (hc c hc').1), mops, b1, bs]
    cases e : (mtp T n L p).1
    · rw [e] at b2
      rw [if_neg Bool.false_ne_true]
      obtain ⟨U2, a1, a2, a3, a4⟩ := mops_w ho r i _ U1 hk hi u24 b2
      exact ⟨U2, a1, a2, b3.tr a3, fun q hq => by rw [a4 q hq, b4], fun q => by cases q⟩
    · rw [e] at b2
      rw [if_pos rfl]
      obtain ⟨U2, a1, a2, a3, a4, a5⟩ := mops_eq hn ho r i _ U1 hk hi u24 b2 ml.2.1
      exact ⟨U2, a1, a2, b3.tr a3, fun q hq => by rw [a4 q hq, b4], a5⟩
  | .inr (k, w) :: r, i, p, U, hk, hi, h24, h, hp => by
    obtain ⟨k1, k2, k3, hk⟩ := hk
    obtain ⟨U1, b1, b2, b3, b4⟩ := fig_eq hn k2 ho k3 h24 h hp
    have u24 : U1 208 24 = nI o := (b2.2 24 (by decide) (by decide)).trans h24
    rw [mcod, mtp_d (cw_D w), cw_dw k3, mops, b1, bs]
    by_cases c : p < n ∧ dgt (T p) = true
    · rw [if_pos c] at b4 ⊢
      have hq := rdv_1 (c := cw w) c
      rw [cw_dw k3] at hq
      obtain ⟨U2, a1, a2, a3, a4, a5⟩ := mops_eq hn ho r (i + 1) _ U1 hk (by omega) u24 b4.1 hq.2
      refine ⟨U2, a1, a2, b2.tr a3, fun q hq => by rw [a4 q (by omega), b3 q (by omega)], fun ok j hj => ?_⟩
      cases j with
      | zero =>
        show U2 214 (5 * o + i + 0) = (rdv T n w p 0).1
        rw [a4 _ (by omega), ← b4.2, k1, Nat.add_zero]
      | succ j =>
        have hj : j + 1 < (mtp T n (mcod r) (rdv T n w p 0).2).2.2.length + 1 := hj
        have := a5 ok j (by omega)
        show U2 214 (5 * o + i + (j + 1)) = (mtp T n (mcod r) (rdv T n w p 0).2).2.2.getD j 0
        rw [← this, show 5 * o + i + (j + 1) = 5 * o + (i + 1) + j from by omega]
    · rw [if_neg c] at b4 ⊢
      obtain ⟨U2, a1, a2, a3, a4⟩ := mops_w ho r (i + 1) p U1 hk (by omega) u24 b4
      exact ⟨U2, a1, a2, b2.tr a3, fun q hq => by rw [a4 q (by omega), b3 q (by omega)], fun q => by cases q⟩
end MR
