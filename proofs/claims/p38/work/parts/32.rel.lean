/-! the class's part of a state and the model's part of another say the same -/
def R1 (Vc Vm : St) : Prop := SR Vc 1 (Vm 209) ∧ GG (Vm 209)
def R2 (Vc Vm : St) : Prop := ∃ c G, c ≤ 8 ∧ HRc Vc G c ∧ HRm Vm G c ∧ ∀ j, j < c → GG (G j)
def R3 (Vc Vm : St) : Prop := (Vc 0 3 = 0 ∧ Vm 208 6 = 0) ∨ (Vc 0 3 = 1 ∧ Vm 208 6 = 1 ∧ ∃ g, SR Vc 35 g ∧ GG g ∧ ∀ q, q < 53 → Vm 211 q = g q)
def R4 (Vc Vm : St) : Prop := ∃ n, n ≤ 60 ∧ Vc 192 1 = nI n ∧ Vm 208 10 = nI n ∧ ∀ j, j < n → Vc 193 j = Vm 213 j
def R5 (Vc Vm : St) : Prop := ∃ n, n ≤ 25 ∧ Vc 205 1 = nI n ∧ Vm 208 11 = nI n ∧ ∀ j, j < n → ∃ c, c < 128 ∧ Vc 206 j = nI c ∧ Vm 215 j = nI c
def R6 (Vc Vm : St) : Prop := Vc 207 0 = Vm 208 13 ∧ Vc 207 1 = Vm 208 14 ∧ ((Vm 208 13 = 9 ∧ ¬ Vm 208 15 = 0 ∧ Vc 207 2 = Vm 208 15 ∧ Vc 207 3 = Vm 208 16) ∨ (¬ Vm 208 13 = 9 ∧ Vm 208 15 = 0))
def R7 (Vc Vm : St) : Prop := Vc 0 10 = Vm 208 12
def RR (Vc Vm : St) : Prop := R1 Vc Vm ∧ R2 Vc Vm ∧ R3 Vc Vm ∧ R4 Vc Vm ∧ R5 Vc Vm ∧ R6 Vc Vm ∧ R7 Vc Vm
theorem R1.fr {Vc Vm Vc2 Vm2 : St} (h : R1 Vc Vm) (a : ∀ k, 1 ≤ k → k < 18 → Vc2 k = Vc k) (b : Vm2 209 = Vm 209) : R1 Vc2 Vm2 := by
  unfold R1
  rw [b]
  exact ⟨h.1.fr fun k h1 h2 => a k h1 (by omega), h.2⟩
theorem HRc.fr {V V2 : St} {G : Nat → Nat → Int32} {c : Nat} (h : HRc V G c) (a : ∀ k, 52 ≤ k → k < 190 → V2 k = V k) : HRc V2 G c := by
  obtain ⟨o, h1, h2, h3, h4⟩ := h
  refine ⟨o, h1, by rw [a 52 (by decide) (by decide), h2], by rw [a 52 (by decide) (by decide), h3], fun j hj => (h4 j hj).fr fun k k1 k2 => a k (by omega) (by omega)⟩
theorem HRm.fr {V V2 : St} {G : Nat → Nat → Int32} {c : Nat} (h : HRm V G c) (a : V2 208 5 = V 208 5) (b : V2 212 = V 212) : HRm V2 G c := by
  unfold HRm
  rw [a, b]
  exact h
theorem R2.fr {Vc Vm Vc2 Vm2 : St} (h : R2 Vc Vm) (a : ∀ k, 52 ≤ k → k < 190 → Vc2 k = Vc k) (b : Vm2 208 5 = Vm 208 5) (d : Vm2 212 = Vm 212) : R2 Vc2 Vm2 := by
  obtain ⟨c, G, h1, h2, h3, h4⟩ := h
  exact ⟨c, G, h1, h2.fr a, h3.fr b d, h4⟩
theorem R3.fr {Vc Vm Vc2 Vm2 : St} (h : R3 Vc Vm) (a0 : Vc2 0 3 = Vc 0 3) (a : ∀ k, 35 ≤ k → k < 52 → Vc2 k = Vc k) (b : Vm2 208 6 = Vm 208 6) (d : Vm2 211 = Vm 211) : R3 Vc2 Vm2 := by
  unfold R3
  rw [a0, b, d]
  rcases h with h | ⟨h1, h2, g, h3, h4, h5⟩
  · exact Or.inl h
  · exact Or.inr ⟨h1, h2, g, h3.fr fun k k1 k2 => a k k1 (by omega), h4, h5⟩
theorem R4.fr {Vc Vm Vc2 Vm2 : St} (h : R4 Vc Vm) (a : Vc2 192 1 = Vc 192 1) (a2 : Vc2 193 = Vc 193) (b : Vm2 208 10 = Vm 208 10) (d : Vm2 213 = Vm 213) : R4 Vc2 Vm2 := by
  unfold R4
  rw [a, a2, b, d]
  exact h
theorem R5.fr {Vc Vm Vc2 Vm2 : St} (h : R5 Vc Vm) (a : Vc2 205 1 = Vc 205 1) (a2 : Vc2 206 = Vc 206) (b : Vm2 208 11 = Vm 208 11) (d : Vm2 215 = Vm 215) : R5 Vc2 Vm2 := by
  unfold R5
  rw [a, a2, b, d]
  exact h
theorem R6.fr {Vc Vm Vc2 Vm2 : St} (h : R6 Vc Vm) (a : Vc2 207 = Vc 207) (b : ∀ j, 13 ≤ j → j < 17 → Vm2 208 j = Vm 208 j) : R6 Vc2 Vm2 := by
  unfold R6
  rw [a, b 13 (by decide) (by decide), b 14 (by decide) (by decide), b 15 (by decide) (by decide), b 16 (by decide) (by decide)]
  exact h
theorem R7.fr {Vc Vm Vc2 Vm2 : St} (h : R7 Vc Vm) (a : Vc2 0 10 = Vc 0 10) (b : Vm2 208 12 = Vm 208 12) : R7 Vc2 Vm2 := by
  unfold R7
  rw [a, b]
  exact h
theorem RR.cg {Vc Vm Vc2 Vm2 : St} (h : RR Vc Vm) (a : ∀ k, k < 208 → Vc2 k = Vc k) (b : ∀ k, 208 ≤ k → k < 216 → Vm2 k = Vm k) : RR Vc2 Vm2 := by
  obtain ⟨h1, h2, h3, h4, h5, h6, h7⟩ := h
  have b8 := b 208 (by decide) (by decide)
  refine ⟨h1.fr (fun k _ k2 => a k (by omega)) (b 209 (by decide) (by decide)), h2.fr (fun k _ k2 => a k (by omega)) (by rw [b8]) (b 212 (by decide) (by decide)), h3.fr (by rw [a 0 (by decide)]) (fun k _ k2 => a k (by omega)) (by rw [b8]) (b 211 (by decide) (by decide)), h4.fr (by rw [a 192 (by decide)]) (a 193 (by decide)) (by rw [b8]) (b 213 (by decide) (by decide)), h5.fr (by rw [a 205 (by decide)]) (a 206 (by decide)) (by rw [b8]) (b 215 (by decide) (by decide)), h6.fr (a 207 (by decide)) (fun j _ _ => by rw [b8]), h7.fr (by rw [a 0 (by decide)]) (by rw [b8])⟩
/-! a method and the model's of the same name -/
def FC (V V1 : St) : Prop := ∀ k, 208 ≤ k → V1 k = V k
def FM (V V1 : St) : Prop := ∀ k, (k < 208 ∨ 216 ≤ k) → V1 k = V k
def Ans (L : List (Nat × Int32)) (res : Except Nat Int32) (a t : Int32) : Prop := (res = .ok a ∧ t = 0) ∨ ∃ n c, res = .error n ∧ (n, c) ∈ L ∧ t = c ∧ c ≠ 0
def SIM (fc : St → Option ((Except Nat Int32) × St)) (fm : St → Option (Int32 × St)) (L : List (Nat × Int32)) : Prop :=
  ∀ Vc Vm, RR Vc Vm → ∃ res Vc1 a Vm1, fc Vc = some (res, Vc1) ∧ fm Vm = some (a, Vm1) ∧ RR Vc1 Vm1 ∧ FC Vc Vc1 ∧ FM Vm Vm1 ∧ Ans L res a (Vm1 208 0)
/-! the changes -/
theorem mut_sim {rc : St → Option (Int32 × St)} {dc : St → Option St} {rm : St → Option (Int32 × St)} {an : St → St → Option Int32} (hO : ∀ Vc Vm, SR Vc 1 (Vm 209) → GG (Vm 209) → OP Vc Vm (rc Vc) (dc Vc) (rm Vm) (an Vc)) :
    SIM (fun V => (rc V).bind fun q1 => (f_X9_keepsReason q1.2 q1.1).bind fun q2 => if q2.1 = 0 then ((f_X1_push q2.2 1).bind fun q4 => (dc q4).bind fun q5 => (an q4 q5).bind fun x => some (.ok x, q5)) else some (.error 0, q2.2))
      (fun V => (f_X10_remembers V).bind fun q1 => (rm q1).bind fun q2 => (f_X10_ends q2.2 q2.1).bind fun q3 => some (q3.1, q3.2)) [(0, 1)] := by
  intro Vc Vm hR
  obtain ⟨h1, h2, h3, h4, h5, h6, h7⟩ := hR
  obtain ⟨Vm0, r1, r2, r3⟩ := rem_eq Vm
  have e9 : Vm0 209 = Vm 209 := by rw [r2 209 (by decide), up_at (by decide)]
  have e8 : ∀ j, j ≠ 0 → Vm0 208 j = Vm 208 j := fun j hj => by rw [r2 208 (by decide), up_ne _ (fun _ => hj)]
  have e80 : Vm0 208 0 = 0 := by rw [r2 208 (by decide), up_self]
  have eo : ∀ k, k ≠ 208 → k ≠ 210 → Vm0 k = Vm k := fun k a b => by rw [r2 k b, up_at a]
  rcases hO Vc Vm0 (by rw [e9]; exact h1.1) (by rw [e9]; exact h1.2) with ⟨r, d, Vm1, n0, n9, c1, m1, m2, m3, m4⟩ | ⟨Vc1, Vm1, c1, -, m1, -⟩
  · refine ⟨.error 0, up (up (up (up (up Vc 0 9 d) 207 0 r) 207 1 d) 207 2 0) 207 3 0, 0, up (up (up (up Vm1 208 13 r) 208 14 d) 208 15 0) 208 0 1, ?_, ?_, ⟨?_, ?_, ?_, ?_, ?_, ?_, ?_⟩, fun k hk => ?_, fun k hk => ?_, Or.inr ⟨0, 1, rfl, List.mem_singleton.mpr rfl, up_self _ _ _ _, by decide⟩⟩
    · show (rc Vc).bind _ = _
      rw [c1, bs]
      show (f_X9_keepsReason (up Vc 0 9 d) r).bind _ = _
      rw [f_X9_keepsReason, if_neg n0, up_self]
      rfl
    · show (f_X10_remembers Vm).bind _ = _
      rw [r1, bs, m1, bs]
      show (f_X10_ends Vm1 r).bind _ = _
      rw [f_X10_ends, if_neg n0, up_ne _ (fun _ => by decide), m2]
      rfl
    · exact h1.fr (fun k a b => by simp only [up_at (show k ≠ 207 by omega), up_at (show k ≠ 0 by omega)]) (by simp only [up_at (show 209 ≠ 208 by decide)]; rw [m3, e9])
    · refine h2.fr (fun k a b => by simp only [up_at (show k ≠ 207 by omega), up_at (show k ≠ 0 by omega)]) ?_ ?_
      · rw [up_ne _ (fun _ => by decide), up_ne _ (fun _ => by decide), up_ne _ (fun _ => by decide), up_ne _ (fun _ => by decide), m4.2 5 (by decide), e8 5 (by decide)]
      · simp only [up_at (show 212 ≠ 208 by decide)]
        rw [m4.1 212 (by decide) (by decide), eo 212 (by decide) (by decide)]
    · refine h3.fr ?_ (fun k a b => by simp only [up_at (show k ≠ 207 by omega), up_at (show k ≠ 0 by omega)]) ?_ ?_
      · simp only [up_at (show 0 ≠ 207 by decide)]
        rw [up_ne _ (fun _ => by decide)]
      · rw [up_ne _ (fun _ => by decide), up_ne _ (fun _ => by decide), up_ne _ (fun _ => by decide), up_ne _ (fun _ => by decide), m4.2 6 (by decide), e8 6 (by decide)]
      · simp only [up_at (show 211 ≠ 208 by decide)]
        rw [m4.1 211 (by decide) (by decide), eo 211 (by decide) (by decide)]
    · refine h4.fr ?_ ?_ ?_ ?_
      · simp only [up_at (show 192 ≠ 207 by decide), up_at (show 192 ≠ 0 by decide)]
      · simp only [up_at (show 193 ≠ 207 by decide), up_at (show 193 ≠ 0 by decide)]
      · rw [up_ne _ (fun _ => by decide), up_ne _ (fun _ => by decide), up_ne _ (fun _ => by decide), up_ne _ (fun _ => by decide), m4.2 10 (by decide), e8 10 (by decide)]
      · simp only [up_at (show 213 ≠ 208 by decide)]
        rw [m4.1 213 (by decide) (by decide), eo 213 (by decide) (by decide)]
    · refine h5.fr ?_ ?_ ?_ ?_
      · simp only [up_at (show 205 ≠ 207 by decide), up_at (show 205 ≠ 0 by decide)]
      · simp only [up_at (show 206 ≠ 207 by decide), up_at (show 206 ≠ 0 by decide)]
      · rw [up_ne _ (fun _ => by decide), up_ne _ (fun _ => by decide), up_ne _ (fun _ => by decide), up_ne _ (fun _ => by decide), m4.2 11 (by decide), e8 11 (by decide)]
      · simp only [up_at (show 215 ≠ 208 by decide)]
        rw [m4.1 215 (by decide) (by decide), eo 215 (by decide) (by decide)]
    · refine ⟨?_, ?_, Or.inr ⟨?_, ?_⟩⟩
      · simp [up_ev]
      · simp [up_ev]
      · simp [up_ev, n9]
      · simp [up_ev]
    · refine h7.fr ?_ ?_
      · simp only [up_at (show 0 ≠ 207 by decide)]
        rw [up_ne _ (fun _ => by decide)]
      · rw [up_ne _ (fun _ => by decide), up_ne _ (fun _ => by decide), up_ne _ (fun _ => by decide), up_ne _ (fun _ => by decide), m4.2 12 (by decide), e8 12 (by decide)]
    · simp only [up_at (show k ≠ 207 by omega), up_at (show k ≠ 0 by omega)]
    · simp only [up_at (show k ≠ 208 by omega)]
      rw [m4.1 k (by omega) (by omega), eo k (by omega) (by omega)]
  · obtain ⟨c, G, k1, k2, k3, k4⟩ := h2
    obtain ⟨Vp, p1, p2, p3⟩ := push_c k1 k2 h1.1 (by decide)
    rcases hO Vp Vm0 (by rw [e9]; exact h1.1.fr fun k a b => p2 k (Or.inl (by omega))) (by rw [e9]; exact h1.2) with ⟨r, d, Vm2, n0, -, -, m2, -⟩ | ⟨Vc2, Vm2, d1, d2, d3, d4, d5, d6, d7, d8⟩
    · rw [m1] at m2
      cases m2
      exact absurd rfl n0
    · obtain ⟨Vm3, f1, f2, f3, f4⟩ := chg_eq (V := Vm2) (g := Vm 209) k1 (k3.fr (by rw [d7.2 5 (by decide), e8 5 (by decide)]) (by rw [d7.1 212 (by decide) (by decide), eo 212 (by decide) (by decide)])) (fun q hq => by rw [d7.1 210 (by decide) (by decide), r3 q hq]) (Vm2 208 18)
      have o8 : ∀ j, j ≠ 0 → j ≠ 5 → (j < 17 ∨ 21 < j) → Vm3 208 j = Vm 208 j := fun j a b c => by rw [f3 j b, d7.2 j c, e8 j a]
      have oo : ∀ k, k ≠ 208 → k ≠ 209 → k ≠ 210 → k ≠ 212 → Vm3 k = Vm k := fun k a b c d => by rw [f2 k a d, d7.1 k a b, eo k a c]
      have oc : ∀ k, ¬ (1 ≤ k ∧ k < 18) → ¬ (52 ≤ k ∧ k < 190) → Vc2 k = Vc k := fun k a b => by rw [d6 k (by omega), p2 k (by omega)]
      refine ⟨.ok (Vm2 208 18), Vc2, Vm2 208 18, Vm3, ?_, ?_, ⟨?_, ?_, ?_, ?_, ?_, ?_, ?_⟩, fun k hk => oc k (by omega) (by omega), fun k hk => oo k (by omega) (by omega) (by omega) (by omega), Or.inl ⟨rfl, ?_⟩⟩
      · show (rc Vc).bind _ = _
        rw [c1, bs]
        show ((f_X9_keepsReason Vc 0).bind _) = _
        rw [f_X9_keepsReason, if_pos rfl, bs, if_pos rfl]
        show (f_X1_push Vc 1).bind _ = _
        rw [p1, bs, d2, bs, d8]
        rfl
      · show (f_X10_remembers Vm).bind _ = _
        rw [r1, bs, d3, bs]
        show (f_X10_ends Vm2 0).bind _ = _
        rw [f_X10_ends, if_pos rfl, f1]
        rfl
      · unfold R1
        rw [f2 209 (by decide) (by decide)]
        exact ⟨d4, d5⟩
      · refine ⟨cp8 c, Gp G c (Vm 209), ?_, p3.fr fun k a b => d6 k (by omega), f4, fun j hj => ?_⟩
        · unfold cp8
          split <;> omega
        · unfold Gp
          unfold cp8 at hj
          by_cases q : c < 8
          · rw [if_pos q] at hj ⊢
            show GG (if j = c then _ else _)
            split
            · exact h1.2
            · exact k4 j (by omega)
          · rw [if_neg q] at hj ⊢
            show GG (if j = 7 then _ else _)
            split
            · exact h1.2
            · exact k4 (j + 1) (by omega)
      · exact h3.fr (by rw [oc 0 (by omega) (by omega)]) (fun k a b => oc k (by omega) (by omega)) (o8 6 (by decide) (by decide) (by decide)) (oo 211 (by decide) (by decide) (by decide) (by decide))
      · exact h4.fr (by rw [oc 192 (by omega) (by omega)]) (oc 193 (by omega) (by omega)) (o8 10 (by decide) (by decide) (by decide)) (oo 213 (by decide) (by decide) (by decide) (by decide))
      · exact h5.fr (by rw [oc 205 (by omega) (by omega)]) (oc 206 (by omega) (by omega)) (o8 11 (by decide) (by decide) (by decide)) (oo 215 (by decide) (by decide) (by decide) (by decide))
      · exact h6.fr (oc 207 (by omega) (by omega)) (fun j a b => o8 j (by omega) (by omega) (by omega))
      · exact h7.fr (by rw [oc 0 (by omega) (by omega)]) (o8 12 (by decide) (by decide) (by decide))
      · rw [f3 0 (by decide), d7.2 0 (by decide), e80]
theorem sim_eq {fc fc2 : St → Option ((Except Nat Int32) × St)} {fm fm2 : St → Option (Int32 × St)} {L : List (Nat × Int32)} (h : SIM fc fm L) (e1 : ∀ V, fc2 V = fc V) (e2 : ∀ V, fm2 V = fm V) : SIM fc2 fm2 L := by
  rw [show fc2 = fc from funext e1, show fm2 = fm from funext e2]
  exact h
theorem ba {α β γ : Type} (o : Option α) (f : α → Option β) (g : β → Option γ) : (o.bind f).bind g = o.bind fun x => (f x).bind g := by cases o <;> rfl
theorem bc2 {α β γ : Type} (o : Option α) (p : Option β) (f : α → β → Option γ) : (o.bind fun x => p.bind fun y => f x y) = p.bind fun y => o.bind fun x => f x y := by cases o <;> cases p <;> rfl
theorem s_knot (x1 x2 x3 : Int32) : SIM (fun V => f_X9_knot V x1 x2 x3) (fun V => f_X10_knot V x1 x2 x3) [(0, 1)] := by
  refine sim_eq (mut_sim (an := fun V _ => (f_X8_netNumbered V 1 x1).bind fun q => f_X3_kindAt V q x2) (fun Vc Vm a b => op_knot a b x1 x2 x3)) (fun V => ?_) (fun V => rfl)
  simp only [f_X9_knot, ba]
  refine congrArg _ (funext fun q1 => congrArg _ (funext fun q2 => ?_))
  split
  · refine congrArg _ (funext fun q4 => ?_)
    cases f_X8_netNumbered q4 1 x1 with
    | none => rfl
    | some q5 =>
      show ((f_X3_kindAt q4 q5 x2).bind fun q6 => (f_X3_tie q4 q5 x2 x3).bind fun q8 => some (Except.ok q6, q8)) = ((f_X3_tie q4 q5 x2 x3).bind fun q8 => (f_X3_kindAt q4 q5 x2).bind fun q6 => some (Except.ok q6, q8))
      exact bc2 _ _ _
  · rfl
theorem s_tear (x1 x2 x3 : Int32) : SIM (fun V => f_X9_tear V x1 x2 x3) (fun V => f_X10_tear V x1 x2 x3) [(0, 1)] := by
  refine sim_eq (mut_sim (an := fun _ V => (f_X8_netNumbered V 1 x1).bind fun q => f_X3_countChapters V q) (fun Vc Vm a b => op_tear a b x1 x2 x3)) (fun V => ?_) (fun V => rfl)
  simp only [f_X9_tear, ba]
theorem s_mend (x1 x2 x3 x4 : Int32) : SIM (fun V => f_X9_mend V x1 x2 x3 x4) (fun V => f_X10_mend V x1 x2 x3 x4) [(0, 1)] := by
  refine sim_eq (mut_sim (an := fun _ V => (f_X8_editorNumbered V 1 x4).bind fun q => some (V q 0)) (fun Vc Vm a b => op_mend a b x1 x2 x3 x4)) (fun V => ?_) (fun V => rfl)
  simp only [f_X9_mend, ba, bs]
theorem s_editor (x1 : Int32) : SIM (fun V => f_X9_editor V x1) (fun V => f_X10_editor V x1) [(0, 1)] := by
  refine sim_eq (mut_sim (an := fun _ V => some (V 1 3 - 1)) (fun Vc Vm a b => op_editor a b x1)) (fun V => ?_) (fun V => rfl)
  simp only [f_X9_editor, ba, bs]
theorem s_tide (x1 : Int32) : SIM (fun V => f_X9_tide V x1) (fun V => f_X10_tide V x1) [(0, 1)] := by
  refine sim_eq (mut_sim (an := fun _ V => f_X8_countReadable V 1) (fun Vc Vm a b => op_tide a b x1)) (fun V => ?_) (fun V => rfl)
  simp only [f_X9_tide, ba, bs]
theorem s_sink (x1 x2 : Int32) : SIM (fun V => f_X9_sink V x1 x2) (fun V => f_X10_sink V x1 x2) [(0, 1)] := by
  refine sim_eq (mut_sim (an := fun _ V => f_X8_linesUnderWater V 1 x1) (fun Vc Vm a b => op_sink a b x1 x2)) (fun V => ?_) (fun V => rfl)
  simp only [f_X9_sink, ba, bs]
theorem s_note (x1 x2 : Int32) : SIM (fun V => f_X9_note V x1 x2) (fun V => f_X10_note V x1 x2) [(0, 1)] := by
  refine sim_eq (mut_sim (an := fun _ V => some (V 1 4 - 1)) (fun Vc Vm a b => op_note a b x1 x2)) (fun V => ?_) (fun V => rfl)
  simp only [f_X9_note, ba, bs]
theorem s_drop (x1 : Int32) : SIM (fun V => f_X9_drop V x1) (fun V => f_X10_drop V x1) [(0, 1)] := by
  refine sim_eq (mut_sim (an := fun _ V => some (V 1 4)) (fun Vc Vm a b => op_drop a b x1)) (fun V => ?_) (fun V => rfl)
  simp only [f_X9_drop, ba, bs]
