/-! strings and their making: rows over the cells beside the objects -/
theorem Hd.mem {G : LG} {b0 : Nat} {V : St} {H : Heap} (h : Hd G b0 V H) {x : Nat × va_E} (hx : x ∈ G.2.2.2.1) : va_P G.1 vwCl [x] H := by
  intro i q hq
  cases i with
  | zero =>
    rw [List.getElem?_cons_zero] at hq
    cases hq
    exact h.2.1 x hx
  | succ i => simp at hq
/-- the same world with another list of cells beside -/
def exG (G : LG) (L : va_W) : LG := (G.1, G.2.1, G.2.2.1, L, G.2.2.2.2)
theorem Hd.sub {G : LG} {b0 : Nat} {V : St} {H : Heap} (h : Hd G b0 V H) {L : va_W} (hL : ∀ x ∈ L, x ∈ G.2.2.2.1) : Hd (exG G L) b0 V H := ⟨fun k hk => h.1 k hk, fun x hx => h.2.1 x (hL x hx), fun x hx => h.2.2 x (hL x hx)⟩
theorem Iv.sub {G : LG} {b0 : Nat} {V : St} {U : State} (h : Iv G b0 V U) {L : va_W} (hL : ∀ x ∈ L, x ∈ G.2.2.2.1) : Iv (exG G L) b0 V U := ⟨h.1.sub hL, h.2.1, h.2.2⟩
theorem Hd.swap {G : LG} {b0 : Nat} {V : St} {H : Heap} {a1 a2 : Nat} {x1 x2 : va_E} (h : Hd (xg (xg G a1 x1) a2 x2) b0 V H) : Hd (xg (xg G a2 x2) a1 x1) b0 V H := by
  refine ⟨fun k hk => h.1 k hk, fun x hx => h.2.1 x ?_, fun x hx => h.2.2 x ?_⟩
  · rcases List.mem_cons.mp hx with rfl | hx
    · exact List.mem_cons_of_mem _ List.mem_cons_self
    · rcases List.mem_cons.mp hx with rfl | hx
      · exact List.mem_cons_self
      · exact List.mem_cons_of_mem _ (List.mem_cons_of_mem _ hx)
  · rcases List.mem_cons.mp hx with rfl | hx
    · exact List.mem_cons_of_mem _ List.mem_cons_self
    · rcases List.mem_cons.mp hx with rfl | hx
      · exact List.mem_cons_self
      · exact List.mem_cons_of_mem _ (List.mem_cons_of_mem _ hx)
/-- a reference answered, and what is known of it and the state -/
def QP (b0 : Nat) (P : Nat → State → Prop) : Array Value → State → Outcome → State → Prop := va_Qr (fun (_ : Unit) => True) (fun _ a t => P a t) (Ab b0)
/-- nothing answered, and what is known of the state -/
def QN (b0 : Nat) (P : State → Prop) : Array Value → State → Outcome → State → Prop := va_Qv (fun (_ : Unit) => True) (fun _ t => P t) (Ab b0)
theorem q_924 : Cond.sameMethod "java/lang/AbstractStringBuilder" "java/lang/AbstractStringBuilder" "isLatin1" "()Z" ∈ GW := gw 924 (by decide +kernel) rfl
theorem q_1038 : Cond.sameMethod "java/lang/AbstractStringBuilder" "java/lang/AbstractStringBuilder" "getValue" "()[B" ∈ GW := gw 1038 (by decide +kernel) rfl
theorem q_1043 : Cond.sameMethod "java/lang/AbstractStringBuilder" "java/lang/AbstractStringBuilder" "length" "()I" ∈ GW := gw 1043 (by decide +kernel) rfl
theorem q_1561 : Cond.sameMethod "java/lang/AbstractStringBuilder" "java/lang/AbstractStringBuilder" "append" "(Ljava/lang/String;)Ljava/lang/AbstractStringBuilder;" ∈ GW := gw 1561 (by decide +kernel) rfl
theorem q_1568 : Cond.sameMethod "java/lang/AbstractStringBuilder" "java/lang/AbstractStringBuilder" "append" "(I)Ljava/lang/AbstractStringBuilder;" ∈ GW := gw 1568 (by decide +kernel) rfl
theorem inJ4 : ∀ w ∈ u_ws RJ4 TJ4 4, w ∈ GW := by
  have h : u_ws RJ4 TJ4 4 = [Cond.lays "java/lang/StringBuilder" "java/lang/AbstractStringBuilder" "value" "[B", Cond.lays "java/lang/StringBuilder" "java/lang/AbstractStringBuilder" "coder" "B", Cond.lays "java/lang/StringBuilder" "java/lang/AbstractStringBuilder" "maybeLatin1" "Z", Cond.lays "java/lang/StringBuilder" "java/lang/AbstractStringBuilder" "count" "I"] := by decide +kernel
  rw [h]
  exact List.forall_mem_cons.mpr ⟨q_870, List.forall_mem_cons.mpr ⟨q_872, List.forall_mem_cons.mpr ⟨q_874, List.forall_mem_cons.mpr ⟨q_876, fun _ h => nomatch h⟩⟩⟩⟩
theorem sel_pr {args : Array Value} {s : State} {C : String} {y z : MethodName} (hy : y.cls ≠ "java/lang/invoke/MethodHandle" ∧ y.cls ≠ "java/lang/invoke/VarHandle") (hz : (Cond.selects C z z).before args s = true) (hzy : z.cls = y.cls) (hpriv : (Cond.privateMethod y).before args s = true) (hinst : (Cond.instanceMethod y).before args s = true) : (Cond.selects C y y).before args s = true := by
  obtain ⟨mk, methM, hnamed, hmethM, -, -⟩ := Cond.instanceMethod_spec hinst
  have hfound : s.methodFound? y.cls y.name y.desc = some mk := State.methodFound?_of_named hnamed hy
  have hcy : s.vm.findClass y.cls = some mk.cls := findClass_of_methodNamed hnamed
  simp only [Cond.before, Cond.holds, Cond.value] at hz ⊢
  cases hc : s.vm.findClass C with
  | none => rw [hc] at hz; simp at hz
  | some c =>
    rw [hc] at hz
    cases hf : s.methodFound? z.cls z.name z.desc with
    | none => rw [hf] at hz; simp at hz
    | some r =>
      rw [hf] at hz
      cases hn : s.methodNamed? z with
      | none => rw [hn] at hz; simp at hz
      | some mz =>
        rw [hn] at hz
        have hcz : s.vm.findClass z.cls = some mz.cls := findClass_of_methodNamed hn
        have hmm : mz.cls = mk.cls := Option.some.inj (hcz.symm.trans (by rw [hzy]; exact hcy))
        have hsel : selectMethod {} s.vm c mk = .method mk := selectMethod_private hmethM (Cond.privateMethod_at hpriv mk methM hnamed hmethM)
        rw [hfound, hnamed]
        dsimp only at hz ⊢
        rw [hsel]
        have h9 : (s.vm.classes[mz.cls]?).any (fun x => !x.isInterface) = true := by
          cases hs : selectMethod {} s.vm c r with
          | method m' =>
            rw [hs] at hz
            simp at hz
            have h8 := hz.2
            cases hk : s.vm.classes[mz.cls]? with
            | none => simp [hk] at h8
            | some k => simp [hk] at h8 ⊢; exact h8
          | _ => rw [hs] at hz; simp at hz
        rw [hmm] at h9
        simp only [decide_true, Bool.true_and, h9]
        decide
section SB
variable {p : Program} {l : Launch} {e : Env} {R : Room} {s : State} {m : MethodId} {args : Array Value} {below : List Frame} {meth : Method} {c : Code} {H : Heap} {locs : List Loc} {cells slots : Nat} {Q : State → Prop}
variable {cc : ByteArray} {pc : Nat} {ls : Array Slot} {rest st0 : List Value} {G : LG} {b0 : Nat} {V V1 : St} {own : String} {nL index : Nat} {ret0 : Option FieldType} {ar : Array Value}
variable {y : MethodName} {bytes : ByteArray} {maxL d n : Nat} {ret : Option FieldType} {As : List Value} {Qc : Array Value → State → Outcome → State → Prop}
theorem x_getm (C : Cx p l s m args meth c G b0 own cc nL ret0) (hV : Hd G b0 V H) {a ci N : Nat} {T : u_T} {fs : List Value} {Cn ref : String} {v : Value} (hm : ((a, .inr (ci, fs)) : Nat × va_E) ∈ G.2.2.2.1) (hc : vwCl[ci]? = some (Cn, T, N)) (hin : ∀ w ∈ u_ws Cn T N, w ∈ GW) (j : Nat) (hj : j < N) (hlink : Cond.fieldLink own index ref (T j).2.1 (T j).2.2.1 ∈ GW) (hsame : ref = (T j).1) (hv : fs[j]? = some v) (hdg : decode cc pc = .ok (.getfield index, 3))
    (kk : W p l e R s m args below meth c H locs cells slots Q (F0 m (pc + 3) ls (v :: rest))) : W p l e R s m args below meth c H locs cells slots Q (F0 m pc ls (.ref a :: rest)) := by
  obtain ⟨hx, hb, hr, hml, hown, hts, hlocks, hK, hSv⟩ := C
  subst hsame
  exact va_get (T := T) hx hb hts hin hown hK.1 (hV.mem hm) 0 rfl hc j hj (hts _ hlink) (fun _ h => h) hv hdg kk
theorem x_putm (C : Cx p l s m args meth c G b0 own cc nL ret0) {a ci N : Nat} {T : u_T} {fs : List Value} {Cn ref : String} {v : Value} (hV : Hd (xg G a (.inr (ci, fs))) b0 V H) (hF : Fr G b0 a) (hS : va_S (Ab b0) s.heap H locs) (hc : vwCl[ci]? = some (Cn, T, N)) (hin : ∀ w ∈ u_ws Cn T N, w ∈ GW) (ty0 : Nat → FieldType) (hty : ∀ k, k < N → parseFieldDescriptor (T k).2.2.1 = some (ty0 k)) (hnm : ∀ a, a < N → ∀ b, b < N → a ≠ b → (T a).2.1 ≠ (T b).2.1) (j : Nat) (hj : j < N) (hlink : Cond.fieldLink own index ref (T j).2.1 (T j).2.2.1 ∈ GW) (hsame : ref = (T j).1) (hfin : (T j).2.2.2 = true → (T j).1 = own ∧ meth.name = "<init>") {ty : FieldType} (hd : parseFieldDescriptor (T j).2.2.1 = some ty) (hn : narrow ty v = v) (hfit : fits ty v = true) (hl : j < fs.length) (hdg : decode cc pc = .ok (.putfield index, 3))
    (kk : ∀ (H1 : Heap) (locs1 : List Loc), Hd (xg G a (.inr (ci, fs.set j v))) b0 V H1 → va_S (Ab b0) s.heap H1 locs1 → W p l e R s m args below meth c H1 locs1 cells slots Q (F0 m (pc + 3) ls rest)) : W p l e R s m args below meth c H locs cells slots Q (F0 m pc ls (v :: .ref a :: rest)) := by
  obtain ⟨hx, hb, hr, hml, hown, hts, hlocks, hK, hSv⟩ := C
  subst hsame
  have hap := va_apart (own := own) hts hin ty0 hty hnm hK.1 hc
  obtain ⟨r, h9, cell, q1, q2, q3, q4⟩ := hV.top
  have hr : r = (Cn, T, N) := Option.some.inj (h9.symm.trans hc)
  subst hr
  obtain ⟨hS9, hfc, kC, hkC, hkind⟩ := hK.1.1 ci _ hc
  obtain ⟨cf, kf, fi, f, hi, hsl⟩ := hS9 j hj
  have hlay := hts _ (hin _ (u_in_lay hj))
  unfold u_lay at hlay
  have hst := (u_facts hfc hkC (u_lays hts hin hj) hi).1
  have fin9 : ∀ H' : Heap, H'[a]? = some (cell.setSlot f.slot v) → H'.size = H.size → (∀ q : Nat, q ≠ a → H'[q]? = H[q]?) → W p l e R s m args below meth c H' (locs ++ [⟨a, f.slot⟩]) cells slots Q (F0 m (pc + 3) ls rest) := by
    intro H' e1 e2 e3
    rw [hsl] at e1 ⊢
    refine kk H' _ (hV.reset hF ?_ e3) (hS.put e2 e3 (show b0 ≤ a by have := hF.1; omega))
    exact ⟨_, hc, t_OB.to (V := updV (vp_V fs) j v) ⟨_, e1, q2, q3, t_set q4 hap hj v⟩ (fun i _ => vp_updV_set hl v i)⟩
  by_cases hf : (T j).2.2.2 = true
  · rw [if_pos hf] at hlay
    have hcf : m.cls = cf := by
      obtain ⟨_, _, c', _, _, _, -, -, hf', -, -, -, hown2, -⟩ := Cond.laysFinal_spec hlay
      have e1 : c' = cf := by have := hi.symm.trans hf'; simp at this; exact this.1.symm
      rw [(hfin hf).1] at hown2
      rw [← e1]; exact Option.some.inj (hown.symm.trans hown2)
    have h6 := u_fits hfc hkC hkind (Or.inr hlay) hi hd hn hfit
    exact W.putFinK hx hb hown (hts _ hlink) hi hst hcf (hfin hf).2 (by rw [q2]; exact h6) q1 q3 (by rw [hsl]; exact k2_hasslot (q4 j hj)) rfl rfl hdg fin9
  · rw [if_neg hf] at hlay
    have h6 := u_store hfc hkC hkind hlay hi hd hn hfit
    exact W.putK hx hb (f := f) ⟨hown, hts _ hlink, ⟨_, _, _, hi⟩, hst⟩ (by rw [q2]; exact h6) q1 q3 (by rw [hsl]; exact k2_hasslot (q4 j hj)) rfl rfl hdg fin9
theorem x_alenm (C : Cx p l s m args meth c G b0 own cc nL ret0) (hV : Hd G b0 V H) {a N : Nat} {f : Nat → Int32} (hm : (a, ab G N f) ∈ G.2.2.2.1) (hdg : decode cc pc = .ok (.arraylength, 1))
    (kk : W p l e R s m args below meth c H locs cells slots Q (F0 m (pc + 1) ls (.int (Int32.ofNat N) :: rest))) : W p l e R s m args below meth c H locs cells slots Q (F0 m pc ls (.ref a :: rest)) := by
  obtain ⟨hx, hb, hr, hml, hown, hts, hlocks, hK, hSv⟩ := C
  exact va_alen hx hb hK.1 (hV.mem hm) 0 3 rfl rfl rfl hdg kk
theorem x_baldm (C : Cx p l s m args meth c G b0 own cc nL ret0) (hV : Hd G b0 V H) {a N j : Nat} {i : Int32} {f : Nat → Int32} (hm : (a, ab G N f) ∈ G.2.2.2.1) (hi : ix i N = some j) (hdg : decode cc pc = .ok (.baload, 1))
    (kk : W p l e R s m args below meth c H locs cells slots Q (F0 m (pc + 1) ls (.int (f j) :: rest))) : W p l e R s m args below meth c H locs cells slots Q (F0 m pc ls (.int i :: .ref a :: rest)) := by
  obtain ⟨hx, hb, hr, hml, hown, hts, hlocks, hK, hSv⟩ := C
  obtain ⟨h1, h2, -⟩ := ix_in hi
  subst h2
  exact va_bald hx hb hK.1 (hV.mem hm) 0 3 rfl rfl h1 hdg kk
theorem x_bast {N j a : Nat} {i x : Int32} {A : Nat → Int32} (C : Cx p l s m args meth c G b0 own cc nL ret0) (hV : Hd (xg G a (ab G N A)) b0 V H) (hF : Fr G b0 a) (hS : va_S (Ab b0) s.heap H locs) (hi : ix i N = some j) (hx8 : x.toInt8.toInt32 = x) (hdg : decode cc pc = .ok (.bastore, 1))
    (kk : ∀ (H1 : Heap) (locs1 : List Loc), Hd (xg G a (ab G N (updA A j x))) b0 V H1 → va_S (Ab b0) s.heap H1 locs1 → W p l e R s m args below meth c H1 locs1 cells slots Q (F0 m (pc + 1) ls rest)) : W p l e R s m args below meth c H locs cells slots Q (F0 m pc ls (.int x :: .int i :: .ref a :: rest)) := by
  obtain ⟨hx, hb, hr, hml, hown, hts, hlocks, hK, hSv⟩ := C
  obtain ⟨h1, h2, h3⟩ := ix_in hi
  have h0 : H[a]? = some (arrV (G.2.1 3) N (fun j => .int (A j))) := hV.top
  refine W.bast hx hb h0 ((hK.1.2 3 _ rfl).1 N (fun j => .int (A j))) (fun q => by cases q) (by show ¬ (i < 0 ∨ (arrV _ _ _).slots.size ≤ _); rw [arrV_size]; exact h1) rfl rfl hdg fun H1 e1 z oq => ?_
  refine kk H1 _ (hV.reset hF ?_ oq) (hS.put z oq (show b0 ≤ a by have := hF.1; omega))
  show H1[a]? = some (arrV (G.2.1 3) N (fun q => .int (updA A j x q)))
  rw [e1, h2, arrV_store]
  congr 2
  funext q
  by_cases hq : q = j
  · subst hq
    simp [updV, updA, narrow, hx8]
  · simp [updV, updA, hq]
theorem x_newb {w u N' : Nat} {n : Int32} (C : Cx p l s m args meth c G b0 own cc nL ret0) (hV : Hd G b0 V H) (hS : va_S (Ab b0) s.heap H locs) (hn : ¬ n < 0) (hN : n.toNatClampNeg = N') (hby : N' * 1 ≤ 536870912) (hu : 1 ≤ u ∧ N' ≤ 6 * u) (hcs : w + u ≤ R.cells ∧ 6 * w + 6 * u ≤ R.slots) (hdg : decode cc pc = .ok (.newarray .byte, 2))
    (kk : ∀ (a : Nat) (H1 : Heap), Fr G b0 a → Hd (xg G a (ab G N' (fun _ => 0))) b0 V H1 → va_S (Ab b0) s.heap H1 locs → W p l e R s m args below meth c H1 locs (w + u) (6 * (w + u)) Q (F0 m (pc + 2) ls (.ref a :: rest))) : W p l e R s m args below meth c H locs w (6 * w) Q (F0 m pc ls (.int n :: rest)) := by
  obtain ⟨hx, hb, hr, hml, hown, hts, hlocks, hK, hSv⟩ := C
  have hc : w + 1 ≤ R.cells := by omega
  have hs : 6 * w + N' ≤ R.slots := by omega
  refine va_newaK hx hb (atype := .byte) (hts _ q_458) rfl hdg rfl hn hN hby hc hs rfl fun H1 cA e1 z1 o1 hAr hNm => ?_
  have hcA : cA = G.2.1 3 := Option.some.inj (hNm.symm.trans (hK.1.2 3 _ rfl).2)
  subst hcA
  have hz : H.size ≤ H1.size := by omega
  refine W.widen (show w + 1 ≤ w + u by omega) (show 6 * w + N' ≤ 6 * (w + u) by omega) (kk H.size H1 hV.fresh ((hV.kept o1).add hV.fresh.1 e1) ⟨Nat.le_trans hS.1 hz, fun q h1 h2 => (o1 q (Nat.lt_of_lt_of_le h1 hS.1)).trans (hS.2.1 q h1 h2), hS.2.2⟩)
theorem x_newo {w u : Nat} (C : Cx p l s m args meth c G b0 own cc nL ret0) (hV : Hd G b0 V H) (hS : va_S (Ab b0) s.heap H locs) {ci N : Nat} {T : u_T} {fs : List Value} {Cn : String} (hc : vwCl[ci]? = some (Cn, T, N)) (hin : ∀ w ∈ u_ws Cn T N, w ∈ GW) (ty0 : Nat → FieldType) (hty : ∀ k, k < N → parseFieldDescriptor (T k).2.2.1 = some (ty0 k)) (hcl : Cond.classLink own index Cn ∈ GW) (hinst : Cond.instantiable Cn N ∈ GW) (hini : Cond.initialized Cn ∈ GW) (hfs : ∀ j, j < N → defaultValue (ty0 j) = vp_V fs j) (hu : 1 ≤ u ∧ N ≤ 6 * u) (hcs : w + u ≤ R.cells ∧ 6 * w + 6 * u ≤ R.slots) (hdg : decode cc pc = .ok (.new index, 3))
    (kk : ∀ (a : Nat) (H1 : Heap), Fr G b0 a → Hd (xg G a (.inr (ci, fs))) b0 V H1 → va_S (Ab b0) s.heap H1 locs → W p l e R s m args below meth c H1 locs (w + u) (6 * (w + u)) Q (F0 m (pc + 3) ls (.ref a :: rest))) : W p l e R s m args below meth c H locs w (6 * w) Q (F0 m pc ls rest) := by
  obtain ⟨hx, hb, hr, hml, hown, hts, hlocks, hK, hSv⟩ := C
  have hc1 : w + 1 ≤ R.cells := by omega
  have hs1 : 6 * w + N ≤ R.slots := by omega
  have hKn := hK.1.1 ci _ hc
  refine W.newcK hx hb hown (hts _ hcl) (hts _ hinst) (hts _ hini) rfl hdg hc1 hs1 hKn.2.1 rfl fun H1 kC hkC e1 z1 o1 => ?_
  have hz : H.size ≤ H1.size := by omega
  refine W.widen (show w + 1 ≤ w + u by omega) (show 6 * w + N ≤ 6 * (w + u) by omega) (kk H.size H1 hV.fresh ((hV.kept o1).add hV.fresh.1 ?_) ⟨Nat.le_trans hS.1 hz, fun q h1 h2 => (o1 q (Nat.lt_of_lt_of_le h1 hS.1)).trans (hS.2.1 q h1 h2), hS.2.2⟩)
  exact ⟨_, hc, (u_born ty0 hts hin hKn hkC e1 hty).to hfs⟩
/-- from any row of bytes that is known into one of ours -/
theorem x_copyb {a a0 n0 n1 : Nat} {f g : Nat → Int32} {scr : Cell} (C : Cx p l s m args meth c G b0 own cc nL ret0) (hV : Hd (xg G a (ab G n1 g)) b0 V H) (hF : Fr G b0 a) (hS : va_S (Ab b0) s.heap H locs) (hlink : Cond.methodLink own index arraycopyName ∈ GW)
    (hc0 : H[a0]? = some scr) (hof : s.isArrayOf scr .byte) (hkn : scr.vm ≠ .unknown) (hn0 : n0 ≤ scr.slots.size) (hsl : ∀ j, j < n0 → scr.slots[j]? = some (.int (f j)))
    {sp dp n : Int32} {sp' dp' n' : Nat} (h1 : ¬ sp < 0) (h2 : ¬ dp < 0) (h3 : ¬ n < 0) (g1 : sp.toNatClampNeg = sp') (g2 : dp.toNatClampNeg = dp') (g3 : n.toNatClampNeg = n') (h4 : sp' + n' ≤ n0) (h5 : dp' + n' ≤ n1) (hfit : ∀ j, fits .byte (.int (f j)) = true) (hls : ls.size = nL) (hfr : 1 ≤ R.frames) (hlo : 60 ≤ R.locals) (hn : (rest.map fun v => v.category).sum ≤ 8) (hdg : decode cc pc = .ok (.invokestatic index, 3))
    (kk : ∀ (H1 : Heap) (locs1 : List Loc), Hd (xg G a (ab G n1 (va_cpy f g sp' dp' n'))) b0 V H1 → va_S (Ab b0) s.heap H1 locs1 → W p l e R s m args below meth c H1 locs1 cells slots Q (F0 m (pc + 3) ls rest)) : W p l e R s m args below meth c H locs cells slots Q (F0 m pc ls (.int n :: .int dp :: .ref a :: .int sp :: .ref a0 :: rest)) := by
  obtain ⟨hx, hb, hr, hml, hown, hts, hlocks, hK, hSv⟩ := C
  subst g1 g2 g3
  have nn : ∀ z : Int32, ¬ z < 0 → z.toInt = (z.toNatClampNeg : Int) := by
    intro z hz
    have hz0 : (0 : Int) ≤ z.toInt := by
      have := Int32.not_lt.mp hz
      simpa using Int32.le_iff_toInt_le.mp this
    show z.toInt = ((z.toInt.toNat : Nat) : Int)
    omega
  have hc1 : H[a]? = some (vp_cell (G.2.1 3) (n1, .inl g)) := hV.top
  obtain ⟨o1, k0, hk0, cm0, hkk0⟩ := hof
  obtain ⟨-, k1, hk1, cm1, hkk1⟩ := (hK.1.2 3 _ rfl).1 n1 (fun j => .int (g j))
  intro T hT X
  obtain ⟨vm', X', step⟩ := X.arraycopy hx hown (hts _ hlink) (hts _ q_921) (hts _ q_920) (hts _ q_120) (src := a0) (dst := a) (cs := scr) (cd := vp_cell (G.2.1 3) (n1, .inl g)) (srcPos := sp) (destPos := dp) (n := n) (by rw [hT]; exact hc0) (by rw [hT]; exact hc1)
    o1 (fun _ h => by cases h) hkn (fun h => by cases h) hk0 hk1 hkk0 hkk1 (by simp [refKind]) h1 h2 h3
    (by rw [nn sp h1, nn n h3]; omega)
    (by rw [nn dp h2, nn n h3]; show ¬ _ > ((arrV (G.2.1 3) n1 (fun j => .int (g j))).slots.size : Int); rw [arrV_size]; omega)
    (fun vm₁ _ i hi => by
      have e : scr.slots.getD (sp.toNatClampNeg + i) .null = .int (f (sp.toNatClampNeg + i)) := by
        rw [Array.getD_eq_getD_getElem?, hsl _ (by omega)]
        rfl
      rw [e]
      exact ⟨hfit _, trivial⟩)
    (g := F0 m pc ls (.int n :: .int dp :: .ref a :: .int sp :: .ref a0 :: rest)) rfl (by rw [hml, ← hls]) (rest := rest) rfl (by rw [hb]; exact hdg) hfr (by
      have h9 : nativeFrameWords "java/lang/System" "arraycopy" 5 + 11 ≤ 50 := by decide +kernel
      show 2 * 0 + _ + _ ≤ _
      omega)
  rw [show copied scr (vp_cell (G.2.1 3) (n1, .inl g)) sp dp n = vp_cell (G.2.1 3) (n1, .inl (va_cpy f g sp.toNatClampNeg dp.toNatClampNeg n.toNatClampNeg)) from va_copiedX (fun z => .int z) scr (G.2.1 3) f g hsl h4] at X' step
  have hl : a < H.size := (Array.getElem?_eq_some_iff.mp hc1).1
  generalize hcell : vp_cell (G.2.1 3) (n1, .inl (va_cpy f g sp.toNatClampNeg dp.toNatClampNeg n.toNatClampNeg)) = cell at X' step
  have hheap : ((T.setVm vm').setCell a cell).heap = H.setIfInBounds a cell := by rw [← hT]; rfl
  have oq : ∀ q : Nat, q ≠ a → (H.setIfInBounds a cell)[q]? = H[q]? := fun q hq => by simp [Array.getElem?_setIfInBounds, Ne.symm hq]
  have hb0 : b0 ≤ a := by have := hF.1; omega
  obtain ⟨t, a1, b1⟩ := kk _ _ (hV.reset hF (show (H.setIfInBounds a cell)[a]? = some _ by rw [hcell]; simp [Array.getElem?_setIfInBounds, hl]) oq) ⟨by simp; exact hS.1, fun q k1 k2 => by
      rw [oq q (fun e => k2 (by rw [e]; exact hb0))]
      exact hS.2.1 q k1 k2, fun q hq => by
      rcases List.mem_append.mp hq with h | h
      · exact hS.2.2 q h
      · obtain ⟨z, -, hz⟩ := List.mem_map.mp h
        rw [← hz]
        exact hb0⟩ _ hheap X'
  exact ⟨t, step t a1, b1⟩
/-! calls -/
theorem rcv_m (hK : Kv G s) (hV : Hd G b0 V H) {a ci N : Nat} {T : u_T} {fs : List Value} {Cn : String} (hm : ((a, .inr (ci, fs)) : Nat × va_E) ∈ G.2.2.2.1) (hc : vwCl[ci]? = some (Cn, T, N)) : ∃ cellB : Cell, H[a]? = some cellB ∧ cellB.vm.isStatics = false ∧ s.vm.findClass Cn = some cellB.cls :=
  va_recv hK.1 (hV.mem hm) hc (q0 := 0) (fs := fs) rfl
theorem run_K {w k b : Nat} {Cn : String} (C : Cx p l s m args meth c G b0 own cc nL ret0) (hV : Hd G b0 V H) (hS : va_S (Ab b0) s.heap H locs) (hM : Met l y (wy y bytes maxL ret) (rmc d k) (va_Pc (.ref b :: As) (Iv G b0 V)) Qc k (6 * k) (Ab b0))
    (hrv : ∃ cellB : Cell, H[b]? = some cellB ∧ cellB.vm.isStatics = false ∧ s.vm.findClass Cn = some cellB.cls) (hse : (Cond.selects Cn y y).before args s = true) (hl : Cond.methodLink own index y ∈ GW) (hi : Cond.instanceMethod y ∈ GW) (hin : Cond.initialized y.cls ∈ GW) (hco : Cond.code y bytes maxL ret ∈ GW) (hd : dOk y As.length)
    (hR : (rmc d k).frames + 1 ≤ R.frames ∧ 8 + (maxL + 11) + (rmc d k).locals ≤ R.locals) (hls : ls.size = nL) (hst : st0 = As.reverse ++ .ref b :: rest) (hn : (rest.map fun v => v.category).sum ≤ 8) (hdg : decode cc pc = .ok (.invokevirtual index, 3)) (hcs : w + k ≤ R.cells ∧ 6 * w + 6 * k ≤ R.slots) :
    va_Run p l e R s m args below meth c H locs w (6 * w) k (6 * k) (F0 m pc ls st0) rest (Qc (Value.ref b :: As).toArray) (Ab b0) := by
  obtain ⟨hx, hb, hr, hml, hown, hts, hlocks, hK, hSv⟩ := C
  exact va_runV (C := Cn) (As := As) (rest := rest) ⟨hx, hb, hml, hown, hts⟩ hM ⟨callB_of As.length hts (gi_wy hco) rfl rfl rfl (hts _ hin) (hts _ hl) hd hR, hts _ hi, hse⟩ ⟨fun a U g mk q => ⟨q.1, q.2.blind⟩, hrv, fun U hU hW => ⟨rfl, Iv.mk hK hSv hV hS hU hW⟩⟩ rfl rfl hls hst (lv_room hn) hdg hcs
theorem run_I {w k b : Nat} (C : Cx p l s m args meth c G b0 own cc nL ret0) (hV : Hd G b0 V H) (hS : va_S (Ab b0) s.heap H locs) (hM : Met l y (wy y bytes maxL none) (rmc d k) (va_Pc (.ref b :: As) (Iv G b0 V)) Qc k (6 * k) (Ab b0)) (hyn : y.name = "<init>")
    (hl : Cond.methodLink own index y ∈ GW) (hi : Cond.instanceMethod y ∈ GW) (hin : Cond.initialized y.cls ∈ GW) (hco : Cond.code y bytes maxL none ∈ GW) (hd : dOk y As.length)
    (hR : (rmc d k).frames + 1 ≤ R.frames ∧ 8 + (maxL + 11) + (rmc d k).locals ≤ R.locals) (hls : ls.size = nL) (hst : st0 = As.reverse ++ .ref b :: rest) (hn : (rest.map fun v => v.category).sum ≤ 8) (hdg : decode cc pc = .ok (.invokespecial index, 3)) (hcs : w + k ≤ R.cells ∧ 6 * w + 6 * k ≤ R.slots) :
    va_Run p l e R s m args below meth c H locs w (6 * w) k (6 * k) (F0 m pc ls st0) rest (Qc (Value.ref b :: As).toArray) (Ab b0) := by
  obtain ⟨hx, hb, hr, hml, hown, hts, hlocks, hK, hSv⟩ := C
  exact va_runI (As := As) (rest := rest) ⟨hx, hb, hml, hown, hts⟩ hM (cwI As.length hts (gi_wy hco) rfl rfl rfl (hts _ hin) (hts _ hl) (hts _ hi) hyn hd hR) ⟨fun a U g mk q => ⟨q.1, q.2.blind⟩, fun U hU hW => ⟨rfl, Iv.mk hK hSv hV hS hU hW⟩⟩ rfl rfl hls hst (lv_room hn) hdg hcs
theorem run_SU {w k b ci N : Nat} {T : u_T} {fs : List Value} {Cn : String} (C : Cx p l s m args meth c G b0 own cc nL ret0) (hV : Hd G b0 V H) (hS : va_S (Ab b0) s.heap H locs) (hM : Met l y (wy y bytes maxL ret) (rmc d k) (va_Pc (.ref b :: As) (Iv G b0 V)) Qc k (6 * k) (Ab b0))
    (hm : ((b, .inr (ci, fs)) : Nat × va_E) ∈ G.2.2.2.1) (hc : vwCl[ci]? = some (Cn, T, N)) (hl : Cond.methodLink own index y ∈ GW) (hsm : Cond.sameMethod y.cls y.cls y.name y.desc ∈ GW) (hsu : Cond.superclass own y.cls ∈ GW) (hi : Cond.instanceMethod y ∈ GW) (hin : Cond.initialized y.cls ∈ GW) (hco : Cond.code y bytes maxL ret ∈ GW) (hno : y.name ≠ "<init>") (hd : dOk y As.length)
    (hR : (rmc d k).frames + 1 ≤ R.frames ∧ 8 + (maxL + 11) + (rmc d k).locals ≤ R.locals) (hls : ls.size = nL) (hst : st0 = As.reverse ++ .ref b :: rest) (hn : (rest.map fun v => v.category).sum ≤ 8) (hdg : decode cc pc = .ok (.invokespecial index, 3)) (hcs : w + k ≤ R.cells ∧ 6 * w + 6 * k ≤ R.slots) :
    va_Run p l e R s m args below meth c H locs w (6 * w) k (6 * k) (F0 m pc ls st0) rest (Qc (Value.ref b :: As).toArray) (Ab b0) := by
  obtain ⟨hx, hb, hr, hml, hown, hts, hlocks, hK, hSv⟩ := C
  have hrv := rcv_m hK hV hm hc
  have hG : GoodIn GW (va_wsSU own index y (wy y bytes maxL ret)) := by
    intro w hw
    rcases List.mem_append.mp hw with h | h
    · have h9 : w ∈ GW := by
        simp only [List.mem_cons, List.not_mem_nil, or_false] at h
        rcases h with rfl | rfl | rfl | rfl | rfl
        · exact hl
        · exact hsm
        · exact hsu
        · exact hi
        · exact hin
      exact ⟨h9, good_of_word (gw_good _ h9)⟩
    · exact gi_wy hco w h
  exact va_runSU (As := As) (rest := rest) (hK.1.1 ci _ hc).2 ⟨hx, hb, hml, hown, hts⟩ hM (va_cwSU As.length hts hG rfl rfl rfl ⟨hno, hd.2.2⟩ hR) ⟨fun a U g mk q => ⟨q.1, q.2.blind⟩, hrv, fun U hU hW => ⟨rfl, Iv.mk hK hSv hV hS hU hW⟩⟩ rfl rfl hls hst (lv_room hn) hdg hcs
/-- behind a call that answers a reference, or nothing -/
theorem cal_p {w k : Nat} {P : Nat → State → Prop} (hr : va_Run p l e R s m args below meth c H locs w (6 * w) k (6 * k) (F0 m pc ls st0) rest (QP b0 P ar) (Ab b0)) (hS : va_S (Ab b0) s.heap H locs)
    (kk : ∀ (a : Nat) (t : State) (H1 : Heap) (locs1 : List Loc), P a t → t.heap = H1 → va_S (Ab b0) s.heap H1 locs1 → W p l e R s m args below meth c H1 locs1 (w + k) (6 * (w + k)) Q (F0 m (pc + 3) ls (.ref a :: rest))) : W p l e R s m args below meth c H locs w (6 * w) Q (F0 m pc ls st0) :=
  va_callr hr hS (fun _ _ h => h) (fun _ h => h) (fun u ra t H1 locs1 ht hvm hw hB hz hk hS1 => by
    rw [← Nat.mul_add]
    exact kk ra t H1 locs1 hB ht hS1)
theorem cal_n {w k : Nat} {P : State → Prop} (hr : va_Run p l e R s m args below meth c H locs w (6 * w) k (6 * k) (F0 m pc ls st0) rest (QN b0 P ar) (Ab b0)) (hS : va_S (Ab b0) s.heap H locs)
    (kk : ∀ (t : State) (H1 : Heap) (locs1 : List Loc), P t → t.heap = H1 → va_S (Ab b0) s.heap H1 locs1 → W p l e R s m args below meth c H1 locs1 (w + k) (6 * (w + k)) Q (F0 m (pc + 3) ls rest)) : W p l e R s m args below meth c H locs w (6 * w) Q (F0 m pc ls st0) :=
  va_callv hr hS (fun _ _ h => h) (fun _ h => h) (fun u t H1 locs1 ht hvm hw hB hz hk hS1 => by
    rw [← Nat.mul_add]
    exact kk t H1 locs1 hB ht hS1)
/-- ends -/
theorem fin_rp {rt : FieldType} (hrt : rt.isReference = true) (C : Cx p l s m args meth c G b0 own cc nL (some rt)) (hV : Hd G b0 V H) (hS : va_S (Ab b0) s.heap H locs) {w N : Nat} (hw : w ≤ N) {v : Nat} {P : Nat → State → Prop} (hP : ∀ t : State, Iv G b0 V t → P v t) (hdg : decode cc pc = .ok (.areturn, 1)) : W p l e R s m args below meth c H locs w (6 * w) (MQ below (QP b0 P) args s N (6 * N) (Ab b0)) (F0 m pc ls [.ref v]) := by
  obtain ⟨hx, hb, hr, -, -, -, hlocks, hK, hSv⟩ := C
  exact W.widen hw (Nat.mul_le_mul_left 6 hw) (W.aret (v := .ref v) hx hb hr (by cases rt <;> first | exact Or.inl ⟨_, rfl⟩ | exact Or.inr ⟨_, rfl⟩ | cases hrt) (Or.inr ⟨_, rfl⟩) (fun t ht hW => ⟨⟨(), _, rfl, trivial, hP t (Iv.mk hK hSv hV hS ht hW)⟩, hS.F ht⟩) hS.2.2 hdg)
theorem fin_vn (C : Cx p l s m args meth c G b0 own cc nL none) (hV : Hd G b0 V H) (hS : va_S (Ab b0) s.heap H locs) {w N : Nat} (hw : w ≤ N) {P : State → Prop} (hP : ∀ t : State, Iv G b0 V t → P t) (hdg : decode cc pc = .ok (.return_, 1)) : W p l e R s m args below meth c H locs w (6 * w) (MQ below (QN b0 P) args s N (6 * N) (Ab b0)) (F0 m pc ls []) := by
  obtain ⟨hx, hb, hr, -, -, -, hlocks, hK, hSv⟩ := C
  exact W.widen hw (Nat.mul_le_mul_left 6 hw) (W.vret hx hb hr (fun t ht hW => ⟨⟨(), rfl, trivial, hP t (Iv.mk hK hSv hV hS ht hW)⟩, hS.F ht⟩) hS.2.2 hdg)
end SB
/-- a constructor, from its walk -/
theorem mk_ci {l : Launch} {y : MethodName} {cc : ByteArray} {nL : Nat} {As : List Value} {G : LG} {b0 : Nat} {V : St} {d n : Nat} {Qc : Array Value → State → Outcome → State → Prop} (hy : plainFor y = true) (hyn : y.name = "<init>") (hn : (lg_sl As).length ≤ nL)
    (body : ∀ (p : Program) (e : Env) (s : State) (m : MethodId) (below : List Frame) (meth : Method) (c : Code), Cx p l s m As.toArray meth c G b0 y.cls cc nL none → meth.name = "<init>" → Hd G b0 V s.heap → va_S (Ab b0) s.heap s.heap [] → ∀ ls, lv_has ls nL (lv_args 0 As) → W p l e (rmc d n) s m As.toArray below meth c s.heap [] 0 (6 * 0) (MQ below Qc As.toArray s n (6 * n) (Ab b0)) (F0 m 0 ls [])) :
    Met l y (wy y cc nL none) (rmc d n) (va_Pc As (Iv G b0 V)) Qc n (6 * n) (Ab b0) := by
  refine MetFree.of_bodySF (code := cc) (maxLocals := nL) (ret := none) hy ?_ ?_
  · intro args s m h hn9
    obtain ⟨meth, c, h1, h2, h3, h4, h5, h6, -, -⟩ := Cond.code_spec hn9 (atoms_spec (ws := wy y cc nL none) h _ List.mem_cons_self)
    exact ⟨meth, c, h1, h2, h3, h4, h5, h6⟩
  · intro p e s m args below meth c s₁ B hml hv _
    have hh0 : s₁.heap = s.heap := by rw [B.state]; rfl
    obtain ⟨rfl, hV, hK, hSv⟩ := hv
    have hts := atoms_spec (ws := wy y cc nL none) B.pre
    have w := body p e s m below meth c ⟨B.exec, B.bytes, B.returns, hml, findClass_of_methodNamed B.named, fun w hw => hts w (List.mem_cons_of_mem _ hw), B.notSynchronized, hK, hSv⟩ ((name_of_methodNamed B.named B.method).1.trans hyn) hV va_S.rf _ (lv_entry As hn)
    rw [← lg_entry_eq] at w
    obtain ⟨t, a1, o, b1, b2, b3⟩ := w s₁ hh0 (Stand.of_body B)
    exact ⟨t, o, a1, b1, b2, ⟨b3.1, b3.2⟩⟩
