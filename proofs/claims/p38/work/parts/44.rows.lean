/-! the world while the objects are being made: n cells from b0 on -/
def Z0 : St := fun _ _ => 0
def Hw (G : LG) (b0 n : Nat) (E : Nat → va_E) (H : Heap) : Prop := H.size = b0 + n ∧ ∀ k, k < n → va_at G.1 vwCl (b0 + k, E k) H
theorem Hw.p1 {G : LG} {b0 n : Nat} {E : Nat → va_E} {H : Heap} (h : Hw G b0 n E H) {k : Nat} (hk : k < n) : va_P G.1 vwCl [(b0 + k, E k)] H := by
  intro i q hq
  cases i with
  | zero =>
    rw [List.getElem?_cons_zero] at hq
    cases hq
    exact h.2 k hk
  | succ i => simp at hq
theorem Hw.cg {G : LG} {b0 n : Nat} {E E1 : Nat → va_E} {H : Heap} (h : Hw G b0 n E H) (he : ∀ k, k < n → E1 k = E k) : Hw G b0 n E1 H := ⟨h.1, fun k hk => by rw [he k hk]; exact h.2 k hk⟩
theorem Hw.push {G : LG} {b0 n : Nat} {E E1 : Nat → va_E} {H H1 : Heap} (h : Hw G b0 n E H) (z : H1.size = H.size + 1) (o : ∀ q : Nat, q < H.size → H1[q]? = H[q]?) (he : ∀ k, k < n → E1 k = E k) (h1 : va_at G.1 vwCl (b0 + n, E1 n) H1) : Hw G b0 (n + 1) E1 H1 := by
  refine ⟨by rw [z, h.1]; omega, fun k hk => ?_⟩
  by_cases e : k = n
  · subst e
    exact h1
  · have hk2 : k < n := by omega
    rw [he k hk2]
    exact (h.2 k hk2).kept (o _ (h.2 k hk2).lt)
theorem Hw.set {G : LG} {b0 n : Nat} {E E1 : Nat → va_E} {H H1 : Heap} (h : Hw G b0 n E H) {k : Nat} (z : H1.size = H.size) (oq : ∀ q : Nat, q ≠ b0 + k → H1[q]? = H[q]?) (he : ∀ i, i < n → i ≠ k → E1 i = E i) (h1 : va_at G.1 vwCl (b0 + k, E1 k) H1) : Hw G b0 n E1 H1 := by
  refine ⟨by rw [z, h.1], fun i hi => ?_⟩
  by_cases e : i = k
  · subst e
    exact h1
  · rw [he i hi e]
    exact (h.2 i hi).kept (oq _ (by show b0 + i ≠ b0 + k; omega))
def AI (U : State) : Prop := (Cond.arrayOver (.array .int)).before #[] U = true
theorem AI.moved {u U : State} (hvm : u.vm.Alike U.vm) (h : AI u) : AI U := by
  obtain ⟨comp, c, k, h1, h2, h3, h4, h5⟩ := arrayOverA_spec h
  obtain ⟨k', hk', he⟩ := hvm.2.2 _ _ h3
  have hi : (U.vm.classes.findIdx? fun (x : Class) => match x.kind with | .array component _ => component == comp | _ => false) = some c := by
    rw [hvm.findIdx?_eq _ (fun _ => rfl)]
    exact h2
  have hkind : k'.kind = .array comp (.array .int) := by rw [he]; exact h4
  have f1 : U.vm.findClass (FieldType.array .int).toString = some comp := by rw [hvm.findClass]; exact h1
  have f2 : U.vm.findClass ("[" ++ (FieldType.array .int).toString) = some c := by rw [hvm.findClass]; exact h5
  unfold AI Cond.before Cond.holds
  simp only [Cond.value]
  rw [f1, Option.bind_some]
  refine (congrArg (fun o : Option Nat => (o.bind (fun c => (U.vm.classes[c]?).map fun (k : Class) => match k.kind with | .array _ ty => decide (ty = FieldType.array .int) && decide (U.vm.findClass ("[" ++ (FieldType.array .int).toString) = some c) | _ => false) == some true)) hi).trans ?_
  simp [hk', hkind, f2]
def Ao (U : State) : Prop := va_AO "NetScript$Net" U ∧ va_AO "NetScript$Editor" U ∧ va_AO "NetScript$Note" U ∧ va_AO "NetScript$State" U ∧ AI U
theorem Ao.moved {u U : State} (hvm : u.vm.Alike U.vm) (h : Ao u) : Ao U := ⟨va_AO.moved hvm h.1, va_AO.moved hvm h.2.1, va_AO.moved hvm h.2.2.1, va_AO.moved hvm h.2.2.2.1, AI.moved hvm h.2.2.2.2⟩
def Iw (G : LG) (b0 n : Nat) (E : Nat → va_E) (U : State) : Prop := Hw G b0 n E U.heap ∧ Kv G U ∧ Sv G b0 U U.heap ∧ Ao U
theorem Iw.mk {G : LG} {b0 n : Nat} {E : Nat → va_E} {s : State} {H : Heap} {locs : List Loc} (hK : Kv G s) (hSv : Sv G b0 s s.heap) (hA : Ao s) (hW : Hw G b0 n E H) (hS : va_S (Ab b0) s.heap H locs) {U : State} (hU : U.heap = H) (hM : s.WarmedH U.vm) : Iw G b0 n E U := by
  refine ⟨by rw [hU]; exact hW, hK.warm hM, ?_, hA.moved hM.alike⟩
  rw [hU]
  exact (hSv.moved hM.alike).kept hS.2.1
theorem Iw.blind {G : LG} {b0 n : Nat} {E : Nat → va_E} {U : State} {g : JFrame} {mk : MethodId} {a : Array Value} (h : Iw G b0 n E U) : Iw G b0 n E (U.calling g mk a) :=
  ⟨h.1, Kv.vmeq (s := U) (U := U.calling g mk a) rfl h.2.1, Sv.moved (u := U) (U := U.calling g mk a) (Vm.Alike.refl U.vm) h.2.2.1, Ao.moved (u := U) (U := U.calling g mk a) (Vm.Alike.refl U.vm) h.2.2.2⟩
def QW (G : LG) (b0 n : Nat) (E : Nat → va_E) : Array Value → State → Outcome → State → Prop := va_Qv (fun (_ : Unit) => True) (fun _ => Iw G b0 n E) (Ab b0)
def rmw (d mc ms : Nat) : Room := { frames := d, cells := mc, slots := ms, locals := 60 * d }
/-- a constructor, from its walk -/
theorem mk_w {l : Launch} {y : MethodName} {cc : ByteArray} {nL : Nat} {k : Nat} {G : LG} {b0 n : Nat} {E : Nat → va_E} {d mc ms : Nat} {Qc : Array Value → State → Outcome → State → Prop} (hy : plainFor y = true) (hyn : y.name = "<init>") (hn : (lg_sl [Value.ref (b0 + k)]).length ≤ nL)
    (body : ∀ (p : Program) (e : Env) (s : State) (m : MethodId) (args : Array Value) (below : List Frame) (meth : Method) (c : Code), Cx p l s m args meth c G b0 y.cls cc nL none → Ao s → meth.name = "<init>" → Hw G b0 n E s.heap → va_S (Ab b0) s.heap s.heap [] → ∀ ls, lv_has ls nL [(0, .ref (b0 + k))] → W p l e (rmw d mc ms) s m args below meth c s.heap [] 0 0 (MQ below Qc args s mc ms (Ab b0)) (F0 m 0 ls [])) :
    Met l y (wy y cc nL none) (rmw d mc ms) (va_Pc [.ref (b0 + k)] (Iw G b0 n E)) Qc mc ms (Ab b0) := by
  refine MetFree.of_bodySF (code := cc) (maxLocals := nL) (ret := none) hy ?_ ?_
  · intro args s m h hn9
    obtain ⟨meth, c, h1, h2, h3, h4, h5, h6, -, -⟩ := Cond.code_spec hn9 (atoms_spec (ws := wy y cc nL none) h _ List.mem_cons_self)
    exact ⟨meth, c, h1, h2, h3, h4, h5, h6⟩
  · intro p e s m args below meth c s₁ B hml hv _
    have hh0 : s₁.heap = s.heap := by rw [B.state]; rfl
    obtain ⟨rfl, hV, hK, hSv, hA⟩ := hv
    have hts := atoms_spec (ws := wy y cc nL none) B.pre
    have w := body p e s m [Value.ref (b0 + k)].toArray below meth c ⟨B.exec, B.bytes, B.returns, hml, findClass_of_methodNamed B.named, fun w hw => hts w (List.mem_cons_of_mem _ hw), B.notSynchronized, hK, hSv⟩ hA ((name_of_methodNamed B.named B.method).1.trans hyn) hV va_S.rf _ (lv_entry [Value.ref (b0 + k)] hn)
    rw [← lg_entry_eq] at w
    obtain ⟨t, a1, o, b1, b2, b3⟩ := w s₁ hh0 (Stand.of_body B)
    exact ⟨t, o, a1, b1, b2, ⟨b3.1, b3.2⟩⟩
section MW
variable {p : Program} {l : Launch} {e : Env} {R : Room} {s : State} {m : MethodId} {args : Array Value} {below : List Frame} {meth : Method} {c : Code} {H : Heap} {locs : List Loc} {cells slots : Nat} {Q : State → Prop}
variable {cc : ByteArray} {pc : Nat} {ls : Array Slot} {rest st0 : List Value} {G : LG} {b0 n : Nat} {E E1 : Nat → va_E} {own : String} {nL index : Nat} {ret0 : Option FieldType} {a : Array Value}
theorem fin_w (C : Cx p l s m args meth c G b0 own cc nL none) (hA : Ao s) (hW : Hw G b0 n E H) (hS : va_S (Ab b0) s.heap H locs) (he : ∀ q, q < n → E1 q = E q) (hdg : decode cc pc = .ok (.return_, 1)) : W p l e R s m args below meth c H locs cells slots (MQ below (QW G b0 n E1) args s cells slots (Ab b0)) (F0 m pc ls []) := by
  obtain ⟨hx, hb, hr, -, -, -, hlocks, hK, hSv⟩ := C
  exact W.vret hx hb hr (fun t ht hM => ⟨⟨(), rfl, trivial, Iw.mk hK hSv hA (hW.cg he) hS ht hM⟩, hS.F ht⟩) hS.2.2 hdg
theorem va_S.more {A : Nat → Prop} {H0 H H1 : Heap} {locs : List Loc} (hS : va_S A H0 H locs) (z : H.size ≤ H1.size) (o : ∀ q : Nat, q < H.size → H1[q]? = H[q]?) : va_S A H0 H1 locs := ⟨Nat.le_trans hS.1 z, fun x h1 h2 => (o x (Nat.lt_of_lt_of_le h1 hS.1)).trans (hS.2.1 x h1 h2), hS.2.2⟩
theorem w_new (C : Cx p l s m args meth c G b0 own cc nL ret0) (hW : Hw G b0 n E H) (hS : va_S (Ab b0) s.heap H locs) {ci N : Nat} {T : u_T} {fs : List Value} {Cn : String} (hc : vwCl[ci]? = some (Cn, T, N)) (hin : ∀ w ∈ u_ws Cn T N, w ∈ GW) (ty0 : Nat → FieldType) (hty : ∀ k, k < N → parseFieldDescriptor (T k).2.2.1 = some (ty0 k)) (hcl : Cond.classLink own index Cn ∈ GW) (hinst : Cond.instantiable Cn N ∈ GW) (hini : Cond.initialized Cn ∈ GW) (hfs : ∀ j, j < N → defaultValue (ty0 j) = vp_V fs j) (hcells : cells + 1 ≤ R.cells) (hslots : slots + N ≤ R.slots) (hdg : decode cc pc = .ok (.new index, 3))
    (he : ∀ q, q < n → E1 q = E q) (h1 : E1 n = .inr (ci, fs))
    (kk : ∀ H1, Hw G b0 (n + 1) E1 H1 → va_S (Ab b0) s.heap H1 locs → W p l e R s m args below meth c H1 locs (cells + 1) (slots + N) Q (F0 m (pc + 3) ls (.ref (b0 + n) :: rest))) : W p l e R s m args below meth c H locs cells slots Q (F0 m pc ls rest) := by
  obtain ⟨hx, hb, hr, hml, hown, hts, hlocks, hK, hSv⟩ := C
  have hKn := hK.1.1 ci _ hc
  refine W.newcK hx hb hown (hts _ hcl) (hts _ hinst) (hts _ hini) rfl hdg hcells hslots hKn.2.1 hW.1 fun H1 kC hkC e1 z1 o1 => ?_
  rw [← hW.1] at z1 o1
  refine kk H1 (hW.push z1 o1 he ?_) (hS.more (by omega) o1)
  rw [h1]
  exact ⟨_, hc, (u_born ty0 hts hin hKn hkC e1 hty).to hfs⟩
theorem w_newa (C : Cx p l s m args meth c G b0 own cc nL ret0) (hW : Hw G b0 n E H) (hS : va_S (Ab b0) s.heap H locs) {atype : ArrayType} {ty : FieldType} {t0 : Nat} (hty : newarray.typeOf atype = ty) (ht : (tyL G)[t0]? = some (G.2.1 t0, ty)) (hra : va_RA s (G.2.1 t0) ty → s.vm.findClass ("[" ++ ty.toString) = some (G.2.1 t0)) (harr : Cond.arrayClass ty ∈ GW) {z : Int32} {N : Nat} (a0 : vp_A) (ha : ∀ cA : ClassId, vp_cell cA a0 = arrV cA N (fun _ => defaultValue ty)) (hn : ¬ z < 0) (hN : z.toNatClampNeg = N) (hbytes : N * componentBytes ty ≤ 536870912) (hcells : cells + 1 ≤ R.cells) (hslots : slots + N ≤ R.slots) (hdg : decode cc pc = .ok (.newarray atype, 2))
    (he : ∀ q, q < n → E1 q = E q) (h1 : E1 n = .inl (G.2.1 t0, a0))
    (kk : ∀ H1, Hw G b0 (n + 1) E1 H1 → va_S (Ab b0) s.heap H1 locs → W p l e R s m args below meth c H1 locs (cells + 1) (slots + N) Q (F0 m (pc + 2) ls (.ref (b0 + n) :: rest))) : W p l e R s m args below meth c H locs cells slots Q (F0 m pc ls (.int z :: rest)) := by
  obtain ⟨hx, hb, hr, hml, hown, hts, hlocks, hK, hSv⟩ := C
  subst hty
  refine va_newaK hx hb (hts _ harr) rfl hdg rfl hn hN hbytes hcells hslots hW.1 fun H1 cA e1 z1 o1 hAr hNm => ?_
  have hcA : cA = G.2.1 t0 := Option.some.inj (hNm.symm.trans (hra (hK.1.2 t0 _ ht).2))
  subst hcA
  rw [← hW.1] at z1 o1
  refine kk H1 (hW.push z1 o1 he ?_) (hS.more (by omega) o1)
  rw [h1]
  show H1[b0 + n]? = some (vp_cell _ _)
  rw [ha]
  exact e1
theorem w_anew (C : Cx p l s m args meth c G b0 own cc nL ret0) (hW : Hw G b0 n E H) (hS : va_S (Ab b0) s.heap H locs) {Cn : String} {t0 : Nat} (hover : va_AO Cn s) (ht : (tyL G)[t0]? = some (G.2.1 t0, .object Cn)) (hcl : Cond.classLink own index Cn ∈ GW) {z : Int32} {N : Nat} (hn : ¬ z < 0) (hN : z.toNatClampNeg = N) (hbytes : N * 4 ≤ 536870912) (hcells : cells + 1 ≤ R.cells) (hslots : slots + N ≤ R.slots) (hdg : decode cc pc = .ok (.anewarray index, 3))
    (he : ∀ q, q < n → E1 q = E q) (h1 : E1 n = .inl (G.2.1 t0, N, .inr (.inr (.inr (.inr (fun _ => none))))))
    (kk : ∀ H1, Hw G b0 (n + 1) E1 H1 → va_S (Ab b0) s.heap H1 locs → W p l e R s m args below meth c H1 locs (cells + 1) (slots + N) Q (F0 m (pc + 3) ls (.ref (b0 + n) :: rest))) : W p l e R s m args below meth c H locs cells slots Q (F0 m pc ls (.int z :: rest)) := by
  obtain ⟨hx, hb, hr, hml, hown, hts, hlocks, hK, hSv⟩ := C
  subst hN
  refine W.anew hx hb hown (hts _ hcl) (va_AO.use hover) rfl hdg rfl hn hbytes hcells hslots fun cA kA comp f1 f2 f3 f4 => ?_
  have hcA : cA = G.2.1 t0 := by
    obtain ⟨_, _, -, -, -, h9⟩ := (hK.1.2 t0 _ ht).2
    exact Option.some.inj (f1.symm.trans h9)
  subst hcA
  generalize hH1 : H.push ({ cls := G.2.1 t0, slots := Array.replicate z.toNatClampNeg .null, vm := .none } : Cell) = H1
  have z1 : H1.size = H.size + 1 := by rw [← hH1, Array.size_push]
  have e1 : H1[H.size]? = some (arrV (G.2.1 t0) z.toNatClampNeg (fun _ => .null)) := by rw [← hH1, Array.getElem?_push_size, ← arrV_new]
  have o1 : ∀ q : Nat, q < H.size → H1[q]? = H[q]? := fun q hq => by rw [← hH1, Array.getElem?_push, if_neg (Nat.ne_of_lt hq)]
  have k9 := kk H1 (hW.push z1 o1 he (by
    rw [h1, ← hW.1]
    show H1[H.size]? = some (vp_cell _ _)
    rw [vp_cell_q]
    exact e1)) (hS.more (by omega) o1)
  rw [← hW.1] at k9
  exact k9
theorem w_put (C : Cx p l s m args meth c G b0 own cc nL ret0) (hN : meth.name = "<init>") (hW : Hw G b0 n E H) (hS : va_S (Ab b0) s.heap H locs) {k ci N : Nat} {T : u_T} {fs : List Value} {Cn ref : String} {v : Value} (hk : k < n) (he0 : E k = .inr (ci, fs)) (hc : vwCl[ci]? = some (Cn, T, N)) (hin : ∀ w ∈ u_ws Cn T N, w ∈ GW) (ty0 : Nat → FieldType) (hty : ∀ k, k < N → parseFieldDescriptor (T k).2.2.1 = some (ty0 k)) (hnm : ∀ a, a < N → ∀ b, b < N → a ≠ b → (T a).2.1 ≠ (T b).2.1) (j : Nat) (hj : j < N) (hlink : Cond.fieldLink own index ref (T j).2.1 (T j).2.2.1 ∈ GW) (hsame : ref = (T j).1) (hfin : (T j).2.2.2 = true → (T j).1 = own) {ty : FieldType} (hd : parseFieldDescriptor (T j).2.2.1 = some ty) (hn : narrow ty v = v) (hfit : fits ty v = true) (hl : j < fs.length) (hdg : decode cc pc = .ok (.putfield index, 3))
    (he : ∀ q, q < n → q ≠ k → E1 q = E q) (h1 : E1 k = .inr (ci, fs.set j v))
    (kk : ∀ (H1 : Heap) (locs1 : List Loc), Hw G b0 n E1 H1 → va_S (Ab b0) s.heap H1 locs1 → W p l e R s m args below meth c H1 locs1 cells slots Q (F0 m (pc + 3) ls rest)) : W p l e R s m args below meth c H locs cells slots Q (F0 m pc ls (v :: .ref (b0 + k) :: rest)) := by
  obtain ⟨hx, hb, hr, hml, hown, hts, hlocks, hK, hSv⟩ := C
  subst hsame
  have hap := va_apart (own := own) hts hin ty0 hty hnm hK.1 hc
  have h0 := hW.2 k hk
  rw [he0] at h0
  obtain ⟨r, h9, cell, q1, q2, q3, q4⟩ := h0
  have hr : r = (Cn, T, N) := Option.some.inj (h9.symm.trans hc)
  subst hr
  obtain ⟨hS9, hfc, kC, hkC, hkind⟩ := hK.1.1 ci _ hc
  obtain ⟨cf, kf, fi, f, hi, hsl⟩ := hS9 j hj
  have hlay := hts _ (hin _ (u_in_lay hj))
  unfold u_lay at hlay
  have hst := (u_facts hfc hkC (u_lays hts hin hj) hi).1
  have fin9 : ∀ H' : Heap, H'[b0 + k]? = some (cell.setSlot f.slot v) → H'.size = H.size → (∀ q : Nat, q ≠ b0 + k → H'[q]? = H[q]?) → W p l e R s m args below meth c H' (locs ++ [⟨b0 + k, f.slot⟩]) cells slots Q (F0 m (pc + 3) ls rest) := by
    intro H' e1 e2 e3
    rw [hsl] at e1 ⊢
    refine kk H' _ (hW.set e2 e3 he ?_) (hS.put e2 e3 (show b0 ≤ b0 + k by omega))
    rw [h1]
    exact ⟨_, hc, t_OB.to (V := updV (vp_V fs) j v) ⟨_, e1, q2, q3, t_set q4 hap hj v⟩ (fun i _ => vp_updV_set hl v i)⟩
  by_cases hf : (T j).2.2.2 = true
  · rw [if_pos hf] at hlay
    have hcf : m.cls = cf := by
      obtain ⟨_, _, c', _, _, _, -, -, hf', -, -, -, hown2, -⟩ := Cond.laysFinal_spec hlay
      have e1 : c' = cf := by have := hi.symm.trans hf'; simp at this; exact this.1.symm
      rw [hfin hf] at hown2
      rw [← e1]; exact Option.some.inj (hown.symm.trans hown2)
    have h6 := u_fits hfc hkC hkind (Or.inr hlay) hi hd hn hfit
    exact W.putFinK hx hb hown (hts _ hlink) hi hst hcf hN (by rw [q2]; exact h6) q1 q3 (by rw [hsl]; exact k2_hasslot (q4 j hj)) rfl rfl hdg fin9
  · rw [if_neg hf] at hlay
    have h6 := u_store hfc hkC hkind hlay hi hd hn hfit
    exact W.putK hx hb (f := f) ⟨hown, hts _ hlink, ⟨_, _, _, hi⟩, hst⟩ (by rw [q2]; exact h6) q1 q3 (by rw [hsl]; exact k2_hasslot (q4 j hj)) rfl rfl hdg fin9
theorem w_get (C : Cx p l s m args meth c G b0 own cc nL ret0) (hW : Hw G b0 n E H) {k ci N : Nat} {T : u_T} {fs : List Value} {Cn ref : String} {v : Value} (hk : k < n) (he : E k = .inr (ci, fs)) (hc : vwCl[ci]? = some (Cn, T, N)) (hin : ∀ w ∈ u_ws Cn T N, w ∈ GW) (j : Nat) (hj : j < N) (hlink : Cond.fieldLink own index ref (T j).2.1 (T j).2.2.1 ∈ GW) (hsame : ref = (T j).1) (hv : fs[j]? = some v) (hdg : decode cc pc = .ok (.getfield index, 3))
    (kk : W p l e R s m args below meth c H locs cells slots Q (F0 m (pc + 3) ls (v :: rest))) : W p l e R s m args below meth c H locs cells slots Q (F0 m pc ls (.ref (b0 + k) :: rest)) := by
  obtain ⟨hx, hb, hr, hml, hown, hts, hlocks, hK, hSv⟩ := C
  subst hsame
  exact va_get (T := T) hx hb hts hin hown hK.1 (hW.p1 hk) 0 (by rw [he]; rfl) hc j hj (hts _ hlink) (fun _ h => h) hv hdg kk
theorem w_aast (C : Cx p l s m args meth c G b0 own cc nL ret0) (hW : Hw G b0 n E H) (hS : va_S (Ab b0) s.heap H locs) {k kv ci t0 N j : Nat} {r : vw_C} {vs : List Value} {f : Nat → Option Nat} {i : Int32} (hk : k < n) (he0 : E k = .inl (G.2.1 t0, N, .inr (.inr (.inr (.inr f))))) (ht : (tyL G)[t0]? = some (G.2.1 t0, .object r.1)) (hkv : kv < n) (hev : E kv = .inr (ci, vs)) (hc : vwCl[ci]? = some r) (hi : ix i N = some j) (hdg : decode cc pc = .ok (.aastore, 1))
    (he : ∀ q, q < n → q ≠ k → E1 q = E q) (h1 : E1 k = .inl (G.2.1 t0, N, .inr (.inr (.inr (.inr (va_up f j (some (b0 + kv))))))))
    (kk : ∀ (H1 : Heap) (locs1 : List Loc), Hw G b0 n E1 H1 → va_S (Ab b0) s.heap H1 locs1 → W p l e R s m args below meth c H1 locs1 cells slots Q (F0 m (pc + 1) ls rest)) : W p l e R s m args below meth c H locs cells slots Q (F0 m pc ls (.ref (b0 + kv) :: .int i :: .ref (b0 + k) :: rest)) := by
  obtain ⟨hx, hb, hr, hml, hown, hts, hlocks, hK, hSv⟩ := C
  obtain ⟨hin, h2, h3⟩ := ix_in hi
  subst h2
  have h0 : ¬ i < 0 := fun q => hin (Or.inl q)
  have hA := hW.2 k hk
  rw [he0] at hA
  have hB := hW.2 kv hkv
  rw [hev] at hB
  obtain ⟨r', hr', cellV, g1, g2, g3, -⟩ := hB
  have hcls := (hK.1.1 ci r hc).2
  obtain ⟨kA, comp, k1, k2, k3, -⟩ := (hK.1.2 t0 _ ht).2
  have hcomp : comp = G.1.1 ci := Option.some.inj (k3.symm.trans hcls.1)
  subst hcomp
  obtain ⟨kC, hkC, -⟩ := hcls.2
  refine W.aast hx hb hA (fun q h => by cases h) (fun h => by cases h) k1 k2 rfl hkC ⟨h0, by show _ < (arrV _ _ _).slots.size; rw [arrV_size]; exact h3⟩ g1 (fun q h => by rw [g3] at h; cases h) (by rw [g2]; exact hkC) (by rw [g2]; exact va_assign hcls) rfl rfl hdg fun H1 e z oq => ?_
  refine kk H1 _ (hW.set z oq he ?_) (hS.put z oq (show b0 ≤ b0 + k by omega))
  rw [h1]
  show H1[b0 + k]? = some (vp_cell _ _)
  rw [e]
  rw [vp_cell_q, vp_cell_q, arrV_store]
  congr 2
  funext q
  by_cases hq : q = i.toNatClampNeg
  · subst hq
    simp [updV, va_up, va_rf]
  · simp [updV, va_up, hq]
theorem w_obj (C : Cx p l s m args meth c G b0 own cc nL ret0) (hl : Cond.methodLink own index ⟨"java/lang/Object", "<init>", "()V"⟩ ∈ GW) (hls : ls.size = nL) {d mc ms b : Nat} (hR : R = rmw (d + 1) mc ms) (hn : (rest.map fun v => v.category).sum ≤ 8) (hdg : decode cc pc = .ok (.invokespecial index, 3))
    (kk : W p l e R s m args below meth c H locs cells slots Q (F0 m (pc + 3) ls rest)) : W p l e R s m args below meth c H locs cells slots Q (F0 m pc ls (.ref b :: rest)) := by
  obtain ⟨hx, hb, hr, hml, hown, hts, hlocks, hK, hSv⟩ := C
  refine W.objInit hx hb hown (hts _ hl) (hts _ q_131) (hts _ q_132) rfl (hls.trans hml.symm) rfl hdg (by rw [hR]; show 1 ≤ d + 1; omega) ?_ kk
  have h9 : 2 * (F0 m pc ls (.ref b :: rest)).monitorRoom + (rest.map fun v => v.category).sum ≤ 8 := lv_room hn
  rw [hR]
  show _ ≤ 60 * (d + 1)
  omega
theorem w_callN (C : Cx p l s m args meth c G b0 own cc nL ret0) (hA : Ao s) (hW : Hw G b0 n E H) (hS : va_S (Ab b0) s.heap H locs) {y : MethodName} {bytes : ByteArray} {maxL d mc ms k n1 : Nat} {host : String} {E2 : Nat → va_E} (hM : Met l y (wy y bytes maxL none) (rmw d mc ms) (va_Pc [.ref (b0 + k)] (Iw G b0 n E)) (QW G b0 n1 E2) mc ms (Ab b0)) (hyn : y.name = "<init>") (hl : Cond.methodLinkNest own index y host ∈ NW) (hi : Cond.instanceMethod y ∈ GW) (hin : Cond.initialized y.cls ∈ GW) (hco : Cond.code y bytes maxL none ∈ GW) (hd : dOk y 0)
    (hR : (rmw d mc ms).frames + 1 ≤ R.frames ∧ 8 + (maxL + 11) + (rmw d mc ms).locals ≤ R.locals) (hls : ls.size = nL) (hn : (rest.map fun v => v.category).sum ≤ 8) (hdg : decode cc pc = .ok (.invokespecial index, 3)) (hcs : cells + mc ≤ R.cells ∧ slots + ms ≤ R.slots)
    (he : ∀ q, q < n1 → E1 q = E2 q)
    (kk : ∀ (H1 : Heap) (locs1 : List Loc), Hw G b0 n1 E1 H1 → va_S (Ab b0) s.heap H1 locs1 → W p l e R s m args below meth c H1 locs1 (cells + mc) (slots + ms) Q (F0 m (pc + 3) ls rest)) : W p l e R s m args below meth c H locs cells slots Q (F0 m pc ls (.ref (b0 + k) :: rest)) := by
  obtain ⟨hx, hb, hr, hml, hown, hts, hlocks, hK, hSv⟩ := C
  refine va_callv (va_runIN (As := []) (rest := rest) ⟨hx, hb, hml, hown, hts⟩ hM ⟨va_cnB 0 hts (gi_wy hco) rfl rfl rfl (hK.2.1 _ hl) (hts _ hin) hd hR, hyn, hts _ hi⟩ ⟨fun a U g mk q => ⟨q.1, q.2.blind⟩, fun U hU hM => ⟨rfl, Iw.mk hK hSv hA hW hS hU hM⟩⟩ rfl rfl hls rfl (lv_room hn) hdg hcs) hS (fun _ _ h => h) (fun _ h => h) (fun x t H1 locs1 ht hvm hw hB hz hk hS1 => ?_)
  exact kk H1 locs1 (by rw [← ht]; exact (hB.1).cg he) hS1
theorem w_call (C : Cx p l s m args meth c G b0 own cc nL ret0) (hA : Ao s) (hW : Hw G b0 n E H) (hS : va_S (Ab b0) s.heap H locs) {y : MethodName} {bytes : ByteArray} {maxL d mc ms k n1 : Nat} {E2 : Nat → va_E} (hM : Met l y (wy y bytes maxL none) (rmw d mc ms) (va_Pc [.ref (b0 + k)] (Iw G b0 n E)) (QW G b0 n1 E2) mc ms (Ab b0)) (hyn : y.name = "<init>") (hl : Cond.methodLink own index y ∈ GW) (hi : Cond.instanceMethod y ∈ GW) (hin : Cond.initialized y.cls ∈ GW) (hco : Cond.code y bytes maxL none ∈ GW) (hd : dOk y 0)
    (hR : (rmw d mc ms).frames + 1 ≤ R.frames ∧ 8 + (maxL + 11) + (rmw d mc ms).locals ≤ R.locals) (hls : ls.size = nL) (hn : (rest.map fun v => v.category).sum ≤ 8) (hdg : decode cc pc = .ok (.invokespecial index, 3)) (hcs : cells + mc ≤ R.cells ∧ slots + ms ≤ R.slots)
    (he : ∀ q, q < n1 → E1 q = E2 q)
    (kk : ∀ (H1 : Heap) (locs1 : List Loc), Hw G b0 n1 E1 H1 → va_S (Ab b0) s.heap H1 locs1 → W p l e R s m args below meth c H1 locs1 (cells + mc) (slots + ms) Q (F0 m (pc + 3) ls rest)) : W p l e R s m args below meth c H locs cells slots Q (F0 m pc ls (.ref (b0 + k) :: rest)) := by
  obtain ⟨hx, hb, hr, hml, hown, hts, hlocks, hK, hSv⟩ := C
  refine va_callv (va_runI (As := []) (rest := rest) ⟨hx, hb, hml, hown, hts⟩ hM (cwI 0 hts (gi_wy hco) rfl rfl rfl (hts _ hin) (hts _ hl) (hts _ hi) hyn hd hR) ⟨fun a U g mk q => ⟨q.1, q.2.blind⟩, fun U hU hM => ⟨rfl, Iw.mk hK hSv hA hW hS hU hM⟩⟩ rfl rfl hls rfl (lv_room hn) hdg hcs) hS (fun _ _ h => h) (fun _ h => h) (fun x t H1 locs1 ht hvm hw hB hz hk hS1 => ?_)
  exact kk H1 locs1 (by rw [← ht]; exact (hB.1).cg he) hS1
end MW
