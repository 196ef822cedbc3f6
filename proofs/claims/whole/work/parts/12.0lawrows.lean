/-! what the law's own methods need: calls that may throw, and their handlers; arrays of a long and a double -/
def exm {α β : Type} (r : Except Nat α) (f : α → Option β) (g : Nat → Option β) : Option β := match r with
  | .ok x => f x
  | .error n => g n
def fdv (x : UInt32) : Option UInt64 := if FP.f2d x &&& 0x7fffffffffffffff ≤ 0x7ff0000000000000 then some (FP.f2d x) else none
theorem fdv_in {x : UInt32} {q : UInt64} (h : fdv x = some q) : q = FP.f2d x ∧ vf_n64 (FP.f2d x) := by
  unfold fdv at h
  by_cases c : FP.f2d x &&& 0x7fffffffffffffff ≤ 0x7ff0000000000000
  · rw [if_pos c] at h
    cases h
    exact ⟨rfl, c⟩
  · rw [if_neg c] at h
    cases h
def lcm (x y : Int32) : Int32 := lg_cmp x.toInt64 y.toInt64
def dcm (x y : UInt64) : Int32 := Op.cmpValue (FP.dcmp x y) CmpOp.l
theorem xe_in {α : Type} {r : Except Nat α} {n : Nat} (h : xe r = some n) : r = .error n := by
  cases r with
  | ok x => cases h
  | error k => cases h; rfl
theorem dmk_bit (y : UInt64) : dmk (dlo y) (dhi y) = y := by
  have h1 : (dlo y).toUInt32.toUInt64.toNat = y.toNat % 2 ^ 32 := by
    simp [dlo]
  have h2 : (dhi y).toUInt32.toUInt64.toNat = y.toNat / 2 ^ 32 := by
    have := y.toNat_lt
    simp [dhi, Nat.shiftRight_eq_div_pow]
    omega
  apply UInt64.toNat_inj.mp
  unfold dmk
  rw [UInt64.toNat_or, UInt64.toNat_shiftLeft, h1, h2]
  have h3 : (y.toNat / 2 ^ 32) <<< ((32 : UInt64).toNat % 64) % 2 ^ 64 = 2 ^ 32 * (y.toNat / 2 ^ 32) := by
    have := y.toNat_lt
    rw [show (32 : UInt64).toNat % 64 = 32 from rfl, Nat.shiftLeft_eq]
    omega
  rw [h3, Nat.or_comm, ← Nat.two_pow_add_eq_or_of_lt (Nat.mod_lt _ (by decide))]
  omega
theorem arrV_ext1 {cA : ClassId} {f g : Nat → Value} (h : ∀ q : Nat, q < 1 → f q = g q) : arrV cA 1 f = arrV cA 1 g := by
  have h2 : (fun j : Fin 1 => f j.val) = (fun j : Fin 1 => g j.val) := funext fun j => h j.val j.isLt
  unfold arrV
  rw [h2]
theorem mk_h {l : Launch} {y : MethodName} {cc : ByteArray} {nL : Nat} {ret : Option FieldType} {hh : List (Nat × Nat × Nat × Nat)} {As : List Value} {G : LG} {b0 : Nat} {V : St} {d : Nat} {Qc : Array Value → State → Outcome → State → Prop} (hy : plainFor y = true) (hn : (lg_sl As).length ≤ nL)
    (body : ∀ (p : Program) (e : Env) (s : State) (m : MethodId) (below : List Frame) (meth : Method) (c : Code), Cx p l s m As.toArray meth c G b0 y.cls cc nL ret → c.exceptionTable.toList = tableOf hh → Hd G b0 V s.heap → va_S (Ab b0) s.heap s.heap [] → ∀ ls, lv_has ls nL (lv_args 0 As) → W p l e (rmx d) s m As.toArray below meth c s.heap [] 0 0 (MQ below Qc As.toArray s 1 6 (Ab b0)) (F0 m 0 ls [])) :
    Met l y (wyH y cc nL ret hh) (rmx d) (va_Pc As (Iv G b0 V)) Qc 1 6 (Ab b0) := by
  refine MetFree.of_bodySF (code := cc) (maxLocals := nL) (ret := ret) hy ?_ ?_
  · intro args s m h hn9
    obtain ⟨m9, meth, c, hn8, h1, h2, h3, h4, -, h5, h6, -⟩ := Cond.codeWith_spec (atoms_spec (ws := wyH y cc nL ret hh) h _ List.mem_cons_self)
    cases hn9.symm.trans hn8
    exact ⟨meth, c, h1, h2, h3, h4, h5, h6⟩
  · intro p e s m args below meth c s₁ B hml hv _
    have hh0 : s₁.heap = s.heap := by rw [B.state]; rfl
    obtain ⟨rfl, hV, hK, hSv⟩ := hv
    have hts := atoms_spec (ws := wyH y cc nL ret hh) B.pre
    have ht := vx_table (x := y) B (hts _ List.mem_cons_self)
    have w := body p e s m below meth c ⟨B.exec, B.bytes, B.returns, hml, findClass_of_methodNamed B.named, fun w hw => hts w (List.mem_cons_of_mem _ hw), B.notSynchronized, hK, hSv⟩ ht hV va_S.rf _ (lv_entry As hn)
    rw [← lg_entry_eq] at w
    obtain ⟨t, a1, o, b1, b2, b3⟩ := w s₁ hh0 (Stand.of_body B)
    exact ⟨t, o, a1, b1, b2, ⟨b3.1, b3.2⟩⟩
theorem z_216 : kd 216 = 28 := rfl
theorem z_217 : kd 217 = 29 := rfl
section LR
variable {p : Program} {l : Launch} {e : Env} {R : Room} {s : State} {m : MethodId} {args : Array Value} {below : List Frame} {meth : Method} {c : Code} {H : Heap} {locs : List Loc} {cells slots : Nat} {Q : State → Prop}
variable {cc : ByteArray} {pc : Nat} {ls : Array Slot} {rest st0 : List Value} {G : LG} {b0 : Nat} {V V1 : St} {own : String} {nL index : Nat} {ret0 : Option FieldType} {a : Array Value}
variable {y : MethodName} {bytes : ByteArray} {maxL d n : Nat} {ret : Option FieldType} {As : List Value} {Qc : Array Value → State → Outcome → State → Prop}
theorem fin_h (C : Cx p l s m args meth c G b0 own cc nL (some .int)) (hV : Hd G b0 V H) (hS : va_S (Ab b0) s.heap H locs) {v r : Int32} (hv : v = r) (hdg : decode cc pc = .ok (.ireturn, 1)) : W p l e R s m args below meth c H locs 1 6 (MQ below (QI G b0 r V) args s 1 6 (Ab b0)) (F0 m pc ls [.int v]) := by
  obtain ⟨hx, hb, hr, -, -, -, hlocks, hK, hSv⟩ := C
  exact W.iret (v := v) hx hb hr (fun t ht hW => ⟨⟨v, (), rfl, hv, Iv.mk hK hSv hV hS ht hW⟩, hS.F ht⟩) hS.2.2 hdg
theorem gi_V (hl : Cond.methodLink own index y ∈ GW) (hi : Cond.instanceMethod y ∈ GW) (hse : Cond.selects y.cls y y ∈ GW) (hin : Cond.initialized y.cls ∈ GW) (hco : Cond.code y bytes maxL ret ∈ GW) : GoodIn GW (wsV own index y.cls y (wy y bytes maxL ret)) := by
  intro w hw
  rcases List.mem_append.mp hw with h | h
  · have h9 : w ∈ GW := by
      simp only [List.mem_cons, List.not_mem_nil, or_false] at h
      rcases h with rfl | rfl | rfl | rfl
      · exact hl
      · exact hi
      · exact hse
      · exact hin
    exact ⟨h9, good_of_word (gw_good _ h9)⟩
  · exact gi_wy hco w h
theorem rmx_ok2 {d D maxL : Nat} (h : d + 1 ≤ D) (h2 : maxL ≤ 40) : (rmx d).frames + 1 ≤ (rmx D).frames ∧ 8 + (maxL + 11) + (rmx d).locals ≤ (rmx D).locals := by
  unfold rmx
  refine ⟨h, ?_⟩
  show 8 + (maxL + 11) + 60 * d ≤ 60 * D
  omega
theorem xcal_i {r : Except Nat Int32} (C : Cx p l s m args meth c G b0 own cc nL ret0) (hV : Hd G b0 V H) (hS : va_S (Ab b0) s.heap H locs) {b : Nat} (hM : vx_Met l y (wy y bytes maxL ret) (rmx d) (va_Pc (.ref b :: As) (Iv G b0 V)) (QIx G b0 r V1) (XX G b0 (xe r) V1) 1 6 (Ab b0))
    (hrv : ∃ cellB : Cell, H[b]? = some cellB ∧ cellB.vm.isStatics = false ∧ s.vm.findClass y.cls = some cellB.cls) (hl : Cond.methodLink own index y ∈ GW) (hi : Cond.instanceMethod y ∈ GW) (hse : Cond.selects y.cls y y ∈ GW) (hin : Cond.initialized y.cls ∈ GW) (hco : Cond.code y bytes maxL ret ∈ GW) (hd : dOk y As.length)
    (hR : (rmx d).frames + 1 ≤ R.frames ∧ 8 + (maxL + 11) + (rmx d).locals ≤ R.locals) (hls : ls.size = nL) (hst : st0 = As.reverse ++ .ref b :: rest) (hn : (rest.map fun v => v.category).sum ≤ 8) (hdg : decode cc pc = .ok (.invokevirtual index, 3)) (hcs : cells + 1 ≤ R.cells ∧ slots + 6 ≤ R.slots)
    (kx : ∀ (n : Nat) (E : String) (ce : Cell) (q9 : Addr) (H1 : Heap) (locs1 : List Loc), r = .error n → exL[n]? = some E → Hd G b0 V1 H1 → va_S (Ab b0) s.heap H1 locs1 → H1[q9]? = some ce → ce.vm = .none → s.vm.findClass E = some ce.cls → vx_W p l e R s m args below meth c H1 locs1 (cells + 1) (slots + 6) Q (F0 m pc ls rest) q9)
    (kk : ∀ (x : Int32) (H1 : Heap) (locs1 : List Loc), r = .ok x → Hd G b0 V1 H1 → va_S (Ab b0) s.heap H1 locs1 → W p l e R s m args below meth c H1 locs1 (cells + 1) (slots + 6) Q (F0 m (pc + 3) ls (.int x :: rest))) : W p l e R s m args below meth c H locs cells slots Q (F0 m pc ls st0) := by
  obtain ⟨hx, hb, hr, hml, hown, hts, hlocks, hK, hSv⟩ := C
  refine vx_calli (vx_runV (As := As) (rest := rest) ⟨hx, hb, hml, hown, hts⟩ hM (cwV As.length hts (gi_V hl hi hse hin hco) rfl rfl rfl ⟨rfl, hd⟩ hR) ⟨fun a U g mk q => ⟨q.1, q.2.blind⟩, hrv, fun U hU hW => ⟨rfl, Iv.mk hK hSv hV hS hU hW⟩⟩ rfl rfl hls hst (lv_room hn) hdg hcs) hS (fun _ _ h => h) (fun _ h => h) (fun _ _ h => h) (fun E ce q9 u t H1 locs1 ht hal hp hB hz hk hS1 h1 h2 h3 => ?_) (fun x u t H1 locs1 ht hal hw hB hz hk hS1 => ?_)
  · obtain ⟨⟨n, e1, e2⟩, hB2⟩ := hB
    exact kx n E ce q9 H1 locs1 (xe_in e1) e2 (by rw [← ht]; exact hB2) hS1 h1 h2 h3
  · exact kk x H1 locs1 hw (by rw [← ht]; exact hB.1) hS1
theorem xcal_d {r : Except Nat UInt64} (C : Cx p l s m args meth c G b0 own cc nL ret0) (hV : Hd G b0 V H) (hS : va_S (Ab b0) s.heap H locs) {b : Nat} (hM : vx_Met l y (wy y bytes maxL ret) (rmx d) (va_Pc (.ref b :: As) (Iv G b0 V)) (QDx G b0 r V1) (XX G b0 (xe r) V1) 1 6 (Ab b0))
    (hrv : ∃ cellB : Cell, H[b]? = some cellB ∧ cellB.vm.isStatics = false ∧ s.vm.findClass y.cls = some cellB.cls) (hl : Cond.methodLink own index y ∈ GW) (hi : Cond.instanceMethod y ∈ GW) (hse : Cond.selects y.cls y y ∈ GW) (hin : Cond.initialized y.cls ∈ GW) (hco : Cond.code y bytes maxL ret ∈ GW) (hd : dOk y As.length)
    (hR : (rmx d).frames + 1 ≤ R.frames ∧ 8 + (maxL + 11) + (rmx d).locals ≤ R.locals) (hls : ls.size = nL) (hst : st0 = As.reverse ++ .ref b :: rest) (hn : (rest.map fun v => v.category).sum ≤ 8) (hdg : decode cc pc = .ok (.invokevirtual index, 3)) (hcs : cells + 1 ≤ R.cells ∧ slots + 6 ≤ R.slots)
    (kx : ∀ (n : Nat) (E : String) (ce : Cell) (q9 : Addr) (H1 : Heap) (locs1 : List Loc), r = .error n → exL[n]? = some E → Hd G b0 V1 H1 → va_S (Ab b0) s.heap H1 locs1 → H1[q9]? = some ce → ce.vm = .none → s.vm.findClass E = some ce.cls → vx_W p l e R s m args below meth c H1 locs1 (cells + 1) (slots + 6) Q (F0 m pc ls rest) q9)
    (kk : ∀ (x : UInt64) (H1 : Heap) (locs1 : List Loc), r = .ok x → Hd G b0 V1 H1 → va_S (Ab b0) s.heap H1 locs1 → W p l e R s m args below meth c H1 locs1 (cells + 1) (slots + 6) Q (F0 m (pc + 3) ls (.double x :: rest))) : W p l e R s m args below meth c H locs cells slots Q (F0 m pc ls st0) := by
  obtain ⟨hx, hb, hr, hml, hown, hts, hlocks, hK, hSv⟩ := C
  refine vx_calld (vx_runV (As := As) (rest := rest) ⟨hx, hb, hml, hown, hts⟩ hM (cwV As.length hts (gi_V hl hi hse hin hco) rfl rfl rfl ⟨rfl, hd⟩ hR) ⟨fun a U g mk q => ⟨q.1, q.2.blind⟩, hrv, fun U hU hW => ⟨rfl, Iv.mk hK hSv hV hS hU hW⟩⟩ rfl rfl hls hst (lv_room hn) hdg hcs) hS (fun _ _ h => h) (fun _ h => h) (fun _ _ h => h) (fun E ce q9 u t H1 locs1 ht hal hp hB hz hk hS1 h1 h2 h3 => ?_) (fun x u t H1 locs1 ht hal hw hB hz hk hS1 => ?_)
  · obtain ⟨⟨n, e1, e2⟩, hB2⟩ := hB
    exact kx n E ce q9 H1 locs1 (xe_in e1) e2 (by rw [← ht]; exact hB2) hS1 h1 h2 h3
  · exact kk x H1 locs1 hw (by rw [← ht]; exact hB.1) hS1
theorem xcal_f {r : Except Nat UInt32} (C : Cx p l s m args meth c G b0 own cc nL ret0) (hV : Hd G b0 V H) (hS : va_S (Ab b0) s.heap H locs) {b : Nat} (hM : vx_Met l y (wy y bytes maxL ret) (rmx d) (va_Pc (.ref b :: As) (Iv G b0 V)) (QFx G b0 r V1) (XX G b0 (xe r) V1) 1 6 (Ab b0))
    (hrv : ∃ cellB : Cell, H[b]? = some cellB ∧ cellB.vm.isStatics = false ∧ s.vm.findClass y.cls = some cellB.cls) (hl : Cond.methodLink own index y ∈ GW) (hi : Cond.instanceMethod y ∈ GW) (hse : Cond.selects y.cls y y ∈ GW) (hin : Cond.initialized y.cls ∈ GW) (hco : Cond.code y bytes maxL ret ∈ GW) (hd : dOk y As.length)
    (hR : (rmx d).frames + 1 ≤ R.frames ∧ 8 + (maxL + 11) + (rmx d).locals ≤ R.locals) (hls : ls.size = nL) (hst : st0 = As.reverse ++ .ref b :: rest) (hn : (rest.map fun v => v.category).sum ≤ 8) (hdg : decode cc pc = .ok (.invokevirtual index, 3)) (hcs : cells + 1 ≤ R.cells ∧ slots + 6 ≤ R.slots)
    (kx : ∀ (n : Nat) (E : String) (ce : Cell) (q9 : Addr) (H1 : Heap) (locs1 : List Loc), r = .error n → exL[n]? = some E → Hd G b0 V1 H1 → va_S (Ab b0) s.heap H1 locs1 → H1[q9]? = some ce → ce.vm = .none → s.vm.findClass E = some ce.cls → vx_W p l e R s m args below meth c H1 locs1 (cells + 1) (slots + 6) Q (F0 m pc ls rest) q9)
    (kk : ∀ (x : UInt32) (H1 : Heap) (locs1 : List Loc), r = .ok x → Hd G b0 V1 H1 → va_S (Ab b0) s.heap H1 locs1 → W p l e R s m args below meth c H1 locs1 (cells + 1) (slots + 6) Q (F0 m (pc + 3) ls (.float x :: rest))) : W p l e R s m args below meth c H locs cells slots Q (F0 m pc ls st0) := by
  obtain ⟨hx, hb, hr, hml, hown, hts, hlocks, hK, hSv⟩ := C
  refine vx_callf (vx_runV (As := As) (rest := rest) ⟨hx, hb, hml, hown, hts⟩ hM (cwV As.length hts (gi_V hl hi hse hin hco) rfl rfl rfl ⟨rfl, hd⟩ hR) ⟨fun a U g mk q => ⟨q.1, q.2.blind⟩, hrv, fun U hU hW => ⟨rfl, Iv.mk hK hSv hV hS hU hW⟩⟩ rfl rfl hls hst (lv_room hn) hdg hcs) hS (fun _ _ h => h) (fun _ h => h) (fun _ _ h => h) (fun E ce q9 u t H1 locs1 ht hal hp hB hz hk hS1 h1 h2 h3 => ?_) (fun x u t H1 locs1 ht hal hw hB hz hk hS1 => ?_)
  · obtain ⟨⟨n, e1, e2⟩, hB2⟩ := hB
    exact kx n E ce q9 H1 locs1 (xe_in e1) e2 (by rw [← ht]; exact hB2) hS1 h1 h2 h3
  · exact kk x H1 locs1 hw (by rw [← ht]; exact hB.1) hS1
/-! the arrays of the law -/
theorem a_28 (C : Cx p l s m args meth c G b0 own cc nL ret0) (hV : Hd G b0 V H) (hdg : decode cc pc = .ok (.laload, 1))
    (kk : W p l e R s m args below meth c H locs cells slots Q (F0 m (pc + 1) ls (.long (V 216 0).toInt64 :: rest))) : W p l e R s m args below meth c H locs cells slots Q (F0 m pc ls (.int 0 :: .ref (b0 + 216) :: rest)) := by
  obtain ⟨hx, hb, hr, hml, hown, hts, hlocks, hK, hSv⟩ := C
  have hP := hV.p1 (k := 216) (by decide)
  rw [cel_28 z_216] at hP
  exact va_lald (i := 0) hx hb hK.1 hP 0 2 rfl rfl (vp_in_nI (n := 0) (by decide) (by decide)) hdg kk
theorem a_29 (C : Cx p l s m args meth c G b0 own cc nL ret0) (hV : Hd G b0 V H) (hdg : decode cc pc = .ok (.daload, 1))
    (kk : W p l e R s m args below meth c H locs cells slots Q (F0 m (pc + 1) ls (.double (dmk (V 217 0) (V 217 1)) :: rest))) : W p l e R s m args below meth c H locs cells slots Q (F0 m pc ls (.int 0 :: .ref (b0 + 217) :: rest)) := by
  obtain ⟨hx, hb, hr, hml, hown, hts, hlocks, hK, hSv⟩ := C
  have hP := hV.p1 (k := 217) (by decide)
  rw [cel_29 z_217] at hP
  exact va_dald (i := 0) hx hb hK.1 hP 0 3 rfl rfl (vp_in_nI (n := 0) (by decide) (by decide)) hdg kk
theorem s_28 (C : Cx p l s m args meth c G b0 own cc nL ret0) (hV : Hd G b0 V H) (hS : va_S (Ab b0) s.heap H locs) {x : Int32} (hdg : decode cc pc = .ok (.lastore, 1))
    (kk : ∀ (H1 : Heap) (locs1 : List Loc), Hd G b0 (up V 216 0 x) H1 → va_S (Ab b0) s.heap H1 locs1 → W p l e R s m args below meth c H1 locs1 cells slots Q (F0 m (pc + 1) ls rest)) : W p l e R s m args below meth c H locs cells slots Q (F0 m pc ls (.long x.toInt64 :: .int 0 :: .ref (b0 + 216) :: rest)) := by
  obtain ⟨hx, hb, hr, hml, hown, hts, hlocks, hK, hSv⟩ := C
  have h0 := hV 216 (by decide)
  rw [cel_28 z_216] at h0
  refine W.last hx hb h0 ((hK.1.2 2 _ rfl).1 1 (fun j => .long (V 216 j).toInt64)) (fun q => by cases q) (by show ¬ ((0 : Int32) < 0 ∨ (arrV _ _ _).slots.size ≤ _); rw [arrV_size]; exact nI_in (c := 0) (N := 1) (by decide) (by decide)) rfl rfl hdg fun H1 e1 z oq => ?_
  refine kk H1 _ (hV.set ?_ oq) (hS.put z oq (show b0 ≤ b0 + 216 by omega))
  rw [cel_28 z_216, up_me]
  show H1[b0 + 216]? = some (vp_cell _ _)
  rw [e1]
  rw [vp_cell_l, vp_cell_l, arrV_store]
  congr 2
  funext q
  by_cases hq : q = 0
  · subst hq
    simp [updV, upd]
    try rfl
  · have h9 : ¬ q = (0 : Int32).toNatClampNeg := hq
    simp [updV, upd, hq, h9]
theorem s_29 (C : Cx p l s m args meth c G b0 own cc nL ret0) (hV : Hd G b0 V H) (hS : va_S (Ab b0) s.heap H locs) {x : UInt64} (hdg : decode cc pc = .ok (.dastore, 1))
    (kk : ∀ (H1 : Heap) (locs1 : List Loc), Hd G b0 (up (up V 217 0 (dlo x)) 217 1 (dhi x)) H1 → va_S (Ab b0) s.heap H1 locs1 → W p l e R s m args below meth c H1 locs1 cells slots Q (F0 m (pc + 1) ls rest)) : W p l e R s m args below meth c H locs cells slots Q (F0 m pc ls (.double x :: .int 0 :: .ref (b0 + 217) :: rest)) := by
  obtain ⟨hx, hb, hr, hml, hown, hts, hlocks, hK, hSv⟩ := C
  have h0 := hV 217 (by decide)
  rw [cel_29 z_217] at h0
  refine W.dast hx hb h0 ((hK.1.2 3 _ rfl).1 1 (fun j => .double (dmk (V 217 (2 * j)) (V 217 (2 * j + 1))))) (fun q => by cases q) (by show ¬ ((0 : Int32) < 0 ∨ (arrV _ _ _).slots.size ≤ _); rw [arrV_size]; exact nI_in (c := 0) (N := 1) (by decide) (by decide)) rfl rfl hdg fun H1 e1 z oq => ?_
  refine kk H1 _ ?_ (hS.put z oq (show b0 ≤ b0 + 217 by omega))
  intro i hi
  by_cases e : i = 217
  · subst e
    rw [cel_29 z_217, up_me, up_me]
    show H1[b0 + 217]? = some (vp_cell _ _)
    rw [e1]
    rw [vp_cell_d, vp_cell_d]
    have hs : (arrV (G.2.1 3) 1 (fun j => Value.double (dmk (V 217 (2 * j)) (V 217 (2 * j + 1))))).setSlot (0 : Int32).toNatClampNeg (.double x) = arrV (G.2.1 3) 1 (fun j => Value.double (dmk (upd (upd (V 217) 0 (dlo x)) 1 (dhi x) (2 * j)) (upd (upd (V 217) 0 (dlo x)) 1 (dhi x) (2 * j + 1)))) := by
      rw [arrV_store]
      have hf : ∀ q : Nat, q < 1 → updV (fun j => Value.double (dmk (V 217 (2 * j)) (V 217 (2 * j + 1)))) (0 : Int32).toNatClampNeg (.double x) q = Value.double (dmk (upd (upd (V 217) 0 (dlo x)) 1 (dhi x) (2 * q)) (upd (upd (V 217) 0 (dlo x)) 1 (dhi x) (2 * q + 1))) := by
        intro q hq
        have hq0 : q = 0 := by omega
        subst hq0
        have e1 : upd (upd (V 217) 0 (dlo x)) 1 (dhi x) (2 * 0) = dlo x := by simp [upd]
        have e2 : upd (upd (V 217) 0 (dlo x)) 1 (dhi x) (2 * 0 + 1) = dhi x := by simp [upd]
        rw [e1, e2, dmk_bit]
        rfl
      exact arrV_ext1 hf
    exact congrArg some hs
  · have h2 : cel G b0 (up (up V 217 0 (dlo x)) 217 1 (dhi x)) i = cel G b0 V i := by
      unfold cel
      rw [up_at e, up_at e]
    rw [h2]
    exact (hV i hi).kept (oq _ (by show b0 + i ≠ b0 + 217; omega))
theorem r_lcmp (hexec : p.tables.exec = Jvm.exec) (hb : c.code = cc) {x y : Int32} (hdg : decode cc pc = .ok (.lcmp, 1)) (k : W p l e R s m args below meth c H locs cells slots Q (F0 m (pc + 1) ls (.int (lcm x y) :: rest))) : W p l e R s m args below meth c H locs cells slots Q (F0 m pc ls (.long y.toInt64 :: .long x.toInt64 :: rest)) :=
  W.lcmp hexec hb hdg k
/-! calls of the law's own methods with a handler -/
theorem run_H (C : Cx p l s m args meth c G b0 own cc nL ret0) (hV : Hd G b0 V H) (hS : va_S (Ab b0) s.heap H locs) {hh : List (Nat × Nat × Nat × Nat)} (hM : Met l y (wyH y bytes maxL ret hh) (rmx d) (va_Pc As (Iv G b0 V)) Qc 1 6 (Ab b0))
    (hl : Cond.methodLink own index y ∈ GW) (hi : Cond.static y ∈ GW) (hin : Cond.initialized y.cls ∈ GW) (hco : Cond.codeWith y bytes maxL ret hh ∈ GW) (hd : dOk y As.length)
    (hR : (rmx d).frames + 1 ≤ R.frames ∧ 8 + (maxL + 11) + (rmx d).locals ≤ R.locals) (hls : ls.size = nL) (hst : st0 = As.reverse ++ rest) (hn : (rest.map fun v => v.category).sum ≤ 8) (hdg : decode cc pc = .ok (.invokestatic index, 3)) (hcs : cells + 1 ≤ R.cells ∧ slots + 6 ≤ R.slots) :
    va_Run p l e R s m args below meth c H locs cells slots 1 6 (F0 m pc ls st0) rest (Qc As.toArray) (Ab b0) := by
  obtain ⟨hx, hb, hr, hml, hown, hts, hlocks, hK, hSv⟩ := C
  have hG : GoodIn GW (va_wsS own index y (wyH y bytes maxL ret hh)) := by
    intro w hw
    rcases List.mem_append.mp hw with h | h
    · have h9 : w ∈ GW := by
        simp only [List.mem_cons, List.not_mem_nil, or_false] at h
        rcases h with rfl | rfl | rfl
        · exact hl
        · exact hi
        · exact hin
      exact ⟨h9, good_of_word (gw_good _ h9)⟩
    · exact gi_wyH hco w h
  exact vx_runSW (As := As) (rest := rest) ⟨hx, hb, hml, hown, hts⟩ hM (vx_cwSW As.length hts hG rfl rfl rfl hd hR) ⟨fun a U g mk q => ⟨q.1, q.2.blind⟩, fun U hU hW => ⟨rfl, Iv.mk hK hSv hV hS hU hW⟩⟩ rfl rfl hls hst (lv_room hn) hdg hcs
theorem cal_h {r : Int32} (hr : va_Run p l e R s m args below meth c H locs cells slots 1 6 (F0 m pc ls st0) rest (QI G b0 r V1 a) (Ab b0)) (hS : va_S (Ab b0) s.heap H locs)
    (kk : ∀ (H1 : Heap) (locs1 : List Loc), Hd G b0 V1 H1 → va_S (Ab b0) s.heap H1 locs1 → W p l e R s m args below meth c H1 locs1 (cells + 1) (slots + 6) Q (F0 m (pc + 3) ls (.int r :: rest))) : W p l e R s m args below meth c H locs cells slots Q (F0 m pc ls st0) :=
  va_calli hr hS (fun _ _ h => h) (fun _ h => h) (fun x u t H1 locs1 ht hvm hw hB hz hk hS1 => by
    have hw : x = r := hw
    subst hw
    exact kk H1 locs1 (by rw [← ht]; exact hB.1) hS1)
theorem cal_d {r : UInt64} (hr : va_Run p l e R s m args below meth c H locs cells slots 0 0 (F0 m pc ls st0) rest (QD G b0 r V1 a) (Ab b0)) (hS : va_S (Ab b0) s.heap H locs)
    (kk : ∀ (H1 : Heap) (locs1 : List Loc), Hd G b0 V1 H1 → va_S (Ab b0) s.heap H1 locs1 → W p l e R s m args below meth c H1 locs1 cells slots Q (F0 m (pc + 3) ls (.double r :: rest))) : W p l e R s m args below meth c H locs cells slots Q (F0 m pc ls st0) :=
  va_calld hr hS (fun _ _ h => h) (fun _ h => h) (fun x u t H1 locs1 ht hvm hw hB hz hk hS1 => by
    have hw : x = r := hw
    subst hw
    exact kk H1 locs1 (by rw [← ht]; exact hB.1) hS1)
theorem cal_f {r : UInt32} (hr : va_Run p l e R s m args below meth c H locs cells slots 0 0 (F0 m pc ls st0) rest (QF G b0 r V1 a) (Ab b0)) (hS : va_S (Ab b0) s.heap H locs)
    (kk : ∀ (H1 : Heap) (locs1 : List Loc), Hd G b0 V1 H1 → va_S (Ab b0) s.heap H1 locs1 → W p l e R s m args below meth c H1 locs1 cells slots Q (F0 m (pc + 3) ls (.float r :: rest))) : W p l e R s m args below meth c H locs cells slots Q (F0 m pc ls st0) :=
  va_callf hr hS (fun _ _ h => h) (fun _ h => h) (fun x u t H1 locs1 ht hvm hw hB hz hk hS1 => by
    have hw : x = r := hw
    subst hw
    exact kk H1 locs1 (by rw [← ht]; exact hB.1) hS1)
end LR
