/-! what the law's own methods need: calls that may throw, and their handlers; costs; cells beside the objects -/
def exm {α β : Type} (r : Except Nat α) (f : α → Option β) (g : Nat → Option β) : Option β := match r with
  | .ok x => f x
  | .error n => g n
def dcm (x y : UInt64) : Int32 := Op.cmpValue (FP.dcmp x y) CmpOp.l
def fcm (x y : UInt32) : Int32 := Op.cmpValue (FP.fcmp x y) CmpOp.l
theorem xe_in {α : Type} {r : Except Nat α} {n : Nat} (h : xe r = some n) : r = .error n := by
  cases r with
  | ok x => cases h
  | error k => cases h; rfl
/-- a unit is a cell with six slots -/
def rmc (d n : Nat) : Room := { frames := d, cells := n, slots := 6 * n, locals := 60 * d }
theorem rmc_ok {d n D N maxL : Nat} (h : d + 1 ≤ D) (h2 : maxL ≤ 40) : (rmc d n).frames + 1 ≤ (rmc D N).frames ∧ 8 + (maxL + 11) + (rmc d n).locals ≤ (rmc D N).locals := by
  unfold rmc
  refine ⟨h, ?_⟩
  show 8 + (maxL + 11) + 60 * d ≤ 60 * D
  omega
theorem rmc_ok0 {d D N maxL : Nat} (h : d + 1 ≤ D) (h2 : maxL ≤ 40) : (rm d).frames + 1 ≤ (rmc D N).frames ∧ 8 + (maxL + 11) + (rm d).locals ≤ (rmc D N).locals := by
  unfold rm rmc
  refine ⟨h, ?_⟩
  show 8 + (maxL + 11) + 60 * d ≤ 60 * D
  omega
theorem rmc_cs {D N w n : Nat} (h : w + n ≤ N) : w + n ≤ (rmc D N).cells ∧ 6 * w + 6 * n ≤ (rmc D N).slots := by
  unfold rmc
  refine ⟨h, ?_⟩
  show 6 * w + 6 * n ≤ 6 * N
  omega
theorem rmc_c0 {D N w : Nat} (h : w ≤ N) : w ≤ (rmc D N).cells ∧ 6 * w ≤ (rmc D N).slots := by
  unfold rmc
  refine ⟨h, ?_⟩
  show 6 * w ≤ 6 * N
  omega
def QL (G : LG) (b0 : Nat) (r : Int64) (V : St) : Array Value → State → Outcome → State → Prop := va_Ql (fun x (_ : Unit) => x = r) (fun _ => Iv G b0 V) (Ab b0)
theorem mk_h {l : Launch} {y : MethodName} {cc : ByteArray} {nL : Nat} {ret : Option FieldType} {hh : List (Nat × Nat × Nat × Nat)} {As : List Value} {G : LG} {b0 : Nat} {V : St} {d : Nat} {Qc : Array Value → State → Outcome → State → Prop} (hy : plainFor y = true) (hn : (lg_sl As).length ≤ nL)
    (body : ∀ (p : Program) (e : Env) (s : State) (m : MethodId) (below : List Frame) (meth : Method) (c : Code), Cx p l s m As.toArray meth c G b0 y.cls cc nL ret → c.exceptionTable.toList = tableOf hh → Hd G b0 V s.heap → va_S (Ab b0) s.heap s.heap [] → ∀ ls, lv_has ls nL (lv_args 0 As) → W p l e (rmc d 1) s m As.toArray below meth c s.heap [] 0 0 (MQ below Qc As.toArray s 1 (6 * 1) (Ab b0)) (F0 m 0 ls [])) :
    Met l y (wyH y cc nL ret hh) (rmc d 1) (va_Pc As (Iv G b0 V)) Qc 1 (6 * 1) (Ab b0) := by
  refine MetFree.of_bodySF (code := cc) (maxLocals := nL) (ret := ret) hy ?_ ?_
  · intro args s m h hn9
    obtain ⟨m9, meth, c, hn8, h1, h2, h3, h4, -, h5, h6, -⟩ := Cond.codeWith_spec (atoms_spec (ws := wyH y cc nL ret hh) h _ List.mem_cons_self)
    cases hn9.symm.trans hn8
    exact ⟨meth, c, h1, h2, h3, h4, h5, h6⟩
  · intro p e s m args below meth c s₁ B hml hv _
    have hh0 : s₁.heap = s.heap := by rw [B.state]; rfl
    obtain ⟨rfl, hV, hK, hSv⟩ := hv
    have hts := atoms_spec (ws := wyH y cc nL ret hh) B.pre
    have ht := vx_table (x := y) B (hts _ List.mem_cons_self)
    have w := body p e s m below meth c ⟨B.exec, B.bytes, B.returns, hml, findClass_of_methodNamed B.named, fun w hw => hts w (List.mem_cons_of_mem _ hw), B.notSynchronized, hK, hSv⟩ ht hV va_S.rf _ (lv_entry As hn)
    rw [← lg_entry_eq] at w
    obtain ⟨t, a1, o, b1, b2, b3⟩ := w s₁ hh0 (Stand.of_body B)
    exact ⟨t, o, a1, b1, b2, ⟨b3.1, b3.2⟩⟩
theorem mk_c {l : Launch} {y : MethodName} {cc : ByteArray} {nL : Nat} {ret : Option FieldType} {As : List Value} {G : LG} {b0 : Nat} {V : St} {d n : Nat} {Qc : Array Value → State → Outcome → State → Prop} (hy : plainFor y = true) (hn : (lg_sl As).length ≤ nL)
    (body : ∀ (p : Program) (e : Env) (s : State) (m : MethodId) (below : List Frame) (meth : Method) (c : Code), Cx p l s m As.toArray meth c G b0 y.cls cc nL ret → Hd G b0 V s.heap → va_S (Ab b0) s.heap s.heap [] → ∀ ls, lv_has ls nL (lv_args 0 As) → W p l e (rmc d n) s m As.toArray below meth c s.heap [] 0 (6 * 0) (MQ below Qc As.toArray s n (6 * n) (Ab b0)) (F0 m 0 ls [])) :
    Met l y (wy y cc nL ret) (rmc d n) (va_Pc As (Iv G b0 V)) Qc n (6 * n) (Ab b0) := by
  refine MetFree.of_bodySF (code := cc) (maxLocals := nL) (ret := ret) hy ?_ ?_
  · intro args s m h hn9
    obtain ⟨meth, c, h1, h2, h3, h4, h5, h6, -, -⟩ := Cond.code_spec hn9 (atoms_spec (ws := wy y cc nL ret) h _ List.mem_cons_self)
    exact ⟨meth, c, h1, h2, h3, h4, h5, h6⟩
  · intro p e s m args below meth c s₁ B hml hv _
    have hh0 : s₁.heap = s.heap := by rw [B.state]; rfl
    obtain ⟨rfl, hV, hK, hSv⟩ := hv
    have hts := atoms_spec (ws := wy y cc nL ret) B.pre
    have w := body p e s m below meth c ⟨B.exec, B.bytes, B.returns, hml, findClass_of_methodNamed B.named, fun w hw => hts w (List.mem_cons_of_mem _ hw), B.notSynchronized, hK, hSv⟩ hV va_S.rf _ (lv_entry As hn)
    rw [← lg_entry_eq] at w
    obtain ⟨t, a1, o, b1, b2, b3⟩ := w s₁ hh0 (Stand.of_body B)
    exact ⟨t, o, a1, b1, b2, ⟨b3.1, b3.2⟩⟩
/-! cells beside the objects -/
def xg (G : LG) (a : Nat) (x : va_E) : LG := (G.1, G.2.1, G.2.2.1, (a, x) :: G.2.2.2.1, G.2.2.2.2)
def ai (G : LG) (n : Nat) (f : Nat → Int32) : va_E := .inl (G.2.1 0, n, .inl f)
def al (G : LG) (n : Nat) (f : Nat → Int64) : va_E := .inl (G.2.1 2, n, .inr (.inl f))
def ab (G : LG) (n : Nat) (f : Nat → Int32) : va_E := .inl (G.2.1 3, n, .inl f)
def Fr (G : LG) (b0 a : Nat) : Prop := b0 + 208 ≤ a ∧ ∀ x ∈ G.2.2.2.1, x.1 ≠ a
theorem cel_x (G : LG) (a : Nat) (x : va_E) (b0 : Nat) (V : St) (k : Nat) : cel (xg G a x) b0 V k = cel G b0 V k := rfl
theorem Hd.un {G : LG} {a : Nat} {x : va_E} {b0 : Nat} {V : St} {H : Heap} (h : Hd (xg G a x) b0 V H) : Hd G b0 V H := ⟨fun k hk => h.1 k hk, fun y hy => h.2.1 y (List.mem_cons_of_mem _ hy), fun y hy => h.2.2 y (List.mem_cons_of_mem _ hy)⟩
theorem Hd.add {G : LG} {a : Nat} {x : va_E} {b0 : Nat} {V : St} {H : Heap} (h : Hd G b0 V H) (ha : b0 + 208 ≤ a) (hx : va_at G.1 vwCl (a, x) H) : Hd (xg G a x) b0 V H := by
  refine ⟨fun k hk => h.1 k hk, fun y hy => ?_, fun y hy => ?_⟩
  · rcases List.mem_cons.mp hy with rfl | hy
    · exact hx
    · exact h.2.1 y hy
  · rcases List.mem_cons.mp hy with rfl | hy
    · exact Or.inr ha
    · exact h.2.2 y hy
theorem Hd.top {G : LG} {a : Nat} {x : va_E} {b0 : Nat} {V : St} {H : Heap} (h : Hd (xg G a x) b0 V H) : va_at G.1 vwCl (a, x) H := h.2.1 (a, x) List.mem_cons_self
theorem Hd.topP {G : LG} {a : Nat} {x : va_E} {b0 : Nat} {V : St} {H : Heap} (h : Hd (xg G a x) b0 V H) : va_P G.1 vwCl [(a, x)] H := by
  intro i q hq
  cases i with
  | zero =>
    rw [List.getElem?_cons_zero] at hq
    cases hq
    exact h.top
  | succ i => simp at hq
theorem Hd.reset {G : LG} {a : Nat} {x x2 : va_E} {b0 : Nat} {V : St} {H H1 : Heap} (h : Hd (xg G a x) b0 V H) (hF : Fr G b0 a) (h1 : va_at G.1 vwCl (a, x2) H1) (oq : ∀ q : Nat, q ≠ a → H1[q]? = H[q]?) : Hd (xg G a x2) b0 V H1 := by
  have h0 := h.un
  refine Hd.add ⟨fun k hk => (h0.1 k hk).kept (oq _ ?_), fun y hy => (h0.2.1 y hy).kept (oq _ (hF.2 y hy)), h0.2.2⟩ hF.1 h1
  show b0 + k ≠ a
  have := hF.1
  omega
theorem Hd.fresh {G : LG} {b0 : Nat} {V : St} {H : Heap} (h : Hd G b0 V H) : Fr G b0 H.size := by
  refine ⟨?_, fun y hy => ?_⟩
  · have h1 : b0 + 207 < H.size := (h.1 207 (by decide)).lt
    omega
  · have := (h.2.1 y hy).lt
    omega
theorem Cx.x {p : Program} {l : Launch} {s : State} {m : MethodId} {args : Array Value} {meth : Method} {c : Code} {G : LG} {b0 : Nat} {own : String} {cc : ByteArray} {nL : Nat} {ret : Option FieldType} {a : Nat} {x : va_E} (h : Cx p l s m args meth c G b0 own cc nL ret) : Cx p l s m args meth c (xg G a x) b0 own cc nL ret := h
theorem Kv.x {G : LG} {a : Nat} {x : va_E} {s : State} (h : Kv G s) : Kv (xg G a x) s := h
section LR
variable {p : Program} {l : Launch} {e : Env} {R : Room} {s : State} {m : MethodId} {args : Array Value} {below : List Frame} {meth : Method} {c : Code} {H : Heap} {locs : List Loc} {cells slots : Nat} {Q : State → Prop}
variable {cc : ByteArray} {pc : Nat} {ls : Array Slot} {rest st0 : List Value} {G : LG} {b0 : Nat} {V V1 : St} {own : String} {nL index : Nat} {ret0 : Option FieldType} {a : Array Value}
variable {y : MethodName} {bytes : ByteArray} {maxL d n : Nat} {ret : Option FieldType} {As : List Value} {Qc : Array Value → State → Outcome → State → Prop}
theorem fin_ic (C : Cx p l s m args meth c G b0 own cc nL (some .int)) (hV : Hd G b0 V H) (hS : va_S (Ab b0) s.heap H locs) {w N : Nat} (hw : w ≤ N) {v r : Int32} (hv : v = r) (hdg : decode cc pc = .ok (.ireturn, 1)) : W p l e R s m args below meth c H locs w (6 * w) (MQ below (QI G b0 r V) args s N (6 * N) (Ab b0)) (F0 m pc ls [.int v]) := by
  obtain ⟨hx, hb, hr, -, -, -, hlocks, hK, hSv⟩ := C
  exact W.widen hw (Nat.mul_le_mul_left 6 hw) (W.iret (v := v) hx hb hr (fun t ht hW => ⟨⟨v, (), rfl, hv, Iv.mk hK hSv hV hS ht hW⟩, hS.F ht⟩) hS.2.2 hdg)
theorem fin_zc (C : Cx p l s m args meth c G b0 own cc nL (some .boolean)) (hV : Hd G b0 V H) (hS : va_S (Ab b0) s.heap H locs) {w N : Nat} (hw : w ≤ N) {v r : Int32} (hn : vp_nar .boolean v = v) (hv : v = r) (hdg : decode cc pc = .ok (.ireturn, 1)) : W p l e R s m args below meth c H locs w (6 * w) (MQ below (QI G b0 r V) args s N (6 * N) (Ab b0)) (F0 m pc ls [.int v]) := by
  obtain ⟨hx, hb, hr, -, -, -, hlocks, hK, hSv⟩ := C
  exact W.widen hw (Nat.mul_le_mul_left 6 hw) (W.zret (v := v) hx hb hr (nar_z hn) (fun t ht hW => ⟨⟨v, (), rfl, hv, Iv.mk hK hSv hV hS ht hW⟩, hS.F ht⟩) hS.2.2 hdg)
theorem fin_lc (C : Cx p l s m args meth c G b0 own cc nL (some .long)) (hV : Hd G b0 V H) (hS : va_S (Ab b0) s.heap H locs) {w N : Nat} (hw : w ≤ N) {v r : Int64} (hv : v = r) (hdg : decode cc pc = .ok (.lreturn, 1)) : W p l e R s m args below meth c H locs w (6 * w) (MQ below (QL G b0 r V) args s N (6 * N) (Ab b0)) (F0 m pc ls [.long v]) := by
  obtain ⟨hx, hb, hr, -, -, -, hlocks, hK, hSv⟩ := C
  exact W.widen hw (Nat.mul_le_mul_left 6 hw) (W.lret (v := v) hx hb hr (fun t ht hW => ⟨⟨v, (), rfl, hv, Iv.mk hK hSv hV hS ht hW⟩, hS.F ht⟩) hS.2.2 hdg)
theorem fin_dc (C : Cx p l s m args meth c G b0 own cc nL (some .double)) (hV : Hd G b0 V H) (hS : va_S (Ab b0) s.heap H locs) {w N : Nat} (hw : w ≤ N) {v r : UInt64} (hv : v = r) (hdg : decode cc pc = .ok (.dreturn, 1)) : W p l e R s m args below meth c H locs w (6 * w) (MQ below (QD G b0 r V) args s N (6 * N) (Ab b0)) (F0 m pc ls [.double v]) := by
  obtain ⟨hx, hb, hr, -, -, -, hlocks, hK, hSv⟩ := C
  exact W.widen hw (Nat.mul_le_mul_left 6 hw) (W.dret (v := v) hx hb hr (fun t ht hW => ⟨⟨v, (), rfl, hv, Iv.mk hK hSv hV hS ht hW⟩, hS.F ht⟩) hS.2.2 hdg)
theorem fin_fc (C : Cx p l s m args meth c G b0 own cc nL (some .float)) (hV : Hd G b0 V H) (hS : va_S (Ab b0) s.heap H locs) {w N : Nat} (hw : w ≤ N) {v r : UInt32} (hv : v = r) (hdg : decode cc pc = .ok (.freturn, 1)) : W p l e R s m args below meth c H locs w (6 * w) (MQ below (QF G b0 r V) args s N (6 * N) (Ab b0)) (F0 m pc ls [.float v]) := by
  obtain ⟨hx, hb, hr, -, -, -, hlocks, hK, hSv⟩ := C
  exact W.widen hw (Nat.mul_le_mul_left 6 hw) (W.fret (v := v) hx hb hr (fun t ht hW => ⟨⟨v, (), rfl, hv, Iv.mk hK hSv hV hS ht hW⟩, hS.F ht⟩) hS.2.2 hdg)
theorem gi_V (hl : Cond.methodLink own index y ∈ GW) (hi : Cond.instanceMethod y ∈ GW) (hse : Cond.selects y.cls y y ∈ GW) (hin : Cond.initialized y.cls ∈ GW) (hco : Cond.code y bytes maxL ret ∈ GW) : GoodIn GW (wsV own index y.cls y (wy y bytes maxL ret)) := by
  intro w hw
  rcases List.mem_append.mp hw with h | h
  · have h9 : w ∈ GW := by
      simp only [List.mem_cons, List.not_mem_nil, or_false] at h
      rcases h with rfl | rfl | rfl | rfl
      · exact hl
      · exact hi
      · exact hse
      · exact hin
    exact ⟨h9, good_of_word (gw_good _ h9)⟩
  · exact gi_wy hco w h
theorem rmx_ok3 {d D N maxL : Nat} (h : d + 1 ≤ D) (h2 : maxL ≤ 40) : (rmx d).frames + 1 ≤ (rmc D N).frames ∧ 8 + (maxL + 11) + (rmx d).locals ≤ (rmc D N).locals := by
  unfold rmx rmc
  refine ⟨h, ?_⟩
  show 8 + (maxL + 11) + 60 * d ≤ 60 * D
  omega
theorem xcal_i {r : Except Nat Int32} (C : Cx p l s m args meth c G b0 own cc nL ret0) (hV : Hd G b0 V H) (hS : va_S (Ab b0) s.heap H locs) {b : Nat} (hM : vx_Met l y (wy y bytes maxL ret) (rmx d) (va_Pc (.ref b :: As) (Iv G b0 V)) (QIx G b0 r V1) (XX G b0 (xe r) V1) 1 6 (Ab b0))
    (hrv : ∃ cellB : Cell, H[b]? = some cellB ∧ cellB.vm.isStatics = false ∧ s.vm.findClass y.cls = some cellB.cls) (hl : Cond.methodLink own index y ∈ GW) (hi : Cond.instanceMethod y ∈ GW) (hse : Cond.selects y.cls y y ∈ GW) (hin : Cond.initialized y.cls ∈ GW) (hco : Cond.code y bytes maxL ret ∈ GW) (hd : dOk y As.length)
    (hR : (rmx d).frames + 1 ≤ R.frames ∧ 8 + (maxL + 11) + (rmx d).locals ≤ R.locals) (hls : ls.size = nL) (hst : st0 = As.reverse ++ .ref b :: rest) (hn : (rest.map fun v => v.category).sum ≤ 8) (hdg : decode cc pc = .ok (.invokevirtual index, 3)) (hcs : cells + 1 ≤ R.cells ∧ slots + 6 ≤ R.slots)
    (kx : ∀ (n : Nat) (E : String) (ce : Cell) (q9 : Addr) (H1 : Heap) (locs1 : List Loc), r = .error n → exL[n]? = some E → Hd G b0 V1 H1 → va_S (Ab b0) s.heap H1 locs1 → H1[q9]? = some ce → ce.vm = .none → s.vm.findClass E = some ce.cls → vx_W p l e R s m args below meth c H1 locs1 (cells + 1) (slots + 6) Q (F0 m pc ls rest) q9)
    (kk : ∀ (x : Int32) (H1 : Heap) (locs1 : List Loc), r = .ok x → Hd G b0 V1 H1 → va_S (Ab b0) s.heap H1 locs1 → W p l e R s m args below meth c H1 locs1 (cells + 1) (slots + 6) Q (F0 m (pc + 3) ls (.int x :: rest))) : W p l e R s m args below meth c H locs cells slots Q (F0 m pc ls st0) := by
  obtain ⟨hx, hb, hr, hml, hown, hts, hlocks, hK, hSv⟩ := C
  refine vx_calli (vx_runV (As := As) (rest := rest) ⟨hx, hb, hml, hown, hts⟩ hM (cwV As.length hts (gi_V hl hi hse hin hco) rfl rfl rfl ⟨rfl, hd⟩ hR) ⟨fun a U g mk q => ⟨q.1, q.2.blind⟩, hrv, fun U hU hW => ⟨rfl, Iv.mk hK hSv hV hS hU hW⟩⟩ rfl rfl hls hst (lv_room hn) hdg hcs) hS (fun _ _ h => h) (fun _ h => h) (fun _ _ h => h) (fun E ce q9 u t H1 locs1 ht hal hp hB hz hk hS1 h1 h2 h3 => ?_) (fun x u t H1 locs1 ht hal hw hB hz hk hS1 => ?_)
  · obtain ⟨⟨n, e1, e2⟩, hB2⟩ := hB
    exact kx n E ce q9 H1 locs1 (xe_in e1) e2 (by rw [← ht]; exact hB2) hS1 h1 h2 h3
  · exact kk x H1 locs1 hw (by rw [← ht]; exact hB.1) hS1
theorem xcal_d {r : Except Nat UInt64} (C : Cx p l s m args meth c G b0 own cc nL ret0) (hV : Hd G b0 V H) (hS : va_S (Ab b0) s.heap H locs) {b : Nat} (hM : vx_Met l y (wy y bytes maxL ret) (rmx d) (va_Pc (.ref b :: As) (Iv G b0 V)) (QDx G b0 r V1) (XX G b0 (xe r) V1) 1 6 (Ab b0))
    (hrv : ∃ cellB : Cell, H[b]? = some cellB ∧ cellB.vm.isStatics = false ∧ s.vm.findClass y.cls = some cellB.cls) (hl : Cond.methodLink own index y ∈ GW) (hi : Cond.instanceMethod y ∈ GW) (hse : Cond.selects y.cls y y ∈ GW) (hin : Cond.initialized y.cls ∈ GW) (hco : Cond.code y bytes maxL ret ∈ GW) (hd : dOk y As.length)
    (hR : (rmx d).frames + 1 ≤ R.frames ∧ 8 + (maxL + 11) + (rmx d).locals ≤ R.locals) (hls : ls.size = nL) (hst : st0 = As.reverse ++ .ref b :: rest) (hn : (rest.map fun v => v.category).sum ≤ 8) (hdg : decode cc pc = .ok (.invokevirtual index, 3)) (hcs : cells + 1 ≤ R.cells ∧ slots + 6 ≤ R.slots)
    (kx : ∀ (n : Nat) (E : String) (ce : Cell) (q9 : Addr) (H1 : Heap) (locs1 : List Loc), r = .error n → exL[n]? = some E → Hd G b0 V1 H1 → va_S (Ab b0) s.heap H1 locs1 → H1[q9]? = some ce → ce.vm = .none → s.vm.findClass E = some ce.cls → vx_W p l e R s m args below meth c H1 locs1 (cells + 1) (slots + 6) Q (F0 m pc ls rest) q9)
    (kk : ∀ (x : UInt64) (H1 : Heap) (locs1 : List Loc), r = .ok x → Hd G b0 V1 H1 → va_S (Ab b0) s.heap H1 locs1 → W p l e R s m args below meth c H1 locs1 (cells + 1) (slots + 6) Q (F0 m (pc + 3) ls (.double x :: rest))) : W p l e R s m args below meth c H locs cells slots Q (F0 m pc ls st0) := by
  obtain ⟨hx, hb, hr, hml, hown, hts, hlocks, hK, hSv⟩ := C
  refine vx_calld (vx_runV (As := As) (rest := rest) ⟨hx, hb, hml, hown, hts⟩ hM (cwV As.length hts (gi_V hl hi hse hin hco) rfl rfl rfl ⟨rfl, hd⟩ hR) ⟨fun a U g mk q => ⟨q.1, q.2.blind⟩, hrv, fun U hU hW => ⟨rfl, Iv.mk hK hSv hV hS hU hW⟩⟩ rfl rfl hls hst (lv_room hn) hdg hcs) hS (fun _ _ h => h) (fun _ h => h) (fun _ _ h => h) (fun E ce q9 u t H1 locs1 ht hal hp hB hz hk hS1 h1 h2 h3 => ?_) (fun x u t H1 locs1 ht hal hw hB hz hk hS1 => ?_)
  · obtain ⟨⟨n, e1, e2⟩, hB2⟩ := hB
    exact kx n E ce q9 H1 locs1 (xe_in e1) e2 (by rw [← ht]; exact hB2) hS1 h1 h2 h3
  · exact kk x H1 locs1 hw (by rw [← ht]; exact hB.1) hS1
theorem xcal_f {r : Except Nat UInt32} (C : Cx p l s m args meth c G b0 own cc nL ret0) (hV : Hd G b0 V H) (hS : va_S (Ab b0) s.heap H locs) {b : Nat} (hM : vx_Met l y (wy y bytes maxL ret) (rmx d) (va_Pc (.ref b :: As) (Iv G b0 V)) (QFx G b0 r V1) (XX G b0 (xe r) V1) 1 6 (Ab b0))
    (hrv : ∃ cellB : Cell, H[b]? = some cellB ∧ cellB.vm.isStatics = false ∧ s.vm.findClass y.cls = some cellB.cls) (hl : Cond.methodLink own index y ∈ GW) (hi : Cond.instanceMethod y ∈ GW) (hse : Cond.selects y.cls y y ∈ GW) (hin : Cond.initialized y.cls ∈ GW) (hco : Cond.code y bytes maxL ret ∈ GW) (hd : dOk y As.length)
    (hR : (rmx d).frames + 1 ≤ R.frames ∧ 8 + (maxL + 11) + (rmx d).locals ≤ R.locals) (hls : ls.size = nL) (hst : st0 = As.reverse ++ .ref b :: rest) (hn : (rest.map fun v => v.category).sum ≤ 8) (hdg : decode cc pc = .ok (.invokevirtual index, 3)) (hcs : cells + 1 ≤ R.cells ∧ slots + 6 ≤ R.slots)
    (kx : ∀ (n : Nat) (E : String) (ce : Cell) (q9 : Addr) (H1 : Heap) (locs1 : List Loc), r = .error n → exL[n]? = some E → Hd G b0 V1 H1 → va_S (Ab b0) s.heap H1 locs1 → H1[q9]? = some ce → ce.vm = .none → s.vm.findClass E = some ce.cls → vx_W p l e R s m args below meth c H1 locs1 (cells + 1) (slots + 6) Q (F0 m pc ls rest) q9)
    (kk : ∀ (x : UInt32) (H1 : Heap) (locs1 : List Loc), r = .ok x → Hd G b0 V1 H1 → va_S (Ab b0) s.heap H1 locs1 → W p l e R s m args below meth c H1 locs1 (cells + 1) (slots + 6) Q (F0 m (pc + 3) ls (.float x :: rest))) : W p l e R s m args below meth c H locs cells slots Q (F0 m pc ls st0) := by
  obtain ⟨hx, hb, hr, hml, hown, hts, hlocks, hK, hSv⟩ := C
  refine vx_callf (vx_runV (As := As) (rest := rest) ⟨hx, hb, hml, hown, hts⟩ hM (cwV As.length hts (gi_V hl hi hse hin hco) rfl rfl rfl ⟨rfl, hd⟩ hR) ⟨fun a U g mk q => ⟨q.1, q.2.blind⟩, hrv, fun U hU hW => ⟨rfl, Iv.mk hK hSv hV hS hU hW⟩⟩ rfl rfl hls hst (lv_room hn) hdg hcs) hS (fun _ _ h => h) (fun _ h => h) (fun _ _ h => h) (fun E ce q9 u t H1 locs1 ht hal hp hB hz hk hS1 h1 h2 h3 => ?_) (fun x u t H1 locs1 ht hal hw hB hz hk hS1 => ?_)
  · obtain ⟨⟨n, e1, e2⟩, hB2⟩ := hB
    exact kx n E ce q9 H1 locs1 (xe_in e1) e2 (by rw [← ht]; exact hB2) hS1 h1 h2 h3
  · exact kk x H1 locs1 hw (by rw [← ht]; exact hB.1) hS1
/-! rows on the cells beside the objects -/
theorem x_iald {n j a : Nat} {i : Int32} {A : Nat → Int32} (C : Cx p l s m args meth c G b0 own cc nL ret0) (hV : Hd (xg G a (ai G n A)) b0 V H) (hi : ix i n = some j) (hdg : decode cc pc = .ok (.iaload, 1))
    (kk : W p l e R s m args below meth c H locs cells slots Q (F0 m (pc + 1) ls (.int (A j) :: rest))) : W p l e R s m args below meth c H locs cells slots Q (F0 m pc ls (.int i :: .ref a :: rest)) := by
  obtain ⟨hx, hb, hr, hml, hown, hts, hlocks, hK, hSv⟩ := C
  obtain ⟨h1, h2, -⟩ := ix_in hi
  subst h2
  exact va_iald hx hb hK.1 hV.topP 0 0 rfl rfl h1 hdg kk
theorem x_lald {n j a : Nat} {i : Int32} {A : Nat → Int64} (C : Cx p l s m args meth c G b0 own cc nL ret0) (hV : Hd (xg G a (al G n A)) b0 V H) (hi : ix i n = some j) (hdg : decode cc pc = .ok (.laload, 1))
    (kk : W p l e R s m args below meth c H locs cells slots Q (F0 m (pc + 1) ls (.long (A j) :: rest))) : W p l e R s m args below meth c H locs cells slots Q (F0 m pc ls (.int i :: .ref a :: rest)) := by
  obtain ⟨hx, hb, hr, hml, hown, hts, hlocks, hK, hSv⟩ := C
  obtain ⟨h1, h2, -⟩ := ix_in hi
  subst h2
  exact va_lald hx hb hK.1 hV.topP 0 2 rfl rfl h1 hdg kk
def updA {α : Type} (f : Nat → α) (j : Nat) (x : α) : Nat → α := fun q => if q = j then x else f q
theorem x_iast {n j a : Nat} {i x : Int32} {A : Nat → Int32} (C : Cx p l s m args meth c G b0 own cc nL ret0) (hV : Hd (xg G a (ai G n A)) b0 V H) (hF : Fr G b0 a) (hS : va_S (Ab b0) s.heap H locs) (hi : ix i n = some j) (hdg : decode cc pc = .ok (.iastore, 1))
    (kk : ∀ (H1 : Heap) (locs1 : List Loc), Hd (xg G a (ai G n (updA A j x))) b0 V H1 → va_S (Ab b0) s.heap H1 locs1 → W p l e R s m args below meth c H1 locs1 cells slots Q (F0 m (pc + 1) ls rest)) : W p l e R s m args below meth c H locs cells slots Q (F0 m pc ls (.int x :: .int i :: .ref a :: rest)) := by
  obtain ⟨hx, hb, hr, hml, hown, hts, hlocks, hK, hSv⟩ := C
  obtain ⟨h1, h2, h3⟩ := ix_in hi
  have h0 : H[a]? = some (arrV (G.2.1 0) n (fun j => .int (A j))) := hV.top
  refine W.iast hx hb h0 ((hK.1.2 0 _ rfl).1 n (fun j => .int (A j))) (fun q => by cases q) (by show ¬ (i < 0 ∨ (arrV _ _ _).slots.size ≤ _); rw [arrV_size]; exact h1) rfl rfl hdg fun H1 e1 z oq => ?_
  refine kk H1 _ (hV.reset hF ?_ oq) (hS.put z oq (show b0 ≤ a by have := hF.1; omega))
  show H1[a]? = some (arrV (G.2.1 0) n (fun q => .int (updA A j x q)))
  rw [e1, h2, arrV_store]
  congr 2
  funext q
  by_cases hq : q = j
  · subst hq
    simp [updV, updA]
  · simp [updV, updA, hq]
theorem x_last {n j a : Nat} {i : Int32} {x : Int64} {A : Nat → Int64} (C : Cx p l s m args meth c G b0 own cc nL ret0) (hV : Hd (xg G a (al G n A)) b0 V H) (hF : Fr G b0 a) (hS : va_S (Ab b0) s.heap H locs) (hi : ix i n = some j) (hdg : decode cc pc = .ok (.lastore, 1))
    (kk : ∀ (H1 : Heap) (locs1 : List Loc), Hd (xg G a (al G n (updA A j x))) b0 V H1 → va_S (Ab b0) s.heap H1 locs1 → W p l e R s m args below meth c H1 locs1 cells slots Q (F0 m (pc + 1) ls rest)) : W p l e R s m args below meth c H locs cells slots Q (F0 m pc ls (.long x :: .int i :: .ref a :: rest)) := by
  obtain ⟨hx, hb, hr, hml, hown, hts, hlocks, hK, hSv⟩ := C
  obtain ⟨h1, h2, h3⟩ := ix_in hi
  have h0 : H[a]? = some (arrV (G.2.1 2) n (fun j => .long (A j))) := hV.top
  refine W.last hx hb h0 ((hK.1.2 2 _ rfl).1 n (fun j => .long (A j))) (fun q => by cases q) (by show ¬ (i < 0 ∨ (arrV _ _ _).slots.size ≤ _); rw [arrV_size]; exact h1) rfl rfl hdg fun H1 e1 z oq => ?_
  refine kk H1 _ (hV.reset hF ?_ oq) (hS.put z oq (show b0 ≤ a by have := hF.1; omega))
  show H1[a]? = some (arrV (G.2.1 2) n (fun q => .long (updA A j x q)))
  rw [e1, h2, arrV_store]
  congr 2
  funext q
  by_cases hq : q = j
  · subst hq
    simp [updV, updA]
  · simp [updV, updA, hq]
theorem x_newi {w u N' : Nat} {n : Int32} (C : Cx p l s m args meth c G b0 own cc nL ret0) (hV : Hd G b0 V H) (hS : va_S (Ab b0) s.heap H locs) (hn : ¬ n < 0) (hN : n.toNatClampNeg = N') (hby : N' * 4 ≤ 536870912) (hu : 1 ≤ u ∧ N' ≤ 6 * u) (hcs : w + u ≤ R.cells ∧ 6 * w + 6 * u ≤ R.slots) (harr : Cond.arrayClass .int ∈ GW) (hdg : decode cc pc = .ok (.newarray .int, 2))
    (kk : ∀ (a : Nat) (H1 : Heap), Fr G b0 a → Hd (xg G a (ai G N' (fun _ => 0))) b0 V H1 → va_S (Ab b0) s.heap H1 locs → W p l e R s m args below meth c H1 locs (w + u) (6 * (w + u)) Q (F0 m (pc + 2) ls (.ref a :: rest))) : W p l e R s m args below meth c H locs w (6 * w) Q (F0 m pc ls (.int n :: rest)) := by
  obtain ⟨hx, hb, hr, hml, hown, hts, hlocks, hK, hSv⟩ := C
  have hc : w + 1 ≤ R.cells := by omega
  have hs : 6 * w + N' ≤ R.slots := by omega
  refine va_newaK hx hb (atype := .int) (hts _ harr) rfl hdg rfl hn hN hby hc hs rfl fun H1 cA e1 z1 o1 hAr hNm => ?_
  have hcA : cA = G.2.1 0 := Option.some.inj (hNm.symm.trans (hK.1.2 0 _ rfl).2)
  subst hcA
  have hz : H.size ≤ H1.size := by omega
  refine W.widen (show w + 1 ≤ w + u by omega) (show 6 * w + N' ≤ 6 * (w + u) by omega) (kk H.size H1 hV.fresh ((hV.kept o1).add hV.fresh.1 e1) ⟨Nat.le_trans hS.1 hz, fun q h1 h2 => (o1 q (Nat.lt_of_lt_of_le h1 hS.1)).trans (hS.2.1 q h1 h2), hS.2.2⟩)
theorem x_newl {w u N' : Nat} {n : Int32} (C : Cx p l s m args meth c G b0 own cc nL ret0) (hV : Hd G b0 V H) (hS : va_S (Ab b0) s.heap H locs) (hn : ¬ n < 0) (hN : n.toNatClampNeg = N') (hby : N' * 8 ≤ 536870912) (hu : 1 ≤ u ∧ N' ≤ 6 * u) (hcs : w + u ≤ R.cells ∧ 6 * w + 6 * u ≤ R.slots) (harr : Cond.arrayClass .long ∈ GW) (hdg : decode cc pc = .ok (.newarray .long, 2))
    (kk : ∀ (a : Nat) (H1 : Heap), Fr G b0 a → Hd (xg G a (al G N' (fun _ => 0))) b0 V H1 → va_S (Ab b0) s.heap H1 locs → W p l e R s m args below meth c H1 locs (w + u) (6 * (w + u)) Q (F0 m (pc + 2) ls (.ref a :: rest))) : W p l e R s m args below meth c H locs w (6 * w) Q (F0 m pc ls (.int n :: rest)) := by
  obtain ⟨hx, hb, hr, hml, hown, hts, hlocks, hK, hSv⟩ := C
  have hc : w + 1 ≤ R.cells := by omega
  have hs : 6 * w + N' ≤ R.slots := by omega
  refine va_newaK hx hb (atype := .long) (hts _ harr) rfl hdg rfl hn hN hby hc hs rfl fun H1 cA e1 z1 o1 hAr hNm => ?_
  have hcA : cA = G.2.1 2 := Option.some.inj (hNm.symm.trans (hK.1.2 2 _ rfl).2)
  subst hcA
  have hz : H.size ≤ H1.size := by omega
  refine W.widen (show w + 1 ≤ w + u by omega) (show 6 * w + N' ≤ 6 * (w + u) by omega) (kk H.size H1 hV.fresh ((hV.kept o1).add hV.fresh.1 e1) ⟨Nat.le_trans hS.1 hz, fun q h1 h2 => (o1 q (Nat.lt_of_lt_of_le h1 hS.1)).trans (hS.2.1 q h1 h2), hS.2.2⟩)
theorem x_sld {n j : Nat} {i : Int32} (C : Cx p l s m args meth c G b0 own cc nL ret0) (hS : va_S (Ab b0) s.heap H locs) (hi : ix i G.2.2.2.2.2.1 = some j) (hdg : decode cc pc = .ok (.iaload, 1))
    (kk : W p l e R s m args below meth c H locs cells slots Q (F0 m (pc + 1) ls (.int (G.2.2.2.2.2.2 j) :: rest))) : W p l e R s m args below meth c H locs cells slots Q (F0 m pc ls (.int i :: .ref G.2.2.2.2.1 :: rest)) := by
  obtain ⟨hx, hb, hr, hml, hown, hts, hlocks, hK, hSv⟩ := C
  obtain ⟨h1, h2, -⟩ := ix_in hi
  subst h2
  have hX := hSv.2.2.2.2.2.1
  exact va_sld hx hb hX (by obtain ⟨scr, z, -⟩ := hX; exact (Array.getElem?_eq_some_iff.mp z).1) (Nat.not_le.mpr hSv.2.2.2.2.2.2.1) hS h1 hdg kk
theorem x_slen (C : Cx p l s m args meth c G b0 own cc nL ret0) (hS : va_S (Ab b0) s.heap H locs) (hdg : decode cc pc = .ok (.arraylength, 1))
    (kk : W p l e R s m args below meth c H locs cells slots Q (F0 m (pc + 1) ls (.int (Int32.ofNat G.2.2.2.2.2.1) :: rest))) : W p l e R s m args below meth c H locs cells slots Q (F0 m pc ls (.ref G.2.2.2.2.1 :: rest)) := by
  obtain ⟨hx, hb, hr, hml, hown, hts, hlocks, hK, hSv⟩ := C
  have hX := hSv.2.2.2.2.2.1
  exact va_slen hx hb hX (by obtain ⟨scr, z, -⟩ := hX; exact (Array.getElem?_eq_some_iff.mp z).1) (Nat.not_le.mpr hSv.2.2.2.2.2.2.1) hS hdg kk
/-! calls of the law's own methods -/
theorem run_HC {w k : Nat} (C : Cx p l s m args meth c G b0 own cc nL ret0) (hV : Hd G b0 V H) (hS : va_S (Ab b0) s.heap H locs) {hh : List (Nat × Nat × Nat × Nat)} (hM : Met l y (wyH y bytes maxL ret hh) (rmc d k) (va_Pc As (Iv G b0 V)) Qc k (6 * k) (Ab b0))
    (hl : Cond.methodLink own index y ∈ GW) (hi : Cond.static y ∈ GW) (hin : Cond.initialized y.cls ∈ GW) (hco : Cond.codeWith y bytes maxL ret hh ∈ GW) (hd : dOk y As.length)
    (hR : (rmc d k).frames + 1 ≤ R.frames ∧ 8 + (maxL + 11) + (rmc d k).locals ≤ R.locals) (hls : ls.size = nL) (hst : st0 = As.reverse ++ rest) (hn : (rest.map fun v => v.category).sum ≤ 8) (hdg : decode cc pc = .ok (.invokestatic index, 3)) (hcs : w + k ≤ R.cells ∧ 6 * w + 6 * k ≤ R.slots) :
    va_Run p l e R s m args below meth c H locs w (6 * w) k (6 * k) (F0 m pc ls st0) rest (Qc As.toArray) (Ab b0) := by
  obtain ⟨hx, hb, hr, hml, hown, hts, hlocks, hK, hSv⟩ := C
  have hG : GoodIn GW (va_wsS own index y (wyH y bytes maxL ret hh)) := by
    intro w hw
    rcases List.mem_append.mp hw with h | h
    · have h9 : w ∈ GW := by
        simp only [List.mem_cons, List.not_mem_nil, or_false] at h
        rcases h with rfl | rfl | rfl
        · exact hl
        · exact hi
        · exact hin
      exact ⟨h9, good_of_word (gw_good _ h9)⟩
    · exact gi_wyH hco w h
  exact vx_runSW (As := As) (rest := rest) ⟨hx, hb, hml, hown, hts⟩ hM (vx_cwSW As.length hts hG rfl rfl rfl hd hR) ⟨fun a U g mk q => ⟨q.1, q.2.blind⟩, fun U hU hW => ⟨rfl, Iv.mk hK hSv hV hS hU hW⟩⟩ rfl rfl hls hst (lv_room hn) hdg hcs
theorem run_C {w k : Nat} (C : Cx p l s m args meth c G b0 own cc nL ret0) (hV : Hd G b0 V H) (hS : va_S (Ab b0) s.heap H locs) (hM : Met l y (wy y bytes maxL ret) (rmc d k) (va_Pc As (Iv G b0 V)) Qc k (6 * k) (Ab b0))
    (hl : Cond.methodLink own index y ∈ GW) (hi : Cond.static y ∈ GW) (hin : Cond.initialized y.cls ∈ GW) (hco : Cond.code y bytes maxL ret ∈ GW) (hd : dOk y As.length)
    (hR : (rmc d k).frames + 1 ≤ R.frames ∧ 8 + (maxL + 11) + (rmc d k).locals ≤ R.locals) (hls : ls.size = nL) (hst : st0 = As.reverse ++ rest) (hn : (rest.map fun v => v.category).sum ≤ 8) (hdg : decode cc pc = .ok (.invokestatic index, 3)) (hcs : w + k ≤ R.cells ∧ 6 * w + 6 * k ≤ R.slots) :
    va_Run p l e R s m args below meth c H locs w (6 * w) k (6 * k) (F0 m pc ls st0) rest (Qc As.toArray) (Ab b0) := by
  obtain ⟨hx, hb, hr, hml, hown, hts, hlocks, hK, hSv⟩ := C
  have hG : GoodIn GW (va_wsS own index y (wy y bytes maxL ret)) := by
    intro w hw
    rcases List.mem_append.mp hw with h | h
    · have h9 : w ∈ GW := by
        simp only [List.mem_cons, List.not_mem_nil, or_false] at h
        rcases h with rfl | rfl | rfl
        · exact hl
        · exact hi
        · exact hin
      exact ⟨h9, good_of_word (gw_good _ h9)⟩
    · exact gi_wy hco w h
  exact va_runS (As := As) (rest := rest) ⟨hx, hb, hml, hown, hts⟩ hM (va_cwS As.length hts hG rfl rfl rfl hd hR) ⟨fun a U g mk q => ⟨q.1, q.2.blind⟩, fun U hU hW => ⟨rfl, Iv.mk hK hSv hV hS hU hW⟩⟩ rfl rfl hls hst (lv_room hn) hdg hcs
theorem cal_ic {w k : Nat} {r : Int32} (hr : va_Run p l e R s m args below meth c H locs w (6 * w) k (6 * k) (F0 m pc ls st0) rest (QI G b0 r V1 a) (Ab b0)) (hS : va_S (Ab b0) s.heap H locs)
    (kk : ∀ (H1 : Heap) (locs1 : List Loc), Hd G b0 V1 H1 → va_S (Ab b0) s.heap H1 locs1 → W p l e R s m args below meth c H1 locs1 (w + k) (6 * (w + k)) Q (F0 m (pc + 3) ls (.int r :: rest))) : W p l e R s m args below meth c H locs w (6 * w) Q (F0 m pc ls st0) :=
  va_calli hr hS (fun _ _ h => h) (fun _ h => h) (fun x u t H1 locs1 ht hvm hw hB hz hk hS1 => by
    have hw : x = r := hw
    subst hw
    rw [← Nat.mul_add]
    exact kk H1 locs1 (by rw [← ht]; exact hB.1) hS1)
theorem cal_lc {w k : Nat} {r : Int64} (hr : va_Run p l e R s m args below meth c H locs w (6 * w) k (6 * k) (F0 m pc ls st0) rest (QL G b0 r V1 a) (Ab b0)) (hS : va_S (Ab b0) s.heap H locs)
    (kk : ∀ (H1 : Heap) (locs1 : List Loc), Hd G b0 V1 H1 → va_S (Ab b0) s.heap H1 locs1 → W p l e R s m args below meth c H1 locs1 (w + k) (6 * (w + k)) Q (F0 m (pc + 3) ls (.long r :: rest))) : W p l e R s m args below meth c H locs w (6 * w) Q (F0 m pc ls st0) :=
  va_calll hr hS (fun _ _ h => h) (fun _ h => h) (fun x u t H1 locs1 ht hvm hw hB hz hk hS1 => by
    have hw : x = r := hw
    subst hw
    rw [← Nat.mul_add]
    exact kk H1 locs1 (by rw [← ht]; exact hB.1) hS1)
theorem cal_dc {w k : Nat} {r : UInt64} (hr : va_Run p l e R s m args below meth c H locs w (6 * w) k (6 * k) (F0 m pc ls st0) rest (QD G b0 r V1 a) (Ab b0)) (hS : va_S (Ab b0) s.heap H locs)
    (kk : ∀ (H1 : Heap) (locs1 : List Loc), Hd G b0 V1 H1 → va_S (Ab b0) s.heap H1 locs1 → W p l e R s m args below meth c H1 locs1 (w + k) (6 * (w + k)) Q (F0 m (pc + 3) ls (.double r :: rest))) : W p l e R s m args below meth c H locs w (6 * w) Q (F0 m pc ls st0) :=
  va_calld hr hS (fun _ _ h => h) (fun _ h => h) (fun x u t H1 locs1 ht hvm hw hB hz hk hS1 => by
    have hw : x = r := hw
    subst hw
    rw [← Nat.mul_add]
    exact kk H1 locs1 (by rw [← ht]; exact hB.1) hS1)
theorem cal_fc {w k : Nat} {r : UInt32} (hr : va_Run p l e R s m args below meth c H locs w (6 * w) k (6 * k) (F0 m pc ls st0) rest (QF G b0 r V1 a) (Ab b0)) (hS : va_S (Ab b0) s.heap H locs)
    (kk : ∀ (H1 : Heap) (locs1 : List Loc), Hd G b0 V1 H1 → va_S (Ab b0) s.heap H1 locs1 → W p l e R s m args below meth c H1 locs1 (w + k) (6 * (w + k)) Q (F0 m (pc + 3) ls (.float r :: rest))) : W p l e R s m args below meth c H locs w (6 * w) Q (F0 m pc ls st0) :=
  va_callf hr hS (fun _ _ h => h) (fun _ h => h) (fun x u t H1 locs1 ht hvm hw hB hz hk hS1 => by
    have hw : x = r := hw
    subst hw
    rw [← Nat.mul_add]
    exact kk H1 locs1 (by rw [← ht]; exact hB.1) hS1)
end LR
