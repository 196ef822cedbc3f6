/-! THE CLAIM OUT OF ONE WALK OF THE LAW'S BODY. Your part is whole_start (and what it stands on); all else here is the same for every law, but numbers. -/
def R_law : String := "NetScriptLaw"
def lw_P (b : Addr) (xs : List Int32) (args : Array Value) (s : State) : Prop := args = #[.ref b] ∧ s.IntsAt b xs ∧ xs.length ≤ 260 ∧ (Jvm.Cond.and given_1 narrow_1).before args s = true
/-- what a walk over the start with the record d0 says of its end, said of the start itself -/
theorem lw_closed {s t : State} {o : Outcome} {d0 : Drawn} {L : List Loc} {k n : Nat} (hd0 : s.drawn.sameBut d0 lw_cs) (hv : ∃ v, o = .returned v) (hW : (s.setDrawn d0).WarmedH t.vm) (hs : (s.setDrawn d0).sameButNew ({ t with vm := s.vm } : State) L k n) : State.butDraws s t lw_cs (fun t1 => Framed s o t1 L k n) := by
  have h2 : t.drawn = d0 := congrArg State.drawn hs.1
  refine ⟨⟨hv, hW, State.sameButNew.setDrawn hs s.drawn⟩, ?_, by decide⟩
  rw [h2]
  exact hd0
def lw_Q (_ : Array Value) (s : State) (o : Outcome) (t : State) : Prop := o = .returned (some (.int 1)) ∧ State.butDraws s t lw_cs (fun t1 => Framed s o t1 [] 815444 6648427)
def lw_Z (below : List Frame) (a : Array Value) (s : State) : State → Prop := fun t => ∃ o, t.status = .running ∧ Ended t below o ∧ lw_Q a s o t
/-- the law's own end, with 1 on the stack, nothing written that was there before, its room as the claim has it; d0: the record of draws at this point (at the entry s.drawn: begin with 'refine W.base ?_' and 'have hd0 := Drawn.sameBut.refl s.drawn lw_cs') -/
theorem lw_ret {p : Program} {l : Launch} {e : Env} {s : State} {m : MethodId} {below : List Frame} {meth : Method} {c : Code} {b : Nat} {d0 : Drawn} (hd0 : s.drawn.sameBut d0 lw_cs) (hx : p.tables.exec = Jvm.exec) (hb : c.code = code) (hr : meth.sig.returnType = ret) (hlocks : meth.locks = false) {pc : Nat} {H : Heap} {ls : Array Slot} (hdg : decode code pc = .ok (.ireturn, 1)) : W p l e room_1 (s.setDrawn d0) m #[Value.ref b] below meth c H [] 815444 6648427 (lw_Z below #[Value.ref b] s) (F0 m pc ls [.int 1]) := by
  intro T hT X
  obtain ⟨fs, hret, hrun, hended, hW, hframe⟩ := X.leave (v := some (.int 1)) (hlocks := hlocks) (fun h => by rw [hr] at h; cases h)
  have hmeth' : T.vm.method? m = some meth := X.method'
  refine ⟨T.setFrames fs, ?_, .returned (some (.int 1)), hrun, hended, rfl, lw_closed hd0 ⟨_, rfl⟩ hW hframe⟩
  jvm_step X.here [X.here.top, hx, hb, hdg, hmeth', hr, ret, narrow_b1]
  (try refine ⟨rfl, ?_⟩); (try refine ⟨rfl, ?_⟩)
  first | (intro acts; rw [hret _ acts rfl rfl rfl]) | rw [hret _ _ rfl rfl rfl]
  exact Steps.refl _
/-- what holds at the law's entry: the machine, the code, the tables' words (any of lw_tbl by 'hts w (by decide +kernel)'), the script of L ints xs at the cell b, what the Statement gives of the start (any of its parts by flat_of_before) -/
def lw_At (p : Program) (s : State) (m : MethodId) (meth : Method) (c : Code) (b L : Nat) (xs : Nat → Int32) : Prop :=
  p.tables.exec = Jvm.exec ∧ c.code = code ∧ meth.sig.returnType = ret ∧ c.maxLocals = 18 ∧ s.vm.findClass R_law = some m.cls ∧ (∀ w ∈ lw_tbl, w.before #[Value.ref b] s = true) ∧ va_X b L xs s s.heap ∧ b < s.heap.size ∧ meth.locks = false ∧ (Jvm.Cond.and given_1 narrow_1).before #[Value.ref b] s = true
set_option maxHeartbeats 4000000 in
set_option maxRecDepth 100000 in
theorem whole_start0 {p : Program} {e : Env} {s : State} {m : MethodId} {below : List Frame} {meth : Method} {c : Code} (l : Launch) (hflags : l.flags = flags0) {b L : Nat} {xs : Nat → Int32} (hL : L ≤ 260) (hrun : ∃ v V1, f_L_sum V0 = some (v, V1) ∧ f_L_law_b28 L xs 47 V1 (updA (fun _ => 0) 0 v) 0 0 0 = some 1) (C0 : lw_At p s m meth c b L xs) : W p l e room_1 s m #[Value.ref b] below meth c s.heap [] 0 0 (lw_Z below #[Value.ref b] s) (entryFrame m ([Value.ref b] : List Value).toArray 18) := by
  obtain ⟨hx, hb, hrt, hml, hown, hts, hX, hbl, hlocks, hgv⟩ := C0
  have hfn : ∀ w ∈ FN, w.before #[Value.ref b] s = true := flat_of_before _ hgv
  have hfl : l.stackTraces = false := by
    unfold Launch.stackTraces
    rw [hflags]
    decide +kernel
  obtain ⟨G, hK, hSv, hG1, hG2⟩ := st_G hts hfn hX hbl
  have hA := st_Ao hts
  have C : Cx p l s m #[Value.ref b] meth c G s.heap.size RL cL_law 18 ret := ⟨hx, hb, hrt, hml, hown, st_gw hts, hlocks, hK, hSv⟩
  obtain ⟨v, V1, hsum, hrun⟩ := hrun
  have e1 : G.2.2.2.2.1 = b := by rw [hG2]
  have e2 : G.2.2.2.2.2.1 = L := by rw [hG2]
  have e3 : G.2.2.2.2.2.2 = xs := by rw [hG2]
  rw [lg_entry_eq]
  have hl := lv_entry [Value.ref b] (n := 18) (Nat.le_of_ble_eq_true rfl)
  generalize ((lg_sl [Value.ref b] ++ List.replicate (18 - (lg_sl [Value.ref b]).length) Slot.unset).toArray) = ls at hl ⊢
  have hl : lv_has ls 18 [(0, .ref b)] := hl
  have hW : Hw G s.heap.size 0 (cel G s.heap.size V0) s.heap := ⟨rfl, fun k hk => absurd hk (Nat.not_lt_zero k)⟩
  have hS : va_S (Ab s.heap.size) s.heap s.heap [] := va_S.rf
  have hb0 : ∃ b0, s.heap.size = b0 := ⟨_, rfl⟩
  obtain ⟨b0, hb0⟩ := hb0
  rw [hb0] at C hW hS
  refine w_new (n := 0) (ci := 12) (N := 11) (T := TX9) (fs := [.null, .null, .null, .int 0, .null, .null, .null, .null, .null, .int 0, .int 0]) (E1 := xu (cel G b0 V0) 0 (.inr (12, [.null, .null, .null, .int 0, .null, .null, .null, .null, .null, .int 0, .int 0]))) C hW hS rfl inX9 tyX9 tyX9_ok q_125 q_126 q_93 (by intro j hj; (iterate 11 (rcases j with _ | j; · rfl)); omega) (Nat.le_of_ble_eq_true rfl) (Nat.le_of_ble_eq_true rfl) dL_law_0 (fun q hq => absurd hq (Nat.not_lt_zero q)) xu_me (fun H hW hS => ?_)
  refine lv_dup hx hb dL_law_3 rfl ?_
  refine w_call (y := yX9_init) (E1 := cel G b0 V0) C hA hW hS (c_X9_init l G b0 _ xu_me) rfl q_127 q_128 q_93 q_129 ⟨by decide +kernel, by decide +kernel, by decide +kernel⟩ ⟨by decide +kernel, by decide +kernel⟩ hl.1 (Nat.le_of_ble_eq_true rfl) dL_law_4 ⟨Nat.le_of_ble_eq_true rfl, Nat.le_of_ble_eq_true rfl⟩ (fun _ _ => rfl) (fun H locs hW hS => ?_)
  have hV : Hd G b0 V0 H := ⟨fun k hk => hW.2 k hk, by rw [hG1]; exact fun _ h => (nomatch h), by rw [hG1]; exact fun _ h => (nomatch h)⟩
  refine W.widen (show 0 + 1 + 207 ≤ 208 by omega) (show 0 + 11 + 880 ≤ 6 * 208 by omega) ?_
  have hRm : 60 ≤ room_1.frames ∧ 3600 ≤ room_1.locals ∧ 160000 ≤ room_1.cells ∧ 6 * 160000 ≤ room_1.slots := by decide
  refine lv_astore_n (lv' := [(1, .ref (b0 + 0)), (0, .ref b)]) hx hb dL_law_7 rfl hl (by decide) rfl (fun ls hl => ?_)
  refine lv_bipush (v := 60) hx hb dL_law_8 (by decide) ?_
  refine x_newl (w := 208) (u := 10) (N' := 60) C hV hS (by decide) (by decide) (by decide) ⟨by decide, by decide⟩ (room_cs hRm (by omega)) q_1559 dL_law_10 (fun a9 H hF hV hS => ?_)
  refine lv_astore_n (lv' := [(2, .ref a9), (1, .ref (b0 + 0)), (0, .ref b)]) hx hb dL_law_12 rfl hl (by decide) rfl (fun ls hl => ?_)
  refine lv_iconst (v := 0) hx hb dL_law_13 (by decide) ?_
  refine lv_istore_n (lv' := [(3, .int 0), (2, .ref a9), (1, .ref (b0 + 0)), (0, .ref b)]) hx hb dL_law_14 rfl hl (by decide) rfl (fun ls hl => ?_)
  refine lv_aload_n hx hb dL_law_15 rfl (lv_at hl 1 rfl) ?_
  refine lv_iload_n hx hb dL_law_16 rfl (lv_at hl 0 rfl) ?_
  refine lv_aload_n hx hb dL_law_17 rfl (lv_at hl 2 rfl) ?_
  refine cal_lc (run_C (As := [.ref (b0 + 0)]) (rest := [.int 0, .ref a9]) C.x hV hS (c_L_sum l hfl (xg G a9 (al G 60 (fun _ => 0))) b0 V0 (v, V1) hsum) q_1235 q_1236 q_92 q_1237 dk_L_sum (room_ok hRm (by decide) (by decide)) hl.1 rfl (Nat.le_of_ble_eq_true rfl) dL_law_18 (room_cs hRm (by omega))) hS (fun H locs hV hS => ?_)
  refine x_last (j := 0) C hV hF hS rfl dL_law_21 (fun H locs hV hS => ?_)
  refine lv_iconst (v := 0) hx hb dL_law_22 (by decide) ?_
  refine lv_istore (lv' := [(4, .int 0), (3, .int 0), (2, .ref a9), (1, .ref (b0 + 0)), (0, .ref b)]) hx hb dL_law_23 hl (by decide) rfl (fun ls hl => ?_)
  refine lv_iconst (v := 0) hx hb dL_law_25 (by decide) ?_
  refine lv_istore (lv' := [(5, .int 0), (4, .int 0), (3, .int 0), (2, .ref a9), (1, .ref (b0 + 0)), (0, .ref b)]) hx hb dL_law_26 hl (by decide) rfl (fun ls hl => ?_)
  refine law_loop (N := 160000) hfl C hRm rfl (fun H1 locs1 ls w hw hS1 => ?_) 47 _ V1 a9 hF (updA (fun _ => 0) 0 v) 0 0 0 (by omega) (by rw [e2, e3]; exact hrun) H locs ls hV hS (by rw [e1]; exact lv_sub hl [5, 4, 3, 2, 1, 0] rfl)
  refine va_forget (fun q hq => by rw [hb0]; exact hS1.2.2 q hq) ?_
  refine W.widen (show w ≤ 815444 by omega) (show 6 * w ≤ 6648427 by omega) ?_
  exact lw_ret (d0 := s.drawn) (Drawn.sameBut.refl s.drawn lw_cs) hx hb hrt hlocks dL_law_371
