/-! 'new int[9][4]': the outer array, then its rows, each put in at once -/
def mcel (cA : ClassId) (h i : Nat) : Cell := arrV cA 9 (fun j => if j < i then .ref (h + 1 + j) else .null)
def mrow (cB : ClassId) : Cell := arrV cB 4 (fun _ => .int 0)
def mst (T : State) (cA cB : ClassId) : Nat → State
  | 0 => T.pushCell (mcel cA T.heap.size 0)
  | i + 1 => ((mst T cA cB i).pushCell (mrow cB)).setCell T.heap.size (mcel cA T.heap.size (i + 1))
theorem mcel_next (cA : ClassId) (h i : Nat) : (mcel cA h i).setSlot i (.ref (h + 1 + i)) = mcel cA h (i + 1) := by
  unfold mcel
  rw [arrV_store]
  congr 1
  funext j
  by_cases e1 : j = i
  · subst e1
    simp [updV]
  · by_cases e2 : j < i
    · simp [updV, e1, e2, Nat.lt_succ_of_lt e2]
    · have e3 : ¬ j < i + 1 := by omega
      simp [updV, e1, e2, e3]
theorem mst_at (T : State) (cA cB : ClassId) : ∀ i, (mst T cA cB i).heap.size = T.heap.size + 1 + i ∧ (mst T cA cB i).heap[T.heap.size]? = some (mcel cA T.heap.size i) ∧ (mst T cA cB i).vm = T.vm ∧ (mst T cA cB i).slotsUsed = T.slotsUsed + 9 + i * 4
  | 0 => ⟨by simp [mst], by simp [mst], rfl, by simp [mst, mcel, arrV_size]⟩
  | i + 1 => by
    obtain ⟨h1, h2, h3, h4⟩ := mst_at T cA cB i
    have hlt : T.heap.size < (mst T cA cB i).heap.size := by omega
    have h5 : ((mst T cA cB i).pushCell (mrow cB)).heap[T.heap.size]? = some (mcel cA T.heap.size i) := by rw [State.heap_pushCell_of_lt (h := hlt)]; exact h2
    refine ⟨?_, State.heap_setCell_self h5, by simp [mst, h3], ?_⟩
    · simp [mst, State.setCell, h1]; omega
    · simp [mst, h4, mrow, arrV_size]; omega
theorem mst_top (T : State) (f : JFrame) (cA cB : ClassId) : ∀ i, mst (T.setTop f) cA cB i = (mst T cA cB i).setTop f
  | 0 => rfl
  | i + 1 => by simp only [mst, mst_top T f cA cB i, State.heap_setTop, State.pushCell_setTop, State.setCell_setTop]
theorem mst_old (T : State) (cA cB : ClassId) {q : Nat} (hq : q < T.heap.size) : ∀ i, (mst T cA cB i).heap[q]? = T.heap[q]?
  | 0 => State.heap_pushCell_of_lt _ _ hq
  | i + 1 => by
    have h1 := (mst_at T cA cB i).1
    have hlt : q < (mst T cA cB i).heap.size := by omega
    show (((mst T cA cB i).pushCell (mrow cB)).setCell T.heap.size _).heap[q]? = _
    rw [State.heap_setCell_other (Nat.ne_of_gt hq), State.heap_pushCell_of_lt (h := hlt)]
    exact mst_old T cA cB hq i
theorem mst_row (T : State) (cA cB : ClassId) : ∀ i j, j < i → (mst T cA cB i).heap[T.heap.size + 1 + j]? = some (mrow cB)
  | 0, _, h => absurd h (Nat.not_lt_zero _)
  | i + 1, j, h => by
    have h1 := (mst_at T cA cB i).1
    show (((mst T cA cB i).pushCell (mrow cB)).setCell T.heap.size _).heap[T.heap.size + 1 + j]? = _
    rw [State.heap_setCell_other (show T.heap.size ≠ T.heap.size + 1 + j by omega)]
    by_cases e1 : j < i
    · have hlt : T.heap.size + 1 + j < (mst T cA cB i).heap.size := by omega
      rw [State.heap_pushCell_of_lt (h := hlt)]
      exact mst_row T cA cB i j e1
    · have e2 : j = i := by omega
      subst e2
      rw [← h1]
      exact State.heap_pushCell_size _ _
section MMU
variable {p : Program} {l : Launch} {e : Env} {R : Room} {s : State} {m : MethodId} {args : Array Value} {below : List Frame} {meth : Method} {c : Code} {T : State} {locs : List Loc} {cells slots : Nat}
theorem mst_stand (X : Stand p l e R s m args below meth c T locs cells slots) (cA cB : ClassId) : ∀ i, Stand p l e R s m args below meth c (mst T cA cB i) (locs ++ (List.range i).map fun j => ⟨T.heap.size, j⟩) (cells + 1 + i) (slots + 9 + i * 4)
  | 0 => by
    have h := X.pushed (mcel cA T.heap.size 0)
    rw [show (mcel cA T.heap.size 0).slots.size = 9 from arrV_size _ _ _] at h
    simpa [mst] using h
  | i + 1 => by
    have Xi := mst_stand X cA cB i
    obtain ⟨h1, h2, h3, h4⟩ := mst_at T cA cB i
    have hlt : T.heap.size < (mst T cA cB i).heap.size := by omega
    have h5 : ((mst T cA cB i).pushCell (mrow cB)).heap[T.heap.size]? = some (mcel cA T.heap.size i) := by rw [State.heap_pushCell_of_lt (h := hlt)]; exact h2
    have h := (Xi.pushed (mrow cB)).stored h5 i (.ref (T.heap.size + 1 + i))
    rw [mcel_next, show (mrow cB).slots.size = 4 from arrV_size _ _ _] at h
    have e2 : (locs ++ (List.range (i + 1)).map fun j => (⟨T.heap.size, j⟩ : Loc)) = (locs ++ (List.range i).map fun j => (⟨T.heap.size, j⟩ : Loc)) ++ [⟨T.heap.size, i⟩] := by simp [List.range_succ, List.append_assoc]
    rw [e2, show slots + 9 + (i + 1) * 4 = slots + 9 + i * 4 + 4 by omega]
    exact h
end MMU
section MMW
variable {E : CtlPost} {e : Env} {d : Bool} {acts : List Action} {s : State}
theorem mw_new {c comp : ClassId} {k : Class} {type : FieldType} {len : Nat} {init : Value} (hk : s.vm.classes[c]? = some k) (hkind : k.kind = .array comp type) (hl : ¬ len > e.platform.arrayLengthLimit) (hh : ¬ len * componentBytes type > e.platform.maxHeapBytes) (hfit : fits type init = true) (hdef : init.isDefault = true) {Q : Addr → Pre}
    (h1 : s.heap.size < e.platform.maxCells) (h2 : s.slotsUsed + len ≤ e.platform.maxSlots) (hq : Q s.heap.size d acts (s.pushCell { cls := c, slots := Array.replicate len init, vm := .none })) : wp (Jvm.newArray c len init) Q E e d acts s := by
  have f1 : ∀ i v, (Array.replicate len init)[i]? = some v → s.fitsSlot c .none i v = true := by
    intro i v hv
    simp only [Array.getElem?_replicate] at hv
    split at hv
    · cases hv
      simp [State.fitsSlot, State.slotType?, hk, hkind, hfit]
    · cases hv
  have f2 : allocActs (Array.replicate len init) s.heap.size acts = acts := by
    have f3 : ((Array.replicate len init).all (·.isDefault)) = true := by
      rw [Array.all_replicate]
      split <;> simp [hdef]
    unfold allocActs
    rw [if_pos f3]
  simp only [Jvm.newArray, Jvm.arrayFits, wp_bind', W.ask, W.ite, hl, if_false, wp_pure', W.theClass, hk, hkind, hh, W.alloc, W.stop, Option.some.injEq, exists_eq_left', Array.size_replicate, f2]
  rw [if_neg (by omega)]
  exact ⟨h1, h2, f1, hq⟩
theorem mw_one {cB cc : ClassId} {kB : Class} (hkB : s.vm.classes[cB]? = some kB) (hkindB : kB.kind = .array cc .int) (hl : ¬ 4 > e.platform.arrayLengthLimit) (hh : ¬ 4 * componentBytes .int > e.platform.maxHeapBytes)
    (h1 : s.heap.size < e.platform.maxCells) (h2 : s.slotsUsed + 4 ≤ e.platform.maxSlots) {Q : Addr → Pre} (hq : Q s.heap.size d acts (s.pushCell (mrow cB))) : wp (multianewarray.make cB [(4 : Int32)]) Q E e d acts s := by
  rw [multianewarray.make]
  simp only [wp_bind', W.ite, show ¬ (4 : Int32) < 0 by decide, if_false, wp_pure', W.theClass, hkB, hkindB, Option.some.injEq, exists_eq_left', show (4 : Int32).toNatClampNeg = 4 by decide]
  refine mw_new hkB hkindB hl hh rfl rfl h1 h2 ?_
  unfold mrow at hq
  rw [← arrV_new] at hq
  exact hq
theorem mw_two {cA cB cc : ClassId} {kA kB : Class} (hkA : s.vm.classes[cA]? = some kA) (hkindA : kA.kind = .array cB (.array .int)) (hkB : s.vm.classes[cB]? = some kB) (hkindB : kB.kind = .array cc .int)
    (hl9 : ¬ 9 > e.platform.arrayLengthLimit) (hh9 : ¬ 9 * componentBytes (.array .int) > e.platform.maxHeapBytes) (hl : ¬ 4 > e.platform.arrayLengthLimit) (hh : ¬ 4 * componentBytes .int > e.platform.maxHeapBytes)
    (hc : s.heap.size + 10 ≤ e.platform.maxCells) (hs : s.slotsUsed + 45 ≤ e.platform.maxSlots) {Q : Addr → Pre} (hq : ∀ d' acts', Q s.heap.size d' acts' (mst s cA cB 9)) : wp (multianewarray.make cA [(9 : Int32), 4]) Q E e d acts s := by
  have hfind : ([(4 : Int32)].find? (· < 0)) = none := by decide
  rw [multianewarray.make]
  simp only [wp_bind', W.ite, show ¬ (9 : Int32) < 0 by decide, if_false, wp_pure', W.theClass, hkA, hkindA, Option.some.injEq, exists_eq_left', show (9 : Int32).toNatClampNeg = 9 by decide]
  refine mw_new hkA hkindA hl9 hh9 rfl rfl (by omega) (by omega) ?_
  simp only [hfind]
  rw [ite_self, wp_bind', Std.Legacy.Range.forIn_eq_forIn_range']
  have hsz : ([:9] : Std.Legacy.Range).size = 9 := by simp [Std.Legacy.Range.size]
  rw [hsz]
  show wp (forIn (List.range' 0 9 1) PUnit.unit _) _ E e d acts _
  have e0 : (s.pushCell { cls := cA, slots := Array.replicate 9 Value.null, vm := .none } : State) = mst s cA cB 0 := by
    rw [arrV_new]
    rfl
  rw [e0]
  refine wp_forIn_inv (fun rest s' => ∃ i, i ≤ 9 ∧ rest = List.range' i (9 - i) ∧ s' = mst s cA cB i) _ _ ⟨0, Nat.zero_le _, rfl, rfl⟩ ?_ ?_
  · rintro x rest s' d' acts' Q' ⟨i, hi, hl9, rfl⟩ hnext
    have hlt : i < 9 := by
      rcases Nat.lt_or_ge i 9 with h | h
      · exact h
      · rw [show 9 - i = 0 by omega] at hl9
        simp at hl9
    obtain ⟨rfl, hrest⟩ : x = i ∧ rest = List.range' (i + 1) (9 - (i + 1)) := by
      rw [show 9 - i = (9 - (i + 1)) + 1 by omega, List.range'_succ] at hl9
      exact ⟨(List.cons.inj hl9).1, (List.cons.inj hl9).2⟩
    obtain ⟨f1, f2, f3, f4⟩ := mst_at s cA cB x
    simp only [wp_bind']
    refine mw_one (by rw [f3]; exact hkB) hkindB hl hh (by rw [f1]; omega) (by rw [f4]; omega) ?_
    have hlt0 : s.heap.size < (mst s cA cB x).heap.size := by rw [f1]; omega
    simp only [wp_bind', W.writeLoc, wp_pure']
    refine ⟨mcel cA s.heap.size x, by rw [State.heap_pushCell_of_lt (h := hlt0)]; exact f2, (fun h => by cases h), (by show _ < (arrV _ _ _).slots.size; rw [arrV_size]; exact hlt), ?_, hnext _ _ _ ⟨x + 1, hlt, hrest, ?_⟩⟩
    · show State.fitsSlot _ cA .none x _ = true
      simp [State.fitsSlot, State.slotType?, f3, hkA, hkindA, fits]
    · rw [f1, mcel_next]
      rfl
  · rintro s' d' acts' ⟨i, hi, hl9, rfl⟩
    have hi9 : i = 9 := by
      rcases Nat.lt_or_ge i 9 with h | h
      · rw [show 9 - i = (9 - (i + 1)) + 1 by omega, List.range'_succ] at hl9
        cases hl9
      · omega
    subst hi9
    simp only [wp_pure']
    exact hq _ _
end MMW
section MMX
variable {p : Program} {l : Launch} {e : Env} {R : Room} {s : State} {m : MethodId} {args : Array Value} {below : List Frame} {meth : Method} {c : Code} {H : Heap} {locs : List Loc} {cells slots : Nat} {Q : State → Prop}
variable {cc : ByteArray} {pc : Nat} {ls : Array Slot} {rest st0 : List Value} {G : LG} {b0 n k w : Nat} {E X : Nat → va_E} {own : String} {nL index : Nat} {ret0 : Option FieldType}
theorem w_multi (hx : p.tables.exec = Jvm.exec) (hb : c.code = cc) (hown : s.vm.findClass own = some m.cls) (hcl : (Cond.classLink own index "[[I").before args s = true) (hover : AI s) (harr : (Cond.arrayClass .int).before args s = true) (hcells : cells + 10 ≤ R.cells) (hslots : slots + 45 ≤ R.slots) (hdg : decode cc pc = .ok (.multianewarray index 2, 4))
    (kk : ∀ (cA cB : ClassId) (H1 : Heap), s.vm.findClass ("[" ++ (FieldType.array .int).toString) = some cA → s.vm.findClass (FieldType.array .int).toString = some cB → H1.size = H.size + 10 → (∀ q : Nat, q < H.size → H1[q]? = H[q]?) → H1[H.size]? = some (mcel cA H.size 9) → (∀ j, j < 9 → H1[H.size + 1 + j]? = some (mrow cB)) →
      W p l e R s m args below meth c H1 (locs ++ (List.range 9).map fun j => ⟨H.size, j⟩) (cells + 10) (slots + 45) Q (F0 m (pc + 4) ls (.ref H.size :: rest))) : W p l e R s m args below meth c H locs cells slots Q (F0 m pc ls (.int 4 :: .int 9 :: rest)) := by
  intro T hT X
  subst hT
  subst hb
  obtain ⟨g, hg⟩ : ∃ z, z = F0 m pc ls (.int 4 :: .int 9 :: rest) := ⟨_, rfl⟩
  rw [← hg]
  have hgm : g.method = m := by rw [hg]
  have hstack : g.stack = .int 4 :: .int 9 :: rest := by rw [hg]
  have hdg : decode c.code g.pc = .ok (.multianewarray index 2, 4) := by rw [hg]; exact hdg
  have hpl : e.platform.magicAccessors = ({} : Platform).magicAccessors := by rw [X.admits.platform]
  obtain ⟨cB, cA, kA, hcB, -, hkA, hkindA, hnameA⟩ := arrayOverA_spec hover
  obtain ⟨cB', kB, cc, hcB', hkB, hkindB⟩ := Cond.arrayClass_spec harr
  have ecB : cB' = cB := Option.some.inj (hcB'.symm.trans hcB)
  subst ecB
  obtain ⟨c0, hfc0, hcl9⟩ := Cond.classLink_spec hown hcl e.platform hpl
  have ec0 : c0 = cA := Option.some.inj (hfc0.symm.trans hnameA)
  subst ec0
  subst hgm
  obtain ⟨hg₁, hwarm₁, hready₁⟩ := State.classEntry (e := e) X.warmed hcl9
  generalize T.vm.noted g.method.cls index (.cls c0) = vm₁ at hg₁ hwarm₁ hready₁
  have hal : s.vm.Alike vm₁ := hwarm₁.alike
  obtain ⟨kA₁, hkA₁, heA⟩ := hal.2.2 _ _ hkA
  obtain ⟨kB₁, hkB₁, heB⟩ := hal.2.2 _ _ hkB
  have hkindA₁ : kA₁.kind = .array cB' (.array .int) := by rw [heA]; exact hkindA
  have hkindB₁ : kB₁.kind = .array cc .int := by rw [heB]; exact hkindB
  have X₁ := X.noted hwarm₁
  obtain ⟨hr1, hr2⟩ := X.roomAbove hcells hslots
  have hlim := Launch.admits_arrayLengthLimit X.admits
  have hmax := Launch.admits_maxHeapBytes X.admits
  have h9 := mst_at (T.setVm vm₁) c0 cB' 9
  have X9 := mst_stand X₁ c0 cB' 9
  obtain ⟨t, a1, b1⟩ := kk c0 cB' (mst (T.setVm vm₁) c0 cB' 9).heap hnameA hcB h9.1 (fun q hq => mst_old (T.setVm vm₁) c0 cB' hq 9) h9.2.1 (fun j hj => mst_row (T.setVm vm₁) c0 cB' 9 j hj) (mst (T.setVm vm₁) c0 cB' 9) rfl (by simpa using X9)
  refine ⟨t, ?_, b1⟩
  jvm_step X.here [hx, hdg]
  simp only [multianewarray.sem, wp_bind', W.resolveClassAt_links (State.method?_setTop g X.here.top) hg₁]
  rw [W.popN, if_neg (by decide)]
  refine ⟨g, State.topJava?_setTop' (s := T.setVm vm₁) g X.here.top, [.int 9, .int 4], rest, rfl, hstack, ?_⟩
  simp only [List.mapM_cons, List.mapM_nil, wp_bind', wp_pure']
  refine mw_two (kA := kA₁) (kB := kB₁) (cB := cB') (cc := cc) hkA₁ hkindA₁ hkB₁ hkindB₁ (by rw [hlim]; decide) (by rw [hmax]; decide) (by rw [hlim]; decide) (by rw [hmax]; decide) (by show T.heap.size + 10 ≤ _; omega) (by show T.slotsUsed + 45 ≤ _; omega) (fun d' acts' => ?_)
  have eS : ((T.setTop g).setVm vm₁).setTop { g with stack := rest } = (T.setVm vm₁).setTop { g with stack := rest } := by
    show ((T.setVm vm₁).setTop g).setTop _ = _
    rw [State.setTop_setTop]
  rw [eS, mst_top]
  simp only [wp_bind', W.mark, W.pushRef, State.topJava?_setTop' _ X9.here.top, Option.some.injEq, exists_eq_left', State.setTop_setTop, State.heap_setTop]
  intro acts
  simp [jvm, X9.here.top]
  rw [hg]
  exact a1
theorem xk_multi (C : Cx p l s m args meth c G b0 own cc nL ret0) (hA : Ao s) (hW : Hw G b0 n (ex G b0 k w E X) H) (hS : va_S (Ab b0) s.heap H locs) (hn : k + w ≤ n) (hcl : Cond.classLink own index "[[I" ∈ GW) (hc0 : cel G b0 Z0 n = .inl (G.2.1 8, 9, .inr (.inr (.inr (.inr (fun j => if j < 9 then some (b0 + (n + 1 + j)) else none)))))) (hcj : ∀ j, j < 9 → cel G b0 Z0 (n + 1 + j) = .inl (G.2.1 0, 4, .inl (Z0 (n + 1 + j)))) (hcells : cells + 10 ≤ R.cells) (hslots : slots + 45 ≤ R.slots) (hdg : decode cc pc = .ok (.multianewarray index 2, 4))
    (kk : ∀ (H1 : Heap) (locs1 : List Loc), Hw G b0 (n + 10) (ex G b0 k w E X) H1 → va_S (Ab b0) s.heap H1 locs1 → W p l e R s m args below meth c H1 locs1 (cells + 10) (slots + 45) Q (F0 m (pc + 4) ls (.ref (b0 + n) :: rest))) : W p l e R s m args below meth c H locs cells slots Q (F0 m pc ls (.int 4 :: .int 9 :: rest)) := by
  obtain ⟨hx, hb, hr, hml, hown, hts, hlocks, hK, hSv⟩ := C
  refine w_multi hx hb hown (hts _ hcl) hA.2.2.2.2 (hts _ q_275) hcells hslots hdg (fun cA cB H1 f1 f2 z o m1 m2 => ?_)
  have hcA : cA = G.2.1 8 := Option.some.inj (f1.symm.trans (hK.1.2 8 _ rfl).2)
  have hcB : cB = G.2.1 0 := Option.some.inj (f2.symm.trans (hK.1.2 0 _ rfl).2)
  subst hcA
  subst hcB
  rw [hW.1] at m1 m2 z ⊢
  refine kk H1 _ ⟨by omega, fun q hq => ?_⟩ ⟨by have := hS.1; have := hW.1; omega, fun x h1 h2 => (o x (Nat.lt_of_lt_of_le h1 hS.1)).trans (hS.2.1 x h1 h2), fun x hx => ?_⟩
  · by_cases c1 : q < n
    · exact (hW.2 q c1).kept (o _ (hW.2 q c1).lt)
    · rw [ex_ge (by omega)]
      by_cases c2 : q = n
      · subst c2
        rw [hc0]
        show H1[b0 + q]? = some (vp_cell _ _)
        rw [m1, vp_cell_q]
        unfold mcel
        congr 2
        funext j
        by_cases c3 : j < 9
        · rw [if_pos c3, if_pos c3, show b0 + q + 1 + j = b0 + (q + 1 + j) by omega]
          rfl
        · rw [if_neg c3, if_neg c3]
          rfl
      · obtain ⟨j, hj⟩ : ∃ j, q = n + 1 + j := ⟨q - (n + 1), by omega⟩
        subst hj
        rw [hcj j (by omega)]
        show H1[b0 + (n + 1 + j)]? = some (vp_cell _ _)
        rw [show b0 + (n + 1 + j) = b0 + n + 1 + j by omega, m2 j (by omega), vp_cell_i]
        rfl
  · rcases List.mem_append.mp hx with h1 | h1
    · exact hS.2.2 x h1
    · obtain ⟨j, -, rfl⟩ := List.mem_map.mp h1
      show b0 ≤ b0 + n
      omega
end MMX
