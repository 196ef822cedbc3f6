/-! the start: what the tables and the premise give -/
def FN : List Cond := flatC (Jvm.Cond.and given_1 narrow_1)
/-- where a String constant's words lie: in the premise, and in the tables -/
def SP : List ((String × Nat × String) × Nat × Nat) := SL.zip [(400, 479), (415, 590), (439, 643), (462, 718), (485, 747), (511, 764), (536, 780), (559, 805), (585, 823), (608, 843), (631, 879), (640, 1021), (645, 1022), (650, 1023), (660, 1063), (667, 1087), (677, 1088), (687, 1089), (692, 1090), (697, 1140), (717, 1169), (731, 1170), (745, 1171), (761, 1172), (773, 1173), (783, 1174), (795, 1175), (807, 1176), (817, 1212), (841, 1230), (864, 1264), (888, 1282), (928, 1297), (944, 1335), (962, 1350), (982, 1378), (1012, 1397), (1045, 1430), (1068, 1453), (1089, 1499), (1114, 1509), (1136, 1542), (1164, 1554)]
def sx (q : String × Nat × String) : List Cond :=
  [.exactly (.string q.1 q.2.1) "java/lang/String", .eq (.field (.string q.1 q.2.1) "java/lang/String" "coder" "B") (.int 0), .arrayOf (.field (.string q.1 q.2.1) "java/lang/String" "value" "[B") .byte, .eq (.length (.field (.string q.1 q.2.1) "java/lang/String" "value" "[B")) (.int (Int32.ofNat (byS q.2.2).length))] ++
    (List.range (byS q.2.2).length).map (fun j => .eq (.elem (.field (.string q.1 q.2.1) "java/lang/String" "value" "[B") (.int (Int32.ofNat j))) (.int ((byS q.2.2).getD j 0)))
theorem sp_ok : ∀ z ∈ SP, (FN.drop z.2.1).take (4 + (byS z.1.2.2).length) = sx z.1 ∧ lw_tbl[z.2.2]? = some (Cond.stringRef z.1.1 z.1.2.1 z.1.2.2) := by decide +kernel
theorem sp_in : ∀ q ∈ SL, q ∈ SP.map Prod.fst := by decide +kernel
theorem sp_of {q : String × Nat × String} (hq : q ∈ SL) : (∀ w ∈ sx q, w ∈ FN) ∧ Cond.stringRef q.1 q.2.1 q.2.2 ∈ lw_tbl := by
  obtain ⟨z, hz, rfl⟩ := List.mem_map.mp (sp_in q hq)
  obtain ⟨h1, h2⟩ := sp_ok z hz
  refine ⟨fun w hw => ?_, List.mem_of_getElem? h2⟩
  rw [← h1] at hw
  exact List.mem_of_mem_drop (List.mem_of_mem_take hw)
theorem sx_el (q : String × Nat × String) {j : Nat} (hj : j < (byS q.2.2).length) : Cond.eq (.elem (.field (.string q.1 q.2.1) "java/lang/String" "value" "[B") (.int (Int32.ofNat j))) (.int ((byS q.2.2).getD j 0)) ∈ sx q :=
  List.mem_append_right _ (List.mem_map.mpr ⟨j, List.mem_range.mpr hj, rfl⟩)
theorem sx_len : ∀ q ∈ SL, (byS q.2.2).length < 100 := by decide +kernel
theorem nc_ok : ∀ q ∈ ncL, Cond.not (.castable q.1 q.2) ∈ FN := by decide +kernel
theorem fn_ok : Cond.isRef (.static Bundle.tN "UNASSIGNED_STACK" Bundle.steD) ∈ FN ∧ Cond.isRef (.static Bundle.tN "SUPPRESSED_SENTINEL" Bundle.listD) ∈ FN ∧ Cond.eq (.static "java/lang/String" "COMPACT_STRINGS" "Z") (.int 1) ∈ FN ∧ Cond.isRef (.static "jdk/internal/util/Preconditions" "SIOOBE_FORMATTER" "Ljava/util/function/BiFunction;") ∈ FN := by decide +kernel
theorem lt_ok {w : Cond} (i : Nat) (h : lw_tbl[i]? = some w) : w ∈ lw_tbl := List.mem_of_getElem? h
theorem inJx00060 : ∀ w ∈ u_ws RJx00060 TJx00060 6, w ∈ GW := by
  have h : u_ws RJx00060 TJx00060 6 = [Cond.lays "java/lang/ArrayIndexOutOfBoundsException" "java/lang/Throwable" "backtrace" "Ljava/lang/Object;", Cond.lays "java/lang/ArrayIndexOutOfBoundsException" "java/lang/Throwable" "detailMessage" "Ljava/lang/String;", Cond.lays "java/lang/ArrayIndexOutOfBoundsException" "java/lang/Throwable" "cause" "Ljava/lang/Throwable;", Cond.lays "java/lang/ArrayIndexOutOfBoundsException" "java/lang/Throwable" "stackTrace" "[Ljava/lang/StackTraceElement;", Cond.lays "java/lang/ArrayIndexOutOfBoundsException" "java/lang/Throwable" "depth" "I", Cond.lays "java/lang/ArrayIndexOutOfBoundsException" "java/lang/Throwable" "suppressedExceptions" "Ljava/util/List;"] := by decide +kernel
  rw [h]
  exact List.forall_mem_cons.mpr ⟨q_425, List.forall_mem_cons.mpr ⟨q_427, List.forall_mem_cons.mpr ⟨q_429, List.forall_mem_cons.mpr ⟨q_431, List.forall_mem_cons.mpr ⟨q_433, List.forall_mem_cons.mpr ⟨q_435, fun _ h => nomatch h⟩⟩⟩⟩⟩⟩
theorem vw_ok : ∀ q ∈ vwCl, (∀ w ∈ u_ws q.1 q.2.1 q.2.2, w ∈ GW) ∧ ∃ n, Cond.instantiable q.1 n ∈ GW := 
  List.forall_mem_cons.mpr ⟨⟨inJ0w, _, q_457⟩, List.forall_mem_cons.mpr ⟨⟨inJ4, _, q_849⟩, List.forall_mem_cons.mpr ⟨⟨inJx00060, _, q_384⟩, List.forall_mem_cons.mpr ⟨⟨inX0, _, q_174⟩, List.forall_mem_cons.mpr ⟨⟨inX1, _, q_246⟩, List.forall_mem_cons.mpr ⟨⟨inX2, _, q_307⟩, List.forall_mem_cons.mpr ⟨⟨inX3, _, q_145⟩, List.forall_mem_cons.mpr ⟨⟨inX4, _, q_190⟩, List.forall_mem_cons.mpr ⟨⟨inX5, _, q_266⟩, List.forall_mem_cons.mpr ⟨⟨inX6, _, q_321⟩, List.forall_mem_cons.mpr ⟨⟨inX7, _, q_277⟩, List.forall_mem_cons.mpr ⟨⟨inX8, _, q_134⟩, List.forall_mem_cons.mpr ⟨⟨inX9, _, q_126⟩, fun _ h => nomatch h⟩⟩⟩⟩⟩⟩⟩⟩⟩⟩⟩⟩⟩
theorem AI.of {A : Array Value} {U : State} (h : (Cond.arrayOver (.array .int)).before A U = true) : AI U := h
/-- the tables of digits -/
def dgx (nm : String) (f : Nat → Nat) : List Cond := [.arrayOf (.static "java/lang/Integer" nm "[B") .byte, .eq (.length (.static "java/lang/Integer" nm "[B")) (.int (Int32.ofNat 100))] ++ (List.range 100).map (fun j => .eq (.elem (.static "java/lang/Integer" nm "[B") (.int (Int32.ofNat j))) (.int (nI (48 + f j))))
theorem dg_O : (FN.drop 12).take 102 = dgx "DigitOnes" (fun j => j % 10) := by decide +kernel
theorem dg_T : (FN.drop 115).take 102 = dgx "DigitTens" (fun j => j / 10) := by decide +kernel
section ST
variable {s : State} {args : Array Value}
theorem st_gw (hts : ∀ w ∈ lw_tbl, w.before args s = true) : ∀ w ∈ GW, w.before args s = true := fun w hw => by
  rcases List.mem_append.mp (gw_tbl hw) with h | h
  · exact hts w h
  have hz : (Cond.selects "java/lang/StringBuilder" yJ5_isLatin1_aae02 yJ5_isLatin1_aae02).before args s = true := hts _ (lt_ok 925 (by decide +kernel))
  simp only [lw_x, List.mem_cons, List.not_mem_nil, or_false] at h
  rcases h with rfl | rfl | rfl | rfl
  · exact sel_pr (z := yJ5_isLatin1_aae02) ⟨by decide +kernel, by decide +kernel⟩ hz rfl (hts _ (lt_ok 896 (by decide +kernel))) (hts _ (lt_ok 897 (by decide +kernel)))
  · exact sel_pr (z := yJ5_isLatin1_aae02) ⟨by decide +kernel, by decide +kernel⟩ hz rfl (hts _ (lt_ok 967 (by decide +kernel))) (hts _ (lt_ok 968 (by decide +kernel)))
  · exact sel_pr (z := yJ5_isLatin1_aae02) ⟨by decide +kernel, by decide +kernel⟩ hz rfl (hts _ (lt_ok 892 (by decide +kernel))) (hts _ (lt_ok 893 (by decide +kernel)))
  · exact sel_pr (z := yJ5_isLatin1_aae02) ⟨by decide +kernel, by decide +kernel⟩ hz rfl (hts _ (lt_ok 963 (by decide +kernel))) (hts _ (lt_ok 964 (by decide +kernel)))
theorem st_prim (hts : ∀ w ∈ lw_tbl, w.before args s = true) {ty : FieldType} (hw : Cond.arrayClass ty ∈ GW) : ∃ cA : ClassId, ArrOfT s cA ty ∧ s.vm.findClass ("[" ++ ty.toString) = some cA := by
  obtain ⟨c, k, comp, h1, h2, h3⟩ := Cond.arrayClass_spec (st_gw hts _ hw)
  exact ⟨c, fun n z => ⟨fun k h => (by cases h), k, h2, comp, h3⟩, h1⟩
theorem st_ref {C : String} (h : va_AO C s) : ∃ cA : ClassId, ArrOfT s cA (.object C) ∧ va_RA s cA (.object C) := by
  obtain ⟨comp, c, k, h1, h2, h3, h4, h5⟩ := Cond.arrayOver_spec h
  exact ⟨c, fun n z => ⟨fun k h => (by cases h), k, h3, comp, h4⟩, k, comp, h3, h4, h1, h5⟩
theorem st_arr (h : AI s) : ∃ cA : ClassId, ArrOfT s cA (.array .int) ∧ va_RA s cA (.array .int) := by
  obtain ⟨comp, c, k, h1, h2, h3, h4, h5⟩ := arrayOverA_spec h
  exact ⟨c, fun n z => ⟨fun k h => (by cases h), k, h3, comp, h4⟩, h5⟩
theorem st_Ao (hts : ∀ w ∈ lw_tbl, w.before args s = true) : Ao s :=
  ⟨va_AO.of (hts _ (lt_ok 140 (by decide +kernel))), va_AO.of (hts _ (lt_ok 142 (by decide +kernel))), va_AO.of (hts _ (lt_ok 144 (by decide +kernel))), va_AO.of (hts _ (lt_ok 252 (by decide +kernel))), AI.of (hts (.arrayOver (.array .int)) (lt_ok 283 (by decide +kernel)))⟩
theorem st_str (hfn : ∀ w ∈ FN, w.before args s = true) {A : Nat → Prop} (hA : ∀ a : Nat, a < s.heap.size → ¬ A a) {q : String × Nat × String} (hq : q ∈ SL) : ∃ z : Nat × Nat, (Term.string q.1 q.2.1).eval args s none [] s = some (.ref z.1) ∧ va_O "java/lang/String" z.1 A s s.heap ∧ va_OF "java/lang/String" "coder" "B" (.int 0) z.1 A s s.heap ∧ va_OF "java/lang/String" "value" "[B" (.ref z.2) z.1 A s s.heap ∧ va_T .byte z.2 (byS q.2.2).length (fun j => .int ((byS q.2.2).getD j 0)) A s s.heap := by
  have hw := (sp_of hq).1
  have h1 := hfn _ (hw (.exactly (.string q.1 q.2.1) "java/lang/String") (List.mem_append_left _ List.mem_cons_self))
  have h2 := hfn _ (hw (.eq (.field (.string q.1 q.2.1) "java/lang/String" "coder" "B") (.int 0)) (List.mem_append_left _ (List.mem_cons_of_mem _ List.mem_cons_self)))
  have h3 := hfn _ (hw (.arrayOf (.field (.string q.1 q.2.1) "java/lang/String" "value" "[B") .byte) (List.mem_append_left _ (List.mem_cons_of_mem _ (List.mem_cons_of_mem _ List.mem_cons_self))))
  have h4 := hfn _ (hw (.eq (.length (.field (.string q.1 q.2.1) "java/lang/String" "value" "[B")) (.int (Int32.ofNat (byS q.2.2).length))) (List.mem_append_left _ (List.mem_cons_of_mem _ (List.mem_cons_of_mem _ (List.mem_cons_of_mem _ List.mem_cons_self)))))
  have h9 : (byS q.2.2).length < 2 ^ 31 := Nat.lt_trans (sx_len q hq) (by decide)
  obtain ⟨a, c, cA, kA, q1, q2, q3, q4, q5, q6, -⟩ := Cond.exactly_spec (args := args) (first := s) (o := none) (s := s) (idx := []) (t := .string q.1 q.2.1) (cls := "java/lang/String") h1
  obtain ⟨t, ht, hT⟩ := va_Tof (f := fun j => .int ((byS q.2.2).getD j 0)) (A := A) h9 h3 (va_eqt h4) (fun j hj => va_eqt (hfn _ (hw _ (sx_el q hj)))) hA
  exact ⟨(a, t), q1, ⟨cA, q3, q5, by rw [q6]; exact q2, hA a (Array.getElem?_eq_some_iff.mp q3).1⟩, vk_OFof q1 (va_eqt h2) hA, vk_OFof q1 ht hA, hT⟩
theorem st_dig {nm : String} {f : Nat → Nat} {k : Nat} (hfn : ∀ w ∈ FN, w.before args s = true) {A : Nat → Prop} (hA : ∀ a : Nat, a < s.heap.size → ¬ A a) (h : (FN.drop k).take 102 = dgx nm f) (hl : (Cond.laysStatic "java/lang/Integer" nm "[B").before args s = true) (hini : (Cond.initialized "java/lang/Integer").before args s = true) : ∃ t : Nat, va_Z "java/lang/Integer" nm "[B" (.ref t) A s s.heap ∧ va_T .byte t 100 (fun j => .int (nI (48 + f j))) A s s.heap := by
  have hw : ∀ w ∈ dgx nm f, w.before args s = true := fun w hw => hfn w (by rw [← h] at hw; exact List.mem_of_mem_drop (List.mem_of_mem_take hw))
  have h3 := hw (.arrayOf (.static "java/lang/Integer" nm "[B") .byte) List.mem_cons_self
  have h4 := hw (.eq (.length (.static "java/lang/Integer" nm "[B")) (.int (Int32.ofNat 100))) (List.mem_cons_of_mem _ List.mem_cons_self)
  obtain ⟨t, ht, hT⟩ := va_Tof (f := fun j => .int (nI (48 + f j))) (A := A) (by decide) h3 (va_eqt h4) (fun j hj => va_eqt (hw _ (List.mem_append_right _ (List.mem_map.mpr ⟨j, List.mem_range.mpr hj, rfl⟩)))) hA
  exact ⟨t, va_Zof hl hini ht hA, hT⟩
theorem st_G (hts : ∀ w ∈ lw_tbl, w.before args s = true) (hfn : ∀ w ∈ FN, w.before args s = true) {b L : Nat} {xs : Nat → Int32} (hX : va_X b L xs s s.heap) (hbl : b < s.heap.size) : ∃ G : LG, Kv G s ∧ Sv G s.heap.size s s.heap ∧ G.2.2.2.1 = [] ∧ G.2.2.2.2 = (b, L, xs) := by
  have hgw : ∀ w ∈ GW, w.before args s = true := st_gw hts
  have hA : ∀ a : Nat, a < s.heap.size → ¬ Ab s.heap.size a := fun a h1 h2 => Nat.not_le.mpr h1 h2
  have hc0 : ∀ c : Nat, ∃ z : ClassId × (Nat → Nat), ∀ q : vw_C, vwCl[c]? = some q → u_Kn s q.1 q.2.1 q.2.2 z.1 z.2 := by
    intro c
    cases hq : vwCl[c]? with
    | none => exact ⟨(0, fun _ => 0), fun q h => by cases h⟩
    | some q =>
      obtain ⟨h1, n, h2⟩ := vw_ok q (List.mem_of_getElem? hq)
      obtain ⟨cC, iS, h3⟩ := u_known hgw h1 (hgw _ h2)
      exact ⟨(cC, iS), fun q2 h => by cases h; exact h3⟩
  obtain ⟨fc, hfc⟩ := Classical.axiomOfChoice hc0
  have hs0 : ∀ i : Nat, ∃ z : Nat × Nat, ∀ q : String × Nat × String, SL[i]? = some q → (Term.string q.1 q.2.1).eval args s none [] s = some (.ref z.1) ∧ va_O "java/lang/String" z.1 (Ab s.heap.size) s s.heap ∧ va_OF "java/lang/String" "coder" "B" (.int 0) z.1 (Ab s.heap.size) s s.heap ∧ va_OF "java/lang/String" "value" "[B" (.ref z.2) z.1 (Ab s.heap.size) s s.heap ∧ va_T .byte z.2 (byS q.2.2).length (fun j => .int ((byS q.2.2).getD j 0)) (Ab s.heap.size) s s.heap := by
    intro i
    cases hq : SL[i]? with
    | none => exact ⟨(0, 0), fun q h => by cases h⟩
    | some q =>
      obtain ⟨z, hz⟩ := st_str hfn hA (List.mem_of_getElem? hq)
      exact ⟨z, fun q2 h => by cases h; exact hz⟩
  obtain ⟨fs, hfs⟩ := Classical.axiomOfChoice hs0
  have hAo := st_Ao hts
  obtain ⟨tT, hT1, hT2⟩ := st_dig hfn hA dg_T (hts _ (lt_ok 1012 (by decide +kernel))) (hgw _ q_104)
  obtain ⟨tO, hO1, hO2⟩ := st_dig hfn hA dg_O (hts _ (lt_ok 1010 (by decide +kernel))) (hgw _ q_104)
  obtain ⟨a0, b0, d0⟩ := st_prim hts q_275
  obtain ⟨a1, b1, d1⟩ := st_prim hts q_305
  obtain ⟨a2, b2, d2⟩ := st_prim hts q_1559
  obtain ⟨a3, b3, d3⟩ := st_prim hts q_458
  obtain ⟨a4, b4, d4⟩ := st_ref hAo.1
  obtain ⟨a5, b5, d5⟩ := st_ref hAo.2.1
  obtain ⟨a6, b6, d6⟩ := st_ref hAo.2.2.1
  obtain ⟨a7, b7, d7⟩ := st_ref hAo.2.2.2.1
  obtain ⟨a8, b8, d8⟩ := st_arr hAo.2.2.2.2
  have hlen : ∀ (i : Nat) (q : String × Nat × String), SL[i]? = some q → i < 100 := fun i q hq => Nat.lt_of_lt_of_le (List.getElem?_eq_some_iff.mp hq).1 (by decide +kernel)
  refine ⟨((fun c => (fc c).1, fun c => (fc c).2), fun t => [a0, a1, a2, a3, a4, a5, a6, a7, a8].getD t 0, fun i => if i < 100 then (fs i).1 else if i < 500 then (fs (i - 100)).2 else if i = 500 then tT else tO, [], b, L, xs), ⟨⟨fun c q hq => hfc c q hq, ?_⟩, fun w hw => va_Nw.of (nw_tab (List.mem_filter.mp hw).2) (hts w (List.mem_filter.mp hw).1), fun i q hq => ?_, fun q hq => va_Nc.of (hfn _ (nc_ok q hq))⟩, ⟨?_, ?_, fun i q hq => ?_, ?_, ?_, hX, hbl, hT1, hT2, hO1, hO2⟩, rfl, rfl⟩
  · intro k q hk
    rcases k with _ | _ | _ | _ | _ | _ | _ | _ | _ | k
    · cases hk
      exact ⟨b0, d0⟩
    · cases hk
      exact ⟨b1, d1⟩
    · cases hk
      exact ⟨b2, d2⟩
    · cases hk
      exact ⟨b3, d3⟩
    · cases hk
      exact ⟨b4, d4⟩
    · cases hk
      exact ⟨b5, d5⟩
    · cases hk
      exact ⟨b6, d6⟩
    · cases hk
      exact ⟨b7, d7⟩
    · cases hk
      exact ⟨b8, d8⟩
    · exact absurd hk (by simp [tyL])
  · have h1 := (hfs i q hq).1
    have h2 := hts _ (sp_of (List.mem_of_getElem? hq)).2
    show vk_R q.1 q.2.1 q.2.2 (if i < 100 then (fs i).1 else if i < 500 then (fs (i - 100)).2 else if i = 500 then tT else tO) s
    rw [if_pos (hlen i q hq)]
    exact vk_R.of h2 h1
  · exact vx_Zqof (hts _ (lt_ok 401 (by decide +kernel))) (hgw _ q_105) (hfn _ fn_ok.1) hA
  · exact vx_Zqof (hts _ (lt_ok 403 (by decide +kernel))) (hgw _ q_105) (hfn _ fn_ok.2.1) hA
  · have h1 := (hfs i q hq).2
    show va_O "java/lang/String" (if i < 100 then (fs i).1 else if i < 500 then (fs (i - 100)).2 else if i = 500 then tT else tO) _ s s.heap ∧ va_OF "java/lang/String" "coder" "B" (.int 0) (if i < 100 then (fs i).1 else if i < 500 then (fs (i - 100)).2 else if i = 500 then tT else tO) _ s s.heap ∧ va_OF "java/lang/String" "value" "[B" (.ref (if 100 + i < 100 then (fs (100 + i)).1 else if 100 + i < 500 then (fs (100 + i - 100)).2 else if 100 + i = 500 then tT else tO)) (if i < 100 then (fs i).1 else if i < 500 then (fs (i - 100)).2 else if i = 500 then tT else tO) _ s s.heap ∧ va_T .byte (if 100 + i < 100 then (fs (100 + i)).1 else if 100 + i < 500 then (fs (100 + i - 100)).2 else if 100 + i = 500 then tT else tO) _ _ _ s s.heap
    have h9 := hlen i q hq
    rw [if_pos h9, if_neg (show ¬ 100 + i < 100 by omega), if_pos (show 100 + i < 500 by omega), Nat.add_sub_cancel_left]
    exact h1
  · exact va_Zof (hts _ (lt_ok 858 (by decide +kernel))) (hgw _ q_111) (va_eqi (hfn _ fn_ok.2.2.1)) hA
  · exact va_Zqof (hts _ (lt_ok 940 (by decide +kernel))) (hgw _ q_121) (hfn _ fn_ok.2.2.2) hA
end ST
