/-- the digits of a number below 100 -/
def dgs (k : Nat) : List Int32 := if k < 10 then [nI (48 + k)] else [nI (48 + k / 10), nI (48 + k % 10)]
theorem dgs_len (k : Nat) : (dgs k).length = if k < 10 then 1 else 2 := by
  unfold dgs
  split <;> rfl
theorem nI_m1 (n : Nat) : nI (n + 1) + (-1) = nI n := by
  rw [← nI_pred n, ← Int32.add_sub_cancel (nI (n + 1) - 1) 1, Int32.sub_add_cancel]
  rw [Int32.sub_eq_add_neg]
theorem ng_dec0 : ∀ k : Fin 100, ((-nI k.val ≤ (-10 : Int32)) ↔ 10 ≤ k.val) ∧ ¬ (-nI k.val ≤ (-100 : Int32)) ∧ ((-100 : Int32) < -nI k.val) ∧ (((-9 : Int32) ≤ -nI k.val) ↔ k.val < 10) ∧ -(-nI k.val) = nI k.val ∧ (nI (48 + k.val % 10)).toInt8.toInt32 = nI (48 + k.val % 10) ∧ (nI (48 + k.val / 10)).toInt8.toInt32 = nI (48 + k.val / 10) ∧ fits .byte (.int (nI (48 + k.val % 10))) = true ∧ fits .byte (.int (nI (48 + k.val / 10))) = true ∧ ¬ nI k.val < 0 ∧ (0 : Int32) ≤ nI k.val := by decide +kernel
theorem ng_dec (k : Nat) (hk : k < 100) : ((-nI k ≤ (-10 : Int32)) ↔ 10 ≤ k) ∧ ¬ (-nI k ≤ (-100 : Int32)) ∧ ((-100 : Int32) < -nI k) ∧ (((-9 : Int32) ≤ -nI k) ↔ k < 10) ∧ -(-nI k) = nI k ∧ (nI (48 + k % 10)).toInt8.toInt32 = nI (48 + k % 10) ∧ (nI (48 + k / 10)).toInt8.toInt32 = nI (48 + k / 10) ∧ fits .byte (.int (nI (48 + k % 10))) = true ∧ fits .byte (.int (nI (48 + k / 10))) = true ∧ ¬ nI k < 0 ∧ (0 : Int32) ≤ nI k := ng_dec0 ⟨k, hk⟩
theorem Bf.upA {f : Nat → Int32} (h : Bf f) {j : Nat} {x : Int32} (hx : fits .byte (.int x) = true) : Bf (updA f j x) := fun q => by
  unfold updA
  split
  · exact hx
  · exact h q
def QJ (b0 : Nat) (P : State → Prop) : Array Value → State → Outcome → State → Prop := va_Qi (fun _ (_ : Unit) => True) (fun _ t => P t) (Ab b0)
section SJ
variable {p : Program} {l : Launch} {e : Env} {R : Room} {s : State} {m : MethodId} {args : Array Value} {below : List Frame} {meth : Method} {c : Code} {H : Heap} {locs : List Loc} {cells slots : Nat} {Q : State → Prop}
variable {cc : ByteArray} {pc : Nat} {ls : Array Slot} {rest st0 : List Value} {G : LG} {b0 : Nat} {V V1 : St} {own : String} {nL index : Nat} {ret0 : Option FieldType} {ar : Array Value}
theorem fin_j (C : Cx p l s m args meth c G b0 own cc nL (some .int)) (hV : Hd G b0 V H) (hS : va_S (Ab b0) s.heap H locs) {w N : Nat} (hw : w ≤ N) {v : Int32} {P : State → Prop} (hP : ∀ t : State, Iv G b0 V t → P t) (hdg : decode cc pc = .ok (.ireturn, 1)) : W p l e R s m args below meth c H locs w (6 * w) (MQ below (QJ b0 P) args s N (6 * N) (Ab b0)) (F0 m pc ls [.int v]) := by
  obtain ⟨hx, hb, hr, -, -, -, hlocks, hK, hSv⟩ := C
  exact W.widen hw (Nat.mul_le_mul_left 6 hw) (W.iret (v := v) hx hb hr (fun t ht hW => ⟨⟨v, (), rfl, trivial, hP t (Iv.mk hK hSv hV hS ht hW)⟩, hS.F ht⟩) hS.2.2 hdg)
theorem cal_j {w k : Nat} {P : State → Prop} (hr : va_Run p l e R s m args below meth c H locs w (6 * w) k (6 * k) (F0 m pc ls st0) rest (QJ b0 P ar) (Ab b0)) (hS : va_S (Ab b0) s.heap H locs)
    (kk : ∀ (x : Int32) (t : State) (H1 : Heap) (locs1 : List Loc), P t → t.heap = H1 → va_S (Ab b0) s.heap H1 locs1 → W p l e R s m args below meth c H1 locs1 (w + k) (6 * (w + k)) Q (F0 m (pc + 3) ls (.int x :: rest))) : W p l e R s m args below meth c H locs w (6 * w) Q (F0 m pc ls st0) :=
  va_calli hr hS (fun _ _ h => h) (fun _ h => h) (fun x u t H1 locs1 ht hvm hw hB hz hk hS1 => by
    rw [← Nat.mul_add]
    exact kk x t H1 locs1 hB ht hS1)
theorem x_obj (C : Cx p l s m args meth c G b0 own cc nL ret0) (hl : Cond.methodLink own index ⟨"java/lang/Object", "<init>", "()V"⟩ ∈ GW) (hls : ls.size = nL) {b : Nat} (hfr : 1 ≤ R.frames) (hlo : 60 ≤ R.locals) (hn : (rest.map fun v => v.category).sum ≤ 8) (hdg : decode cc pc = .ok (.invokespecial index, 3))
    (kk : W p l e R s m args below meth c H locs cells slots Q (F0 m (pc + 3) ls rest)) : W p l e R s m args below meth c H locs cells slots Q (F0 m pc ls (.ref b :: rest)) := by
  obtain ⟨hx, hb, hr, hml, hown, hts, hlocks, hK, hSv⟩ := C
  refine W.objInit hx hb hown (hts _ hl) (hts _ q_131) (hts _ q_132) rfl (hls.trans hml.symm) rfl hdg hfr ?_ kk
  have h9 : 2 * (F0 m pc ls (.ref b :: rest)).monitorRoom + (rest.map fun v => v.category).sum ≤ 8 := lv_room hn
  omega
/-- the length that a builder is asked for by its superclass's name -/
theorem run_O {w a bv : Nat} {n ml : Int32} (C : Cx p l s m args meth c G b0 own cc nL ret0) (hV : Hd G b0 V H) (hS : va_S (Ab b0) s.heap H locs) (hm : ((a, sbE bv n ml) : Nat × va_E) ∈ G.2.2.2.1) (hl : Cond.methodLink own index yJ5_length_8abf5 ∈ GW) (hfr : 2 ≤ R.frames) (hlo : 90 ≤ R.locals) (hls : ls.size = nL) (hst : st0 = .ref a :: rest) (hn : (rest.map fun v => v.category).sum ≤ 8) (hdg : decode cc pc = .ok (.invokevirtual index, 3)) (hcs : w + 0 ≤ R.cells ∧ 6 * w + 6 * 0 ≤ R.slots) :
    va_Run p l e R s m args below meth c H locs w (6 * w) 0 (6 * 0) (F0 m pc ls st0) rest (QI G b0 n V (Value.ref a :: []).toArray) (Ab b0) := by
  obtain ⟨hx, hb, hr, hml, hown, hts, hlocks, hK, hSv⟩ := C
  have hG : GoodIn GW (va_wsO own index "java/lang/StringBuilder" "java/lang/AbstractStringBuilder" yJ5_length_8abf5 yJ4_length_8abf5 (wy yJ4_length_8abf5 cJ4_length_8abf5 1 (some .int))) := by
    intro w hw
    rcases List.mem_append.mp hw with h | h
    · have h9 : w ∈ GW := by
        simp only [List.mem_cons, List.not_mem_nil, or_false] at h
        rcases h with rfl | rfl | rfl | rfl | rfl | rfl
        · exact hl
        · exact q_1043
        · exact q_1042
        · exact q_1044
        · exact q_1045
        · exact q_116
      exact ⟨h9, good_of_word (gw_good _ h9)⟩
    · exact gi_wy q_1046 w h
  exact va_runU (As := []) (rest := rest) ⟨hx, hb, hml, hown, hts⟩ (c_len4 l G b0 V a bv n ml hm) (va_cwO 0 hts hG rfl rfl rfl (b0 := cJ5_length_8abf5) (m0 := 1) (r0 := some .int) q_1048 ⟨by decide +kernel, by decide +kernel, by decide +kernel⟩ ⟨hfr, by show 8 + (1 + 11) + 60 * 1 ≤ R.locals; omega⟩) ⟨fun a U g mk q => ⟨q.1, q.2.blind⟩, rcv_m hK hV hm (ci := 1) rfl, fun U hU hW => ⟨rfl, Iv.mk hK hSv hV hS hU hW⟩⟩ rfl rfl hls hst (lv_room hn) hdg hcs
end SJ
theorem ab_ext {G : LG} {a N : Nat} {f g : Nat → Int32} {H : Heap} (h : va_at G.1 vwCl (a, ab G N f) H) (e : ∀ j, j < N → f j = g j) : va_at G.1 vwCl (a, ab G N g) H := by
  have h0 : H[a]? = some (arrV (G.2.1 3) N (fun j => .int (f j))) := h
  show H[a]? = some (arrV (G.2.1 3) N (fun j => .int (g j)))
  rw [h0]
  unfold arrV
  congr 2
  congr 1
  funext j
  exact congrArg Value.int (e j.val j.isLt)
set_option maxHeartbeats 4000000 in
set_option maxRecDepth 100000 in
theorem c_ssize (l : Launch) (G : LG) (b0 : Nat) (V : St) (k : Nat) (hk : k < 100) : Met l yJ6_stringSize_0f7a4 (wy yJ6_stringSize_0f7a4 cJ6_stringSize_0f7a4 4 (some .int)) (rmc 0 0) (va_Pc [.int (nI k)] (Iv G b0 V)) (QI G b0 (nI (dgs k).length) V) 0 (6 * 0) (Ab b0) := by
  refine mk_c (by decide +kernel) (Nat.le_of_ble_eq_true rfl) ?_
  intro p e s m below meth c C hV hS ls hl
  obtain ⟨args, hargs⟩ : ∃ z, z = ([.int (nI k)] : List Value).toArray := ⟨_, rfl⟩
  rw [← hargs] at C ⊢
  obtain ⟨hx, hb, hrt, hml, hown, hts, hlocks, hK, hSv⟩ := id C
  have hl : lv_has ls 4 [(0, .int (nI k))] := hl
  obtain ⟨g1, g2, g3, g4, g5, g6, g7, g8, g9, g10, g11⟩ := ng_dec k hk
  refine lv_iconst (v := 1) hx hb dJ6_stringSize_0f7a4_0 (by decide) ?_
  refine lv_istore_n (lv' := [(1, .int 1), (0, .int (nI k))]) hx hb dJ6_stringSize_0f7a4_1 rfl hl (by decide) rfl (fun ls hl => ?_)
  refine lv_iload_n hx hb dJ6_stringSize_0f7a4_2 rfl (lv_at hl 1 rfl) ?_
  refine lv_if_lt (tgt := 11) hx hb dJ6_stringSize_0f7a4_3 (by decide) (fun b => absurd b g10) (fun _ => ?_)
  refine lv_iconst (v := 0) hx hb dJ6_stringSize_0f7a4_6 (by decide) ?_
  refine lv_istore_n (lv' := [(1, .int 0), (0, .int (nI k))]) hx hb dJ6_stringSize_0f7a4_7 rfl hl (by decide) rfl (fun ls hl => ?_)
  refine lv_iload_n hx hb dJ6_stringSize_0f7a4_8 rfl (lv_at hl 1 rfl) ?_
  refine lv_ineg hx hb dJ6_stringSize_0f7a4_9 ?_
  refine lv_istore_n (lv' := [(0, .int (-nI k)), (1, .int 0)]) hx hb dJ6_stringSize_0f7a4_10 rfl hl (by decide) rfl (fun ls hl => ?_)
  refine lv_bipush (v := (-10)) hx hb dJ6_stringSize_0f7a4_11 (by decide) ?_
  refine lv_istore_n (lv' := [(2, .int (-10)), (0, .int (-nI k)), (1, .int 0)]) hx hb dJ6_stringSize_0f7a4_13 rfl hl (by decide) rfl (fun ls hl => ?_)
  refine lv_iconst (v := 1) hx hb dJ6_stringSize_0f7a4_14 (by decide) ?_
  refine lv_istore_n (lv' := [(3, .int 1), (2, .int (-10)), (0, .int (-nI k)), (1, .int 0)]) hx hb dJ6_stringSize_0f7a4_15 rfl hl (by decide) rfl (fun ls hl => ?_)
  refine lv_iload_n hx hb dJ6_stringSize_0f7a4_16 rfl (lv_at hl 0 rfl) ?_
  refine lv_bipush (v := 10) hx hb dJ6_stringSize_0f7a4_17 (by decide) ?_
  refine lv_icmp_ge (tgt := 42) hx hb dJ6_stringSize_0f7a4_19 (by decide) (fun b => absurd b (by decide)) (fun _ => ?_)
  refine lv_iload_n hx hb dJ6_stringSize_0f7a4_22 rfl (lv_at hl 2 rfl) ?_
  refine lv_iload_n hx hb dJ6_stringSize_0f7a4_23 rfl (lv_at hl 1 rfl) ?_
  refine lv_icmp_le (tgt := 31) hx hb dJ6_stringSize_0f7a4_24 (by decide) (fun b => ?_) (fun b => ?_)
  · have b2 : ¬ k < 10 := fun z => by have := g1.mp b; omega
    refine lv_bipush (v := 10) hx hb dJ6_stringSize_0f7a4_31 (by decide) ?_
    refine lv_iload_n hx hb dJ6_stringSize_0f7a4_33 rfl (lv_at hl 1 rfl) ?_
    refine lv_imul hx hb dJ6_stringSize_0f7a4_34 ?_
    refine lv_istore_n (lv' := [(2, .int ((10 : Int32) * (-10))), (3, .int 1), (0, .int (-nI k)), (1, .int 0)]) hx hb dJ6_stringSize_0f7a4_35 rfl hl (by decide) rfl (fun ls hl => ?_)
    refine lv_iinc (v := 2) (lv' := [(3, .int 2), (2, .int ((10 : Int32) * (-10))), (0, .int (-nI k)), (1, .int 0)]) hx hb dJ6_stringSize_0f7a4_36 hl (k := 1) rfl rfl (by decide) rfl (fun ls hl => ?_)
    refine lv_goto (tgt := 16) hx hb dJ6_stringSize_0f7a4_39 (by decide) ?_
    refine lv_iload_n hx hb dJ6_stringSize_0f7a4_16 rfl (lv_at hl 0 rfl) ?_
    refine lv_bipush (v := 10) hx hb dJ6_stringSize_0f7a4_17 (by decide) ?_
    refine lv_icmp_ge (tgt := 42) hx hb dJ6_stringSize_0f7a4_19 (by decide) (fun b => absurd b (by decide)) (fun _ => ?_)
    refine lv_iload_n hx hb dJ6_stringSize_0f7a4_22 rfl (lv_at hl 2 rfl) ?_
    refine lv_iload_n hx hb dJ6_stringSize_0f7a4_23 rfl (lv_at hl 1 rfl) ?_
    refine lv_icmp_le (tgt := 31) hx hb dJ6_stringSize_0f7a4_24 (by decide) (fun b => absurd b g2) (fun _ => ?_)
    refine lv_iload_n hx hb dJ6_stringSize_0f7a4_27 rfl (lv_at hl 0 rfl) ?_
    refine lv_iload_n hx hb dJ6_stringSize_0f7a4_28 rfl (lv_at hl 3 rfl) ?_
    refine lv_iadd hx hb dJ6_stringSize_0f7a4_29 ?_
    exact fin_ic (w := 0) C hV hS (by decide) (by rw [dgs_len, if_neg b2]; rfl) dJ6_stringSize_0f7a4_30
  · have b2 : k < 10 := Nat.not_le.mp fun z => b (g1.mpr z)
    refine lv_iload_n hx hb dJ6_stringSize_0f7a4_27 rfl (lv_at hl 0 rfl) ?_
    refine lv_iload_n hx hb dJ6_stringSize_0f7a4_28 rfl (lv_at hl 3 rfl) ?_
    refine lv_iadd hx hb dJ6_stringSize_0f7a4_29 ?_
    exact fin_ic (w := 0) C hV hS (by decide) (by rw [dgs_len, if_pos b2]; rfl) dJ6_stringSize_0f7a4_30
set_option maxHeartbeats 4000000 in
set_option maxRecDepth 100000 in
theorem c_getC (l : Launch) (G : LG) (b0 : Nat) (V : St) (k i9 bv m9 : Nat) (hk : k < 100) (f : Nat → Int32) (hF : Fr G b0 bv) (hf : Bf f) (hi9 : i9 + (dgs k).length ≤ m9) (hm9 : m9 < 100) : Met l yJ6_getChars_ba4f3 (wy yJ6_getChars_ba4f3 cJ6_getChars_ba4f3 7 (some .int)) (rmc 0 0) (va_Pc [.int (nI k), .int (nI (i9 + (dgs k).length)), .ref bv] (Iv (xg G bv (ab G m9 f)) b0 V)) (QJ b0 (fun t => ∃ f9, Bf f9 ∧ (∀ j, j < i9 → f9 j = f j) ∧ (∀ j, j < (dgs k).length → f9 (i9 + j) = tby (dgs k) j) ∧ Iv (xg G bv (ab G m9 f9)) b0 V t)) 0 (6 * 0) (Ab b0) := by
  refine mk_c (by decide +kernel) (Nat.le_of_ble_eq_true rfl) ?_
  intro p e s m below meth c C hV hS ls hl
  obtain ⟨args, hargs⟩ : ∃ z, z = ([.int (nI k), .int (nI (i9 + (dgs k).length)), .ref bv] : List Value).toArray := ⟨_, rfl⟩
  rw [← hargs] at C ⊢
  obtain ⟨hx, hb, hrt, hml, hown, hts, hlocks, hK, hSv⟩ := id C
  have hl : lv_has ls 7 [(0, .int (nI k)), (1, .int (nI (i9 + (dgs k).length))), (2, .ref bv)] := hl
  obtain ⟨g1, g2, g3, g4, g5, g6, g7, g8, g9, g10, g11⟩ := ng_dec k hk
  have hD : DgS G b0 s s.heap := hSv.2.2.2.2.2.2.2
  have C2 : Cx p l s m args meth c G b0 yJ6_getChars_ba4f3.cls cJ6_getChars_ba4f3 7 (some .int) := C
  refine lv_iload_n hx hb dJ6_getChars_ba4f3_0 rfl (lv_at hl 1 rfl) ?_
  refine lv_istore (lv' := [(5, .int (nI (i9 + (dgs k).length))), (0, .int (nI k)), (1, .int (nI (i9 + (dgs k).length))), (2, .ref bv)]) hx hb dJ6_getChars_ba4f3_1 hl (by decide) rfl (fun ls hl => ?_)
  refine lv_iload_n hx hb dJ6_getChars_ba4f3_3 rfl (lv_at hl 1 rfl) ?_
  refine lv_if_ge (tgt := 11) hx hb dJ6_getChars_ba4f3_4 (by decide) (fun _ => ?_) (fun b => absurd g11 b)
  refine lv_iconst (v := 0) hx hb dJ6_getChars_ba4f3_11 (by decide) ?_
  refine lv_istore (lv' := [(6, .int 0), (5, .int (nI (i9 + (dgs k).length))), (0, .int (nI k)), (1, .int (nI (i9 + (dgs k).length))), (2, .ref bv)]) hx hb dJ6_getChars_ba4f3_12 hl (by decide) rfl (fun ls hl => ?_)
  refine lv_iload hx hb dJ6_getChars_ba4f3_14 (lv_at hl 0 rfl) ?_
  refine lv_if_ne (tgt := 22) hx hb dJ6_getChars_ba4f3_16 (by decide) (fun b => absurd rfl b) (fun _ => ?_)
  refine lv_iload_n hx hb dJ6_getChars_ba4f3_19 rfl (lv_at hl 2 rfl) ?_
  refine lv_ineg hx hb dJ6_getChars_ba4f3_20 ?_
  refine lv_istore_n (lv' := [(0, .int (-nI k)), (6, .int 0), (5, .int (nI (i9 + (dgs k).length))), (1, .int (nI (i9 + (dgs k).length))), (2, .ref bv)]) hx hb dJ6_getChars_ba4f3_21 rfl hl (by decide) rfl (fun ls hl => ?_)
  refine lv_iload_n hx hb dJ6_getChars_ba4f3_22 rfl (lv_at hl 0 rfl) ?_
  refine lv_bipush (v := (-100)) hx hb dJ6_getChars_ba4f3_23 (by decide) ?_
  refine lv_icmp_gt (tgt := 72) hx hb dJ6_getChars_ba4f3_25 (by decide) (fun _ => ?_) (fun b => absurd g3 b)
  refine lv_aload_n hx hb dJ6_getChars_ba4f3_72 rfl (lv_at hl 4 rfl) ?_
  obtain ⟨i1, hi1⟩ : ∃ i1, i9 + (dgs k).length = i1 + 1 := ⟨i9 + (dgs k).length - 1, by rw [dgs_len]; split <;> omega⟩
  rw [hi1] at hl
  refine lv_iinc (v := nI i1) (lv' := [(5, .int (nI i1)), (0, .int (-nI k)), (6, .int 0), (1, .int (nI (i1 + 1))), (2, .ref bv)]) hx hb dJ6_getChars_ba4f3_73 hl (k := 2) rfl (nI_m1 i1) (by decide) rfl (fun ls hl => ?_)
  refine lv_iload hx hb dJ6_getChars_ba4f3_76 (lv_at hl 0 rfl) ?_
  refine va_gets hx hb hD.2.2.1 hS hown (hts _ q_1009) (fun _ h => h) dJ6_getChars_ba4f3_78 ?_
  refine lv_iload_n hx hb dJ6_getChars_ba4f3_81 rfl (lv_at hl 1 rfl) ?_
  refine lv_ineg hx hb dJ6_getChars_ba4f3_82 ?_
  rw [g5]
  refine va_tb (v := .int (nI (48 + k % 10))) hx hb hD.2.2.2 hS (vp_in_nI (n := k) hk (by decide)) (by show Value.int (nI (48 + (nI k).toNatClampNeg % 10)) = _; rw [nI_clamp (by omega)]) dJ6_getChars_ba4f3_83 ?_
  refine x_bast C2 hV hF hS (ix_nI (j := i1) (by omega) (by omega)) g6 dJ6_getChars_ba4f3_84 (fun H locs hV hS => ?_)
  refine lv_iload_n hx hb dJ6_getChars_ba4f3_85 rfl (lv_at hl 1 rfl) ?_
  refine lv_bipush (v := (-9)) hx hb dJ6_getChars_ba4f3_86 (by decide) ?_
  refine lv_icmp_ge (tgt := 104) hx hb dJ6_getChars_ba4f3_88 (by decide) (fun b => ?_) (fun b => ?_)
  · have b2 : k < 10 := g4.mp b
    refine lv_iload hx hb dJ6_getChars_ba4f3_104 (lv_at hl 2 rfl) ?_
    refine lv_if_eq (tgt := 118) hx hb dJ6_getChars_ba4f3_106 (by decide) (fun _ => ?_) (fun b => absurd rfl b)
    refine lv_iload hx hb dJ6_getChars_ba4f3_118 (lv_at hl 0 rfl) ?_
    have hlen : (dgs k).length = 1 := by rw [dgs_len, if_pos b2]
    have hii : i1 = i9 := by omega
    subst hii
    refine fin_j (w := 0) C2.x hV hS (by decide) (fun t ht => ⟨_, hf.upA g8, fun j hj => ?_, fun j hj => ?_, ht⟩) dJ6_getChars_ba4f3_120
    · unfold updA; rw [if_neg (by omega)]
    · have hj0 : j = 0 := by omega
      subst hj0
      unfold updA tby dgs
      rw [if_pos b2, if_pos (Nat.add_zero _), show k % 10 = k by omega]
      rfl
  · have b2 : ¬ k < 10 := fun z => b (g4.mpr z)
    have hlen : (dgs k).length = 2 := by rw [dgs_len, if_neg b2]
    have hii : i1 = i9 + 1 := by omega
    subst hii
    refine lv_aload_n hx hb dJ6_getChars_ba4f3_91 rfl (lv_at hl 4 rfl) ?_
    refine lv_iinc (v := nI i9) (lv' := [(5, .int (nI i9)), (0, .int (-nI k)), (6, .int 0), (1, .int (nI (i9 + 1 + 1))), (2, .ref bv)]) hx hb dJ6_getChars_ba4f3_92 hl (k := 0) rfl (nI_m1 i9) (by decide) rfl (fun ls hl => ?_)
    refine lv_iload hx hb dJ6_getChars_ba4f3_95 (lv_at hl 0 rfl) ?_
    refine va_gets hx hb hD.1 hS hown (hts _ q_1011) (fun _ h => h) dJ6_getChars_ba4f3_97 ?_
    refine lv_iload_n hx hb dJ6_getChars_ba4f3_100 rfl (lv_at hl 1 rfl) ?_
    refine lv_ineg hx hb dJ6_getChars_ba4f3_101 ?_
    rw [g5]
    refine va_tb (v := .int (nI (48 + k / 10))) hx hb hD.2.1 hS (vp_in_nI (n := k) hk (by decide)) (by show Value.int (nI (48 + (nI k).toNatClampNeg / 10)) = _; rw [nI_clamp (by omega)]) dJ6_getChars_ba4f3_102 ?_
    refine x_bast C2 hV hF hS (ix_nI (j := i9) (by omega) (by omega)) g7 dJ6_getChars_ba4f3_103 (fun H locs hV hS => ?_)
    refine lv_iload hx hb dJ6_getChars_ba4f3_104 (lv_at hl 2 rfl) ?_
    refine lv_if_eq (tgt := 118) hx hb dJ6_getChars_ba4f3_106 (by decide) (fun _ => ?_) (fun b => absurd rfl b)
    refine lv_iload hx hb dJ6_getChars_ba4f3_118 (lv_at hl 0 rfl) ?_
    refine fin_j (w := 0) C2.x hV hS (by decide) (fun t ht => ⟨_, (hf.upA g8).upA g9, fun j hj => ?_, fun j hj => ?_, ht⟩) dJ6_getChars_ba4f3_120
    · unfold updA; rw [if_neg (by omega), if_neg (by omega)]
    · have hj0 : j = 0 ∨ j = 1 := by omega
      rcases hj0 with rfl | rfl
      · unfold updA tby dgs
        rw [if_neg b2, if_pos (Nat.add_zero _)]
        rfl
      · unfold updA tby dgs
        rw [if_neg b2, if_neg (by omega), if_pos rfl]
        rfl
set_option maxHeartbeats 4000000 in
set_option maxRecDepth 100000 in
theorem c_app5i (l : Launch) (G : LG) (b0 : Nat) (V : St) (a bv m9 : Nat) (ml : Int32) (f : Nat → Int32) (hF : SbF G b0 a bv) (ts : List Int32) (hm9 : m9 = 16 ∨ m9 = 34) (hf : Bf f) (hts9 : ts.length ≤ m9) (hft : ∀ j, j < ts.length → f j = tby ts j) (k : Nat) (hk : k < 100) (hu : ts.length + (dgs k).length ≤ 34) : Met l yJ5_append_c97b9 (wy yJ5_append_c97b9 cJ5_append_c97b9 4 (some (.object "java/lang/AbstractStringBuilder"))) (rmc 4 6) (va_Pc [.ref a, .int (nI k)] (Iv (sg G a bv m9 (nI ts.length) ml f) b0 V)) (QP b0 (fun r t => r = a ∧ SBI G b0 V a (ts ++ dgs k) t)) 6 (6 * 6) (Ab b0) := by
  refine mk_c (by decide +kernel) (Nat.le_of_ble_eq_true rfl) ?_
  intro p e s m below meth c C hV hS ls hl
  obtain ⟨args, hargs⟩ : ∃ z, z = ([.ref a, .int (nI k)] : List Value).toArray := ⟨_, rfl⟩
  rw [← hargs] at C ⊢
  obtain ⟨hx, hb, hrt, hml, hown, hts, hlocks, hK, hSv⟩ := id C
  have hl : lv_has ls 4 [(0, .ref a), (1, .int (nI k))] := hl
  refine lv_aload_n hx hb dJ5_append_c97b9_0 rfl (lv_at hl 0 rfl) ?_
  refine x_getm C hV sg_a (ci := 1) rfl inJ4 3 (by decide) q_869 rfl rfl dJ5_append_c97b9_1 ?_
  refine lv_istore_n (lv' := [(2, .int (nI ts.length)), (0, .ref a), (1, .int (nI k))]) hx hb dJ5_append_c97b9_4 rfl hl (by decide) rfl (fun ls hl => ?_)
  refine lv_iload_n hx hb dJ5_append_c97b9_5 rfl (lv_at hl 0 rfl) ?_
  refine lv_iload_n hx hb dJ5_append_c97b9_6 rfl (lv_at hl 2 rfl) ?_
  refine cal_ic (run_C (As := [.int (nI k)]) (rest := [.int (nI ts.length)]) C hV hS (c_ssize l (sg G a bv m9 (nI ts.length) ml f) b0 V k hk) q_1003 q_1004 q_104 q_1005 dk_J6_stringSize_0f7a4 (rmc_ok (by decide) (by decide)) hl.1 rfl (Nat.le_of_ble_eq_true rfl) dJ5_append_c97b9_7 (rmc_cs (by decide))) hS (fun H locs hV hS => ?_)
  refine lv_iadd hx hb dJ5_append_c97b9_10 ?_
  rw [nI_add]
  refine lv_istore_n (lv' := [(3, .int (nI (ts.length + (dgs k).length))), (2, .int (nI ts.length)), (0, .ref a), (1, .int (nI k))]) hx hb dJ5_append_c97b9_11 rfl hl (by decide) rfl (fun ls hl => ?_)
  refine lv_aload_n hx hb dJ5_append_c97b9_12 rfl (lv_at hl 2 rfl) ?_
  refine lv_iload_n hx hb dJ5_append_c97b9_13 rfl (lv_at hl 0 rfl) ?_
  refine cal_n (run_K (As := [.int (nI (ts.length + (dgs k).length))]) (rest := []) C hV hS (c_ensure l G b0 V a bv m9 (nI ts.length) ml f hF (ts.length + (dgs k).length) hm9 hu hf) (rcv_m hK hV sg_a (ci := 1) rfl) (hts _ sx_2) q_891 q_893 q_115 q_894 dk_J5_ensureCapacityInternal_d00df (rmc_ok (by decide) (by decide)) hl.1 rfl (Nat.le_of_ble_eq_true rfl) dJ5_append_c97b9_14 (rmc_cs (by decide))) hS (fun t H locs hP ht hS => ?_)
  obtain ⟨bv2, m2, f2, p1, p2, p3, p4, p5, p6, p7⟩ := hP
  have hV : Hd (sg G a bv2 m2 (nI ts.length) ml f2) b0 V H := by rw [← ht]; exact p7.1
  have C : Cx p l s m args meth c (sg G a bv2 m2 (nI ts.length) ml f2) b0 yJ5_append_c97b9.cls cJ5_append_c97b9 4 (some (.object "java/lang/AbstractStringBuilder")) := C
  refine lv_aload_n hx hb dJ5_append_c97b9_17 rfl (lv_at hl 2 rfl) ?_
  refine cal_ic (run_K (As := []) (rest := []) C hV hS (c_isL5 l (sg G a bv2 m2 (nI ts.length) ml f2) b0 V a bv2 (nI ts.length) ml sg_a) (rcv_m (show Kv (sg G a bv2 m2 (nI ts.length) ml f2) s from hK) hV sg_a (ci := 1) rfl) (hts _ q_925) q_922 q_923 q_115 q_926 dk_J5_isLatin1_aae02 (rmc_ok (by decide) (by decide)) hl.1 rfl (Nat.le_of_ble_eq_true rfl) dJ5_append_c97b9_18 (rmc_cs (by decide))) hS (fun H locs hV hS => ?_)
  refine lv_if_eq (tgt := 37) hx hb dJ5_append_c97b9_21 (by decide) (fun b => absurd b (by decide)) (fun _ => ?_)
  refine lv_iload_n hx hb dJ5_append_c97b9_24 rfl (lv_at hl 3 rfl) ?_
  refine lv_iload_n hx hb dJ5_append_c97b9_25 rfl (lv_at hl 0 rfl) ?_
  refine lv_aload_n hx hb dJ5_append_c97b9_26 rfl (lv_at hl 2 rfl) ?_
  refine x_getm C hV sg_a (ci := 1) rfl inJ4 0 (by decide) q_866 rfl rfl dJ5_append_c97b9_27 ?_
  have hV := hV.swap
  have C2 : Cx p l s m args meth c (xg (xg G a (sbE bv2 (nI ts.length) ml)) bv2 (ab G m2 f2)) b0 yJ5_append_c97b9.cls cJ5_append_c97b9 4 (some (.object "java/lang/AbstractStringBuilder")) := C
  refine cal_j (run_C (As := [.int (nI k), .int (nI (ts.length + (dgs k).length)), .ref bv2]) (rest := []) C2 hV hS (c_getC l (xg G a (sbE bv2 (nI ts.length) ml)) b0 V k ts.length bv2 m2 hk f2 p6.b p4 p2 (by omega)) q_1006 q_1007 q_104 q_1008 dk_J6_getChars_ba4f3 (rmc_ok (by decide) (by decide)) hl.1 rfl (Nat.le_of_ble_eq_true rfl) dJ5_append_c97b9_30 (rmc_cs (by decide))) hS (fun x9 t H locs hP ht hS => ?_)
  obtain ⟨f3, o1, o2, o3, o4⟩ := hP
  have hV : Hd (xg (xg G a (sbE bv2 (nI ts.length) ml)) bv2 (ab G m2 f3)) b0 V H := by rw [← ht]; exact o4.1
  have hV := hV.swap
  refine lv_pop hx hb dJ5_append_c97b9_33 rfl ?_
  refine lv_goto (tgt := 48) hx hb dJ5_append_c97b9_34 (by decide) ?_
  refine lv_aload_n hx hb dJ5_append_c97b9_48 rfl (lv_at hl 2 rfl) ?_
  refine lv_iload_n hx hb dJ5_append_c97b9_49 rfl (lv_at hl 0 rfl) ?_
  have C3 : Cx p l s m args meth c (xg G bv2 (ab G m2 f3)) b0 yJ5_append_c97b9.cls cJ5_append_c97b9 4 (some (.object "java/lang/AbstractStringBuilder")) := C
  refine x_putm C3 hV p6.a hS (ci := 1) rfl inJ4 tyJ4 tyJ4_ok nmJ4 3 (by decide) q_869 rfl (fun h => by cases h) (ty := .int) (by decide +kernel) rfl rfl (Nat.le_of_ble_eq_true rfl) dJ5_append_c97b9_50 (fun H locs hV hS => ?_)
  have C4 : Cx p l s m args meth c (sg G a bv2 m2 (nI (ts.length + (dgs k).length)) ml f3) b0 yJ5_append_c97b9.cls cJ5_append_c97b9 4 (some (.object "java/lang/AbstractStringBuilder")) := C
  refine lv_aload_n hx hb dJ5_append_c97b9_53 rfl (lv_at hl 2 rfl) ?_
  refine fin_rp (w := 0 + 0 + 6 + 0 + 0) rfl C4 hV hS (by decide) (fun t ht => ⟨rfl, bv2, m2, ml, f3, p1, by rw [List.length_append]; exact p2, o1, fun j hj => ?_, p6, by rw [List.length_append]; exact ht⟩) dJ5_append_c97b9_54
  rw [List.length_append] at hj
  by_cases hj2 : j < ts.length
  · rw [o2 j hj2, p5 j (by omega), hft j hj2]
    unfold tby
    simp [List.getD_eq_getElem?_getD, List.getElem?_append_left hj2]
  · have e9 := o3 (j - ts.length) (by omega)
    rw [show ts.length + (j - ts.length) = j by omega] at e9
    rw [e9]
    unfold tby
    simp [List.getD_eq_getElem?_getD, List.getElem?_append_right (Nat.not_lt.mp hj2)]
set_option maxHeartbeats 4000000 in
set_option maxRecDepth 100000 in
theorem c_app4i (l : Launch) (G : LG) (b0 : Nat) (V : St) (a bv m9 : Nat) (ml : Int32) (f : Nat → Int32) (hF : SbF G b0 a bv) (ts : List Int32) (hm9 : m9 = 16 ∨ m9 = 34) (hf : Bf f) (hts9 : ts.length ≤ m9) (hft : ∀ j, j < ts.length → f j = tby ts j) (k : Nat) (hk : k < 100) (hu : ts.length + (dgs k).length ≤ 34) : Met l yJ4_append_bf812 (wy yJ4_append_bf812 cJ4_append_bf812 2 (some (.object "java/lang/StringBuilder"))) (rmc 5 6) (va_Pc [.ref a, .int (nI k)] (Iv (sg G a bv m9 (nI ts.length) ml f) b0 V)) (QP b0 (fun r t => r = a ∧ SBI G b0 V a (ts ++ dgs k) t)) 6 (6 * 6) (Ab b0) := by
  refine mk_c (by decide +kernel) (Nat.le_of_ble_eq_true rfl) ?_
  intro p e s m below meth c C hV hS ls hl
  obtain ⟨args, hargs⟩ : ∃ z, z = ([.ref a, .int (nI k)] : List Value).toArray := ⟨_, rfl⟩
  rw [← hargs] at C ⊢
  obtain ⟨hx, hb, hrt, hml, hown, hts, hlocks, hK, hSv⟩ := id C
  have hl : lv_has ls 2 [(0, .ref a), (1, .int (nI k))] := hl
  refine lv_aload_n hx hb dJ4_append_bf812_0 rfl (lv_at hl 0 rfl) ?_
  refine lv_iload_n hx hb dJ4_append_bf812_1 rfl (lv_at hl 1 rfl) ?_
  have hm := sg_a (G := G) (a := a) (bv := bv) (m := m9) (n := nI ts.length) (ml := ml) (f := f)
  refine cal_p (run_SU (As := [.int (nI k)]) (rest := []) C hV hS (c_app5i l G b0 V a bv m9 ml f hF ts hm9 hf hts9 hft k hk hu) hm (ci := 1) rfl q_1000 q_1568 q_878 q_1001 q_115 q_1002 (by decide) dk_J5_append_c97b9 (rmc_ok (by decide) (by decide)) hl.1 rfl (Nat.le_of_ble_eq_true rfl) dJ4_append_bf812_2 (rmc_cs (by decide))) hS (fun r t H locs hP ht hS => ?_)
  obtain ⟨rfl, bv2, m2, ml2, f2, p1, p2, p3, p4, p5, p6⟩ := hP
  have hV : Hd (sg G r bv2 m2 (nI (ts ++ dgs k).length) ml2 f2) b0 V H := by rw [← ht]; exact p6.1
  have C : Cx p l s m args meth c (sg G r bv2 m2 (nI (ts ++ dgs k).length) ml2 f2) b0 yJ4_append_bf812.cls cJ4_append_bf812 2 (some (.object "java/lang/StringBuilder")) := C
  refine lv_pop hx hb dJ4_append_bf812_5 rfl ?_
  refine lv_aload_n hx hb dJ4_append_bf812_6 rfl (lv_at hl 0 rfl) ?_
  exact fin_rp (w := 0 + 6) rfl C hV hS (by decide) (fun t ht => ⟨rfl, bv2, m2, ml2, f2, p1, p2, p3, p4, p5, ht⟩) dJ4_append_bf812_7
set_option maxHeartbeats 4000000 in
set_option maxRecDepth 100000 in
theorem c_sbI5 (l : Launch) (G : LG) (b0 : Nat) (V : St) (a : Nat) (hF : Fr G b0 a) : Met l yJ5_init_d00df (wy yJ5_init_d00df cJ5_init_d00df 2 none) (rmc 1 3) (va_Pc [.ref a, .int 16] (Iv (xg G a (.inr (1, [.null, .int 0, .int 0, .int 0]) : va_E)) b0 V)) (QN b0 (fun t => SBI G b0 V a [] t)) 3 (6 * 3) (Ab b0) := by
  refine mk_ci (by decide +kernel) rfl (Nat.le_of_ble_eq_true rfl) ?_
  intro p e s m below meth c C hN hV hS ls hl
  obtain ⟨args, hargs⟩ : ∃ z, z = ([.ref a, .int 16] : List Value).toArray := ⟨_, rfl⟩
  rw [← hargs] at C ⊢
  obtain ⟨hx, hb, hrt, hml, hown, hts, hlocks, hK, hSv⟩ := id C
  have hl : lv_has ls 2 [(0, .ref a), (1, .int 16)] := hl
  refine lv_aload_n hx hb dJ5_init_d00df_0 rfl (lv_at hl 0 rfl) ?_
  refine x_obj C q_856 hl.1 (Nat.le_refl _) (Nat.le_refl _) (Nat.le_of_ble_eq_true rfl) dJ5_init_d00df_1 ?_
  refine va_gets hx hb hSv.2.2.2.1 hS hown (hts _ q_857) (fun _ h => h) dJ5_init_d00df_4 ?_
  refine lv_if_eq (tgt := 25) hx hb dJ5_init_d00df_7 (by decide) (fun b => absurd b (by decide)) (fun _ => ?_)
  refine lv_aload_n hx hb dJ5_init_d00df_10 rfl (lv_at hl 0 rfl) ?_
  refine lv_iload_n hx hb dJ5_init_d00df_11 rfl (lv_at hl 1 rfl) ?_
  refine x_newb (w := 0) (u := 3) (N' := 16) C hV hS (by decide) (by decide) (by decide) ⟨by decide, by decide⟩ (rmc_cs (by decide)) dJ5_init_d00df_12 (fun b9 H hF9 hV hS => ?_)
  have hne : a ≠ b9 := fun e => hF9.2 _ List.mem_cons_self e
  have hSF : SbF G b0 a b9 := ⟨⟨hF9.1, fun x hx => hF9.2 x (List.mem_cons_of_mem _ hx)⟩, hF, hne⟩
  have hV := hV.swap
  have C2 : Cx p l s m args meth c (xg G b9 (ab G 16 (fun _ => 0))) b0 yJ5_init_d00df.cls cJ5_init_d00df 2 none := C
  refine x_putm C2 hV hSF.a hS (ci := 1) rfl inJ4 tyJ4 tyJ4_ok nmJ4 0 (by decide) q_866 rfl (fun h => by cases h) (ty := .array .byte) (by decide +kernel) rfl rfl (Nat.le_of_ble_eq_true rfl) dJ5_init_d00df_14 (fun H locs hV hS => ?_)
  refine lv_aload_n hx hb dJ5_init_d00df_17 rfl (lv_at hl 0 rfl) ?_
  refine lv_iconst (v := 0) hx hb dJ5_init_d00df_18 (by decide) ?_
  refine x_putm C2 hV hSF.a hS (ci := 1) rfl inJ4 tyJ4 tyJ4_ok nmJ4 1 (by decide) q_867 rfl (fun h => by cases h) (ty := .byte) (by decide +kernel) (by decide +kernel) (by decide) (Nat.le_of_ble_eq_true rfl) dJ5_init_d00df_19 (fun H locs hV hS => ?_)
  refine lv_goto (tgt := 38) hx hb dJ5_init_d00df_22 (by decide) ?_
  have C3 : Cx p l s m args meth c (sg G a b9 16 0 0 (fun _ => 0)) b0 yJ5_init_d00df.cls cJ5_init_d00df 2 none := C
  exact fin_vn (w := 0 + 3) C3 hV hS (by decide) (fun t ht => ⟨b9, 16, 0, fun _ => 0, Or.inl rfl, by decide, fun _ => (by decide : fits .byte (.int 0) = true), fun j hj => absurd hj (Nat.not_lt_zero j), hSF, ht⟩) dJ5_init_d00df_38
set_option maxHeartbeats 4000000 in
set_option maxRecDepth 100000 in
theorem c_sbI4 (l : Launch) (G : LG) (b0 : Nat) (V : St) (a : Nat) (hF : Fr G b0 a) : Met l yJ4_init_da8c8 (wy yJ4_init_da8c8 cJ4_init_da8c8 1 none) (rmc 2 3) (va_Pc [.ref a] (Iv (xg G a (.inr (1, [.null, .int 0, .int 0, .int 0]) : va_E)) b0 V)) (QN b0 (fun t => SBI G b0 V a [] t)) 3 (6 * 3) (Ab b0) := by
  refine mk_ci (by decide +kernel) rfl (Nat.le_of_ble_eq_true rfl) ?_
  intro p e s m below meth c C hN hV hS ls hl
  obtain ⟨args, hargs⟩ : ∃ z, z = ([.ref a] : List Value).toArray := ⟨_, rfl⟩
  rw [← hargs] at C ⊢
  obtain ⟨hx, hb, hrt, hml, hown, hts, hlocks, hK, hSv⟩ := id C
  have hl : lv_has ls 1 [(0, .ref a)] := hl
  refine lv_aload_n hx hb dJ4_init_da8c8_0 rfl (lv_at hl 0 rfl) ?_
  refine lv_bipush (v := 16) hx hb dJ4_init_da8c8_1 (by decide) ?_
  refine cal_n (run_I (As := [.int 16]) (rest := []) C hV hS (c_sbI5 l G b0 V a hF) rfl q_853 q_854 q_115 q_855 dk_J5_init_d00df (rmc_ok (by decide) (by decide)) hl.1 rfl (Nat.le_of_ble_eq_true rfl) dJ4_init_da8c8_3 (rmc_cs (by decide))) hS (fun t H locs hP ht hS => ?_)
  obtain ⟨bv2, m2, ml2, f2, p1, p2, p3, p4, p5, p6⟩ := hP
  have hV : Hd (sg G a bv2 m2 (nI 0) ml2 f2) b0 V H := by rw [← ht]; exact p6.1
  have C : Cx p l s m args meth c (sg G a bv2 m2 (nI 0) ml2 f2) b0 yJ4_init_da8c8.cls cJ4_init_da8c8 1 none := C
  exact fin_vn (w := 0 + 3) C hV hS (by decide) (fun t ht => ⟨bv2, m2, ml2, f2, p1, p2, p3, p4, p5, ht⟩) dJ4_init_da8c8_6
set_option maxHeartbeats 4000000 in
set_option maxRecDepth 100000 in
theorem c_chkLen (l : Launch) (G : LG) (b0 : Nat) (V : St) (n9 : Nat) (hn9 : n9 < 100) : Met l yJ7_checkLength_df160 (wy yJ7_checkLength_df160 cJ7_checkLength_df160 2 none) (rmc 0 0) (va_Pc [.int 0, .int (nI n9)] (Iv G b0 V)) (QN b0 (fun t => Iv G b0 V t)) 0 (6 * 0) (Ab b0) := by
  refine mk_c (by decide +kernel) (Nat.le_of_ble_eq_true rfl) ?_
  intro p e s m below meth c C hV hS ls hl
  obtain ⟨args, hargs⟩ : ∃ z, z = ([.int 0, .int (nI n9)] : List Value).toArray := ⟨_, rfl⟩
  rw [← hargs] at C ⊢
  obtain ⟨hx, hb, hrt, hml, hown, hts, hlocks, hK, hSv⟩ := id C
  have hl : lv_has ls 2 [(0, .int 0), (1, .int (nI n9))] := hl
  refine lv_iload_n hx hb dJ7_checkLength_df160_0 rfl (lv_at hl 1 rfl) ?_
  refine lv_iload_n hx hb dJ7_checkLength_df160_1 rfl (lv_at hl 0 rfl) ?_
  refine lv_icmp_ge (tgt := 37) hx hb dJ7_checkLength_df160_2 (by decide) (fun _ => ?_) (fun b => absurd (nI_pos' (by omega)) b)
  exact fin_vn (w := 0) C hV hS (by decide) (fun t ht => ht) dJ7_checkLength_df160_37
set_option maxHeartbeats 4000000 in
set_option maxRecDepth 100000 in
theorem c_cRB (l : Launch) (G : LG) (b0 : Nat) (V : St) (bv m9 n9 : Nat) (f : Nat → Int32) (hbm : ((bv, ab G m9 f) : Nat × va_E) ∈ G.2.2.2.1) (hn9 : n9 < m9 ∧ m9 ≤ 34) (hf : Bf f) : Met l yJ7_copyOfRangeByte_39247 (wy yJ7_copyOfRangeByte_39247 cJ7_copyOfRangeByte_39247 5 (some (.array .byte))) (rmc 1 6) (va_Pc [.ref bv, .int 0, .int (nI n9)] (Iv G b0 V)) (QP b0 (fun r t => ∃ f9, Fr G b0 r ∧ (∀ j, j < n9 → f9 j = f j) ∧ Iv (xg G r (ab G n9 f9)) b0 V t)) 6 (6 * 6) (Ab b0) := by
  refine mk_c (by decide +kernel) (Nat.le_of_ble_eq_true rfl) ?_
  intro p e s m below meth c C hV hS ls hl
  obtain ⟨args, hargs⟩ : ∃ z, z = ([.ref bv, .int 0, .int (nI n9)] : List Value).toArray := ⟨_, rfl⟩
  rw [← hargs] at C ⊢
  obtain ⟨hx, hb, hrt, hml, hown, hts, hlocks, hK, hSv⟩ := id C
  have hl : lv_has ls 5 [(0, .ref bv), (1, .int 0), (2, .int (nI n9))] := hl
  refine lv_iload_n hx hb dJ7_copyOfRangeByte_39247_0 rfl (lv_at hl 1 rfl) ?_
  refine lv_iload_n hx hb dJ7_copyOfRangeByte_39247_1 rfl (lv_at hl 2 rfl) ?_
  refine cal_n (run_C (As := [.int 0, .int (nI n9)]) (rest := []) C hV hS (c_chkLen l G b0 V n9 (by omega)) q_1056 q_1057 q_119 q_1058 dk_J7_checkLength_df160 (rmc_ok (by decide) (by decide)) hl.1 rfl (Nat.le_of_ble_eq_true rfl) dJ7_copyOfRangeByte_39247_2 (rmc_cs (by decide))) hS (fun t H locs hP ht hS => ?_)
  have hV : Hd G b0 V H := by rw [← ht]; exact hP.1
  refine lv_iload_n hx hb dJ7_copyOfRangeByte_39247_5 rfl (lv_at hl 2 rfl) ?_
  refine lv_iload_n hx hb dJ7_copyOfRangeByte_39247_6 rfl (lv_at hl 1 rfl) ?_
  refine lv_isub hx hb dJ7_copyOfRangeByte_39247_7 ?_
  rw [show nI n9 - 0 = nI n9 from Int32.sub_zero _]
  refine lv_istore_n (lv' := [(3, .int (nI n9)), (0, .ref bv), (1, .int 0), (2, .int (nI n9))]) hx hb dJ7_copyOfRangeByte_39247_8 rfl hl (by decide) rfl (fun ls hl => ?_)
  refine lv_iload_n hx hb dJ7_copyOfRangeByte_39247_9 rfl (lv_at hl 0 rfl) ?_
  refine x_newb (w := 0 + 0) (u := 6) (N' := n9) C hV hS (nI_pos (by omega)) (nI_clamp (by omega)) (by omega) ⟨by decide, by omega⟩ (rmc_cs (by decide)) dJ7_copyOfRangeByte_39247_10 (fun a9 H hF hV hS => ?_)
  refine lv_astore (lv' := [(4, .ref a9), (3, .int (nI n9)), (0, .ref bv), (1, .int 0), (2, .int (nI n9))]) hx hb dJ7_copyOfRangeByte_39247_12 hl (by decide) rfl (fun ls hl => ?_)
  have hbm2 : ((bv, ab (xg G a9 (ab G n9 (fun _ => 0))) m9 f) : Nat × va_E) ∈ (xg G a9 (ab G n9 (fun _ => 0))).2.2.2.1 := List.mem_cons_of_mem _ hbm
  refine lv_aload_n hx hb dJ7_copyOfRangeByte_39247_14 rfl (lv_at hl 2 rfl) ?_
  refine lv_iload_n hx hb dJ7_copyOfRangeByte_39247_15 rfl (lv_at hl 3 rfl) ?_
  refine lv_aload hx hb dJ7_copyOfRangeByte_39247_16 (lv_at hl 0 rfl) ?_
  refine lv_iconst (v := 0) hx hb dJ7_copyOfRangeByte_39247_18 (by decide) ?_
  refine lv_aload_n hx hb dJ7_copyOfRangeByte_39247_19 rfl (lv_at hl 2 rfl) ?_
  refine x_alenm C.x hV hbm2 dJ7_copyOfRangeByte_39247_20 ?_
  refine lv_iload_n hx hb dJ7_copyOfRangeByte_39247_21 rfl (lv_at hl 3 rfl) ?_
  refine lv_isub hx hb dJ7_copyOfRangeByte_39247_22 ?_
  rw [show Int32.ofNat m9 - 0 = nI m9 from Int32.sub_zero _]
  refine lv_iload_n hx hb dJ7_copyOfRangeByte_39247_23 rfl (lv_at hl 1 rfl) ?_
  refine r_min (D := 0) C q_918 q_703 q_112 q_704 hl.1 ⟨rfl, rfl⟩ (Nat.le_of_ble_eq_true rfl) (rmc_c0 (by decide)) dJ7_copyOfRangeByte_39247_24 ?_
  rw [show (if nI n9 < nI m9 then nI n9 else nI m9) = nI n9 from if_pos ((nI_ltI (by omega) (by omega)).mpr hn9.1)]
  obtain ⟨scr, k1, k2, k3, k4, k5⟩ := ab_cell (Kv.x hK) hV hbm2
  refine x_copyb (sp' := 0) (dp' := 0) (n' := n9) C hV hF hS q_919 k1 k2 k3 k4 k5 (by decide) (by decide) (nI_pos (by omega)) rfl rfl (nI_clamp (by omega)) (by omega) (by omega) hf hl.1 (Nat.le_refl _) (Nat.le_refl _) (Nat.le_of_ble_eq_true rfl) dJ7_copyOfRangeByte_39247_27 (fun H locs hV hS => ?_)
  refine lv_aload hx hb dJ7_copyOfRangeByte_39247_30 (lv_at hl 0 rfl) ?_
  refine fin_rp (w := 0 + 0 + 6) rfl C.x hV hS (by decide) (fun t ht => ⟨_, hF, fun j hj => ?_, ht⟩) dJ7_copyOfRangeByte_39247_32
  rw [pk_cpy_in (by omega) (by omega)]
  congr 1
  omega
set_option maxHeartbeats 4000000 in
set_option maxRecDepth 100000 in
theorem c_cR (l : Launch) (G : LG) (b0 : Nat) (V : St) (bv m9 n9 : Nat) (f : Nat → Int32) (hbm : ((bv, ab G m9 f) : Nat × va_E) ∈ G.2.2.2.1) (hn9 : n9 < m9 ∧ m9 ≤ 34) (hf : Bf f) : Met l yJ7_copyOfRange_39247 (wy yJ7_copyOfRange_39247 cJ7_copyOfRange_39247 3 (some (.array .byte))) (rmc 2 6) (va_Pc [.ref bv, .int 0, .int (nI n9)] (Iv G b0 V)) (QP b0 (fun r t => ∃ f9, Fr G b0 r ∧ (∀ j, j < n9 → f9 j = f j) ∧ Iv (xg G r (ab G n9 f9)) b0 V t)) 6 (6 * 6) (Ab b0) := by
  refine mk_c (by decide +kernel) (Nat.le_of_ble_eq_true rfl) ?_
  intro p e s m below meth c C hV hS ls hl
  obtain ⟨args, hargs⟩ : ∃ z, z = ([.ref bv, .int 0, .int (nI n9)] : List Value).toArray := ⟨_, rfl⟩
  rw [← hargs] at C ⊢
  obtain ⟨hx, hb, hrt, hml, hown, hts, hlocks, hK, hSv⟩ := id C
  have hl : lv_has ls 3 [(0, .ref bv), (1, .int 0), (2, .int (nI n9))] := hl
  refine lv_iload_n hx hb dJ7_copyOfRange_39247_0 rfl (lv_at hl 1 rfl) ?_
  refine lv_if_ne (tgt := 10) hx hb dJ7_copyOfRange_39247_1 (by decide) (fun b => absurd rfl b) (fun _ => ?_)
  refine lv_iload_n hx hb dJ7_copyOfRange_39247_4 rfl (lv_at hl 2 rfl) ?_
  refine lv_aload_n hx hb dJ7_copyOfRange_39247_5 rfl (lv_at hl 0 rfl) ?_
  refine x_alenm C hV hbm dJ7_copyOfRange_39247_6 ?_
  refine lv_icmp_eq (tgt := 17) hx hb dJ7_copyOfRange_39247_7 (by decide) (fun b => absurd ((nI_eq (a := n9) (b := m9) (by omega) (by omega)).mp b) (by omega)) (fun _ => ?_)
  refine lv_aload_n hx hb dJ7_copyOfRange_39247_10 rfl (lv_at hl 0 rfl) ?_
  refine lv_iload_n hx hb dJ7_copyOfRange_39247_11 rfl (lv_at hl 1 rfl) ?_
  refine lv_iload_n hx hb dJ7_copyOfRange_39247_12 rfl (lv_at hl 2 rfl) ?_
  refine cal_p (run_C (As := [.ref bv, .int 0, .int (nI n9)]) (rest := []) C hV hS (c_cRB l G b0 V bv m9 n9 f hbm hn9 hf) q_1053 q_1054 q_119 q_1055 dk_J7_copyOfRangeByte_39247 (rmc_ok (by decide) (by decide)) hl.1 rfl (Nat.le_of_ble_eq_true rfl) dJ7_copyOfRange_39247_13 (rmc_cs (by decide))) hS (fun r t H locs hP ht hS => ?_)
  obtain ⟨f9, g1, g2, g3⟩ := hP
  have hV : Hd (xg G r (ab G n9 f9)) b0 V H := by rw [← ht]; exact g3.1
  exact fin_rp (w := 0 + 6) rfl C.x hV hS (by decide) (fun t ht => ⟨f9, g1, g2, ht⟩) dJ7_copyOfRange_39247_16
set_option maxHeartbeats 4000000 in
set_option maxRecDepth 100000 in
theorem c_strI2 (l : Launch) (G : LG) (b0 : Nat) (V : St) (t9 a bv m9 : Nat) (ml : Int32) (f : Nat → Int32) (ts : List Int32) (hF : Fr G b0 t9) (ha : ((a, sbE bv (nI ts.length) ml) : Nat × va_E) ∈ G.2.2.2.1) (hbm : ((bv, ab G m9 f) : Nat × va_E) ∈ G.2.2.2.1) (hn9 : ts.length < m9 ∧ m9 ≤ 34) (hf : Bf f) (hft : ∀ j, j < ts.length → f j = tby ts j) : Met l yJ0_init_db425 (wy yJ0_init_db425 cJ0_init_db425 5 none) (rmc 3 6) (va_Pc [.ref t9, .ref a, .null] (Iv (xg G t9 (.inr (0, [.null, .int 0, .int 0, .int 0]) : va_E)) b0 V)) (QN b0 (fun t => ∃ v, Fr G b0 v ∧ Fr G b0 t9 ∧ t9 ≠ v ∧ Iv (tg G v t9 (0, 0) ts) b0 V t)) 6 (6 * 6) (Ab b0) := by
  refine mk_ci (by decide +kernel) rfl (Nat.le_of_ble_eq_true rfl) ?_
  intro p e s m below meth c C hN hV hS ls hl
  obtain ⟨args, hargs⟩ : ∃ z, z = ([.ref t9, .ref a, .null] : List Value).toArray := ⟨_, rfl⟩
  rw [← hargs] at C ⊢
  obtain ⟨hx, hb, hrt, hml, hown, hts, hlocks, hK, hSv⟩ := id C
  have hl : lv_has ls 5 [(0, .ref t9), (1, .ref a), (2, .null)] := hl
  have ha1 : ((a, sbE bv (nI ts.length) ml) : Nat × va_E) ∈ (xg G t9 (.inr (0, [.null, .int 0, .int 0, .int 0]) : va_E)).2.2.2.1 := List.mem_cons_of_mem _ ha
  have hb1 : ((bv, ab (xg G t9 (.inr (0, [.null, .int 0, .int 0, .int 0]) : va_E)) m9 f) : Nat × va_E) ∈ (xg G t9 (.inr (0, [.null, .int 0, .int 0, .int 0]) : va_E)).2.2.2.1 := List.mem_cons_of_mem _ hbm
  refine lv_aload_n hx hb dJ0_init_db425_0 rfl (lv_at hl 0 rfl) ?_
  refine x_obj C q_1035 hl.1 (Nat.le_of_ble_eq_true rfl) (Nat.le_of_ble_eq_true rfl) (Nat.le_of_ble_eq_true rfl) dJ0_init_db425_1 ?_
  refine lv_aload_n hx hb dJ0_init_db425_4 rfl (lv_at hl 1 rfl) ?_
  refine cal_p (run_K (As := []) (rest := []) C hV hS (c_getV l (xg G t9 (.inr (0, [.null, .int 0, .int 0, .int 0]) : va_E)) b0 V a bv (nI ts.length) ml ha1) (rcv_m hK hV ha1 (ci := 1) rfl) (hts _ q_1039) q_1036 q_1037 q_115 q_1040 dk_J5_getValue_6d5f1 (rmc_ok (by decide) (by decide)) hl.1 rfl (Nat.le_of_ble_eq_true rfl) dJ0_init_db425_5 (rmc_cs (by decide))) hS (fun r t H locs hP ht hS => ?_)
  obtain ⟨rfl, hP⟩ := hP
  have hV : Hd (xg G t9 (.inr (0, [.null, .int 0, .int 0, .int 0]) : va_E)) b0 V H := by rw [← ht]; exact hP.1
  refine lv_astore_n (lv' := [(3, .ref r), (0, .ref t9), (1, .ref a), (2, .null)]) hx hb dJ0_init_db425_8 rfl hl (by decide) rfl (fun ls hl => ?_)
  refine lv_aload_n hx hb dJ0_init_db425_9 rfl (lv_at hl 2 rfl) ?_
  refine cal_ic (run_O (rest := []) C hV hS ha1 q_1041 (Nat.le_of_ble_eq_true rfl) (Nat.le_of_ble_eq_true rfl) hl.1 rfl (Nat.le_of_ble_eq_true rfl) dJ0_init_db425_10 (rmc_cs (by decide))) hS (fun H locs hV hS => ?_)
  refine lv_istore (lv' := [(4, .int (nI ts.length)), (3, .ref r), (0, .ref t9), (1, .ref a), (2, .null)]) hx hb dJ0_init_db425_13 hl (by decide) rfl (fun ls hl => ?_)
  refine lv_aload_n hx hb dJ0_init_db425_15 rfl (lv_at hl 3 rfl) ?_
  refine cal_ic (run_K (As := []) (rest := []) C hV hS (c_isL5 l (xg G t9 (.inr (0, [.null, .int 0, .int 0, .int 0]) : va_E)) b0 V a r (nI ts.length) ml ha1) (rcv_m hK hV ha1 (ci := 1) rfl) (hts _ q_925) q_1049 q_923 q_115 q_926 dk_J5_isLatin1_aae02 (rmc_ok (by decide) (by decide)) hl.1 rfl (Nat.le_of_ble_eq_true rfl) dJ0_init_db425_16 (rmc_cs (by decide))) hS (fun H locs hV hS => ?_)
  refine lv_if_eq (tgt := 41) hx hb dJ0_init_db425_19 (by decide) (fun b => absurd b (by decide)) (fun _ => ?_)
  refine lv_aload_n hx hb dJ0_init_db425_22 rfl (lv_at hl 2 rfl) ?_
  refine lv_iconst (v := 0) hx hb dJ0_init_db425_23 (by decide) ?_
  have C2 : Cx p l s m args meth c G b0 yJ0_init_db425.cls cJ0_init_db425 5 none := C
  refine x_putm C2 hV hF hS (ci := 0) rfl inJ0w tyJ0 tyJ0_ok nmJ0 1 (by decide) q_1081 rfl (fun _ => ⟨rfl, hN⟩) (ty := .byte) (by decide +kernel) (by decide +kernel) (by decide) (Nat.le_of_ble_eq_true rfl) dJ0_init_db425_24 (fun H locs hV hS => ?_)
  refine lv_aload_n hx hb dJ0_init_db425_27 rfl (lv_at hl 2 rfl) ?_
  refine lv_aload_n hx hb dJ0_init_db425_28 rfl (lv_at hl 1 rfl) ?_
  refine lv_iconst (v := 0) hx hb dJ0_init_db425_29 (by decide) ?_
  refine lv_iload hx hb dJ0_init_db425_30 (lv_at hl 0 rfl) ?_
  refine cal_p (run_C (As := [.ref r, .int 0, .int (nI ts.length)]) (rest := [.ref t9]) C hV hS (c_cR l (xg G t9 (.inr (0, [.null, .int 0, .int 0, .int 0]) : va_E)) b0 V r m9 ts.length f hb1 hn9 hf) q_1050 q_1051 q_119 q_1052 dk_J7_copyOfRange_39247 (rmc_ok (by decide) (by decide)) hl.1 rfl (Nat.le_of_ble_eq_true rfl) dJ0_init_db425_32 (rmc_cs (by decide))) hS (fun v9 t H locs hP ht hS => ?_)
  obtain ⟨f9, g1, g2, g3⟩ := hP
  have hV : Hd (xg (xg G t9 (.inr (0, [.null, .int 0, .int 0, .int 0]) : va_E)) v9 (ab G ts.length f9)) b0 V H := by rw [← ht]; exact g3.1
  have hne : t9 ≠ v9 := fun e => g1.2 _ List.mem_cons_self e
  have hFv : Fr G b0 v9 := ⟨g1.1, fun x hx => g1.2 x (List.mem_cons_of_mem _ hx)⟩
  have hFt : Fr (xg G v9 (ab G ts.length f9)) b0 t9 := ⟨hF.1, fun x hx => by
    rcases List.mem_cons.mp hx with rfl | hx
    · exact fun e => hne e.symm
    · exact hF.2 x hx⟩
  have C3 : Cx p l s m args meth c (xg G v9 (ab G ts.length f9)) b0 yJ0_init_db425.cls cJ0_init_db425 5 none := C
  refine x_putm C3 hV.swap hFt hS (ci := 0) rfl inJ0w tyJ0 tyJ0_ok nmJ0 0 (by decide) q_1080 rfl (fun _ => ⟨rfl, hN⟩) (ty := .array .byte) (by decide +kernel) rfl rfl (Nat.le_of_ble_eq_true rfl) dJ0_init_db425_35 (fun H locs hV hS => ?_)
  have hV9 : Hd (tg G v9 t9 (0, 0) ts) b0 V H := by
    refine Hd.add (Hd.add hV.un.un hFv.1 (ab_ext hV.un.top (fun j hj => ?_))) hF.1 hV.top
    rw [g2 j hj, hft j hj]
  refine lv_goto (tgt := 97) hx hb dJ0_init_db425_38 (by decide) ?_
  have C4 : Cx p l s m args meth c (tg G v9 t9 (0, 0) ts) b0 yJ0_init_db425.cls cJ0_init_db425 5 none := C
  exact fin_vn (w := 0 + 0 + 0 + 0 + 6) C4 hV9 hS (by decide) (fun t ht => ⟨v9, hFv, hF, hne, ht⟩) dJ0_init_db425_97
set_option maxHeartbeats 4000000 in
set_option maxRecDepth 100000 in
theorem c_strI1 (l : Launch) (G : LG) (b0 : Nat) (V : St) (t9 a bv m9 : Nat) (ml : Int32) (f : Nat → Int32) (ts : List Int32) (hF : Fr G b0 t9) (ha : ((a, sbE bv (nI ts.length) ml) : Nat × va_E) ∈ G.2.2.2.1) (hbm : ((bv, ab G m9 f) : Nat × va_E) ∈ G.2.2.2.1) (hn9 : ts.length < m9 ∧ m9 ≤ 34) (hf : Bf f) (hft : ∀ j, j < ts.length → f j = tby ts j) : Met l yJ0_init_81219 (wy yJ0_init_81219 cJ0_init_81219 2 none) (rmc 4 6) (va_Pc [.ref t9, .ref a] (Iv (xg G t9 (.inr (0, [.null, .int 0, .int 0, .int 0]) : va_E)) b0 V)) (QN b0 (fun t => ∃ v, Fr G b0 v ∧ Fr G b0 t9 ∧ t9 ≠ v ∧ Iv (tg G v t9 (0, 0) ts) b0 V t)) 6 (6 * 6) (Ab b0) := by
  refine mk_ci (by decide +kernel) rfl (Nat.le_of_ble_eq_true rfl) ?_
  intro p e s m below meth c C hN hV hS ls hl
  obtain ⟨args, hargs⟩ : ∃ z, z = ([.ref t9, .ref a] : List Value).toArray := ⟨_, rfl⟩
  rw [← hargs] at C ⊢
  obtain ⟨hx, hb, hrt, hml, hown, hts, hlocks, hK, hSv⟩ := id C
  have hl : lv_has ls 2 [(0, .ref t9), (1, .ref a)] := hl
  refine lv_aload_n hx hb dJ0_init_81219_0 rfl (lv_at hl 0 rfl) ?_
  refine lv_aload_n hx hb dJ0_init_81219_1 rfl (lv_at hl 1 rfl) ?_
  refine lv_null hx hb dJ0_init_81219_2 ?_
  refine cal_n (run_I (As := [.ref a, .null]) (rest := []) C hV hS (c_strI2 l G b0 V t9 a bv m9 ml f ts hF ha hbm hn9 hf hft) rfl q_1032 q_1033 q_111 q_1034 dk_J0_init_db425 (rmc_ok (by decide) (by decide)) hl.1 rfl (Nat.le_of_ble_eq_true rfl) dJ0_init_81219_3 (rmc_cs (by decide))) hS (fun t H locs hP ht hS => ?_)
  obtain ⟨v, h1, h2, h3, h4⟩ := hP
  have hV : Hd (tg G v t9 (0, 0) ts) b0 V H := by rw [← ht]; exact h4.1
  have C : Cx p l s m args meth c (tg G v t9 (0, 0) ts) b0 yJ0_init_81219.cls cJ0_init_81219 2 none := C
  exact fin_vn (w := 0 + 6) C hV hS (by decide) (fun t ht => ⟨v, h1, h2, h3, ht⟩) dJ0_init_81219_6
set_option maxHeartbeats 4000000 in
set_option maxRecDepth 100000 in
theorem c_toStr (l : Launch) (G : LG) (b0 : Nat) (V : St) (a bv m9 : Nat) (ml : Int32) (f : Nat → Int32) (ts : List Int32) (ha : ((a, sbE bv (nI ts.length) ml) : Nat × va_E) ∈ G.2.2.2.1) (hbm : ((bv, ab G m9 f) : Nat × va_E) ∈ G.2.2.2.1) (hn9 : ts.length < m9 ∧ m9 ≤ 34) (hf : Bf f) (hft : ∀ j, j < ts.length → f j = tby ts j) : Met l yJ4_toString_0e30d (wy yJ4_toString_0e30d cJ4_toString_0e30d 1 (some (.object "java/lang/String"))) (rmc 5 7) (va_Pc [.ref a] (Iv G b0 V)) (QP b0 (fun t9 t => ∃ v, Fr G b0 v ∧ Fr G b0 t9 ∧ t9 ≠ v ∧ Iv (tg G v t9 (0, 0) ts) b0 V t)) 7 (6 * 7) (Ab b0) := by
  refine mk_c (by decide +kernel) (Nat.le_of_ble_eq_true rfl) ?_
  intro p e s m below meth c C hV hS ls hl
  obtain ⟨args, hargs⟩ : ∃ z, z = ([.ref a] : List Value).toArray := ⟨_, rfl⟩
  rw [← hargs] at C ⊢
  obtain ⟨hx, hb, hrt, hml, hown, hts, hlocks, hK, hSv⟩ := id C
  have hl : lv_has ls 1 [(0, .ref a)] := hl
  refine x_newo (w := 0) (u := 1) (ci := 0) (N := 4) (T := TJ0) (fs := [.null, .int 0, .int 0, .int 0]) C hV hS rfl inJ0w tyJ0 tyJ0_ok q_1028 q_457 q_111 (by intro j hj; (iterate 4 (rcases j with _ | j; · rfl)); omega) ⟨by decide, by decide⟩ (rmc_cs (by decide)) dJ4_toString_0e30d_0 (fun t9 H hF hV hS => ?_)
  refine lv_dup hx hb dJ4_toString_0e30d_3 rfl ?_
  refine lv_aload_n hx hb dJ4_toString_0e30d_4 rfl (lv_at hl 0 rfl) ?_
  have C2 : Cx p l s m args meth c (xg G t9 (.inr (0, [.null, .int 0, .int 0, .int 0]) : va_E)) b0 yJ4_toString_0e30d.cls cJ4_toString_0e30d 1 (some (.object "java/lang/String")) := C
  refine cal_n (run_I (As := [.ref a]) (rest := [.ref t9]) C2 hV hS (c_strI1 l G b0 V t9 a bv m9 ml f ts hF ha hbm hn9 hf hft) rfl q_1029 q_1030 q_111 q_1031 dk_J0_init_81219 (rmc_ok (by decide) (by decide)) hl.1 rfl (Nat.le_of_ble_eq_true rfl) dJ4_toString_0e30d_5 (rmc_cs (by decide))) hS (fun t H locs hP ht hS => ?_)
  obtain ⟨v, h1, h2, h3, h4⟩ := hP
  have hV : Hd (tg G v t9 (0, 0) ts) b0 V H := by rw [← ht]; exact h4.1
  have C3 : Cx p l s m args meth c (tg G v t9 (0, 0) ts) b0 yJ4_toString_0e30d.cls cJ4_toString_0e30d 1 (some (.object "java/lang/String")) := C
  exact fin_rp (w := 0 + 1 + 6) rfl C3 hV hS (by decide) (fun t ht => ⟨v, h1, h2, h3, ht⟩) dJ4_toString_0e30d_8
