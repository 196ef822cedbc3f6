theorem stx_in {i : Nat} {t : List Int32} (h : stx i = some t) : ∃ q, SL[i]? = some q ∧ t = byS q.2.2 := by
  unfold stx at h
  cases hq : SL[i]? with
  | none => rw [hq] at h; cases h
  | some q => rw [hq] at h; cases h; exact ⟨q, rfl, rfl⟩
theorem rcs_J0_length_8abf5 {G : LG} {b0 : Nat} {s : State} {H : Heap} {locs : List Loc} (hSv : Sv G b0 s s.heap) (hS : va_S (Ab b0) s.heap H locs) {i : Nat} {r : Int32} (h : f_J0_length_8abf5 i = some r) : ∃ cellB : Cell, H[G.2.2.1 i]? = some cellB ∧ cellB.vm.isStatics = false ∧ s.vm.findClass "java/lang/String" = some cellB.cls := by
  obtain ⟨t, h1, -⟩ := ob h
  obtain ⟨q, h2, -⟩ := stx_in h1
  exact rcs0 hSv hS h2
theorem rcs_J0_charAt_5068e {G : LG} {b0 : Nat} {s : State} {H : Heap} {locs : List Loc} (hSv : Sv G b0 s s.heap) (hS : va_S (Ab b0) s.heap H locs) {i : Nat} {x r : Int32} (h : f_J0_charAt_5068e i x = some r) : ∃ cellB : Cell, H[G.2.2.1 i]? = some cellB ∧ cellB.vm.isStatics = false ∧ s.vm.findClass "java/lang/String" = some cellB.cls := by
  obtain ⟨t, h1, -⟩ := ob h
  obtain ⟨q, h2, -⟩ := stx_in h1
  exact rcs0 hSv hS h2
theorem stx_dec : ∀ q ∈ SL, (byS q.2.2).length < 64 ∧ ∀ b ∈ byS q.2.2, i2c (b &&& 255) = b ∧ vp_nar .char b = b := by decide +kernel
theorem stx_len {i : Nat} {t : List Int32} (h : stx i = some t) : t.length < 64 := by
  obtain ⟨q, h1, rfl⟩ := stx_in h
  exact (stx_dec q (List.mem_of_getElem? h1)).1
theorem stx_chr {i j : Nat} {t : List Int32} (h : stx i = some t) (hj : j < t.length) : i2c (t.getD j 0 &&& 255) = t.getD j 0 ∧ vp_nar .char (t.getD j 0) = t.getD j 0 := by
  obtain ⟨q, h1, rfl⟩ := stx_in h
  refine (stx_dec q (List.mem_of_getElem? h1)).2 _ ?_
  rw [List.getD_eq_getElem?_getD, List.getElem?_eq_getElem hj]
  exact List.getElem_mem hj
section JF
variable {p : Program} {l : Launch} {e : Env} {R : Room} {s : State} {m : MethodId} {args : Array Value} {below : List Frame} {meth : Method} {c : Code} {H : Heap} {locs : List Loc}
variable {cc : ByteArray} {pc : Nat} {ls : Array Slot} {G : LG} {b0 : Nat} {V : St} {own : String} {nL : Nat}
theorem fin_b (C : Cx p l s m args meth c G b0 own cc nL (some .byte)) (hV : Hd G b0 V H) (hS : va_S (Ab b0) s.heap H locs) {r : Int32} (hv : 0 = r) (hdg : decode cc pc = .ok (.ireturn, 1)) : W p l e R s m args below meth c H locs 0 0 (MQ below (QI G b0 r V) args s 0 0 (Ab b0)) (F0 m pc ls [.int 0]) := by
  obtain ⟨hx, hb, hr, -, -, -, hlocks, hK, hSv⟩ := C
  exact W.zret (v := 0) hx hb hr rfl (fun t ht hW => ⟨⟨0, (), rfl, hv, Iv.mk hK hSv hV hS ht hW⟩, hS.F ht⟩) hS.2.2 hdg
end JF
theorem c_J0_coder (l : Launch) (G : LG) (b0 : Nat) (V : St) (t0 : Nat) (t : List Int32) (h : stx t0 = some t) : Met l yJ0_coder_7d493 (wy yJ0_coder_7d493 cJ0_coder_7d493 1 (some .byte)) (rm 0) (va_Pc [.ref (G.2.2.1 t0)] (Iv G b0 V)) (QI G b0 0 V) 0 0 (Ab b0) := by
  refine mk_m (by decide +kernel) (Nat.le_of_ble_eq_true rfl) ?_
  intro p e s m below meth c C hV hS ls hl
  obtain ⟨args, hargs⟩ : ∃ z, z = ([.ref (G.2.2.1 t0)] : List Value).toArray := ⟨_, rfl⟩
  rw [← hargs] at C ⊢
  obtain ⟨hx, hb, hrt, hml, hown, hts, hlocks, hK, hSv⟩ := id C
  have hl : lv_has ls 1 [(0, .ref (G.2.2.1 t0))] := hl
  obtain ⟨q, hq, -⟩ := stx_in h
  obtain ⟨a1, a2, a3, a4⟩ := hSv.2.2.1 t0 q hq
  refine va_gets hx hb hSv.2.2.2.1 hS hown (hts _ q_961) (fun _ h => h) dJ0_coder_7d493_0 ?_
  refine lv_if_eq (tgt := 13) hx hb dJ0_coder_7d493_3 (by decide) (fun b => absurd b (by decide)) (fun _ => ?_)
  refine lv_aload_n hx hb dJ0_coder_7d493_6 rfl (lv_at hl 0 rfl) ?_
  refine vk_getf hx hb a2 hS hown (hts _ q_1081) (fun _ h => h) dJ0_coder_7d493_7 ?_
  refine lv_goto (tgt := 14) hx hb dJ0_coder_7d493_10 (by decide) ?_
  exact fin_b C hV hS rfl dJ0_coder_7d493_14
theorem c_J0_isLatin1 (l : Launch) (G : LG) (b0 : Nat) (V : St) (t0 : Nat) (t : List Int32) (h : stx t0 = some t) : Met l yJ0_isLatin1_aae02 (wy yJ0_isLatin1_aae02 cJ0_isLatin1_aae02 1 (some .boolean)) (rm 0) (va_Pc [.ref (G.2.2.1 t0)] (Iv G b0 V)) (QI G b0 1 V) 0 0 (Ab b0) := by
  refine mk_m (by decide +kernel) (Nat.le_of_ble_eq_true rfl) ?_
  intro p e s m below meth c C hV hS ls hl
  obtain ⟨args, hargs⟩ : ∃ z, z = ([.ref (G.2.2.1 t0)] : List Value).toArray := ⟨_, rfl⟩
  rw [← hargs] at C ⊢
  obtain ⟨hx, hb, hrt, hml, hown, hts, hlocks, hK, hSv⟩ := id C
  have hl : lv_has ls 1 [(0, .ref (G.2.2.1 t0))] := hl
  obtain ⟨q, hq, -⟩ := stx_in h
  obtain ⟨a1, a2, a3, a4⟩ := hSv.2.2.1 t0 q hq
  refine va_gets hx hb hSv.2.2.2.1 hS hown (hts _ q_961) (fun _ h => h) dJ0_isLatin1_aae02_0 ?_
  refine lv_if_eq (tgt := 17) hx hb dJ0_isLatin1_aae02_3 (by decide) (fun b => absurd b (by decide)) (fun _ => ?_)
  refine lv_aload_n hx hb dJ0_isLatin1_aae02_6 rfl (lv_at hl 0 rfl) ?_
  refine vk_getf hx hb a2 hS hown (hts _ q_1081) (fun _ h => h) dJ0_isLatin1_aae02_7 ?_
  refine lv_if_ne (tgt := 17) hx hb dJ0_isLatin1_aae02_10 (by decide) (fun b => absurd rfl b) (fun _ => ?_)
  refine lv_iconst (v := 1) hx hb dJ0_isLatin1_aae02_13 (by decide) ?_
  refine lv_goto (tgt := 18) hx hb dJ0_isLatin1_aae02_14 (by decide) ?_
  exact fin_z C hV hS (by decide) rfl dJ0_isLatin1_aae02_18
theorem c_J3_check0 (l : Launch) (G : LG) (b0 : Nat) (V : St) (x y : Int32) (v : Value) (hv : v = .null ∨ ∃ t, v = .ref t) (h0 : ¬ x < 0) (h1 : x < y) : Met l yJ3_checkIndex_8e157 (wy yJ3_checkIndex_8e157 cJ3_checkIndex_8e157 3 (some .int)) (rm 0) (va_Pc [.int x, .int y, v] (Iv G b0 V)) (QI G b0 x V) 0 0 (Ab b0) := by
  have hc : v.category = 1 := by rcases hv with rfl | ⟨t, rfl⟩ <;> rfl
  refine mk_m (by decide +kernel) (by rcases hv with rfl | ⟨t, rfl⟩ <;> exact Nat.le_of_ble_eq_true rfl) ?_
  intro p e s m below meth c C hV hS ls hl
  obtain ⟨args, hargs⟩ : ∃ z, z = ([.int x, .int y, v] : List Value).toArray := ⟨_, rfl⟩
  rw [← hargs] at C ⊢
  obtain ⟨hx, hb, hrt, hml, hown, hts, hlocks, hK, hSv⟩ := id C
  have hl : lv_has ls 3 [(0, .int x), (1, .int y)] := by
    refine lv_sub hl [0, 1] ?_
    rcases hv with rfl | ⟨t, rfl⟩ <;> rfl
  refine lv_iload_n hx hb dJ3_checkIndex_8e157_0 rfl (lv_at hl 0 rfl) ?_
  refine lv_if_lt (tgt := 9) hx hb dJ3_checkIndex_8e157_1 (by decide) (fun b => absurd b h0) (fun _ => ?_)
  refine lv_iload_n hx hb dJ3_checkIndex_8e157_4 rfl (lv_at hl 0 rfl) ?_
  refine lv_iload_n hx hb dJ3_checkIndex_8e157_5 rfl (lv_at hl 1 rfl) ?_
  refine lv_icmp_lt (tgt := 16) hx hb dJ3_checkIndex_8e157_6 (by decide) (fun _ => ?_) (fun b => absurd h1 b)
  refine lv_iload_n hx hb dJ3_checkIndex_8e157_16 rfl (lv_at hl 0 rfl) ?_
  exact fin_i C hV hS rfl dJ3_checkIndex_8e157_17
theorem dk_J3 : dOk yJ3_checkIndex_8e157 3 := ⟨by decide +kernel, by decide +kernel, by decide +kernel⟩
theorem c_J0_checkIndex (l : Launch) (G : LG) (b0 : Nat) (V : St) (x y : Int32) (h0 : ¬ x < 0) (h1 : x < y) : Met l yJ0_checkIndex_df160 (wy yJ0_checkIndex_df160 cJ0_checkIndex_df160 2 none) (rm 1) (va_Pc [.int x, .int y] (Iv G b0 V)) (QV G b0 V) 0 0 (Ab b0) := by
  refine mk_m (by decide +kernel) (Nat.le_of_ble_eq_true rfl) ?_
  intro p e s m below meth c C hV hS ls hl
  obtain ⟨args, hargs⟩ : ∃ z, z = ([.int x, .int y] : List Value).toArray := ⟨_, rfl⟩
  rw [← hargs] at C ⊢
  obtain ⟨hx, hb, hrt, hml, hown, hts, hlocks, hK, hSv⟩ := id C
  have hl : lv_has ls 2 [(0, .int x), (1, .int y)] := hl
  refine lv_iload_n hx hb dJ0_checkIndex_df160_0 rfl (lv_at hl 0 rfl) ?_
  refine lv_iload_n hx hb dJ0_checkIndex_df160_1 rfl (lv_at hl 1 rfl) ?_
  have key : ∀ v : Value, (v = .null ∨ ∃ t, v = .ref t) → va_Z "jdk/internal/util/Preconditions" "SIOOBE_FORMATTER" "Ljava/util/function/BiFunction;" v (Ab b0) s s.heap → W p l e (rm 1) s m args below meth c s.heap [] 0 0 (MQ below (QV G b0 V) args s 0 0 (Ab b0)) (F0 m (0 + 1 + 1) ls [.int y, .int x]) := by
    intro v hv hZ
    refine va_gets hx hb hZ hS hown (hts _ q_939) (fun _ h => h) dJ0_checkIndex_df160_2 ?_
    refine cal_i (run_S (As := [.int x, .int y, v]) (rest := []) C hV hS (c_J3_check0 l G b0 V x y v hv h0 h1) q_1109 q_1110 q_121 q_1111 dk_J3 (rm_ok (by decide) (by decide)) hl.1 rfl (Nat.le_of_ble_eq_true rfl) dJ0_checkIndex_df160_5 ⟨Nat.zero_le _, Nat.zero_le _⟩) hS (fun H locs hV hS => ?_)
    refine lv_pop hx hb dJ0_checkIndex_df160_8 rfl ?_
    exact fin_v C hV hS rfl dJ0_checkIndex_df160_9
  rcases hSv.2.2.2.2.1 with h | ⟨t, h⟩
  · exact key _ (Or.inl rfl) h
  · exact key _ (Or.inr ⟨t, rfl⟩) h
theorem c_J1_charAt (l : Launch) (G : LG) (b0 : Nat) (V : St) (t0 : Nat) (t : List Int32) (h : stx t0 = some t) (x : Int32) (j : Nat) (hj : ix x t.length = some j) : Met l yJ1_charAt_3b067 (wy yJ1_charAt_3b067 cJ1_charAt_3b067 2 (some .char)) (rm 2) (va_Pc [.ref (G.2.2.1 (100 + t0)), .int x] (Iv G b0 V)) (QI G b0 (t.getD j 0) V) 0 0 (Ab b0) := by
  obtain ⟨g1, g2, g3⟩ := ix_in hj
  have h0 : ¬ x < 0 := fun b => g1 (Or.inl b)
  have hlen := stx_len h
  have h1 : x < Int32.ofNat t.length := by
    obtain ⟨j9, e1, e2⟩ := nI_of h0
    subst e2
    rw [nI_clamp e1] at g2
    subst g2
    exact (nI_ltI e1 (by omega)).mpr g3
  refine mk_m (by decide +kernel) (Nat.le_of_ble_eq_true rfl) ?_
  intro p e s m below meth c C hV hS ls hl
  obtain ⟨args, hargs⟩ : ∃ z, z = ([.ref (G.2.2.1 (100 + t0)), .int x] : List Value).toArray := ⟨_, rfl⟩
  rw [← hargs] at C ⊢
  obtain ⟨hx, hb, hrt, hml, hown, hts, hlocks, hK, hSv⟩ := id C
  have hl : lv_has ls 2 [(0, .ref (G.2.2.1 (100 + t0))), (1, .int x)] := hl
  obtain ⟨q, hq, hqt⟩ := stx_in h
  obtain ⟨a1, a2, a3, a4⟩ := hSv.2.2.1 t0 q hq
  rw [← hqt] at a4
  refine lv_iload_n hx hb dJ1_charAt_3b067_0 rfl (lv_at hl 1 rfl) ?_
  refine lv_aload_n hx hb dJ1_charAt_3b067_1 rfl (lv_at hl 0 rfl) ?_
  refine va_tlen hx hb a4 hS rfl dJ1_charAt_3b067_2 ?_
  refine cal_v (run_S (As := [.int x, .int (Int32.ofNat t.length)]) (rest := []) C hV hS (c_J0_checkIndex l G b0 V x (Int32.ofNat t.length) h0 h1) q_1106 q_1107 q_111 q_1108 dk_J0_checkIndex_df160 (rm_ok (by decide) (by decide)) hl.1 rfl (Nat.le_of_ble_eq_true rfl) dJ1_charAt_3b067_3 ⟨Nat.zero_le _, Nat.zero_le _⟩) hS (fun H locs hV hS => ?_)
  refine lv_aload_n hx hb dJ1_charAt_3b067_6 rfl (lv_at hl 0 rfl) ?_
  refine lv_iload_n hx hb dJ1_charAt_3b067_7 rfl (lv_at hl 1 rfl) ?_
  refine va_tb (v := .int (t.getD j 0)) hx hb a4 hS g1 (by show Value.int (t.getD x.toNatClampNeg 0) = _; rw [g2]) dJ1_charAt_3b067_8 ?_
  refine lv_sipush (v := 255) hx hb dJ1_charAt_3b067_9 (by decide) ?_
  refine lv_iand hx hb dJ1_charAt_3b067_12 ?_
  refine lv_i2c (v := t.getD j 0) hx hb dJ1_charAt_3b067_13 (stx_chr h g3).1 ?_
  exact fin_c C hV hS (stx_chr h g3).2 rfl dJ1_charAt_3b067_14
theorem c_J0_length_8abf5 (l : Launch) (G : LG) (b0 : Nat) (V : St) (t0 : Nat) (res : Int32) (hr : f_J0_length_8abf5 t0 = some res) : Met l yJ0_length_8abf5 (wy yJ0_length_8abf5 cJ0_length_8abf5 1 (some .int)) (rm 2) (va_Pc [.ref (G.2.2.1 t0)] (Iv G b0 V)) (QI G b0 res V) 0 0 (Ab b0) := by
  obtain ⟨t, h, hr⟩ := ob hr
  have hlen := stx_len h
  refine mk_m (by decide +kernel) (Nat.le_of_ble_eq_true rfl) ?_
  intro p e s m below meth c C hV hS ls hl
  obtain ⟨args, hargs⟩ : ∃ z, z = ([.ref (G.2.2.1 t0)] : List Value).toArray := ⟨_, rfl⟩
  rw [← hargs] at C ⊢
  obtain ⟨hx, hb, hrt, hml, hown, hts, hlocks, hK, hSv⟩ := id C
  have hl : lv_has ls 1 [(0, .ref (G.2.2.1 t0))] := hl
  obtain ⟨q, hq, hqt⟩ := stx_in h
  obtain ⟨a1, a2, a3, a4⟩ := hSv.2.2.1 t0 q hq
  rw [← hqt] at a4
  refine lv_aload_n hx hb dJ0_length_8abf5_0 rfl (lv_at hl 0 rfl) ?_
  refine vk_getf hx hb a3 hS hown (hts _ q_1080) (fun _ h => h) dJ0_length_8abf5_1 ?_
  refine va_tlen hx hb a4 hS rfl dJ0_length_8abf5_4 ?_
  refine lv_aload_n hx hb dJ0_length_8abf5_5 rfl (lv_at hl 0 rfl) ?_
  refine cal_i (run_V (As := []) (rest := [.int (Int32.ofNat t.length)]) C hV hS (c_J0_coder l G b0 V t0 t h) (rcs0 hSv hS hq) q_957 q_958 q_959 q_111 q_960 dk_J0_coder_7d493 (rm_ok (by decide) (by decide)) hl.1 rfl (Nat.le_of_ble_eq_true rfl) dJ0_length_8abf5_6 ⟨Nat.zero_le _, Nat.zero_le _⟩) hS (fun H locs hV hS => ?_)
  refine lv_ishr hx hb dJ0_length_8abf5_9 ?_
  have e1 : Int32.ofNat t.length >>> ((0 : Int32) &&& 31) = res := by
    rw [← Option.some.inj hr]
    have e2 := pk_shrN (n := t.length) (by omega) ((0 : Int32) &&& 31) 0 (by decide)
    rw [Nat.pow_zero, Nat.div_one] at e2
    exact e2
  exact fin_i C hV hS e1 dJ0_length_8abf5_10
theorem c_J0_charAt_5068e (l : Launch) (G : LG) (b0 : Nat) (V : St) (t0 : Nat) (x1 : Int32) (res : Int32) (hr : f_J0_charAt_5068e t0 x1 = some res) : Met l yJ0_charAt_5068e (wy yJ0_charAt_5068e cJ0_charAt_5068e 2 (some .char)) (rm 4) (va_Pc [.ref (G.2.2.1 t0), .int x1] (Iv G b0 V)) (QI G b0 res V) 0 0 (Ab b0) := by
  obtain ⟨t, h, hr⟩ := ob hr
  obtain ⟨j, hj, hr⟩ := ob hr
  refine mk_m (by decide +kernel) (Nat.le_of_ble_eq_true rfl) ?_
  intro p e s m below meth c C hV hS ls hl
  obtain ⟨args, hargs⟩ : ∃ z, z = ([.ref (G.2.2.1 t0), .int x1] : List Value).toArray := ⟨_, rfl⟩
  rw [← hargs] at C ⊢
  obtain ⟨hx, hb, hrt, hml, hown, hts, hlocks, hK, hSv⟩ := id C
  have hl : lv_has ls 2 [(0, .ref (G.2.2.1 t0)), (1, .int x1)] := hl
  obtain ⟨q, hq, hqt⟩ := stx_in h
  obtain ⟨a1, a2, a3, a4⟩ := hSv.2.2.1 t0 q hq
  refine lv_aload_n hx hb dJ0_charAt_5068e_0 rfl (lv_at hl 0 rfl) ?_
  refine cal_i (run_V (As := []) (rest := []) C hV hS (c_J0_isLatin1 l G b0 V t0 t h) (rcs0 hSv hS hq) q_1099 q_1100 q_1101 q_111 q_1102 dk_J0_isLatin1_aae02 (rm_ok (by decide) (by decide)) hl.1 rfl (Nat.le_of_ble_eq_true rfl) dJ0_charAt_5068e_1 ⟨Nat.zero_le _, Nat.zero_le _⟩) hS (fun H locs hV hS => ?_)
  refine lv_if_eq (tgt := 16) hx hb dJ0_charAt_5068e_4 (by decide) (fun b => absurd b (by decide)) (fun _ => ?_)
  refine lv_aload_n hx hb dJ0_charAt_5068e_7 rfl (lv_at hl 0 rfl) ?_
  refine vk_getf hx hb a3 hS hown (hts _ q_1080) (fun _ h => h) dJ0_charAt_5068e_8 ?_
  refine lv_iload_n hx hb dJ0_charAt_5068e_11 rfl (lv_at hl 1 rfl) ?_
  refine cal_i (run_S (As := [.ref (G.2.2.1 (100 + t0)), .int x1]) (rest := []) C hV hS (c_J1_charAt l G b0 V t0 t h x1 j hj) q_1103 q_1104 q_122 q_1105 dk_J1_charAt_3b067 (rm_ok (by decide) (by decide)) hl.1 rfl (Nat.le_of_ble_eq_true rfl) dJ0_charAt_5068e_12 ⟨Nat.zero_le _, Nat.zero_le _⟩) hS (fun H locs hV hS => ?_)
  exact fin_c C hV hS (stx_chr h (ix_in hj).2.2).2 (Option.some.inj hr) dJ0_charAt_5068e_15
/-! the references that are answered -/
theorem kr_X8_netNumbered {V : St} {k0 : Nat} (hk0 : kd k0 = 1) {x1 : Int32} {r : Nat} (h : f_X8_netNumbered V k0 x1 = some r) : kd r = 5 := by
  unfold f_X8_netNumbered at h
  obtain ⟨q, -, h⟩ := ob h
  by_cases c : q = 0
  · have h := it c h
    cases h
    exact kd_n (kd_s1 hk0) (j := 0) (by decide)
  · have h := ie c h
    obtain ⟨j, hj, h⟩ := ob h
    cases h
    exact kd_n (kd_s1 hk0) (ix_in hj).2.2
theorem kr_X8_editorNumbered {V : St} {k0 : Nat} (hk0 : kd k0 = 1) {x1 : Int32} {r : Nat} (h : f_X8_editorNumbered V k0 x1 = some r) : kd r = 6 := by
  unfold f_X8_editorNumbered at h
  by_cases c : x1 < 0
  · have h := it c h
    cases h
    exact kd_e (kd_s2 hk0) (j := 0) (by decide)
  · have h := ie c h
    by_cases c2 : 4 ≤ x1
    · have h := it c2 h
      cases h
      exact kd_e (kd_s2 hk0) (j := 0) (by decide)
    · have h := ie c2 h
      obtain ⟨j, hj, h⟩ := ob h
      cases h
      exact kd_e (kd_s2 hk0) (ix_in hj).2.2
theorem kr_X8_noteNumbered {V : St} {k0 : Nat} (hk0 : kd k0 = 1) {x1 : Int32} {r : Nat} (h : f_X8_noteNumbered V k0 x1 = some r) : kd r = 7 := by
  unfold f_X8_noteNumbered at h
  by_cases c : x1 < 0
  · have h := it c h
    cases h
    exact kd_o (kd_s3 hk0) (j := 0) (by decide)
  · have h := ie c h
    by_cases c2 : 6 ≤ x1
    · have h := it c2 h
      cases h
      exact kd_o (kd_s3 hk0) (j := 0) (by decide)
    · have h := ie c2 h
      obtain ⟨j, hj, h⟩ := ob h
      cases h
      exact kd_o (kd_s3 hk0) (ix_in hj).2.2
