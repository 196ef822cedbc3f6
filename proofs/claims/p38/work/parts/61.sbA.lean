/-! strings made at run time: the JDK's own methods, over the cells beside the objects -/
def sbE (bv : Nat) (n ml : Int32) : va_E := .inr (1, [.ref bv, .int 0, .int ml, .int n])
def stE (tv : Nat) (z : Int32 × Int32) : va_E := .inr (0, [.ref tv, .int 0, .int z.1, .int z.2])
def tby (ts : List Int32) : Nat → Int32 := fun j => ts.getD j 0
def sg (G : LG) (a bv m : Nat) (n ml : Int32) (f : Nat → Int32) : LG := xg (xg G bv (ab G m f)) a (sbE bv n ml)
def tg (G : LG) (v t : Nat) (z : Int32 × Int32) (ts : List Int32) : LG := xg (xg G v (ab G ts.length (tby ts))) t (stE v z)
def Bf (f : Nat → Int32) : Prop := ∀ j, fits .byte (.int (f j)) = true
def SbF (G : LG) (b0 a bv : Nat) : Prop := Fr G b0 bv ∧ Fr G b0 a ∧ a ≠ bv
theorem SbF.a {G : LG} {b0 a bv : Nat} (h : SbF G b0 a bv) {x : va_E} : Fr (xg G bv x) b0 a := ⟨h.2.1.1, fun y hy => by
  rcases List.mem_cons.mp hy with rfl | hy
  · exact fun e => h.2.2 e.symm
  · exact h.2.1.2 y hy⟩
theorem SbF.b {G : LG} {b0 a bv : Nat} (h : SbF G b0 a bv) {x : va_E} : Fr (xg G a x) b0 bv := ⟨h.1.1, fun y hy => by
  rcases List.mem_cons.mp hy with rfl | hy
  · exact h.2.2
  · exact h.1.2 y hy⟩
/-- a text: a constant's, or one beside -/
def Src (G : LG) (sa tv : Nat) (us : List Int32) : Prop := (∃ (i : Nat) (q : String × Nat × String), SL[i]? = some q ∧ sa = G.2.2.1 i ∧ tv = G.2.2.1 (100 + i) ∧ us = byS q.2.2) ∨ (∃ z : Int32 × Int32, ((sa, stE tv z) : Nat × va_E) ∈ G.2.2.2.1 ∧ ((tv, ab G us.length (tby us)) : Nat × va_E) ∈ G.2.2.2.1)
theorem Src.mono {G G2 : LG} {sa tv : Nat} {us : List Int32} (h : Src G sa tv us) (e1 : G2.2.1 = G.2.1) (e2 : G2.2.2.1 = G.2.2.1) (hs : ∀ x ∈ G.2.2.2.1, x ∈ G2.2.2.2.1) : Src G2 sa tv us := by
  rcases h with ⟨i, q, h1, h2, h3, h4⟩ | ⟨z, h1, h2⟩
  · exact Or.inl ⟨i, q, h1, by rw [e2]; exact h2, by rw [e2]; exact h3, h4⟩
  · refine Or.inr ⟨z, hs _ h1, ?_⟩
    unfold ab at h2 ⊢
    rw [e1]
    exact hs _ h2
theorem inJ0w : ∀ w ∈ u_ws RJ0 TJ0 4, w ∈ GW := by
  have h : u_ws RJ0 TJ0 4 = [Cond.laysFinal "java/lang/String" "java/lang/String" "value" "[B", Cond.laysFinal "java/lang/String" "java/lang/String" "coder" "B", Cond.lays "java/lang/String" "java/lang/String" "hash" "I", Cond.lays "java/lang/String" "java/lang/String" "hashIsZero" "Z"] := by decide +kernel
  rw [h]
  exact List.forall_mem_cons.mpr ⟨q_459, List.forall_mem_cons.mpr ⟨q_461, List.forall_mem_cons.mpr ⟨q_1082, List.forall_mem_cons.mpr ⟨q_1084, fun _ h => nomatch h⟩⟩⟩⟩
section SR0
variable {p : Program} {l : Launch} {e : Env} {R : Room} {s : State} {m : MethodId} {args : Array Value} {below : List Frame} {meth : Method} {c : Code} {H : Heap} {locs : List Loc} {cells slots : Nat} {Q : State → Prop}
variable {cc : ByteArray} {pc : Nat} {ls : Array Slot} {rest st0 : List Value} {G : LG} {b0 : Nat} {V V1 : St} {own : String} {nL index : Nat} {ret0 : Option FieldType} {sa tv : Nat} {us : List Int32}
theorem x_scoder (C : Cx p l s m args meth c G b0 own cc nL ret0) (hV : Hd G b0 V H) (hS : va_S (Ab b0) s.heap H locs) (h : Src G sa tv us) (hlink : Cond.fieldLink own index "java/lang/String" "coder" "B" ∈ GW) (hdg : decode cc pc = .ok (.getfield index, 3))
    (kk : W p l e R s m args below meth c H locs cells slots Q (F0 m (pc + 3) ls (.int 0 :: rest))) : W p l e R s m args below meth c H locs cells slots Q (F0 m pc ls (.ref sa :: rest)) := by
  rcases h with ⟨i, q, h1, h2, h3, h4⟩ | ⟨z, h1, h2⟩
  · obtain ⟨hx, hb, hr, hml, hown, hts, hlocks, hK, hSv⟩ := C
    obtain ⟨a1, a2, a3, a4⟩ := hSv.2.2.1 i q h1
    subst h2
    exact vk_getf hx hb a2 hS hown (hts _ hlink) (fun _ h => h) hdg kk
  · exact x_getm C hV h1 (ci := 0) rfl inJ0w 1 (by decide) hlink rfl rfl hdg kk
theorem x_svalue (C : Cx p l s m args meth c G b0 own cc nL ret0) (hV : Hd G b0 V H) (hS : va_S (Ab b0) s.heap H locs) (h : Src G sa tv us) (hlink : Cond.fieldLink own index "java/lang/String" "value" "[B" ∈ GW) (hdg : decode cc pc = .ok (.getfield index, 3))
    (kk : W p l e R s m args below meth c H locs cells slots Q (F0 m (pc + 3) ls (.ref tv :: rest))) : W p l e R s m args below meth c H locs cells slots Q (F0 m pc ls (.ref sa :: rest)) := by
  rcases h with ⟨i, q, h1, h2, h3, h4⟩ | ⟨z, h1, h2⟩
  · obtain ⟨hx, hb, hr, hml, hown, hts, hlocks, hK, hSv⟩ := C
    obtain ⟨a1, a2, a3, a4⟩ := hSv.2.2.1 i q h1
    subst h2 h3
    exact vk_getf hx hb a3 hS hown (hts _ hlink) (fun _ h => h) hdg kk
  · exact x_getm C hV h1 (ci := 0) rfl inJ0w 0 (by decide) hlink rfl rfl hdg kk
theorem x_stlen (C : Cx p l s m args meth c G b0 own cc nL ret0) (hV : Hd G b0 V H) (hS : va_S (Ab b0) s.heap H locs) (h : Src G sa tv us) (hdg : decode cc pc = .ok (.arraylength, 1))
    (kk : W p l e R s m args below meth c H locs cells slots Q (F0 m (pc + 1) ls (.int (Int32.ofNat us.length) :: rest))) : W p l e R s m args below meth c H locs cells slots Q (F0 m pc ls (.ref tv :: rest)) := by
  rcases h with ⟨i, q, h1, h2, h3, h4⟩ | ⟨z, h1, h2⟩
  · obtain ⟨hx, hb, hr, hml, hown, hts, hlocks, hK, hSv⟩ := C
    obtain ⟨a1, a2, a3, a4⟩ := hSv.2.2.1 i q h1
    subst h3 h4
    exact va_tlen hx hb a4 hS rfl hdg kk
  · exact x_alenm C hV h2 hdg kk
theorem x_stcell (hK : Kv G s) (hSv : Sv G b0 s s.heap) (hV : Hd G b0 V H) (hS : va_S (Ab b0) s.heap H locs) (h : Src G sa tv us) : ∃ scr : Cell, H[tv]? = some scr ∧ s.isArrayOf scr .byte ∧ scr.vm ≠ .unknown ∧ us.length ≤ scr.slots.size ∧ ∀ j, j < us.length → scr.slots[j]? = some (.int (tby us j)) := by
  rcases h with ⟨i, q, h1, h2, h3, h4⟩ | ⟨z, h1, h2⟩
  · obtain ⟨a1, a2, a3, a4⟩ := hSv.2.2.1 i q h1
    subst h3 h4
    obtain ⟨scr, g1, g2, g3, g4, -, g5, -⟩ := a4.kept hS.2.1
    exact ⟨scr, g1, g2, g3, g4, g5⟩
  · have h0 : H[tv]? = some (arrV (G.2.1 3) us.length (fun j => .int (tby us j))) := hV.2.1 _ h2
    exact ⟨_, h0, (hK.1.2 3 _ rfl).1 us.length (fun j => .int (tby us j)), (fun q => by cases q), by rw [arrV_size]; exact Nat.le_refl _, fun j hj => arrV_read _ _ hj⟩
theorem ab_cell (hK : Kv G s) (hV : Hd G b0 V H) {a N : Nat} {f : Nat → Int32} (hm : (a, ab G N f) ∈ G.2.2.2.1) : ∃ scr : Cell, H[a]? = some scr ∧ s.isArrayOf scr .byte ∧ scr.vm ≠ .unknown ∧ N ≤ scr.slots.size ∧ ∀ j, j < N → scr.slots[j]? = some (.int (f j)) := by
  have h0 : H[a]? = some (arrV (G.2.1 3) N (fun j => .int (f j))) := hV.2.1 _ hm
  exact ⟨_, h0, (hK.1.2 3 _ rfl).1 N (fun j => .int (f j)), (fun q => by cases q), by rw [arrV_size]; exact Nat.le_refl _, fun j hj => arrV_read _ _ hj⟩
theorem x_srcv (hK : Kv G s) (hSv : Sv G b0 s s.heap) (hV : Hd G b0 V H) (hS : va_S (Ab b0) s.heap H locs) (h : Src G sa tv us) : ∃ cellB : Cell, H[sa]? = some cellB ∧ cellB.vm.isStatics = false ∧ s.vm.findClass "java/lang/String" = some cellB.cls := by
  rcases h with ⟨i, q, h1, h2, h3, h4⟩ | ⟨z, h1, h2⟩
  · subst h2
    exact rcs0 hSv hS h1
  · exact rcv_m hK hV h1 (ci := 0) rfl
end SR0
theorem sh0 (n : Nat) (h : n < 2 ^ 31) : Int32.ofNat n >>> ((0 : Int32) &&& 31) = nI n := by
  have e2 := pk_shrN (n := n) (by omega) ((0 : Int32) &&& 31) 0 (by decide)
  rw [Nat.pow_zero, Nat.div_one] at e2
  exact e2
theorem shl0 (x : Int32) : x <<< ((0 : Int32) &&& 31) = x := by
  refine b_ext fun i hi => ?_
  have := b_shl 0 (by decide) x hi
  rw [show ((0 : Int32) &&& 31) = nI 0 &&& 31 from rfl, this]
  simp
set_option maxHeartbeats 4000000 in
set_option maxRecDepth 100000 in
theorem c_coder_g (l : Launch) (G : LG) (b0 : Nat) (V : St) (sa tv : Nat) (us : List Int32) (hs : Src G sa tv us) : Met l yJ0_coder_7d493 (wy yJ0_coder_7d493 cJ0_coder_7d493 1 (some .byte)) (rmc 0 0) (va_Pc [.ref sa] (Iv G b0 V)) (QI G b0 0 V) 0 (6 * 0) (Ab b0) := by
  refine mk_c (by decide +kernel) (Nat.le_of_ble_eq_true rfl) ?_
  intro p e s m below meth c C hV hS ls hl
  obtain ⟨args, hargs⟩ : ∃ z, z = ([.ref sa] : List Value).toArray := ⟨_, rfl⟩
  rw [← hargs] at C ⊢
  obtain ⟨hx, hb, hrt, hml, hown, hts, hlocks, hK, hSv⟩ := id C
  have hl : lv_has ls 1 [(0, .ref sa)] := hl
  refine va_gets hx hb hSv.2.2.2.1 hS hown (hts _ q_961) (fun _ h => h) dJ0_coder_7d493_0 ?_
  refine lv_if_eq (tgt := 13) hx hb dJ0_coder_7d493_3 (by decide) (fun b => absurd b (by decide)) (fun _ => ?_)
  refine lv_aload_n hx hb dJ0_coder_7d493_6 rfl (lv_at hl 0 rfl) ?_
  refine x_scoder C hV hS hs q_1081 dJ0_coder_7d493_7 ?_
  refine lv_goto (tgt := 14) hx hb dJ0_coder_7d493_10 (by decide) ?_
  obtain ⟨-, -, hr, -, -, -, hlocks, hK, hSv⟩ := C
  exact W.zret (v := 0) hx hb hr rfl (fun t ht hW => ⟨⟨0, (), rfl, rfl, Iv.mk hK hSv hV hS ht hW⟩, hS.F ht⟩) hS.2.2 dJ0_coder_7d493_14
set_option maxHeartbeats 4000000 in
set_option maxRecDepth 100000 in
theorem c_isL_g (l : Launch) (G : LG) (b0 : Nat) (V : St) (sa tv : Nat) (us : List Int32) (hs : Src G sa tv us) : Met l yJ0_isLatin1_aae02 (wy yJ0_isLatin1_aae02 cJ0_isLatin1_aae02 1 (some .boolean)) (rmc 0 0) (va_Pc [.ref sa] (Iv G b0 V)) (QI G b0 1 V) 0 (6 * 0) (Ab b0) := by
  refine mk_c (by decide +kernel) (Nat.le_of_ble_eq_true rfl) ?_
  intro p e s m below meth c C hV hS ls hl
  obtain ⟨args, hargs⟩ : ∃ z, z = ([.ref sa] : List Value).toArray := ⟨_, rfl⟩
  rw [← hargs] at C ⊢
  obtain ⟨hx, hb, hrt, hml, hown, hts, hlocks, hK, hSv⟩ := id C
  have hl : lv_has ls 1 [(0, .ref sa)] := hl
  refine va_gets hx hb hSv.2.2.2.1 hS hown (hts _ q_961) (fun _ h => h) dJ0_isLatin1_aae02_0 ?_
  refine lv_if_eq (tgt := 17) hx hb dJ0_isLatin1_aae02_3 (by decide) (fun b => absurd b (by decide)) (fun _ => ?_)
  refine lv_aload_n hx hb dJ0_isLatin1_aae02_6 rfl (lv_at hl 0 rfl) ?_
  refine x_scoder C hV hS hs q_1081 dJ0_isLatin1_aae02_7 ?_
  refine lv_if_ne (tgt := 17) hx hb dJ0_isLatin1_aae02_10 (by decide) (fun b => absurd rfl b) (fun _ => ?_)
  refine lv_iconst (v := 1) hx hb dJ0_isLatin1_aae02_13 (by decide) ?_
  refine lv_goto (tgt := 18) hx hb dJ0_isLatin1_aae02_14 (by decide) ?_
  exact fin_zc C hV hS (Nat.le_refl _) (by decide) rfl dJ0_isLatin1_aae02_18
set_option maxHeartbeats 4000000 in
set_option maxRecDepth 100000 in
theorem c_len_g (l : Launch) (G : LG) (b0 : Nat) (V : St) (sa tv : Nat) (us : List Int32) (hs : Src G sa tv us) (hu : us.length < 100) : Met l yJ0_length_8abf5 (wy yJ0_length_8abf5 cJ0_length_8abf5 1 (some .int)) (rmc 1 0) (va_Pc [.ref sa] (Iv G b0 V)) (QI G b0 (nI us.length) V) 0 (6 * 0) (Ab b0) := by
  refine mk_c (by decide +kernel) (Nat.le_of_ble_eq_true rfl) ?_
  intro p e s m below meth c C hV hS ls hl
  obtain ⟨args, hargs⟩ : ∃ z, z = ([.ref sa] : List Value).toArray := ⟨_, rfl⟩
  rw [← hargs] at C ⊢
  obtain ⟨hx, hb, hrt, hml, hown, hts, hlocks, hK, hSv⟩ := id C
  have hl : lv_has ls 1 [(0, .ref sa)] := hl
  refine lv_aload_n hx hb dJ0_length_8abf5_0 rfl (lv_at hl 0 rfl) ?_
  refine x_svalue C hV hS hs q_1080 dJ0_length_8abf5_1 ?_
  refine x_stlen C hV hS hs dJ0_length_8abf5_4 ?_
  refine lv_aload_n hx hb dJ0_length_8abf5_5 rfl (lv_at hl 0 rfl) ?_
  refine cal_ic (run_K (As := []) (rest := [.int (Int32.ofNat us.length)]) C hV hS (c_coder_g l G b0 V sa tv us hs) (x_srcv hK hSv hV hS hs) (hts _ q_959) q_957 q_958 q_111 q_960 dk_J0_coder_7d493 (rmc_ok (by decide) (by decide)) hl.1 rfl (Nat.le_of_ble_eq_true rfl) dJ0_length_8abf5_6 (rmc_cs (by decide))) hS (fun H locs hV hS => ?_)
  refine lv_ishr hx hb dJ0_length_8abf5_9 ?_
  exact fin_ic (w := 0 + 0) C hV hS (by decide) (sh0 us.length (by omega)) dJ0_length_8abf5_10
set_option maxHeartbeats 4000000 in
set_option maxRecDepth 100000 in
theorem c_chr_g (l : Launch) (G : LG) (b0 : Nat) (V : St) (sa tv : Nat) (us : List Int32) (hs : Src G sa tv us) (hu : us.length < 100) (x : Int32) (j : Nat) (hj : ix x us.length = some j) : Met l yJ1_charAt_3b067 (wy yJ1_charAt_3b067 cJ1_charAt_3b067 2 (some .char)) (rmc 2 0) (va_Pc [.ref tv, .int x] (Iv G b0 V)) (QI G b0 (i2c (tby us j &&& 255)) V) 0 (6 * 0) (Ab b0) := by
  obtain ⟨g1, g2, g3⟩ := ix_in hj
  have h0 : ¬ x < 0 := fun b => g1 (Or.inl b)
  have h1 : x < Int32.ofNat us.length := by
    obtain ⟨j9, e1, e2⟩ := nI_of h0
    subst e2
    rw [nI_clamp e1] at g2
    subst g2
    exact (nI_ltI e1 (by omega)).mpr g3
  refine mk_c (by decide +kernel) (Nat.le_of_ble_eq_true rfl) ?_
  intro p e s m below meth c C hV hS ls hl
  obtain ⟨args, hargs⟩ : ∃ z, z = ([.ref tv, .int x] : List Value).toArray := ⟨_, rfl⟩
  rw [← hargs] at C ⊢
  obtain ⟨hx, hb, hrt, hml, hown, hts, hlocks, hK, hSv⟩ := id C
  have hl : lv_has ls 2 [(0, .ref tv), (1, .int x)] := hl
  refine lv_iload_n hx hb dJ1_charAt_3b067_0 rfl (lv_at hl 1 rfl) ?_
  refine lv_aload_n hx hb dJ1_charAt_3b067_1 rfl (lv_at hl 0 rfl) ?_
  refine x_stlen C hV hS hs dJ1_charAt_3b067_2 ?_
  refine cal_v (run_S (As := [.int x, .int (Int32.ofNat us.length)]) (rest := []) C hV hS (c_J0_checkIndex l G b0 V x (Int32.ofNat us.length) h0 h1) q_1106 q_1107 q_111 q_1108 dk_J0_checkIndex_df160 (rmc_ok0 (by decide) (by decide)) hl.1 rfl (Nat.le_of_ble_eq_true rfl) dJ1_charAt_3b067_3 ⟨Nat.zero_le _, Nat.zero_le _⟩) hS (fun H locs hV hS => ?_)
  refine lv_aload_n hx hb dJ1_charAt_3b067_6 rfl (lv_at hl 0 rfl) ?_
  refine lv_iload_n hx hb dJ1_charAt_3b067_7 rfl (lv_at hl 1 rfl) ?_
  obtain ⟨scr, k1, k2, k3, k4, k5⟩ := x_stcell hK hSv hV hS hs
  refine W.bald (v := .int (tby us j)) hx hb k1 k2 k3 (fun q => q.elim h0 (fun q => by omega)) (by rw [g2]; exact k5 j g3) rfl rfl dJ1_charAt_3b067_8 ?_
  refine lv_sipush (v := 255) hx hb dJ1_charAt_3b067_9 (by decide) ?_
  refine lv_iand hx hb dJ1_charAt_3b067_12 ?_
  refine lv_i2c (v := i2c (tby us j &&& 255)) hx hb dJ1_charAt_3b067_13 rfl ?_
  obtain ⟨-, -, hr, -, -, -, hlocks, hK, hSv⟩ := C
  exact W.zret (v := i2c (tby us j &&& 255)) hx hb hr (nar_c (nar_i2c _)) (fun t ht hW => ⟨⟨_, (), rfl, rfl, Iv.mk hK hSv hV hS ht hW⟩, hS.F ht⟩) hS.2.2 dJ1_charAt_3b067_14
set_option maxHeartbeats 4000000 in
set_option maxRecDepth 100000 in
theorem c_charAt_g (l : Launch) (G : LG) (b0 : Nat) (V : St) (sa tv : Nat) (us : List Int32) (hs : Src G sa tv us) (hu : us.length < 100) (x : Int32) (j : Nat) (hj : ix x us.length = some j) : Met l yJ0_charAt_5068e (wy yJ0_charAt_5068e cJ0_charAt_5068e 2 (some .char)) (rmc 4 0) (va_Pc [.ref sa, .int x] (Iv G b0 V)) (QI G b0 (i2c (tby us j &&& 255)) V) 0 (6 * 0) (Ab b0) := by
  refine mk_c (by decide +kernel) (Nat.le_of_ble_eq_true rfl) ?_
  intro p e s m below meth c C hV hS ls hl
  obtain ⟨args, hargs⟩ : ∃ z, z = ([.ref sa, .int x] : List Value).toArray := ⟨_, rfl⟩
  rw [← hargs] at C ⊢
  obtain ⟨hx, hb, hrt, hml, hown, hts, hlocks, hK, hSv⟩ := id C
  have hl : lv_has ls 2 [(0, .ref sa), (1, .int x)] := hl
  refine lv_aload_n hx hb dJ0_charAt_5068e_0 rfl (lv_at hl 0 rfl) ?_
  refine cal_ic (run_K (As := []) (rest := []) C hV hS (c_isL_g l G b0 V sa tv us hs) (x_srcv hK hSv hV hS hs) (hts _ q_1101) q_1099 q_1100 q_111 q_1102 dk_J0_isLatin1_aae02 (rmc_ok (by decide) (by decide)) hl.1 rfl (Nat.le_of_ble_eq_true rfl) dJ0_charAt_5068e_1 (rmc_cs (by decide))) hS (fun H locs hV hS => ?_)
  refine lv_if_eq (tgt := 16) hx hb dJ0_charAt_5068e_4 (by decide) (fun b => absurd b (by decide)) (fun _ => ?_)
  refine lv_aload_n hx hb dJ0_charAt_5068e_7 rfl (lv_at hl 0 rfl) ?_
  refine x_svalue C hV hS hs q_1080 dJ0_charAt_5068e_8 ?_
  refine lv_iload_n hx hb dJ0_charAt_5068e_11 rfl (lv_at hl 1 rfl) ?_
  refine cal_ic (run_C (As := [.ref tv, .int x]) (rest := []) C hV hS (c_chr_g l G b0 V sa tv us hs hu x j hj) q_1103 q_1104 q_122 q_1105 dk_J1_charAt_3b067 (rmc_ok (by decide) (by decide)) hl.1 rfl (Nat.le_of_ble_eq_true rfl) dJ0_charAt_5068e_12 (rmc_cs (by decide))) hS (fun H locs hV hS => ?_)
  obtain ⟨-, -, hr, -, -, -, hlocks, hK, hSv⟩ := C
  exact W.zret (v := i2c (tby us j &&& 255)) hx hb hr (nar_c (nar_i2c _)) (fun t ht hW => ⟨⟨_, (), rfl, rfl, Iv.mk hK hSv hV hS ht hW⟩, hS.F ht⟩) hS.2.2 dJ0_charAt_5068e_15
set_option maxHeartbeats 4000000 in
set_option maxRecDepth 100000 in
theorem c_isL5 (l : Launch) (G : LG) (b0 : Nat) (V : St) (a bv : Nat) (n ml : Int32) (hm : ((a, sbE bv n ml) : Nat × va_E) ∈ G.2.2.2.1) : Met l yJ5_isLatin1_aae02 (wy yJ5_isLatin1_aae02 cJ5_isLatin1_aae02 1 (some .boolean)) (rmc 0 0) (va_Pc [.ref a] (Iv G b0 V)) (QI G b0 1 V) 0 (6 * 0) (Ab b0) := by
  refine mk_c (by decide +kernel) (Nat.le_of_ble_eq_true rfl) ?_
  intro p e s m below meth c C hV hS ls hl
  obtain ⟨args, hargs⟩ : ∃ z, z = ([.ref a] : List Value).toArray := ⟨_, rfl⟩
  rw [← hargs] at C ⊢
  obtain ⟨hx, hb, hrt, hml, hown, hts, hlocks, hK, hSv⟩ := id C
  have hl : lv_has ls 1 [(0, .ref a)] := hl
  refine va_gets hx hb hSv.2.2.2.1 hS hown (hts _ q_857) (fun _ h => h) dJ5_isLatin1_aae02_0 ?_
  refine lv_if_eq (tgt := 17) hx hb dJ5_isLatin1_aae02_3 (by decide) (fun b => absurd b (by decide)) (fun _ => ?_)
  refine lv_aload_n hx hb dJ5_isLatin1_aae02_6 rfl (lv_at hl 0 rfl) ?_
  refine x_getm C hV hm (ci := 1) rfl inJ4 1 (by decide) q_867 rfl rfl dJ5_isLatin1_aae02_7 ?_
  refine lv_if_ne (tgt := 17) hx hb dJ5_isLatin1_aae02_10 (by decide) (fun b => absurd rfl b) (fun _ => ?_)
  refine lv_iconst (v := 1) hx hb dJ5_isLatin1_aae02_13 (by decide) ?_
  refine lv_goto (tgt := 18) hx hb dJ5_isLatin1_aae02_14 (by decide) ?_
  exact fin_zc C hV hS (Nat.le_refl _) (by decide) rfl dJ5_isLatin1_aae02_18
set_option maxHeartbeats 4000000 in
set_option maxRecDepth 100000 in
theorem c_getV (l : Launch) (G : LG) (b0 : Nat) (V : St) (a bv : Nat) (n ml : Int32) (hm : ((a, sbE bv n ml) : Nat × va_E) ∈ G.2.2.2.1) : Met l yJ5_getValue_6d5f1 (wy yJ5_getValue_6d5f1 cJ5_getValue_6d5f1 1 (some (.array .byte))) (rmc 0 0) (va_Pc [.ref a] (Iv G b0 V)) (QP b0 (fun r t => r = bv ∧ Iv G b0 V t)) 0 (6 * 0) (Ab b0) := by
  refine mk_c (by decide +kernel) (Nat.le_of_ble_eq_true rfl) ?_
  intro p e s m below meth c C hV hS ls hl
  obtain ⟨args, hargs⟩ : ∃ z, z = ([.ref a] : List Value).toArray := ⟨_, rfl⟩
  rw [← hargs] at C ⊢
  obtain ⟨hx, hb, hrt, hml, hown, hts, hlocks, hK, hSv⟩ := id C
  have hl : lv_has ls 1 [(0, .ref a)] := hl
  refine lv_aload_n hx hb dJ5_getValue_6d5f1_0 rfl (lv_at hl 0 rfl) ?_
  refine x_getm C hV hm (ci := 1) rfl inJ4 0 (by decide) q_866 rfl rfl dJ5_getValue_6d5f1_1 ?_
  exact fin_rp rfl C hV hS (Nat.le_refl _) (fun t ht => ⟨rfl, ht⟩) dJ5_getValue_6d5f1_4
set_option maxHeartbeats 4000000 in
set_option maxRecDepth 100000 in
theorem c_len5 (l : Launch) (G : LG) (b0 : Nat) (V : St) (a bv : Nat) (n ml : Int32) (hm : ((a, sbE bv n ml) : Nat × va_E) ∈ G.2.2.2.1) : Met l yJ5_length_8abf5 (wy yJ5_length_8abf5 cJ5_length_8abf5 1 (some .int)) (rmc 0 0) (va_Pc [.ref a] (Iv G b0 V)) (QI G b0 n V) 0 (6 * 0) (Ab b0) := by
  refine mk_c (by decide +kernel) (Nat.le_of_ble_eq_true rfl) ?_
  intro p e s m below meth c C hV hS ls hl
  obtain ⟨args, hargs⟩ : ∃ z, z = ([.ref a] : List Value).toArray := ⟨_, rfl⟩
  rw [← hargs] at C ⊢
  obtain ⟨hx, hb, hrt, hml, hown, hts, hlocks, hK, hSv⟩ := id C
  have hl : lv_has ls 1 [(0, .ref a)] := hl
  refine lv_aload_n hx hb dJ5_length_8abf5_0 rfl (lv_at hl 0 rfl) ?_
  refine x_getm C hV hm (ci := 1) rfl inJ4 3 (by decide) q_869 rfl rfl dJ5_length_8abf5_1 ?_
  exact fin_ic C hV hS (Nat.le_refl _) rfl dJ5_length_8abf5_4
set_option maxHeartbeats 4000000 in
set_option maxRecDepth 100000 in
theorem c_len4 (l : Launch) (G : LG) (b0 : Nat) (V : St) (a bv : Nat) (n ml : Int32) (hm : ((a, sbE bv n ml) : Nat × va_E) ∈ G.2.2.2.1) : Met l yJ4_length_8abf5 (wy yJ4_length_8abf5 cJ4_length_8abf5 1 (some .int)) (rmc 1 0) (va_Pc [.ref a] (Iv G b0 V)) (QI G b0 n V) 0 (6 * 0) (Ab b0) := by
  refine mk_c (by decide +kernel) (Nat.le_of_ble_eq_true rfl) ?_
  intro p e s m below meth c C hV hS ls hl
  obtain ⟨args, hargs⟩ : ∃ z, z = ([.ref a] : List Value).toArray := ⟨_, rfl⟩
  rw [← hargs] at C ⊢
  obtain ⟨hx, hb, hrt, hml, hown, hts, hlocks, hK, hSv⟩ := id C
  have hl : lv_has ls 1 [(0, .ref a)] := hl
  refine lv_aload_n hx hb dJ4_length_8abf5_0 rfl (lv_at hl 0 rfl) ?_
  refine cal_ic (run_SU (As := []) (rest := []) C hV hS (c_len5 l G b0 V a bv n ml hm) hm (ci := 1) rfl q_1047 q_1043 q_878 q_1042 q_115 q_1048 (by decide) dk_J5_length_8abf5 (rmc_ok (by decide) (by decide)) hl.1 rfl (Nat.le_of_ble_eq_true rfl) dJ4_length_8abf5_1 (rmc_cs (by decide))) hS (fun H locs hV hS => ?_)
  exact fin_ic (w := 0 + 0) C hV hS (by decide) rfl dJ4_length_8abf5_4
set_option maxHeartbeats 4000000 in
set_option maxRecDepth 100000 in
theorem c_newLen (l : Launch) (G : LG) (b0 : Nat) (V : St) (k : Nat) (hk : k ≤ 18) : Met l yJ8_newLength_cabcc (wy yJ8_newLength_cabcc cJ8_newLength_cabcc 4 (some .int)) (rmc 1 0) (va_Pc [.int 16, .int (nI k), .int 18] (Iv G b0 V)) (QI G b0 34 V) 0 (6 * 0) (Ab b0) := by
  refine mk_c (by decide +kernel) (Nat.le_of_ble_eq_true rfl) ?_
  intro p e s m below meth c C hV hS ls hl
  obtain ⟨args, hargs⟩ : ∃ z, z = ([.int 16, .int (nI k), .int 18] : List Value).toArray := ⟨_, rfl⟩
  rw [← hargs] at C ⊢
  obtain ⟨hx, hb, hrt, hml, hown, hts, hlocks, hK, hSv⟩ := id C
  have hl : lv_has ls 4 [(0, .int 16), (1, .int (nI k)), (2, .int 18)] := hl
  refine lv_iload_n hx hb dJ8_newLength_cabcc_0 rfl (lv_at hl 0 rfl) ?_
  refine lv_iload_n hx hb dJ8_newLength_cabcc_1 rfl (lv_at hl 1 rfl) ?_
  refine lv_iload_n hx hb dJ8_newLength_cabcc_2 rfl (lv_at hl 2 rfl) ?_
  refine r_max (D := 0) C q_902 q_706 q_112 q_707 hl.1 ⟨rfl, rfl⟩ (Nat.le_of_ble_eq_true rfl) (rmc_c0 (by decide)) dJ8_newLength_cabcc_3 ?_
  refine lv_iadd hx hb dJ8_newLength_cabcc_6 ?_
  rw [show (16 : Int32) + (if nI k < 18 then 18 else nI k) = 34 from (by decide +kernel : ∀ k : Fin 19, (16 : Int32) + (if nI k.val < 18 then 18 else nI k.val) = 34) ⟨k, by omega⟩]
  refine lv_istore_n (lv' := [(3, .int 34), (0, .int 16), (1, .int (nI k)), (2, .int 18)]) hx hb dJ8_newLength_cabcc_7 rfl hl (by decide) rfl (fun ls hl => ?_)
  refine lv_iconst (v := 0) hx hb dJ8_newLength_cabcc_8 (by decide) ?_
  refine lv_iload_n hx hb dJ8_newLength_cabcc_9 rfl (lv_at hl 0 rfl) ?_
  refine lv_icmp_ge (tgt := 21) hx hb dJ8_newLength_cabcc_10 (by decide) (fun b => absurd b (by decide)) (fun _ => ?_)
  refine lv_iload_n hx hb dJ8_newLength_cabcc_13 rfl (lv_at hl 0 rfl) ?_
  refine lv_ldc (v := 2147483639) hx hb hown (hts _ q_903) dJ8_newLength_cabcc_14 ?_
  refine lv_icmp_gt (tgt := 21) hx hb dJ8_newLength_cabcc_16 (by decide) (fun b => absurd b (by decide)) (fun _ => ?_)
  refine lv_iload_n hx hb dJ8_newLength_cabcc_19 rfl (lv_at hl 0 rfl) ?_
  exact fin_ic (w := 0) C hV hS (Nat.le_refl _) rfl dJ8_newLength_cabcc_20
set_option maxHeartbeats 4000000 in
set_option maxRecDepth 100000 in
theorem c_newCap (l : Launch) (G : LG) (b0 : Nat) (V : St) (a bv : Nat) (n ml : Int32) (hm : ((a, sbE bv n ml) : Nat × va_E) ∈ G.2.2.2.1) (f : Nat → Int32) (hbm : ((bv, ab G 16 f) : Nat × va_E) ∈ G.2.2.2.1) (k : Nat) (hk : 16 < k ∧ k ≤ 34) : Met l yJ5_newCapacity_0f7a4 (wy yJ5_newCapacity_0f7a4 cJ5_newCapacity_0f7a4 6 (some .int)) (rmc 2 0) (va_Pc [.ref a, .int (nI k)] (Iv G b0 V)) (QI G b0 34 V) 0 (6 * 0) (Ab b0) := by
  refine mk_c (by decide +kernel) (Nat.le_of_ble_eq_true rfl) ?_
  intro p e s m below meth c C hV hS ls hl
  obtain ⟨args, hargs⟩ : ∃ z, z = ([.ref a, .int (nI k)] : List Value).toArray := ⟨_, rfl⟩
  rw [← hargs] at C ⊢
  obtain ⟨hx, hb, hrt, hml, hown, hts, hlocks, hK, hSv⟩ := id C
  have hl : lv_has ls 6 [(0, .ref a), (1, .int (nI k))] := hl
  refine lv_aload_n hx hb dJ5_newCapacity_0f7a4_0 rfl (lv_at hl 0 rfl) ?_
  refine x_getm C hV hm (ci := 1) rfl inJ4 0 (by decide) q_866 rfl rfl dJ5_newCapacity_0f7a4_1 ?_
  refine x_alenm C hV hbm dJ5_newCapacity_0f7a4_4 ?_
  refine lv_istore_n (lv' := [(2, .int 16), (0, .ref a), (1, .int (nI k))]) hx hb dJ5_newCapacity_0f7a4_5 rfl hl (by decide) rfl (fun ls hl => ?_)
  refine lv_iload_n hx hb dJ5_newCapacity_0f7a4_6 rfl (lv_at hl 2 rfl) ?_
  refine lv_aload_n hx hb dJ5_newCapacity_0f7a4_7 rfl (lv_at hl 1 rfl) ?_
  refine x_getm C hV hm (ci := 1) rfl inJ4 1 (by decide) q_867 rfl rfl dJ5_newCapacity_0f7a4_8 ?_
  refine lv_ishl hx hb dJ5_newCapacity_0f7a4_11 ?_
  rw [shl0]
  refine lv_istore_n (lv' := [(3, .int (nI k)), (2, .int 16), (0, .ref a), (1, .int (nI k))]) hx hb dJ5_newCapacity_0f7a4_12 rfl hl (by decide) rfl (fun ls hl => ?_)
  refine lv_iload_n hx hb dJ5_newCapacity_0f7a4_13 rfl (lv_at hl 0 rfl) ?_
  refine lv_iload_n hx hb dJ5_newCapacity_0f7a4_14 rfl (lv_at hl 1 rfl) ?_
  refine lv_isub hx hb dJ5_newCapacity_0f7a4_15 ?_
  rw [show nI k - 16 = nI (k - 16) from pk_sub (a := k) (b := 16) (by omega)]
  refine lv_istore (lv' := [(4, .int (nI (k - 16))), (3, .int (nI k)), (2, .int 16), (0, .ref a), (1, .int (nI k))]) hx hb dJ5_newCapacity_0f7a4_16 hl (by decide) rfl (fun ls hl => ?_)
  refine lv_iload_n hx hb dJ5_newCapacity_0f7a4_18 rfl (lv_at hl 2 rfl) ?_
  refine lv_iload hx hb dJ5_newCapacity_0f7a4_19 (lv_at hl 0 rfl) ?_
  refine lv_iload_n hx hb dJ5_newCapacity_0f7a4_21 rfl (lv_at hl 2 rfl) ?_
  refine lv_iconst (v := 2) hx hb dJ5_newCapacity_0f7a4_22 (by decide) ?_
  refine lv_aload_n hx hb dJ5_newCapacity_0f7a4_23 rfl (lv_at hl 3 rfl) ?_
  refine x_getm C hV hm (ci := 1) rfl inJ4 1 (by decide) q_867 rfl rfl dJ5_newCapacity_0f7a4_24 ?_
  refine lv_ishl hx hb dJ5_newCapacity_0f7a4_27 ?_
  rw [shl0]
  refine lv_iadd hx hb dJ5_newCapacity_0f7a4_28 ?_
  rw [show (16 : Int32) + 2 = 18 from rfl]
  refine cal_ic (run_C (As := [.int 16, .int (nI (k - 16)), .int 18]) (rest := []) C hV hS (c_newLen l G b0 V (k - 16) (by omega)) q_899 q_900 q_118 q_901 dk_J8_newLength_cabcc (rmc_ok (by decide) (by decide)) hl.1 rfl (Nat.le_of_ble_eq_true rfl) dJ5_newCapacity_0f7a4_29 (rmc_cs (by decide))) hS (fun H locs hV hS => ?_)
  refine lv_istore (lv' := [(5, .int 34), (4, .int (nI (k - 16))), (3, .int (nI k)), (2, .int 16), (0, .ref a), (1, .int (nI k))]) hx hb dJ5_newCapacity_0f7a4_32 hl (by decide) rfl (fun ls hl => ?_)
  refine lv_iload hx hb dJ5_newCapacity_0f7a4_34 (lv_at hl 0 rfl) ?_
  refine lv_ldc (v := 2147483647) hx hb hown (hts _ q_907) dJ5_newCapacity_0f7a4_36 ?_
  refine lv_icmp_ne (tgt := 51) hx hb dJ5_newCapacity_0f7a4_38 (by decide) (fun _ => ?_) (fun b => absurd b (by decide))
  refine lv_iload hx hb dJ5_newCapacity_0f7a4_51 (lv_at hl 0 rfl) ?_
  refine lv_aload_n hx hb dJ5_newCapacity_0f7a4_53 rfl (lv_at hl 4 rfl) ?_
  refine x_getm C hV hm (ci := 1) rfl inJ4 1 (by decide) q_867 rfl rfl dJ5_newCapacity_0f7a4_54 ?_
  refine lv_ishr hx hb dJ5_newCapacity_0f7a4_57 ?_
  exact fin_ic (w := 0 + 0) C hV hS (by decide) (by decide) dJ5_newCapacity_0f7a4_58
set_option maxHeartbeats 4000000 in
set_option maxRecDepth 100000 in
theorem c_copyOf (l : Launch) (G : LG) (b0 : Nat) (V : St) (bv m9 q9 : Nat) (f : Nat → Int32) (hbm : ((bv, ab G m9 f) : Nat × va_E) ∈ G.2.2.2.1) (hq : m9 < q9 ∧ q9 ≤ 36) (hf : Bf f) : Met l yJ7_copyOf_9075b (wy yJ7_copyOf_9075b cJ7_copyOf_9075b 3 (some (.array .byte))) (rmc 1 6) (va_Pc [.ref bv, .int (nI q9)] (Iv G b0 V)) (QP b0 (fun r t => ∃ f9, Fr G b0 r ∧ Bf f9 ∧ (∀ j, j < m9 → f9 j = f j) ∧ Iv (xg G r (ab G q9 f9)) b0 V t)) 6 (6 * 6) (Ab b0) := by
  refine mk_c (by decide +kernel) (Nat.le_of_ble_eq_true rfl) ?_
  intro p e s m below meth c C hV hS ls hl
  obtain ⟨args, hargs⟩ : ∃ z, z = ([.ref bv, .int (nI q9)] : List Value).toArray := ⟨_, rfl⟩
  rw [← hargs] at C ⊢
  obtain ⟨hx, hb, hrt, hml, hown, hts, hlocks, hK, hSv⟩ := id C
  have hl : lv_has ls 3 [(0, .ref bv), (1, .int (nI q9))] := hl
  refine lv_iload_n hx hb dJ7_copyOf_9075b_0 rfl (lv_at hl 1 rfl) ?_
  refine lv_aload_n hx hb dJ7_copyOf_9075b_1 rfl (lv_at hl 0 rfl) ?_
  refine x_alenm C hV hbm dJ7_copyOf_9075b_2 ?_
  refine lv_icmp_ne (tgt := 14) hx hb dJ7_copyOf_9075b_3 (by decide) (fun _ => ?_) (fun b => absurd ((nI_eq (a := q9) (b := m9) (by omega) (by omega)).mp b) (by omega))
  refine lv_iload_n hx hb dJ7_copyOf_9075b_14 rfl (lv_at hl 1 rfl) ?_
  refine x_newb (w := 0) (u := 6) (N' := q9) C hV hS (nI_pos (by omega)) (nI_clamp (by omega)) (by omega) ⟨by decide, by omega⟩ (rmc_cs (by decide)) dJ7_copyOf_9075b_15 (fun a9 H hF hV hS => ?_)
  refine lv_astore_n (lv' := [(2, .ref a9), (0, .ref bv), (1, .int (nI q9))]) hx hb dJ7_copyOf_9075b_17 rfl hl (by decide) rfl (fun ls hl => ?_)
  have hbm2 : ((bv, ab (xg G a9 (ab G q9 (fun _ => 0))) m9 f) : Nat × va_E) ∈ (xg G a9 (ab G q9 (fun _ => 0))).2.2.2.1 := List.mem_cons_of_mem _ hbm
  refine lv_aload_n hx hb dJ7_copyOf_9075b_18 rfl (lv_at hl 1 rfl) ?_
  refine lv_iconst (v := 0) hx hb dJ7_copyOf_9075b_19 (by decide) ?_
  refine lv_aload_n hx hb dJ7_copyOf_9075b_20 rfl (lv_at hl 0 rfl) ?_
  refine lv_iconst (v := 0) hx hb dJ7_copyOf_9075b_21 (by decide) ?_
  refine lv_aload_n hx hb dJ7_copyOf_9075b_22 rfl (lv_at hl 1 rfl) ?_
  refine x_alenm C.x hV hbm2 dJ7_copyOf_9075b_23 ?_
  refine lv_iload_n hx hb dJ7_copyOf_9075b_24 rfl (lv_at hl 2 rfl) ?_
  refine r_min (D := 0) C q_918 q_703 q_112 q_704 hl.1 ⟨rfl, rfl⟩ (Nat.le_of_ble_eq_true rfl) (rmc_c0 (by decide)) dJ7_copyOf_9075b_25 ?_
  rw [show (if nI q9 < Int32.ofNat m9 then nI q9 else Int32.ofNat m9) = nI m9 from if_neg (nI_nlt (by omega) (by omega))]
  obtain ⟨scr, k1, k2, k3, k4, k5⟩ := ab_cell (Kv.x hK) hV hbm2
  refine x_copyb (sp' := 0) (dp' := 0) (n' := m9) C hV hF hS q_919 k1 k2 k3 k4 k5 (by decide) (by decide) (nI_pos (by omega)) rfl rfl (nI_clamp (by omega)) (by omega) (by omega) hf hl.1 (Nat.le_refl _) (Nat.le_refl _) (Nat.le_of_ble_eq_true rfl) dJ7_copyOf_9075b_28 (fun H locs hV hS => ?_)
  refine lv_aload_n hx hb dJ7_copyOf_9075b_31 rfl (lv_at hl 0 rfl) ?_
  refine fin_rp (w := 0 + 6) rfl C.x hV hS (by decide) (fun t ht => ⟨_, hF, fun j => ?_, fun j hj => ?_, ht⟩) dJ7_copyOf_9075b_32
  · unfold va_cpy
    split
    · exact hf _
    · exact (by decide : fits .byte (.int 0) = true)
  · rw [pk_cpy_in (by omega) (by omega)]
    congr 1
    omega
