theorem sg_a {G : LG} {a bv m : Nat} {n ml : Int32} {f : Nat → Int32} : ((a, sbE bv n ml) : Nat × va_E) ∈ (sg G a bv m n ml f).2.2.2.1 := List.mem_cons_self
theorem sg_b {G : LG} {a bv m : Nat} {n ml : Int32} {f : Nat → Int32} : ((bv, ab (sg G a bv m n ml f) m f) : Nat × va_E) ∈ (sg G a bv m n ml f).2.2.2.1 := List.mem_cons_of_mem _ List.mem_cons_self
theorem sg_g {G : LG} {a bv m : Nat} {n ml : Int32} {f : Nat → Int32} {x : Nat × va_E} (h : x ∈ G.2.2.2.1) : x ∈ (sg G a bv m n ml f).2.2.2.1 := List.mem_cons_of_mem _ (List.mem_cons_of_mem _ h)
theorem Src.sg {G : LG} {a bv m : Nat} {n ml : Int32} {f : Nat → Int32} {sa tv : Nat} {us : List Int32} (h : Src G sa tv us) : Src (sg G a bv m n ml f) sa tv us := h.mono rfl rfl (fun _ h => sg_g h)
/-- the builder at a holds the text ts -/
def SBI (G : LG) (b0 : Nat) (V : St) (a : Nat) (ts : List Int32) (t : State) : Prop := ∃ (bv m9 : Nat) (ml : Int32) (f : Nat → Int32), (m9 = 16 ∨ m9 = 34) ∧ ts.length ≤ m9 ∧ Bf f ∧ (∀ j, j < ts.length → f j = tby ts j) ∧ SbF G b0 a bv ∧ Iv (sg G a bv m9 (nI ts.length) ml f) b0 V t
set_option maxHeartbeats 4000000 in
set_option maxRecDepth 100000 in
theorem c_ensure (l : Launch) (G : LG) (b0 : Nat) (V : St) (a bv m9 : Nat) (n ml : Int32) (f : Nat → Int32) (hF : SbF G b0 a bv) (k : Nat) (hm9 : m9 = 16 ∨ m9 = 34) (hk : k ≤ 34) (hf : Bf f) : Met l yJ5_ensureCapacityInternal_d00df (wy yJ5_ensureCapacityInternal_d00df cJ5_ensureCapacityInternal_d00df 3 none) (rmc 3 6) (va_Pc [.ref a, .int (nI k)] (Iv (sg G a bv m9 n ml f) b0 V)) (QN b0 (fun t => ∃ bv2 m2 f2, (m2 = 16 ∨ m2 = 34) ∧ k ≤ m2 ∧ m9 ≤ m2 ∧ Bf f2 ∧ (∀ j, j < m9 → f2 j = f j) ∧ SbF G b0 a bv2 ∧ Iv (sg G a bv2 m2 n ml f2) b0 V t)) 6 (6 * 6) (Ab b0) := by
  refine mk_c (by decide +kernel) (Nat.le_of_ble_eq_true rfl) ?_
  intro p e s m below meth c C hV hS ls hl
  obtain ⟨args, hargs⟩ : ∃ z, z = ([.ref a, .int (nI k)] : List Value).toArray := ⟨_, rfl⟩
  rw [← hargs] at C ⊢
  obtain ⟨hx, hb, hrt, hml, hown, hts, hlocks, hK, hSv⟩ := id C
  have hl : lv_has ls 3 [(0, .ref a), (1, .int (nI k))] := hl
  refine lv_aload_n hx hb dJ5_ensureCapacityInternal_d00df_0 rfl (lv_at hl 0 rfl) ?_
  refine x_getm C hV sg_a (ci := 1) rfl inJ4 0 (by decide) q_866 rfl rfl dJ5_ensureCapacityInternal_d00df_1 ?_
  refine x_alenm C hV sg_b dJ5_ensureCapacityInternal_d00df_4 ?_
  refine lv_aload_n hx hb dJ5_ensureCapacityInternal_d00df_5 rfl (lv_at hl 0 rfl) ?_
  refine x_getm C hV sg_a (ci := 1) rfl inJ4 1 (by decide) q_867 rfl rfl dJ5_ensureCapacityInternal_d00df_6 ?_
  refine lv_ishr hx hb dJ5_ensureCapacityInternal_d00df_9 ?_
  rw [sh0 m9 (by omega)]
  refine lv_istore_n (lv' := [(2, .int (nI m9)), (0, .ref a), (1, .int (nI k))]) hx hb dJ5_ensureCapacityInternal_d00df_10 rfl hl (by decide) rfl (fun ls hl => ?_)
  refine lv_iload_n hx hb dJ5_ensureCapacityInternal_d00df_11 rfl (lv_at hl 2 rfl) ?_
  refine lv_iload_n hx hb dJ5_ensureCapacityInternal_d00df_12 rfl (lv_at hl 0 rfl) ?_
  refine lv_isub hx hb dJ5_ensureCapacityInternal_d00df_13 ?_
  have e1 : (nI k - nI m9).toInt = (k : Int) - m9 := pk_sub_toInt (by omega) (by omega)
  refine lv_if_le (tgt := 38) hx hb dJ5_ensureCapacityInternal_d00df_14 (by decide) (fun b => ?_) (fun b => ?_)
  · have b2 : k ≤ m9 := by
      rw [Int32.le_iff_toInt_le, e1, Int32.toInt_zero] at b
      omega
    exact fin_vn (w := 0) C hV hS (by decide) (fun t ht => ⟨bv, m9, f, hm9, b2, Nat.le_refl _, hf, fun _ _ => rfl, hF, ht⟩) dJ5_ensureCapacityInternal_d00df_38
  · have b2 : ¬ k ≤ m9 := fun z => b (by rw [Int32.le_iff_toInt_le, e1, Int32.toInt_zero]; omega)
    have hm16 : m9 = 16 := by omega
    subst hm16
    refine lv_aload_n hx hb dJ5_ensureCapacityInternal_d00df_17 rfl (lv_at hl 1 rfl) ?_
    refine lv_aload_n hx hb dJ5_ensureCapacityInternal_d00df_18 rfl (lv_at hl 1 rfl) ?_
    refine x_getm C hV sg_a (ci := 1) rfl inJ4 0 (by decide) q_866 rfl rfl dJ5_ensureCapacityInternal_d00df_19 ?_
    refine lv_aload_n hx hb dJ5_ensureCapacityInternal_d00df_22 rfl (lv_at hl 1 rfl) ?_
    refine lv_iload_n hx hb dJ5_ensureCapacityInternal_d00df_23 rfl (lv_at hl 2 rfl) ?_
    refine cal_ic (run_K (As := [.int (nI k)]) (rest := [.ref bv, .ref a]) C hV hS (c_newCap l (sg G a bv 16 n ml f) b0 V a bv n ml sg_a f sg_b k (by omega)) (rcv_m hK hV sg_a (ci := 1) rfl) (hts _ sx_0) q_895 q_897 q_115 q_898 dk_J5_newCapacity_0f7a4 (rmc_ok (by decide) (by decide)) hl.1 rfl (Nat.le_of_ble_eq_true rfl) dJ5_ensureCapacityInternal_d00df_24 (rmc_cs (by decide))) hS (fun H locs hV hS => ?_)
    refine lv_aload_n hx hb dJ5_ensureCapacityInternal_d00df_27 rfl (lv_at hl 1 rfl) ?_
    refine x_getm C hV sg_a (ci := 1) rfl inJ4 1 (by decide) q_867 rfl rfl dJ5_ensureCapacityInternal_d00df_28 ?_
    refine lv_ishl hx hb dJ5_ensureCapacityInternal_d00df_31 ?_
    rw [shl0]
    refine cal_p (run_C (As := [.ref bv, .int (nI 34)]) (rest := [.ref a]) C hV hS (c_copyOf l (sg G a bv 16 n ml f) b0 V bv 16 34 f sg_b ⟨by decide, by decide⟩ hf) q_908 q_909 q_119 q_910 dk_J7_copyOf_9075b (rmc_ok (by decide) (by decide)) hl.1 rfl (Nat.le_of_ble_eq_true rfl) dJ5_ensureCapacityInternal_d00df_32 (rmc_cs (by decide))) hS (fun r t H locs hP ht hS => ?_)
    obtain ⟨f9, g1, g2, g3, g4⟩ := hP
    have hF2 : SbF G b0 a r := ⟨⟨g1.1, fun x hx => g1.2 x (sg_g hx)⟩, hF.2.1, fun e => g1.2 _ sg_a e⟩
    have hV : Hd (xg (xg G r (ab G 34 f9)) a (sbE bv n ml)) b0 V H := by
      rw [← ht]
      refine g4.1.sub (L := (a, sbE bv n ml) :: (r, ab G 34 f9) :: G.2.2.2.1) (fun x hx => ?_)
      rcases List.mem_cons.mp hx with rfl | hx
      · exact List.mem_cons_of_mem _ sg_a
      · rcases List.mem_cons.mp hx with rfl | hx
        · exact List.mem_cons_self
        · exact List.mem_cons_of_mem _ (sg_g hx)
    have C2 : Cx p l s m args meth c (xg G r (ab G 34 f9)) b0 yJ5_ensureCapacityInternal_d00df.cls cJ5_ensureCapacityInternal_d00df 3 none := C
    refine x_putm C2 hV hF2.a hS (ci := 1) rfl inJ4 tyJ4 tyJ4_ok nmJ4 0 (by decide) q_866 rfl (fun h => by cases h) (ty := .array .byte) (by decide +kernel) rfl rfl (Nat.le_of_ble_eq_true rfl) dJ5_ensureCapacityInternal_d00df_35 (fun H locs hV hS => ?_)
    have C3 : Cx p l s m args meth c (sg G a r 34 n ml f9) b0 yJ5_ensureCapacityInternal_d00df.cls cJ5_ensureCapacityInternal_d00df 3 none := C
    exact fin_vn (w := 0 + 0 + 6) C3 hV hS (by decide) (fun t ht => ⟨r, 34, f9, Or.inr rfl, by omega, by decide, g2, g3, hF2, ht⟩) dJ5_ensureCapacityInternal_d00df_38
set_option maxHeartbeats 4000000 in
set_option maxRecDepth 100000 in
theorem c_infl (l : Launch) (G : LG) (b0 : Nat) (V : St) (a bv : Nat) (n ml : Int32) (hm : ((a, sbE bv n ml) : Nat × va_E) ∈ G.2.2.2.1) (sa tv : Nat) (us : List Int32) (hs : Src G sa tv us) : Met l yJ5_inflateIfNeededFor_a7421 (wy yJ5_inflateIfNeededFor_a7421 cJ5_inflateIfNeededFor_a7421 2 none) (rmc 1 0) (va_Pc [.ref a, .ref sa] (Iv G b0 V)) (QN b0 (fun t => Iv G b0 V t)) 0 (6 * 0) (Ab b0) := by
  refine mk_c (by decide +kernel) (Nat.le_of_ble_eq_true rfl) ?_
  intro p e s m below meth c C hV hS ls hl
  obtain ⟨args, hargs⟩ : ∃ z, z = ([.ref a, .ref sa] : List Value).toArray := ⟨_, rfl⟩
  rw [← hargs] at C ⊢
  obtain ⟨hx, hb, hrt, hml, hown, hts, hlocks, hK, hSv⟩ := id C
  have hl : lv_has ls 2 [(0, .ref a), (1, .ref sa)] := hl
  refine va_gets hx hb hSv.2.2.2.1 hS hown (hts _ q_857) (fun _ h => h) dJ5_inflateIfNeededFor_a7421_0 ?_
  refine lv_if_eq (tgt := 21) hx hb dJ5_inflateIfNeededFor_a7421_3 (by decide) (fun b => absurd b (by decide)) (fun _ => ?_)
  refine lv_aload_n hx hb dJ5_inflateIfNeededFor_a7421_6 rfl (lv_at hl 0 rfl) ?_
  refine x_getm C hV hm (ci := 1) rfl inJ4 1 (by decide) q_867 rfl rfl dJ5_inflateIfNeededFor_a7421_7 ?_
  refine lv_aload_n hx hb dJ5_inflateIfNeededFor_a7421_10 rfl (lv_at hl 1 rfl) ?_
  refine cal_ic (run_K (As := []) (rest := [.int 0]) C hV hS (c_coder_g l G b0 V sa tv us hs) (x_srcv hK hSv hV hS hs) (hts _ q_959) q_970 q_958 q_111 q_960 dk_J0_coder_7d493 (rmc_ok (by decide) (by decide)) hl.1 rfl (Nat.le_of_ble_eq_true rfl) dJ5_inflateIfNeededFor_a7421_11 (rmc_cs (by decide))) hS (fun H locs hV hS => ?_)
  refine lv_icmp_eq (tgt := 21) hx hb dJ5_inflateIfNeededFor_a7421_14 (by decide) (fun _ => ?_) (fun b => absurd rfl b)
  exact fin_vn (w := 0 + 0) C hV hS (by decide) (fun t ht => ht) dJ5_inflateIfNeededFor_a7421_21
set_option maxHeartbeats 4000000 in
set_option maxRecDepth 100000 in
theorem c_getB (l : Launch) (G : LG) (b0 : Nat) (V : St) (bv m9 at9 : Nat) (f : Nat → Int32) (hF : Fr G b0 bv) (sa tv : Nat) (us : List Int32) (hs : Src G sa tv us) (hu : us.length < 100) (hfu : Bf (tby us)) (hat : at9 + us.length ≤ m9) (hm9 : m9 < 100) : Met l yJ0_getBytes_840e7 (wy yJ0_getBytes_840e7 cJ0_getBytes_840e7 4 none) (rmc 1 0) (va_Pc [.ref sa, .ref bv, .int (nI at9), .int 0] (Iv (xg G bv (ab G m9 f)) b0 V)) (QN b0 (fun t => Iv (xg G bv (ab G m9 (va_cpy (tby us) f 0 at9 us.length))) b0 V t)) 0 (6 * 0) (Ab b0) := by
  have hs2 : Src (xg G bv (ab G m9 f)) sa tv us := hs.mono rfl rfl (fun _ h => List.mem_cons_of_mem _ h)
  refine mk_c (by decide +kernel) (Nat.le_of_ble_eq_true rfl) ?_
  intro p e s m below meth c C hV hS ls hl
  obtain ⟨args, hargs⟩ : ∃ z, z = ([.ref sa, .ref bv, .int (nI at9), .int 0] : List Value).toArray := ⟨_, rfl⟩
  rw [← hargs] at C ⊢
  obtain ⟨hx, hb, hrt, hml, hown, hts, hlocks, hK, hSv⟩ := id C
  have hl : lv_has ls 4 [(0, .ref sa), (1, .ref bv), (2, .int (nI at9)), (3, .int 0)] := hl
  refine lv_aload_n hx hb dJ0_getBytes_840e7_0 rfl (lv_at hl 0 rfl) ?_
  refine cal_ic (run_K (As := []) (rest := []) C hV hS (c_coder_g l (xg G bv (ab G m9 f)) b0 V sa tv us hs2) (x_srcv hK hSv hV hS hs2) (hts _ q_959) q_957 q_958 q_111 q_960 dk_J0_coder_7d493 (rmc_ok (by decide) (by decide)) hl.1 rfl (Nat.le_of_ble_eq_true rfl) dJ0_getBytes_840e7_1 (rmc_cs (by decide))) hS (fun H locs hV hS => ?_)
  refine lv_iload_n hx hb dJ0_getBytes_840e7_4 rfl (lv_at hl 3 rfl) ?_
  refine lv_icmp_ne (tgt := 28) hx hb dJ0_getBytes_840e7_5 (by decide) (fun b => absurd rfl b) (fun _ => ?_)
  refine lv_aload_n hx hb dJ0_getBytes_840e7_8 rfl (lv_at hl 0 rfl) ?_
  refine x_svalue C hV hS hs2 q_1080 dJ0_getBytes_840e7_9 ?_
  refine lv_iconst (v := 0) hx hb dJ0_getBytes_840e7_12 (by decide) ?_
  refine lv_aload_n hx hb dJ0_getBytes_840e7_13 rfl (lv_at hl 1 rfl) ?_
  refine lv_iload_n hx hb dJ0_getBytes_840e7_14 rfl (lv_at hl 2 rfl) ?_
  refine lv_iload_n hx hb dJ0_getBytes_840e7_15 rfl (lv_at hl 3 rfl) ?_
  refine lv_ishl hx hb dJ0_getBytes_840e7_16 ?_
  rw [shl0]
  refine lv_aload_n hx hb dJ0_getBytes_840e7_17 rfl (lv_at hl 0 rfl) ?_
  refine x_svalue C hV hS hs2 q_1080 dJ0_getBytes_840e7_18 ?_
  refine x_stlen C hV hS hs2 dJ0_getBytes_840e7_21 ?_
  obtain ⟨scr, k1, k2, k3, k4, k5⟩ := x_stcell hK hSv hV hS hs2
  have C2 : Cx p l s m args meth c G b0 yJ0_getBytes_840e7.cls cJ0_getBytes_840e7 4 none := C
  refine x_copyb (sp' := 0) (dp' := at9) (n' := us.length) C2 hV hF hS q_994 k1 k2 k3 k4 k5 (by decide) (nI_pos (by omega)) (nI_pos (by omega)) rfl (nI_clamp (by omega)) (nI_clamp (by omega)) (by omega) hat hfu hl.1 (Nat.le_refl _) (Nat.le_refl _) (Nat.le_of_ble_eq_true rfl) dJ0_getBytes_840e7_22 (fun H locs hV hS => ?_)
  refine lv_goto (tgt := 43) hx hb dJ0_getBytes_840e7_25 (by decide) ?_
  exact fin_vn (w := 0 + 0) C2.x hV hS (by decide) (fun t ht => ht) dJ0_getBytes_840e7_43
set_option maxHeartbeats 4000000 in
set_option maxRecDepth 100000 in
theorem c_putS (l : Launch) (G : LG) (b0 : Nat) (V : St) (a bv m9 : Nat) (n ml : Int32) (f : Nat → Int32) (hF : SbF G b0 a bv) (at9 : Nat) (sa tv : Nat) (us : List Int32) (hs : Src G sa tv us) (hu : us.length < 100) (hfu : Bf (tby us)) (hat : at9 + us.length ≤ m9) (hm9 : m9 < 100) : Met l yJ5_putStringAt_47b60 (wy yJ5_putStringAt_47b60 cJ5_putStringAt_47b60 3 none) (rmc 2 0) (va_Pc [.ref a, .int (nI at9), .ref sa] (Iv (sg G a bv m9 n ml f) b0 V)) (QN b0 (fun t => Iv (sg G a bv m9 n ml (va_cpy (tby us) f 0 at9 us.length)) b0 V t)) 0 (6 * 0) (Ab b0) := by
  refine mk_c (by decide +kernel) (Nat.le_of_ble_eq_true rfl) ?_
  intro p e s m below meth c C hV hS ls hl
  obtain ⟨args, hargs⟩ : ∃ z, z = ([.ref a, .int (nI at9), .ref sa] : List Value).toArray := ⟨_, rfl⟩
  rw [← hargs] at C ⊢
  obtain ⟨hx, hb, hrt, hml, hown, hts, hlocks, hK, hSv⟩ := id C
  have hl : lv_has ls 3 [(0, .ref a), (1, .int (nI at9)), (2, .ref sa)] := hl
  refine lv_aload_n hx hb dJ5_putStringAt_47b60_0 rfl (lv_at hl 0 rfl) ?_
  refine lv_aload_n hx hb dJ5_putStringAt_47b60_1 rfl (lv_at hl 2 rfl) ?_
  refine cal_n (run_K (As := [.ref sa]) (rest := []) C hV hS (c_infl l (sg G a bv m9 n ml f) b0 V a bv n ml sg_a sa tv us hs.sg) (rcv_m hK hV sg_a (ci := 1) rfl) (hts _ sx_1) q_966 q_968 q_115 q_969 dk_J5_inflateIfNeededFor_a7421 (rmc_ok (by decide) (by decide)) hl.1 rfl (Nat.le_of_ble_eq_true rfl) dJ5_putStringAt_47b60_2 (rmc_cs (by decide))) hS (fun t H locs hP ht hS => ?_)
  have hV : Hd (sg G a bv m9 n ml f) b0 V H := by rw [← ht]; exact hP.1
  refine lv_aload_n hx hb dJ5_putStringAt_47b60_5 rfl (lv_at hl 2 rfl) ?_
  refine lv_aload_n hx hb dJ5_putStringAt_47b60_6 rfl (lv_at hl 0 rfl) ?_
  refine x_getm C hV sg_a (ci := 1) rfl inJ4 0 (by decide) q_866 rfl rfl dJ5_putStringAt_47b60_7 ?_
  refine lv_iload_n hx hb dJ5_putStringAt_47b60_10 rfl (lv_at hl 1 rfl) ?_
  refine lv_aload_n hx hb dJ5_putStringAt_47b60_11 rfl (lv_at hl 0 rfl) ?_
  refine x_getm C hV sg_a (ci := 1) rfl inJ4 1 (by decide) q_867 rfl rfl dJ5_putStringAt_47b60_12 ?_
  have hV := hV.swap
  have C2 : Cx p l s m args meth c (xg (xg G a (sbE bv n ml)) bv (ab G m9 f)) b0 yJ5_putStringAt_47b60.cls cJ5_putStringAt_47b60 3 none := C
  have hs2 : Src (xg G a (sbE bv n ml)) sa tv us := hs.mono rfl rfl (fun _ h => List.mem_cons_of_mem _ h)
  have hs3 : Src (xg (xg G a (sbE bv n ml)) bv (ab G m9 f)) sa tv us := hs2.mono rfl rfl (fun _ h => List.mem_cons_of_mem _ h)
  obtain ⟨-, -, -, -, -, -, -, hK2, hSv2⟩ := id C2
  refine cal_n (run_K (As := [.ref bv, .int (nI at9), .int 0]) (rest := []) C2 hV hS (c_getB l (xg G a (sbE bv n ml)) b0 V bv m9 at9 f hF.b sa tv us hs2 hu hfu hat hm9) (x_srcv hK2 hSv2 hV hS hs3) (hts _ q_992) q_990 q_991 q_111 q_993 dk_J0_getBytes_840e7 (rmc_ok (by decide) (by decide)) hl.1 rfl (Nat.le_of_ble_eq_true rfl) dJ5_putStringAt_47b60_15 (rmc_cs (by decide))) hS (fun t H locs hP ht hS => ?_)
  have hV : Hd (xg (xg G a (sbE bv n ml)) bv (ab G m9 (va_cpy (tby us) f 0 at9 us.length))) b0 V H := by rw [← ht]; exact hP.1
  have C3 : Cx p l s m args meth c (sg G a bv m9 n ml (va_cpy (tby us) f 0 at9 us.length)) b0 yJ5_putStringAt_47b60.cls cJ5_putStringAt_47b60 3 none := C
  exact fin_vn (w := 0 + 0 + 0) C3 hV.swap hS (by decide) (fun t ht => ht) dJ5_putStringAt_47b60_18
set_option maxHeartbeats 4000000 in
set_option maxRecDepth 100000 in
theorem c_app5s (l : Launch) (G : LG) (b0 : Nat) (V : St) (a bv m9 : Nat) (ml : Int32) (f : Nat → Int32) (hF : SbF G b0 a bv) (ts : List Int32) (hm9 : m9 = 16 ∨ m9 = 34) (hf : Bf f) (hts9 : ts.length ≤ m9) (hft : ∀ j, j < ts.length → f j = tby ts j) (sa tv : Nat) (us : List Int32) (hs : Src G sa tv us) (hu : ts.length + us.length ≤ 34) (hfu : Bf (tby us)) : Met l yJ5_append_cf1ce (wy yJ5_append_cf1ce cJ5_append_cf1ce 3 (some (.object "java/lang/AbstractStringBuilder"))) (rmc 4 6) (va_Pc [.ref a, .ref sa] (Iv (sg G a bv m9 (nI ts.length) ml f) b0 V)) (QP b0 (fun r t => r = a ∧ SBI G b0 V a (ts ++ us) t)) 6 (6 * 6) (Ab b0) := by
  refine mk_c (by decide +kernel) (Nat.le_of_ble_eq_true rfl) ?_
  intro p e s m below meth c C hV hS ls hl
  obtain ⟨args, hargs⟩ : ∃ z, z = ([.ref a, .ref sa] : List Value).toArray := ⟨_, rfl⟩
  rw [← hargs] at C ⊢
  obtain ⟨hx, hb, hrt, hml, hown, hts, hlocks, hK, hSv⟩ := id C
  have hl : lv_has ls 3 [(0, .ref a), (1, .ref sa)] := hl
  refine lv_aload_n hx hb dJ5_append_cf1ce_0 rfl (lv_at hl 1 rfl) ?_
  refine lv_ifnonnull (tgt := 9) hx hb dJ5_append_cf1ce_1 (by decide) ?_
  refine lv_aload_n hx hb dJ5_append_cf1ce_9 rfl (lv_at hl 1 rfl) ?_
  refine cal_ic (run_K (As := []) (rest := []) C hV hS (c_len_g l (sg G a bv m9 (nI ts.length) ml f) b0 V sa tv us hs.sg (by omega)) (x_srcv hK hSv hV hS hs.sg) (hts _ q_955) q_953 q_954 q_111 q_956 dk_J0_length_8abf5 (rmc_ok (by decide) (by decide)) hl.1 rfl (Nat.le_of_ble_eq_true rfl) dJ5_append_cf1ce_10 (rmc_cs (by decide))) hS (fun H locs hV hS => ?_)
  refine lv_istore_n (lv' := [(2, .int (nI us.length)), (0, .ref a), (1, .ref sa)]) hx hb dJ5_append_cf1ce_13 rfl hl (by decide) rfl (fun ls hl => ?_)
  refine lv_aload_n hx hb dJ5_append_cf1ce_14 rfl (lv_at hl 1 rfl) ?_
  refine lv_aload_n hx hb dJ5_append_cf1ce_15 rfl (lv_at hl 1 rfl) ?_
  refine x_getm C hV sg_a (ci := 1) rfl inJ4 3 (by decide) q_869 rfl rfl dJ5_append_cf1ce_16 ?_
  refine lv_iload_n hx hb dJ5_append_cf1ce_19 rfl (lv_at hl 0 rfl) ?_
  refine lv_iadd hx hb dJ5_append_cf1ce_20 ?_
  rw [nI_add]
  refine cal_n (run_K (As := [.int (nI (ts.length + us.length))]) (rest := []) C hV hS (c_ensure l G b0 V a bv m9 (nI ts.length) ml f hF (ts.length + us.length) hm9 hu hf) (rcv_m hK hV sg_a (ci := 1) rfl) (hts _ sx_2) q_891 q_893 q_115 q_894 dk_J5_ensureCapacityInternal_d00df (rmc_ok (by decide) (by decide)) hl.1 rfl (Nat.le_of_ble_eq_true rfl) dJ5_append_cf1ce_21 (rmc_cs (by decide))) hS (fun t H locs hP ht hS => ?_)
  obtain ⟨bv2, m2, f2, p1, p2, p3, p4, p5, p6, p7⟩ := hP
  have hV : Hd (sg G a bv2 m2 (nI ts.length) ml f2) b0 V H := by rw [← ht]; exact p7.1
  have C : Cx p l s m args meth c (sg G a bv2 m2 (nI ts.length) ml f2) b0 yJ5_append_cf1ce.cls cJ5_append_cf1ce 3 (some (.object "java/lang/AbstractStringBuilder")) := C
  refine lv_aload_n hx hb dJ5_append_cf1ce_24 rfl (lv_at hl 1 rfl) ?_
  refine lv_aload_n hx hb dJ5_append_cf1ce_25 rfl (lv_at hl 1 rfl) ?_
  refine x_getm C hV sg_a (ci := 1) rfl inJ4 3 (by decide) q_869 rfl rfl dJ5_append_cf1ce_26 ?_
  refine lv_aload_n hx hb dJ5_append_cf1ce_29 rfl (lv_at hl 2 rfl) ?_
  refine cal_n (run_K (As := [.int (nI ts.length), .ref sa]) (rest := []) C hV hS (c_putS l G b0 V a bv2 m2 (nI ts.length) ml f2 p6 ts.length sa tv us hs (by omega) hfu p2 (by omega)) (rcv_m (show Kv (sg G a bv2 m2 (nI ts.length) ml f2) s from hK) hV sg_a (ci := 1) rfl) (hts _ sx_3) q_962 q_964 q_115 q_965 dk_J5_putStringAt_47b60 (rmc_ok (by decide) (by decide)) hl.1 rfl (Nat.le_of_ble_eq_true rfl) dJ5_append_cf1ce_30 (rmc_cs (by decide))) hS (fun t H locs hP ht hS => ?_)
  have hV : Hd (sg G a bv2 m2 (nI ts.length) ml (va_cpy (tby us) f2 0 ts.length us.length)) b0 V H := by rw [← ht]; exact hP.1
  have C : Cx p l s m args meth c (sg G a bv2 m2 (nI ts.length) ml (va_cpy (tby us) f2 0 ts.length us.length)) b0 yJ5_append_cf1ce.cls cJ5_append_cf1ce 3 (some (.object "java/lang/AbstractStringBuilder")) := C
  refine lv_aload_n hx hb dJ5_append_cf1ce_33 rfl (lv_at hl 1 rfl) ?_
  refine lv_dup hx hb dJ5_append_cf1ce_34 rfl ?_
  refine x_getm C hV sg_a (ci := 1) rfl inJ4 3 (by decide) q_869 rfl rfl dJ5_append_cf1ce_35 ?_
  refine lv_iload_n hx hb dJ5_append_cf1ce_38 rfl (lv_at hl 0 rfl) ?_
  refine lv_iadd hx hb dJ5_append_cf1ce_39 ?_
  rw [nI_add]
  have C2 : Cx p l s m args meth c (xg G bv2 (ab G m2 (va_cpy (tby us) f2 0 ts.length us.length))) b0 yJ5_append_cf1ce.cls cJ5_append_cf1ce 3 (some (.object "java/lang/AbstractStringBuilder")) := C
  refine x_putm C2 hV p6.a hS (ci := 1) rfl inJ4 tyJ4 tyJ4_ok nmJ4 3 (by decide) q_869 rfl (fun h => by cases h) (ty := .int) (by decide +kernel) rfl rfl (Nat.le_of_ble_eq_true rfl) dJ5_append_cf1ce_40 (fun H locs hV hS => ?_)
  have C : Cx p l s m args meth c (sg G a bv2 m2 (nI (ts.length + us.length)) ml (va_cpy (tby us) f2 0 ts.length us.length)) b0 yJ5_append_cf1ce.cls cJ5_append_cf1ce 3 (some (.object "java/lang/AbstractStringBuilder")) := C
  refine lv_aload_n hx hb dJ5_append_cf1ce_43 rfl (lv_at hl 1 rfl) ?_
  refine fin_rp (w := 0 + 0 + 6 + 0) rfl C hV hS (by decide) (fun t ht => ⟨rfl, bv2, m2, ml, _, p1, by rw [List.length_append]; exact p2, fun j => ?_, fun j hj => ?_, p6, by rw [List.length_append]; exact ht⟩) dJ5_append_cf1ce_44
  · unfold va_cpy
    split
    · exact hfu _
    · exact p4 _
  · rw [List.length_append] at hj
    by_cases hj2 : j < ts.length
    · rw [pk_cpy_out (Or.inl hj2), p5 j (by omega), hft j hj2]
      unfold tby
      simp [List.getD_eq_getElem?_getD, List.getElem?_append_left hj2]
    · rw [pk_cpy_in (by omega) (by omega)]
      unfold tby
      simp [List.getD_eq_getElem?_getD, List.getElem?_append_right (Nat.not_lt.mp hj2)]
set_option maxHeartbeats 4000000 in
set_option maxRecDepth 100000 in
theorem c_app4s (l : Launch) (G : LG) (b0 : Nat) (V : St) (a bv m9 : Nat) (ml : Int32) (f : Nat → Int32) (hF : SbF G b0 a bv) (ts : List Int32) (hm9 : m9 = 16 ∨ m9 = 34) (hf : Bf f) (hts9 : ts.length ≤ m9) (hft : ∀ j, j < ts.length → f j = tby ts j) (sa tv : Nat) (us : List Int32) (hs : Src G sa tv us) (hu : ts.length + us.length ≤ 34) (hfu : Bf (tby us)) : Met l yJ4_append_15ec4 (wy yJ4_append_15ec4 cJ4_append_15ec4 2 (some (.object "java/lang/StringBuilder"))) (rmc 5 6) (va_Pc [.ref a, .ref sa] (Iv (sg G a bv m9 (nI ts.length) ml f) b0 V)) (QP b0 (fun r t => r = a ∧ SBI G b0 V a (ts ++ us) t)) 6 (6 * 6) (Ab b0) := by
  refine mk_c (by decide +kernel) (Nat.le_of_ble_eq_true rfl) ?_
  intro p e s m below meth c C hV hS ls hl
  obtain ⟨args, hargs⟩ : ∃ z, z = ([.ref a, .ref sa] : List Value).toArray := ⟨_, rfl⟩
  rw [← hargs] at C ⊢
  obtain ⟨hx, hb, hrt, hml, hown, hts, hlocks, hK, hSv⟩ := id C
  have hl : lv_has ls 2 [(0, .ref a), (1, .ref sa)] := hl
  refine lv_aload_n hx hb dJ4_append_15ec4_0 rfl (lv_at hl 0 rfl) ?_
  refine lv_aload_n hx hb dJ4_append_15ec4_1 rfl (lv_at hl 1 rfl) ?_
  have hm := sg_a (G := G) (a := a) (bv := bv) (m := m9) (n := nI ts.length) (ml := ml) (f := f)
  refine cal_p (run_SU (As := [.ref sa]) (rest := []) C hV hS (c_app5s l G b0 V a bv m9 ml f hF ts hm9 hf hts9 hft sa tv us hs hu hfu) hm (ci := 1) rfl q_884 q_1561 q_878 q_885 q_115 q_886 (by decide) dk_J5_append_cf1ce (rmc_ok (by decide) (by decide)) hl.1 rfl (Nat.le_of_ble_eq_true rfl) dJ4_append_15ec4_2 (rmc_cs (by decide))) hS (fun r t H locs hP ht hS => ?_)
  obtain ⟨rfl, bv2, m2, ml2, f2, p1, p2, p3, p4, p5, p6⟩ := hP
  have hV : Hd (sg G r bv2 m2 (nI (ts ++ us).length) ml2 f2) b0 V H := by rw [← ht]; exact p6.1
  have C : Cx p l s m args meth c (sg G r bv2 m2 (nI (ts ++ us).length) ml2 f2) b0 yJ4_append_15ec4.cls cJ4_append_15ec4 2 (some (.object "java/lang/StringBuilder")) := C
  refine lv_pop hx hb dJ4_append_15ec4_5 rfl ?_
  refine lv_aload_n hx hb dJ4_append_15ec4_6 rfl (lv_at hl 0 rfl) ?_
  exact fin_rp (w := 0 + 6) rfl C hV hS (by decide) (fun t ht => ⟨rfl, bv2, m2, ml2, f2, p1, p2, p3, p4, p5, ht⟩) dJ4_append_15ec4_7
