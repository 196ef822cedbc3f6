theorem len_209 : (byS "knot ").length = 5 := by decide +kernel
theorem len_218 : (byS " ").length = 1 := by decide +kernel
theorem len_220 : (byS "=").length = 1 := by decide +kernel
theorem len_222 : (byS ";tide ").length = 6 := by decide +kernel
theorem len_228 : (byS ";note ").length = 6 := by decide +kernel
theorem len_230 : (byS ";tear ").length = 6 := by decide +kernel
theorem len_232 : (byS "-").length = 1 := by decide +kernel
theorem len_234 : (byS ";").length = 1 := by decide +kernel
theorem bl_209 : Bl (byS "knot ") := by
  unfold Bl
  decide +kernel
theorem bl_218 : Bl (byS " ") := by
  unfold Bl
  decide +kernel
theorem bl_220 : Bl (byS "=") := by
  unfold Bl
  decide +kernel
theorem bl_222 : Bl (byS ";tide ") := by
  unfold Bl
  decide +kernel
theorem bl_228 : Bl (byS ";note ") := by
  unfold Bl
  decide +kernel
theorem bl_230 : Bl (byS ";tear ") := by
  unfold Bl
  decide +kernel
theorem bl_232 : Bl (byS "-") := by
  unfold Bl
  decide +kernel
theorem bl_234 : Bl (byS ";") := by
  unfold Bl
  decide +kernel
theorem dgs_le (k : Nat) : (dgs k).length ≤ 2 ∧ 1 ≤ (dgs k).length := by
  rw [dgs_len]
  split <;> omega
theorem dgs_1 {k : Nat} (h : k < 10) : (dgs k).length = 1 := by rw [dgs_len, if_pos h]
theorem txo_len {n p v : Nat} (hn : n < 10) : (txo n p v).length = 9 + (dgs p).length := by
  unfold txo
  simp only [List.length_append, len_209, len_218, len_220, dgs_1 hn, dgs_1 (show v % 4 < 10 by omega)] <;> omega
theorem txi_len {n p v q : Nat} (hn : n < 10) : (txi n p v q).length = if v % 4 = 0 then 7 else if v % 4 = 1 then 8 + (dgs p).length else if v % 4 = 2 then 9 + (dgs p).length + (dgs q).length else 1 := by
  unfold txi
  split
  · simp only [List.length_append, len_222, dgs_1 (show v % 5 < 10 by omega)] <;> omega
  split
  · simp only [List.length_append, len_228, len_218, dgs_1 hn] <;> omega
  split
  · simp only [List.length_append, len_230, len_218, len_232, dgs_1 hn] <;> omega
  · exact len_234
theorem txl {n p v q : Nat} (hn : n < 10) : (txo n p v ++ txi n p v q).length < 34 ∧ (txo n p v ++ txi n p v q).length ≠ 16 ∧ (txi n p v q).length < 16 ∧ (txo n p v).length ≤ 11 := by
  rw [List.length_append, txo_len hn, txi_len hn]
  have h1 := dgs_le p
  have h2 := dgs_le q
  split
  · omega
  split
  · omega
  split <;> omega
theorem txi_bl {n p v q : Nat} (hn : n < 10) (hp : p < 100) (hq : q < 100) : Bl (txi n p v q) := by
  unfold txi
  split
  · exact Bl.app bl_222 (Bl.dg (by omega))
  split
  · exact Bl.app (Bl.app (Bl.app bl_228 (Bl.dg (by omega))) bl_218) (Bl.dg hp)
  split
  · exact Bl.app (Bl.app (Bl.app (Bl.app (Bl.app bl_230 (Bl.dg (by omega))) bl_218) (Bl.dg hp)) bl_232) (Bl.dg hq)
  · exact bl_234
section DX
variable {p : Program} {l : Launch} {e : Env} {s : State} {m : MethodId} {args : Array Value} {below : List Frame} {meth : Method} {c : Code} {H : Heap} {locs : List Loc} {G : LG} {b0 : Nat} {V : St} {w : Nat} {ls : Array Slot}
set_option maxHeartbeats 8000000 in
set_option maxRecDepth 100000 in
theorem dx_446 (hfl : l.stackTraces = false) (C : Cx p l s m args meth c G b0 RL cL_does 8 (some .int)) {n p9 v q : Nat} (hn : n < 10) (hl : lv_has ls 8 [(3, .ref (b0 + 0)), (4, .int (nI n)), (5, .int (nI p9)), (6, .int (nI v)), (7, .int (nI q))]) {G2 : LG} (hG : ∀ (V1 : St) (H1 : Heap), Hd G2 b0 V1 H1 → Hd G b0 V1 H1) (C2 : Cx p l s m args meth c G2 b0 RL cL_does 8 (some .int)) {a sa tv : Nat} {res : Int32 × St} (hr : f_L_reads (txo n p9 v ++ txi n p9 v q) V = some res) (hB : SBh G2 b0 V a (txo n p9 v) H) (hs : Src G2 sa tv (txi n p9 v q)) (hbl : Bl (txi n p9 v q)) (hS : va_S (Ab b0) s.heap H locs) (hw : w + 77 ≤ 184) : W p l e (rmc 14 184) s m args below meth c H locs w (6 * (w)) (MQ below (QI G b0 res.1 res.2) args s 184 (6 * 184) (Ab b0)) (F0 m 446 ls [.ref sa, .ref a, .ref (b0 + 0)]) := by
  obtain ⟨hx, hb, hrt, hml, hown, hts, hlocks, hK, hSv⟩ := id C
  obtain ⟨t1, t2, t3, t4⟩ := txl (p := p9) (v := v) (q := q) hn
  refine t_apps (G := G2) (w := w) (rest := [.ref (b0 + 0)]) (ts := txo n p9 v) (us := txi n p9 v q) C2 hS hl.1 (Nat.le_of_ble_eq_true rfl) hB hs (by omega) hbl q_880 dL_does_446 (by omega) (fun H locs hB hS => ?_)
  refine t_str (G := G2) (w := w + 6) (rest := [.ref (b0 + 0)]) C2 hS hl.1 (Nat.le_of_ble_eq_true rfl) hB ⟨t1, t2⟩ q_1024 dL_does_449 (by omega) (fun v9 t9 H locs h1 h2 h3 hV hS => ?_)
  have C3 : Cx p l s m args meth c (tg G2 v9 t9 (0, 0) (txo n p9 v ++ txi n p9 v q)) b0 RL cL_does 8 (some .int) := C2
  refine cal_ic (run_C (As := [.ref (b0 + 0), .ref t9]) (rest := []) C3 hV hS (c_L_reads l hfl G2 b0 V v9 t9 (0, 0) (txo n p9 v ++ txi n p9 v q) (by omega) res hr) q_1091 q_1092 q_92 q_1093 dk_L_reads (rmc_ok (by decide) (by decide)) hl.1 rfl (Nat.le_of_ble_eq_true rfl) dL_does_452 (rmc_cs (by omega))) hS (fun H locs hV hS => ?_)
  exact fin_ic (w := w + 6 + 7 + 64) C (hG _ _ hV.un.un) hS (by omega) rfl dL_does_455
set_option maxHeartbeats 16000000 in
set_option maxRecDepth 100000 in
theorem does_txt (hfl : l.stackTraces = false) (C : Cx p l s m args meth c G b0 RL cL_does 8 (some .int)) (hV : Hd G b0 V H) (hS : va_S (Ab b0) s.heap H locs) {x4 x5 x6 x7 : Int32} (hl : lv_has ls 8 [(3, .ref (b0 + 0)), (4, .int x4), (5, .int x5), (6, .int x6), (7, .int x7)]) (hw : w + 184 ≤ 184) {res : Int32 × St} (hr : ((txt x4 x5 x6 x7).bind fun ts => f_L_reads ts V) = some res) : W p l e (rmc 14 184) s m args below meth c H locs w (6 * (w)) (MQ below (QI G b0 res.1 res.2) args s 184 (6 * 184) (Ab b0)) (F0 m 280 ls []) := by
  obtain ⟨ts, ht, hr⟩ := ob hr
  unfold txt at ht
  by_cases hc : (nI x4.toNatClampNeg = x4 ∧ x4.toNatClampNeg < 10) ∧ (nI x5.toNatClampNeg = x5 ∧ x5.toNatClampNeg < 100) ∧ (nI x6.toNatClampNeg = x6 ∧ x6.toNatClampNeg < 1000) ∧ (nI x7.toNatClampNeg = x7 ∧ x7.toNatClampNeg < 100)
  case neg =>
    rw [if_neg hc] at ht
    cases ht
  rw [if_pos hc] at ht
  obtain ⟨⟨e4, hn⟩, ⟨e5, hp⟩, ⟨e6, hv⟩, e7, hq⟩ := hc
  generalize x4.toNatClampNeg = n at *
  generalize x5.toNatClampNeg = p9 at *
  generalize x6.toNatClampNeg = v at *
  generalize x7.toNatClampNeg = q at *
  subst e4 e5 e6 e7
  have ht := (Option.some.inj ht).symm
  subst ht
  obtain ⟨hx, hb, hrt, hml, hown, hts, hlocks, hK, hSv⟩ := id C
  have dn := dgs_1 hn
  have d4 := dgs_1 (show v % 4 < 10 by omega)
  have d5 := dgs_1 (show v % 5 < 10 by omega)
  have dp := dgs_le p9
  have dq := dgs_le q
  obtain ⟨t1, t2, t3, t4⟩ := txl (p := p9) (v := v) (q := q) hn
  have hbl := txi_bl (v := v) hn hp hq
  refine lv_aload_n hx hb dL_does_280 rfl (lv_at hl 0 rfl) ?_
  refine t_new (G := G) (w := w) (rest := [.ref (b0 + 0)]) C hS hl.1 (Nat.le_of_ble_eq_true rfl) hV q_848 q_850 dL_does_281 dL_does_284 dL_does_285 (Nat.le_of_ble_eq_true rfl) (by omega) (fun a1 H locs hB hS => ?_)
  refine va_ldcS hx hb hown (st_10 hK) dL_does_288 ?_
  refine t_apps (G := G) (w := w + 4) (rest := [.ref (b0 + 0)]) (ts := []) (us := byS "knot ") C hS hl.1 (Nat.le_of_ble_eq_true rfl) hB (Or.inl ⟨10, _, sl_10, rfl, rfl, rfl⟩) (by simp only [List.length_append, List.length_nil, len_209, len_218, len_220, len_222, len_228, len_230, len_232, len_234]; omega) bl_209 q_880 dL_does_290 (by omega) (fun H locs hB hS => ?_)
  refine lv_iload hx hb dL_does_293 (lv_at hl 1 rfl) ?_
  refine t_appi (G := G) (w := w + 4 + 6) (rest := [.ref (b0 + 0)]) (ts := [] ++ byS "knot ") (k := n) C hS hl.1 (Nat.le_of_ble_eq_true rfl) hB (by omega) (by simp only [List.length_append, List.length_nil, len_209, len_218, len_220, len_222, len_228, len_230, len_232, len_234]; omega) q_996 dL_does_295 (by omega) (fun H locs hB hS => ?_)
  refine va_ldcS hx hb hown (st_11 hK) dL_does_298 ?_
  refine t_apps (G := G) (w := w + 4 + 6 + 6) (rest := [.ref (b0 + 0)]) (ts := [] ++ byS "knot " ++ dgs n) (us := byS " ") C hS hl.1 (Nat.le_of_ble_eq_true rfl) hB (Or.inl ⟨11, _, sl_11, rfl, rfl, rfl⟩) (by simp only [List.length_append, List.length_nil, len_209, len_218, len_220, len_222, len_228, len_230, len_232, len_234]; omega) bl_218 q_880 dL_does_300 (by omega) (fun H locs hB hS => ?_)
  refine lv_iload hx hb dL_does_303 (lv_at hl 2 rfl) ?_
  refine t_appi (G := G) (w := w + 4 + 6 + 6 + 6) (rest := [.ref (b0 + 0)]) (ts := [] ++ byS "knot " ++ dgs n ++ byS " ") (k := p9) C hS hl.1 (Nat.le_of_ble_eq_true rfl) hB (by omega) (by simp only [List.length_append, List.length_nil, len_209, len_218, len_220, len_222, len_228, len_230, len_232, len_234]; omega) q_996 dL_does_305 (by omega) (fun H locs hB hS => ?_)
  refine va_ldcS hx hb hown (st_12 hK) dL_does_308 ?_
  refine t_apps (G := G) (w := w + 4 + 6 + 6 + 6 + 6) (rest := [.ref (b0 + 0)]) (ts := [] ++ byS "knot " ++ dgs n ++ byS " " ++ dgs p9) (us := byS "=") C hS hl.1 (Nat.le_of_ble_eq_true rfl) hB (Or.inl ⟨12, _, sl_12, rfl, rfl, rfl⟩) (by simp only [List.length_append, List.length_nil, len_209, len_218, len_220, len_222, len_228, len_230, len_232, len_234]; omega) bl_220 q_880 dL_does_310 (by omega) (fun H locs hB hS => ?_)
  refine lv_iload hx hb dL_does_313 (lv_at hl 3 rfl) ?_
  refine lv_iconst (v := 4) hx hb dL_does_315 (by decide) ?_
  refine lv_irem hx hb dL_does_316 (by decide) ?_
  rw [show nI v - nI v / 4 * 4 = nI (v % 4) from pk_rem (a := v) (d := 4) (by omega) (by decide) (by decide)]
  refine t_appi (G := G) (w := w + 4 + 6 + 6 + 6 + 6 + 6) (rest := [.ref (b0 + 0)]) (ts := [] ++ byS "knot " ++ dgs n ++ byS " " ++ dgs p9 ++ byS "=") (k := (v % 4)) C hS hl.1 (Nat.le_of_ble_eq_true rfl) hB (by omega) (by simp only [List.length_append, List.length_nil, len_209, len_218, len_220, len_222, len_228, len_230, len_232, len_234]; omega) q_996 dL_does_317 (by omega) (fun H locs hB hS => ?_)
  have hB : SBh G b0 V a1 (txo n p9 v) H := hB
  refine lv_iload hx hb dL_does_320 (lv_at hl 3 rfl) ?_
  refine lv_iconst (v := 4) hx hb dL_does_322 (by decide) ?_
  refine lv_irem hx hb dL_does_323 (by decide) ?_
  rw [show nI v - nI v / 4 * 4 = nI (v % 4) from pk_rem (a := v) (d := 4) (by omega) (by decide) (by decide)]
  refine lv_if_ne (tgt := 352) hx hb dL_does_324 (by decide) (fun b => ?_) (fun b => ?_)
  rotate_left
  · have b0_ : v % 4 = 0 := (nI_eq (a := v % 4) (b := 0) (by omega) (by omega)).mp b
    have e9 : txi n p9 v q = byS ";tide " ++ dgs (v % 5) := by
      unfold txi
      rw [if_pos b0_]
    obtain ⟨bv, m9, ml, f, p1, p2, p3, p4, p5, hV⟩ := hB
    have C2 : Cx p l s m args meth c (sg G a1 bv m9 (nI (txo n p9 v).length) ml f) b0 RL cL_does 8 (some .int) := C
    refine t_new (G := (sg G a1 bv m9 (nI (txo n p9 v).length) ml f)) (w := w + 4 + 6 + 6 + 6 + 6 + 6 + 6) (rest := [.ref a1, .ref (b0 + 0)]) C2 hS hl.1 (Nat.le_of_ble_eq_true rfl) hV q_848 q_850 dL_does_327 dL_does_330 dL_does_331 (Nat.le_of_ble_eq_true rfl) (by omega) (fun a2 H locs hB hS => ?_)
    refine va_ldcS hx hb hown (st_13 hK) dL_does_334 ?_
    refine t_apps (G := (sg G a1 bv m9 (nI (txo n p9 v).length) ml f)) (w := w + 4 + 6 + 6 + 6 + 6 + 6 + 6 + 4) (rest := [.ref a1, .ref (b0 + 0)]) (ts := []) (us := byS ";tide ") C2 hS hl.1 (Nat.le_of_ble_eq_true rfl) hB (Or.inl ⟨13, _, sl_13, rfl, rfl, rfl⟩) (by simp only [List.length_append, List.length_nil, len_209, len_218, len_220, len_222, len_228, len_230, len_232, len_234]; omega) bl_222 q_880 dL_does_336 (by omega) (fun H locs hB hS => ?_)
    refine lv_iload hx hb dL_does_339 (lv_at hl 3 rfl) ?_
    refine lv_iconst (v := 5) hx hb dL_does_341 (by decide) ?_
    refine lv_irem hx hb dL_does_342 (by decide) ?_
    rw [show nI v - nI v / 5 * 5 = nI (v % 5) from pk_rem (a := v) (d := 5) (by omega) (by decide) (by decide)]
    refine t_appi (G := (sg G a1 bv m9 (nI (txo n p9 v).length) ml f)) (w := w + 4 + 6 + 6 + 6 + 6 + 6 + 6 + 4 + 6) (rest := [.ref a1, .ref (b0 + 0)]) (ts := [] ++ byS ";tide ") (k := (v % 5)) C2 hS hl.1 (Nat.le_of_ble_eq_true rfl) hB (by omega) (by simp only [List.length_append, List.length_nil, len_209, len_218, len_220, len_222, len_228, len_230, len_232, len_234]; omega) q_996 dL_does_343 (by omega) (fun H locs hB hS => ?_)
    rw [e9] at t3 hbl hr
    rw [e9] at t1 t2
    refine t_str (G := (sg G a1 bv m9 (nI (txo n p9 v).length) ml f)) (w := w + 4 + 6 + 6 + 6 + 6 + 6 + 6 + 4 + 6 + 6) (rest := [.ref a1, .ref (b0 + 0)]) C2 hS hl.1 (Nat.le_of_ble_eq_true rfl) hB ⟨Nat.lt_trans t3 (by decide), Nat.ne_of_lt t3⟩ q_1024 dL_does_346 (by omega) (fun v9 t9 H locs h1 h2 h3 hV hS => ?_)
    have hB := t_back p1 p2 p3 p4 p5 h1 h2 hV
    refine lv_goto (tgt := 446) hx hb dL_does_349 (by decide) ?_
    have C3 : Cx p l s m args meth c (tg G v9 t9 (0, 0) (byS ";tide " ++ dgs (v % 5))) b0 RL cL_does 8 (some .int) := C
    have hB3 : SBh (tg G v9 t9 (0, 0) (byS ";tide " ++ dgs (v % 5))) b0 V a1 (txo n p9 v) H := hB
    have hs3 : Src (tg G v9 t9 (0, 0) (byS ";tide " ++ dgs (v % 5))) t9 v9 (txi n p9 v q) := by rw [e9]; exact tg_src
    rw [← e9] at hbl hr
    exact dx_446 hfl C hn hl (fun _ _ h => h.un.un) C3 hr hB3 hs3 hbl hS (by omega)
  have b0_ : ¬ v % 4 = 0 := fun z => b (by rw [z]; rfl)
  refine lv_iload hx hb dL_does_352 (lv_at hl 3 rfl) ?_
  refine lv_iconst (v := 4) hx hb dL_does_354 (by decide) ?_
  refine lv_irem hx hb dL_does_355 (by decide) ?_
  rw [show nI v - nI v / 4 * 4 = nI (v % 4) from pk_rem (a := v) (d := 4) (by omega) (by decide) (by decide)]
  refine lv_iconst (v := 1) hx hb dL_does_356 (by decide) ?_
  refine lv_icmp_ne (tgt := 393) hx hb dL_does_357 (by decide) (fun b => ?_) (fun b => ?_)
  rotate_left
  · have b1_ : v % 4 = 1 := (nI_eq (a := v % 4) (b := 1) (by omega) (by omega)).mp b
    have e9 : txi n p9 v q = byS ";note " ++ dgs n ++ byS " " ++ dgs p9 := by
      unfold txi
      rw [if_neg b0_, if_pos b1_]
    obtain ⟨bv, m9, ml, f, p1, p2, p3, p4, p5, hV⟩ := hB
    have C2 : Cx p l s m args meth c (sg G a1 bv m9 (nI (txo n p9 v).length) ml f) b0 RL cL_does 8 (some .int) := C
    refine t_new (G := (sg G a1 bv m9 (nI (txo n p9 v).length) ml f)) (w := w + 4 + 6 + 6 + 6 + 6 + 6 + 6) (rest := [.ref a1, .ref (b0 + 0)]) C2 hS hl.1 (Nat.le_of_ble_eq_true rfl) hV q_848 q_850 dL_does_360 dL_does_363 dL_does_364 (Nat.le_of_ble_eq_true rfl) (by omega) (fun a2 H locs hB hS => ?_)
    refine va_ldcS hx hb hown (st_15 hK) dL_does_367 ?_
    refine t_apps (G := (sg G a1 bv m9 (nI (txo n p9 v).length) ml f)) (w := w + 4 + 6 + 6 + 6 + 6 + 6 + 6 + 4) (rest := [.ref a1, .ref (b0 + 0)]) (ts := []) (us := byS ";note ") C2 hS hl.1 (Nat.le_of_ble_eq_true rfl) hB (Or.inl ⟨15, _, sl_15, rfl, rfl, rfl⟩) (by simp only [List.length_append, List.length_nil, len_209, len_218, len_220, len_222, len_228, len_230, len_232, len_234]; omega) bl_228 q_880 dL_does_369 (by omega) (fun H locs hB hS => ?_)
    refine lv_iload hx hb dL_does_372 (lv_at hl 1 rfl) ?_
    refine t_appi (G := (sg G a1 bv m9 (nI (txo n p9 v).length) ml f)) (w := w + 4 + 6 + 6 + 6 + 6 + 6 + 6 + 4 + 6) (rest := [.ref a1, .ref (b0 + 0)]) (ts := [] ++ byS ";note ") (k := n) C2 hS hl.1 (Nat.le_of_ble_eq_true rfl) hB (by omega) (by simp only [List.length_append, List.length_nil, len_209, len_218, len_220, len_222, len_228, len_230, len_232, len_234]; omega) q_996 dL_does_374 (by omega) (fun H locs hB hS => ?_)
    refine va_ldcS hx hb hown (st_11 hK) dL_does_377 ?_
    refine t_apps (G := (sg G a1 bv m9 (nI (txo n p9 v).length) ml f)) (w := w + 4 + 6 + 6 + 6 + 6 + 6 + 6 + 4 + 6 + 6) (rest := [.ref a1, .ref (b0 + 0)]) (ts := [] ++ byS ";note " ++ dgs n) (us := byS " ") C2 hS hl.1 (Nat.le_of_ble_eq_true rfl) hB (Or.inl ⟨11, _, sl_11, rfl, rfl, rfl⟩) (by simp only [List.length_append, List.length_nil, len_209, len_218, len_220, len_222, len_228, len_230, len_232, len_234]; omega) bl_218 q_880 dL_does_379 (by omega) (fun H locs hB hS => ?_)
    refine lv_iload hx hb dL_does_382 (lv_at hl 2 rfl) ?_
    refine t_appi (G := (sg G a1 bv m9 (nI (txo n p9 v).length) ml f)) (w := w + 4 + 6 + 6 + 6 + 6 + 6 + 6 + 4 + 6 + 6 + 6) (rest := [.ref a1, .ref (b0 + 0)]) (ts := [] ++ byS ";note " ++ dgs n ++ byS " ") (k := p9) C2 hS hl.1 (Nat.le_of_ble_eq_true rfl) hB (by omega) (by simp only [List.length_append, List.length_nil, len_209, len_218, len_220, len_222, len_228, len_230, len_232, len_234]; omega) q_996 dL_does_384 (by omega) (fun H locs hB hS => ?_)
    rw [e9] at t3 hbl hr
    rw [e9] at t1 t2
    refine t_str (G := (sg G a1 bv m9 (nI (txo n p9 v).length) ml f)) (w := w + 4 + 6 + 6 + 6 + 6 + 6 + 6 + 4 + 6 + 6 + 6 + 6) (rest := [.ref a1, .ref (b0 + 0)]) C2 hS hl.1 (Nat.le_of_ble_eq_true rfl) hB ⟨Nat.lt_trans t3 (by decide), Nat.ne_of_lt t3⟩ q_1024 dL_does_387 (by omega) (fun v9 t9 H locs h1 h2 h3 hV hS => ?_)
    have hB := t_back p1 p2 p3 p4 p5 h1 h2 hV
    refine lv_goto (tgt := 446) hx hb dL_does_390 (by decide) ?_
    have C3 : Cx p l s m args meth c (tg G v9 t9 (0, 0) (byS ";note " ++ dgs n ++ byS " " ++ dgs p9)) b0 RL cL_does 8 (some .int) := C
    have hB3 : SBh (tg G v9 t9 (0, 0) (byS ";note " ++ dgs n ++ byS " " ++ dgs p9)) b0 V a1 (txo n p9 v) H := hB
    have hs3 : Src (tg G v9 t9 (0, 0) (byS ";note " ++ dgs n ++ byS " " ++ dgs p9)) t9 v9 (txi n p9 v q) := by rw [e9]; exact tg_src
    rw [← e9] at hbl hr
    exact dx_446 hfl C hn hl (fun _ _ h => h.un.un) C3 hr hB3 hs3 hbl hS (by omega)
  have b1_ : ¬ v % 4 = 1 := fun z => b (by rw [z]; rfl)
  refine lv_iload hx hb dL_does_393 (lv_at hl 3 rfl) ?_
  refine lv_iconst (v := 4) hx hb dL_does_395 (by decide) ?_
  refine lv_irem hx hb dL_does_396 (by decide) ?_
  rw [show nI v - nI v / 4 * 4 = nI (v % 4) from pk_rem (a := v) (d := 4) (by omega) (by decide) (by decide)]
  refine lv_iconst (v := 2) hx hb dL_does_397 (by decide) ?_
  refine lv_icmp_ne (tgt := 444) hx hb dL_does_398 (by decide) (fun b => ?_) (fun b => ?_)
  rotate_left
  · have b2_ : v % 4 = 2 := (nI_eq (a := v % 4) (b := 2) (by omega) (by omega)).mp b
    have e9 : txi n p9 v q = byS ";tear " ++ dgs n ++ byS " " ++ dgs p9 ++ byS "-" ++ dgs q := by
      unfold txi
      rw [if_neg b0_, if_neg b1_, if_pos b2_]
    obtain ⟨bv, m9, ml, f, p1, p2, p3, p4, p5, hV⟩ := hB
    have C2 : Cx p l s m args meth c (sg G a1 bv m9 (nI (txo n p9 v).length) ml f) b0 RL cL_does 8 (some .int) := C
    refine t_new (G := (sg G a1 bv m9 (nI (txo n p9 v).length) ml f)) (w := w + 4 + 6 + 6 + 6 + 6 + 6 + 6) (rest := [.ref a1, .ref (b0 + 0)]) C2 hS hl.1 (Nat.le_of_ble_eq_true rfl) hV q_848 q_850 dL_does_401 dL_does_404 dL_does_405 (Nat.le_of_ble_eq_true rfl) (by omega) (fun a2 H locs hB hS => ?_)
    refine va_ldcS hx hb hown (st_16 hK) dL_does_408 ?_
    refine t_apps (G := (sg G a1 bv m9 (nI (txo n p9 v).length) ml f)) (w := w + 4 + 6 + 6 + 6 + 6 + 6 + 6 + 4) (rest := [.ref a1, .ref (b0 + 0)]) (ts := []) (us := byS ";tear ") C2 hS hl.1 (Nat.le_of_ble_eq_true rfl) hB (Or.inl ⟨16, _, sl_16, rfl, rfl, rfl⟩) (by simp only [List.length_append, List.length_nil, len_209, len_218, len_220, len_222, len_228, len_230, len_232, len_234]; omega) bl_230 q_880 dL_does_410 (by omega) (fun H locs hB hS => ?_)
    refine lv_iload hx hb dL_does_413 (lv_at hl 1 rfl) ?_
    refine t_appi (G := (sg G a1 bv m9 (nI (txo n p9 v).length) ml f)) (w := w + 4 + 6 + 6 + 6 + 6 + 6 + 6 + 4 + 6) (rest := [.ref a1, .ref (b0 + 0)]) (ts := [] ++ byS ";tear ") (k := n) C2 hS hl.1 (Nat.le_of_ble_eq_true rfl) hB (by omega) (by simp only [List.length_append, List.length_nil, len_209, len_218, len_220, len_222, len_228, len_230, len_232, len_234]; omega) q_996 dL_does_415 (by omega) (fun H locs hB hS => ?_)
    refine va_ldcS hx hb hown (st_11 hK) dL_does_418 ?_
    refine t_apps (G := (sg G a1 bv m9 (nI (txo n p9 v).length) ml f)) (w := w + 4 + 6 + 6 + 6 + 6 + 6 + 6 + 4 + 6 + 6) (rest := [.ref a1, .ref (b0 + 0)]) (ts := [] ++ byS ";tear " ++ dgs n) (us := byS " ") C2 hS hl.1 (Nat.le_of_ble_eq_true rfl) hB (Or.inl ⟨11, _, sl_11, rfl, rfl, rfl⟩) (by simp only [List.length_append, List.length_nil, len_209, len_218, len_220, len_222, len_228, len_230, len_232, len_234]; omega) bl_218 q_880 dL_does_420 (by omega) (fun H locs hB hS => ?_)
    refine lv_iload hx hb dL_does_423 (lv_at hl 2 rfl) ?_
    refine t_appi (G := (sg G a1 bv m9 (nI (txo n p9 v).length) ml f)) (w := w + 4 + 6 + 6 + 6 + 6 + 6 + 6 + 4 + 6 + 6 + 6) (rest := [.ref a1, .ref (b0 + 0)]) (ts := [] ++ byS ";tear " ++ dgs n ++ byS " ") (k := p9) C2 hS hl.1 (Nat.le_of_ble_eq_true rfl) hB (by omega) (by simp only [List.length_append, List.length_nil, len_209, len_218, len_220, len_222, len_228, len_230, len_232, len_234]; omega) q_996 dL_does_425 (by omega) (fun H locs hB hS => ?_)
    refine va_ldcS hx hb hown (st_17 hK) dL_does_428 ?_
    refine t_apps (G := (sg G a1 bv m9 (nI (txo n p9 v).length) ml f)) (w := w + 4 + 6 + 6 + 6 + 6 + 6 + 6 + 4 + 6 + 6 + 6 + 6) (rest := [.ref a1, .ref (b0 + 0)]) (ts := [] ++ byS ";tear " ++ dgs n ++ byS " " ++ dgs p9) (us := byS "-") C2 hS hl.1 (Nat.le_of_ble_eq_true rfl) hB (Or.inl ⟨17, _, sl_17, rfl, rfl, rfl⟩) (by simp only [List.length_append, List.length_nil, len_209, len_218, len_220, len_222, len_228, len_230, len_232, len_234]; omega) bl_232 q_880 dL_does_430 (by omega) (fun H locs hB hS => ?_)
    refine lv_iload hx hb dL_does_433 (lv_at hl 4 rfl) ?_
    refine t_appi (G := (sg G a1 bv m9 (nI (txo n p9 v).length) ml f)) (w := w + 4 + 6 + 6 + 6 + 6 + 6 + 6 + 4 + 6 + 6 + 6 + 6 + 6) (rest := [.ref a1, .ref (b0 + 0)]) (ts := [] ++ byS ";tear " ++ dgs n ++ byS " " ++ dgs p9 ++ byS "-") (k := q) C2 hS hl.1 (Nat.le_of_ble_eq_true rfl) hB (by omega) (by simp only [List.length_append, List.length_nil, len_209, len_218, len_220, len_222, len_228, len_230, len_232, len_234]; omega) q_996 dL_does_435 (by omega) (fun H locs hB hS => ?_)
    rw [e9] at t3 hbl hr
    rw [e9] at t1 t2
    refine t_str (G := (sg G a1 bv m9 (nI (txo n p9 v).length) ml f)) (w := w + 4 + 6 + 6 + 6 + 6 + 6 + 6 + 4 + 6 + 6 + 6 + 6 + 6 + 6) (rest := [.ref a1, .ref (b0 + 0)]) C2 hS hl.1 (Nat.le_of_ble_eq_true rfl) hB ⟨Nat.lt_trans t3 (by decide), Nat.ne_of_lt t3⟩ q_1024 dL_does_438 (by omega) (fun v9 t9 H locs h1 h2 h3 hV hS => ?_)
    have hB := t_back p1 p2 p3 p4 p5 h1 h2 hV
    refine lv_goto (tgt := 446) hx hb dL_does_441 (by decide) ?_
    have C3 : Cx p l s m args meth c (tg G v9 t9 (0, 0) (byS ";tear " ++ dgs n ++ byS " " ++ dgs p9 ++ byS "-" ++ dgs q)) b0 RL cL_does 8 (some .int) := C
    have hB3 : SBh (tg G v9 t9 (0, 0) (byS ";tear " ++ dgs n ++ byS " " ++ dgs p9 ++ byS "-" ++ dgs q)) b0 V a1 (txo n p9 v) H := hB
    have hs3 : Src (tg G v9 t9 (0, 0) (byS ";tear " ++ dgs n ++ byS " " ++ dgs p9 ++ byS "-" ++ dgs q)) t9 v9 (txi n p9 v q) := by rw [e9]; exact tg_src
    rw [← e9] at hbl hr
    exact dx_446 hfl C hn hl (fun _ _ h => h.un.un) C3 hr hB3 hs3 hbl hS (by omega)
  have b2_ : ¬ v % 4 = 2 := fun z => b (by rw [z]; rfl)
  have e9 : txi n p9 v q = byS ";" := by
    unfold txi
    rw [if_neg b0_, if_neg b1_, if_neg b2_]
  refine va_ldcS hx hb hown (st_18 hK) dL_does_444 ?_
  exact dx_446 (tv := G.2.2.1 (100 + 18)) hfl C hn hl (fun _ _ h => h) C hr hB (by rw [e9]; exact (Or.inl ⟨18, _, sl_18, rfl, rfl, rfl⟩)) hbl hS (by omega)
end DX
