set_option maxHeartbeats 4000000 in
set_option maxRecDepth 100000 in
theorem c_X3_init (l : Launch) (G : LG) (b0 k : Nat) (hk : kd k = 5) (E : Nat → va_E) (hE : E k = .inr (6, [.int 0, .int 0, .int 0, .int 0, .int 0])) : Met l yX3_init (wy yX3_init cX3_init 1 none) (rmw 1 0 0) (va_Pc [.ref (b0 + k)] (Iw G b0 (k + 1) E)) (QW G b0 (k + 1) (ez G b0 k E)) 0 0 (Ab b0) := by
  refine mk_w (by decide +kernel) rfl (Nat.le_of_ble_eq_true rfl) ?_
  intro p e s m args below meth c C hA hN hW hS ls hl
  obtain ⟨hx, hb, hrt, hml, hown, hts, hlocks, hK, hSv⟩ := id C
  have hW := hW.cg (ex_in (G := G) (b0 := b0) (m := 1) (X := fun _ => .inr (6, [.int 0, .int 0, .int 0, .int 0, .int 0])) (by decide) hE.symm)
  refine lv_aload_n hx hb dX3_init_0 rfl (lv_at hl 0 rfl) ?_
  refine w_obj (d := 0) C q_149 hl.1 rfl (by decide) dX3_init_1 ?_
  refine lv_aload_n hx hb dX3_init_4 rfl (lv_at hl 0 rfl) ?_
  refine lv_iconst (v := 0) hx hb dX3_init_5 (by decide) ?_
  refine xk_put (v := .int 0) C hN hW hS (by decide) (by omega) rfl rfl inX3 tyX3 tyX3_ok nmX3 0 (by decide) q_150 rfl (fun h => absurd h (by decide)) (ty := .int) (by decide +kernel) rfl rfl (Nat.le_of_ble_eq_true rfl) dX3_init_6 (fun H locs hW hS => ?_)
  refine lv_aload_n hx hb dX3_init_9 rfl (lv_at hl 0 rfl) ?_
  refine lv_iconst (v := 0) hx hb dX3_init_10 (by decide) ?_
  refine xk_put (v := .int 0) C hN hW hS (by decide) (by omega) rfl rfl inX3 tyX3 tyX3_ok nmX3 1 (by decide) q_154 rfl (fun h => absurd h (by decide)) (ty := .int) (by decide +kernel) rfl rfl (Nat.le_of_ble_eq_true rfl) dX3_init_11 (fun H locs hW hS => ?_)
  refine lv_aload_n hx hb dX3_init_14 rfl (lv_at hl 0 rfl) ?_
  refine lv_iconst (v := 0) hx hb dX3_init_15 (by decide) ?_
  refine xk_put (v := .int 0) C hN hW hS (by decide) (by omega) rfl rfl inX3 tyX3 tyX3_ok nmX3 2 (by decide) q_158 rfl (fun h => absurd h (by decide)) (ty := .int) (by decide +kernel) rfl rfl (Nat.le_of_ble_eq_true rfl) dX3_init_16 (fun H locs hW hS => ?_)
  refine lv_aload_n hx hb dX3_init_19 rfl (lv_at hl 0 rfl) ?_
  refine lv_iconst (v := 0) hx hb dX3_init_20 (by decide) ?_
  refine xk_put (v := .int 0) C hN hW hS (by decide) (by omega) rfl rfl inX3 tyX3 tyX3_ok nmX3 3 (by decide) q_159 rfl (fun h => absurd h (by decide)) (ty := .int) (by decide +kernel) rfl rfl (Nat.le_of_ble_eq_true rfl) dX3_init_21 (fun H locs hW hS => ?_)
  refine lv_aload_n hx hb dX3_init_24 rfl (lv_at hl 0 rfl) ?_
  refine lv_iconst (v := 0) hx hb dX3_init_25 (by decide) ?_
  refine xk_put (v := .int 0) C hN hW hS (by decide) (by omega) rfl rfl inX3 tyX3 tyX3_ok nmX3 4 (by decide) q_160 rfl (fun h => absurd h (by decide)) (ty := .int) (by decide +kernel) rfl rfl (Nat.le_of_ble_eq_true rfl) dX3_init_26 (fun H locs hW hS => ?_)
  exact fin_w C hA hW hS (ez_ex (one_of (by rw [show k + 0 = k from rfl, cel_5 hk]; rfl))) dX3_init_29
set_option maxHeartbeats 4000000 in
set_option maxRecDepth 100000 in
theorem c_X0_init (l : Launch) (G : LG) (b0 k : Nat) (hk : kd k = 6) (E : Nat → va_E) (hE : E k = .inr (3, [.int 0, .int 0])) : Met l yX0_init (wy yX0_init cX0_init 1 none) (rmw 1 0 0) (va_Pc [.ref (b0 + k)] (Iw G b0 (k + 1) E)) (QW G b0 (k + 1) (ez G b0 k E)) 0 0 (Ab b0) := by
  refine mk_w (by decide +kernel) rfl (Nat.le_of_ble_eq_true rfl) ?_
  intro p e s m args below meth c C hA hN hW hS ls hl
  obtain ⟨hx, hb, hrt, hml, hown, hts, hlocks, hK, hSv⟩ := id C
  have hW := hW.cg (ex_in (G := G) (b0 := b0) (m := 1) (X := fun _ => .inr (3, [.int 0, .int 0])) (by decide) hE.symm)
  refine lv_aload_n hx hb dX0_init_0 rfl (lv_at hl 0 rfl) ?_
  refine w_obj (d := 0) C q_178 hl.1 rfl (by decide) dX0_init_1 ?_
  refine lv_aload_n hx hb dX0_init_4 rfl (lv_at hl 0 rfl) ?_
  refine lv_iconst (v := 0) hx hb dX0_init_5 (by decide) ?_
  refine xk_put (v := .int 0) C hN hW hS (by decide) (by omega) rfl rfl inX0 tyX0 tyX0_ok nmX0 0 (by decide) q_179 rfl (fun h => absurd h (by decide)) (ty := .int) (by decide +kernel) rfl rfl (Nat.le_of_ble_eq_true rfl) dX0_init_6 (fun H locs hW hS => ?_)
  refine lv_aload_n hx hb dX0_init_9 rfl (lv_at hl 0 rfl) ?_
  refine lv_iconst (v := 0) hx hb dX0_init_10 (by decide) ?_
  refine xk_put (v := .int 0) C hN hW hS (by decide) (by omega) rfl rfl inX0 tyX0 tyX0_ok nmX0 1 (by decide) q_182 rfl (fun h => absurd h (by decide)) (ty := .int) (by decide +kernel) rfl rfl (Nat.le_of_ble_eq_true rfl) dX0_init_11 (fun H locs hW hS => ?_)
  exact fin_w C hA hW hS (ez_ex (one_of (by rw [show k + 0 = k from rfl, cel_6 hk]; rfl))) dX0_init_14
set_option maxHeartbeats 4000000 in
set_option maxRecDepth 100000 in
theorem c_X4_init (l : Launch) (G : LG) (b0 k : Nat) (hk : kd k = 7) (E : Nat → va_E) (hE : E k = .inr (7, [.int 0, .int 0, .int 0])) : Met l yX4_init (wy yX4_init cX4_init 1 none) (rmw 1 0 0) (va_Pc [.ref (b0 + k)] (Iw G b0 (k + 1) E)) (QW G b0 (k + 1) (ez G b0 k E)) 0 0 (Ab b0) := by
  refine mk_w (by decide +kernel) rfl (Nat.le_of_ble_eq_true rfl) ?_
  intro p e s m args below meth c C hA hN hW hS ls hl
  obtain ⟨hx, hb, hrt, hml, hown, hts, hlocks, hK, hSv⟩ := id C
  have hW := hW.cg (ex_in (G := G) (b0 := b0) (m := 1) (X := fun _ => .inr (7, [.int 0, .int 0, .int 0])) (by decide) hE.symm)
  refine lv_aload_n hx hb dX4_init_0 rfl (lv_at hl 0 rfl) ?_
  refine w_obj (d := 0) C q_194 hl.1 rfl (by decide) dX4_init_1 ?_
  refine lv_aload_n hx hb dX4_init_4 rfl (lv_at hl 0 rfl) ?_
  refine lv_iconst (v := 0) hx hb dX4_init_5 (by decide) ?_
  refine xk_put (v := .int 0) C hN hW hS (by decide) (by omega) rfl rfl inX4 tyX4 tyX4_ok nmX4 0 (by decide) q_195 rfl (fun h => absurd h (by decide)) (ty := .int) (by decide +kernel) rfl rfl (Nat.le_of_ble_eq_true rfl) dX4_init_6 (fun H locs hW hS => ?_)
  refine lv_aload_n hx hb dX4_init_9 rfl (lv_at hl 0 rfl) ?_
  refine lv_iconst (v := 0) hx hb dX4_init_10 (by decide) ?_
  refine xk_put (v := .int 0) C hN hW hS (by decide) (by omega) rfl rfl inX4 tyX4 tyX4_ok nmX4 1 (by decide) q_198 rfl (fun h => absurd h (by decide)) (ty := .int) (by decide +kernel) rfl rfl (Nat.le_of_ble_eq_true rfl) dX4_init_11 (fun H locs hW hS => ?_)
  refine lv_aload_n hx hb dX4_init_14 rfl (lv_at hl 0 rfl) ?_
  refine lv_iconst (v := 0) hx hb dX4_init_15 (by decide) ?_
  refine xk_put (v := .int 0) C hN hW hS (by decide) (by omega) rfl rfl inX4 tyX4 tyX4_ok nmX4 2 (by decide) q_201 rfl (fun h => absurd h (by decide)) (ty := .int) (by decide +kernel) rfl rfl (Nat.le_of_ble_eq_true rfl) dX4_init_16 (fun H locs hW hS => ?_)
  exact fin_w C hA hW hS (ez_ex (one_of (by rw [show k + 0 = k from rfl, cel_7 hk]; rfl))) dX4_init_19
set_option maxHeartbeats 4000000 in
set_option maxRecDepth 100000 in
theorem c_X6_init (l : Launch) (G : LG) (b0 k : Nat) (hk : kd k = 19) (E : Nat → va_E) (hE : E k = .inr (9, [.int 0, .int 0, .int 0, .int 0])) : Met l yX6_init (wy yX6_init cX6_init 1 none) (rmw 1 0 0) (va_Pc [.ref (b0 + k)] (Iw G b0 (k + 1) E)) (QW G b0 (k + 1) (ez G b0 k E)) 0 0 (Ab b0) := by
  refine mk_w (by decide +kernel) rfl (Nat.le_of_ble_eq_true rfl) ?_
  intro p e s m args below meth c C hA hN hW hS ls hl
  obtain ⟨hx, hb, hrt, hml, hown, hts, hlocks, hK, hSv⟩ := id C
  have hW := hW.cg (ex_in (G := G) (b0 := b0) (m := 1) (X := fun _ => .inr (9, [.int 0, .int 0, .int 0, .int 0])) (by decide) hE.symm)
  refine lv_aload_n hx hb dX6_init_0 rfl (lv_at hl 0 rfl) ?_
  refine w_obj (d := 0) C q_325 hl.1 rfl (by decide) dX6_init_1 ?_
  refine lv_aload_n hx hb dX6_init_4 rfl (lv_at hl 0 rfl) ?_
  refine lv_iconst (v := 0) hx hb dX6_init_5 (by decide) ?_
  refine xk_put (v := .int 0) C hN hW hS (by decide) (by omega) rfl rfl inX6 tyX6 tyX6_ok nmX6 0 (by decide) q_326 rfl (fun h => absurd h (by decide)) (ty := .int) (by decide +kernel) rfl rfl (Nat.le_of_ble_eq_true rfl) dX6_init_6 (fun H locs hW hS => ?_)
  refine lv_aload_n hx hb dX6_init_9 rfl (lv_at hl 0 rfl) ?_
  refine lv_iconst (v := 0) hx hb dX6_init_10 (by decide) ?_
  refine xk_put (v := .int 0) C hN hW hS (by decide) (by omega) rfl rfl inX6 tyX6 tyX6_ok nmX6 1 (by decide) q_327 rfl (fun h => absurd h (by decide)) (ty := .int) (by decide +kernel) rfl rfl (Nat.le_of_ble_eq_true rfl) dX6_init_11 (fun H locs hW hS => ?_)
  refine lv_aload_n hx hb dX6_init_14 rfl (lv_at hl 0 rfl) ?_
  refine lv_iconst (v := 0) hx hb dX6_init_15 (by decide) ?_
  refine xk_put (v := .int 0) C hN hW hS (by decide) (by omega) rfl rfl inX6 tyX6 tyX6_ok nmX6 2 (by decide) q_328 rfl (fun h => absurd h (by decide)) (ty := .int) (by decide +kernel) rfl rfl (Nat.le_of_ble_eq_true rfl) dX6_init_16 (fun H locs hW hS => ?_)
  refine lv_aload_n hx hb dX6_init_19 rfl (lv_at hl 0 rfl) ?_
  refine lv_iconst (v := 0) hx hb dX6_init_20 (by decide) ?_
  refine xk_put (v := .int 0) C hN hW hS (by decide) (by omega) rfl rfl inX6 tyX6 tyX6_ok nmX6 3 (by decide) q_329 rfl (fun h => absurd h (by decide)) (ty := .int) (by decide +kernel) rfl rfl (Nat.le_of_ble_eq_true rfl) dX6_init_21 (fun H locs hW hS => ?_)
  exact fin_w C hA hW hS (ez_ex (one_of (by rw [show k + 0 = k from rfl, cel_19 hk]; rfl))) dX6_init_24
set_option maxHeartbeats 4000000 in
set_option maxRecDepth 100000 in
theorem c_X2_init (l : Launch) (G : LG) (b0 k : Nat) (hk : kd k = 17) (E : Nat → va_E) (hE : E k = .inr (5, [.null, .int 0])) : Met l yX2_init (wy yX2_init cX2_init 1 none) (rmw 1 1 25) (va_Pc [.ref (b0 + k)] (Iw G b0 (k + 1) E)) (QW G b0 (k + 2) (ez G b0 k E)) 1 25 (Ab b0) := by
  refine mk_w (by decide +kernel) rfl (Nat.le_of_ble_eq_true rfl) ?_
  intro p e s m args below meth c C hA hN hW hS ls hl
  obtain ⟨hx, hb, hrt, hml, hown, hts, hlocks, hK, hSv⟩ := id C
  have hW := hW.cg (ex_in (G := G) (b0 := b0) (m := 1) (X := fun _ => .inr (5, [.null, .int 0])) (by decide) hE.symm)
  refine lv_aload_n hx hb dX2_init_0 rfl (lv_at hl 0 rfl) ?_
  refine w_obj (d := 0) C q_311 hl.1 rfl (by decide) dX2_init_1 ?_
  refine lv_aload_n hx hb dX2_init_4 rfl (lv_at hl 0 rfl) ?_
  refine lv_bipush (v := 25) hx hb dX2_init_5 (by decide) ?_
  refine xk_newc (N := 25) C hW hS (Nat.le_refl _) (cel_18 (kd_l1 hk)) (by decide) (by decide) (by decide) (Nat.le_of_ble_eq_true rfl) (Nat.le_of_ble_eq_true rfl) dX2_init_7 (fun H hW hS => ?_)
  refine xk_put (v := .ref (b0 + (k + 1))) C hN hW hS (by decide) (by omega) rfl rfl inX2 tyX2 tyX2_ok nmX2 0 (by decide) q_312 rfl (fun _ => rfl) (ty := .array .char) (by decide +kernel) rfl rfl (Nat.le_of_ble_eq_true rfl) dX2_init_9 (fun H locs hW hS => ?_)
  refine lv_aload_n hx hb dX2_init_12 rfl (lv_at hl 0 rfl) ?_
  refine lv_iconst (v := 0) hx hb dX2_init_13 (by decide) ?_
  refine xk_put (v := .int 0) C hN hW hS (by decide) (by omega) rfl rfl inX2 tyX2 tyX2_ok nmX2 1 (by decide) q_313 rfl (fun h => absurd h (by decide)) (ty := .int) (by decide +kernel) rfl rfl (Nat.le_of_ble_eq_true rfl) dX2_init_14 (fun H locs hW hS => ?_)
  exact fin_w C hA hW hS (ez_ex (one_of (by rw [show k + 0 = k from rfl, cel_17 hk]; rfl))) dX2_init_17
set_option maxHeartbeats 4000000 in
set_option maxRecDepth 100000 in
theorem c_X5_init (l : Launch) (G : LG) (b0 k : Nat) (hk : kd k = 10) (E : Nat → va_E) (hE : E k = .inr (8, [.null])) : Met l yX5_init (wy yX5_init cX5_init 1 none) (rmw 1 1 24) (va_Pc [.ref (b0 + k)] (Iw G b0 (k + 1) E)) (QW G b0 (k + 2) (ez G b0 k E)) 1 24 (Ab b0) := by
  refine mk_w (by decide +kernel) rfl (Nat.le_of_ble_eq_true rfl) ?_
  intro p e s m args below meth c C hA hN hW hS ls hl
  obtain ⟨hx, hb, hrt, hml, hown, hts, hlocks, hK, hSv⟩ := id C
  have hW := hW.cg (ex_in (G := G) (b0 := b0) (m := 1) (X := fun _ => .inr (8, [.null])) (by decide) hE.symm)
  refine lv_aload_n hx hb dX5_init_0 rfl (lv_at hl 0 rfl) ?_
  refine w_obj (d := 0) C q_270 hl.1 rfl (by decide) dX5_init_1 ?_
  refine lv_aload_n hx hb dX5_init_4 rfl (lv_at hl 0 rfl) ?_
  refine lv_bipush (v := 24) hx hb dX5_init_5 (by decide) ?_
  refine xk_newi (N := 24) C hW hS (Nat.le_refl _) (cel_11 (kd_p1 hk)) (by decide) (by decide) (by decide) (Nat.le_of_ble_eq_true rfl) (Nat.le_of_ble_eq_true rfl) dX5_init_7 (fun H hW hS => ?_)
  refine xk_put (v := .ref (b0 + (k + 1))) C hN hW hS (by decide) (by omega) rfl rfl inX5 tyX5 tyX5_ok nmX5 0 (by decide) q_271 rfl (fun _ => rfl) (ty := .array .int) (by decide +kernel) rfl rfl (Nat.le_of_ble_eq_true rfl) dX5_init_9 (fun H locs hW hS => ?_)
  exact fin_w C hA hW hS (ez_ex (one_of (by rw [show k + 0 = k from rfl, cel_10 hk]; rfl))) dX5_init_12
