set_option maxHeartbeats 4000000 in
set_option maxRecDepth 100000 in
theorem c_X7_init (l : Launch) (G : LG) (b0 k : Nat) (hk : kd k = 12) (E : Nat → va_E) (hE : E k = .inr (10, [.null, .int 0, .int 0, .null, .null, .int 0])) : Met l yX7_init (wy yX7_init cX7_init 1 none) (rmw 1 12 114) (va_Pc [.ref (b0 + k)] (Iw G b0 (k + 1) E)) (QW G b0 (k + 13) (ez G b0 k E)) 12 114 (Ab b0) := by
  refine mk_w (by decide +kernel) rfl (Nat.le_of_ble_eq_true rfl) ?_
  intro p e s m args below meth c C hA hN hW hS ls hl
  obtain ⟨hx, hb, hrt, hml, hown, hts, hlocks, hK, hSv⟩ := id C
  have hW := hW.cg (ex_in (G := G) (b0 := b0) (m := 1) (X := fun _ => .inr (10, [.null, .int 0, .int 0, .null, .null, .int 0])) (by decide) hE.symm)
  refine lv_aload_n hx hb dX7_init_0 rfl (lv_at hl 0 rfl) ?_
  refine w_obj (d := 0) C q_281 hl.1 rfl (by decide) dX7_init_1 ?_
  refine lv_aload_n hx hb dX7_init_4 rfl (lv_at hl 0 rfl) ?_
  refine lv_bipush (v := 60) hx hb dX7_init_5 (by decide) ?_
  refine xk_newc (N := 60) C hW hS (Nat.le_refl _) (cel_13 (kd_c1 hk)) (by decide) (by decide) (by decide) (Nat.le_of_ble_eq_true rfl) (Nat.le_of_ble_eq_true rfl) dX7_init_7 (fun H hW hS => ?_)
  refine xk_put (v := .ref (b0 + (k + 1))) C hN hW hS (by decide) (by omega) rfl rfl inX7 tyX7 tyX7_ok nmX7 0 (by decide) q_284 rfl (fun _ => rfl) (ty := .array .char) (by decide +kernel) rfl rfl (Nat.le_of_ble_eq_true rfl) dX7_init_9 (fun H locs hW hS => ?_)
  refine lv_aload_n hx hb dX7_init_12 rfl (lv_at hl 0 rfl) ?_
  refine lv_iconst (v := 0) hx hb dX7_init_13 (by decide) ?_
  refine xk_put (v := .int 0) C hN hW hS (by decide) (by omega) rfl rfl inX7 tyX7 tyX7_ok nmX7 1 (by decide) q_285 rfl (fun h => absurd h (by decide)) (ty := .int) (by decide +kernel) rfl rfl (Nat.le_of_ble_eq_true rfl) dX7_init_14 (fun H locs hW hS => ?_)
  refine lv_aload_n hx hb dX7_init_17 rfl (lv_at hl 0 rfl) ?_
  refine lv_iconst (v := 0) hx hb dX7_init_18 (by decide) ?_
  refine xk_put (v := .int 0) C hN hW hS (by decide) (by omega) rfl rfl inX7 tyX7 tyX7_ok nmX7 2 (by decide) q_287 rfl (fun h => absurd h (by decide)) (ty := .int) (by decide +kernel) rfl rfl (Nat.le_of_ble_eq_true rfl) dX7_init_19 (fun H locs hW hS => ?_)
  refine lv_aload_n hx hb dX7_init_22 rfl (lv_at hl 0 rfl) ?_
  refine lv_bipush (v := 9) hx hb dX7_init_23 (by decide) ?_
  refine xk_newi (N := 9) C hW hS (by omega) (cel_14 (kd_c2 hk)) (by decide) (by decide) (by decide) (Nat.le_of_ble_eq_true rfl) (Nat.le_of_ble_eq_true rfl) dX7_init_25 (fun H hW hS => ?_)
  refine xk_put (v := .ref (b0 + (k + 2))) C hN hW hS (by decide) (by omega) rfl rfl inX7 tyX7 tyX7_ok nmX7 3 (by decide) q_288 rfl (fun _ => rfl) (ty := .array .int) (by decide +kernel) rfl rfl (Nat.le_of_ble_eq_true rfl) dX7_init_27 (fun H locs hW hS => ?_)
  refine lv_aload_n hx hb dX7_init_30 rfl (lv_at hl 0 rfl) ?_
  refine lv_bipush (v := 9) hx hb dX7_init_31 (by decide) ?_
  refine lv_iconst (v := 4) hx hb dX7_init_33 (by decide) ?_
  refine xk_multi (n := k + 3) C hA hW hS (by omega) q_282 (cel_15 (kd_c3 hk)) (fun j hj => cel_16 (kd_r (kd_c3 hk) hj)) (Nat.le_of_ble_eq_true rfl) (Nat.le_of_ble_eq_true rfl) dX7_init_34 (fun H locs hW hS => ?_)
  refine xk_put (v := .ref (b0 + (k + 3))) C hN hW hS (by decide) (by omega) rfl rfl inX7 tyX7 tyX7_ok nmX7 4 (by decide) q_289 rfl (fun _ => rfl) (ty := .array (.array .int)) (by decide +kernel) rfl rfl (Nat.le_of_ble_eq_true rfl) dX7_init_38 (fun H locs hW hS => ?_)
  refine lv_aload_n hx hb dX7_init_41 rfl (lv_at hl 0 rfl) ?_
  refine lv_iconst (v := 0) hx hb dX7_init_42 (by decide) ?_
  refine xk_put (v := .int 0) C hN hW hS (by decide) (by omega) rfl rfl inX7 tyX7 tyX7_ok nmX7 5 (by decide) q_290 rfl (fun h => absurd h (by decide)) (ty := .int) (by decide +kernel) rfl rfl (Nat.le_of_ble_eq_true rfl) dX7_init_43 (fun H locs hW hS => ?_)
  exact fin_w C hA hW hS (ez_ex (one_of (by rw [show k + 0 = k from rfl, cel_12 hk]; rfl))) dX7_init_46
theorem xh_eq {G : LG} {b0 k : Nat} (hk : kd k = 8) (j : Nat) (hj : j < 2) : (fun q => if q = 0 then .inr (4, [.ref (b0 + (k + 1)), .int 0, .int 0]) else .inl (G.2.1 7, 8, .inr (.inr (.inr (.inr (fun j => if j < 8 then some (b0 + (k + 2 + 17 * j)) else none)))))) j = cel G b0 Z0 (k + j) := by
  rcases j with _ | _ | j
  · rw [show k + 0 = k from rfl, cel_8 hk]; rfl
  · rw [show k + (0 + 1) = k + 1 from rfl, cel_9 (kd_h1 hk)]
    show (Sum.inl (G.2.1 7, 8, .inr (.inr (.inr (.inr (fun j => if j < 8 then some (b0 + (k + 2 + 17 * j)) else none))))) : va_E) = _
    rw [show (fun j => if j < 8 then some (b0 + (k + 1 + 1 + 17 * j)) else none : Nat → Option Nat) = fun j => if j < 8 then some (b0 + (k + 2 + 17 * j)) else none from rfl]
  · omega
set_option maxHeartbeats 4000000 in
set_option maxRecDepth 100000 in
theorem c_X1_init (l : Launch) (G : LG) (b0 k : Nat) (hk : kd k = 8) (E : Nat → va_E) (hE : E k = .inr (4, [.null, .int 0, .int 0])) : Met l yX1_init (wy yX1_init cX1_init 2 none) (rmw 3 137 512) (va_Pc [.ref (b0 + k)] (Iw G b0 (k + 1) E)) (QW G b0 (k + 138) (ez G b0 k E)) 137 512 (Ab b0) := by
  refine mk_w (by decide +kernel) rfl (Nat.le_of_ble_eq_true rfl) ?_
  intro p e s m args below meth c C hA hN hW hS ls hl
  obtain ⟨hx, hb, hrt, hml, hown, hts, hlocks, hK, hSv⟩ := id C
  have K_25 : ∀ (d i : Nat), i + d = 8 → ∀ (H : Heap) (locs : List Loc) (ls : Array Slot), Hw G b0 (k + 2 + 17 * i) (ex G b0 k 2 E (fun q => if q = 0 then .inr (4, [.ref (b0 + (k + 1)), .int 0, .int 0]) else .inl (G.2.1 7, 8, .inr (.inr (.inr (.inr (fun j => if j < i then some (b0 + (k + 2 + 17 * j)) else none))))))) H → va_S (Ab b0) s.heap H locs → lv_has ls 2 [(0, .ref (b0 + k)), (1, .int (nI i))] → W p l e (rmw 3 137 512) s m args below meth c H locs (1 + 17 * i) (8 + 63 * i) (MQ below (QW G b0 (k + 138) (ez G b0 k E)) args s 137 512 (Ab b0)) (F0 m 25 ls []) := by
    intro d
    induction d with
    | zero =>
      intro i hi H locs ls hW hS hl
      have hi : i = 8 := by omega
      subst hi
      refine lv_iload_n hx hb dX1_init_25 rfl (lv_at hl 1 rfl) ?_
      refine lv_bipush (v := 8) hx hb dX1_init_26 (by decide) ?_
      refine lv_icmp_ge (tgt := 50) hx hb dX1_init_28 (by decide) (fun _ => ?_) (fun h => absurd (by decide) h)
      have e9 : k + 2 + 17 * 8 = k + 138 := by omega
      rw [e9] at hW
      exact fin_w C hA hW hS (ez_ex (fun j hj => xh_eq hk j hj)) dX1_init_50
    | succ d ih =>
      intro i hi H locs ls hW hS hl
      have hi2 : i < 8 := by omega
      refine lv_iload_n hx hb dX1_init_25 rfl (lv_at hl 1 rfl) ?_
      refine lv_bipush (v := 8) hx hb dX1_init_26 (by decide) ?_
      refine lv_icmp_ge (tgt := 50) hx hb dX1_init_28 (by decide) (fun h => absurd h ((by decide : ∀ i, i < 8 → ¬ ((8 : Int32) ≤ nI i)) i hi2)) (fun _ => ?_)
      refine lv_aload_n hx hb dX1_init_31 rfl (lv_at hl 0 rfl) ?_
      refine xk_get (v := .ref (b0 + (k + 1))) C hW (by decide) (by omega) rfl rfl inX1 0 (by decide) q_254 rfl rfl dX1_init_32 ?_
      refine lv_iload_n hx hb dX1_init_35 rfl (lv_at hl 1 rfl) ?_
      have hkd : kd (k + 2 + 17 * i) = 1 := kd_h (kd_h1 hk) (j := i) hi2
      refine xk_child (ci := 11) (N := 9) (T := TX8) (fs := [.null, .null, .null, .int 0, .int 0, .int 0, .int 0, .int 0, .int 0]) (sz := 17) (y := yX8_init) C hA hW hS (show k + 2 ≤ k + 2 + 17 * i by omega) tyX8 rfl inX8 tyX8_ok q_251 q_134 q_94 (by intro j hj; (iterate 9 (rcases j with _ | j; · rfl)); omega) (fun E9 h9 => c_X8_init l G b0 (k + 2 + 17 * i) hkd E9 h9) rfl q_253 q_136 q_137 ⟨by decide +kernel, by decide +kernel, by decide +kernel⟩ ⟨by decide, by decide⟩ hl.1 (Nat.le_of_ble_eq_true rfl) ⟨show _ ≤ 137 by omega, show _ ≤ 512 by omega⟩ dX1_init_36 dX1_init_39 dX1_init_40 (fun H locs hW hS => ?_)
      refine xk_aast (j := 1) (t0 := 7) (N := 8) (i := i) (kv := k + 2 + 17 * i) C hW hS (by decide) (by omega) rfl rfl (by omega) (by omega) (cel_1 hkd) rfl hi2 (by decide) dX1_init_43 (f1 := fun j => if j < (i + 1) then some (b0 + (k + 2 + 17 * j)) else none) ?_ (fun H locs hW hS => ?_)
      · funext q
        simp only [va_up]
        by_cases h1 : q = i
        · subst h1
          rw [if_pos rfl, if_pos (by omega)]
        · by_cases h2 : q < i
          · rw [if_neg h1, if_pos h2, if_pos (by omega)]
          · rw [if_neg h1, if_neg h2, if_neg (by omega)]
      refine lv_iinc (v := nI (i + 1)) (lv' := [(1, .int (nI (i + 1))), (0, .ref (b0 + k))]) hx hb dX1_init_44 hl (k := 1) rfl (nI_add i 1) (by decide) rfl (fun ls hl => ?_)
      refine lv_goto (tgt := 25) hx hb dX1_init_47 (by decide) ?_
      have e1 : 1 + 17 * i + 1 + 16 = 1 + 17 * (i + 1) := by omega
      have e2 : 8 + 63 * i + 9 + 54 = 8 + 63 * (i + 1) := by omega
      have e3 : k + 2 + 17 * i + 17 = k + 2 + 17 * (i + 1) := by omega
      rw [e1, e2]
      rw [e3] at hW
      exact ih (i + 1) (by omega) H locs ls (hW.cg (fun q _ => (ex_fx (fun j hj => by rcases j with _ | _ | j <;> first | rfl | omega) q))) hS (lv_sub hl [1, 0] rfl)
  have hW := hW.cg (ex_in (G := G) (b0 := b0) (m := 2) (X := fun j => if j = 0 then .inr (4, [.null, .int 0, .int 0]) else .inl (G.2.1 7, 8, .inr (.inr (.inr (.inr (fun _ => none)))))) (by decide) hE.symm)
  refine lv_aload_n hx hb dX1_init_0 rfl (lv_at hl 0 rfl) ?_
  refine w_obj (d := 2) C q_250 hl.1 rfl (by decide) dX1_init_1 ?_
  refine lv_aload_n hx hb dX1_init_4 rfl (lv_at hl 0 rfl) ?_
  refine lv_bipush (v := 8) hx hb dX1_init_5 (by decide) ?_
  refine xk_newq (j := 1) (t0 := 7) (N := 8) C hW hS rfl (by decide) hA.2.2.2.1 rfl q_251 rfl (by decide) (by decide) (by decide) (Nat.le_of_ble_eq_true rfl) (Nat.le_of_ble_eq_true rfl) dX1_init_7 (fun H hW hS => ?_)
  refine xk_put (v := .ref (b0 + (k + 1))) C hN hW hS (by decide) (by omega) rfl rfl inX1 tyX1 tyX1_ok nmX1 0 (by decide) q_254 rfl (fun _ => rfl) (ty := .array (.object "NetScript$State")) (by decide +kernel) rfl rfl (Nat.le_of_ble_eq_true rfl) dX1_init_10 (fun H locs hW hS => ?_)
  refine lv_aload_n hx hb dX1_init_13 rfl (lv_at hl 0 rfl) ?_
  refine lv_iconst (v := 0) hx hb dX1_init_14 (by decide) ?_
  refine xk_put (v := .int 0) C hN hW hS (by decide) (by omega) rfl rfl inX1 tyX1 tyX1_ok nmX1 1 (by decide) q_255 rfl (fun h => absurd h (by decide)) (ty := .int) (by decide +kernel) rfl rfl (Nat.le_of_ble_eq_true rfl) dX1_init_15 (fun H locs hW hS => ?_)
  refine lv_aload_n hx hb dX1_init_18 rfl (lv_at hl 0 rfl) ?_
  refine lv_iconst (v := 0) hx hb dX1_init_19 (by decide) ?_
  refine xk_put (v := .int 0) C hN hW hS (by decide) (by omega) rfl rfl inX1 tyX1 tyX1_ok nmX1 2 (by decide) q_256 rfl (fun h => absurd h (by decide)) (ty := .int) (by decide +kernel) rfl rfl (Nat.le_of_ble_eq_true rfl) dX1_init_20 (fun H locs hW hS => ?_)
  refine lv_iconst (v := 0) hx hb dX1_init_23 (by decide) ?_
  refine lv_istore_n (lv' := [(1, .int (nI 0)), (0, .ref (b0 + k))]) hx hb dX1_init_24 rfl hl (by decide) rfl (fun ls hl => ?_)
  exact K_25 8 0 rfl H locs ls (hW.cg (fun q _ => (ex_fx (fun j hj => by rcases j with _ | _ | j <;> first | rfl | omega) q))) hS (lv_sub hl [1, 0] rfl)
/-- what all ints are, when the objects are made -/
def V0 : St := up Z0 0 10 (-1)
theorem cel_V0 {G : LG} {b0 q : Nat} (h1 : q ≠ 0) : cel G b0 V0 q = cel G b0 Z0 q := by
  unfold cel V0
  rw [up_at h1]
set_option maxHeartbeats 4000000 in
set_option maxRecDepth 100000 in
theorem c_X9_init (l : Launch) (G : LG) (b0 : Nat) (E : Nat → va_E) (hE : E 0 = .inr (12, [.null, .null, .null, .int 0, .null, .null, .null, .null, .null, .int 0, .int 0])) : Met l yX9_init (wy yX9_init cX9_init 1 none) (rmw 4 207 880) (va_Pc [.ref (b0 + 0)] (Iw G b0 (0 + 1) E)) (QW G b0 208 (cel G b0 V0)) 207 880 (Ab b0) := by
  refine mk_w (by decide +kernel) rfl (Nat.le_of_ble_eq_true rfl) ?_
  intro p e s m args below meth c C hA hN hW hS ls hl
  obtain ⟨hx, hb, hrt, hml, hown, hts, hlocks, hK, hSv⟩ := id C
  have hW := hW.cg (ex_in (G := G) (b0 := b0) (m := 1) (X := fun _ => .inr (12, [.null, .null, .null, .int 0, .null, .null, .null, .null, .null, .int 0, .int 0])) (by decide) hE.symm)
  refine lv_aload_n hx hb dX9_init_0 rfl (lv_at hl 0 rfl) ?_
  refine w_obj (d := 3) C q_130 hl.1 rfl (by decide) dX9_init_1 ?_
  refine lv_aload_n hx hb dX9_init_4 rfl (lv_at hl 0 rfl) ?_
  refine xk_child (n := 1) (ci := 11) (N := 9) (T := TX8) (fs := [.null, .null, .null, .int 0, .int 0, .int 0, .int 0, .int 0, .int 0]) (sz := 17) (y := yX8_init) C hA hW hS (by decide) tyX8 rfl inX8 tyX8_ok q_133 q_134 q_94 (by intro j hj; (iterate 9 (rcases j with _ | j; · rfl)); omega) (fun E9 h9 => c_X8_init l G b0 1 rfl E9 h9) rfl q_135 q_136 q_137 ⟨by decide +kernel, by decide +kernel, by decide +kernel⟩ ⟨by decide, by decide⟩ hl.1 (Nat.le_of_ble_eq_true rfl) ⟨by decide, by decide⟩ dX9_init_5 dX9_init_8 dX9_init_9 (fun H locs hW hS => ?_)
  refine xk_put (v := .ref (b0 + 1)) C hN hW hS (by decide) (by decide) rfl rfl inX9 tyX9 tyX9_ok nmX9 0 (by decide) q_339 rfl (fun _ => rfl) (ty := .object "NetScript$State") (by decide +kernel) rfl rfl (Nat.le_of_ble_eq_true rfl) dX9_init_12 (fun H locs hW hS => ?_)
  refine lv_aload_n hx hb dX9_init_15 rfl (lv_at hl 0 rfl) ?_
  refine xk_child (n := 18) (ci := 11) (N := 9) (T := TX8) (fs := [.null, .null, .null, .int 0, .int 0, .int 0, .int 0, .int 0, .int 0]) (sz := 17) (y := yX8_init) C hA hW hS (by decide) tyX8 rfl inX8 tyX8_ok q_133 q_134 q_94 (by intro j hj; (iterate 9 (rcases j with _ | j; · rfl)); omega) (fun E9 h9 => c_X8_init l G b0 18 rfl E9 h9) rfl q_135 q_136 q_137 ⟨by decide +kernel, by decide +kernel, by decide +kernel⟩ ⟨by decide, by decide⟩ hl.1 (Nat.le_of_ble_eq_true rfl) ⟨by decide, by decide⟩ dX9_init_16 dX9_init_19 dX9_init_20 (fun H locs hW hS => ?_)
  refine xk_put (v := .ref (b0 + 18)) C hN hW hS (by decide) (by decide) rfl rfl inX9 tyX9 tyX9_ok nmX9 1 (by decide) q_340 rfl (fun _ => rfl) (ty := .object "NetScript$State") (by decide +kernel) rfl rfl (Nat.le_of_ble_eq_true rfl) dX9_init_23 (fun H locs hW hS => ?_)
  refine lv_aload_n hx hb dX9_init_26 rfl (lv_at hl 0 rfl) ?_
  refine xk_child (n := 35) (ci := 11) (N := 9) (T := TX8) (fs := [.null, .null, .null, .int 0, .int 0, .int 0, .int 0, .int 0, .int 0]) (sz := 17) (y := yX8_init) C hA hW hS (by decide) tyX8 rfl inX8 tyX8_ok q_133 q_134 q_94 (by intro j hj; (iterate 9 (rcases j with _ | j; · rfl)); omega) (fun E9 h9 => c_X8_init l G b0 35 rfl E9 h9) rfl q_135 q_136 q_137 ⟨by decide +kernel, by decide +kernel, by decide +kernel⟩ ⟨by decide, by decide⟩ hl.1 (Nat.le_of_ble_eq_true rfl) ⟨by decide, by decide⟩ dX9_init_27 dX9_init_30 dX9_init_31 (fun H locs hW hS => ?_)
  refine xk_put (v := .ref (b0 + 35)) C hN hW hS (by decide) (by decide) rfl rfl inX9 tyX9 tyX9_ok nmX9 2 (by decide) q_341 rfl (fun _ => rfl) (ty := .object "NetScript$State") (by decide +kernel) rfl rfl (Nat.le_of_ble_eq_true rfl) dX9_init_34 (fun H locs hW hS => ?_)
  refine lv_aload_n hx hb dX9_init_37 rfl (lv_at hl 0 rfl) ?_
  refine lv_iconst (v := 0) hx hb dX9_init_38 (by decide) ?_
  refine xk_put (v := .int 0) C hN hW hS (by decide) (by decide) rfl rfl inX9 tyX9 tyX9_ok nmX9 3 (by decide) q_342 rfl (fun _ => rfl) (ty := .boolean) (by decide +kernel) rfl rfl (Nat.le_of_ble_eq_true rfl) dX9_init_39 (fun H locs hW hS => ?_)
  refine lv_aload_n hx hb dX9_init_42 rfl (lv_at hl 0 rfl) ?_
  refine xk_child (n := 52) (ci := 4) (N := 3) (T := TX1) (fs := [.null, .int 0, .int 0]) (sz := 138) (y := yX1_init) C hA hW hS (by decide) tyX1 rfl inX1 tyX1_ok q_245 q_246 q_98 (by intro j hj; (iterate 3 (rcases j with _ | j; · rfl)); omega) (fun E9 h9 => c_X1_init l G b0 52 rfl E9 h9) rfl q_247 q_248 q_249 ⟨by decide +kernel, by decide +kernel, by decide +kernel⟩ ⟨by decide, by decide⟩ hl.1 (Nat.le_of_ble_eq_true rfl) ⟨by decide, by decide⟩ dX9_init_43 dX9_init_46 dX9_init_47 (fun H locs hW hS => ?_)
  refine xk_put (v := .ref (b0 + 52)) C hN hW hS (by decide) (by decide) rfl rfl inX9 tyX9 tyX9_ok nmX9 4 (by decide) q_343 rfl (fun _ => rfl) (ty := .object "NetScript$History") (by decide +kernel) rfl rfl (Nat.le_of_ble_eq_true rfl) dX9_init_50 (fun H locs hW hS => ?_)
  refine lv_aload_n hx hb dX9_init_53 rfl (lv_at hl 0 rfl) ?_
  refine xk_child (n := 190) (ci := 8) (N := 1) (T := TX5) (fs := [.null]) (sz := 2) (y := yX5_init) C hA hW hS (by decide) tyX5 rfl inX5 tyX5_ok q_265 q_266 q_99 (by intro j hj; (iterate 1 (rcases j with _ | j; · rfl)); omega) (fun E9 h9 => c_X5_init l G b0 190 rfl E9 h9) rfl q_267 q_268 q_269 ⟨by decide +kernel, by decide +kernel, by decide +kernel⟩ ⟨by decide, by decide⟩ hl.1 (Nat.le_of_ble_eq_true rfl) ⟨by decide, by decide⟩ dX9_init_54 dX9_init_57 dX9_init_58 (fun H locs hW hS => ?_)
  refine xk_put (v := .ref (b0 + 190)) C hN hW hS (by decide) (by decide) rfl rfl inX9 tyX9 tyX9_ok nmX9 5 (by decide) q_344 rfl (fun _ => rfl) (ty := .object "NetScript$Parts") (by decide +kernel) rfl rfl (Nat.le_of_ble_eq_true rfl) dX9_init_61 (fun H locs hW hS => ?_)
  refine lv_aload_n hx hb dX9_init_64 rfl (lv_at hl 0 rfl) ?_
  refine xk_child (n := 192) (ci := 10) (N := 6) (T := TX7) (fs := [.null, .int 0, .int 0, .null, .null, .int 0]) (sz := 13) (y := yX7_init) C hA hW hS (by decide) tyX7 rfl inX7 tyX7_ok q_276 q_277 q_100 (by intro j hj; (iterate 6 (rcases j with _ | j; · rfl)); omega) (fun E9 h9 => c_X7_init l G b0 192 rfl E9 h9) rfl q_278 q_279 q_280 ⟨by decide +kernel, by decide +kernel, by decide +kernel⟩ ⟨by decide, by decide⟩ hl.1 (Nat.le_of_ble_eq_true rfl) ⟨by decide, by decide⟩ dX9_init_65 dX9_init_68 dX9_init_69 (fun H locs hW hS => ?_)
  refine xk_put (v := .ref (b0 + 192)) C hN hW hS (by decide) (by decide) rfl rfl inX9 tyX9 tyX9_ok nmX9 6 (by decide) q_345 rfl (fun _ => rfl) (ty := .object "NetScript$Script") (by decide +kernel) rfl rfl (Nat.le_of_ble_eq_true rfl) dX9_init_72 (fun H locs hW hS => ?_)
  refine lv_aload_n hx hb dX9_init_75 rfl (lv_at hl 0 rfl) ?_
  refine xk_child (n := 205) (ci := 5) (N := 2) (T := TX2) (fs := [.null, .int 0]) (sz := 2) (y := yX2_init) C hA hW hS (by decide) tyX2 rfl inX2 tyX2_ok q_306 q_307 q_101 (by intro j hj; (iterate 2 (rcases j with _ | j; · rfl)); omega) (fun E9 h9 => c_X2_init l G b0 205 rfl E9 h9) rfl q_308 q_309 q_310 ⟨by decide +kernel, by decide +kernel, by decide +kernel⟩ ⟨by decide, by decide⟩ hl.1 (Nat.le_of_ble_eq_true rfl) ⟨by decide, by decide⟩ dX9_init_76 dX9_init_79 dX9_init_80 (fun H locs hW hS => ?_)
  refine xk_put (v := .ref (b0 + 205)) C hN hW hS (by decide) (by decide) rfl rfl inX9 tyX9 tyX9_ok nmX9 7 (by decide) q_346 rfl (fun _ => rfl) (ty := .object "NetScript$Line") (by decide +kernel) rfl rfl (Nat.le_of_ble_eq_true rfl) dX9_init_83 (fun H locs hW hS => ?_)
  refine lv_aload_n hx hb dX9_init_86 rfl (lv_at hl 0 rfl) ?_
  refine xk_child (n := 207) (ci := 9) (N := 4) (T := TX6) (fs := [.int 0, .int 0, .int 0, .int 0]) (sz := 1) (y := yX6_init) C hA hW hS (by decide) tyX6 rfl inX6 tyX6_ok q_320 q_321 q_102 (by intro j hj; (iterate 4 (rcases j with _ | j; · rfl)); omega) (fun E9 h9 => c_X6_init l G b0 207 rfl E9 h9) rfl q_322 q_323 q_324 ⟨by decide +kernel, by decide +kernel, by decide +kernel⟩ ⟨by decide, by decide⟩ hl.1 (Nat.le_of_ble_eq_true rfl) ⟨by decide, by decide⟩ dX9_init_87 dX9_init_90 dX9_init_91 (fun H locs hW hS => ?_)
  refine xk_put (v := .ref (b0 + 207)) C hN hW hS (by decide) (by decide) rfl rfl inX9 tyX9 tyX9_ok nmX9 8 (by decide) q_347 rfl (fun _ => rfl) (ty := .object "NetScript$Refusal") (by decide +kernel) rfl rfl (Nat.le_of_ble_eq_true rfl) dX9_init_94 (fun H locs hW hS => ?_)
  refine lv_aload_n hx hb dX9_init_97 rfl (lv_at hl 0 rfl) ?_
  refine lv_iconst (v := 0) hx hb dX9_init_98 (by decide) ?_
  refine xk_put (v := .int 0) C hN hW hS (by decide) (by decide) rfl rfl inX9 tyX9 tyX9_ok nmX9 9 (by decide) q_348 rfl (fun _ => rfl) (ty := .int) (by decide +kernel) rfl rfl (Nat.le_of_ble_eq_true rfl) dX9_init_99 (fun H locs hW hS => ?_)
  refine lv_aload_n hx hb dX9_init_102 rfl (lv_at hl 0 rfl) ?_
  refine lv_iconst (v := -1) hx hb dX9_init_103 (by decide) ?_
  refine xk_put (v := .int (-1)) C hN hW hS (by decide) (by decide) rfl rfl inX9 tyX9 tyX9_ok nmX9 10 (by decide) q_349 rfl (fun _ => rfl) (ty := .int) (by decide +kernel) rfl rfl (Nat.le_of_ble_eq_true rfl) dX9_init_104 (fun H locs hW hS => ?_)
  refine fin_w (n := 208) C hA hW hS (fun q hq => ?_) dX9_init_107
  by_cases h0 : q = 0
  · subst h0
    rw [ex_k (by decide), cel_0 rfl]
    rfl
  · rw [ex_ge (by omega), cel_V0 h0]
