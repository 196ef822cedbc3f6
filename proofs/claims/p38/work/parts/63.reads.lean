def f_L_reads_b2 (ts : List Int32) : Nat → St → Int32 → Option (Int32 × St)
  | 0, _, _ => none
  | n + 1, V, x2 =>
    if (nI ts.length) ≤ x2 then
      (f_L_run V).bind fun q3 =>
      some (q3.1, q3.2)
    else
      (ix x2 ts.length).bind fun j4 =>
      (f_L_feed V (txc ts j4)).bind fun q5 =>
      f_L_reads_b2 ts n q5.2 (x2 + 1)
def f_L_reads (ts : List Int32) (V : St) : Option (Int32 × St) :=
  f_L_reads_b2 ts 64 V 0
set_option maxHeartbeats 8000000 in
set_option maxRecDepth 100000 in
theorem c_L_reads (l : Launch) (hfl : l.stackTraces = false) (G : LG) (b0 : Nat) (V : St) (v9 t9 : Nat) (z9 : Int32 × Int32) (ts : List Int32) (hts9 : ts.length ≤ 60) (res : Int32 × St) (hr : f_L_reads ts V = some res) : Met l yL_reads (wy yL_reads cL_reads 4 (some .int)) (rmc 13 64) (va_Pc [.ref (b0 + 0), .ref t9] (Iv (tg G v9 t9 z9 ts) b0 V)) (QI (tg G v9 t9 z9 ts) b0 res.1 res.2) 64 (6 * 64) (Ab b0) := by
  refine mk_c (by decide +kernel) (Nat.le_of_ble_eq_true rfl) ?_
  intro p e s m below meth c C hV hS ls hl
  obtain ⟨args, hargs⟩ : ∃ z, z = ([.ref (b0 + 0), .ref t9] : List Value).toArray := ⟨_, rfl⟩
  rw [← hargs] at C ⊢
  obtain ⟨hx, hb, hrt, hml, hown, hts, hlocks, hK, hSv⟩ := id C
  have hl : lv_has ls 4 [(0, .ref (b0 + 0)), (1, .ref t9)] := hl
  have K_2 : ∀ (n : Nat) (w : Nat) (V : St) (x2 : Int32), w + n * 1 + 0 ≤ 64 → f_L_reads_b2 ts n V x2 = some res → ∀ (H : Heap) (locs : List Loc) (ls : Array Slot), Hd (tg G v9 t9 z9 ts) b0 V H → va_S (Ab b0) s.heap H locs → lv_has ls 4 [(0, .ref (b0 + 0)), (1, .ref t9), (2, .int x2)] → W p l e (rmc 13 64) s m args below meth c H locs w (6 * w) (MQ below (QI (tg G v9 t9 z9 ts) b0 res.1 res.2) args s 64 (6 * 64) (Ab b0)) (F0 m 2 ls []) := by
    intro  n
    induction n with
    | zero =>
      intro w V x2 hw hr
      rw [f_L_reads_b2] at hr
      cases hr
    | succ n ih =>
      intro w V x2 hw hr H locs ls hV hS hl
      rw [f_L_reads_b2] at hr
      refine lv_iload_n hx hb dL_reads_2 rfl (lv_at hl 2 rfl) ?_
      refine lv_aload_n hx hb dL_reads_3 rfl (lv_at hl 1 rfl) ?_
      refine cal_i (run_V (As := []) (rest := [.int x2]) C hV hS (c_J0_length_t l G b0 V v9 t9 z9 ts hts9) (rcv_t hK hV) q_1094 q_954 q_955 q_111 q_956 dk_J0_length_8abf5 (rmc_ok0 (by decide) (by decide)) hl.1 rfl (Nat.le_of_ble_eq_true rfl) dL_reads_4 (rmc_c0 (by omega))) hS (fun H locs hV hS => ?_)
      refine lv_icmp_ge (tgt := 26) hx hb dL_reads_7 (by decide) (fun b_2 => ?_) (fun b_2 => ?_)
      · have hr := it b_2 hr
        refine lv_aload_n hx hb dL_reads_26 rfl (lv_at hl 0 rfl) ?_
        obtain ⟨q3, e3, hr⟩ := ob hr
        refine cal_ic (run_HC (As := [.ref (b0 + 0)]) (rest := []) C hV hS (c_L_run l hfl (tg G v9 t9 z9 ts) b0 V q3 e3) q_1151 q_1152 q_92 q_1153 dk_L_run (rmc_ok (by decide) (by decide)) hl.1 rfl (Nat.le_of_ble_eq_true rfl) dL_reads_27 (rmc_cs (by omega))) hS (fun H locs hV hS => ?_)
        rw [← Option.some.inj hr]
        exact fin_ic (w := w + 1) C hV hS (by omega) rfl dL_reads_30
      · have hr := ie b_2 hr
        refine lv_aload_n hx hb dL_reads_10 rfl (lv_at hl 0 rfl) ?_
        refine lv_aload_n hx hb dL_reads_11 rfl (lv_at hl 1 rfl) ?_
        refine lv_iload_n hx hb dL_reads_12 rfl (lv_at hl 2 rfl) ?_
        obtain ⟨j4, e4, hr⟩ := ob hr
        refine cal_i (run_V (As := [.int x2]) (rest := [.ref (b0 + 0)]) C hV hS (c_J0_charAt_t l G b0 V v9 t9 z9 ts hts9 x2 j4 e4) (rcv_t hK hV) q_1095 q_1096 q_1097 q_111 q_1098 dk_J0_charAt_5068e (rmc_ok0 (by decide) (by decide)) hl.1 rfl (Nat.le_of_ble_eq_true rfl) dL_reads_13 (rmc_c0 (by omega))) hS (fun H locs hV hS => ?_)
        obtain ⟨q5, e5, hr⟩ := ob hr
        refine cal_ic (run_HC (As := [.ref (b0 + 0), .int (txc ts j4)]) (rest := []) C hV hS (c_L_feed l hfl (tg G v9 t9 z9 ts) b0 V (txc ts j4) q5 e5) q_1119 q_1120 q_92 q_1121 dk_L_feed (rmc_ok (by decide) (by decide)) hl.1 rfl (Nat.le_of_ble_eq_true rfl) dL_reads_16 (rmc_cs (by omega))) hS (fun H locs hV hS => ?_)
        refine lv_istore_n (lv' := [(3, .int q5.1), (0, .ref (b0 + 0)), (1, .ref t9), (2, .int x2)]) hx hb dL_reads_19 rfl hl (by decide) rfl (fun ls hl => ?_)
        refine lv_iinc (v := x2 + 1) (lv' := [(2, .int (x2 + 1)), (3, .int q5.1), (0, .ref (b0 + 0)), (1, .ref t9)]) hx hb dL_reads_20 hl (k := 3) rfl rfl (by decide) rfl (fun ls hl => ?_)
        refine lv_goto (tgt := 2) hx hb dL_reads_23 (by decide) ?_
        exact ih (w + 1) _ (x2 + 1) (by omega) hr _ _ ls hV hS (lv_sub hl [2, 3, 0] rfl)
  unfold f_L_reads at hr
  refine lv_iconst (v := 0) hx hb dL_reads_0 (by decide) ?_
  refine lv_istore_n (lv' := [(2, .int 0), (0, .ref (b0 + 0)), (1, .ref t9)]) hx hb dL_reads_1 rfl hl (by decide) rfl (fun ls hl => ?_)
  exact K_2 64 0 _ 0 (by omega) hr _ _ ls hV hS (lv_sub hl [1, 2, 0] rfl)
