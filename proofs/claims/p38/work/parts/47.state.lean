theorem ex_fx {G : LG} {b0 k m : Nat} {E X Y : Nat → va_E} (h : ∀ j, j < m → X j = Y j) (q : Nat) : ex G b0 k m E X q = ex G b0 k m E Y q := by
  unfold ex
  by_cases h1 : q < k
  · rw [if_pos h1, if_pos h1]
  · by_cases h2 : q < k + m
    · rw [if_neg h1, if_neg h1, if_pos h2, if_pos h2, h _ (by omega)]
    · rw [if_neg h1, if_neg h1, if_neg h2, if_neg h2]
theorem rfn_eq {N a c b0 : Nat} (h : a = c) : (fun j => if j < N then some (b0 + (a + j)) else none : Nat → Option Nat) = fun j => if j < N then some (b0 + (c + j)) else none := by rw [h]
theorem xs_eq {G : LG} {b0 k : Nat} (hk : kd k = 1) (j : Nat) (hj : j < 4) : (fun q => if q = 0 then .inr (11, [.ref (b0 + (k + 1)), .ref (b0 + (k + 2)), .ref (b0 + (k + 3)), .int 0, .int 0, .int 0, .int 0, .int 0, .int 0]) else if q = 1 then .inl (G.2.1 4, 3, .inr (.inr (.inr (.inr (fun j => if j < 3 then some (b0 + (k + 4 + j)) else none))))) else if q = 2 then .inl (G.2.1 5, 4, .inr (.inr (.inr (.inr (fun j => if j < 4 then some (b0 + (k + 7 + j)) else none))))) else .inl (G.2.1 6, 6, .inr (.inr (.inr (.inr (fun j => if j < 6 then some (b0 + (k + 11 + j)) else none)))))) j = cel G b0 Z0 (k + j) := by
  rcases j with _ | _ | _ | _ | j
  · rw [show k + 0 = k from rfl, cel_1 hk]; rfl
  · rw [show k + (0 + 1) = k + 1 from rfl, cel_2 (kd_s1 hk)]; rfl
  · rw [show k + (0 + 1 + 1) = k + 2 from rfl, cel_3 (kd_s2 hk), rfn_eq (show k + 2 + 5 = k + 7 by omega)]; rfl
  · rw [show k + (0 + 1 + 1 + 1) = k + 3 from rfl, cel_4 (kd_s3 hk), rfn_eq (show k + 3 + 8 = k + 11 by omega)]; rfl
  · omega
set_option maxHeartbeats 4000000 in
set_option maxRecDepth 100000 in
theorem c_X8_init (l : Launch) (G : LG) (b0 k : Nat) (hk : kd k = 1) (E : Nat → va_E) (hE : E k = .inr (11, [.null, .null, .null, .int 0, .int 0, .int 0, .int 0, .int 0, .int 0])) : Met l yX8_init (wy yX8_init cX8_init 2 none) (rmw 2 16 54) (va_Pc [.ref (b0 + k)] (Iw G b0 (k + 1) E)) (QW G b0 (k + 17) (ez G b0 k E)) 16 54 (Ab b0) := by
  refine mk_w (by decide +kernel) rfl (Nat.le_of_ble_eq_true rfl) ?_
  intro p e s m args below meth c C hA hN hW hS ls hl
  obtain ⟨hx, hb, hrt, hml, hown, hts, hlocks, hK, hSv⟩ := id C
  have K_113 : ∀ (d i : Nat), i + d = 6 → ∀ (H : Heap) (locs : List Loc) (ls : Array Slot), Hw G b0 (k + 11 + i) (ex G b0 k 4 E (fun q => if q = 0 then .inr (11, [.ref (b0 + (k + 1)), .ref (b0 + (k + 2)), .ref (b0 + (k + 3)), .int 0, .int 0, .int 0, .int 0, .int 0, .int 0]) else if q = 1 then .inl (G.2.1 4, 3, .inr (.inr (.inr (.inr (fun j => if j < 3 then some (b0 + (k + 4 + j)) else none))))) else if q = 2 then .inl (G.2.1 5, 4, .inr (.inr (.inr (.inr (fun j => if j < 4 then some (b0 + (k + 7 + j)) else none))))) else .inl (G.2.1 6, 6, .inr (.inr (.inr (.inr (fun j => if j < i then some (b0 + (k + 11 + j)) else none))))))) H → va_S (Ab b0) s.heap H locs → lv_has ls 2 [(0, .ref (b0 + k)), (1, .int (nI i))] → W p l e (rmw 2 16 54) s m args below meth c H locs (10 + 1 * i) (36 + 3 * i) (MQ below (QW G b0 (k + 17) (ez G b0 k E)) args s 16 54 (Ab b0)) (F0 m 113 ls []) := by
    intro d
    induction d with
    | zero =>
      intro i hi H locs ls hW hS hl
      have hi : i = 6 := by omega
      subst hi
      refine lv_iload_n hx hb dX8_init_113 rfl (lv_at hl 1 rfl) ?_
      refine lv_bipush (v := 6) hx hb dX8_init_114 (by decide) ?_
      refine lv_icmp_ge (tgt := 138) hx hb dX8_init_116 (by decide) (fun _ => ?_) (fun h => absurd (by decide) h)
      exact fin_w C hA hW hS (ez_ex (fun j hj => xs_eq hk j hj)) dX8_init_138
    | succ d ih =>
      intro i hi H locs ls hW hS hl
      have hi2 : i < 6 := by omega
      refine lv_iload_n hx hb dX8_init_113 rfl (lv_at hl 1 rfl) ?_
      refine lv_bipush (v := 6) hx hb dX8_init_114 (by decide) ?_
      refine lv_icmp_ge (tgt := 138) hx hb dX8_init_116 (by decide) (fun h => absurd h ((by decide : ∀ i, i < 6 → ¬ ((6 : Int32) ≤ nI i)) i hi2)) (fun _ => ?_)
      refine lv_aload_n hx hb dX8_init_119 rfl (lv_at hl 0 rfl) ?_
      refine xk_get (v := .ref (b0 + (k + 3))) C hW (by decide) (by omega) rfl rfl inX8 2 (by decide) q_213 rfl rfl dX8_init_120 ?_
      refine lv_iload_n hx hb dX8_init_123 rfl (lv_at hl 1 rfl) ?_
      have hkd : kd (k + 11 + i) = 7 := by have := kd_o (kd_s3 hk) (j := i) hi2; rw [show k + 11 + i = k + 3 + 8 + i by omega]; exact this
      refine xk_child (ci := 7) (N := 3) (T := TX4) (fs := [.int 0, .int 0, .int 0]) (sz := 1) (y := yX4_init) C hA hW hS (show k + 4 ≤ k + 11 + i by omega) tyX4 rfl inX4 tyX4_ok q_143 q_190 q_97 (by intro j hj; (iterate 3 (rcases j with _ | j; · rfl)); omega) (fun E9 h9 => c_X4_init l G b0 (k + 11 + i) hkd E9 h9) rfl q_191 q_192 q_193 ⟨by decide +kernel, by decide +kernel, by decide +kernel⟩ ⟨by decide, by decide⟩ hl.1 (Nat.le_of_ble_eq_true rfl) ⟨show _ ≤ 16 by omega, show _ ≤ 54 by omega⟩ dX8_init_124 dX8_init_127 dX8_init_128 (fun H locs hW hS => ?_)
      refine xk_aast (j := 3) (t0 := 6) (N := 6) (i := i) (kv := k + 11 + i) C hW hS (by decide) (by omega) rfl rfl (by omega) (by omega) (cel_7 hkd) rfl hi2 (by decide) dX8_init_131 (f1 := fun j => if j < (i + 1) then some (b0 + (k + 11 + j)) else none) ?_ (fun H locs hW hS => ?_)
      · funext q
        simp only [va_up]
        by_cases h1 : q = i
        · subst h1
          rw [if_pos rfl, if_pos (by omega)]
        · by_cases h2 : q < i
          · rw [if_neg h1, if_pos h2, if_pos (by omega)]
          · rw [if_neg h1, if_neg h2, if_neg (by omega)]
      refine lv_iinc (v := nI (i + 1)) (lv' := [(1, .int (nI (i + 1))), (0, .ref (b0 + k))]) hx hb dX8_init_132 hl (k := 1) rfl (nI_add i 1) (by decide) rfl (fun ls hl => ?_)
      refine lv_goto (tgt := 113) hx hb dX8_init_135 (by decide) ?_
      have e1 : 10 + 1 * i + 1 + 0 = 10 + 1 * (i + 1) := by omega
      have e2 : 36 + 3 * i + 3 + 0 = 36 + 3 * (i + 1) := by omega
      rw [e1, e2]
      exact ih (i + 1) (by omega) H locs ls (hW.cg (fun q _ => (ex_fx (fun j hj => by rcases j with _ | _ | _ | _ | j <;> first | rfl | omega) q))) hS (lv_sub hl [1, 0] rfl)
  have K_87 : ∀ (d i : Nat), i + d = 4 → ∀ (H : Heap) (locs : List Loc) (ls : Array Slot), Hw G b0 (k + 7 + i) (ex G b0 k 4 E (fun q => if q = 0 then .inr (11, [.ref (b0 + (k + 1)), .ref (b0 + (k + 2)), .ref (b0 + (k + 3)), .int 0, .int 0, .int 0, .int 0, .int 0, .int 0]) else if q = 1 then .inl (G.2.1 4, 3, .inr (.inr (.inr (.inr (fun j => if j < 3 then some (b0 + (k + 4 + j)) else none))))) else if q = 2 then .inl (G.2.1 5, 4, .inr (.inr (.inr (.inr (fun j => if j < i then some (b0 + (k + 7 + j)) else none))))) else .inl (G.2.1 6, 6, .inr (.inr (.inr (.inr (fun j => if j < 0 then some (b0 + (k + 11 + j)) else none))))))) H → va_S (Ab b0) s.heap H locs → lv_has ls 2 [(0, .ref (b0 + k)), (1, .int (nI i))] → W p l e (rmw 2 16 54) s m args below meth c H locs (6 + 1 * i) (28 + 2 * i) (MQ below (QW G b0 (k + 17) (ez G b0 k E)) args s 16 54 (Ab b0)) (F0 m 87 ls []) := by
    intro d
    induction d with
    | zero =>
      intro i hi H locs ls hW hS hl
      have hi : i = 4 := by omega
      subst hi
      refine lv_iload_n hx hb dX8_init_87 rfl (lv_at hl 1 rfl) ?_
      refine lv_iconst (v := 4) hx hb dX8_init_88 (by decide) ?_
      refine lv_icmp_ge (tgt := 111) hx hb dX8_init_89 (by decide) (fun _ => ?_) (fun h => absurd (by decide) h)
      refine lv_iconst (v := 0) hx hb dX8_init_111 (by decide) ?_
      refine lv_istore_n (lv' := [(1, .int (nI 0)), (0, .ref (b0 + k))]) hx hb dX8_init_112 rfl hl (by decide) rfl (fun ls hl => ?_)
      exact K_113 6 0 rfl H locs ls (hW.cg (fun q _ => (ex_fx (fun j hj => by rcases j with _ | _ | _ | _ | j <;> first | rfl | omega) q))) hS (lv_sub hl [1, 0] rfl)
    | succ d ih =>
      intro i hi H locs ls hW hS hl
      have hi2 : i < 4 := by omega
      refine lv_iload_n hx hb dX8_init_87 rfl (lv_at hl 1 rfl) ?_
      refine lv_iconst (v := 4) hx hb dX8_init_88 (by decide) ?_
      refine lv_icmp_ge (tgt := 111) hx hb dX8_init_89 (by decide) (fun h => absurd h ((by decide : ∀ i, i < 4 → ¬ ((4 : Int32) ≤ nI i)) i hi2)) (fun _ => ?_)
      refine lv_aload_n hx hb dX8_init_92 rfl (lv_at hl 0 rfl) ?_
      refine xk_get (v := .ref (b0 + (k + 2))) C hW (by decide) (by omega) rfl rfl inX8 1 (by decide) q_212 rfl rfl dX8_init_93 ?_
      refine lv_iload_n hx hb dX8_init_96 rfl (lv_at hl 1 rfl) ?_
      have hkd : kd (k + 7 + i) = 6 := by have := kd_e (kd_s2 hk) (j := i) hi2; rw [show k + 7 + i = k + 2 + 5 + i by omega]; exact this
      refine xk_child (ci := 3) (N := 2) (T := TX0) (fs := [.int 0, .int 0]) (sz := 1) (y := yX0_init) C hA hW hS (show k + 4 ≤ k + 7 + i by omega) tyX0 rfl inX0 tyX0_ok q_141 q_174 q_96 (by intro j hj; (iterate 2 (rcases j with _ | j; · rfl)); omega) (fun E9 h9 => c_X0_init l G b0 (k + 7 + i) hkd E9 h9) rfl q_175 q_176 q_177 ⟨by decide +kernel, by decide +kernel, by decide +kernel⟩ ⟨by decide, by decide⟩ hl.1 (Nat.le_of_ble_eq_true rfl) ⟨show _ ≤ 16 by omega, show _ ≤ 54 by omega⟩ dX8_init_97 dX8_init_100 dX8_init_101 (fun H locs hW hS => ?_)
      refine xk_aast (j := 2) (t0 := 5) (N := 4) (i := i) (kv := k + 7 + i) C hW hS (by decide) (by omega) rfl rfl (by omega) (by omega) (cel_6 hkd) rfl hi2 (by decide) dX8_init_104 (f1 := fun j => if j < (i + 1) then some (b0 + (k + 7 + j)) else none) ?_ (fun H locs hW hS => ?_)
      · funext q
        simp only [va_up]
        by_cases h1 : q = i
        · subst h1
          rw [if_pos rfl, if_pos (by omega)]
        · by_cases h2 : q < i
          · rw [if_neg h1, if_pos h2, if_pos (by omega)]
          · rw [if_neg h1, if_neg h2, if_neg (by omega)]
      refine lv_iinc (v := nI (i + 1)) (lv' := [(1, .int (nI (i + 1))), (0, .ref (b0 + k))]) hx hb dX8_init_105 hl (k := 1) rfl (nI_add i 1) (by decide) rfl (fun ls hl => ?_)
      refine lv_goto (tgt := 87) hx hb dX8_init_108 (by decide) ?_
      have e1 : 6 + 1 * i + 1 + 0 = 6 + 1 * (i + 1) := by omega
      have e2 : 28 + 2 * i + 2 + 0 = 28 + 2 * (i + 1) := by omega
      rw [e1, e2]
      exact ih (i + 1) (by omega) H locs ls (hW.cg (fun q _ => (ex_fx (fun j hj => by rcases j with _ | _ | _ | _ | j <;> first | rfl | omega) q))) hS (lv_sub hl [1, 0] rfl)
  have K_61 : ∀ (d i : Nat), i + d = 3 → ∀ (H : Heap) (locs : List Loc) (ls : Array Slot), Hw G b0 (k + 4 + i) (ex G b0 k 4 E (fun q => if q = 0 then .inr (11, [.ref (b0 + (k + 1)), .ref (b0 + (k + 2)), .ref (b0 + (k + 3)), .int 0, .int 0, .int 0, .int 0, .int 0, .int 0]) else if q = 1 then .inl (G.2.1 4, 3, .inr (.inr (.inr (.inr (fun j => if j < i then some (b0 + (k + 4 + j)) else none))))) else if q = 2 then .inl (G.2.1 5, 4, .inr (.inr (.inr (.inr (fun j => if j < 0 then some (b0 + (k + 7 + j)) else none))))) else .inl (G.2.1 6, 6, .inr (.inr (.inr (.inr (fun j => if j < 0 then some (b0 + (k + 11 + j)) else none))))))) H → va_S (Ab b0) s.heap H locs → lv_has ls 2 [(0, .ref (b0 + k)), (1, .int (nI i))] → W p l e (rmw 2 16 54) s m args below meth c H locs (3 + 1 * i) (13 + 5 * i) (MQ below (QW G b0 (k + 17) (ez G b0 k E)) args s 16 54 (Ab b0)) (F0 m 61 ls []) := by
    intro d
    induction d with
    | zero =>
      intro i hi H locs ls hW hS hl
      have hi : i = 3 := by omega
      subst hi
      refine lv_iload_n hx hb dX8_init_61 rfl (lv_at hl 1 rfl) ?_
      refine lv_iconst (v := 3) hx hb dX8_init_62 (by decide) ?_
      refine lv_icmp_ge (tgt := 85) hx hb dX8_init_63 (by decide) (fun _ => ?_) (fun h => absurd (by decide) h)
      refine lv_iconst (v := 0) hx hb dX8_init_85 (by decide) ?_
      refine lv_istore_n (lv' := [(1, .int (nI 0)), (0, .ref (b0 + k))]) hx hb dX8_init_86 rfl hl (by decide) rfl (fun ls hl => ?_)
      exact K_87 4 0 rfl H locs ls (hW.cg (fun q _ => (ex_fx (fun j hj => by rcases j with _ | _ | _ | _ | j <;> first | rfl | omega) q))) hS (lv_sub hl [1, 0] rfl)
    | succ d ih =>
      intro i hi H locs ls hW hS hl
      have hi2 : i < 3 := by omega
      refine lv_iload_n hx hb dX8_init_61 rfl (lv_at hl 1 rfl) ?_
      refine lv_iconst (v := 3) hx hb dX8_init_62 (by decide) ?_
      refine lv_icmp_ge (tgt := 85) hx hb dX8_init_63 (by decide) (fun h => absurd h ((by decide : ∀ i, i < 3 → ¬ ((3 : Int32) ≤ nI i)) i hi2)) (fun _ => ?_)
      refine lv_aload_n hx hb dX8_init_66 rfl (lv_at hl 0 rfl) ?_
      refine xk_get (v := .ref (b0 + (k + 1))) C hW (by decide) (by omega) rfl rfl inX8 0 (by decide) q_211 rfl rfl dX8_init_67 ?_
      refine lv_iload_n hx hb dX8_init_70 rfl (lv_at hl 1 rfl) ?_
      have hkd : kd (k + 4 + i) = 5 := by have := kd_n (kd_s1 hk) (j := i) hi2; rw [show k + 4 + i = k + 1 + 3 + i by omega]; exact this
      refine xk_child (ci := 6) (N := 5) (T := TX3) (fs := [.int 0, .int 0, .int 0, .int 0, .int 0]) (sz := 1) (y := yX3_init) C hA hW hS (show k + 4 ≤ k + 4 + i by omega) tyX3 rfl inX3 tyX3_ok q_139 q_145 q_95 (by intro j hj; (iterate 5 (rcases j with _ | j; · rfl)); omega) (fun E9 h9 => c_X3_init l G b0 (k + 4 + i) hkd E9 h9) rfl q_146 q_147 q_148 ⟨by decide +kernel, by decide +kernel, by decide +kernel⟩ ⟨by decide, by decide⟩ hl.1 (Nat.le_of_ble_eq_true rfl) ⟨show _ ≤ 16 by omega, show _ ≤ 54 by omega⟩ dX8_init_71 dX8_init_74 dX8_init_75 (fun H locs hW hS => ?_)
      refine xk_aast (j := 1) (t0 := 4) (N := 3) (i := i) (kv := k + 4 + i) C hW hS (by decide) (by omega) rfl rfl (by omega) (by omega) (cel_5 hkd) rfl hi2 (by decide) dX8_init_78 (f1 := fun j => if j < (i + 1) then some (b0 + (k + 4 + j)) else none) ?_ (fun H locs hW hS => ?_)
      · funext q
        simp only [va_up]
        by_cases h1 : q = i
        · subst h1
          rw [if_pos rfl, if_pos (by omega)]
        · by_cases h2 : q < i
          · rw [if_neg h1, if_pos h2, if_pos (by omega)]
          · rw [if_neg h1, if_neg h2, if_neg (by omega)]
      refine lv_iinc (v := nI (i + 1)) (lv' := [(1, .int (nI (i + 1))), (0, .ref (b0 + k))]) hx hb dX8_init_79 hl (k := 1) rfl (nI_add i 1) (by decide) rfl (fun ls hl => ?_)
      refine lv_goto (tgt := 61) hx hb dX8_init_82 (by decide) ?_
      have e1 : 3 + 1 * i + 1 + 0 = 3 + 1 * (i + 1) := by omega
      have e2 : 13 + 5 * i + 5 + 0 = 13 + 5 * (i + 1) := by omega
      rw [e1, e2]
      exact ih (i + 1) (by omega) H locs ls (hW.cg (fun q _ => (ex_fx (fun j hj => by rcases j with _ | _ | _ | _ | j <;> first | rfl | omega) q))) hS (lv_sub hl [1, 0] rfl)
  have hW := hW.cg (ex_in (G := G) (b0 := b0) (m := 4) (X := fun j => if j = 0 then .inr (11, [.null, .null, .null, .int 0, .int 0, .int 0, .int 0, .int 0, .int 0]) else if j = 1 then .inl (G.2.1 4, 3, .inr (.inr (.inr (.inr (fun _ => none))))) else if j = 2 then .inl (G.2.1 5, 4, .inr (.inr (.inr (.inr (fun _ => none))))) else .inl (G.2.1 6, 6, .inr (.inr (.inr (.inr (fun _ => none)))))) (by decide) hE.symm)
  refine lv_aload_n hx hb dX8_init_0 rfl (lv_at hl 0 rfl) ?_
  refine w_obj (d := 1) C q_138 hl.1 rfl (by decide) dX8_init_1 ?_
  refine lv_aload_n hx hb dX8_init_4 rfl (lv_at hl 0 rfl) ?_
  refine lv_iconst (v := 3) hx hb dX8_init_5 (by decide) ?_
  refine xk_newq (j := 1) (t0 := 4) (N := 3) C hW hS rfl (by decide) hA.1 rfl q_139 rfl (by decide) (by decide) (by decide) (Nat.le_of_ble_eq_true rfl) (Nat.le_of_ble_eq_true rfl) dX8_init_6 (fun H hW hS => ?_)
  refine xk_put (v := .ref (b0 + (k + 1))) C hN hW hS (by decide) (by omega) rfl rfl inX8 tyX8 tyX8_ok nmX8 0 (by decide) q_211 rfl (fun _ => rfl) (ty := .array (.object "NetScript$Net")) (by decide +kernel) rfl rfl (Nat.le_of_ble_eq_true rfl) dX8_init_9 (fun H locs hW hS => ?_)
  refine lv_aload_n hx hb dX8_init_12 rfl (lv_at hl 0 rfl) ?_
  refine lv_iconst (v := 4) hx hb dX8_init_13 (by decide) ?_
  refine xk_newq (j := 2) (t0 := 5) (N := 4) C hW hS rfl (by decide) hA.2.1 rfl q_141 rfl (by decide) (by decide) (by decide) (Nat.le_of_ble_eq_true rfl) (Nat.le_of_ble_eq_true rfl) dX8_init_14 (fun H hW hS => ?_)
  refine xk_put (v := .ref (b0 + (k + 2))) C hN hW hS (by decide) (by omega) rfl rfl inX8 tyX8 tyX8_ok nmX8 1 (by decide) q_212 rfl (fun _ => rfl) (ty := .array (.object "NetScript$Editor")) (by decide +kernel) rfl rfl (Nat.le_of_ble_eq_true rfl) dX8_init_17 (fun H locs hW hS => ?_)
  refine lv_aload_n hx hb dX8_init_20 rfl (lv_at hl 0 rfl) ?_
  refine lv_bipush (v := 6) hx hb dX8_init_21 (by decide) ?_
  refine xk_newq (j := 3) (t0 := 6) (N := 6) C hW hS rfl (by decide) hA.2.2.1 rfl q_143 rfl (by decide) (by decide) (by decide) (Nat.le_of_ble_eq_true rfl) (Nat.le_of_ble_eq_true rfl) dX8_init_23 (fun H hW hS => ?_)
  refine xk_put (v := .ref (b0 + (k + 3))) C hN hW hS (by decide) (by omega) rfl rfl inX8 tyX8 tyX8_ok nmX8 2 (by decide) q_213 rfl (fun _ => rfl) (ty := .array (.object "NetScript$Note")) (by decide +kernel) rfl rfl (Nat.le_of_ble_eq_true rfl) dX8_init_26 (fun H locs hW hS => ?_)
  refine lv_aload_n hx hb dX8_init_29 rfl (lv_at hl 0 rfl) ?_
  refine lv_iconst (v := 0) hx hb dX8_init_30 (by decide) ?_
  refine xk_put (v := .int 0) C hN hW hS (by decide) (by omega) rfl rfl inX8 tyX8 tyX8_ok nmX8 3 (by decide) q_214 rfl (fun h => absurd h (by decide)) (ty := .int) (by decide +kernel) rfl rfl (Nat.le_of_ble_eq_true rfl) dX8_init_31 (fun H locs hW hS => ?_)
  refine lv_aload_n hx hb dX8_init_34 rfl (lv_at hl 0 rfl) ?_
  refine lv_iconst (v := 0) hx hb dX8_init_35 (by decide) ?_
  refine xk_put (v := .int 0) C hN hW hS (by decide) (by omega) rfl rfl inX8 tyX8 tyX8_ok nmX8 4 (by decide) q_216 rfl (fun h => absurd h (by decide)) (ty := .int) (by decide +kernel) rfl rfl (Nat.le_of_ble_eq_true rfl) dX8_init_36 (fun H locs hW hS => ?_)
  refine lv_aload_n hx hb dX8_init_39 rfl (lv_at hl 0 rfl) ?_
  refine lv_iconst (v := 0) hx hb dX8_init_40 (by decide) ?_
  refine xk_put (v := .int 0) C hN hW hS (by decide) (by omega) rfl rfl inX8 tyX8 tyX8_ok nmX8 5 (by decide) q_218 rfl (fun h => absurd h (by decide)) (ty := .int) (by decide +kernel) rfl rfl (Nat.le_of_ble_eq_true rfl) dX8_init_41 (fun H locs hW hS => ?_)
  refine lv_aload_n hx hb dX8_init_44 rfl (lv_at hl 0 rfl) ?_
  refine lv_iconst (v := 0) hx hb dX8_init_45 (by decide) ?_
  refine xk_put (v := .int 0) C hN hW hS (by decide) (by omega) rfl rfl inX8 tyX8 tyX8_ok nmX8 6 (by decide) q_220 rfl (fun h => absurd h (by decide)) (ty := .int) (by decide +kernel) rfl rfl (Nat.le_of_ble_eq_true rfl) dX8_init_46 (fun H locs hW hS => ?_)
  refine lv_aload_n hx hb dX8_init_49 rfl (lv_at hl 0 rfl) ?_
  refine lv_iconst (v := 0) hx hb dX8_init_50 (by decide) ?_
  refine xk_put (v := .int 0) C hN hW hS (by decide) (by omega) rfl rfl inX8 tyX8 tyX8_ok nmX8 7 (by decide) q_222 rfl (fun h => absurd h (by decide)) (ty := .int) (by decide +kernel) rfl rfl (Nat.le_of_ble_eq_true rfl) dX8_init_51 (fun H locs hW hS => ?_)
  refine lv_aload_n hx hb dX8_init_54 rfl (lv_at hl 0 rfl) ?_
  refine lv_iconst (v := 0) hx hb dX8_init_55 (by decide) ?_
  refine xk_put (v := .int 0) C hN hW hS (by decide) (by omega) rfl rfl inX8 tyX8 tyX8_ok nmX8 8 (by decide) q_224 rfl (fun h => absurd h (by decide)) (ty := .int) (by decide +kernel) rfl rfl (Nat.le_of_ble_eq_true rfl) dX8_init_56 (fun H locs hW hS => ?_)
  refine lv_iconst (v := 0) hx hb dX8_init_59 (by decide) ?_
  refine lv_istore_n (lv' := [(1, .int (nI 0)), (0, .ref (b0 + k))]) hx hb dX8_init_60 rfl hl (by decide) rfl (fun ls hl => ?_)
  exact K_61 3 0 rfl H locs ls (hW.cg (fun q _ => (ex_fx (fun j hj => by rcases j with _ | _ | _ | _ | j <;> first | rfl | omega) q))) hS (lv_sub hl [1, 0] rfl)
