theorem sc_in {xs : Nat → Int32} {L i : Nat} (hL : L ≤ 2560) {k : Nat} (h : i + k < L) : Sc xs L (nI i + nI k) (xs (i + k)) := by
  rw [nI_add]
  exact ⟨vp_in_nI h (by omega), congrArg xs (nI_clamp (by omega))⟩
theorem lp_lim {i L : Nat} (hi : i ≤ L) (hL : L ≤ 2560) : (Int32.ofNat L - 5 < nI i) ↔ ¬ i + 5 ≤ L := by
  have h1 : (Int32.ofNat L).toInt = (L : Int) := Int32.toInt_ofNat_of_lt (by omega)
  have h2 : (nI i).toInt = (i : Int) := Int32.toInt_ofNat_of_lt (by omega)
  have h3 : (Int32.ofNat L - 5).toInt = (L : Int) - 5 := by
    rw [Int32.toInt_sub, h1, show (5 : Int32).toInt = 5 from rfl]
    exact Int.bmod_eq_of_le (by omega) (by omega)
  rw [Int32.lt_iff_toInt_lt, h2, h3]
  omega
section LLP
variable {p : Program} {l : Launch} {e : Env} {s : State} {m : MethodId} {args : Array Value} {below : List Frame} {meth : Method} {c : Code} {Q : State → Prop}
variable {G : LG} {b0 : Nat} {ret0 : Option FieldType} {b L : Nat} {xs : Nat → Int32}
set_option maxHeartbeats 4000000 in
set_option maxRecDepth 100000 in
theorem law_loop (hfl : l.stackTraces = false) (C : Cx p l s m args meth c G b0 R_own cL_law 9 ret0) (hX : va_X b L xs s s.heap) (hbl : b < s.heap.size) (hbA : ¬ Ab b0 b) (hL : L ≤ 2560)
    (hend : ∀ (H1 : Heap) (locs1 : List Loc) (ls : Array Slot) (kc ks : Nat), kc ≤ 637904 → ks ≤ 7114808 → va_S (Ab b0) s.heap H1 locs1 → W p l e room_1 s m args below meth c H1 locs1 kc ks Q (F0 m 2373 ls [.int 1])) :
    ∀ (n : Nat) (i : Nat) (V V1 : St), f_loop xs L n V i = some V1 → i ≤ L → ∀ (kc ks : Nat), kc + (L - i) ≤ 637904 → ks + 6 * (L - i) ≤ 7114808 → ∀ (H : Heap) (locs : List Loc) (ls : Array Slot), Hd G b0 V H → va_S (Ab b0) s.heap H locs → lv_has ls 9 [(0, .ref b), (1, .ref (b0 + 0)), (2, .ref (b0 + 208)), (3, .ref (b0 + 216)), (4, .ref (b0 + 217)), (5, .int (nI i))] → W p l e room_1 s m args below meth c H locs kc ks Q (F0 m 28 ls []) := by
  obtain ⟨hx, hb, hrt, hml, hown, hts, hlocks, hK, hSv⟩ := id C
  intro n
  induction n with
  | zero =>
    intro i V V1 hr
    cases hr
  | succ n ih =>
    intro i V V1 hr hi kc ks hkc hks H locs ls hV hS hl
    refine lv_iload hx hb dL_law_28 (lv_at hl 5 rfl) ?_
    refine lv_aload_n hx hb dL_law_30 rfl (lv_at hl 0 rfl) ?_
    refine va_slen hx hb hX hbl hbA hS dL_law_31 ?_
    refine lv_iconst (v := 5) hx hb dL_law_32 (by decide) ?_
    refine lv_isub hx hb dL_law_33 ?_
    refine lv_icmp_gt (tgt := 2372) hx hb dL_law_34 (by decide) (fun c_10 => ?_) (fun c_10 => ?_)
    · refine lv_iconst (v := 1) hx hb dL_law_2372 (by decide) ?_
      exact hend H locs ls kc ks (by omega) (by omega) hS
    · have hlt : i + 5 ≤ L := Decidable.not_not.mp (fun q => c_10 ((lp_lim hi hL).mpr q))
      unfold f_loop at hr
      rw [if_pos hlt] at hr
      obtain ⟨V2, eS, hr⟩ := ob hr
      have hc : kc + 1 ≤ room_1.cells ∧ ks + 6 ≤ room_1.slots := ⟨show kc + 1 ≤ 637904 by omega, show ks + 6 ≤ 7114808 by omega⟩
      have h0 : Sc xs L (nI i) (xs i) := ⟨vp_in_nI (by omega) (by omega), congrArg xs (nI_clamp (by omega))⟩
      have h1 : Sc xs L (nI i + 1) (xs (i + 1)) := sc_in (k := 1) hL (by omega)
      have h2 : Sc xs L (nI i + 2) (xs (i + 2)) := sc_in (k := 2) hL (by omega)
      have h3 : Sc xs L (nI i + 3) (xs (i + 3)) := sc_in (k := 3) hL (by omega)
      have h4 : Sc xs L (nI i + 4) (xs (i + 4)) := sc_in (k := 4) hL (by omega)
      have tail : ∀ (H1 : Heap) (locs1 : List Loc) (ls : Array Slot), Hd G b0 V2 H1 → va_S (Ab b0) s.heap H1 locs1 → lv_has ls 9 [(0, .ref b), (1, .ref (b0 + 0)), (2, .ref (b0 + 208)), (3, .ref (b0 + 216)), (4, .ref (b0 + 217)), (5, .int (nI i))] → W p l e room_1 s m args below meth c H1 locs1 (kc + 1) (ks + 6) Q (F0 m 2366 ls []) := by
        intro H1 locs1 ls hV hS hl
        refine lv_iinc (v := nI (i + 5)) (lv' := [(5, .int (nI (i + 5))), (0, .ref b), (1, .ref (b0 + 0)), (2, .ref (b0 + 208)), (3, .ref (b0 + 216)), (4, .ref (b0 + 217))]) hx hb dL_law_2366 hl (k := 5) rfl (nI_add i 5) (by decide) rfl (fun ls hl => ?_)
        refine lv_goto (tgt := 28) hx hb dL_law_2369 (by decide) ?_
        exact ih (i + 5) V2 V1 hr hlt (kc + 1) (ks + 6) (by omega) (by omega) H1 locs1 ls hV hS (lv_sub hl [1, 2, 3, 4, 5, 0] rfl)
      refine lv_aload_n hx hb dL_law_37 rfl (lv_at hl 0 rfl) ?_
      refine lv_iload hx hb dL_law_38 (lv_at hl 5 rfl) ?_
      refine r_sld hx hb hX hbl hbA hS h0 dL_law_40 ?_
      refine lv_bipush (v := 63) hx hb dL_law_41 (by decide) ?_
      refine lv_iand hx hb dL_law_43 ?_
      unfold f_step at eS
      by_cases b_0 : xs i &&& 63 = 0
      · have eS := it b_0 eS
        refine lv_tableIn (off := 156) (tgt := 200) hx hb dL_law_44 (by rw [b_0]; decide) (by rw [b_0]; decide) (by rw [b_0]; decide +kernel) (by decide) ?_
        exact kc_0 hfl C hX hbl hbA hc hV hS hl h1 h2 h3 eS tail
      have eS := ie b_0 eS
      by_cases b_1 : xs i &&& 63 = 1
      · have eS := it b_1 eS
        refine lv_tableIn (off := 236) (tgt := 280) hx hb dL_law_44 (by rw [b_1]; decide) (by rw [b_1]; decide) (by rw [b_1]; decide +kernel) (by decide) ?_
        exact kc_1 hfl C hX hbl hbA hc hV hS hl h1 h2 h3 eS tail
      have eS := ie b_1 eS
      by_cases b_2 : xs i &&& 63 = 2
      · have eS := it b_2 eS
        refine lv_tableIn (off := 316) (tgt := 360) hx hb dL_law_44 (by rw [b_2]; decide) (by rw [b_2]; decide) (by rw [b_2]; decide +kernel) (by decide) ?_
        exact kc_2 hfl C hX hbl hbA hc hV hS hl h1 h2 h3 h4 eS tail
      have eS := ie b_2 eS
      by_cases b_3 : xs i &&& 63 = 3
      · have eS := it b_3 eS
        refine lv_tableIn (off := 408) (tgt := 452) hx hb dL_law_44 (by rw [b_3]; decide) (by rw [b_3]; decide) (by rw [b_3]; decide +kernel) (by decide) ?_
        exact kc_3 hfl C hX hbl hbA hc hV hS hl h1 eS tail
      have eS := ie b_3 eS
      by_cases b_4 : xs i &&& 63 = 4
      · have eS := it b_4 eS
        refine lv_tableIn (off := 464) (tgt := 508) hx hb dL_law_44 (by rw [b_4]; decide) (by rw [b_4]; decide) (by rw [b_4]; decide +kernel) (by decide) ?_
        exact kc_4 hfl C hX hbl hbA hc hV hS hl h1 eS tail
      have eS := ie b_4 eS
      by_cases b_5 : xs i &&& 63 = 5
      · have eS := it b_5 eS
        refine lv_tableIn (off := 520) (tgt := 564) hx hb dL_law_44 (by rw [b_5]; decide) (by rw [b_5]; decide) (by rw [b_5]; decide +kernel) (by decide) ?_
        exact kc_5 hfl C hX hbl hbA hc hV hS hl h1 h2 eS tail
      have eS := ie b_5 eS
      by_cases b_6 : xs i &&& 63 = 6
      · have eS := it b_6 eS
        refine lv_tableIn (off := 588) (tgt := 632) hx hb dL_law_44 (by rw [b_6]; decide) (by rw [b_6]; decide) (by rw [b_6]; decide +kernel) (by decide) ?_
        exact kc_6 hfl C hX hbl hbA hc hV hS hl h1 h2 eS tail
      have eS := ie b_6 eS
      by_cases b_7 : xs i &&& 63 = 7
      · have eS := it b_7 eS
        refine lv_tableIn (off := 656) (tgt := 700) hx hb dL_law_44 (by rw [b_7]; decide) (by rw [b_7]; decide) (by rw [b_7]; decide +kernel) (by decide) ?_
        exact kc_7 hfl C hX hbl hbA hc hV hS hl h1 eS tail
      have eS := ie b_7 eS
      by_cases b_8 : xs i &&& 63 = 8
      · have eS := it b_8 eS
        refine lv_tableIn (off := 712) (tgt := 756) hx hb dL_law_44 (by rw [b_8]; decide) (by rw [b_8]; decide) (by rw [b_8]; decide +kernel) (by decide) ?_
        exact kc_8 hfl C hX hbl hbA hc hV hS hl h1 h2 eS tail
      have eS := ie b_8 eS
      by_cases b_9 : xs i &&& 63 = 9
      · have eS := it b_9 eS
        refine lv_tableIn (off := 780) (tgt := 824) hx hb dL_law_44 (by rw [b_9]; decide) (by rw [b_9]; decide) (by rw [b_9]; decide +kernel) (by decide) ?_
        exact kc_9 hfl C hX hbl hbA hc hV hS hl h1 h2 h3 eS tail
      have eS := ie b_9 eS
      by_cases b_10 : xs i &&& 63 = 10
      · have eS := it b_10 eS
        refine lv_tableIn (off := 867) (tgt := 911) hx hb dL_law_44 (by rw [b_10]; decide) (by rw [b_10]; decide) (by rw [b_10]; decide +kernel) (by decide) ?_
        exact kc_10 hfl C hX hbl hbA hc hV hS hl h1 h2 eS tail
      have eS := ie b_10 eS
      by_cases b_11 : xs i &&& 63 = 11
      · have eS := it b_11 eS
        refine lv_tableIn (off := 935) (tgt := 979) hx hb dL_law_44 (by rw [b_11]; decide) (by rw [b_11]; decide) (by rw [b_11]; decide +kernel) (by decide) ?_
        exact kc_11 hfl C hX hbl hbA hc hV hS hl h1 eS tail
      have eS := ie b_11 eS
      by_cases b_12 : xs i &&& 63 = 12
      · have eS := it b_12 eS
        refine lv_tableIn (off := 991) (tgt := 1035) hx hb dL_law_44 (by rw [b_12]; decide) (by rw [b_12]; decide) (by rw [b_12]; decide +kernel) (by decide) ?_
        exact kc_12 hfl C hX hbl hbA hc hV hS hl h1 eS tail
      have eS := ie b_12 eS
      by_cases b_13 : xs i &&& 63 = 13
      · have eS := it b_13 eS
        refine lv_tableIn (off := 1047) (tgt := 1091) hx hb dL_law_44 (by rw [b_13]; decide) (by rw [b_13]; decide) (by rw [b_13]; decide +kernel) (by decide) ?_
        exact kc_13 hfl C hX hbl hbA hc hV hS hl h1 h2 h3 eS tail
      have eS := ie b_13 eS
      by_cases b_14 : xs i &&& 63 = 14
      · have eS := it b_14 eS
        refine lv_tableIn (off := 1127) (tgt := 1171) hx hb dL_law_44 (by rw [b_14]; decide) (by rw [b_14]; decide) (by rw [b_14]; decide +kernel) (by decide) ?_
        exact kc_14 hfl C hX hbl hbA hc hV hS hl h1 h2 eS tail
      have eS := ie b_14 eS
      by_cases b_15 : xs i &&& 63 = 15
      · have eS := it b_15 eS
        refine lv_tableIn (off := 1195) (tgt := 1239) hx hb dL_law_44 (by rw [b_15]; decide) (by rw [b_15]; decide) (by rw [b_15]; decide +kernel) (by decide) ?_
        exact kc_15 hfl C hX hbl hbA hc hV hS hl h1 eS tail
      have eS := ie b_15 eS
      by_cases b_16 : xs i &&& 63 = 16
      · have eS := it b_16 eS
        refine lv_tableIn (off := 1251) (tgt := 1295) hx hb dL_law_44 (by rw [b_16]; decide) (by rw [b_16]; decide) (by rw [b_16]; decide +kernel) (by decide) ?_
        exact kc_16 hfl C hX hbl hbA hc hV hS hl h1 eS tail
      have eS := ie b_16 eS
      by_cases b_17 : xs i &&& 63 = 17
      · have eS := it b_17 eS
        refine lv_tableIn (off := 1307) (tgt := 1351) hx hb dL_law_44 (by rw [b_17]; decide) (by rw [b_17]; decide) (by rw [b_17]; decide +kernel) (by decide) ?_
        exact kc_17 hfl C hX hbl hbA hc hV hS hl h1 h2 eS tail
      have eS := ie b_17 eS
      by_cases b_18 : xs i &&& 63 = 18
      · have eS := it b_18 eS
        refine lv_tableIn (off := 1391) (tgt := 1435) hx hb dL_law_44 (by rw [b_18]; decide) (by rw [b_18]; decide) (by rw [b_18]; decide +kernel) (by decide) ?_
        exact kc_18 hfl C hX hbl hbA hc hV hS hl h1 h2 eS tail
      have eS := ie b_18 eS
      by_cases b_19 : xs i &&& 63 = 19
      · have eS := it b_19 eS
        refine lv_tableIn (off := 1459) (tgt := 1503) hx hb dL_law_44 (by rw [b_19]; decide) (by rw [b_19]; decide) (by rw [b_19]; decide +kernel) (by decide) ?_
        exact kc_19 hfl C hX hbl hbA hc hV hS hl h1 h2 eS tail
      have eS := ie b_19 eS
      by_cases b_20 : xs i &&& 63 = 20
      · have eS := it b_20 eS
        refine lv_tableIn (off := 1527) (tgt := 1571) hx hb dL_law_44 (by rw [b_20]; decide) (by rw [b_20]; decide) (by rw [b_20]; decide +kernel) (by decide) ?_
        exact kc_20 hfl C hX hbl hbA hc hV hS hl h1 eS tail
      have eS := ie b_20 eS
      by_cases b_21 : xs i &&& 63 = 21
      · have eS := it b_21 eS
        refine lv_tableIn (off := 1585) (tgt := 1629) hx hb dL_law_44 (by rw [b_21]; decide) (by rw [b_21]; decide) (by rw [b_21]; decide +kernel) (by decide) ?_
        exact kc_21 hfl C hX hbl hbA hc hV hS hl eS tail
      have eS := ie b_21 eS
      by_cases b_22 : xs i &&& 63 = 22
      · have eS := it b_22 eS
        refine lv_tableIn (off := 1629) (tgt := 1673) hx hb dL_law_44 (by rw [b_22]; decide) (by rw [b_22]; decide) (by rw [b_22]; decide +kernel) (by decide) ?_
        exact kc_22 hfl C hX hbl hbA hc hV hS hl eS tail
      have eS := ie b_22 eS
      by_cases b_23 : xs i &&& 63 = 23
      · have eS := it b_23 eS
        refine lv_tableIn (off := 1673) (tgt := 1717) hx hb dL_law_44 (by rw [b_23]; decide) (by rw [b_23]; decide) (by rw [b_23]; decide +kernel) (by decide) ?_
        exact kc_23 hfl C hX hbl hbA hc hV hS hl h1 h2 eS tail
      have eS := ie b_23 eS
      by_cases b_24 : xs i &&& 63 = 24
      · have eS := it b_24 eS
        refine lv_tableIn (off := 1773) (tgt := 1817) hx hb dL_law_44 (by rw [b_24]; decide) (by rw [b_24]; decide) (by rw [b_24]; decide +kernel) (by decide) ?_
        exact kc_24 hfl C hX hbl hbA hc hV hS hl h1 h2 eS tail
      have eS := ie b_24 eS
      by_cases b_25 : xs i &&& 63 = 25
      · have eS := it b_25 eS
        refine lv_tableIn (off := 1841) (tgt := 1885) hx hb dL_law_44 (by rw [b_25]; decide) (by rw [b_25]; decide) (by rw [b_25]; decide +kernel) (by decide) ?_
        exact kc_25 hfl C hX hbl hbA hc hV hS hl h1 h2 eS tail
      have eS := ie b_25 eS
      by_cases b_26 : xs i &&& 63 = 26
      · have eS := it b_26 eS
        refine lv_tableIn (off := 1909) (tgt := 1953) hx hb dL_law_44 (by rw [b_26]; decide) (by rw [b_26]; decide) (by rw [b_26]; decide +kernel) (by decide) ?_
        exact kc_26 hfl C hX hbl hbA hc hV hS hl h1 eS tail
      have eS := ie b_26 eS
      by_cases b_27 : xs i &&& 63 = 27
      · have eS := it b_27 eS
        refine lv_tableIn (off := 1965) (tgt := 2009) hx hb dL_law_44 (by rw [b_27]; decide) (by rw [b_27]; decide) (by rw [b_27]; decide +kernel) (by decide) ?_
        exact kc_27 hfl C hX hbl hbA hc hV hS hl h1 eS tail
      have eS := ie b_27 eS
      by_cases b_28 : xs i &&& 63 = 28
      · have eS := it b_28 eS
        refine lv_tableIn (off := 2021) (tgt := 2065) hx hb dL_law_44 (by rw [b_28]; decide) (by rw [b_28]; decide) (by rw [b_28]; decide +kernel) (by decide) ?_
        exact kc_28 hfl C hX hbl hbA hc hV hS hl eS tail
      have eS := ie b_28 eS
      by_cases b_29 : xs i &&& 63 = 29
      · have eS := it b_29 eS
        refine lv_tableIn (off := 2086) (tgt := 2130) hx hb dL_law_44 (by rw [b_29]; decide) (by rw [b_29]; decide) (by rw [b_29]; decide +kernel) (by decide) ?_
        exact kc_29 hfl C hX hbl hbA hc hV hS hl eS tail
      have eS := ie b_29 eS
      by_cases b_30 : xs i &&& 63 = 30
      · have eS := it b_30 eS
        refine lv_tableIn (off := 2152) (tgt := 2196) hx hb dL_law_44 (by rw [b_30]; decide) (by rw [b_30]; decide) (by rw [b_30]; decide +kernel) (by decide) ?_
        exact kc_30 hfl C hX hbl hbA hc hV hS hl h1 eS tail
      have eS := ie b_30 eS
      by_cases b_31 : xs i &&& 63 = 31
      · have eS := it b_31 eS
        refine lv_tableIn (off := 2208) (tgt := 2252) hx hb dL_law_44 (by rw [b_31]; decide) (by rw [b_31]; decide) (by rw [b_31]; decide +kernel) (by decide) ?_
        exact kc_31 hfl C hX hbl hbA hc hV hS hl eS tail
      have eS := ie b_31 eS
      by_cases b_32 : xs i &&& 63 = 32
      · have eS := it b_32 eS
        refine lv_tableIn (off := 2221) (tgt := 2265) hx hb dL_law_44 (by rw [b_32]; decide) (by rw [b_32]; decide) (by rw [b_32]; decide +kernel) (by decide) ?_
        exact kc_32 hfl C hX hbl hbA hc hV hS hl eS tail
      have eS := ie b_32 eS
      by_cases b_33 : xs i &&& 63 = 33
      · have eS := it b_33 eS
        refine lv_tableIn (off := 2265) (tgt := 2309) hx hb dL_law_44 (by rw [b_33]; decide) (by rw [b_33]; decide) (by rw [b_33]; decide +kernel) (by decide) ?_
        exact kc_33 hfl C hX hbl hbA hc hV hS hl eS tail
      have eS := ie b_33 eS
      by_cases b_34 : xs i &&& 63 = 34
      · have eS := it b_34 eS
        refine lv_tableIn (off := 2278) (tgt := 2322) hx hb dL_law_44 (by rw [b_34]; decide) (by rw [b_34]; decide) (by rw [b_34]; decide +kernel) (by decide) ?_
        exact kc_34 hfl C hX hbl hbA hc hV hS hl eS tail
      have eS := ie b_34 eS
      have n_0 := lv_neT (a := 0) b_0 (by decide)
      have n_1 := lv_neT (a := 1) b_1 (by decide)
      have n_2 := lv_neT (a := 2) b_2 (by decide)
      have n_3 := lv_neT (a := 3) b_3 (by decide)
      have n_4 := lv_neT (a := 4) b_4 (by decide)
      have n_5 := lv_neT (a := 5) b_5 (by decide)
      have n_6 := lv_neT (a := 6) b_6 (by decide)
      have n_7 := lv_neT (a := 7) b_7 (by decide)
      have n_8 := lv_neT (a := 8) b_8 (by decide)
      have n_9 := lv_neT (a := 9) b_9 (by decide)
      have n_10 := lv_neT (a := 10) b_10 (by decide)
      have n_11 := lv_neT (a := 11) b_11 (by decide)
      have n_12 := lv_neT (a := 12) b_12 (by decide)
      have n_13 := lv_neT (a := 13) b_13 (by decide)
      have n_14 := lv_neT (a := 14) b_14 (by decide)
      have n_15 := lv_neT (a := 15) b_15 (by decide)
      have n_16 := lv_neT (a := 16) b_16 (by decide)
      have n_17 := lv_neT (a := 17) b_17 (by decide)
      have n_18 := lv_neT (a := 18) b_18 (by decide)
      have n_19 := lv_neT (a := 19) b_19 (by decide)
      have n_20 := lv_neT (a := 20) b_20 (by decide)
      have n_21 := lv_neT (a := 21) b_21 (by decide)
      have n_22 := lv_neT (a := 22) b_22 (by decide)
      have n_23 := lv_neT (a := 23) b_23 (by decide)
      have n_24 := lv_neT (a := 24) b_24 (by decide)
      have n_25 := lv_neT (a := 25) b_25 (by decide)
      have n_26 := lv_neT (a := 26) b_26 (by decide)
      have n_27 := lv_neT (a := 27) b_27 (by decide)
      have n_28 := lv_neT (a := 28) b_28 (by decide)
      have n_29 := lv_neT (a := 29) b_29 (by decide)
      have n_30 := lv_neT (a := 30) b_30 (by decide)
      have n_31 := lv_neT (a := 31) b_31 (by decide)
      have n_32 := lv_neT (a := 32) b_32 (by decide)
      have n_33 := lv_neT (a := 33) b_33 (by decide)
      have n_34 := lv_neT (a := 34) b_34 (by decide)
      refine lv_tableOut (tgt := 2366) hx hb dL_law_44 (by omega) (by decide) ?_
      obtain rfl := Option.some.inj eS
      refine W.widen (k := kc + 1) (n := ks + 6) (by omega) (by omega) ?_
      exact tail H locs ls hV hS hl
end LLP
