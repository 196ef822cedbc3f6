def R_own : String := "NetScriptLaw"
def bz (y : Int32) : Int32 := if y = 0 then 0 else 1
def fcm (x y : UInt32) : Int32 := Op.cmpValue (FP.fcmp x y) CmpOp.l
def Sc (xs : Nat → Int32) (L : Nat) (i y : Int32) : Prop := vp_in i L ∧ xs i.toNatClampNeg = y
section LS
variable {p : Program} {l : Launch} {e : Env} {R : Room} {s : State} {m : MethodId} {args : Array Value} {below : List Frame} {meth : Method} {c : Code} {H : Heap} {locs : List Loc} {cells slots : Nat} {Q : State → Prop}
variable {cc : ByteArray} {pc : Nat} {ls : Array Slot} {rest : List Value} {A : Nat → Prop} {H0 : Heap}
theorem r_sld (hexec : p.tables.exec = Jvm.exec) (hb : c.code = cc) {b L : Nat} {xs : Nat → Int32} (hX : va_X b L xs s H0) (hbl : b < H0.size) (hbA : ¬ A b) (hS : va_S A H0 H locs) {i y : Int32} (hin : Sc xs L i y) (hdg : decode cc pc = .ok (.iaload, 1))
    (kk : W p l e R s m args below meth c H locs cells slots Q (F0 m (pc + 1) ls (.int y :: rest))) : W p l e R s m args below meth c H locs cells slots Q (F0 m pc ls (.int i :: .ref b :: rest)) := by
  obtain ⟨h1, rfl⟩ := hin
  exact va_sld hexec hb hX hbl hbA hS h1 hdg kk
end LS
def k_0 (V : St) (y1 : Int32) (y2 : Int32) (y3 : Int32) : Option St :=
  (f_L_knot V y1 y2 y3).bind fun q1 =>
  (f_X10_knot q1.2 y1 y2 y3).bind fun q2 =>
  (f_X10_thrown q2.2).bind fun q3 =>
  if q3 = q1.1 then
    if q1.1 = 0 then
      if (lcm (q2.2 216 0) q2.1) = 0 then
        some q2.2
      else
        none
    else
      some q2.2
  else
    none
def k_1 (V : St) (y1 : Int32) (y2 : Int32) (y3 : Int32) : Option St :=
  (f_L_tear V y1 y2 y3).bind fun q1 =>
  (f_X10_tear q1.2 y1 y2 y3).bind fun q2 =>
  (f_X10_thrown q2.2).bind fun q3 =>
  if q3 = q1.1 then
    if q1.1 = 0 then
      if (lcm (q2.2 216 0) q2.1) = 0 then
        some q2.2
      else
        none
    else
      some q2.2
  else
    none
def k_2 (V : St) (y1 : Int32) (y2 : Int32) (y3 : Int32) (y4 : Int32) : Option St :=
  (f_L_mend V y1 y2 y3 y4).bind fun q1 =>
  (f_X10_mend q1.2 y1 y2 y3 y4).bind fun q2 =>
  (f_X10_thrown q2.2).bind fun q3 =>
  if q3 = q1.1 then
    if q1.1 = 0 then
      if (lcm (q2.2 216 0) q2.1) = 0 then
        some q2.2
      else
        none
    else
      some q2.2
  else
    none
def k_3 (V : St) (y1 : Int32) : Option St :=
  (f_L_editor V y1).bind fun q1 =>
  (f_X10_editor q1.2 y1).bind fun q2 =>
  (f_X10_thrown q2.2).bind fun q3 =>
  if q3 = q1.1 then
    if q1.1 = 0 then
      if (lcm (q2.2 216 0) q2.1) = 0 then
        some q2.2
      else
        none
    else
      some q2.2
  else
    none
def k_4 (V : St) (y1 : Int32) : Option St :=
  (f_L_tide V y1).bind fun q1 =>
  (f_X10_tide q1.2 y1).bind fun q2 =>
  (f_X10_thrown q2.2).bind fun q3 =>
  if q3 = q1.1 then
    if q1.1 = 0 then
      if (lcm (q2.2 216 0) q2.1) = 0 then
        some q2.2
      else
        none
    else
      some q2.2
  else
    none
def k_5 (V : St) (y1 : Int32) (y2 : Int32) : Option St :=
  (f_L_sink V y1 y2).bind fun q1 =>
  (f_X10_sink q1.2 y1 y2).bind fun q2 =>
  (f_X10_thrown q2.2).bind fun q3 =>
  if q3 = q1.1 then
    if q1.1 = 0 then
      if (lcm (q2.2 216 0) q2.1) = 0 then
        some q2.2
      else
        none
    else
      some q2.2
  else
    none
def k_6 (V : St) (y1 : Int32) (y2 : Int32) : Option St :=
  (f_L_note V y1 y2).bind fun q1 =>
  (f_X10_note q1.2 y1 y2).bind fun q2 =>
  (f_X10_thrown q2.2).bind fun q3 =>
  if q3 = q1.1 then
    if q1.1 = 0 then
      if (lcm (q2.2 216 0) q2.1) = 0 then
        some q2.2
      else
        none
    else
      some q2.2
  else
    none
def k_7 (V : St) (y1 : Int32) : Option St :=
  (f_L_drop V y1).bind fun q1 =>
  (f_X10_drop q1.2 y1).bind fun q2 =>
  (f_X10_thrown q2.2).bind fun q3 =>
  if q3 = q1.1 then
    if q1.1 = 0 then
      if (lcm (q2.2 216 0) q2.1) = 0 then
        some q2.2
      else
        none
    else
      some q2.2
  else
    none
def k_8 (V : St) (y1 : Int32) (y2 : Int32) : Option St :=
  (f_L_kindOf V y1 y2).bind fun q1 =>
  (f_X10_kindOf q1.2 y1 y2).bind fun q2 =>
  (f_X10_thrown q2.2).bind fun q3 =>
  if q3 = q1.1 then
    if q1.1 = 0 then
      if (lcm (q2.2 216 0) q2.1) = 0 then
        some q2.2
      else
        none
    else
      some q2.2
  else
    none
def k_9 (V : St) (y1 : Int32) (y2 : Int32) (y3 : Int32) : Option St :=
  (f_L_isTorn V y1 y2 y3).bind fun q1 =>
  (f_X10_isTorn q1.2 y1 y2 y3).bind fun q2 =>
  (f_X10_thrown q2.2).bind fun q3 =>
  if q3 = q1.1 then
    if q1.1 = 0 then
      if (lcm (q2.2 216 0) (bz q2.1)) = 0 then
        some q2.2
      else
        none
    else
      some q2.2
  else
    none
def k_10 (V : St) (y1 : Int32) (y2 : Int32) : Option St :=
  (f_L_netOf V y1 y2).bind fun q1 =>
  (f_X10_netOf q1.2 y1 y2).bind fun q2 =>
  (f_X10_thrown q2.2).bind fun q3 =>
  if q3 = q1.1 then
    if q1.1 = 0 then
      if (lcm (q2.2 216 0) q2.1) = 0 then
        some q2.2
      else
        none
    else
      some q2.2
  else
    none
def k_11 (V : St) (y1 : Int32) : Option St :=
  (f_L_chapters V y1).bind fun q1 =>
  (f_X10_chapters q1.2 y1).bind fun q2 =>
  (f_X10_thrown q2.2).bind fun q3 =>
  if q3 = q1.1 then
    if q1.1 = 0 then
      if (lcm (q2.2 216 0) q2.1) = 0 then
        some q2.2
      else
        none
    else
      some q2.2
  else
    none
def k_12 (V : St) (y1 : Int32) : Option St :=
  (f_L_chaptersAgain V y1).bind fun q1 =>
  (f_X10_chaptersAgain q1.2 y1).bind fun q2 =>
  (f_X10_thrown q2.2).bind fun q3 =>
  if q3 = q1.1 then
    if q1.1 = 0 then
      if (lcm (q2.2 216 0) q2.1) = 0 then
        some q2.2
      else
        none
    else
      some q2.2
  else
    none
def k_13 (V : St) (y1 : Int32) (y2 : Int32) (y3 : Int32) : Option St :=
  (f_L_chapterOf V y1 y2 y3).bind fun q1 =>
  (f_X10_chapterOf q1.2 y1 y2 y3).bind fun q2 =>
  (f_X10_thrown q2.2).bind fun q3 =>
  if q3 = q1.1 then
    if q1.1 = 0 then
      if (lcm (q2.2 216 0) q2.1) = 0 then
        some q2.2
      else
        none
    else
      some q2.2
  else
    none
def k_14 (V : St) (y1 : Int32) (y2 : Int32) : Option St :=
  (f_L_noteOf V y1 y2).bind fun q1 =>
  (f_X10_noteOf q1.2 y1 y2).bind fun q2 =>
  (f_X10_thrown q2.2).bind fun q3 =>
  if q3 = q1.1 then
    if q1.1 = 0 then
      if (lcm (q2.2 216 0) q2.1) = 0 then
        some q2.2
      else
        none
    else
      some q2.2
  else
    none
def k_15 (V : St) (y1 : Int32) : Option St :=
  (f_L_least V y1).bind fun q1 =>
  (f_X10_least q1.2 y1).bind fun q2 =>
  (f_X10_thrown q2.2).bind fun q3 =>
  if q3 = q1.1 then
    if q1.1 = 0 then
      if (lcm (q2.2 216 0) q2.1) = 0 then
        some q2.2
      else
        none
    else
      some q2.2
  else
    none
def k_16 (V : St) (y1 : Int32) : Option St :=
  (f_L_leastAgain V y1).bind fun q1 =>
  (f_X10_leastAgain q1.2 y1).bind fun q2 =>
  (f_X10_thrown q2.2).bind fun q3 =>
  if q3 = q1.1 then
    if q1.1 = 0 then
      if (lcm (q2.2 216 0) q2.1) = 0 then
        some q2.2
      else
        none
    else
      some q2.2
  else
    none
def k_17 (V : St) (y1 : Int32) (y2 : Int32) : Option St :=
  (f_L_bestMend V y1 (bz y2)).bind fun q1 =>
  (f_X10_bestMend q1.2 y1 (bz y2)).bind fun q2 =>
  (f_X10_thrown q2.2).bind fun q3 =>
  if q3 = q1.1 then
    if q1.1 = 0 then
      if (lcm (q2.2 216 0) q2.1) = 0 then
        some q2.2
      else
        none
    else
      some q2.2
  else
    none
def k_18 (V : St) (y1 : Int32) (y2 : Int32) : Option St :=
  (f_L_ranked V y1 y2).bind fun q1 =>
  (f_X10_ranked q1.2 y1 y2).bind fun q2 =>
  (f_X10_thrown q2.2).bind fun q3 =>
  if q3 = q1.1 then
    if q1.1 = 0 then
      if (lcm (q2.2 216 0) q2.1) = 0 then
        some q2.2
      else
        none
    else
      some q2.2
  else
    none
def k_19 (V : St) (y1 : Int32) (y2 : Int32) : Option St :=
  (f_L_editorOf V y1 y2).bind fun q1 =>
  (f_X10_editorOf q1.2 y1 y2).bind fun q2 =>
  (f_X10_thrown q2.2).bind fun q3 =>
  if q3 = q1.1 then
    if q1.1 = 0 then
      if (lcm (q2.2 216 0) q2.1) = 0 then
        some q2.2
      else
        none
    else
      some q2.2
  else
    none
def k_20 (V : St) (y1 : Int32) : Option St :=
  (f_L_feed V (i2c y1)).bind fun q1 =>
  (f_X10_feed q1.2 (i2c y1)).bind fun q2 =>
  (f_X10_thrown q2.2).bind fun q3 =>
  if q3 = q1.1 then
    if q1.1 = 0 then
      if (lcm (q2.2 216 0) q2.1) = 0 then
        some q2.2
      else
        none
    else
      some q2.2
  else
    none
def k_21 (V : St) : Option St :=
  (f_L_run V).bind fun q1 =>
  (f_X10_run q1.2).bind fun q2 =>
  (f_X10_thrown q2.2).bind fun q3 =>
  if q3 = q1.1 then
    if q1.1 = 0 then
      if (lcm (q2.2 216 0) q2.1) = 0 then
        some q2.2
      else
        none
    else
      some q2.2
  else
    none
def k_22 (V : St) : Option St :=
  (f_L_faultPosition V).bind fun q1 =>
  (f_X10_faultPosition q1.2).bind fun q2 =>
  (f_X10_thrown q2.2).bind fun q3 =>
  if q3 = q1.1 then
    if q1.1 = 0 then
      if (lcm (q2.2 216 0) q2.1) = 0 then
        some q2.2
      else
        none
    else
      some q2.2
  else
    none
def k_23 (V : St) (y1 : Int32) (y2 : Int32) : Option St :=
  (f_L_reason V (bz y1) (bz y2)).bind fun q1 =>
  (f_X10_reason q1.2 (bz y1) (bz y2)).bind fun q2 =>
  (f_X10_thrown q2.2).bind fun q3 =>
  if q3 = q1.1 then
    if q1.1 = 0 then
      if (lcm (q2.2 216 0) q2.1) = 0 then
        some q2.2
      else
        none
    else
      some q2.2
  else
    none
def k_24 (V : St) (y1 : Int32) (y2 : Int32) : Option St :=
  (f_L_line V y1 y2).bind fun q1 =>
  (f_X10_line q1.2 y1 y2).bind fun q2 =>
  (f_X10_thrown q2.2).bind fun q3 =>
  if q3 = q1.1 then
    if q1.1 = 0 then
      if (lcm (q2.2 216 0) q2.1) = 0 then
        some q2.2
      else
        none
    else
      some q2.2
  else
    none
def k_25 (V : St) (y1 : Int32) (y2 : Int32) : Option St :=
  (f_L_chapterLine V y1 y2).bind fun q1 =>
  (f_X10_chapterLine q1.2 y1 y2).bind fun q2 =>
  (f_X10_thrown q2.2).bind fun q3 =>
  if q3 = q1.1 then
    if q1.1 = 0 then
      if (lcm (q2.2 216 0) q2.1) = 0 then
        some q2.2
      else
        none
    else
      some q2.2
  else
    none
def k_26 (V : St) (y1 : Int32) : Option St :=
  (f_L_noteLine V y1).bind fun q1 =>
  (f_X10_noteLine q1.2 y1).bind fun q2 =>
  (f_X10_thrown q2.2).bind fun q3 =>
  if q3 = q1.1 then
    if q1.1 = 0 then
      if (lcm (q2.2 216 0) q2.1) = 0 then
        some q2.2
      else
        none
    else
      some q2.2
  else
    none
def k_27 (V : St) (y1 : Int32) : Option St :=
  (f_L_character V y1).bind fun q1 =>
  (f_X10_character q1.2 y1).bind fun q2 =>
  (f_X10_thrown q2.2).bind fun q3 =>
  if q3 = q1.1 then
    if q1.1 = 0 then
      if (lcm (q2.2 216 0) q2.1) = 0 then
        some q2.2
      else
        none
    else
      some q2.2
  else
    none
def k_28 (V : St) : Option St :=
  (f_L_meanKnots V).bind fun q1 =>
  (f_X10_meanKnots q1.2).bind fun q2 =>
  (f_X10_thrown q2.2).bind fun q3 =>
  if q3 = q1.1 then
    if q1.1 = 0 then
      if (dcm (dmk (q2.2 217 0) (q2.2 217 1)) q2.1) = 0 then
        some q2.2
      else
        if (dcm (dmk (q2.2 217 0) (q2.2 217 1)) (dmk (q2.2 217 0) (q2.2 217 1))) = 0 then
          none
        else
          if (dcm q2.1 q2.1) = 0 then
            none
          else
            some q2.2
    else
      some q2.2
  else
    none
def k_29 (V : St) : Option St :=
  (f_L_readShare V).bind fun q1 =>
  (f_X10_readShare q1.2).bind fun q2 =>
  (f_X10_thrown q2.2).bind fun q3 =>
  if q3 = q1.1 then
    if q1.1 = 0 then
      (fdv q2.1).bind fun q6 =>
      if (dcm (dmk (q2.2 217 0) (q2.2 217 1)) q6) = 0 then
        some q2.2
      else
        if (dcm (dmk (q2.2 217 0) (q2.2 217 1)) (dmk (q2.2 217 0) (q2.2 217 1))) = 0 then
          none
        else
          if (fcm q2.1 q2.1) = 0 then
            none
          else
            some q2.2
    else
      some q2.2
  else
    none
def k_30 (V : St) (y1 : Int32) : Option St :=
  (f_L_account V y1).bind fun q1 =>
  (f_X10_account q1.2 y1).bind fun q2 =>
  (f_X10_thrown q2.2).bind fun q3 =>
  if q3 = q1.1 then
    if q1.1 = 0 then
      if (lcm (q2.2 216 0) q2.1) = 0 then
        some q2.2
      else
        none
    else
      some q2.2
  else
    none
def k_31 (V : St) : Option St :=
  (f_X9_isBalanced V).bind fun q1 =>
  (f_X10_isBalanced q1.2).bind fun q2 =>
  if q1.1 = q2.1 then
    some q2.2
  else
    none
def k_32 (V : St) : Option St :=
  (f_L_undo V).bind fun q1 =>
  (f_X10_undo q1.2).bind fun q2 =>
  (f_X10_thrown q2.2).bind fun q3 =>
  if q3 = q1.1 then
    if q1.1 = 0 then
      if (lcm (q2.2 216 0) q2.1) = 0 then
        some q2.2
      else
        none
    else
      some q2.2
  else
    none
def k_33 (V : St) : Option St :=
  (f_X9_save V).bind fun q1 =>
  (f_X10_save q1.2).bind fun q2 =>
  if q1.1 = q2.1 then
    some q2.2
  else
    none
def k_34 (V : St) : Option St :=
  (f_L_restore V).bind fun q1 =>
  (f_X10_restore q1.2).bind fun q2 =>
  (f_X10_thrown q2.2).bind fun q3 =>
  if q3 = q1.1 then
    if q1.1 = 0 then
      if (lcm (q2.2 216 0) q2.1) = 0 then
        some q2.2
      else
        none
    else
      some q2.2
  else
    none
def f_step (V : St) (y0 y1 y2 y3 y4 : Int32) : Option St :=
  if y0 &&& 63 = 0 then k_0 V y1 y2 y3 else
  if y0 &&& 63 = 1 then k_1 V y1 y2 y3 else
  if y0 &&& 63 = 2 then k_2 V y1 y2 y3 y4 else
  if y0 &&& 63 = 3 then k_3 V y1 else
  if y0 &&& 63 = 4 then k_4 V y1 else
  if y0 &&& 63 = 5 then k_5 V y1 y2 else
  if y0 &&& 63 = 6 then k_6 V y1 y2 else
  if y0 &&& 63 = 7 then k_7 V y1 else
  if y0 &&& 63 = 8 then k_8 V y1 y2 else
  if y0 &&& 63 = 9 then k_9 V y1 y2 y3 else
  if y0 &&& 63 = 10 then k_10 V y1 y2 else
  if y0 &&& 63 = 11 then k_11 V y1 else
  if y0 &&& 63 = 12 then k_12 V y1 else
  if y0 &&& 63 = 13 then k_13 V y1 y2 y3 else
  if y0 &&& 63 = 14 then k_14 V y1 y2 else
  if y0 &&& 63 = 15 then k_15 V y1 else
  if y0 &&& 63 = 16 then k_16 V y1 else
  if y0 &&& 63 = 17 then k_17 V y1 y2 else
  if y0 &&& 63 = 18 then k_18 V y1 y2 else
  if y0 &&& 63 = 19 then k_19 V y1 y2 else
  if y0 &&& 63 = 20 then k_20 V y1 else
  if y0 &&& 63 = 21 then k_21 V else
  if y0 &&& 63 = 22 then k_22 V else
  if y0 &&& 63 = 23 then k_23 V y1 y2 else
  if y0 &&& 63 = 24 then k_24 V y1 y2 else
  if y0 &&& 63 = 25 then k_25 V y1 y2 else
  if y0 &&& 63 = 26 then k_26 V y1 else
  if y0 &&& 63 = 27 then k_27 V y1 else
  if y0 &&& 63 = 28 then k_28 V else
  if y0 &&& 63 = 29 then k_29 V else
  if y0 &&& 63 = 30 then k_30 V y1 else
  if y0 &&& 63 = 31 then k_31 V else
  if y0 &&& 63 = 32 then k_32 V else
  if y0 &&& 63 = 33 then k_33 V else
  if y0 &&& 63 = 34 then k_34 V else
  some V
def f_loop (xs : Nat → Int32) (L : Nat) : Nat → St → Nat → Option St
  | 0, _, _ => none
  | n + 1, V, i => if i + 5 ≤ L then (f_step V (xs i) (xs (i + 1)) (xs (i + 2)) (xs (i + 3)) (xs (i + 4))).bind fun V1 => f_loop xs L n V1 (i + 5) else some V
section LK
variable {p : Program} {l : Launch} {e : Env} {s : State} {m : MethodId} {args : Array Value} {below : List Frame} {meth : Method} {c : Code} {H : Heap} {locs : List Loc} {Q : State → Prop}
variable {ls : Array Slot} {G : LG} {b0 : Nat} {V : St} {ret0 : Option FieldType} {kc ks b L : Nat} {xs : Nat → Int32} {x5 : Int32}
set_option maxHeartbeats 4000000 in
set_option maxRecDepth 100000 in
theorem kc_0 (hfl : l.stackTraces = false) (C : Cx p l s m args meth c G b0 R_own cL_law 9 ret0) (hX : va_X b L xs s s.heap) (hbl : b < s.heap.size) (hbA : ¬ Ab b0 b) (hc : kc + 1 ≤ room_1.cells ∧ ks + 6 ≤ room_1.slots) (hV : Hd G b0 V H) (hS : va_S (Ab b0) s.heap H locs) (hl : lv_has ls 9 [(0, .ref b), (1, .ref (b0 + 0)), (2, .ref (b0 + 208)), (3, .ref (b0 + 216)), (4, .ref (b0 + 217)), (5, .int x5)]) {y1 : Int32} (h1 : Sc xs L (x5 + 1) y1) {y2 : Int32} (h2 : Sc xs L (x5 + 2) y2) {y3 : Int32} (h3 : Sc xs L (x5 + 3) y3) {V1 : St} (hr : k_0 V y1 y2 y3 = some V1)
    (kk : ∀ (H1 : Heap) (locs1 : List Loc) (ls : Array Slot), Hd G b0 V1 H1 → va_S (Ab b0) s.heap H1 locs1 → lv_has ls 9 [(0, .ref b), (1, .ref (b0 + 0)), (2, .ref (b0 + 208)), (3, .ref (b0 + 216)), (4, .ref (b0 + 217)), (5, .int x5)] → W p l e room_1 s m args below meth c H1 locs1 (kc + 1) (ks + 6) Q (F0 m 2366 ls [])) : W p l e room_1 s m args below meth c H locs kc ks Q (F0 m 200 ls []) := by
  obtain ⟨hx, hb, hrt, hml, hown, hts, hlocks, hK, hSv⟩ := id C
  unfold k_0 at hr
  refine lv_aload_n hx hb dL_law_200 rfl (lv_at hl 1 rfl) ?_
  refine lv_aload_n hx hb dL_law_201 rfl (lv_at hl 0 rfl) ?_
  refine lv_iload hx hb dL_law_202 (lv_at hl 5 rfl) ?_
  refine lv_iconst (v := 1) hx hb dL_law_204 (by decide) ?_
  refine lv_iadd hx hb dL_law_205 ?_
  refine r_sld hx hb hX hbl hbA hS h1 dL_law_206 ?_
  refine lv_aload_n hx hb dL_law_207 rfl (lv_at hl 0 rfl) ?_
  refine lv_iload hx hb dL_law_208 (lv_at hl 5 rfl) ?_
  refine lv_iconst (v := 2) hx hb dL_law_210 (by decide) ?_
  refine lv_iadd hx hb dL_law_211 ?_
  refine r_sld hx hb hX hbl hbA hS h2 dL_law_212 ?_
  refine lv_aload_n hx hb dL_law_213 rfl (lv_at hl 0 rfl) ?_
  refine lv_iload hx hb dL_law_214 (lv_at hl 5 rfl) ?_
  refine lv_iconst (v := 3) hx hb dL_law_216 (by decide) ?_
  refine lv_iadd hx hb dL_law_217 ?_
  refine r_sld hx hb hX hbl hbA hS h3 dL_law_218 ?_
  refine lv_aload_n hx hb dL_law_219 rfl (lv_at hl 3 rfl) ?_
  obtain ⟨q1, e1, hr⟩ := ob hr
  refine cal_h (run_H (As := [.ref (b0 + 0), .int y1, .int y2, .int y3, .ref (b0 + 216)]) (rest := []) C hV hS (c_L_knot l hfl G b0 V y1 y2 y3 q1 e1) q_567 q_568 q_140 q_569 dk_L_knot (by decide) hl.1 rfl (Nat.le_of_ble_eq_true rfl) dL_law_220 hc) hS (fun H locs hV hS => ?_)
  refine lv_istore (lv' := [(6, .int q1.1), (0, .ref b), (1, .ref (b0 + 0)), (2, .ref (b0 + 208)), (3, .ref (b0 + 216)), (4, .ref (b0 + 217)), (5, .int x5)]) hx hb dL_law_223 hl (by decide) rfl (fun ls hl => ?_)
  refine lv_aload_n hx hb dL_law_225 rfl (lv_at hl 3 rfl) ?_
  refine lv_aload_n hx hb dL_law_226 rfl (lv_at hl 1 rfl) ?_
  refine lv_iload hx hb dL_law_227 (lv_at hl 6 rfl) ?_
  refine lv_iconst (v := 1) hx hb dL_law_229 (by decide) ?_
  refine lv_iadd hx hb dL_law_230 ?_
  refine r_sld hx hb hX hbl hbA hS h1 dL_law_231 ?_
  refine lv_aload_n hx hb dL_law_232 rfl (lv_at hl 1 rfl) ?_
  refine lv_iload hx hb dL_law_233 (lv_at hl 6 rfl) ?_
  refine lv_iconst (v := 2) hx hb dL_law_235 (by decide) ?_
  refine lv_iadd hx hb dL_law_236 ?_
  refine r_sld hx hb hX hbl hbA hS h2 dL_law_237 ?_
  refine lv_aload_n hx hb dL_law_238 rfl (lv_at hl 1 rfl) ?_
  refine lv_iload hx hb dL_law_239 (lv_at hl 6 rfl) ?_
  refine lv_iconst (v := 3) hx hb dL_law_241 (by decide) ?_
  refine lv_iadd hx hb dL_law_242 ?_
  refine r_sld hx hb hX hbl hbA hS h3 dL_law_243 ?_
  obtain ⟨q2, e2, hr⟩ := ob hr
  refine cal_i (run_V (As := [.int y1, .int y2, .int y3]) (rest := []) C hV hS (c_X10_knot l G b0 q1.2 y1 y2 y3 q2 e2) (rcv hK hV (kd_lt z_208 (by decide)) (cel_20 z_208) rfl) q_1474 q_1475 q_1476 q_151 q_1477 dk_X10_knot (by decide) hl.1 rfl (Nat.le_of_ble_eq_true rfl) dL_law_244 hc) hS (fun H locs hV hS => ?_)
  refine lv_istore (lv' := [(7, .int q2.1), (6, .int q1.1), (0, .ref b), (1, .ref (b0 + 0)), (2, .ref (b0 + 208)), (3, .ref (b0 + 216)), (4, .ref (b0 + 217)), (5, .int x5)]) hx hb dL_law_247 hl (by decide) rfl (fun ls hl => ?_)
  refine lv_aload_n hx hb dL_law_249 rfl (lv_at hl 4 rfl) ?_
  obtain ⟨q3, e3, hr⟩ := ob hr
  refine cal_i (run_V (As := []) (rest := []) C hV hS (c_X10_thrown l G b0 q2.2 q3 e3) (rcv hK hV (kd_lt z_208 (by decide)) (cel_20 z_208) rfl) q_1470 q_1471 q_1472 q_151 q_1473 dk_X10_thrown (by decide) hl.1 rfl (Nat.le_of_ble_eq_true rfl) dL_law_250 hc) hS (fun H locs hV hS => ?_)
  refine lv_iload hx hb dL_law_253 (lv_at hl 1 rfl) ?_
  refine lv_icmp_eq (tgt := 260) hx hb dL_law_255 (by decide) (fun b_4 => ?_) (fun b_4 => ?_)
  · have hr := it b_4 hr
    refine lv_iload hx hb dL_law_260 (lv_at hl 1 rfl) ?_
    refine lv_if_ne (tgt := 277) hx hb dL_law_262 (by decide) (fun b_5 => ?_) (fun b_5 => ?_)
    · have hr := ie b_5 hr
      refine lv_goto (tgt := 2366) hx hb dL_law_277 (by decide) ?_
      obtain rfl := Option.some.inj hr
      exact kk _ _ ls hV hS (lv_sub hl [2, 3, 4, 5, 6, 7] rfl)
    · have hr := it b_5 hr
      refine lv_aload_n hx hb dL_law_265 rfl (lv_at hl 5 rfl) ?_
      refine lv_iconst (v := 0) hx hb dL_law_266 (by decide) ?_
      refine a_28 C hV dL_law_267 ?_
      refine lv_iload hx hb dL_law_268 (lv_at hl 0 rfl) ?_
      refine lv_i2l (v := (q2.1).toInt64) hx hb dL_law_270 rfl ?_
      refine r_lcmp (x := q2.2 216 0) (y := q2.1) hx hb dL_law_271 ?_
      refine lv_if_eq (tgt := 277) hx hb dL_law_272 (by decide) (fun b_6 => ?_) (fun b_6 => ?_)
      · have hr := it b_6 hr
        refine lv_goto (tgt := 2366) hx hb dL_law_277 (by decide) ?_
        obtain rfl := Option.some.inj hr
        exact kk _ _ ls hV hS (lv_sub hl [2, 3, 4, 5, 6, 7] rfl)
      · have hr := ie b_6 hr
        cases hr
  · have hr := ie b_4 hr
    cases hr
set_option maxHeartbeats 4000000 in
set_option maxRecDepth 100000 in
theorem kc_1 (hfl : l.stackTraces = false) (C : Cx p l s m args meth c G b0 R_own cL_law 9 ret0) (hX : va_X b L xs s s.heap) (hbl : b < s.heap.size) (hbA : ¬ Ab b0 b) (hc : kc + 1 ≤ room_1.cells ∧ ks + 6 ≤ room_1.slots) (hV : Hd G b0 V H) (hS : va_S (Ab b0) s.heap H locs) (hl : lv_has ls 9 [(0, .ref b), (1, .ref (b0 + 0)), (2, .ref (b0 + 208)), (3, .ref (b0 + 216)), (4, .ref (b0 + 217)), (5, .int x5)]) {y1 : Int32} (h1 : Sc xs L (x5 + 1) y1) {y2 : Int32} (h2 : Sc xs L (x5 + 2) y2) {y3 : Int32} (h3 : Sc xs L (x5 + 3) y3) {V1 : St} (hr : k_1 V y1 y2 y3 = some V1)
    (kk : ∀ (H1 : Heap) (locs1 : List Loc) (ls : Array Slot), Hd G b0 V1 H1 → va_S (Ab b0) s.heap H1 locs1 → lv_has ls 9 [(0, .ref b), (1, .ref (b0 + 0)), (2, .ref (b0 + 208)), (3, .ref (b0 + 216)), (4, .ref (b0 + 217)), (5, .int x5)] → W p l e room_1 s m args below meth c H1 locs1 (kc + 1) (ks + 6) Q (F0 m 2366 ls [])) : W p l e room_1 s m args below meth c H locs kc ks Q (F0 m 280 ls []) := by
  obtain ⟨hx, hb, hrt, hml, hown, hts, hlocks, hK, hSv⟩ := id C
  unfold k_1 at hr
  refine lv_aload_n hx hb dL_law_280 rfl (lv_at hl 1 rfl) ?_
  refine lv_aload_n hx hb dL_law_281 rfl (lv_at hl 0 rfl) ?_
  refine lv_iload hx hb dL_law_282 (lv_at hl 5 rfl) ?_
  refine lv_iconst (v := 1) hx hb dL_law_284 (by decide) ?_
  refine lv_iadd hx hb dL_law_285 ?_
  refine r_sld hx hb hX hbl hbA hS h1 dL_law_286 ?_
  refine lv_aload_n hx hb dL_law_287 rfl (lv_at hl 0 rfl) ?_
  refine lv_iload hx hb dL_law_288 (lv_at hl 5 rfl) ?_
  refine lv_iconst (v := 2) hx hb dL_law_290 (by decide) ?_
  refine lv_iadd hx hb dL_law_291 ?_
  refine r_sld hx hb hX hbl hbA hS h2 dL_law_292 ?_
  refine lv_aload_n hx hb dL_law_293 rfl (lv_at hl 0 rfl) ?_
  refine lv_iload hx hb dL_law_294 (lv_at hl 5 rfl) ?_
  refine lv_iconst (v := 3) hx hb dL_law_296 (by decide) ?_
  refine lv_iadd hx hb dL_law_297 ?_
  refine r_sld hx hb hX hbl hbA hS h3 dL_law_298 ?_
  refine lv_aload_n hx hb dL_law_299 rfl (lv_at hl 3 rfl) ?_
  obtain ⟨q1, e1, hr⟩ := ob hr
  refine cal_h (run_H (As := [.ref (b0 + 0), .int y1, .int y2, .int y3, .ref (b0 + 216)]) (rest := []) C hV hS (c_L_tear l hfl G b0 V y1 y2 y3 q1 e1) q_686 q_687 q_140 q_688 dk_L_tear (by decide) hl.1 rfl (Nat.le_of_ble_eq_true rfl) dL_law_300 hc) hS (fun H locs hV hS => ?_)
  refine lv_istore (lv' := [(6, .int q1.1), (0, .ref b), (1, .ref (b0 + 0)), (2, .ref (b0 + 208)), (3, .ref (b0 + 216)), (4, .ref (b0 + 217)), (5, .int x5)]) hx hb dL_law_303 hl (by decide) rfl (fun ls hl => ?_)
  refine lv_aload_n hx hb dL_law_305 rfl (lv_at hl 3 rfl) ?_
  refine lv_aload_n hx hb dL_law_306 rfl (lv_at hl 1 rfl) ?_
  refine lv_iload hx hb dL_law_307 (lv_at hl 6 rfl) ?_
  refine lv_iconst (v := 1) hx hb dL_law_309 (by decide) ?_
  refine lv_iadd hx hb dL_law_310 ?_
  refine r_sld hx hb hX hbl hbA hS h1 dL_law_311 ?_
  refine lv_aload_n hx hb dL_law_312 rfl (lv_at hl 1 rfl) ?_
  refine lv_iload hx hb dL_law_313 (lv_at hl 6 rfl) ?_
  refine lv_iconst (v := 2) hx hb dL_law_315 (by decide) ?_
  refine lv_iadd hx hb dL_law_316 ?_
  refine r_sld hx hb hX hbl hbA hS h2 dL_law_317 ?_
  refine lv_aload_n hx hb dL_law_318 rfl (lv_at hl 1 rfl) ?_
  refine lv_iload hx hb dL_law_319 (lv_at hl 6 rfl) ?_
  refine lv_iconst (v := 3) hx hb dL_law_321 (by decide) ?_
  refine lv_iadd hx hb dL_law_322 ?_
  refine r_sld hx hb hX hbl hbA hS h3 dL_law_323 ?_
  obtain ⟨q2, e2, hr⟩ := ob hr
  refine cal_i (run_V (As := [.int y1, .int y2, .int y3]) (rest := []) C hV hS (c_X10_tear l G b0 q1.2 y1 y2 y3 q2 e2) (rcv hK hV (kd_lt z_208 (by decide)) (cel_20 z_208) rfl) q_1527 q_1528 q_1529 q_151 q_1530 dk_X10_tear (by decide) hl.1 rfl (Nat.le_of_ble_eq_true rfl) dL_law_324 hc) hS (fun H locs hV hS => ?_)
  refine lv_istore (lv' := [(7, .int q2.1), (6, .int q1.1), (0, .ref b), (1, .ref (b0 + 0)), (2, .ref (b0 + 208)), (3, .ref (b0 + 216)), (4, .ref (b0 + 217)), (5, .int x5)]) hx hb dL_law_327 hl (by decide) rfl (fun ls hl => ?_)
  refine lv_aload_n hx hb dL_law_329 rfl (lv_at hl 4 rfl) ?_
  obtain ⟨q3, e3, hr⟩ := ob hr
  refine cal_i (run_V (As := []) (rest := []) C hV hS (c_X10_thrown l G b0 q2.2 q3 e3) (rcv hK hV (kd_lt z_208 (by decide)) (cel_20 z_208) rfl) q_1470 q_1471 q_1472 q_151 q_1473 dk_X10_thrown (by decide) hl.1 rfl (Nat.le_of_ble_eq_true rfl) dL_law_330 hc) hS (fun H locs hV hS => ?_)
  refine lv_iload hx hb dL_law_333 (lv_at hl 1 rfl) ?_
  refine lv_icmp_eq (tgt := 340) hx hb dL_law_335 (by decide) (fun b_4 => ?_) (fun b_4 => ?_)
  · have hr := it b_4 hr
    refine lv_iload hx hb dL_law_340 (lv_at hl 1 rfl) ?_
    refine lv_if_ne (tgt := 357) hx hb dL_law_342 (by decide) (fun b_5 => ?_) (fun b_5 => ?_)
    · have hr := ie b_5 hr
      refine lv_goto (tgt := 2366) hx hb dL_law_357 (by decide) ?_
      obtain rfl := Option.some.inj hr
      exact kk _ _ ls hV hS (lv_sub hl [2, 3, 4, 5, 6, 7] rfl)
    · have hr := it b_5 hr
      refine lv_aload_n hx hb dL_law_345 rfl (lv_at hl 5 rfl) ?_
      refine lv_iconst (v := 0) hx hb dL_law_346 (by decide) ?_
      refine a_28 C hV dL_law_347 ?_
      refine lv_iload hx hb dL_law_348 (lv_at hl 0 rfl) ?_
      refine lv_i2l (v := (q2.1).toInt64) hx hb dL_law_350 rfl ?_
      refine r_lcmp (x := q2.2 216 0) (y := q2.1) hx hb dL_law_351 ?_
      refine lv_if_eq (tgt := 357) hx hb dL_law_352 (by decide) (fun b_6 => ?_) (fun b_6 => ?_)
      · have hr := it b_6 hr
        refine lv_goto (tgt := 2366) hx hb dL_law_357 (by decide) ?_
        obtain rfl := Option.some.inj hr
        exact kk _ _ ls hV hS (lv_sub hl [2, 3, 4, 5, 6, 7] rfl)
      · have hr := ie b_6 hr
        cases hr
  · have hr := ie b_4 hr
    cases hr
set_option maxHeartbeats 4000000 in
set_option maxRecDepth 100000 in
theorem kc_2 (hfl : l.stackTraces = false) (C : Cx p l s m args meth c G b0 R_own cL_law 9 ret0) (hX : va_X b L xs s s.heap) (hbl : b < s.heap.size) (hbA : ¬ Ab b0 b) (hc : kc + 1 ≤ room_1.cells ∧ ks + 6 ≤ room_1.slots) (hV : Hd G b0 V H) (hS : va_S (Ab b0) s.heap H locs) (hl : lv_has ls 9 [(0, .ref b), (1, .ref (b0 + 0)), (2, .ref (b0 + 208)), (3, .ref (b0 + 216)), (4, .ref (b0 + 217)), (5, .int x5)]) {y1 : Int32} (h1 : Sc xs L (x5 + 1) y1) {y2 : Int32} (h2 : Sc xs L (x5 + 2) y2) {y3 : Int32} (h3 : Sc xs L (x5 + 3) y3) {y4 : Int32} (h4 : Sc xs L (x5 + 4) y4) {V1 : St} (hr : k_2 V y1 y2 y3 y4 = some V1)
    (kk : ∀ (H1 : Heap) (locs1 : List Loc) (ls : Array Slot), Hd G b0 V1 H1 → va_S (Ab b0) s.heap H1 locs1 → lv_has ls 9 [(0, .ref b), (1, .ref (b0 + 0)), (2, .ref (b0 + 208)), (3, .ref (b0 + 216)), (4, .ref (b0 + 217)), (5, .int x5)] → W p l e room_1 s m args below meth c H1 locs1 (kc + 1) (ks + 6) Q (F0 m 2366 ls [])) : W p l e room_1 s m args below meth c H locs kc ks Q (F0 m 360 ls []) := by
  obtain ⟨hx, hb, hrt, hml, hown, hts, hlocks, hK, hSv⟩ := id C
  unfold k_2 at hr
  refine lv_aload_n hx hb dL_law_360 rfl (lv_at hl 1 rfl) ?_
  refine lv_aload_n hx hb dL_law_361 rfl (lv_at hl 0 rfl) ?_
  refine lv_iload hx hb dL_law_362 (lv_at hl 5 rfl) ?_
  refine lv_iconst (v := 1) hx hb dL_law_364 (by decide) ?_
  refine lv_iadd hx hb dL_law_365 ?_
  refine r_sld hx hb hX hbl hbA hS h1 dL_law_366 ?_
  refine lv_aload_n hx hb dL_law_367 rfl (lv_at hl 0 rfl) ?_
  refine lv_iload hx hb dL_law_368 (lv_at hl 5 rfl) ?_
  refine lv_iconst (v := 2) hx hb dL_law_370 (by decide) ?_
  refine lv_iadd hx hb dL_law_371 ?_
  refine r_sld hx hb hX hbl hbA hS h2 dL_law_372 ?_
  refine lv_aload_n hx hb dL_law_373 rfl (lv_at hl 0 rfl) ?_
  refine lv_iload hx hb dL_law_374 (lv_at hl 5 rfl) ?_
  refine lv_iconst (v := 3) hx hb dL_law_376 (by decide) ?_
  refine lv_iadd hx hb dL_law_377 ?_
  refine r_sld hx hb hX hbl hbA hS h3 dL_law_378 ?_
  refine lv_aload_n hx hb dL_law_379 rfl (lv_at hl 0 rfl) ?_
  refine lv_iload hx hb dL_law_380 (lv_at hl 5 rfl) ?_
  refine lv_iconst (v := 4) hx hb dL_law_382 (by decide) ?_
  refine lv_iadd hx hb dL_law_383 ?_
  refine r_sld hx hb hX hbl hbA hS h4 dL_law_384 ?_
  refine lv_aload_n hx hb dL_law_385 rfl (lv_at hl 3 rfl) ?_
  obtain ⟨q1, e1, hr⟩ := ob hr
  refine cal_h (run_H (As := [.ref (b0 + 0), .int y1, .int y2, .int y3, .int y4, .ref (b0 + 216)]) (rest := []) C hV hS (c_L_mend l hfl G b0 V y1 y2 y3 y4 q1 e1) q_734 q_735 q_140 q_736 dk_L_mend (by decide) hl.1 rfl (Nat.le_of_ble_eq_true rfl) dL_law_386 hc) hS (fun H locs hV hS => ?_)
  refine lv_istore (lv' := [(6, .int q1.1), (0, .ref b), (1, .ref (b0 + 0)), (2, .ref (b0 + 208)), (3, .ref (b0 + 216)), (4, .ref (b0 + 217)), (5, .int x5)]) hx hb dL_law_389 hl (by decide) rfl (fun ls hl => ?_)
  refine lv_aload_n hx hb dL_law_391 rfl (lv_at hl 3 rfl) ?_
  refine lv_aload_n hx hb dL_law_392 rfl (lv_at hl 1 rfl) ?_
  refine lv_iload hx hb dL_law_393 (lv_at hl 6 rfl) ?_
  refine lv_iconst (v := 1) hx hb dL_law_395 (by decide) ?_
  refine lv_iadd hx hb dL_law_396 ?_
  refine r_sld hx hb hX hbl hbA hS h1 dL_law_397 ?_
  refine lv_aload_n hx hb dL_law_398 rfl (lv_at hl 1 rfl) ?_
  refine lv_iload hx hb dL_law_399 (lv_at hl 6 rfl) ?_
  refine lv_iconst (v := 2) hx hb dL_law_401 (by decide) ?_
  refine lv_iadd hx hb dL_law_402 ?_
  refine r_sld hx hb hX hbl hbA hS h2 dL_law_403 ?_
  refine lv_aload_n hx hb dL_law_404 rfl (lv_at hl 1 rfl) ?_
  refine lv_iload hx hb dL_law_405 (lv_at hl 6 rfl) ?_
  refine lv_iconst (v := 3) hx hb dL_law_407 (by decide) ?_
  refine lv_iadd hx hb dL_law_408 ?_
  refine r_sld hx hb hX hbl hbA hS h3 dL_law_409 ?_
  refine lv_aload_n hx hb dL_law_410 rfl (lv_at hl 1 rfl) ?_
  refine lv_iload hx hb dL_law_411 (lv_at hl 6 rfl) ?_
  refine lv_iconst (v := 4) hx hb dL_law_413 (by decide) ?_
  refine lv_iadd hx hb dL_law_414 ?_
  refine r_sld hx hb hX hbl hbA hS h4 dL_law_415 ?_
  obtain ⟨q2, e2, hr⟩ := ob hr
  refine cal_i (run_V (As := [.int y1, .int y2, .int y3, .int y4]) (rest := []) C hV hS (c_X10_mend l G b0 q1.2 y1 y2 y3 y4 q2 e2) (rcv hK hV (kd_lt z_208 (by decide)) (cel_20 z_208) rfl) q_1559 q_1560 q_1561 q_151 q_1562 dk_X10_mend (by decide) hl.1 rfl (Nat.le_of_ble_eq_true rfl) dL_law_416 hc) hS (fun H locs hV hS => ?_)
  refine lv_istore (lv' := [(7, .int q2.1), (6, .int q1.1), (0, .ref b), (1, .ref (b0 + 0)), (2, .ref (b0 + 208)), (3, .ref (b0 + 216)), (4, .ref (b0 + 217)), (5, .int x5)]) hx hb dL_law_419 hl (by decide) rfl (fun ls hl => ?_)
  refine lv_aload_n hx hb dL_law_421 rfl (lv_at hl 4 rfl) ?_
  obtain ⟨q3, e3, hr⟩ := ob hr
  refine cal_i (run_V (As := []) (rest := []) C hV hS (c_X10_thrown l G b0 q2.2 q3 e3) (rcv hK hV (kd_lt z_208 (by decide)) (cel_20 z_208) rfl) q_1470 q_1471 q_1472 q_151 q_1473 dk_X10_thrown (by decide) hl.1 rfl (Nat.le_of_ble_eq_true rfl) dL_law_422 hc) hS (fun H locs hV hS => ?_)
  refine lv_iload hx hb dL_law_425 (lv_at hl 1 rfl) ?_
  refine lv_icmp_eq (tgt := 432) hx hb dL_law_427 (by decide) (fun b_4 => ?_) (fun b_4 => ?_)
  · have hr := it b_4 hr
    refine lv_iload hx hb dL_law_432 (lv_at hl 1 rfl) ?_
    refine lv_if_ne (tgt := 449) hx hb dL_law_434 (by decide) (fun b_5 => ?_) (fun b_5 => ?_)
    · have hr := ie b_5 hr
      refine lv_goto (tgt := 2366) hx hb dL_law_449 (by decide) ?_
      obtain rfl := Option.some.inj hr
      exact kk _ _ ls hV hS (lv_sub hl [2, 3, 4, 5, 6, 7] rfl)
    · have hr := it b_5 hr
      refine lv_aload_n hx hb dL_law_437 rfl (lv_at hl 5 rfl) ?_
      refine lv_iconst (v := 0) hx hb dL_law_438 (by decide) ?_
      refine a_28 C hV dL_law_439 ?_
      refine lv_iload hx hb dL_law_440 (lv_at hl 0 rfl) ?_
      refine lv_i2l (v := (q2.1).toInt64) hx hb dL_law_442 rfl ?_
      refine r_lcmp (x := q2.2 216 0) (y := q2.1) hx hb dL_law_443 ?_
      refine lv_if_eq (tgt := 449) hx hb dL_law_444 (by decide) (fun b_6 => ?_) (fun b_6 => ?_)
      · have hr := it b_6 hr
        refine lv_goto (tgt := 2366) hx hb dL_law_449 (by decide) ?_
        obtain rfl := Option.some.inj hr
        exact kk _ _ ls hV hS (lv_sub hl [2, 3, 4, 5, 6, 7] rfl)
      · have hr := ie b_6 hr
        cases hr
  · have hr := ie b_4 hr
    cases hr
set_option maxHeartbeats 4000000 in
set_option maxRecDepth 100000 in
theorem kc_3 (hfl : l.stackTraces = false) (C : Cx p l s m args meth c G b0 R_own cL_law 9 ret0) (hX : va_X b L xs s s.heap) (hbl : b < s.heap.size) (hbA : ¬ Ab b0 b) (hc : kc + 1 ≤ room_1.cells ∧ ks + 6 ≤ room_1.slots) (hV : Hd G b0 V H) (hS : va_S (Ab b0) s.heap H locs) (hl : lv_has ls 9 [(0, .ref b), (1, .ref (b0 + 0)), (2, .ref (b0 + 208)), (3, .ref (b0 + 216)), (4, .ref (b0 + 217)), (5, .int x5)]) {y1 : Int32} (h1 : Sc xs L (x5 + 1) y1) {V1 : St} (hr : k_3 V y1 = some V1)
    (kk : ∀ (H1 : Heap) (locs1 : List Loc) (ls : Array Slot), Hd G b0 V1 H1 → va_S (Ab b0) s.heap H1 locs1 → lv_has ls 9 [(0, .ref b), (1, .ref (b0 + 0)), (2, .ref (b0 + 208)), (3, .ref (b0 + 216)), (4, .ref (b0 + 217)), (5, .int x5)] → W p l e room_1 s m args below meth c H1 locs1 (kc + 1) (ks + 6) Q (F0 m 2366 ls [])) : W p l e room_1 s m args below meth c H locs kc ks Q (F0 m 452 ls []) := by
  obtain ⟨hx, hb, hrt, hml, hown, hts, hlocks, hK, hSv⟩ := id C
  unfold k_3 at hr
  refine lv_aload_n hx hb dL_law_452 rfl (lv_at hl 1 rfl) ?_
  refine lv_aload_n hx hb dL_law_453 rfl (lv_at hl 0 rfl) ?_
  refine lv_iload hx hb dL_law_454 (lv_at hl 5 rfl) ?_
  refine lv_iconst (v := 1) hx hb dL_law_456 (by decide) ?_
  refine lv_iadd hx hb dL_law_457 ?_
  refine r_sld hx hb hX hbl hbA hS h1 dL_law_458 ?_
  refine lv_aload_n hx hb dL_law_459 rfl (lv_at hl 3 rfl) ?_
  obtain ⟨q1, e1, hr⟩ := ob hr
  refine cal_h (run_H (As := [.ref (b0 + 0), .int y1, .ref (b0 + 216)]) (rest := []) C hV hS (c_L_editor l hfl G b0 V y1 q1 e1) q_764 q_765 q_140 q_766 dk_L_editor (by decide) hl.1 rfl (Nat.le_of_ble_eq_true rfl) dL_law_460 hc) hS (fun H locs hV hS => ?_)
  refine lv_istore (lv' := [(6, .int q1.1), (0, .ref b), (1, .ref (b0 + 0)), (2, .ref (b0 + 208)), (3, .ref (b0 + 216)), (4, .ref (b0 + 217)), (5, .int x5)]) hx hb dL_law_463 hl (by decide) rfl (fun ls hl => ?_)
  refine lv_aload_n hx hb dL_law_465 rfl (lv_at hl 3 rfl) ?_
  refine lv_aload_n hx hb dL_law_466 rfl (lv_at hl 1 rfl) ?_
  refine lv_iload hx hb dL_law_467 (lv_at hl 6 rfl) ?_
  refine lv_iconst (v := 1) hx hb dL_law_469 (by decide) ?_
  refine lv_iadd hx hb dL_law_470 ?_
  refine r_sld hx hb hX hbl hbA hS h1 dL_law_471 ?_
  obtain ⟨q2, e2, hr⟩ := ob hr
  refine cal_i (run_V (As := [.int y1]) (rest := []) C hV hS (c_X10_editor l G b0 q1.2 y1 q2 e2) (rcv hK hV (kd_lt z_208 (by decide)) (cel_20 z_208) rfl) q_1567 q_1568 q_1569 q_151 q_1570 dk_X10_editor (by decide) hl.1 rfl (Nat.le_of_ble_eq_true rfl) dL_law_472 hc) hS (fun H locs hV hS => ?_)
  refine lv_istore (lv' := [(7, .int q2.1), (6, .int q1.1), (0, .ref b), (1, .ref (b0 + 0)), (2, .ref (b0 + 208)), (3, .ref (b0 + 216)), (4, .ref (b0 + 217)), (5, .int x5)]) hx hb dL_law_475 hl (by decide) rfl (fun ls hl => ?_)
  refine lv_aload_n hx hb dL_law_477 rfl (lv_at hl 4 rfl) ?_
  obtain ⟨q3, e3, hr⟩ := ob hr
  refine cal_i (run_V (As := []) (rest := []) C hV hS (c_X10_thrown l G b0 q2.2 q3 e3) (rcv hK hV (kd_lt z_208 (by decide)) (cel_20 z_208) rfl) q_1470 q_1471 q_1472 q_151 q_1473 dk_X10_thrown (by decide) hl.1 rfl (Nat.le_of_ble_eq_true rfl) dL_law_478 hc) hS (fun H locs hV hS => ?_)
  refine lv_iload hx hb dL_law_481 (lv_at hl 1 rfl) ?_
  refine lv_icmp_eq (tgt := 488) hx hb dL_law_483 (by decide) (fun b_4 => ?_) (fun b_4 => ?_)
  · have hr := it b_4 hr
    refine lv_iload hx hb dL_law_488 (lv_at hl 1 rfl) ?_
    refine lv_if_ne (tgt := 505) hx hb dL_law_490 (by decide) (fun b_5 => ?_) (fun b_5 => ?_)
    · have hr := ie b_5 hr
      refine lv_goto (tgt := 2366) hx hb dL_law_505 (by decide) ?_
      obtain rfl := Option.some.inj hr
      exact kk _ _ ls hV hS (lv_sub hl [2, 3, 4, 5, 6, 7] rfl)
    · have hr := it b_5 hr
      refine lv_aload_n hx hb dL_law_493 rfl (lv_at hl 5 rfl) ?_
      refine lv_iconst (v := 0) hx hb dL_law_494 (by decide) ?_
      refine a_28 C hV dL_law_495 ?_
      refine lv_iload hx hb dL_law_496 (lv_at hl 0 rfl) ?_
      refine lv_i2l (v := (q2.1).toInt64) hx hb dL_law_498 rfl ?_
      refine r_lcmp (x := q2.2 216 0) (y := q2.1) hx hb dL_law_499 ?_
      refine lv_if_eq (tgt := 505) hx hb dL_law_500 (by decide) (fun b_6 => ?_) (fun b_6 => ?_)
      · have hr := it b_6 hr
        refine lv_goto (tgt := 2366) hx hb dL_law_505 (by decide) ?_
        obtain rfl := Option.some.inj hr
        exact kk _ _ ls hV hS (lv_sub hl [2, 3, 4, 5, 6, 7] rfl)
      · have hr := ie b_6 hr
        cases hr
  · have hr := ie b_4 hr
    cases hr
set_option maxHeartbeats 4000000 in
set_option maxRecDepth 100000 in
theorem kc_4 (hfl : l.stackTraces = false) (C : Cx p l s m args meth c G b0 R_own cL_law 9 ret0) (hX : va_X b L xs s s.heap) (hbl : b < s.heap.size) (hbA : ¬ Ab b0 b) (hc : kc + 1 ≤ room_1.cells ∧ ks + 6 ≤ room_1.slots) (hV : Hd G b0 V H) (hS : va_S (Ab b0) s.heap H locs) (hl : lv_has ls 9 [(0, .ref b), (1, .ref (b0 + 0)), (2, .ref (b0 + 208)), (3, .ref (b0 + 216)), (4, .ref (b0 + 217)), (5, .int x5)]) {y1 : Int32} (h1 : Sc xs L (x5 + 1) y1) {V1 : St} (hr : k_4 V y1 = some V1)
    (kk : ∀ (H1 : Heap) (locs1 : List Loc) (ls : Array Slot), Hd G b0 V1 H1 → va_S (Ab b0) s.heap H1 locs1 → lv_has ls 9 [(0, .ref b), (1, .ref (b0 + 0)), (2, .ref (b0 + 208)), (3, .ref (b0 + 216)), (4, .ref (b0 + 217)), (5, .int x5)] → W p l e room_1 s m args below meth c H1 locs1 (kc + 1) (ks + 6) Q (F0 m 2366 ls [])) : W p l e room_1 s m args below meth c H locs kc ks Q (F0 m 508 ls []) := by
  obtain ⟨hx, hb, hrt, hml, hown, hts, hlocks, hK, hSv⟩ := id C
  unfold k_4 at hr
  refine lv_aload_n hx hb dL_law_508 rfl (lv_at hl 1 rfl) ?_
  refine lv_aload_n hx hb dL_law_509 rfl (lv_at hl 0 rfl) ?_
  refine lv_iload hx hb dL_law_510 (lv_at hl 5 rfl) ?_
  refine lv_iconst (v := 1) hx hb dL_law_512 (by decide) ?_
  refine lv_iadd hx hb dL_law_513 ?_
  refine r_sld hx hb hX hbl hbA hS h1 dL_law_514 ?_
  refine lv_aload_n hx hb dL_law_515 rfl (lv_at hl 3 rfl) ?_
  obtain ⟨q1, e1, hr⟩ := ob hr
  refine cal_h (run_H (As := [.ref (b0 + 0), .int y1, .ref (b0 + 216)]) (rest := []) C hV hS (c_L_tide l hfl G b0 V y1 q1 e1) q_780 q_781 q_140 q_782 dk_L_tide (by decide) hl.1 rfl (Nat.le_of_ble_eq_true rfl) dL_law_516 hc) hS (fun H locs hV hS => ?_)
  refine lv_istore (lv' := [(6, .int q1.1), (0, .ref b), (1, .ref (b0 + 0)), (2, .ref (b0 + 208)), (3, .ref (b0 + 216)), (4, .ref (b0 + 217)), (5, .int x5)]) hx hb dL_law_519 hl (by decide) rfl (fun ls hl => ?_)
  refine lv_aload_n hx hb dL_law_521 rfl (lv_at hl 3 rfl) ?_
  refine lv_aload_n hx hb dL_law_522 rfl (lv_at hl 1 rfl) ?_
  refine lv_iload hx hb dL_law_523 (lv_at hl 6 rfl) ?_
  refine lv_iconst (v := 1) hx hb dL_law_525 (by decide) ?_
  refine lv_iadd hx hb dL_law_526 ?_
  refine r_sld hx hb hX hbl hbA hS h1 dL_law_527 ?_
  obtain ⟨q2, e2, hr⟩ := ob hr
  refine cal_i (run_V (As := [.int y1]) (rest := []) C hV hS (c_X10_tide l G b0 q1.2 y1 q2 e2) (rcv hK hV (kd_lt z_208 (by decide)) (cel_20 z_208) rfl) q_1575 q_1576 q_1577 q_151 q_1578 dk_X10_tide (by decide) hl.1 rfl (Nat.le_of_ble_eq_true rfl) dL_law_528 hc) hS (fun H locs hV hS => ?_)
  refine lv_istore (lv' := [(7, .int q2.1), (6, .int q1.1), (0, .ref b), (1, .ref (b0 + 0)), (2, .ref (b0 + 208)), (3, .ref (b0 + 216)), (4, .ref (b0 + 217)), (5, .int x5)]) hx hb dL_law_531 hl (by decide) rfl (fun ls hl => ?_)
  refine lv_aload_n hx hb dL_law_533 rfl (lv_at hl 4 rfl) ?_
  obtain ⟨q3, e3, hr⟩ := ob hr
  refine cal_i (run_V (As := []) (rest := []) C hV hS (c_X10_thrown l G b0 q2.2 q3 e3) (rcv hK hV (kd_lt z_208 (by decide)) (cel_20 z_208) rfl) q_1470 q_1471 q_1472 q_151 q_1473 dk_X10_thrown (by decide) hl.1 rfl (Nat.le_of_ble_eq_true rfl) dL_law_534 hc) hS (fun H locs hV hS => ?_)
  refine lv_iload hx hb dL_law_537 (lv_at hl 1 rfl) ?_
  refine lv_icmp_eq (tgt := 544) hx hb dL_law_539 (by decide) (fun b_4 => ?_) (fun b_4 => ?_)
  · have hr := it b_4 hr
    refine lv_iload hx hb dL_law_544 (lv_at hl 1 rfl) ?_
    refine lv_if_ne (tgt := 561) hx hb dL_law_546 (by decide) (fun b_5 => ?_) (fun b_5 => ?_)
    · have hr := ie b_5 hr
      refine lv_goto (tgt := 2366) hx hb dL_law_561 (by decide) ?_
      obtain rfl := Option.some.inj hr
      exact kk _ _ ls hV hS (lv_sub hl [2, 3, 4, 5, 6, 7] rfl)
    · have hr := it b_5 hr
      refine lv_aload_n hx hb dL_law_549 rfl (lv_at hl 5 rfl) ?_
      refine lv_iconst (v := 0) hx hb dL_law_550 (by decide) ?_
      refine a_28 C hV dL_law_551 ?_
      refine lv_iload hx hb dL_law_552 (lv_at hl 0 rfl) ?_
      refine lv_i2l (v := (q2.1).toInt64) hx hb dL_law_554 rfl ?_
      refine r_lcmp (x := q2.2 216 0) (y := q2.1) hx hb dL_law_555 ?_
      refine lv_if_eq (tgt := 561) hx hb dL_law_556 (by decide) (fun b_6 => ?_) (fun b_6 => ?_)
      · have hr := it b_6 hr
        refine lv_goto (tgt := 2366) hx hb dL_law_561 (by decide) ?_
        obtain rfl := Option.some.inj hr
        exact kk _ _ ls hV hS (lv_sub hl [2, 3, 4, 5, 6, 7] rfl)
      · have hr := ie b_6 hr
        cases hr
  · have hr := ie b_4 hr
    cases hr
set_option maxHeartbeats 4000000 in
set_option maxRecDepth 100000 in
theorem kc_5 (hfl : l.stackTraces = false) (C : Cx p l s m args meth c G b0 R_own cL_law 9 ret0) (hX : va_X b L xs s s.heap) (hbl : b < s.heap.size) (hbA : ¬ Ab b0 b) (hc : kc + 1 ≤ room_1.cells ∧ ks + 6 ≤ room_1.slots) (hV : Hd G b0 V H) (hS : va_S (Ab b0) s.heap H locs) (hl : lv_has ls 9 [(0, .ref b), (1, .ref (b0 + 0)), (2, .ref (b0 + 208)), (3, .ref (b0 + 216)), (4, .ref (b0 + 217)), (5, .int x5)]) {y1 : Int32} (h1 : Sc xs L (x5 + 1) y1) {y2 : Int32} (h2 : Sc xs L (x5 + 2) y2) {V1 : St} (hr : k_5 V y1 y2 = some V1)
    (kk : ∀ (H1 : Heap) (locs1 : List Loc) (ls : Array Slot), Hd G b0 V1 H1 → va_S (Ab b0) s.heap H1 locs1 → lv_has ls 9 [(0, .ref b), (1, .ref (b0 + 0)), (2, .ref (b0 + 208)), (3, .ref (b0 + 216)), (4, .ref (b0 + 217)), (5, .int x5)] → W p l e room_1 s m args below meth c H1 locs1 (kc + 1) (ks + 6) Q (F0 m 2366 ls [])) : W p l e room_1 s m args below meth c H locs kc ks Q (F0 m 564 ls []) := by
  obtain ⟨hx, hb, hrt, hml, hown, hts, hlocks, hK, hSv⟩ := id C
  unfold k_5 at hr
  refine lv_aload_n hx hb dL_law_564 rfl (lv_at hl 1 rfl) ?_
  refine lv_aload_n hx hb dL_law_565 rfl (lv_at hl 0 rfl) ?_
  refine lv_iload hx hb dL_law_566 (lv_at hl 5 rfl) ?_
  refine lv_iconst (v := 1) hx hb dL_law_568 (by decide) ?_
  refine lv_iadd hx hb dL_law_569 ?_
  refine r_sld hx hb hX hbl hbA hS h1 dL_law_570 ?_
  refine lv_aload_n hx hb dL_law_571 rfl (lv_at hl 0 rfl) ?_
  refine lv_iload hx hb dL_law_572 (lv_at hl 5 rfl) ?_
  refine lv_iconst (v := 2) hx hb dL_law_574 (by decide) ?_
  refine lv_iadd hx hb dL_law_575 ?_
  refine r_sld hx hb hX hbl hbA hS h2 dL_law_576 ?_
  refine lv_aload_n hx hb dL_law_577 rfl (lv_at hl 3 rfl) ?_
  obtain ⟨q1, e1, hr⟩ := ob hr
  refine cal_h (run_H (As := [.ref (b0 + 0), .int y1, .int y2, .ref (b0 + 216)]) (rest := []) C hV hS (c_L_sink l hfl G b0 V y1 y2 q1 e1) q_807 q_808 q_140 q_809 dk_L_sink (by decide) hl.1 rfl (Nat.le_of_ble_eq_true rfl) dL_law_578 hc) hS (fun H locs hV hS => ?_)
  refine lv_istore (lv' := [(6, .int q1.1), (0, .ref b), (1, .ref (b0 + 0)), (2, .ref (b0 + 208)), (3, .ref (b0 + 216)), (4, .ref (b0 + 217)), (5, .int x5)]) hx hb dL_law_581 hl (by decide) rfl (fun ls hl => ?_)
  refine lv_aload_n hx hb dL_law_583 rfl (lv_at hl 3 rfl) ?_
  refine lv_aload_n hx hb dL_law_584 rfl (lv_at hl 1 rfl) ?_
  refine lv_iload hx hb dL_law_585 (lv_at hl 6 rfl) ?_
  refine lv_iconst (v := 1) hx hb dL_law_587 (by decide) ?_
  refine lv_iadd hx hb dL_law_588 ?_
  refine r_sld hx hb hX hbl hbA hS h1 dL_law_589 ?_
  refine lv_aload_n hx hb dL_law_590 rfl (lv_at hl 1 rfl) ?_
  refine lv_iload hx hb dL_law_591 (lv_at hl 6 rfl) ?_
  refine lv_iconst (v := 2) hx hb dL_law_593 (by decide) ?_
  refine lv_iadd hx hb dL_law_594 ?_
  refine r_sld hx hb hX hbl hbA hS h2 dL_law_595 ?_
  obtain ⟨q2, e2, hr⟩ := ob hr
  refine cal_i (run_V (As := [.int y1, .int y2]) (rest := []) C hV hS (c_X10_sink l G b0 q1.2 y1 y2 q2 e2) (rcv hK hV (kd_lt z_208 (by decide)) (cel_20 z_208) rfl) q_1598 q_1599 q_1600 q_151 q_1601 dk_X10_sink (by decide) hl.1 rfl (Nat.le_of_ble_eq_true rfl) dL_law_596 hc) hS (fun H locs hV hS => ?_)
  refine lv_istore (lv' := [(7, .int q2.1), (6, .int q1.1), (0, .ref b), (1, .ref (b0 + 0)), (2, .ref (b0 + 208)), (3, .ref (b0 + 216)), (4, .ref (b0 + 217)), (5, .int x5)]) hx hb dL_law_599 hl (by decide) rfl (fun ls hl => ?_)
  refine lv_aload_n hx hb dL_law_601 rfl (lv_at hl 4 rfl) ?_
  obtain ⟨q3, e3, hr⟩ := ob hr
  refine cal_i (run_V (As := []) (rest := []) C hV hS (c_X10_thrown l G b0 q2.2 q3 e3) (rcv hK hV (kd_lt z_208 (by decide)) (cel_20 z_208) rfl) q_1470 q_1471 q_1472 q_151 q_1473 dk_X10_thrown (by decide) hl.1 rfl (Nat.le_of_ble_eq_true rfl) dL_law_602 hc) hS (fun H locs hV hS => ?_)
  refine lv_iload hx hb dL_law_605 (lv_at hl 1 rfl) ?_
  refine lv_icmp_eq (tgt := 612) hx hb dL_law_607 (by decide) (fun b_4 => ?_) (fun b_4 => ?_)
  · have hr := it b_4 hr
    refine lv_iload hx hb dL_law_612 (lv_at hl 1 rfl) ?_
    refine lv_if_ne (tgt := 629) hx hb dL_law_614 (by decide) (fun b_5 => ?_) (fun b_5 => ?_)
    · have hr := ie b_5 hr
      refine lv_goto (tgt := 2366) hx hb dL_law_629 (by decide) ?_
      obtain rfl := Option.some.inj hr
      exact kk _ _ ls hV hS (lv_sub hl [2, 3, 4, 5, 6, 7] rfl)
    · have hr := it b_5 hr
      refine lv_aload_n hx hb dL_law_617 rfl (lv_at hl 5 rfl) ?_
      refine lv_iconst (v := 0) hx hb dL_law_618 (by decide) ?_
      refine a_28 C hV dL_law_619 ?_
      refine lv_iload hx hb dL_law_620 (lv_at hl 0 rfl) ?_
      refine lv_i2l (v := (q2.1).toInt64) hx hb dL_law_622 rfl ?_
      refine r_lcmp (x := q2.2 216 0) (y := q2.1) hx hb dL_law_623 ?_
      refine lv_if_eq (tgt := 629) hx hb dL_law_624 (by decide) (fun b_6 => ?_) (fun b_6 => ?_)
      · have hr := it b_6 hr
        refine lv_goto (tgt := 2366) hx hb dL_law_629 (by decide) ?_
        obtain rfl := Option.some.inj hr
        exact kk _ _ ls hV hS (lv_sub hl [2, 3, 4, 5, 6, 7] rfl)
      · have hr := ie b_6 hr
        cases hr
  · have hr := ie b_4 hr
    cases hr
set_option maxHeartbeats 4000000 in
set_option maxRecDepth 100000 in
theorem kc_6 (hfl : l.stackTraces = false) (C : Cx p l s m args meth c G b0 R_own cL_law 9 ret0) (hX : va_X b L xs s s.heap) (hbl : b < s.heap.size) (hbA : ¬ Ab b0 b) (hc : kc + 1 ≤ room_1.cells ∧ ks + 6 ≤ room_1.slots) (hV : Hd G b0 V H) (hS : va_S (Ab b0) s.heap H locs) (hl : lv_has ls 9 [(0, .ref b), (1, .ref (b0 + 0)), (2, .ref (b0 + 208)), (3, .ref (b0 + 216)), (4, .ref (b0 + 217)), (5, .int x5)]) {y1 : Int32} (h1 : Sc xs L (x5 + 1) y1) {y2 : Int32} (h2 : Sc xs L (x5 + 2) y2) {V1 : St} (hr : k_6 V y1 y2 = some V1)
    (kk : ∀ (H1 : Heap) (locs1 : List Loc) (ls : Array Slot), Hd G b0 V1 H1 → va_S (Ab b0) s.heap H1 locs1 → lv_has ls 9 [(0, .ref b), (1, .ref (b0 + 0)), (2, .ref (b0 + 208)), (3, .ref (b0 + 216)), (4, .ref (b0 + 217)), (5, .int x5)] → W p l e room_1 s m args below meth c H1 locs1 (kc + 1) (ks + 6) Q (F0 m 2366 ls [])) : W p l e room_1 s m args below meth c H locs kc ks Q (F0 m 632 ls []) := by
  obtain ⟨hx, hb, hrt, hml, hown, hts, hlocks, hK, hSv⟩ := id C
  unfold k_6 at hr
  refine lv_aload_n hx hb dL_law_632 rfl (lv_at hl 1 rfl) ?_
  refine lv_aload_n hx hb dL_law_633 rfl (lv_at hl 0 rfl) ?_
  refine lv_iload hx hb dL_law_634 (lv_at hl 5 rfl) ?_
  refine lv_iconst (v := 1) hx hb dL_law_636 (by decide) ?_
  refine lv_iadd hx hb dL_law_637 ?_
  refine r_sld hx hb hX hbl hbA hS h1 dL_law_638 ?_
  refine lv_aload_n hx hb dL_law_639 rfl (lv_at hl 0 rfl) ?_
  refine lv_iload hx hb dL_law_640 (lv_at hl 5 rfl) ?_
  refine lv_iconst (v := 2) hx hb dL_law_642 (by decide) ?_
  refine lv_iadd hx hb dL_law_643 ?_
  refine r_sld hx hb hX hbl hbA hS h2 dL_law_644 ?_
  refine lv_aload_n hx hb dL_law_645 rfl (lv_at hl 3 rfl) ?_
  obtain ⟨q1, e1, hr⟩ := ob hr
  refine cal_h (run_H (As := [.ref (b0 + 0), .int y1, .int y2, .ref (b0 + 216)]) (rest := []) C hV hS (c_L_note l hfl G b0 V y1 y2 q1 e1) q_820 q_821 q_140 q_822 dk_L_note (by decide) hl.1 rfl (Nat.le_of_ble_eq_true rfl) dL_law_646 hc) hS (fun H locs hV hS => ?_)
  refine lv_istore (lv' := [(6, .int q1.1), (0, .ref b), (1, .ref (b0 + 0)), (2, .ref (b0 + 208)), (3, .ref (b0 + 216)), (4, .ref (b0 + 217)), (5, .int x5)]) hx hb dL_law_649 hl (by decide) rfl (fun ls hl => ?_)
  refine lv_aload_n hx hb dL_law_651 rfl (lv_at hl 3 rfl) ?_
  refine lv_aload_n hx hb dL_law_652 rfl (lv_at hl 1 rfl) ?_
  refine lv_iload hx hb dL_law_653 (lv_at hl 6 rfl) ?_
  refine lv_iconst (v := 1) hx hb dL_law_655 (by decide) ?_
  refine lv_iadd hx hb dL_law_656 ?_
  refine r_sld hx hb hX hbl hbA hS h1 dL_law_657 ?_
  refine lv_aload_n hx hb dL_law_658 rfl (lv_at hl 1 rfl) ?_
  refine lv_iload hx hb dL_law_659 (lv_at hl 6 rfl) ?_
  refine lv_iconst (v := 2) hx hb dL_law_661 (by decide) ?_
  refine lv_iadd hx hb dL_law_662 ?_
  refine r_sld hx hb hX hbl hbA hS h2 dL_law_663 ?_
  obtain ⟨q2, e2, hr⟩ := ob hr
  refine cal_i (run_V (As := [.int y1, .int y2]) (rest := []) C hV hS (c_X10_note l G b0 q1.2 y1 y2 q2 e2) (rcv hK hV (kd_lt z_208 (by decide)) (cel_20 z_208) rfl) q_1606 q_1607 q_1608 q_151 q_1609 dk_X10_note (by decide) hl.1 rfl (Nat.le_of_ble_eq_true rfl) dL_law_664 hc) hS (fun H locs hV hS => ?_)
  refine lv_istore (lv' := [(7, .int q2.1), (6, .int q1.1), (0, .ref b), (1, .ref (b0 + 0)), (2, .ref (b0 + 208)), (3, .ref (b0 + 216)), (4, .ref (b0 + 217)), (5, .int x5)]) hx hb dL_law_667 hl (by decide) rfl (fun ls hl => ?_)
  refine lv_aload_n hx hb dL_law_669 rfl (lv_at hl 4 rfl) ?_
  obtain ⟨q3, e3, hr⟩ := ob hr
  refine cal_i (run_V (As := []) (rest := []) C hV hS (c_X10_thrown l G b0 q2.2 q3 e3) (rcv hK hV (kd_lt z_208 (by decide)) (cel_20 z_208) rfl) q_1470 q_1471 q_1472 q_151 q_1473 dk_X10_thrown (by decide) hl.1 rfl (Nat.le_of_ble_eq_true rfl) dL_law_670 hc) hS (fun H locs hV hS => ?_)
  refine lv_iload hx hb dL_law_673 (lv_at hl 1 rfl) ?_
  refine lv_icmp_eq (tgt := 680) hx hb dL_law_675 (by decide) (fun b_4 => ?_) (fun b_4 => ?_)
  · have hr := it b_4 hr
    refine lv_iload hx hb dL_law_680 (lv_at hl 1 rfl) ?_
    refine lv_if_ne (tgt := 697) hx hb dL_law_682 (by decide) (fun b_5 => ?_) (fun b_5 => ?_)
    · have hr := ie b_5 hr
      refine lv_goto (tgt := 2366) hx hb dL_law_697 (by decide) ?_
      obtain rfl := Option.some.inj hr
      exact kk _ _ ls hV hS (lv_sub hl [2, 3, 4, 5, 6, 7] rfl)
    · have hr := it b_5 hr
      refine lv_aload_n hx hb dL_law_685 rfl (lv_at hl 5 rfl) ?_
      refine lv_iconst (v := 0) hx hb dL_law_686 (by decide) ?_
      refine a_28 C hV dL_law_687 ?_
      refine lv_iload hx hb dL_law_688 (lv_at hl 0 rfl) ?_
      refine lv_i2l (v := (q2.1).toInt64) hx hb dL_law_690 rfl ?_
      refine r_lcmp (x := q2.2 216 0) (y := q2.1) hx hb dL_law_691 ?_
      refine lv_if_eq (tgt := 697) hx hb dL_law_692 (by decide) (fun b_6 => ?_) (fun b_6 => ?_)
      · have hr := it b_6 hr
        refine lv_goto (tgt := 2366) hx hb dL_law_697 (by decide) ?_
        obtain rfl := Option.some.inj hr
        exact kk _ _ ls hV hS (lv_sub hl [2, 3, 4, 5, 6, 7] rfl)
      · have hr := ie b_6 hr
        cases hr
  · have hr := ie b_4 hr
    cases hr
set_option maxHeartbeats 4000000 in
set_option maxRecDepth 100000 in
theorem kc_7 (hfl : l.stackTraces = false) (C : Cx p l s m args meth c G b0 R_own cL_law 9 ret0) (hX : va_X b L xs s s.heap) (hbl : b < s.heap.size) (hbA : ¬ Ab b0 b) (hc : kc + 1 ≤ room_1.cells ∧ ks + 6 ≤ room_1.slots) (hV : Hd G b0 V H) (hS : va_S (Ab b0) s.heap H locs) (hl : lv_has ls 9 [(0, .ref b), (1, .ref (b0 + 0)), (2, .ref (b0 + 208)), (3, .ref (b0 + 216)), (4, .ref (b0 + 217)), (5, .int x5)]) {y1 : Int32} (h1 : Sc xs L (x5 + 1) y1) {V1 : St} (hr : k_7 V y1 = some V1)
    (kk : ∀ (H1 : Heap) (locs1 : List Loc) (ls : Array Slot), Hd G b0 V1 H1 → va_S (Ab b0) s.heap H1 locs1 → lv_has ls 9 [(0, .ref b), (1, .ref (b0 + 0)), (2, .ref (b0 + 208)), (3, .ref (b0 + 216)), (4, .ref (b0 + 217)), (5, .int x5)] → W p l e room_1 s m args below meth c H1 locs1 (kc + 1) (ks + 6) Q (F0 m 2366 ls [])) : W p l e room_1 s m args below meth c H locs kc ks Q (F0 m 700 ls []) := by
  obtain ⟨hx, hb, hrt, hml, hown, hts, hlocks, hK, hSv⟩ := id C
  unfold k_7 at hr
  refine lv_aload_n hx hb dL_law_700 rfl (lv_at hl 1 rfl) ?_
  refine lv_aload_n hx hb dL_law_701 rfl (lv_at hl 0 rfl) ?_
  refine lv_iload hx hb dL_law_702 (lv_at hl 5 rfl) ?_
  refine lv_iconst (v := 1) hx hb dL_law_704 (by decide) ?_
  refine lv_iadd hx hb dL_law_705 ?_
  refine r_sld hx hb hX hbl hbA hS h1 dL_law_706 ?_
  refine lv_aload_n hx hb dL_law_707 rfl (lv_at hl 3 rfl) ?_
  obtain ⟨q1, e1, hr⟩ := ob hr
  refine cal_h (run_H (As := [.ref (b0 + 0), .int y1, .ref (b0 + 216)]) (rest := []) C hV hS (c_L_drop l hfl G b0 V y1 q1 e1) q_842 q_843 q_140 q_844 dk_L_drop (by decide) hl.1 rfl (Nat.le_of_ble_eq_true rfl) dL_law_708 hc) hS (fun H locs hV hS => ?_)
  refine lv_istore (lv' := [(6, .int q1.1), (0, .ref b), (1, .ref (b0 + 0)), (2, .ref (b0 + 208)), (3, .ref (b0 + 216)), (4, .ref (b0 + 217)), (5, .int x5)]) hx hb dL_law_711 hl (by decide) rfl (fun ls hl => ?_)
  refine lv_aload_n hx hb dL_law_713 rfl (lv_at hl 3 rfl) ?_
  refine lv_aload_n hx hb dL_law_714 rfl (lv_at hl 1 rfl) ?_
  refine lv_iload hx hb dL_law_715 (lv_at hl 6 rfl) ?_
  refine lv_iconst (v := 1) hx hb dL_law_717 (by decide) ?_
  refine lv_iadd hx hb dL_law_718 ?_
  refine r_sld hx hb hX hbl hbA hS h1 dL_law_719 ?_
  obtain ⟨q2, e2, hr⟩ := ob hr
  refine cal_i (run_V (As := [.int y1]) (rest := []) C hV hS (c_X10_drop l G b0 q1.2 y1 q2 e2) (rcv hK hV (kd_lt z_208 (by decide)) (cel_20 z_208) rfl) q_1618 q_1619 q_1620 q_151 q_1621 dk_X10_drop (by decide) hl.1 rfl (Nat.le_of_ble_eq_true rfl) dL_law_720 hc) hS (fun H locs hV hS => ?_)
  refine lv_istore (lv' := [(7, .int q2.1), (6, .int q1.1), (0, .ref b), (1, .ref (b0 + 0)), (2, .ref (b0 + 208)), (3, .ref (b0 + 216)), (4, .ref (b0 + 217)), (5, .int x5)]) hx hb dL_law_723 hl (by decide) rfl (fun ls hl => ?_)
  refine lv_aload_n hx hb dL_law_725 rfl (lv_at hl 4 rfl) ?_
  obtain ⟨q3, e3, hr⟩ := ob hr
  refine cal_i (run_V (As := []) (rest := []) C hV hS (c_X10_thrown l G b0 q2.2 q3 e3) (rcv hK hV (kd_lt z_208 (by decide)) (cel_20 z_208) rfl) q_1470 q_1471 q_1472 q_151 q_1473 dk_X10_thrown (by decide) hl.1 rfl (Nat.le_of_ble_eq_true rfl) dL_law_726 hc) hS (fun H locs hV hS => ?_)
  refine lv_iload hx hb dL_law_729 (lv_at hl 1 rfl) ?_
  refine lv_icmp_eq (tgt := 736) hx hb dL_law_731 (by decide) (fun b_4 => ?_) (fun b_4 => ?_)
  · have hr := it b_4 hr
    refine lv_iload hx hb dL_law_736 (lv_at hl 1 rfl) ?_
    refine lv_if_ne (tgt := 753) hx hb dL_law_738 (by decide) (fun b_5 => ?_) (fun b_5 => ?_)
    · have hr := ie b_5 hr
      refine lv_goto (tgt := 2366) hx hb dL_law_753 (by decide) ?_
      obtain rfl := Option.some.inj hr
      exact kk _ _ ls hV hS (lv_sub hl [2, 3, 4, 5, 6, 7] rfl)
    · have hr := it b_5 hr
      refine lv_aload_n hx hb dL_law_741 rfl (lv_at hl 5 rfl) ?_
      refine lv_iconst (v := 0) hx hb dL_law_742 (by decide) ?_
      refine a_28 C hV dL_law_743 ?_
      refine lv_iload hx hb dL_law_744 (lv_at hl 0 rfl) ?_
      refine lv_i2l (v := (q2.1).toInt64) hx hb dL_law_746 rfl ?_
      refine r_lcmp (x := q2.2 216 0) (y := q2.1) hx hb dL_law_747 ?_
      refine lv_if_eq (tgt := 753) hx hb dL_law_748 (by decide) (fun b_6 => ?_) (fun b_6 => ?_)
      · have hr := it b_6 hr
        refine lv_goto (tgt := 2366) hx hb dL_law_753 (by decide) ?_
        obtain rfl := Option.some.inj hr
        exact kk _ _ ls hV hS (lv_sub hl [2, 3, 4, 5, 6, 7] rfl)
      · have hr := ie b_6 hr
        cases hr
  · have hr := ie b_4 hr
    cases hr
set_option maxHeartbeats 4000000 in
set_option maxRecDepth 100000 in
theorem kc_8 (hfl : l.stackTraces = false) (C : Cx p l s m args meth c G b0 R_own cL_law 9 ret0) (hX : va_X b L xs s s.heap) (hbl : b < s.heap.size) (hbA : ¬ Ab b0 b) (hc : kc + 1 ≤ room_1.cells ∧ ks + 6 ≤ room_1.slots) (hV : Hd G b0 V H) (hS : va_S (Ab b0) s.heap H locs) (hl : lv_has ls 9 [(0, .ref b), (1, .ref (b0 + 0)), (2, .ref (b0 + 208)), (3, .ref (b0 + 216)), (4, .ref (b0 + 217)), (5, .int x5)]) {y1 : Int32} (h1 : Sc xs L (x5 + 1) y1) {y2 : Int32} (h2 : Sc xs L (x5 + 2) y2) {V1 : St} (hr : k_8 V y1 y2 = some V1)
    (kk : ∀ (H1 : Heap) (locs1 : List Loc) (ls : Array Slot), Hd G b0 V1 H1 → va_S (Ab b0) s.heap H1 locs1 → lv_has ls 9 [(0, .ref b), (1, .ref (b0 + 0)), (2, .ref (b0 + 208)), (3, .ref (b0 + 216)), (4, .ref (b0 + 217)), (5, .int x5)] → W p l e room_1 s m args below meth c H1 locs1 (kc + 1) (ks + 6) Q (F0 m 2366 ls [])) : W p l e room_1 s m args below meth c H locs kc ks Q (F0 m 756 ls []) := by
  obtain ⟨hx, hb, hrt, hml, hown, hts, hlocks, hK, hSv⟩ := id C
  unfold k_8 at hr
  refine lv_aload_n hx hb dL_law_756 rfl (lv_at hl 1 rfl) ?_
  refine lv_aload_n hx hb dL_law_757 rfl (lv_at hl 0 rfl) ?_
  refine lv_iload hx hb dL_law_758 (lv_at hl 5 rfl) ?_
  refine lv_iconst (v := 1) hx hb dL_law_760 (by decide) ?_
  refine lv_iadd hx hb dL_law_761 ?_
  refine r_sld hx hb hX hbl hbA hS h1 dL_law_762 ?_
  refine lv_aload_n hx hb dL_law_763 rfl (lv_at hl 0 rfl) ?_
  refine lv_iload hx hb dL_law_764 (lv_at hl 5 rfl) ?_
  refine lv_iconst (v := 2) hx hb dL_law_766 (by decide) ?_
  refine lv_iadd hx hb dL_law_767 ?_
  refine r_sld hx hb hX hbl hbA hS h2 dL_law_768 ?_
  refine lv_aload_n hx hb dL_law_769 rfl (lv_at hl 3 rfl) ?_
  obtain ⟨q1, e1, hr⟩ := ob hr
  refine cal_h (run_H (As := [.ref (b0 + 0), .int y1, .int y2, .ref (b0 + 216)]) (rest := []) C hV hS (c_L_kindOf l hfl G b0 V y1 y2 q1 e1) q_862 q_863 q_140 q_864 dk_L_kindOf (by decide) hl.1 rfl (Nat.le_of_ble_eq_true rfl) dL_law_770 hc) hS (fun H locs hV hS => ?_)
  refine lv_istore (lv' := [(6, .int q1.1), (0, .ref b), (1, .ref (b0 + 0)), (2, .ref (b0 + 208)), (3, .ref (b0 + 216)), (4, .ref (b0 + 217)), (5, .int x5)]) hx hb dL_law_773 hl (by decide) rfl (fun ls hl => ?_)
  refine lv_aload_n hx hb dL_law_775 rfl (lv_at hl 3 rfl) ?_
  refine lv_aload_n hx hb dL_law_776 rfl (lv_at hl 1 rfl) ?_
  refine lv_iload hx hb dL_law_777 (lv_at hl 6 rfl) ?_
  refine lv_iconst (v := 1) hx hb dL_law_779 (by decide) ?_
  refine lv_iadd hx hb dL_law_780 ?_
  refine r_sld hx hb hX hbl hbA hS h1 dL_law_781 ?_
  refine lv_aload_n hx hb dL_law_782 rfl (lv_at hl 1 rfl) ?_
  refine lv_iload hx hb dL_law_783 (lv_at hl 6 rfl) ?_
  refine lv_iconst (v := 2) hx hb dL_law_785 (by decide) ?_
  refine lv_iadd hx hb dL_law_786 ?_
  refine r_sld hx hb hX hbl hbA hS h2 dL_law_787 ?_
  obtain ⟨q2, e2, hr⟩ := ob hr
  refine cal_i (run_V (As := [.int y1, .int y2]) (rest := []) C hV hS (c_X10_kindOf l G b0 q1.2 y1 y2 q2 e2) (rcv hK hV (kd_lt z_208 (by decide)) (cel_20 z_208) rfl) q_1626 q_1627 q_1628 q_151 q_1629 dk_X10_kindOf (by decide) hl.1 rfl (Nat.le_of_ble_eq_true rfl) dL_law_788 hc) hS (fun H locs hV hS => ?_)
  refine lv_istore (lv' := [(7, .int q2.1), (6, .int q1.1), (0, .ref b), (1, .ref (b0 + 0)), (2, .ref (b0 + 208)), (3, .ref (b0 + 216)), (4, .ref (b0 + 217)), (5, .int x5)]) hx hb dL_law_791 hl (by decide) rfl (fun ls hl => ?_)
  refine lv_aload_n hx hb dL_law_793 rfl (lv_at hl 4 rfl) ?_
  obtain ⟨q3, e3, hr⟩ := ob hr
  refine cal_i (run_V (As := []) (rest := []) C hV hS (c_X10_thrown l G b0 q2.2 q3 e3) (rcv hK hV (kd_lt z_208 (by decide)) (cel_20 z_208) rfl) q_1470 q_1471 q_1472 q_151 q_1473 dk_X10_thrown (by decide) hl.1 rfl (Nat.le_of_ble_eq_true rfl) dL_law_794 hc) hS (fun H locs hV hS => ?_)
  refine lv_iload hx hb dL_law_797 (lv_at hl 1 rfl) ?_
  refine lv_icmp_eq (tgt := 804) hx hb dL_law_799 (by decide) (fun b_4 => ?_) (fun b_4 => ?_)
  · have hr := it b_4 hr
    refine lv_iload hx hb dL_law_804 (lv_at hl 1 rfl) ?_
    refine lv_if_ne (tgt := 821) hx hb dL_law_806 (by decide) (fun b_5 => ?_) (fun b_5 => ?_)
    · have hr := ie b_5 hr
      refine lv_goto (tgt := 2366) hx hb dL_law_821 (by decide) ?_
      obtain rfl := Option.some.inj hr
      exact kk _ _ ls hV hS (lv_sub hl [2, 3, 4, 5, 6, 7] rfl)
    · have hr := it b_5 hr
      refine lv_aload_n hx hb dL_law_809 rfl (lv_at hl 5 rfl) ?_
      refine lv_iconst (v := 0) hx hb dL_law_810 (by decide) ?_
      refine a_28 C hV dL_law_811 ?_
      refine lv_iload hx hb dL_law_812 (lv_at hl 0 rfl) ?_
      refine lv_i2l (v := (q2.1).toInt64) hx hb dL_law_814 rfl ?_
      refine r_lcmp (x := q2.2 216 0) (y := q2.1) hx hb dL_law_815 ?_
      refine lv_if_eq (tgt := 821) hx hb dL_law_816 (by decide) (fun b_6 => ?_) (fun b_6 => ?_)
      · have hr := it b_6 hr
        refine lv_goto (tgt := 2366) hx hb dL_law_821 (by decide) ?_
        obtain rfl := Option.some.inj hr
        exact kk _ _ ls hV hS (lv_sub hl [2, 3, 4, 5, 6, 7] rfl)
      · have hr := ie b_6 hr
        cases hr
  · have hr := ie b_4 hr
    cases hr
set_option maxHeartbeats 4000000 in
set_option maxRecDepth 100000 in
theorem kc_9 (hfl : l.stackTraces = false) (C : Cx p l s m args meth c G b0 R_own cL_law 9 ret0) (hX : va_X b L xs s s.heap) (hbl : b < s.heap.size) (hbA : ¬ Ab b0 b) (hc : kc + 1 ≤ room_1.cells ∧ ks + 6 ≤ room_1.slots) (hV : Hd G b0 V H) (hS : va_S (Ab b0) s.heap H locs) (hl : lv_has ls 9 [(0, .ref b), (1, .ref (b0 + 0)), (2, .ref (b0 + 208)), (3, .ref (b0 + 216)), (4, .ref (b0 + 217)), (5, .int x5)]) {y1 : Int32} (h1 : Sc xs L (x5 + 1) y1) {y2 : Int32} (h2 : Sc xs L (x5 + 2) y2) {y3 : Int32} (h3 : Sc xs L (x5 + 3) y3) {V1 : St} (hr : k_9 V y1 y2 y3 = some V1)
    (kk : ∀ (H1 : Heap) (locs1 : List Loc) (ls : Array Slot), Hd G b0 V1 H1 → va_S (Ab b0) s.heap H1 locs1 → lv_has ls 9 [(0, .ref b), (1, .ref (b0 + 0)), (2, .ref (b0 + 208)), (3, .ref (b0 + 216)), (4, .ref (b0 + 217)), (5, .int x5)] → W p l e room_1 s m args below meth c H1 locs1 (kc + 1) (ks + 6) Q (F0 m 2366 ls [])) : W p l e room_1 s m args below meth c H locs kc ks Q (F0 m 824 ls []) := by
  obtain ⟨hx, hb, hrt, hml, hown, hts, hlocks, hK, hSv⟩ := id C
  unfold k_9 at hr
  refine lv_aload_n hx hb dL_law_824 rfl (lv_at hl 1 rfl) ?_
  refine lv_aload_n hx hb dL_law_825 rfl (lv_at hl 0 rfl) ?_
  refine lv_iload hx hb dL_law_826 (lv_at hl 5 rfl) ?_
  refine lv_iconst (v := 1) hx hb dL_law_828 (by decide) ?_
  refine lv_iadd hx hb dL_law_829 ?_
  refine r_sld hx hb hX hbl hbA hS h1 dL_law_830 ?_
  refine lv_aload_n hx hb dL_law_831 rfl (lv_at hl 0 rfl) ?_
  refine lv_iload hx hb dL_law_832 (lv_at hl 5 rfl) ?_
  refine lv_iconst (v := 2) hx hb dL_law_834 (by decide) ?_
  refine lv_iadd hx hb dL_law_835 ?_
  refine r_sld hx hb hX hbl hbA hS h2 dL_law_836 ?_
  refine lv_aload_n hx hb dL_law_837 rfl (lv_at hl 0 rfl) ?_
  refine lv_iload hx hb dL_law_838 (lv_at hl 5 rfl) ?_
  refine lv_iconst (v := 3) hx hb dL_law_840 (by decide) ?_
  refine lv_iadd hx hb dL_law_841 ?_
  refine r_sld hx hb hX hbl hbA hS h3 dL_law_842 ?_
  refine lv_aload_n hx hb dL_law_843 rfl (lv_at hl 3 rfl) ?_
  obtain ⟨q1, e1, hr⟩ := ob hr
  refine cal_h (run_H (As := [.ref (b0 + 0), .int y1, .int y2, .int y3, .ref (b0 + 216)]) (rest := []) C hV hS (c_L_isTorn l hfl G b0 V y1 y2 y3 q1 e1) q_906 q_907 q_140 q_908 dk_L_isTorn (by decide) hl.1 rfl (Nat.le_of_ble_eq_true rfl) dL_law_844 hc) hS (fun H locs hV hS => ?_)
  refine lv_istore (lv' := [(6, .int q1.1), (0, .ref b), (1, .ref (b0 + 0)), (2, .ref (b0 + 208)), (3, .ref (b0 + 216)), (4, .ref (b0 + 217)), (5, .int x5)]) hx hb dL_law_847 hl (by decide) rfl (fun ls hl => ?_)
  refine lv_aload_n hx hb dL_law_849 rfl (lv_at hl 3 rfl) ?_
  refine lv_aload_n hx hb dL_law_850 rfl (lv_at hl 1 rfl) ?_
  refine lv_iload hx hb dL_law_851 (lv_at hl 6 rfl) ?_
  refine lv_iconst (v := 1) hx hb dL_law_853 (by decide) ?_
  refine lv_iadd hx hb dL_law_854 ?_
  refine r_sld hx hb hX hbl hbA hS h1 dL_law_855 ?_
  refine lv_aload_n hx hb dL_law_856 rfl (lv_at hl 1 rfl) ?_
  refine lv_iload hx hb dL_law_857 (lv_at hl 6 rfl) ?_
  refine lv_iconst (v := 2) hx hb dL_law_859 (by decide) ?_
  refine lv_iadd hx hb dL_law_860 ?_
  refine r_sld hx hb hX hbl hbA hS h2 dL_law_861 ?_
  refine lv_aload_n hx hb dL_law_862 rfl (lv_at hl 1 rfl) ?_
  refine lv_iload hx hb dL_law_863 (lv_at hl 6 rfl) ?_
  refine lv_iconst (v := 3) hx hb dL_law_865 (by decide) ?_
  refine lv_iadd hx hb dL_law_866 ?_
  refine r_sld hx hb hX hbl hbA hS h3 dL_law_867 ?_
  obtain ⟨q2, e2, hr⟩ := ob hr
  refine cal_i (run_V (As := [.int y1, .int y2, .int y3]) (rest := []) C hV hS (c_X10_isTorn l G b0 q1.2 y1 y2 y3 q2 e2) (rcv hK hV (kd_lt z_208 (by decide)) (cel_20 z_208) rfl) q_1630 q_1631 q_1632 q_151 q_1633 dk_X10_isTorn (by decide) hl.1 rfl (Nat.le_of_ble_eq_true rfl) dL_law_868 hc) hS (fun H locs hV hS => ?_)
  refine lv_istore (lv' := [(7, .int q2.1), (6, .int q1.1), (0, .ref b), (1, .ref (b0 + 0)), (2, .ref (b0 + 208)), (3, .ref (b0 + 216)), (4, .ref (b0 + 217)), (5, .int x5)]) hx hb dL_law_871 hl (by decide) rfl (fun ls hl => ?_)
  refine lv_aload_n hx hb dL_law_873 rfl (lv_at hl 4 rfl) ?_
  obtain ⟨q3, e3, hr⟩ := ob hr
  refine cal_i (run_V (As := []) (rest := []) C hV hS (c_X10_thrown l G b0 q2.2 q3 e3) (rcv hK hV (kd_lt z_208 (by decide)) (cel_20 z_208) rfl) q_1470 q_1471 q_1472 q_151 q_1473 dk_X10_thrown (by decide) hl.1 rfl (Nat.le_of_ble_eq_true rfl) dL_law_874 hc) hS (fun H locs hV hS => ?_)
  refine lv_iload hx hb dL_law_877 (lv_at hl 1 rfl) ?_
  refine lv_icmp_eq (tgt := 884) hx hb dL_law_879 (by decide) (fun b_4 => ?_) (fun b_4 => ?_)
  · have hr := it b_4 hr
    refine lv_iload hx hb dL_law_884 (lv_at hl 1 rfl) ?_
    refine lv_if_ne (tgt := 908) hx hb dL_law_886 (by decide) (fun b_5 => ?_) (fun b_5 => ?_)
    · have hr := ie b_5 hr
      refine lv_goto (tgt := 2366) hx hb dL_law_908 (by decide) ?_
      obtain rfl := Option.some.inj hr
      exact kk _ _ ls hV hS (lv_sub hl [2, 3, 4, 5, 6, 7] rfl)
    · have hr := it b_5 hr
      refine lv_aload_n hx hb dL_law_889 rfl (lv_at hl 5 rfl) ?_
      refine lv_iconst (v := 0) hx hb dL_law_890 (by decide) ?_
      refine a_28 C hV dL_law_891 ?_
      refine lv_iload hx hb dL_law_892 (lv_at hl 0 rfl) ?_
      suffices hM : W p l e room_1 s m args below meth c H locs (kc + 1) (ks + 6) Q (F0 m 902 ls [.long (bz q2.1).toInt64, .long (q2.2 216 0).toInt64]) from (by
          refine lv_if_eq (tgt := 901) hx hb dL_law_894 (by decide) (fun z => ?_) (fun z => ?_)
          · rw [show bz q2.1 = 0 from if_pos z] at hM
            refine lv_lconst (v := (0 : Int32).toInt64) hx hb dL_law_901 rfl ?_
            exact hM
          · rw [show bz q2.1 = 1 from if_neg z] at hM
            refine lv_lconst (v := (1 : Int32).toInt64) hx hb dL_law_897 rfl ?_
            refine lv_goto (tgt := 902) hx hb dL_law_898 (by decide) ?_
            exact hM)
      refine r_lcmp (x := q2.2 216 0) (y := bz q2.1) hx hb dL_law_902 ?_
      refine lv_if_eq (tgt := 908) hx hb dL_law_903 (by decide) (fun b_6 => ?_) (fun b_6 => ?_)
      · have hr := it b_6 hr
        refine lv_goto (tgt := 2366) hx hb dL_law_908 (by decide) ?_
        obtain rfl := Option.some.inj hr
        exact kk _ _ ls hV hS (lv_sub hl [2, 3, 4, 5, 6, 7] rfl)
      · have hr := ie b_6 hr
        cases hr
  · have hr := ie b_4 hr
    cases hr
set_option maxHeartbeats 4000000 in
set_option maxRecDepth 100000 in
theorem kc_10 (hfl : l.stackTraces = false) (C : Cx p l s m args meth c G b0 R_own cL_law 9 ret0) (hX : va_X b L xs s s.heap) (hbl : b < s.heap.size) (hbA : ¬ Ab b0 b) (hc : kc + 1 ≤ room_1.cells ∧ ks + 6 ≤ room_1.slots) (hV : Hd G b0 V H) (hS : va_S (Ab b0) s.heap H locs) (hl : lv_has ls 9 [(0, .ref b), (1, .ref (b0 + 0)), (2, .ref (b0 + 208)), (3, .ref (b0 + 216)), (4, .ref (b0 + 217)), (5, .int x5)]) {y1 : Int32} (h1 : Sc xs L (x5 + 1) y1) {y2 : Int32} (h2 : Sc xs L (x5 + 2) y2) {V1 : St} (hr : k_10 V y1 y2 = some V1)
    (kk : ∀ (H1 : Heap) (locs1 : List Loc) (ls : Array Slot), Hd G b0 V1 H1 → va_S (Ab b0) s.heap H1 locs1 → lv_has ls 9 [(0, .ref b), (1, .ref (b0 + 0)), (2, .ref (b0 + 208)), (3, .ref (b0 + 216)), (4, .ref (b0 + 217)), (5, .int x5)] → W p l e room_1 s m args below meth c H1 locs1 (kc + 1) (ks + 6) Q (F0 m 2366 ls [])) : W p l e room_1 s m args below meth c H locs kc ks Q (F0 m 911 ls []) := by
  obtain ⟨hx, hb, hrt, hml, hown, hts, hlocks, hK, hSv⟩ := id C
  unfold k_10 at hr
  refine lv_aload_n hx hb dL_law_911 rfl (lv_at hl 1 rfl) ?_
  refine lv_aload_n hx hb dL_law_912 rfl (lv_at hl 0 rfl) ?_
  refine lv_iload hx hb dL_law_913 (lv_at hl 5 rfl) ?_
  refine lv_iconst (v := 1) hx hb dL_law_915 (by decide) ?_
  refine lv_iadd hx hb dL_law_916 ?_
  refine r_sld hx hb hX hbl hbA hS h1 dL_law_917 ?_
  refine lv_aload_n hx hb dL_law_918 rfl (lv_at hl 0 rfl) ?_
  refine lv_iload hx hb dL_law_919 (lv_at hl 5 rfl) ?_
  refine lv_iconst (v := 2) hx hb dL_law_921 (by decide) ?_
  refine lv_iadd hx hb dL_law_922 ?_
  refine r_sld hx hb hX hbl hbA hS h2 dL_law_923 ?_
  refine lv_aload_n hx hb dL_law_924 rfl (lv_at hl 3 rfl) ?_
  obtain ⟨q1, e1, hr⟩ := ob hr
  refine cal_h (run_H (As := [.ref (b0 + 0), .int y1, .int y2, .ref (b0 + 216)]) (rest := []) C hV hS (c_L_netOf l hfl G b0 V y1 y2 q1 e1) q_930 q_931 q_140 q_932 dk_L_netOf (by decide) hl.1 rfl (Nat.le_of_ble_eq_true rfl) dL_law_925 hc) hS (fun H locs hV hS => ?_)
  refine lv_istore (lv' := [(6, .int q1.1), (0, .ref b), (1, .ref (b0 + 0)), (2, .ref (b0 + 208)), (3, .ref (b0 + 216)), (4, .ref (b0 + 217)), (5, .int x5)]) hx hb dL_law_928 hl (by decide) rfl (fun ls hl => ?_)
  refine lv_aload_n hx hb dL_law_930 rfl (lv_at hl 3 rfl) ?_
  refine lv_aload_n hx hb dL_law_931 rfl (lv_at hl 1 rfl) ?_
  refine lv_iload hx hb dL_law_932 (lv_at hl 6 rfl) ?_
  refine lv_iconst (v := 1) hx hb dL_law_934 (by decide) ?_
  refine lv_iadd hx hb dL_law_935 ?_
  refine r_sld hx hb hX hbl hbA hS h1 dL_law_936 ?_
  refine lv_aload_n hx hb dL_law_937 rfl (lv_at hl 1 rfl) ?_
  refine lv_iload hx hb dL_law_938 (lv_at hl 6 rfl) ?_
  refine lv_iconst (v := 2) hx hb dL_law_940 (by decide) ?_
  refine lv_iadd hx hb dL_law_941 ?_
  refine r_sld hx hb hX hbl hbA hS h2 dL_law_942 ?_
  obtain ⟨q2, e2, hr⟩ := ob hr
  refine cal_i (run_V (As := [.int y1, .int y2]) (rest := []) C hV hS (c_X10_netOf l G b0 q1.2 y1 y2 q2 e2) (rcv hK hV (kd_lt z_208 (by decide)) (cel_20 z_208) rfl) q_1634 q_1635 q_1636 q_151 q_1637 dk_X10_netOf (by decide) hl.1 rfl (Nat.le_of_ble_eq_true rfl) dL_law_943 hc) hS (fun H locs hV hS => ?_)
  refine lv_istore (lv' := [(7, .int q2.1), (6, .int q1.1), (0, .ref b), (1, .ref (b0 + 0)), (2, .ref (b0 + 208)), (3, .ref (b0 + 216)), (4, .ref (b0 + 217)), (5, .int x5)]) hx hb dL_law_946 hl (by decide) rfl (fun ls hl => ?_)
  refine lv_aload_n hx hb dL_law_948 rfl (lv_at hl 4 rfl) ?_
  obtain ⟨q3, e3, hr⟩ := ob hr
  refine cal_i (run_V (As := []) (rest := []) C hV hS (c_X10_thrown l G b0 q2.2 q3 e3) (rcv hK hV (kd_lt z_208 (by decide)) (cel_20 z_208) rfl) q_1470 q_1471 q_1472 q_151 q_1473 dk_X10_thrown (by decide) hl.1 rfl (Nat.le_of_ble_eq_true rfl) dL_law_949 hc) hS (fun H locs hV hS => ?_)
  refine lv_iload hx hb dL_law_952 (lv_at hl 1 rfl) ?_
  refine lv_icmp_eq (tgt := 959) hx hb dL_law_954 (by decide) (fun b_4 => ?_) (fun b_4 => ?_)
  · have hr := it b_4 hr
    refine lv_iload hx hb dL_law_959 (lv_at hl 1 rfl) ?_
    refine lv_if_ne (tgt := 976) hx hb dL_law_961 (by decide) (fun b_5 => ?_) (fun b_5 => ?_)
    · have hr := ie b_5 hr
      refine lv_goto (tgt := 2366) hx hb dL_law_976 (by decide) ?_
      obtain rfl := Option.some.inj hr
      exact kk _ _ ls hV hS (lv_sub hl [2, 3, 4, 5, 6, 7] rfl)
    · have hr := it b_5 hr
      refine lv_aload_n hx hb dL_law_964 rfl (lv_at hl 5 rfl) ?_
      refine lv_iconst (v := 0) hx hb dL_law_965 (by decide) ?_
      refine a_28 C hV dL_law_966 ?_
      refine lv_iload hx hb dL_law_967 (lv_at hl 0 rfl) ?_
      refine lv_i2l (v := (q2.1).toInt64) hx hb dL_law_969 rfl ?_
      refine r_lcmp (x := q2.2 216 0) (y := q2.1) hx hb dL_law_970 ?_
      refine lv_if_eq (tgt := 976) hx hb dL_law_971 (by decide) (fun b_6 => ?_) (fun b_6 => ?_)
      · have hr := it b_6 hr
        refine lv_goto (tgt := 2366) hx hb dL_law_976 (by decide) ?_
        obtain rfl := Option.some.inj hr
        exact kk _ _ ls hV hS (lv_sub hl [2, 3, 4, 5, 6, 7] rfl)
      · have hr := ie b_6 hr
        cases hr
  · have hr := ie b_4 hr
    cases hr
set_option maxHeartbeats 4000000 in
set_option maxRecDepth 100000 in
theorem kc_11 (hfl : l.stackTraces = false) (C : Cx p l s m args meth c G b0 R_own cL_law 9 ret0) (hX : va_X b L xs s s.heap) (hbl : b < s.heap.size) (hbA : ¬ Ab b0 b) (hc : kc + 1 ≤ room_1.cells ∧ ks + 6 ≤ room_1.slots) (hV : Hd G b0 V H) (hS : va_S (Ab b0) s.heap H locs) (hl : lv_has ls 9 [(0, .ref b), (1, .ref (b0 + 0)), (2, .ref (b0 + 208)), (3, .ref (b0 + 216)), (4, .ref (b0 + 217)), (5, .int x5)]) {y1 : Int32} (h1 : Sc xs L (x5 + 1) y1) {V1 : St} (hr : k_11 V y1 = some V1)
    (kk : ∀ (H1 : Heap) (locs1 : List Loc) (ls : Array Slot), Hd G b0 V1 H1 → va_S (Ab b0) s.heap H1 locs1 → lv_has ls 9 [(0, .ref b), (1, .ref (b0 + 0)), (2, .ref (b0 + 208)), (3, .ref (b0 + 216)), (4, .ref (b0 + 217)), (5, .int x5)] → W p l e room_1 s m args below meth c H1 locs1 (kc + 1) (ks + 6) Q (F0 m 2366 ls [])) : W p l e room_1 s m args below meth c H locs kc ks Q (F0 m 979 ls []) := by
  obtain ⟨hx, hb, hrt, hml, hown, hts, hlocks, hK, hSv⟩ := id C
  unfold k_11 at hr
  refine lv_aload_n hx hb dL_law_979 rfl (lv_at hl 1 rfl) ?_
  refine lv_aload_n hx hb dL_law_980 rfl (lv_at hl 0 rfl) ?_
  refine lv_iload hx hb dL_law_981 (lv_at hl 5 rfl) ?_
  refine lv_iconst (v := 1) hx hb dL_law_983 (by decide) ?_
  refine lv_iadd hx hb dL_law_984 ?_
  refine r_sld hx hb hX hbl hbA hS h1 dL_law_985 ?_
  refine lv_aload_n hx hb dL_law_986 rfl (lv_at hl 3 rfl) ?_
  obtain ⟨q1, e1, hr⟩ := ob hr
  refine cal_h (run_H (As := [.ref (b0 + 0), .int y1, .ref (b0 + 216)]) (rest := []) C hV hS (c_L_chapters l hfl G b0 V y1 q1 e1) q_966 q_967 q_140 q_968 dk_L_chapters (by decide) hl.1 rfl (Nat.le_of_ble_eq_true rfl) dL_law_987 hc) hS (fun H locs hV hS => ?_)
  refine lv_istore (lv' := [(6, .int q1.1), (0, .ref b), (1, .ref (b0 + 0)), (2, .ref (b0 + 208)), (3, .ref (b0 + 216)), (4, .ref (b0 + 217)), (5, .int x5)]) hx hb dL_law_990 hl (by decide) rfl (fun ls hl => ?_)
  refine lv_aload_n hx hb dL_law_992 rfl (lv_at hl 3 rfl) ?_
  refine lv_aload_n hx hb dL_law_993 rfl (lv_at hl 1 rfl) ?_
  refine lv_iload hx hb dL_law_994 (lv_at hl 6 rfl) ?_
  refine lv_iconst (v := 1) hx hb dL_law_996 (by decide) ?_
  refine lv_iadd hx hb dL_law_997 ?_
  refine r_sld hx hb hX hbl hbA hS h1 dL_law_998 ?_
  obtain ⟨q2, e2, hr⟩ := ob hr
  refine cal_i (run_V (As := [.int y1]) (rest := []) C hV hS (c_X10_chapters l G b0 q1.2 y1 q2 e2) (rcv hK hV (kd_lt z_208 (by decide)) (cel_20 z_208) rfl) q_1646 q_1647 q_1648 q_151 q_1649 dk_X10_chapters (by decide) hl.1 rfl (Nat.le_of_ble_eq_true rfl) dL_law_999 hc) hS (fun H locs hV hS => ?_)
  refine lv_istore (lv' := [(7, .int q2.1), (6, .int q1.1), (0, .ref b), (1, .ref (b0 + 0)), (2, .ref (b0 + 208)), (3, .ref (b0 + 216)), (4, .ref (b0 + 217)), (5, .int x5)]) hx hb dL_law_1002 hl (by decide) rfl (fun ls hl => ?_)
  refine lv_aload_n hx hb dL_law_1004 rfl (lv_at hl 4 rfl) ?_
  obtain ⟨q3, e3, hr⟩ := ob hr
  refine cal_i (run_V (As := []) (rest := []) C hV hS (c_X10_thrown l G b0 q2.2 q3 e3) (rcv hK hV (kd_lt z_208 (by decide)) (cel_20 z_208) rfl) q_1470 q_1471 q_1472 q_151 q_1473 dk_X10_thrown (by decide) hl.1 rfl (Nat.le_of_ble_eq_true rfl) dL_law_1005 hc) hS (fun H locs hV hS => ?_)
  refine lv_iload hx hb dL_law_1008 (lv_at hl 1 rfl) ?_
  refine lv_icmp_eq (tgt := 1015) hx hb dL_law_1010 (by decide) (fun b_4 => ?_) (fun b_4 => ?_)
  · have hr := it b_4 hr
    refine lv_iload hx hb dL_law_1015 (lv_at hl 1 rfl) ?_
    refine lv_if_ne (tgt := 1032) hx hb dL_law_1017 (by decide) (fun b_5 => ?_) (fun b_5 => ?_)
    · have hr := ie b_5 hr
      refine lv_goto (tgt := 2366) hx hb dL_law_1032 (by decide) ?_
      obtain rfl := Option.some.inj hr
      exact kk _ _ ls hV hS (lv_sub hl [2, 3, 4, 5, 6, 7] rfl)
    · have hr := it b_5 hr
      refine lv_aload_n hx hb dL_law_1020 rfl (lv_at hl 5 rfl) ?_
      refine lv_iconst (v := 0) hx hb dL_law_1021 (by decide) ?_
      refine a_28 C hV dL_law_1022 ?_
      refine lv_iload hx hb dL_law_1023 (lv_at hl 0 rfl) ?_
      refine lv_i2l (v := (q2.1).toInt64) hx hb dL_law_1025 rfl ?_
      refine r_lcmp (x := q2.2 216 0) (y := q2.1) hx hb dL_law_1026 ?_
      refine lv_if_eq (tgt := 1032) hx hb dL_law_1027 (by decide) (fun b_6 => ?_) (fun b_6 => ?_)
      · have hr := it b_6 hr
        refine lv_goto (tgt := 2366) hx hb dL_law_1032 (by decide) ?_
        obtain rfl := Option.some.inj hr
        exact kk _ _ ls hV hS (lv_sub hl [2, 3, 4, 5, 6, 7] rfl)
      · have hr := ie b_6 hr
        cases hr
  · have hr := ie b_4 hr
    cases hr
set_option maxHeartbeats 4000000 in
set_option maxRecDepth 100000 in
theorem kc_12 (hfl : l.stackTraces = false) (C : Cx p l s m args meth c G b0 R_own cL_law 9 ret0) (hX : va_X b L xs s s.heap) (hbl : b < s.heap.size) (hbA : ¬ Ab b0 b) (hc : kc + 1 ≤ room_1.cells ∧ ks + 6 ≤ room_1.slots) (hV : Hd G b0 V H) (hS : va_S (Ab b0) s.heap H locs) (hl : lv_has ls 9 [(0, .ref b), (1, .ref (b0 + 0)), (2, .ref (b0 + 208)), (3, .ref (b0 + 216)), (4, .ref (b0 + 217)), (5, .int x5)]) {y1 : Int32} (h1 : Sc xs L (x5 + 1) y1) {V1 : St} (hr : k_12 V y1 = some V1)
    (kk : ∀ (H1 : Heap) (locs1 : List Loc) (ls : Array Slot), Hd G b0 V1 H1 → va_S (Ab b0) s.heap H1 locs1 → lv_has ls 9 [(0, .ref b), (1, .ref (b0 + 0)), (2, .ref (b0 + 208)), (3, .ref (b0 + 216)), (4, .ref (b0 + 217)), (5, .int x5)] → W p l e room_1 s m args below meth c H1 locs1 (kc + 1) (ks + 6) Q (F0 m 2366 ls [])) : W p l e room_1 s m args below meth c H locs kc ks Q (F0 m 1035 ls []) := by
  obtain ⟨hx, hb, hrt, hml, hown, hts, hlocks, hK, hSv⟩ := id C
  unfold k_12 at hr
  refine lv_aload_n hx hb dL_law_1035 rfl (lv_at hl 1 rfl) ?_
  refine lv_aload_n hx hb dL_law_1036 rfl (lv_at hl 0 rfl) ?_
  refine lv_iload hx hb dL_law_1037 (lv_at hl 5 rfl) ?_
  refine lv_iconst (v := 1) hx hb dL_law_1039 (by decide) ?_
  refine lv_iadd hx hb dL_law_1040 ?_
  refine r_sld hx hb hX hbl hbA hS h1 dL_law_1041 ?_
  refine lv_aload_n hx hb dL_law_1042 rfl (lv_at hl 3 rfl) ?_
  obtain ⟨q1, e1, hr⟩ := ob hr
  refine cal_h (run_H (As := [.ref (b0 + 0), .int y1, .ref (b0 + 216)]) (rest := []) C hV hS (c_L_chaptersAgain l hfl G b0 V y1 q1 e1) q_973 q_974 q_140 q_975 dk_L_chaptersAgain (by decide) hl.1 rfl (Nat.le_of_ble_eq_true rfl) dL_law_1043 hc) hS (fun H locs hV hS => ?_)
  refine lv_istore (lv' := [(6, .int q1.1), (0, .ref b), (1, .ref (b0 + 0)), (2, .ref (b0 + 208)), (3, .ref (b0 + 216)), (4, .ref (b0 + 217)), (5, .int x5)]) hx hb dL_law_1046 hl (by decide) rfl (fun ls hl => ?_)
  refine lv_aload_n hx hb dL_law_1048 rfl (lv_at hl 3 rfl) ?_
  refine lv_aload_n hx hb dL_law_1049 rfl (lv_at hl 1 rfl) ?_
  refine lv_iload hx hb dL_law_1050 (lv_at hl 6 rfl) ?_
  refine lv_iconst (v := 1) hx hb dL_law_1052 (by decide) ?_
  refine lv_iadd hx hb dL_law_1053 ?_
  refine r_sld hx hb hX hbl hbA hS h1 dL_law_1054 ?_
  obtain ⟨q2, e2, hr⟩ := ob hr
  refine cal_i (run_V (As := [.int y1]) (rest := []) C hV hS (c_X10_chaptersAgain l G b0 q1.2 y1 q2 e2) (rcv hK hV (kd_lt z_208 (by decide)) (cel_20 z_208) rfl) q_1654 q_1655 q_1656 q_151 q_1657 dk_X10_chaptersAgain (by decide) hl.1 rfl (Nat.le_of_ble_eq_true rfl) dL_law_1055 hc) hS (fun H locs hV hS => ?_)
  refine lv_istore (lv' := [(7, .int q2.1), (6, .int q1.1), (0, .ref b), (1, .ref (b0 + 0)), (2, .ref (b0 + 208)), (3, .ref (b0 + 216)), (4, .ref (b0 + 217)), (5, .int x5)]) hx hb dL_law_1058 hl (by decide) rfl (fun ls hl => ?_)
  refine lv_aload_n hx hb dL_law_1060 rfl (lv_at hl 4 rfl) ?_
  obtain ⟨q3, e3, hr⟩ := ob hr
  refine cal_i (run_V (As := []) (rest := []) C hV hS (c_X10_thrown l G b0 q2.2 q3 e3) (rcv hK hV (kd_lt z_208 (by decide)) (cel_20 z_208) rfl) q_1470 q_1471 q_1472 q_151 q_1473 dk_X10_thrown (by decide) hl.1 rfl (Nat.le_of_ble_eq_true rfl) dL_law_1061 hc) hS (fun H locs hV hS => ?_)
  refine lv_iload hx hb dL_law_1064 (lv_at hl 1 rfl) ?_
  refine lv_icmp_eq (tgt := 1071) hx hb dL_law_1066 (by decide) (fun b_4 => ?_) (fun b_4 => ?_)
  · have hr := it b_4 hr
    refine lv_iload hx hb dL_law_1071 (lv_at hl 1 rfl) ?_
    refine lv_if_ne (tgt := 1088) hx hb dL_law_1073 (by decide) (fun b_5 => ?_) (fun b_5 => ?_)
    · have hr := ie b_5 hr
      refine lv_goto (tgt := 2366) hx hb dL_law_1088 (by decide) ?_
      obtain rfl := Option.some.inj hr
      exact kk _ _ ls hV hS (lv_sub hl [2, 3, 4, 5, 6, 7] rfl)
    · have hr := it b_5 hr
      refine lv_aload_n hx hb dL_law_1076 rfl (lv_at hl 5 rfl) ?_
      refine lv_iconst (v := 0) hx hb dL_law_1077 (by decide) ?_
      refine a_28 C hV dL_law_1078 ?_
      refine lv_iload hx hb dL_law_1079 (lv_at hl 0 rfl) ?_
      refine lv_i2l (v := (q2.1).toInt64) hx hb dL_law_1081 rfl ?_
      refine r_lcmp (x := q2.2 216 0) (y := q2.1) hx hb dL_law_1082 ?_
      refine lv_if_eq (tgt := 1088) hx hb dL_law_1083 (by decide) (fun b_6 => ?_) (fun b_6 => ?_)
      · have hr := it b_6 hr
        refine lv_goto (tgt := 2366) hx hb dL_law_1088 (by decide) ?_
        obtain rfl := Option.some.inj hr
        exact kk _ _ ls hV hS (lv_sub hl [2, 3, 4, 5, 6, 7] rfl)
      · have hr := ie b_6 hr
        cases hr
  · have hr := ie b_4 hr
    cases hr
set_option maxHeartbeats 4000000 in
set_option maxRecDepth 100000 in
theorem kc_13 (hfl : l.stackTraces = false) (C : Cx p l s m args meth c G b0 R_own cL_law 9 ret0) (hX : va_X b L xs s s.heap) (hbl : b < s.heap.size) (hbA : ¬ Ab b0 b) (hc : kc + 1 ≤ room_1.cells ∧ ks + 6 ≤ room_1.slots) (hV : Hd G b0 V H) (hS : va_S (Ab b0) s.heap H locs) (hl : lv_has ls 9 [(0, .ref b), (1, .ref (b0 + 0)), (2, .ref (b0 + 208)), (3, .ref (b0 + 216)), (4, .ref (b0 + 217)), (5, .int x5)]) {y1 : Int32} (h1 : Sc xs L (x5 + 1) y1) {y2 : Int32} (h2 : Sc xs L (x5 + 2) y2) {y3 : Int32} (h3 : Sc xs L (x5 + 3) y3) {V1 : St} (hr : k_13 V y1 y2 y3 = some V1)
    (kk : ∀ (H1 : Heap) (locs1 : List Loc) (ls : Array Slot), Hd G b0 V1 H1 → va_S (Ab b0) s.heap H1 locs1 → lv_has ls 9 [(0, .ref b), (1, .ref (b0 + 0)), (2, .ref (b0 + 208)), (3, .ref (b0 + 216)), (4, .ref (b0 + 217)), (5, .int x5)] → W p l e room_1 s m args below meth c H1 locs1 (kc + 1) (ks + 6) Q (F0 m 2366 ls [])) : W p l e room_1 s m args below meth c H locs kc ks Q (F0 m 1091 ls []) := by
  obtain ⟨hx, hb, hrt, hml, hown, hts, hlocks, hK, hSv⟩ := id C
  unfold k_13 at hr
  refine lv_aload_n hx hb dL_law_1091 rfl (lv_at hl 1 rfl) ?_
  refine lv_aload_n hx hb dL_law_1092 rfl (lv_at hl 0 rfl) ?_
  refine lv_iload hx hb dL_law_1093 (lv_at hl 5 rfl) ?_
  refine lv_iconst (v := 1) hx hb dL_law_1095 (by decide) ?_
  refine lv_iadd hx hb dL_law_1096 ?_
  refine r_sld hx hb hX hbl hbA hS h1 dL_law_1097 ?_
  refine lv_aload_n hx hb dL_law_1098 rfl (lv_at hl 0 rfl) ?_
  refine lv_iload hx hb dL_law_1099 (lv_at hl 5 rfl) ?_
  refine lv_iconst (v := 2) hx hb dL_law_1101 (by decide) ?_
  refine lv_iadd hx hb dL_law_1102 ?_
  refine r_sld hx hb hX hbl hbA hS h2 dL_law_1103 ?_
  refine lv_aload_n hx hb dL_law_1104 rfl (lv_at hl 0 rfl) ?_
  refine lv_iload hx hb dL_law_1105 (lv_at hl 5 rfl) ?_
  refine lv_iconst (v := 3) hx hb dL_law_1107 (by decide) ?_
  refine lv_iadd hx hb dL_law_1108 ?_
  refine r_sld hx hb hX hbl hbA hS h3 dL_law_1109 ?_
  refine lv_aload_n hx hb dL_law_1110 rfl (lv_at hl 3 rfl) ?_
  obtain ⟨q1, e1, hr⟩ := ob hr
  refine cal_h (run_H (As := [.ref (b0 + 0), .int y1, .int y2, .int y3, .ref (b0 + 216)]) (rest := []) C hV hS (c_L_chapterOf l hfl G b0 V y1 y2 y3 q1 e1) q_981 q_982 q_140 q_983 dk_L_chapterOf (by decide) hl.1 rfl (Nat.le_of_ble_eq_true rfl) dL_law_1111 hc) hS (fun H locs hV hS => ?_)
  refine lv_istore (lv' := [(6, .int q1.1), (0, .ref b), (1, .ref (b0 + 0)), (2, .ref (b0 + 208)), (3, .ref (b0 + 216)), (4, .ref (b0 + 217)), (5, .int x5)]) hx hb dL_law_1114 hl (by decide) rfl (fun ls hl => ?_)
  refine lv_aload_n hx hb dL_law_1116 rfl (lv_at hl 3 rfl) ?_
  refine lv_aload_n hx hb dL_law_1117 rfl (lv_at hl 1 rfl) ?_
  refine lv_iload hx hb dL_law_1118 (lv_at hl 6 rfl) ?_
  refine lv_iconst (v := 1) hx hb dL_law_1120 (by decide) ?_
  refine lv_iadd hx hb dL_law_1121 ?_
  refine r_sld hx hb hX hbl hbA hS h1 dL_law_1122 ?_
  refine lv_aload_n hx hb dL_law_1123 rfl (lv_at hl 1 rfl) ?_
  refine lv_iload hx hb dL_law_1124 (lv_at hl 6 rfl) ?_
  refine lv_iconst (v := 2) hx hb dL_law_1126 (by decide) ?_
  refine lv_iadd hx hb dL_law_1127 ?_
  refine r_sld hx hb hX hbl hbA hS h2 dL_law_1128 ?_
  refine lv_aload_n hx hb dL_law_1129 rfl (lv_at hl 1 rfl) ?_
  refine lv_iload hx hb dL_law_1130 (lv_at hl 6 rfl) ?_
  refine lv_iconst (v := 3) hx hb dL_law_1132 (by decide) ?_
  refine lv_iadd hx hb dL_law_1133 ?_
  refine r_sld hx hb hX hbl hbA hS h3 dL_law_1134 ?_
  obtain ⟨q2, e2, hr⟩ := ob hr
  refine cal_i (run_V (As := [.int y1, .int y2, .int y3]) (rest := []) C hV hS (c_X10_chapterOf l G b0 q1.2 y1 y2 y3 q2 e2) (rcv hK hV (kd_lt z_208 (by decide)) (cel_20 z_208) rfl) q_1659 q_1660 q_1661 q_151 q_1662 dk_X10_chapterOf (by decide) hl.1 rfl (Nat.le_of_ble_eq_true rfl) dL_law_1135 hc) hS (fun H locs hV hS => ?_)
  refine lv_istore (lv' := [(7, .int q2.1), (6, .int q1.1), (0, .ref b), (1, .ref (b0 + 0)), (2, .ref (b0 + 208)), (3, .ref (b0 + 216)), (4, .ref (b0 + 217)), (5, .int x5)]) hx hb dL_law_1138 hl (by decide) rfl (fun ls hl => ?_)
  refine lv_aload_n hx hb dL_law_1140 rfl (lv_at hl 4 rfl) ?_
  obtain ⟨q3, e3, hr⟩ := ob hr
  refine cal_i (run_V (As := []) (rest := []) C hV hS (c_X10_thrown l G b0 q2.2 q3 e3) (rcv hK hV (kd_lt z_208 (by decide)) (cel_20 z_208) rfl) q_1470 q_1471 q_1472 q_151 q_1473 dk_X10_thrown (by decide) hl.1 rfl (Nat.le_of_ble_eq_true rfl) dL_law_1141 hc) hS (fun H locs hV hS => ?_)
  refine lv_iload hx hb dL_law_1144 (lv_at hl 1 rfl) ?_
  refine lv_icmp_eq (tgt := 1151) hx hb dL_law_1146 (by decide) (fun b_4 => ?_) (fun b_4 => ?_)
  · have hr := it b_4 hr
    refine lv_iload hx hb dL_law_1151 (lv_at hl 1 rfl) ?_
    refine lv_if_ne (tgt := 1168) hx hb dL_law_1153 (by decide) (fun b_5 => ?_) (fun b_5 => ?_)
    · have hr := ie b_5 hr
      refine lv_goto (tgt := 2366) hx hb dL_law_1168 (by decide) ?_
      obtain rfl := Option.some.inj hr
      exact kk _ _ ls hV hS (lv_sub hl [2, 3, 4, 5, 6, 7] rfl)
    · have hr := it b_5 hr
      refine lv_aload_n hx hb dL_law_1156 rfl (lv_at hl 5 rfl) ?_
      refine lv_iconst (v := 0) hx hb dL_law_1157 (by decide) ?_
      refine a_28 C hV dL_law_1158 ?_
      refine lv_iload hx hb dL_law_1159 (lv_at hl 0 rfl) ?_
      refine lv_i2l (v := (q2.1).toInt64) hx hb dL_law_1161 rfl ?_
      refine r_lcmp (x := q2.2 216 0) (y := q2.1) hx hb dL_law_1162 ?_
      refine lv_if_eq (tgt := 1168) hx hb dL_law_1163 (by decide) (fun b_6 => ?_) (fun b_6 => ?_)
      · have hr := it b_6 hr
        refine lv_goto (tgt := 2366) hx hb dL_law_1168 (by decide) ?_
        obtain rfl := Option.some.inj hr
        exact kk _ _ ls hV hS (lv_sub hl [2, 3, 4, 5, 6, 7] rfl)
      · have hr := ie b_6 hr
        cases hr
  · have hr := ie b_4 hr
    cases hr
set_option maxHeartbeats 4000000 in
set_option maxRecDepth 100000 in
theorem kc_14 (hfl : l.stackTraces = false) (C : Cx p l s m args meth c G b0 R_own cL_law 9 ret0) (hX : va_X b L xs s s.heap) (hbl : b < s.heap.size) (hbA : ¬ Ab b0 b) (hc : kc + 1 ≤ room_1.cells ∧ ks + 6 ≤ room_1.slots) (hV : Hd G b0 V H) (hS : va_S (Ab b0) s.heap H locs) (hl : lv_has ls 9 [(0, .ref b), (1, .ref (b0 + 0)), (2, .ref (b0 + 208)), (3, .ref (b0 + 216)), (4, .ref (b0 + 217)), (5, .int x5)]) {y1 : Int32} (h1 : Sc xs L (x5 + 1) y1) {y2 : Int32} (h2 : Sc xs L (x5 + 2) y2) {V1 : St} (hr : k_14 V y1 y2 = some V1)
    (kk : ∀ (H1 : Heap) (locs1 : List Loc) (ls : Array Slot), Hd G b0 V1 H1 → va_S (Ab b0) s.heap H1 locs1 → lv_has ls 9 [(0, .ref b), (1, .ref (b0 + 0)), (2, .ref (b0 + 208)), (3, .ref (b0 + 216)), (4, .ref (b0 + 217)), (5, .int x5)] → W p l e room_1 s m args below meth c H1 locs1 (kc + 1) (ks + 6) Q (F0 m 2366 ls [])) : W p l e room_1 s m args below meth c H locs kc ks Q (F0 m 1171 ls []) := by
  obtain ⟨hx, hb, hrt, hml, hown, hts, hlocks, hK, hSv⟩ := id C
  unfold k_14 at hr
  refine lv_aload_n hx hb dL_law_1171 rfl (lv_at hl 1 rfl) ?_
  refine lv_aload_n hx hb dL_law_1172 rfl (lv_at hl 0 rfl) ?_
  refine lv_iload hx hb dL_law_1173 (lv_at hl 5 rfl) ?_
  refine lv_iconst (v := 1) hx hb dL_law_1175 (by decide) ?_
  refine lv_iadd hx hb dL_law_1176 ?_
  refine r_sld hx hb hX hbl hbA hS h1 dL_law_1177 ?_
  refine lv_aload_n hx hb dL_law_1178 rfl (lv_at hl 0 rfl) ?_
  refine lv_iload hx hb dL_law_1179 (lv_at hl 5 rfl) ?_
  refine lv_iconst (v := 2) hx hb dL_law_1181 (by decide) ?_
  refine lv_iadd hx hb dL_law_1182 ?_
  refine r_sld hx hb hX hbl hbA hS h2 dL_law_1183 ?_
  refine lv_aload_n hx hb dL_law_1184 rfl (lv_at hl 3 rfl) ?_
  obtain ⟨q1, e1, hr⟩ := ob hr
  refine cal_h (run_H (As := [.ref (b0 + 0), .int y1, .int y2, .ref (b0 + 216)]) (rest := []) C hV hS (c_L_noteOf l hfl G b0 V y1 y2 q1 e1) q_994 q_995 q_140 q_996 dk_L_noteOf (by decide) hl.1 rfl (Nat.le_of_ble_eq_true rfl) dL_law_1185 hc) hS (fun H locs hV hS => ?_)
  refine lv_istore (lv' := [(6, .int q1.1), (0, .ref b), (1, .ref (b0 + 0)), (2, .ref (b0 + 208)), (3, .ref (b0 + 216)), (4, .ref (b0 + 217)), (5, .int x5)]) hx hb dL_law_1188 hl (by decide) rfl (fun ls hl => ?_)
  refine lv_aload_n hx hb dL_law_1190 rfl (lv_at hl 3 rfl) ?_
  refine lv_aload_n hx hb dL_law_1191 rfl (lv_at hl 1 rfl) ?_
  refine lv_iload hx hb dL_law_1192 (lv_at hl 6 rfl) ?_
  refine lv_iconst (v := 1) hx hb dL_law_1194 (by decide) ?_
  refine lv_iadd hx hb dL_law_1195 ?_
  refine r_sld hx hb hX hbl hbA hS h1 dL_law_1196 ?_
  refine lv_aload_n hx hb dL_law_1197 rfl (lv_at hl 1 rfl) ?_
  refine lv_iload hx hb dL_law_1198 (lv_at hl 6 rfl) ?_
  refine lv_iconst (v := 2) hx hb dL_law_1200 (by decide) ?_
  refine lv_iadd hx hb dL_law_1201 ?_
  refine r_sld hx hb hX hbl hbA hS h2 dL_law_1202 ?_
  obtain ⟨q2, e2, hr⟩ := ob hr
  refine cal_i (run_V (As := [.int y1, .int y2]) (rest := []) C hV hS (c_X10_noteOf l G b0 q1.2 y1 y2 q2 e2) (rcv hK hV (kd_lt z_208 (by decide)) (cel_20 z_208) rfl) q_1663 q_1664 q_1665 q_151 q_1666 dk_X10_noteOf (by decide) hl.1 rfl (Nat.le_of_ble_eq_true rfl) dL_law_1203 hc) hS (fun H locs hV hS => ?_)
  refine lv_istore (lv' := [(7, .int q2.1), (6, .int q1.1), (0, .ref b), (1, .ref (b0 + 0)), (2, .ref (b0 + 208)), (3, .ref (b0 + 216)), (4, .ref (b0 + 217)), (5, .int x5)]) hx hb dL_law_1206 hl (by decide) rfl (fun ls hl => ?_)
  refine lv_aload_n hx hb dL_law_1208 rfl (lv_at hl 4 rfl) ?_
  obtain ⟨q3, e3, hr⟩ := ob hr
  refine cal_i (run_V (As := []) (rest := []) C hV hS (c_X10_thrown l G b0 q2.2 q3 e3) (rcv hK hV (kd_lt z_208 (by decide)) (cel_20 z_208) rfl) q_1470 q_1471 q_1472 q_151 q_1473 dk_X10_thrown (by decide) hl.1 rfl (Nat.le_of_ble_eq_true rfl) dL_law_1209 hc) hS (fun H locs hV hS => ?_)
  refine lv_iload hx hb dL_law_1212 (lv_at hl 1 rfl) ?_
  refine lv_icmp_eq (tgt := 1219) hx hb dL_law_1214 (by decide) (fun b_4 => ?_) (fun b_4 => ?_)
  · have hr := it b_4 hr
    refine lv_iload hx hb dL_law_1219 (lv_at hl 1 rfl) ?_
    refine lv_if_ne (tgt := 1236) hx hb dL_law_1221 (by decide) (fun b_5 => ?_) (fun b_5 => ?_)
    · have hr := ie b_5 hr
      refine lv_goto (tgt := 2366) hx hb dL_law_1236 (by decide) ?_
      obtain rfl := Option.some.inj hr
      exact kk _ _ ls hV hS (lv_sub hl [2, 3, 4, 5, 6, 7] rfl)
    · have hr := it b_5 hr
      refine lv_aload_n hx hb dL_law_1224 rfl (lv_at hl 5 rfl) ?_
      refine lv_iconst (v := 0) hx hb dL_law_1225 (by decide) ?_
      refine a_28 C hV dL_law_1226 ?_
      refine lv_iload hx hb dL_law_1227 (lv_at hl 0 rfl) ?_
      refine lv_i2l (v := (q2.1).toInt64) hx hb dL_law_1229 rfl ?_
      refine r_lcmp (x := q2.2 216 0) (y := q2.1) hx hb dL_law_1230 ?_
      refine lv_if_eq (tgt := 1236) hx hb dL_law_1231 (by decide) (fun b_6 => ?_) (fun b_6 => ?_)
      · have hr := it b_6 hr
        refine lv_goto (tgt := 2366) hx hb dL_law_1236 (by decide) ?_
        obtain rfl := Option.some.inj hr
        exact kk _ _ ls hV hS (lv_sub hl [2, 3, 4, 5, 6, 7] rfl)
      · have hr := ie b_6 hr
        cases hr
  · have hr := ie b_4 hr
    cases hr
set_option maxHeartbeats 4000000 in
set_option maxRecDepth 100000 in
theorem kc_15 (hfl : l.stackTraces = false) (C : Cx p l s m args meth c G b0 R_own cL_law 9 ret0) (hX : va_X b L xs s s.heap) (hbl : b < s.heap.size) (hbA : ¬ Ab b0 b) (hc : kc + 1 ≤ room_1.cells ∧ ks + 6 ≤ room_1.slots) (hV : Hd G b0 V H) (hS : va_S (Ab b0) s.heap H locs) (hl : lv_has ls 9 [(0, .ref b), (1, .ref (b0 + 0)), (2, .ref (b0 + 208)), (3, .ref (b0 + 216)), (4, .ref (b0 + 217)), (5, .int x5)]) {y1 : Int32} (h1 : Sc xs L (x5 + 1) y1) {V1 : St} (hr : k_15 V y1 = some V1)
    (kk : ∀ (H1 : Heap) (locs1 : List Loc) (ls : Array Slot), Hd G b0 V1 H1 → va_S (Ab b0) s.heap H1 locs1 → lv_has ls 9 [(0, .ref b), (1, .ref (b0 + 0)), (2, .ref (b0 + 208)), (3, .ref (b0 + 216)), (4, .ref (b0 + 217)), (5, .int x5)] → W p l e room_1 s m args below meth c H1 locs1 (kc + 1) (ks + 6) Q (F0 m 2366 ls [])) : W p l e room_1 s m args below meth c H locs kc ks Q (F0 m 1239 ls []) := by
  obtain ⟨hx, hb, hrt, hml, hown, hts, hlocks, hK, hSv⟩ := id C
  unfold k_15 at hr
  refine lv_aload_n hx hb dL_law_1239 rfl (lv_at hl 1 rfl) ?_
  refine lv_aload_n hx hb dL_law_1240 rfl (lv_at hl 0 rfl) ?_
  refine lv_iload hx hb dL_law_1241 (lv_at hl 5 rfl) ?_
  refine lv_iconst (v := 1) hx hb dL_law_1243 (by decide) ?_
  refine lv_iadd hx hb dL_law_1244 ?_
  refine r_sld hx hb hX hbl hbA hS h1 dL_law_1245 ?_
  refine lv_aload_n hx hb dL_law_1246 rfl (lv_at hl 3 rfl) ?_
  obtain ⟨q1, e1, hr⟩ := ob hr
  refine cal_h (run_H (As := [.ref (b0 + 0), .int y1, .ref (b0 + 216)]) (rest := []) C hV hS (c_L_least l hfl G b0 V y1 q1 e1) q_1009 q_1010 q_140 q_1011 dk_L_least (by decide) hl.1 rfl (Nat.le_of_ble_eq_true rfl) dL_law_1247 hc) hS (fun H locs hV hS => ?_)
  refine lv_istore (lv' := [(6, .int q1.1), (0, .ref b), (1, .ref (b0 + 0)), (2, .ref (b0 + 208)), (3, .ref (b0 + 216)), (4, .ref (b0 + 217)), (5, .int x5)]) hx hb dL_law_1250 hl (by decide) rfl (fun ls hl => ?_)
  refine lv_aload_n hx hb dL_law_1252 rfl (lv_at hl 3 rfl) ?_
  refine lv_aload_n hx hb dL_law_1253 rfl (lv_at hl 1 rfl) ?_
  refine lv_iload hx hb dL_law_1254 (lv_at hl 6 rfl) ?_
  refine lv_iconst (v := 1) hx hb dL_law_1256 (by decide) ?_
  refine lv_iadd hx hb dL_law_1257 ?_
  refine r_sld hx hb hX hbl hbA hS h1 dL_law_1258 ?_
  obtain ⟨q2, e2, hr⟩ := ob hr
  refine cal_i (run_V (As := [.int y1]) (rest := []) C hV hS (c_X10_least l G b0 q1.2 y1 q2 e2) (rcv hK hV (kd_lt z_208 (by decide)) (cel_20 z_208) rfl) q_1679 q_1680 q_1681 q_151 q_1682 dk_X10_least (by decide) hl.1 rfl (Nat.le_of_ble_eq_true rfl) dL_law_1259 hc) hS (fun H locs hV hS => ?_)
  refine lv_istore (lv' := [(7, .int q2.1), (6, .int q1.1), (0, .ref b), (1, .ref (b0 + 0)), (2, .ref (b0 + 208)), (3, .ref (b0 + 216)), (4, .ref (b0 + 217)), (5, .int x5)]) hx hb dL_law_1262 hl (by decide) rfl (fun ls hl => ?_)
  refine lv_aload_n hx hb dL_law_1264 rfl (lv_at hl 4 rfl) ?_
  obtain ⟨q3, e3, hr⟩ := ob hr
  refine cal_i (run_V (As := []) (rest := []) C hV hS (c_X10_thrown l G b0 q2.2 q3 e3) (rcv hK hV (kd_lt z_208 (by decide)) (cel_20 z_208) rfl) q_1470 q_1471 q_1472 q_151 q_1473 dk_X10_thrown (by decide) hl.1 rfl (Nat.le_of_ble_eq_true rfl) dL_law_1265 hc) hS (fun H locs hV hS => ?_)
  refine lv_iload hx hb dL_law_1268 (lv_at hl 1 rfl) ?_
  refine lv_icmp_eq (tgt := 1275) hx hb dL_law_1270 (by decide) (fun b_4 => ?_) (fun b_4 => ?_)
  · have hr := it b_4 hr
    refine lv_iload hx hb dL_law_1275 (lv_at hl 1 rfl) ?_
    refine lv_if_ne (tgt := 1292) hx hb dL_law_1277 (by decide) (fun b_5 => ?_) (fun b_5 => ?_)
    · have hr := ie b_5 hr
      refine lv_goto (tgt := 2366) hx hb dL_law_1292 (by decide) ?_
      obtain rfl := Option.some.inj hr
      exact kk _ _ ls hV hS (lv_sub hl [2, 3, 4, 5, 6, 7] rfl)
    · have hr := it b_5 hr
      refine lv_aload_n hx hb dL_law_1280 rfl (lv_at hl 5 rfl) ?_
      refine lv_iconst (v := 0) hx hb dL_law_1281 (by decide) ?_
      refine a_28 C hV dL_law_1282 ?_
      refine lv_iload hx hb dL_law_1283 (lv_at hl 0 rfl) ?_
      refine lv_i2l (v := (q2.1).toInt64) hx hb dL_law_1285 rfl ?_
      refine r_lcmp (x := q2.2 216 0) (y := q2.1) hx hb dL_law_1286 ?_
      refine lv_if_eq (tgt := 1292) hx hb dL_law_1287 (by decide) (fun b_6 => ?_) (fun b_6 => ?_)
      · have hr := it b_6 hr
        refine lv_goto (tgt := 2366) hx hb dL_law_1292 (by decide) ?_
        obtain rfl := Option.some.inj hr
        exact kk _ _ ls hV hS (lv_sub hl [2, 3, 4, 5, 6, 7] rfl)
      · have hr := ie b_6 hr
        cases hr
  · have hr := ie b_4 hr
    cases hr
set_option maxHeartbeats 4000000 in
set_option maxRecDepth 100000 in
theorem kc_16 (hfl : l.stackTraces = false) (C : Cx p l s m args meth c G b0 R_own cL_law 9 ret0) (hX : va_X b L xs s s.heap) (hbl : b < s.heap.size) (hbA : ¬ Ab b0 b) (hc : kc + 1 ≤ room_1.cells ∧ ks + 6 ≤ room_1.slots) (hV : Hd G b0 V H) (hS : va_S (Ab b0) s.heap H locs) (hl : lv_has ls 9 [(0, .ref b), (1, .ref (b0 + 0)), (2, .ref (b0 + 208)), (3, .ref (b0 + 216)), (4, .ref (b0 + 217)), (5, .int x5)]) {y1 : Int32} (h1 : Sc xs L (x5 + 1) y1) {V1 : St} (hr : k_16 V y1 = some V1)
    (kk : ∀ (H1 : Heap) (locs1 : List Loc) (ls : Array Slot), Hd G b0 V1 H1 → va_S (Ab b0) s.heap H1 locs1 → lv_has ls 9 [(0, .ref b), (1, .ref (b0 + 0)), (2, .ref (b0 + 208)), (3, .ref (b0 + 216)), (4, .ref (b0 + 217)), (5, .int x5)] → W p l e room_1 s m args below meth c H1 locs1 (kc + 1) (ks + 6) Q (F0 m 2366 ls [])) : W p l e room_1 s m args below meth c H locs kc ks Q (F0 m 1295 ls []) := by
  obtain ⟨hx, hb, hrt, hml, hown, hts, hlocks, hK, hSv⟩ := id C
  unfold k_16 at hr
  refine lv_aload_n hx hb dL_law_1295 rfl (lv_at hl 1 rfl) ?_
  refine lv_aload_n hx hb dL_law_1296 rfl (lv_at hl 0 rfl) ?_
  refine lv_iload hx hb dL_law_1297 (lv_at hl 5 rfl) ?_
  refine lv_iconst (v := 1) hx hb dL_law_1299 (by decide) ?_
  refine lv_iadd hx hb dL_law_1300 ?_
  refine r_sld hx hb hX hbl hbA hS h1 dL_law_1301 ?_
  refine lv_aload_n hx hb dL_law_1302 rfl (lv_at hl 3 rfl) ?_
  obtain ⟨q1, e1, hr⟩ := ob hr
  refine cal_h (run_H (As := [.ref (b0 + 0), .int y1, .ref (b0 + 216)]) (rest := []) C hV hS (c_L_leastAgain l hfl G b0 V y1 q1 e1) q_1019 q_1020 q_140 q_1021 dk_L_leastAgain (by decide) hl.1 rfl (Nat.le_of_ble_eq_true rfl) dL_law_1303 hc) hS (fun H locs hV hS => ?_)
  refine lv_istore (lv' := [(6, .int q1.1), (0, .ref b), (1, .ref (b0 + 0)), (2, .ref (b0 + 208)), (3, .ref (b0 + 216)), (4, .ref (b0 + 217)), (5, .int x5)]) hx hb dL_law_1306 hl (by decide) rfl (fun ls hl => ?_)
  refine lv_aload_n hx hb dL_law_1308 rfl (lv_at hl 3 rfl) ?_
  refine lv_aload_n hx hb dL_law_1309 rfl (lv_at hl 1 rfl) ?_
  refine lv_iload hx hb dL_law_1310 (lv_at hl 6 rfl) ?_
  refine lv_iconst (v := 1) hx hb dL_law_1312 (by decide) ?_
  refine lv_iadd hx hb dL_law_1313 ?_
  refine r_sld hx hb hX hbl hbA hS h1 dL_law_1314 ?_
  obtain ⟨q2, e2, hr⟩ := ob hr
  refine cal_i (run_V (As := [.int y1]) (rest := []) C hV hS (c_X10_leastAgain l G b0 q1.2 y1 q2 e2) (rcv hK hV (kd_lt z_208 (by decide)) (cel_20 z_208) rfl) q_1687 q_1688 q_1689 q_151 q_1690 dk_X10_leastAgain (by decide) hl.1 rfl (Nat.le_of_ble_eq_true rfl) dL_law_1315 hc) hS (fun H locs hV hS => ?_)
  refine lv_istore (lv' := [(7, .int q2.1), (6, .int q1.1), (0, .ref b), (1, .ref (b0 + 0)), (2, .ref (b0 + 208)), (3, .ref (b0 + 216)), (4, .ref (b0 + 217)), (5, .int x5)]) hx hb dL_law_1318 hl (by decide) rfl (fun ls hl => ?_)
  refine lv_aload_n hx hb dL_law_1320 rfl (lv_at hl 4 rfl) ?_
  obtain ⟨q3, e3, hr⟩ := ob hr
  refine cal_i (run_V (As := []) (rest := []) C hV hS (c_X10_thrown l G b0 q2.2 q3 e3) (rcv hK hV (kd_lt z_208 (by decide)) (cel_20 z_208) rfl) q_1470 q_1471 q_1472 q_151 q_1473 dk_X10_thrown (by decide) hl.1 rfl (Nat.le_of_ble_eq_true rfl) dL_law_1321 hc) hS (fun H locs hV hS => ?_)
  refine lv_iload hx hb dL_law_1324 (lv_at hl 1 rfl) ?_
  refine lv_icmp_eq (tgt := 1331) hx hb dL_law_1326 (by decide) (fun b_4 => ?_) (fun b_4 => ?_)
  · have hr := it b_4 hr
    refine lv_iload hx hb dL_law_1331 (lv_at hl 1 rfl) ?_
    refine lv_if_ne (tgt := 1348) hx hb dL_law_1333 (by decide) (fun b_5 => ?_) (fun b_5 => ?_)
    · have hr := ie b_5 hr
      refine lv_goto (tgt := 2366) hx hb dL_law_1348 (by decide) ?_
      obtain rfl := Option.some.inj hr
      exact kk _ _ ls hV hS (lv_sub hl [2, 3, 4, 5, 6, 7] rfl)
    · have hr := it b_5 hr
      refine lv_aload_n hx hb dL_law_1336 rfl (lv_at hl 5 rfl) ?_
      refine lv_iconst (v := 0) hx hb dL_law_1337 (by decide) ?_
      refine a_28 C hV dL_law_1338 ?_
      refine lv_iload hx hb dL_law_1339 (lv_at hl 0 rfl) ?_
      refine lv_i2l (v := (q2.1).toInt64) hx hb dL_law_1341 rfl ?_
      refine r_lcmp (x := q2.2 216 0) (y := q2.1) hx hb dL_law_1342 ?_
      refine lv_if_eq (tgt := 1348) hx hb dL_law_1343 (by decide) (fun b_6 => ?_) (fun b_6 => ?_)
      · have hr := it b_6 hr
        refine lv_goto (tgt := 2366) hx hb dL_law_1348 (by decide) ?_
        obtain rfl := Option.some.inj hr
        exact kk _ _ ls hV hS (lv_sub hl [2, 3, 4, 5, 6, 7] rfl)
      · have hr := ie b_6 hr
        cases hr
  · have hr := ie b_4 hr
    cases hr
set_option maxHeartbeats 4000000 in
set_option maxRecDepth 100000 in
theorem kc_17 (hfl : l.stackTraces = false) (C : Cx p l s m args meth c G b0 R_own cL_law 9 ret0) (hX : va_X b L xs s s.heap) (hbl : b < s.heap.size) (hbA : ¬ Ab b0 b) (hc : kc + 1 ≤ room_1.cells ∧ ks + 6 ≤ room_1.slots) (hV : Hd G b0 V H) (hS : va_S (Ab b0) s.heap H locs) (hl : lv_has ls 9 [(0, .ref b), (1, .ref (b0 + 0)), (2, .ref (b0 + 208)), (3, .ref (b0 + 216)), (4, .ref (b0 + 217)), (5, .int x5)]) {y1 : Int32} (h1 : Sc xs L (x5 + 1) y1) {y2 : Int32} (h2 : Sc xs L (x5 + 2) y2) {V1 : St} (hr : k_17 V y1 y2 = some V1)
    (kk : ∀ (H1 : Heap) (locs1 : List Loc) (ls : Array Slot), Hd G b0 V1 H1 → va_S (Ab b0) s.heap H1 locs1 → lv_has ls 9 [(0, .ref b), (1, .ref (b0 + 0)), (2, .ref (b0 + 208)), (3, .ref (b0 + 216)), (4, .ref (b0 + 217)), (5, .int x5)] → W p l e room_1 s m args below meth c H1 locs1 (kc + 1) (ks + 6) Q (F0 m 2366 ls [])) : W p l e room_1 s m args below meth c H locs kc ks Q (F0 m 1351 ls []) := by
  obtain ⟨hx, hb, hrt, hml, hown, hts, hlocks, hK, hSv⟩ := id C
  unfold k_17 at hr
  refine lv_aload_n hx hb dL_law_1351 rfl (lv_at hl 1 rfl) ?_
  refine lv_aload_n hx hb dL_law_1352 rfl (lv_at hl 0 rfl) ?_
  refine lv_iload hx hb dL_law_1353 (lv_at hl 5 rfl) ?_
  refine lv_iconst (v := 1) hx hb dL_law_1355 (by decide) ?_
  refine lv_iadd hx hb dL_law_1356 ?_
  refine r_sld hx hb hX hbl hbA hS h1 dL_law_1357 ?_
  refine lv_aload_n hx hb dL_law_1358 rfl (lv_at hl 0 rfl) ?_
  refine lv_iload hx hb dL_law_1359 (lv_at hl 5 rfl) ?_
  refine lv_iconst (v := 2) hx hb dL_law_1361 (by decide) ?_
  refine lv_iadd hx hb dL_law_1362 ?_
  refine r_sld hx hb hX hbl hbA hS h2 dL_law_1363 ?_
  suffices hM : W p l e room_1 s m args below meth c H locs kc ks Q (F0 m 1372 ls [.int (bz y2), .int y1, .ref (b0 + 0)]) from (by
      refine lv_if_eq (tgt := 1371) hx hb dL_law_1364 (by decide) (fun z => ?_) (fun z => ?_)
      · rw [show bz y2 = 0 from if_pos z] at hM
        refine lv_iconst (v := 0) hx hb dL_law_1371 (by decide) ?_
        exact hM
      · rw [show bz y2 = 1 from if_neg z] at hM
        refine lv_iconst (v := 1) hx hb dL_law_1367 (by decide) ?_
        refine lv_goto (tgt := 1372) hx hb dL_law_1368 (by decide) ?_
        exact hM)
  refine lv_aload_n hx hb dL_law_1372 rfl (lv_at hl 3 rfl) ?_
  obtain ⟨q1, e1, hr⟩ := ob hr
  refine cal_h (run_H (As := [.ref (b0 + 0), .int y1, .int (bz y2), .ref (b0 + 216)]) (rest := []) C hV hS (c_L_bestMend l hfl G b0 V y1 (bz y2) q1 e1) q_1027 q_1028 q_140 q_1029 dk_L_bestMend (by decide) hl.1 rfl (Nat.le_of_ble_eq_true rfl) dL_law_1373 hc) hS (fun H locs hV hS => ?_)
  refine lv_istore (lv' := [(6, .int q1.1), (0, .ref b), (1, .ref (b0 + 0)), (2, .ref (b0 + 208)), (3, .ref (b0 + 216)), (4, .ref (b0 + 217)), (5, .int x5)]) hx hb dL_law_1376 hl (by decide) rfl (fun ls hl => ?_)
  refine lv_aload_n hx hb dL_law_1378 rfl (lv_at hl 3 rfl) ?_
  refine lv_aload_n hx hb dL_law_1379 rfl (lv_at hl 1 rfl) ?_
  refine lv_iload hx hb dL_law_1380 (lv_at hl 6 rfl) ?_
  refine lv_iconst (v := 1) hx hb dL_law_1382 (by decide) ?_
  refine lv_iadd hx hb dL_law_1383 ?_
  refine r_sld hx hb hX hbl hbA hS h1 dL_law_1384 ?_
  refine lv_aload_n hx hb dL_law_1385 rfl (lv_at hl 1 rfl) ?_
  refine lv_iload hx hb dL_law_1386 (lv_at hl 6 rfl) ?_
  refine lv_iconst (v := 2) hx hb dL_law_1388 (by decide) ?_
  refine lv_iadd hx hb dL_law_1389 ?_
  refine r_sld hx hb hX hbl hbA hS h2 dL_law_1390 ?_
  suffices hM : W p l e room_1 s m args below meth c H locs (kc + 1) (ks + 6) Q (F0 m 1399 ls [.int (bz y2), .int y1, .ref (b0 + 208)]) from (by
      refine lv_if_eq (tgt := 1398) hx hb dL_law_1391 (by decide) (fun z => ?_) (fun z => ?_)
      · rw [show bz y2 = 0 from if_pos z] at hM
        refine lv_iconst (v := 0) hx hb dL_law_1398 (by decide) ?_
        exact hM
      · rw [show bz y2 = 1 from if_neg z] at hM
        refine lv_iconst (v := 1) hx hb dL_law_1394 (by decide) ?_
        refine lv_goto (tgt := 1399) hx hb dL_law_1395 (by decide) ?_
        exact hM)
  obtain ⟨q2, e2, hr⟩ := ob hr
  refine cal_i (run_V (As := [.int y1, .int (bz y2)]) (rest := []) C hV hS (c_X10_bestMend l G b0 q1.2 y1 (bz y2) q2 e2) (rcv hK hV (kd_lt z_208 (by decide)) (cel_20 z_208) rfl) q_1692 q_1693 q_1694 q_151 q_1695 dk_X10_bestMend (by decide) hl.1 rfl (Nat.le_of_ble_eq_true rfl) dL_law_1399 hc) hS (fun H locs hV hS => ?_)
  refine lv_istore (lv' := [(7, .int q2.1), (6, .int q1.1), (0, .ref b), (1, .ref (b0 + 0)), (2, .ref (b0 + 208)), (3, .ref (b0 + 216)), (4, .ref (b0 + 217)), (5, .int x5)]) hx hb dL_law_1402 hl (by decide) rfl (fun ls hl => ?_)
  refine lv_aload_n hx hb dL_law_1404 rfl (lv_at hl 4 rfl) ?_
  obtain ⟨q3, e3, hr⟩ := ob hr
  refine cal_i (run_V (As := []) (rest := []) C hV hS (c_X10_thrown l G b0 q2.2 q3 e3) (rcv hK hV (kd_lt z_208 (by decide)) (cel_20 z_208) rfl) q_1470 q_1471 q_1472 q_151 q_1473 dk_X10_thrown (by decide) hl.1 rfl (Nat.le_of_ble_eq_true rfl) dL_law_1405 hc) hS (fun H locs hV hS => ?_)
  refine lv_iload hx hb dL_law_1408 (lv_at hl 1 rfl) ?_
  refine lv_icmp_eq (tgt := 1415) hx hb dL_law_1410 (by decide) (fun b_4 => ?_) (fun b_4 => ?_)
  · have hr := it b_4 hr
    refine lv_iload hx hb dL_law_1415 (lv_at hl 1 rfl) ?_
    refine lv_if_ne (tgt := 1432) hx hb dL_law_1417 (by decide) (fun b_5 => ?_) (fun b_5 => ?_)
    · have hr := ie b_5 hr
      refine lv_goto (tgt := 2366) hx hb dL_law_1432 (by decide) ?_
      obtain rfl := Option.some.inj hr
      exact kk _ _ ls hV hS (lv_sub hl [2, 3, 4, 5, 6, 7] rfl)
    · have hr := it b_5 hr
      refine lv_aload_n hx hb dL_law_1420 rfl (lv_at hl 5 rfl) ?_
      refine lv_iconst (v := 0) hx hb dL_law_1421 (by decide) ?_
      refine a_28 C hV dL_law_1422 ?_
      refine lv_iload hx hb dL_law_1423 (lv_at hl 0 rfl) ?_
      refine lv_i2l (v := (q2.1).toInt64) hx hb dL_law_1425 rfl ?_
      refine r_lcmp (x := q2.2 216 0) (y := q2.1) hx hb dL_law_1426 ?_
      refine lv_if_eq (tgt := 1432) hx hb dL_law_1427 (by decide) (fun b_6 => ?_) (fun b_6 => ?_)
      · have hr := it b_6 hr
        refine lv_goto (tgt := 2366) hx hb dL_law_1432 (by decide) ?_
        obtain rfl := Option.some.inj hr
        exact kk _ _ ls hV hS (lv_sub hl [2, 3, 4, 5, 6, 7] rfl)
      · have hr := ie b_6 hr
        cases hr
  · have hr := ie b_4 hr
    cases hr
end LK
