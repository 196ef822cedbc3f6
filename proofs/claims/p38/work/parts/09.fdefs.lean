/-- the bytes of the String constant i -/
def stx (i : Nat) : Option (List Int32) := (SL[i]?).map (fun q => byS q.2.2)
def f_J0_length_8abf5 (i : Nat) : Option Int32 := (stx i).bind fun t => some (nI t.length)
def f_J0_charAt_5068e (i : Nat) (x : Int32) : Option Int32 := (stx i).bind fun t => (ix x t.length).bind fun j => some (t.getD j 0)
def f_X0_copyFrom (V : St) (k0 : Nat) (k1 : Nat) : Option (St) :=
  some (up (up V k0 0 (V k1 0)) k0 1 ((up V k0 0 (V k1 0)) k1 1))
def f_J9_floorMod_7cf53 (x0 : Int32) (x1 : Int32) : Option (Int32) :=
  if x1 = 0 then none else
  if 0 ≤ (x0 ^^^ x1) then
    some (x0 - x0 / x1 * x1)
  else
    if (x0 - x0 / x1 * x1) = 0 then
      some (x0 - x0 / x1 * x1)
    else
      some ((x0 - x0 / x1 * x1) + x1)
def f_X3_copyFrom (V : St) (k0 : Nat) (k1 : Nat) : Option (St) :=
  some (up (up (up (up (up V k0 0 (V k1 0)) k0 1 ((up V k0 0 (V k1 0)) k1 1)) k0 2 ((up (up V k0 0 (V k1 0)) k0 1 ((up V k0 0 (V k1 0)) k1 1)) k1 2)) k0 3 ((up (up (up V k0 0 (V k1 0)) k0 1 ((up V k0 0 (V k1 0)) k1 1)) k0 2 ((up (up V k0 0 (V k1 0)) k0 1 ((up V k0 0 (V k1 0)) k1 1)) k1 2)) k1 3)) k0 4 ((up (up (up (up V k0 0 (V k1 0)) k0 1 ((up V k0 0 (V k1 0)) k1 1)) k0 2 ((up (up V k0 0 (V k1 0)) k0 1 ((up V k0 0 (V k1 0)) k1 1)) k1 2)) k0 3 ((up (up (up V k0 0 (V k1 0)) k0 1 ((up V k0 0 (V k1 0)) k1 1)) k0 2 ((up (up V k0 0 (V k1 0)) k0 1 ((up V k0 0 (V k1 0)) k1 1)) k1 2)) k1 3)) k1 4))
def f_X4_copyFrom (V : St) (k0 : Nat) (k1 : Nat) : Option (St) :=
  some (up (up (up V k0 0 (V k1 0)) k0 1 ((up V k0 0 (V k1 0)) k1 1)) k0 2 ((up (up V k0 0 (V k1 0)) k0 1 ((up V k0 0 (V k1 0)) k1 1)) k1 2))
def f_X8_copyFrom_b58 : Nat → St → Nat → Nat → Int32 → Option (St)
  | 0, _, _, _, _ => none
  | n + 1, V, k0, k1, x2 =>
    if 6 ≤ x2 then
      some (up (up (up (up (up (up V k0 3 (V k1 3)) k0 4 ((up V k0 3 (V k1 3)) k1 4)) k0 5 ((up (up V k0 3 (V k1 3)) k0 4 ((up V k0 3 (V k1 3)) k1 4)) k1 5)) k0 6 ((up (up (up V k0 3 (V k1 3)) k0 4 ((up V k0 3 (V k1 3)) k1 4)) k0 5 ((up (up V k0 3 (V k1 3)) k0 4 ((up V k0 3 (V k1 3)) k1 4)) k1 5)) k1 6)) k0 7 ((up (up (up (up V k0 3 (V k1 3)) k0 4 ((up V k0 3 (V k1 3)) k1 4)) k0 5 ((up (up V k0 3 (V k1 3)) k0 4 ((up V k0 3 (V k1 3)) k1 4)) k1 5)) k0 6 ((up (up (up V k0 3 (V k1 3)) k0 4 ((up V k0 3 (V k1 3)) k1 4)) k0 5 ((up (up V k0 3 (V k1 3)) k0 4 ((up V k0 3 (V k1 3)) k1 4)) k1 5)) k1 6)) k1 7)) k0 8 ((up (up (up (up (up V k0 3 (V k1 3)) k0 4 ((up V k0 3 (V k1 3)) k1 4)) k0 5 ((up (up V k0 3 (V k1 3)) k0 4 ((up V k0 3 (V k1 3)) k1 4)) k1 5)) k0 6 ((up (up (up V k0 3 (V k1 3)) k0 4 ((up V k0 3 (V k1 3)) k1 4)) k0 5 ((up (up V k0 3 (V k1 3)) k0 4 ((up V k0 3 (V k1 3)) k1 4)) k1 5)) k1 6)) k0 7 ((up (up (up (up V k0 3 (V k1 3)) k0 4 ((up V k0 3 (V k1 3)) k1 4)) k0 5 ((up (up V k0 3 (V k1 3)) k0 4 ((up V k0 3 (V k1 3)) k1 4)) k1 5)) k0 6 ((up (up (up V k0 3 (V k1 3)) k0 4 ((up V k0 3 (V k1 3)) k1 4)) k0 5 ((up (up V k0 3 (V k1 3)) k0 4 ((up V k0 3 (V k1 3)) k1 4)) k1 5)) k1 6)) k1 7)) k1 8))
    else
      (ix x2 6).bind fun j2 =>
      (ix x2 6).bind fun j3 =>
      (f_X4_copyFrom V ((k0 + 3) + 8 + j2) ((k1 + 3) + 8 + j3)).bind fun q4 =>
      f_X8_copyFrom_b58 n q4 k0 k1 (x2 + 1)
def f_X8_copyFrom_b30 : Nat → St → Nat → Nat → Int32 → Option (St)
  | 0, _, _, _, _ => none
  | n + 1, V, k0, k1, x2 =>
    if 4 ≤ x2 then
      f_X8_copyFrom_b58 500 V k0 k1 0
    else
      (ix x2 4).bind fun j6 =>
      (ix x2 4).bind fun j7 =>
      (f_X0_copyFrom V ((k0 + 2) + 5 + j6) ((k1 + 2) + 5 + j7)).bind fun q8 =>
      f_X8_copyFrom_b30 n q8 k0 k1 (x2 + 1)
def f_X8_copyFrom_b2 : Nat → St → Nat → Nat → Int32 → Option (St)
  | 0, _, _, _, _ => none
  | n + 1, V, k0, k1, x2 =>
    if 3 ≤ x2 then
      f_X8_copyFrom_b30 500 V k0 k1 0
    else
      (ix x2 3).bind fun j10 =>
      (ix x2 3).bind fun j11 =>
      (f_X3_copyFrom V ((k0 + 1) + 3 + j10) ((k1 + 1) + 3 + j11)).bind fun q12 =>
      f_X8_copyFrom_b2 n q12 k0 k1 (x2 + 1)
def f_X8_copyFrom (V : St) (k0 : Nat) (k1 : Nat) : Option (St) :=
  f_X8_copyFrom_b2 500 V k0 k1 0
def f_X1_push (V : St) (k1 : Nat) : Option (St) :=
  (f_J9_floorMod_7cf53 ((V 52 1) + (V 52 2)) 8).bind fun q1 =>
  (ix q1 8).bind fun j2 =>
  (f_X8_copyFrom V (53 + 1 + 17 * j2) k1).bind fun q3 =>
  if 8 ≤ (q3 52 2) then
    (f_J9_floorMod_7cf53 ((q3 52 1) + 1) 8).bind fun q5 =>
    some (up q3 52 1 q5)
  else
    some (up q3 52 2 ((q3 52 2) + 1))
def f_X1_popInto (V : St) (k1 : Nat) : Option (St) :=
  if (V 52 2) ≤ 0 then
    some V
  else
    (f_J9_floorMod_7cf53 (((up V 52 2 ((V 52 2) - 1)) 52 1) + ((up V 52 2 ((V 52 2) - 1)) 52 2)) 8).bind fun q2 =>
    (ix q2 8).bind fun j3 =>
    (f_X8_copyFrom (up V 52 2 ((V 52 2) - 1)) k1 (53 + 1 + 17 * j3)).bind fun q4 =>
    some q4
def f_X1_clear (V : St) : Option (St) :=
  some (up V 52 2 0)
def f_X2_clear (V : St) : Option (St) :=
  some (up V 205 1 0)
def f_X2_append (V : St) (x1 : Int32) : Option (St) :=
  if (V 205 1) < 0 then
    some V
  else
    if 25 ≤ (V 205 1) then
      some V
    else
      (ix (V 205 1) 25).bind fun j3 =>
      some (up (up V 206 j3 (vp_nar .char x1)) 205 1 (((up V 206 j3 (vp_nar .char x1)) 205 1) + 1))
def f_X9_isIn (x0 : Int32) (x1 : Int32) : Option (Int32) :=
  if ((x0 >>> (x1 &&& 31)) &&& 1) = 0 then
    some 0
  else
    some 1
def f_X9_letterOf (x0 : Int32) : Option (Int32) :=
  (nr .char (i2c ((97 + x0) - 1))).bind fun q1 =>
  some (i2c ((97 + x0) - 1))
def f_X2_appendKnots_b51 (c_2 : St → Int32 → Int32 → Int32 → Option (St)) (V : St) (x1 : Int32) (x2 : Int32) (x3 : Int32) : Option (St) :=
  c_2 V x1 x2 (x3 + 1)
def f_X2_appendKnots_b34 (c_2 : St → Int32 → Int32 → Int32 → Option (St)) (V : St) (x1 : Int32) (x2 : Int32) (x3 : Int32) (y0 : Int32) (y1 : Int32) : Option (St) :=
  if (y1 + y0) = 0 then
    f_X2_appendKnots_b51 c_2 V x1 x2 x3
  else
    (f_X9_letterOf (y1 + y0)).bind fun q2 =>
    (f_X2_append V q2).bind fun q3 =>
    f_X2_appendKnots_b51 c_2 q3 x1 x2 x3
def f_X2_appendKnots_b21 (c_2 : St → Int32 → Int32 → Int32 → Option (St)) (V : St) (x1 : Int32) (x2 : Int32) (x3 : Int32) (y0 : Int32) : Option (St) :=
  (f_X9_isIn x2 x3).bind fun q4 =>
  if q4 = 0 then
    f_X2_appendKnots_b34 c_2 V x1 x2 x3 0 y0
  else
    f_X2_appendKnots_b34 c_2 V x1 x2 x3 2 y0
def f_X2_appendKnots_b2 : Nat → St → Int32 → Int32 → Int32 → Option (St)
  | 0, _, _, _, _ => none
  | n + 1, V, x1, x2, x3 =>
    if 24 ≤ x3 then
      some V
    else
      (f_X9_isIn x1 x3).bind fun q7 =>
      if q7 = 0 then
        f_X2_appendKnots_b21 (fun V x1 x2 x3 => f_X2_appendKnots_b2 n V x1 x2 x3) V x1 x2 x3 0
      else
        f_X2_appendKnots_b21 (fun V x1 x2 x3 => f_X2_appendKnots_b2 n V x1 x2 x3) V x1 x2 x3 1
def f_X2_appendKnots (V : St) (x1 : Int32) (x2 : Int32) : Option (St) :=
  f_X2_appendKnots_b2 500 V x1 x2 0
def f_X3_knots (V : St) (k0 : Nat) : Option (Int32) :=
  some ((V k0 0) ||| (V k0 1))
def f_X3_kindAt_b16 (V : St) (k0 : Nat) (x1 : Int32) (y0 : Int32) : Option (Int32) :=
  (f_X9_isIn (V k0 1) x1).bind fun q1 =>
  if q1 = 0 then
    some (y0 + 0)
  else
    some (y0 + 2)
def f_X3_kindAt (V : St) (k0 : Nat) (x1 : Int32) : Option (Int32) :=
  (f_X9_isIn (V k0 0) x1).bind fun q3 =>
  if q3 = 0 then
    f_X3_kindAt_b16 V k0 x1 0
  else
    f_X3_kindAt_b16 V k0 x1 1
def f_X9_with (x0 : Int32) (x1 : Int32) (x2 : Int32) : Option (Int32) :=
  if x2 = 0 then
    some (x0 &&& ((1 <<< (x1 &&& 31)) ^^^ (-1)))
  else
    some (x0 ||| (1 <<< (x1 &&& 31)))
def f_X3_tie_b40 (V : St) (y0 : Int32) (y1 : Int32) (y2 : Int32) (m3 : Nat) : Option (St) :=
  (f_X9_with y2 y1 y0).bind fun q1 =>
  some (up V m3 1 q1)
def f_X3_tie_b17 (V : St) (k0 : Nat) (x1 : Int32) (x2 : Int32) (y0 : Int32) (y1 : Int32) (y2 : Int32) (m3 : Nat) : Option (St) :=
  (f_X9_with y2 y1 y0).bind fun q2 =>
  if (x2 &&& 2) = 0 then
    f_X3_tie_b40 (up V m3 0 q2) 0 x1 ((up V m3 0 q2) k0 1) k0
  else
    f_X3_tie_b40 (up V m3 0 q2) 1 x1 ((up V m3 0 q2) k0 1) k0
def f_X3_tie (V : St) (k0 : Nat) (x1 : Int32) (x2 : Int32) : Option (St) :=
  if (x2 &&& 1) = 0 then
    f_X3_tie_b17 V k0 x1 x2 0 x1 (V k0 0) k0
  else
    f_X3_tie_b17 V k0 x1 x2 1 x1 (V k0 0) k0
def f_X3_wholeAcross (V : St) (k0 : Nat) : Option (Int32) :=
  some (8255455 &&& ((V k0 2) ^^^ (-1)))
def f_X3_wholeDown (V : St) (k0 : Nat) : Option (Int32) :=
  some (262143 &&& ((V k0 3) ^^^ (-1)))
def f_X9_isAcross (x0 : Int32) (x1 : Int32) : Option (Int32) :=
  if ((imax x0 x1) - (imin x0 x1)) = 1 then
    some 1
  else
    some 0
def f_X3_isTornBetween_b19 (V : St) (x1 : Int32) (x2 : Int32) (y0 : Int32) : Option (Int32) :=
  (f_X9_isIn y0 (imin x1 x2)).bind fun q1 =>
  (nr .boolean q1).bind fun q2 =>
  some q1
def f_X3_isTornBetween (V : St) (k0 : Nat) (x1 : Int32) (x2 : Int32) : Option (Int32) :=
  (f_X9_isAcross x1 x2).bind fun q3 =>
  if q3 = 0 then
    f_X3_isTornBetween_b19 V x1 x2 (V k0 3)
  else
    f_X3_isTornBetween_b19 V x1 x2 (V k0 2)
def f_X3_putString (V : St) (k0 : Nat) (x1 : Int32) (x2 : Int32) (x3 : Int32) : Option (St) :=
  (f_X9_isAcross x1 x2).bind fun q1 =>
  if q1 = 0 then
    (f_X9_with (V k0 3) (imin x1 x2) x3).bind fun q3 =>
    some (up V k0 3 q3)
  else
    (f_X9_with (V k0 2) (imin x1 x2) x3).bind fun q4 =>
    some (up V k0 2 q4)
def f_J6_bitCount_0f7a4_b48 (x0 : Int32) : Option (Int32) :=
  some (x0 &&& 63)
def f_J6_bitCount_0f7a4_b41 (x0 : Int32) : Option (Int32) :=
  f_J6_bitCount_0f7a4_b48 (x0 + (ush x0 16))
def f_J6_bitCount_0f7a4_b34 (x0 : Int32) : Option (Int32) :=
  f_J6_bitCount_0f7a4_b41 (x0 + (ush x0 8))
def f_J6_bitCount_0f7a4_b24 (x0 : Int32) : Option (Int32) :=
  f_J6_bitCount_0f7a4_b34 ((x0 + (ush x0 4)) &&& 252645135)
def f_J6_bitCount_0f7a4_b10 (x0 : Int32) : Option (Int32) :=
  f_J6_bitCount_0f7a4_b24 ((x0 &&& 858993459) + ((ush x0 2) &&& 858993459))
def f_J6_bitCount_0f7a4 (x0 : Int32) : Option (Int32) :=
  f_J6_bitCount_0f7a4_b10 (x0 - ((ush x0 1) &&& 1431655765))
def f_X3_countTorn (V : St) (k0 : Nat) : Option (Int32) :=
  (f_J6_bitCount_0f7a4 (V k0 2)).bind fun q1 =>
  (f_J6_bitCount_0f7a4 (V k0 3)).bind fun q2 =>
  some (q1 + q2)
def f_X3_twineForAll (V : St) (k0 : Nat) : Option (Int32) :=
  (f_J6_bitCount_0f7a4 (V k0 2)).bind fun q1 =>
  (f_J6_bitCount_0f7a4 (V k0 3)).bind fun q2 =>
  some ((1 * q1) + (2 * q2))
def f_X9_within (x0 : Int32) (x1 : Int32) (x2 : Int32) : Option (Int32) :=
  some ((x0 &&& (x0 >>> (x2 &&& 31))) &&& x1)
def f_X3_countWholeWithin (V : St) (k0 : Nat) (x1 : Int32) : Option (Int32) :=
  (f_X3_wholeAcross V k0).bind fun q1 =>
  (f_X9_within x1 q1 1).bind fun q2 =>
  (f_J6_bitCount_0f7a4 q2).bind fun q3 =>
  (f_X3_wholeDown V k0).bind fun q4 =>
  (f_X9_within x1 q4 6).bind fun q5 =>
  (f_J6_bitCount_0f7a4 q5).bind fun q6 =>
  some (q3 + q6)
def f_X9_beside (x0 : Int32) (x1 : Int32) (x2 : Int32) : Option (Int32) :=
  some (((((x0 &&& x1) <<< (1 &&& 31)) ||| ((x0 >>> (1 &&& 31)) &&& x1)) ||| ((x0 &&& x2) <<< (6 &&& 31))) ||| ((x0 >>> (6 &&& 31)) &&& x2))
def f_X3_chapterAt_b11 : Nat → St → Nat → Int32 → Int32 → Option (Int32)
  | 0, _, _, _, _ => none
  | n + 1, V, k0, x2, x3 =>
    if 24 ≤ x3 then
      some x2
    else
      (f_X3_wholeAcross V k0).bind fun q2 =>
      (f_X3_wholeDown V k0).bind fun q3 =>
      (f_X9_beside x2 q2 q3).bind fun q4 =>
      (f_X3_knots V k0).bind fun q5 =>
      if (x2 ||| (q4 &&& q5)) = x2 then
        some x2
      else
        f_X3_chapterAt_b11 n V k0 (x2 ||| (q4 &&& q5)) (x3 + 1)
def f_X3_chapterAt (V : St) (k0 : Nat) (x1 : Int32) : Option (Int32) :=
  (f_X3_knots V k0).bind fun q7 =>
  f_X3_chapterAt_b11 500 V k0 (q7 &&& (1 <<< (x1 &&& 31))) 0
def f_X9_lowestPlace (x0 : Int32) : Option (Int32) :=
  (f_J6_bitCount_0f7a4 ((x0 &&& (-x0)) - 1)).bind fun q1 =>
  some q1
def f_X3_countChapters_b7 : Nat → St → Nat → Int32 → Int32 → Option (Int32)
  | 0, _, _, _, _ => none
  | n + 1, V, k0, x1, x2 =>
    if x1 = 0 then
      some x2
    else
      if 24 ≤ x2 then
        some x2
      else
        (f_X9_lowestPlace x1).bind fun q3 =>
        (f_X3_chapterAt V k0 q3).bind fun q4 =>
        f_X3_countChapters_b7 n V k0 (x1 &&& (q4 ^^^ (-1))) (x2 + 1)
def f_X3_countChapters (V : St) (k0 : Nat) : Option (Int32) :=
  (f_X3_knots V k0).bind fun q5 =>
  f_X3_countChapters_b7 500 V k0 q5 0
def f_X5_separate_b2 : Nat → St → Int32 → Option (St)
  | 0, _, _ => none
  | n + 1, V, x1 =>
    if 24 ≤ x1 then
      some V
    else
      (ix x1 24).bind fun j2 =>
      f_X5_separate_b2 n (up V 191 j2 x1) (x1 + 1)
def f_X5_separate (V : St) : Option (St) :=
  f_X5_separate_b2 500 V 0
def f_X9_isPlace (x0 : Int32) : Option (Int32) :=
  if x0 < 0 then
    some 0
  else
    if 24 ≤ x0 then
      some 0
    else
      some 1
def f_X5_join_b76 (c_49 : St → Int32 → Int32 → Int32 → Option (Int32 × St)) (V : St) (x3 : Int32) (x4 : Int32) (x5 : Int32) : Option (Int32 × St) :=
  c_49 V x3 x4 (x5 + 1)
def f_X5_join_b49 : Nat → St → Int32 → Int32 → Int32 → Option (Int32 × St)
  | 0, _, _, _, _ => none
  | n + 1, V, x3, x4, x5 =>
    if 24 ≤ x5 then
      some (1, V)
    else
      (ix x5 24).bind fun j2 =>
      if (V 191 j2) = x4 then
        (ix x5 24).bind fun j4 =>
        f_X5_join_b76 (fun V x3 x4 x5 => f_X5_join_b49 n V x3 x4 x5) (up V 191 j4 x3) x3 x4 x5
      else
        f_X5_join_b76 (fun V x3 x4 x5 => f_X5_join_b49 n V x3 x4 x5) V x3 x4 x5
def f_X5_join (V : St) (x1 : Int32) (x2 : Int32) : Option (Int32 × St) :=
  (f_X9_isPlace x1).bind fun q5 =>
  if q5 = 0 then
    some (0, V)
  else
    (f_X9_isPlace x2).bind fun q7 =>
    if q7 = 0 then
      some (0, V)
    else
      (ix x1 24).bind fun j9 =>
      (ix x2 24).bind fun j10 =>
      if (V 191 j9) = (V 191 j10) then
        some (0, V)
      else
        (ix x1 24).bind fun j12 =>
        (ix x2 24).bind fun j13 =>
        f_X5_join_b49 500 V (V 191 j12) (V 191 j13) 0
def f_X5_joinAll_b37 (c_5 : St → Int32 → Int32 → Int32 → Int32 → Option (Int32 × St)) (V : St) (x1 : Int32) (x2 : Int32) (x3 : Int32) (x4 : Int32) : Option (Int32 × St) :=
  c_5 V x1 x2 x3 (x4 + 1)
def f_X5_joinAll_b5 : Nat → St → Int32 → Int32 → Int32 → Int32 → Option (Int32 × St)
  | 0, _, _, _, _, _ => none
  | n + 1, V, x1, x2, x3, x4 =>
    if 24 ≤ x4 then
      some (x3, V)
    else
      (f_X9_isIn x1 x4).bind fun q2 =>
      if q2 = 0 then
        f_X5_joinAll_b37 (fun V x1 x2 x3 x4 => f_X5_joinAll_b5 n V x1 x2 x3 x4) V x1 x2 x3 x4
      else
        (f_X5_join V x4 (x4 + x2)).bind fun q4 =>
        if q4.1 = 0 then
          f_X5_joinAll_b37 (fun V x1 x2 x3 x4 => f_X5_joinAll_b5 n V x1 x2 x3 x4) q4.2 x1 x2 x3 x4
        else
          f_X5_joinAll_b37 (fun V x1 x2 x3 x4 => f_X5_joinAll_b5 n V x1 x2 x3 x4) q4.2 x1 x2 (x3 + 1) x4
def f_X5_joinAll (V : St) (x1 : Int32) (x2 : Int32) : Option (Int32 × St) :=
  f_X5_joinAll_b5 500 V x1 x2 0 0
def f_X3_countChaptersByStrings (V : St) (k0 : Nat) : Option (Int32 × St) :=
  (f_X5_separate V).bind fun q1 =>
  (f_X3_knots q1 k0).bind fun q2 =>
  (f_J6_bitCount_0f7a4 q2).bind fun q3 =>
  (f_X3_knots q1 k0).bind fun q4 =>
  (f_X3_wholeAcross q1 k0).bind fun q5 =>
  (f_X9_within q4 q5 1).bind fun q6 =>
  (f_X5_joinAll q1 q6 1).bind fun q7 =>
  (f_X3_knots q7.2 k0).bind fun q8 =>
  (f_X3_wholeDown q7.2 k0).bind fun q9 =>
  (f_X9_within q8 q9 6).bind fun q10 =>
  (f_X5_joinAll q7.2 q10 6).bind fun q11 =>
  some ((q3 - q7.1) - q11.1, q11.2)
def f_X3_greatestChapter_b43 (c_7 : St → Nat → Int32 → Int32 → Int32 → Option (Int32)) (V : St) (k0 : Nat) (x2 : Int32) (x3 : Int32) (x4 : Int32) (x5 : Int32) : Option (Int32) :=
  c_7 V k0 (x2 &&& (x5 ^^^ (-1))) x3 (x4 + 1)
def f_X3_greatestChapter_b7 : Nat → St → Nat → Int32 → Int32 → Int32 → Option (Int32)
  | 0, _, _, _, _, _ => none
  | n + 1, V, k0, x2, x3, x4 =>
    if 24 ≤ x4 then
      some x3
    else
      if x2 = 0 then
        some x3
      else
        (f_X9_lowestPlace x2).bind fun q3 =>
        (f_X3_chapterAt V k0 q3).bind fun q4 =>
        (f_J6_bitCount_0f7a4 q4).bind fun q5 =>
        (f_J6_bitCount_0f7a4 x3).bind fun q6 =>
        if q5 ≤ q6 then
          f_X3_greatestChapter_b43 (fun V k0 x2 x3 x4 => f_X3_greatestChapter_b7 n V k0 x2 x3 x4) V k0 x2 x3 x4 q4
        else
          f_X3_greatestChapter_b43 (fun V k0 x2 x3 x4 => f_X3_greatestChapter_b7 n V k0 x2 x3 x4) V k0 x2 q4 x4 q4
def f_X3_greatestChapter (V : St) (k0 : Nat) (x1 : Int32) : Option (Int32) :=
  f_X3_greatestChapter_b7 500 V k0 x1 0 0
def f_X3_chapterRanked_b19 : Nat → St → Nat → Int32 → Int32 → Int32 → Option (Int32)
  | 0, _, _, _, _, _ => none
  | n + 1, V, k0, x1, x2, x3 =>
    if x1 ≤ x3 then
      (f_X3_greatestChapter V k0 x2).bind fun q2 =>
      some q2
    else
      (f_X3_greatestChapter V k0 x2).bind fun q3 =>
      f_X3_chapterRanked_b19 n V k0 x1 (x2 &&& (q3 ^^^ (-1))) (x3 + 1)
def f_X3_chapterRanked (V : St) (k0 : Nat) (x1 : Int32) : Option (Int32) :=
  if x1 < 0 then
    some 0
  else
    if x1 < 24 then
      (f_X3_knots V k0).bind fun q6 =>
      f_X3_chapterRanked_b19 500 V k0 x1 q6 0
    else
      some 0
def f_X9_areBeside_b51 : Option (Int32) :=
  some 1
def f_X9_areBeside_b45 (x3 : Int32) : Option (Int32) :=
  if x3 = 6 then
    f_X9_areBeside_b51 
  else
    some 0
def f_X9_areBeside (x0 : Int32) (x1 : Int32) : Option (Int32) :=
  (f_X9_isPlace x0).bind fun q2 =>
  if q2 = 0 then
    some 0
  else
    (f_X9_isPlace x1).bind fun q4 =>
    if q4 = 0 then
      some 0
    else
      if ((imax x0 x1) - (imin x0 x1)) = 1 then
        (f_X9_isIn 8255455 (imin x0 x1)).bind fun q7 =>
        if q7 = 0 then
          f_X9_areBeside_b45 ((imax x0 x1) - (imin x0 x1))
        else
          f_X9_areBeside_b51 
      else
        f_X9_areBeside_b45 ((imax x0 x1) - (imin x0 x1))
def f_X3_knotsJoinedBy (V : St) (k0 : Nat) (x1 : Int32) (x2 : Int32) : Option (Int32) :=
  (f_X9_areBeside x1 x2).bind fun q1 =>
  if q1 = 0 then
    some 0
  else
    (f_X3_isTornBetween V k0 x1 x2).bind fun q3 =>
    if q3 = 0 then
      some 0
    else
      (f_X3_chapterAt V k0 x1).bind fun q5 =>
      (f_X3_chapterAt V k0 x2).bind fun q6 =>
      if q5 = 0 then
        some 0
      else
        if q6 = 0 then
          some 0
        else
          if q5 = q6 then
            some 0
          else
            (f_J6_bitCount_0f7a4 (q5 ||| q6)).bind fun q10 =>
            some q10
def f_X9_twineFor (x0 : Int32) (x1 : Int32) : Option (Int32) :=
  (f_X9_isAcross x0 x1).bind fun q1 =>
  if q1 = 0 then
    some 2
  else
    some 1
def f_X3_bestTornString_b91 (c_20 : St → Nat → Int32 → Int32 → Int32 → Int32 → Int32 → Int32 → Option (Int32)) (c_10 : St → Nat → Int32 → Int32 → Int32 → Int32 → Int32 → Option (Int32)) (V : St) (k0 : Nat) (x1 : Int32) (x2 : Int32) (x3 : Int32) (x4 : Int32) (x5 : Int32) (x6 : Int32) : Option (Int32) :=
  c_20 V k0 x1 x2 x3 x4 x5 (x6 + 5)
def f_X3_bestTornString_b83 (c_20 : St → Nat → Int32 → Int32 → Int32 → Int32 → Int32 → Int32 → Option (Int32)) (c_10 : St → Nat → Int32 → Int32 → Int32 → Int32 → Int32 → Option (Int32)) (V : St) (k0 : Nat) (x1 : Int32) (x5 : Int32) (x6 : Int32) (x8 : Int32) (x9 : Int32) (y0 : Int32) : Option (Int32) :=
  f_X3_bestTornString_b91 c_20 c_10 V k0 x1 y0 x8 x9 x5 x6
def f_X3_bestTornString_b72 (c_20 : St → Nat → Int32 → Int32 → Int32 → Int32 → Int32 → Int32 → Option (Int32)) (c_10 : St → Nat → Int32 → Int32 → Int32 → Int32 → Int32 → Option (Int32)) (V : St) (k0 : Nat) (x1 : Int32) (x5 : Int32) (x6 : Int32) (x7 : Int32) (x8 : Int32) (x9 : Int32) : Option (Int32) :=
  if x1 = 0 then
    f_X3_bestTornString_b83 c_20 c_10 V k0 x1 x5 x6 x8 x9 x5
  else
    f_X3_bestTornString_b83 c_20 c_10 V k0 x1 x5 x6 x8 x9 x7
def f_X3_bestTornString_b20 (c_10 : St → Nat → Int32 → Int32 → Int32 → Int32 → Int32 → Option (Int32)) : Nat → St → Nat → Int32 → Int32 → Int32 → Int32 → Int32 → Int32 → Option (Int32)
  | 0, _, _, _, _, _, _, _, _ => none
  | n + 1, V, k0, x1, x2, x3, x4, x5, x6 =>
    if 6 < x6 then
      c_10 V k0 x1 x2 x3 x4 (x5 + 1)
    else
      (f_X3_knotsJoinedBy V k0 x5 (x5 + x6)).bind fun q3 =>
      (f_X9_twineFor x5 (x5 + x6)).bind fun q4 =>
      if x3 < q3 then
        f_X3_bestTornString_b72 (fun V k0 x1 x2 x3 x4 x5 x6 => f_X3_bestTornString_b20 c_10 n V k0 x1 x2 x3 x4 x5 x6) c_10 V k0 x1 x5 x6 (x5 + x6) q3 q4
      else
        if q3 = x3 then
          if x4 ≤ q4 then
            f_X3_bestTornString_b91 (fun V k0 x1 x2 x3 x4 x5 x6 => f_X3_bestTornString_b20 c_10 n V k0 x1 x2 x3 x4 x5 x6) c_10 V k0 x1 x2 x3 x4 x5 x6
          else
            f_X3_bestTornString_b72 (fun V k0 x1 x2 x3 x4 x5 x6 => f_X3_bestTornString_b20 c_10 n V k0 x1 x2 x3 x4 x5 x6) c_10 V k0 x1 x5 x6 (x5 + x6) q3 q4
        else
          f_X3_bestTornString_b91 (fun V k0 x1 x2 x3 x4 x5 x6 => f_X3_bestTornString_b20 c_10 n V k0 x1 x2 x3 x4 x5 x6) c_10 V k0 x1 x2 x3 x4 x5 x6
def f_X3_bestTornString_b10 : Nat → St → Nat → Int32 → Int32 → Int32 → Int32 → Int32 → Option (Int32)
  | 0, _, _, _, _, _, _, _ => none
  | n + 1, V, k0, x1, x2, x3, x4, x5 =>
    if 24 ≤ x5 then
      some x2
    else
      f_X3_bestTornString_b20 (fun V k0 x1 x2 x3 x4 x5 => f_X3_bestTornString_b10 n V k0 x1 x2 x3 x4 x5) 500 V k0 x1 x2 x3 x4 x5 1
def f_X3_bestTornString (V : St) (k0 : Nat) (x1 : Int32) : Option (Int32) :=
  f_X3_bestTornString_b10 500 V k0 x1 (-1) 0 0 0
def f_X3_hasStringOutOf (V : St) (k0 : Nat) (x1 : Int32) : Option (Int32) :=
  (f_X3_wholeAcross V k0).bind fun q1 =>
  (f_X3_wholeDown V k0).bind fun q2 =>
  (f_X9_beside x1 q1 q2).bind fun q3 =>
  (f_X3_knots V k0).bind fun q4 =>
  if ((q3 &&& q4) &&& (x1 ^^^ (-1))) = 0 then
    some 0
  else
    some 1
def f_X3_leastByStrings (V : St) (k0 : Nat) (x1 : Int32) : Option (Int32 × St) :=
  (f_X5_separate V).bind fun q1 =>
  (f_X3_wholeAcross q1 k0).bind fun q2 =>
  (f_X9_within x1 q2 1).bind fun q3 =>
  (f_X5_joinAll q1 q3 1).bind fun q4 =>
  (f_X3_wholeDown q4.2 k0).bind fun q5 =>
  (f_X9_within x1 q5 6).bind fun q6 =>
  (f_X5_joinAll q4.2 q6 6).bind fun q7 =>
  (f_X9_within x1 (q7.2 k0 2) 1).bind fun q8 =>
  (f_X5_joinAll q7.2 q8 1).bind fun q9 =>
  (f_X9_within x1 (q9.2 k0 3) 6).bind fun q10 =>
  (f_X5_joinAll q9.2 q10 6).bind fun q11 =>
  some ((1 * q9.1) + (2 * q11.1), q11.2)
def f_X3_leastByPlaces_b93 (c_10 : St → Nat → Int32 → Int32 → Int32 → Int32 → Option (Int32)) (V : St) (k0 : Nat) (x1 : Int32) (x2 : Int32) (x3 : Int32) (x4 : Int32) (x6 : Int32) (x7 : Int32) : Option (Int32) :=
  c_10 V k0 x1 (x2 ||| (x6 &&& (-x6))) (x3 + x7) (x4 + 1)
def f_X3_leastByPlaces_b71 (c_10 : St → Nat → Int32 → Int32 → Int32 → Int32 → Option (Int32)) (V : St) (k0 : Nat) (x1 : Int32) (x2 : Int32) (x3 : Int32) (x4 : Int32) (x5 : Int32) (x6 : Int32) (x7 : Int32) : Option (Int32) :=
  if x6 = 0 then
    (f_X9_beside x2 0 (V k0 3)).bind fun q2 =>
    f_X3_leastByPlaces_b93 c_10 V k0 x1 x2 x3 x4 (q2 &&& x5) 2
  else
    f_X3_leastByPlaces_b93 c_10 V k0 x1 x2 x3 x4 x6 x7
def f_X3_leastByPlaces_b10 : Nat → St → Nat → Int32 → Int32 → Int32 → Int32 → Option (Int32)
  | 0, _, _, _, _, _, _ => none
  | n + 1, V, k0, x1, x2, x3, x4 =>
    if 24 ≤ x4 then
      some x3
    else
      if x2 = x1 then
        some x3
      else
        (f_X3_wholeAcross V k0).bind fun q5 =>
        (f_X3_wholeDown V k0).bind fun q6 =>
        (f_X9_beside x2 q5 q6).bind fun q7 =>
        if (q7 &&& (x1 &&& (x2 ^^^ (-1)))) = 0 then
          (f_X9_beside x2 (V k0 2) 0).bind fun q9 =>
          f_X3_leastByPlaces_b71 (fun V k0 x1 x2 x3 x4 => f_X3_leastByPlaces_b10 n V k0 x1 x2 x3 x4) V k0 x1 x2 x3 x4 (x1 &&& (x2 ^^^ (-1))) (q9 &&& (x1 &&& (x2 ^^^ (-1)))) 1
        else
          f_X3_leastByPlaces_b71 (fun V k0 x1 x2 x3 x4 => f_X3_leastByPlaces_b10 n V k0 x1 x2 x3 x4) V k0 x1 x2 x3 x4 (x1 &&& (x2 ^^^ (-1))) (q7 &&& (x1 &&& (x2 ^^^ (-1)))) 0
def f_X3_leastByPlaces (V : St) (k0 : Nat) (x1 : Int32) : Option (Int32) :=
  f_X3_leastByPlaces_b10 500 V k0 x1 (x1 &&& (-x1)) 0 0
def f_X3_writeLine_b68 (c_2 : St → Nat → Int32 → Int32 → Option (St)) (V : St) (k0 : Nat) (x1 : Int32) (x3 : Int32) (y0 : Int32) : Option (St) :=
  (f_X2_append V y0).bind fun q1 =>
  c_2 q1 k0 x1 (x3 + 1)
def f_X3_writeLine_b44 (c_2 : St → Nat → Int32 → Int32 → Option (St)) (V : St) (k0 : Nat) (x1 : Int32) (x3 : Int32) (x4 : Int32) : Option (St) :=
  (f_X3_kindAt V k0 x4).bind fun q2 =>
  if q2 = 0 then
    f_X3_writeLine_b68 c_2 V k0 x1 x3 46
  else
    (f_X9_letterOf q2).bind fun q4 =>
    f_X3_writeLine_b68 c_2 V k0 x1 x3 q4
def f_X3_writeLine_b41 (c_2 : St → Nat → Int32 → Int32 → Option (St)) (V : St) (k0 : Nat) (x1 : Int32) (x3 : Int32) (x4 : Int32) (y0 : Int32) : Option (St) :=
  (f_X2_append V y0).bind fun q5 =>
  f_X3_writeLine_b44 c_2 q5 k0 x1 x3 x4
def f_X3_writeLine_b2 : Nat → St → Nat → Int32 → Int32 → Option (St)
  | 0, _, _, _, _ => none
  | n + 1, V, k0, x1, x3 =>
    if 6 ≤ x3 then
      some V
    else
      if x3 ≤ 0 then
        f_X3_writeLine_b44 (fun V k0 x1 x3 => f_X3_writeLine_b2 n V k0 x1 x3) V k0 x1 x3 ((x1 * 6) + x3)
      else
        (f_X3_isTornBetween V k0 (((x1 * 6) + x3) - 1) ((x1 * 6) + x3)).bind fun q8 =>
        if q8 = 0 then
          f_X3_writeLine_b41 (fun V k0 x1 x3 => f_X3_writeLine_b2 n V k0 x1 x3) V k0 x1 x3 ((x1 * 6) + x3) 45
        else
          f_X3_writeLine_b41 (fun V k0 x1 x3 => f_X3_writeLine_b2 n V k0 x1 x3) V k0 x1 x3 ((x1 * 6) + x3) 47
def f_X3_writeLine (V : St) (k0 : Nat) (x1 : Int32) : Option (St) :=
  f_X3_writeLine_b2 500 V k0 x1 0
def f_X4_places (V : St) (k0 : Nat) : Option (Int32) :=
  some ((V k0 1) ||| (V k0 2))
def f_X4_isOf (V : St) (k0 : Nat) (k1 : Nat) (x2 : Int32) : Option (Int32) :=
  if ((V k1 0) &&& x2) = (V k0 1) then
    if ((V k1 1) &&& x2) = (V k0 2) then
      some 1
    else
      some 0
  else
    some 0
def f_X6_keepAlone (V : St) (x1 : Int32) (x2 : Int32) : Option (St) :=
  some (up (up (up (up V 207 0 x1) 207 1 x2) 207 2 0) 207 3 0)
def f_X6_keepOrder (V : St) (x1 : Int32) (x2 : Int32) (x3 : Int32) : Option (St) :=
  some (up (up (up (up V 207 0 9) 207 1 x1) 207 2 x2) 207 3 x3)
def f_X7_isFull (V : St) : Option (Int32) :=
  if (V 192 1) < 60 then
    some 0
  else
    some 1
def f_X7_append (V : St) (x1 : Int32) : Option (St) :=
  if (V 192 1) < 0 then
    some V
  else
    if 60 ≤ (V 192 1) then
      some V
    else
      (ix (V 192 1) 60).bind fun j3 =>
      some (up (up V 193 j3 (vp_nar .char x1)) 192 1 (((up V 193 j3 (vp_nar .char x1)) 192 1) + 1))
def f_X7_clear (V : St) : Option (St) :=
  some (up V 192 1 0)
def f_X7_wordAt (V : St) (x1 : Int32) : Option (Int32) :=
  if x1 < 0 then
    some (-1)
  else
    if 9 ≤ x1 then
      some (-1)
    else
      (ix x1 9).bind fun j3 =>
      some (V 194 j3)
def f_X7_putWord (V : St) (x1 : Int32) (x2 : Int32) : Option (St) :=
  if x1 < 0 then
    some V
  else
    if 9 ≤ x1 then
      some V
    else
      (ix x1 9).bind fun j3 =>
      some (up V 194 j3 x2)
def f_X7_numberAt (V : St) (x1 : Int32) (x2 : Int32) : Option (Int32) :=
  if x1 < 0 then
    some (-1)
  else
    if 9 ≤ x1 then
      some (-1)
    else
      if x2 < 0 then
        some (-1)
      else
        if x2 < 4 then
          (ix x1 9).bind fun j5 =>
          (ix x2 4).bind fun j6 =>
          some (V (195 + 1 + j5) j6)
        else
          some (-1)
def f_X7_putNumber (V : St) (x1 : Int32) (x2 : Int32) (x3 : Int32) : Option (St) :=
  if x1 < 0 then
    some V
  else
    if 9 ≤ x1 then
      some V
    else
      if x2 < 0 then
        some V
      else
        if 4 ≤ x2 then
          some V
        else
          (ix x1 9).bind fun j5 =>
          (ix x2 4).bind fun j6 =>
          some (up V (195 + 1 + j5) j6 x3)
def f_X7_formOf (x0 : Int32) : Option (Nat) :=
  if x0 = 0 then
    some 20
  else
  if x0 = 1 then
    some 21
  else
  if x0 = 2 then
    some 22
  else
  if x0 = 3 then
    some 23
  else
  if x0 = 4 then
    some 24
  else
  if x0 = 5 then
    some 25
  else
  if x0 = 6 then
    some 26
  else
  some 27
def f_X7_isInText (V : St) : Option (Int32) :=
  if (V 192 2) < 0 then
    some 0
  else
    if (V 192 1) ≤ (V 192 2) then
      some 0
    else
      if 60 ≤ (V 192 2) then
        some 0
      else
        some 1
def f_X7_isDigitNext (V : St) : Option (Int32) :=
  (f_X7_isInText V).bind fun q1 =>
  if q1 = 0 then
    some 0
  else
    (ix (V 192 2) 60).bind fun j3 =>
    if (V 193 j3) < 48 then
      some 0
    else
      (ix (V 192 2) 60).bind fun j5 =>
      if 57 < (V 193 j5) then
        some 0
      else
        some 1
def f_X7_readNumber_b15 : Nat → St → Int32 → Int32 → Int32 → Option (Int32 × St)
  | 0, _, _, _, _ => none
  | n + 1, V, x2, x3, x4 =>
    if x3 ≤ x4 then
      some (x2, V)
    else
      (f_X7_isDigitNext V).bind fun q2 =>
      if q2 = 0 then
        some (x2, V)
      else
        (ix (V 192 2) 60).bind fun j4 =>
        f_X7_readNumber_b15 n (up V 192 2 ((V 192 2) + 1)) ((10 * x2) + ((V 193 j4) - 48)) x3 (x4 + 1)
def f_X7_readNumber_b11 (V : St) (x2 : Int32) (y0 : Int32) : Option (Int32 × St) :=
  f_X7_readNumber_b15 500 V x2 y0 0
def f_X7_readNumber (V : St) (x1 : Int32) : Option (Int32 × St) :=
  if x1 = 0 then
    f_X7_readNumber_b11 V 0 1
  else
    f_X7_readNumber_b11 V 0 2
def f_X7_isNext (V : St) (x1 : Int32) : Option (Int32) :=
  (f_X7_isInText V).bind fun q1 =>
  if q1 = 0 then
    some 0
  else
    (ix (V 192 2) 60).bind fun j3 =>
    if (V 193 j3) = x1 then
      some 1
    else
      some 0
def f_X7_readForm_b97 (c_5 : St → Nat → Int32 → Int32 → Int32 → Option (Int32 × St)) (V : St) (t1 : Nat) (x2 : Int32) (x3 : Int32) (x4 : Int32) : Option (Int32 × St) :=
  c_5 V t1 x2 x3 (x4 + 1)
def f_X7_readForm_b61 (c_5 : St → Nat → Int32 → Int32 → Int32 → Option (Int32 × St)) (V : St) (t1 : Nat) (x2 : Int32) (x3 : Int32) (x4 : Int32) (y0 : Int32) (y2 : Int32) (y3 : Int32) : Option (Int32 × St) :=
  (f_X7_readNumber V y0).bind fun q1 =>
  (f_X7_putNumber q1.2 y3 y2 q1.1).bind fun q2 =>
  f_X7_readForm_b97 c_5 q2 t1 x2 (x3 + 1) x4
def f_X7_readForm_b36 (c_5 : St → Nat → Int32 → Int32 → Int32 → Option (Int32 × St)) (V : St) (t1 : Nat) (x2 : Int32) (x3 : Int32) (x4 : Int32) (x5 : Int32) : Option (Int32 × St) :=
  (f_X7_isDigitNext V).bind fun q3 =>
  if q3 = 0 then
    some (0, V)
  else
    if x5 = 78 then
      f_X7_readForm_b61 c_5 V t1 x2 x3 x4 1 x3 x2
    else
      f_X7_readForm_b61 c_5 V t1 x2 x3 x4 0 x3 x2
def f_X7_readForm_b5 : Nat → St → Nat → Int32 → Int32 → Int32 → Option (Int32 × St)
  | 0, _, _, _, _, _ => none
  | n + 1, V, t1, x2, x3, x4 =>
    (f_J0_length_8abf5 t1).bind fun q6 =>
    if q6 ≤ x4 then
      some (1, V)
    else
      (f_J0_charAt_5068e t1 x4).bind fun q8 =>
      if q8 = 68 then
        f_X7_readForm_b36 (fun V t1 x2 x3 x4 => f_X7_readForm_b5 n V t1 x2 x3 x4) V t1 x2 x3 x4 q8
      else
        if q8 = 78 then
          f_X7_readForm_b36 (fun V t1 x2 x3 x4 => f_X7_readForm_b5 n V t1 x2 x3 x4) V t1 x2 x3 x4 q8
        else
          (f_X7_isNext V q8).bind fun q11 =>
          if q11 = 0 then
            some (0, V)
          else
            f_X7_readForm_b97 (fun V t1 x2 x3 x4 => f_X7_readForm_b5 n V t1 x2 x3 x4) (up V 192 2 ((V 192 2) + 1)) t1 x2 x3 x4
def f_X7_readForm (V : St) (t1 : Nat) (x2 : Int32) : Option (Int32 × St) :=
  f_X7_readForm_b5 500 V t1 x2 0 0
def f_X7_readOrder_b13 : Nat → St → Int32 → Int32 → Int32 → Int32 → Option (Int32 × St)
  | 0, _, _, _, _, _ => none
  | n + 1, V, x1, x2, x3, x4 =>
    if 8 ≤ x4 then
      some (0, up V 192 2 x3)
    else
      (f_X7_formOf x4).bind fun q2 =>
      (f_X7_readForm (up V 192 2 x2) q2 x1).bind fun q3 =>
      if q3.1 = 0 then
        f_X7_readOrder_b13 n q3.2 x1 x2 (imax x3 (q3.2 192 2)) (x4 + 1)
      else
        (f_X7_putWord q3.2 x1 x4).bind fun q5 =>
        some (1, q5)
def f_X7_readOrder (V : St) (x1 : Int32) : Option (Int32 × St) :=
  f_X7_readOrder_b13 500 V x1 (V 192 2) (V 192 2) 0
def f_X7_findFault_b12 : Nat → St → Int32 → Option (Int32 × St)
  | 0, _, _ => none
  | n + 1, V, x1 =>
    if 9 ≤ x1 then
      some (V 192 2, V)
    else
      (f_X7_readOrder V x1).bind fun q2 =>
      if q2.1 = 0 then
        some (q2.2 192 2, q2.2)
      else
        if ((up q2.2 192 5 ((q2.2 192 5) + 1)) 192 2) < ((up q2.2 192 5 ((q2.2 192 5) + 1)) 192 1) then
          (f_X7_isNext (up q2.2 192 5 ((q2.2 192 5) + 1)) 59).bind fun q5 =>
          if q5 = 0 then
            some ((up q2.2 192 5 ((q2.2 192 5) + 1)) 192 2, up q2.2 192 5 ((q2.2 192 5) + 1))
          else
            f_X7_findFault_b12 n (up (up q2.2 192 5 ((q2.2 192 5) + 1)) 192 2 (((up q2.2 192 5 ((q2.2 192 5) + 1)) 192 2) + 1)) (x1 + 1)
        else
          some ((-1), up q2.2 192 5 ((q2.2 192 5) + 1))
def f_X7_findFault (V : St) : Option (Int32 × St) :=
  f_X7_findFault_b12 500 (up (up V 192 2 0) 192 5 0) 0
def f_X9_isNet (x0 : Int32) : Option (Int32) :=
  if x0 < 0 then
    some 0
  else
    if 3 ≤ x0 then
      some 0
    else
      some 1
def f_X8_netNumbered (V : St) (k0 : Nat) (x1 : Int32) : Option (Nat) :=
  (f_X9_isNet x1).bind fun q1 =>
  if q1 = 0 then
    some ((k0 + 1) + 3 + 0)
  else
    (ix x1 3).bind fun j3 =>
    some ((k0 + 1) + 3 + j3)
def f_X8_editorNumbered (V : St) (k0 : Nat) (x1 : Int32) : Option (Nat) :=
  if x1 < 0 then
    some ((k0 + 2) + 5 + 0)
  else
    if 4 ≤ x1 then
      some ((k0 + 2) + 5 + 0)
    else
      (ix x1 4).bind fun j3 =>
      some ((k0 + 2) + 5 + j3)
def f_X8_noteNumbered (V : St) (k0 : Nat) (x1 : Int32) : Option (Nat) :=
  if x1 < 0 then
    some ((k0 + 3) + 8 + 0)
  else
    if 6 ≤ x1 then
      some ((k0 + 3) + 8 + 0)
    else
      (ix x1 6).bind fun j3 =>
      some ((k0 + 3) + 8 + j3)
def f_X8_hasEditor (V : St) (k0 : Nat) (x1 : Int32) : Option (Int32) :=
  if x1 < 0 then
    some 0
  else
    if (V k0 3) ≤ x1 then
      some 0
    else
      some 1
def f_X8_hasNote (V : St) (k0 : Nat) (x1 : Int32) : Option (Int32) :=
  if x1 < 0 then
    some 0
  else
    if (V k0 4) ≤ x1 then
      some 0
    else
      some 1
def f_X8_tearString (V : St) (k0 : Nat) (x1 : Int32) (x2 : Int32) (x3 : Int32) : Option (St) :=
  (f_X8_netNumbered V k0 x1).bind fun q1 =>
  (f_X3_putString V q1 x2 x3 1).bind fun q2 =>
  some (up q2 k0 6 ((q2 k0 6) + 1))
def f_X8_mendString (V : St) (k0 : Nat) (x1 : Int32) (x2 : Int32) (x3 : Int32) (x4 : Int32) : Option (St) :=
  (f_X9_twineFor x2 x3).bind fun q1 =>
  (f_X8_netNumbered V k0 x1).bind fun q2 =>
  (f_X3_putString V q2 x2 x3 0).bind fun q3 =>
  (f_X8_editorNumbered q3 k0 x4).bind fun q4 =>
  (f_X8_editorNumbered (up q3 q4 0 ((q3 q4 0) - q1)) k0 x4).bind fun q5 =>
  some (up (up (up (up q3 q4 0 ((q3 q4 0) - q1)) q5 1 (((up q3 q4 0 ((q3 q4 0) - q1)) q5 1) + 1)) k0 7 (((up (up q3 q4 0 ((q3 q4 0) - q1)) q5 1 (((up q3 q4 0 ((q3 q4 0) - q1)) q5 1) + 1)) k0 7) + 1)) k0 8 (((up (up (up q3 q4 0 ((q3 q4 0) - q1)) q5 1 (((up q3 q4 0 ((q3 q4 0) - q1)) q5 1) + 1)) k0 7 (((up (up q3 q4 0 ((q3 q4 0) - q1)) q5 1 (((up q3 q4 0 ((q3 q4 0) - q1)) q5 1) + 1)) k0 7) + 1)) k0 8) + q1))
def f_X8_addEditor (V : St) (k0 : Nat) (x1 : Int32) : Option (St) :=
  (f_X8_editorNumbered V k0 (V k0 3)).bind fun q1 =>
  (f_X8_editorNumbered (up V q1 0 x1) k0 ((up V q1 0 x1) k0 3)).bind fun q2 =>
  some (up (up (up V q1 0 x1) q2 1 0) k0 3 (((up (up V q1 0 x1) q2 1 0) k0 3) + 1))
def f_X8_addNote (V : St) (k0 : Nat) (x1 : Int32) (x2 : Int32) : Option (St) :=
  (f_X8_netNumbered V k0 x1).bind fun q1 =>
  (f_X3_chapterAt V q1 x2).bind fun q2 =>
  (f_X8_noteNumbered V k0 (V k0 4)).bind fun q3 =>
  some (up (up (up (up V q3 0 x1) q3 1 (((up V q3 0 x1) q1 0) &&& q2)) q3 2 (((up (up V q3 0 x1) q3 1 (((up V q3 0 x1) q1 0) &&& q2)) q1 1) &&& q2)) k0 4 (((up (up (up V q3 0 x1) q3 1 (((up V q3 0 x1) q1 0) &&& q2)) q3 2 (((up (up V q3 0 x1) q3 1 (((up V q3 0 x1) q1 0) &&& q2)) q1 1) &&& q2)) k0 4) + 1))
def f_X8_removeNote_b2 : Nat → St → Nat → Int32 → Option (St)
  | 0, _, _, _ => none
  | n + 1, V, k0, x2 =>
    if ((V k0 4) - 1) ≤ x2 then
      some (up V k0 4 ((V k0 4) - 1))
    else
      (f_X8_noteNumbered V k0 x2).bind fun q2 =>
      (f_X8_noteNumbered V k0 (x2 + 1)).bind fun q3 =>
      (f_X4_copyFrom V q2 q3).bind fun q4 =>
      f_X8_removeNote_b2 n q4 k0 (x2 + 1)
def f_X8_removeNote (V : St) (k0 : Nat) (x1 : Int32) : Option (St) :=
  f_X8_removeNote_b2 500 V k0 x1
def f_X8_lowestNoteOf_b42 (c_2 : St → Nat → Int32 → Int32 → Int32 → Option (Int32)) (V : St) (k0 : Nat) (x1 : Int32) (x2 : Int32) (x3 : Int32) : Option (Int32) :=
  c_2 V k0 x1 x2 (x3 + 1)
def f_X8_lowestNoteOf_b2 : Nat → St → Nat → Int32 → Int32 → Int32 → Option (Int32)
  | 0, _, _, _, _, _ => none
  | n + 1, V, k0, x1, x2, x3 =>
    if (V k0 4) ≤ x3 then
      some (-1)
    else
      (f_X8_noteNumbered V k0 x3).bind fun q2 =>
      if (V q2 0) = x1 then
        (f_X8_netNumbered V k0 x1).bind fun q4 =>
        (f_X4_isOf V q2 q4 x2).bind fun q5 =>
        if q5 = 0 then
          f_X8_lowestNoteOf_b42 (fun V k0 x1 x2 x3 => f_X8_lowestNoteOf_b2 n V k0 x1 x2 x3) V k0 x1 x2 x3
        else
          some x3
      else
        f_X8_lowestNoteOf_b42 (fun V k0 x1 x2 x3 => f_X8_lowestNoteOf_b2 n V k0 x1 x2 x3) V k0 x1 x2 x3
def f_X8_lowestNoteOf (V : St) (k0 : Nat) (x1 : Int32) (x2 : Int32) : Option (Int32) :=
  f_X8_lowestNoteOf_b2 500 V k0 x1 x2 0
def f_X8_readsAsNoted (V : St) (k0 : Nat) (k1 : Nat) : Option (Int32) :=
  (f_X8_netNumbered V k0 (V k1 0)).bind fun q1 =>
  (f_X4_places V k1).bind fun q2 =>
  (f_X9_lowestPlace q2).bind fun q3 =>
  (f_X3_chapterAt V q1 q3).bind fun q4 =>
  (f_X4_isOf V k1 q1 q4).bind fun q5 =>
  (nr .boolean q5).bind fun q6 =>
  some q5
def f_X8_canBeMended (V : St) (k0 : Nat) (k1 : Nat) : Option (Int32) :=
  (f_X8_netNumbered V k0 (V k1 0)).bind fun q1 =>
  (f_X4_places V k1).bind fun q2 =>
  (f_X4_isOf V k1 q1 q2).bind fun q3 =>
  if q3 = 0 then
    some 0
  else
    (f_X4_places V k1).bind fun q5 =>
    (f_X3_hasStringOutOf V q1 q5).bind fun q6 =>
    if q6 = 0 then
      some 1
    else
      some 0
def f_X8_leastByStrings (V : St) (k0 : Nat) (k1 : Nat) : Option (Int32 × St) :=
  (f_X8_netNumbered V k0 (V k1 0)).bind fun q1 =>
  (f_X4_places V k1).bind fun q2 =>
  (f_X3_leastByStrings V q1 q2).bind fun q3 =>
  some (q3.1, q3.2)
def f_X8_leastByPlaces (V : St) (k0 : Nat) (k1 : Nat) : Option (Int32) :=
  (f_X8_netNumbered V k0 (V k1 0)).bind fun q1 =>
  (f_X4_places V k1).bind fun q2 =>
  (f_X3_leastByPlaces V q1 q2).bind fun q3 =>
  some q3
def f_X8_linesUnderWater (V : St) (k0 : Nat) (x1 : Int32) : Option (Int32) :=
  (f_X8_netNumbered V k0 x1).bind fun q1 =>
  some (imin ((V k0 5) + (V q1 4)) 4)
def f_X8_dryPlaces (V : St) (k0 : Nat) (x1 : Int32) : Option (Int32) :=
  (f_X8_linesUnderWater V k0 x1).bind fun q1 =>
  some ((1 <<< (((4 - q1) * 6) &&& 31)) - 1)
def f_X8_countKnots_b4 : Nat → St → Nat → Int32 → Int32 → Option (Int32)
  | 0, _, _, _, _ => none
  | n + 1, V, k0, x1, x2 =>
    if 3 ≤ x2 then
      some x1
    else
      (f_X8_netNumbered V k0 x2).bind fun q2 =>
      (f_X3_knots V q2).bind fun q3 =>
      (f_J6_bitCount_0f7a4 q3).bind fun q4 =>
      f_X8_countKnots_b4 n V k0 (x1 + q4) (x2 + 1)
def f_X8_countKnots (V : St) (k0 : Nat) : Option (Int32) :=
  f_X8_countKnots_b4 500 V k0 0 0
def f_X8_countReadable_b4 : Nat → St → Nat → Int32 → Int32 → Option (Int32)
  | 0, _, _, _, _ => none
  | n + 1, V, k0, x1, x2 =>
    if 3 ≤ x2 then
      some x1
    else
      (f_X8_netNumbered V k0 x2).bind fun q2 =>
      (f_X3_knots V q2).bind fun q3 =>
      (f_X8_dryPlaces V k0 x2).bind fun q4 =>
      (f_J6_bitCount_0f7a4 (q3 &&& q4)).bind fun q5 =>
      f_X8_countReadable_b4 n V k0 (x1 + q5) (x2 + 1)
def f_X8_countReadable (V : St) (k0 : Nat) : Option (Int32) :=
  f_X8_countReadable_b4 500 V k0 0 0
def f_X8_countAllChapters_b4 : Nat → St → Nat → Int32 → Int32 → Option (Int32)
  | 0, _, _, _, _ => none
  | n + 1, V, k0, x1, x2 =>
    if 3 ≤ x2 then
      some x1
    else
      (f_X8_netNumbered V k0 x2).bind fun q2 =>
      (f_X3_countChapters V q2).bind fun q3 =>
      f_X8_countAllChapters_b4 n V k0 (x1 + q3) (x2 + 1)
def f_X8_countAllChapters (V : St) (k0 : Nat) : Option (Int32) :=
  f_X8_countAllChapters_b4 500 V k0 0 0
def f_X8_countTorn_b4 : Nat → St → Nat → Int32 → Int32 → Option (Int32)
  | 0, _, _, _, _ => none
  | n + 1, V, k0, x1, x2 =>
    if 3 ≤ x2 then
      some x1
    else
      (f_X8_netNumbered V k0 x2).bind fun q2 =>
      (f_X3_countTorn V q2).bind fun q3 =>
      f_X8_countTorn_b4 n V k0 (x1 + q3) (x2 + 1)
def f_X8_countTorn (V : St) (k0 : Nat) : Option (Int32) :=
  f_X8_countTorn_b4 500 V k0 0 0
def f_X8_sumTwine_b4 : Nat → St → Nat → Int32 → Int32 → Option (Int32)
  | 0, _, _, _, _ => none
  | n + 1, V, k0, x1, x2 =>
    if (V k0 3) ≤ x2 then
      some x1
    else
      (f_X8_editorNumbered V k0 x2).bind fun q2 =>
      f_X8_sumTwine_b4 n V k0 (x1 + (V q2 0)) (x2 + 1)
def f_X8_sumTwine (V : St) (k0 : Nat) : Option (Int32) :=
  f_X8_sumTwine_b4 500 V k0 0 0
def f_X8_countAsNoted_b30 (c_4 : St → Nat → Int32 → Int32 → Option (Int32)) (V : St) (k0 : Nat) (x2 : Int32) (y0 : Int32) (y1 : Int32) : Option (Int32) :=
  c_4 V k0 (y1 + y0) (x2 + 1)
def f_X8_countAsNoted_b4 : Nat → St → Nat → Int32 → Int32 → Option (Int32)
  | 0, _, _, _, _ => none
  | n + 1, V, k0, x1, x2 =>
    if (V k0 4) ≤ x2 then
      some x1
    else
      (f_X8_noteNumbered V k0 x2).bind fun q2 =>
      (f_X8_readsAsNoted V k0 q2).bind fun q3 =>
      if q3 = 0 then
        f_X8_countAsNoted_b30 (fun V k0 x1 x2 => f_X8_countAsNoted_b4 n V k0 x1 x2) V k0 x2 0 x1
      else
        f_X8_countAsNoted_b30 (fun V k0 x1 x2 => f_X8_countAsNoted_b4 n V k0 x1 x2) V k0 x2 1 x1
def f_X8_countAsNoted (V : St) (k0 : Nat) : Option (Int32) :=
  f_X8_countAsNoted_b4 500 V k0 0 0
def f_X8_areChaptersToldAlike_b4 : Nat → St → Nat → Int32 → Int32 → Option (Int32 × St)
  | 0, _, _, _, _ => none
  | n + 1, V, k0, x2, x3 =>
    if 3 ≤ x3 then
      (f_X8_countAllChapters V k0).bind fun q2 =>
      if x2 = q2 then
        some (1, V)
      else
        some (0, V)
    else
      (f_X8_netNumbered V k0 x3).bind fun q4 =>
      (f_X3_countChaptersByStrings V q4).bind fun q5 =>
      f_X8_areChaptersToldAlike_b4 n q5.2 k0 (x2 + q5.1) (x3 + 1)
def f_X8_areChaptersToldAlike (V : St) (k0 : Nat) : Option (Int32 × St) :=
  f_X8_areChaptersToldAlike_b4 500 V k0 0 0
def f_X8_areNotesToldAlike_b40 (c_2 : St → Nat → Int32 → Option (Int32 × St)) (V : St) (k0 : Nat) (x2 : Int32) : Option (Int32 × St) :=
  c_2 V k0 (x2 + 1)
def f_X8_areNotesToldAlike_b2 : Nat → St → Nat → Int32 → Option (Int32 × St)
  | 0, _, _, _ => none
  | n + 1, V, k0, x2 =>
    if (V k0 4) ≤ x2 then
      some (1, V)
    else
      (f_X8_noteNumbered V k0 x2).bind fun q2 =>
      (f_X8_canBeMended V k0 q2).bind fun q3 =>
      if q3 = 0 then
        f_X8_areNotesToldAlike_b40 (fun V k0 x2 => f_X8_areNotesToldAlike_b2 n V k0 x2) V k0 x2
      else
        (f_X8_leastByStrings V k0 q2).bind fun q5 =>
        (f_X8_leastByPlaces q5.2 k0 q2).bind fun q6 =>
        if q5.1 = q6 then
          f_X8_areNotesToldAlike_b40 (fun V k0 x2 => f_X8_areNotesToldAlike_b2 n V k0 x2) q5.2 k0 x2
        else
          some (0, q5.2)
def f_X8_areNotesToldAlike (V : St) (k0 : Nat) : Option (Int32 × St) :=
  f_X8_areNotesToldAlike_b2 500 V k0 0
def f_X9_found (V : St) (x1 : Int32) (x2 : Int32) : Option (Int32 × St) :=
  some (x1, up V 0 9 x2)
def f_X9_reasonAgainstKnot_b37 (V : St) (x3 : Int32) : Option (Int32 × St) :=
  (f_X9_found V 3 x3).bind fun q1 =>
  some (q1.1, q1.2)
def f_X9_reasonAgainstKnot (V : St) (x1 : Int32) (x2 : Int32) (x3 : Int32) : Option (Int32 × St) :=
  (f_X9_isNet x1).bind fun q2 =>
  if q2 = 0 then
    (f_X9_found V 2 x1).bind fun q13 =>
    some (q13.1, q13.2)
  else
    (f_X9_isPlace x2).bind fun q4 =>
    if q4 = 0 then
      (f_X9_found V 2 x2).bind fun q12 =>
      some (q12.1, q12.2)
    else
      if x3 < 0 then
        f_X9_reasonAgainstKnot_b37 V x3
      else
        if x3 ≤ 3 then
          (f_X8_netNumbered V 1 x1).bind fun q8 =>
          (f_X3_kindAt V q8 x2).bind fun q9 =>
          if q9 = x3 then
            (f_X9_found V 4 x3).bind fun q11 =>
            some (q11.1, q11.2)
          else
            some (0, V)
        else
          f_X9_reasonAgainstKnot_b37 V x3
def f_X9_keepsReason (V : St) (x1 : Int32) : Option (Int32 × St) :=
  if x1 = 0 then
    some (0, V)
  else
    (f_X6_keepAlone V x1 (V 0 9)).bind fun q2 =>
    some (1, q2)
def f_X9_knot (V : St) (x1 : Int32) (x2 : Int32) (x3 : Int32) : Option ((Except Nat Int32) × St) :=
  (f_X9_reasonAgainstKnot V x1 x2 x3).bind fun q1 =>
  (f_X9_keepsReason q1.2 q1.1).bind fun q2 =>
  if q2.1 = 0 then
    (f_X1_push q2.2 1).bind fun q4 =>
    (f_X8_netNumbered q4 1 x1).bind fun q5 =>
    (f_X3_kindAt q4 q5 x2).bind fun q6 =>
    (f_X8_netNumbered q4 1 x1).bind fun q7 =>
    (f_X3_tie q4 q7 x2 x3).bind fun q8 =>
    some (.ok q6, q8)
  else
    some (.error 0, q2.2)
def f_X9_reasonAgainstEnds (V : St) (x1 : Int32) (x2 : Int32) (x3 : Int32) : Option (Int32 × St) :=
  (f_X9_isNet x1).bind fun q1 =>
  if q1 = 0 then
    (f_X9_found V 2 x1).bind fun q9 =>
    some (q9.1, q9.2)
  else
    (f_X9_isPlace x2).bind fun q3 =>
    if q3 = 0 then
      (f_X9_found V 2 x2).bind fun q8 =>
      some (q8.1, q8.2)
    else
      (f_X9_isPlace x3).bind fun q5 =>
      if q5 = 0 then
        (f_X9_found V 2 x3).bind fun q7 =>
        some (q7.1, q7.2)
      else
        some (0, V)
def f_X9_reasonAgainstString (V : St) (x1 : Int32) (x2 : Int32) (x3 : Int32) (x4 : Int32) : Option (Int32 × St) :=
  (f_X9_areBeside x2 x3).bind fun q1 =>
  if q1 = 0 then
    (f_X9_found V 5 x3).bind fun q7 =>
    some (q7.1, q7.2)
  else
    (f_X8_netNumbered V 1 x1).bind fun q3 =>
    (f_X3_isTornBetween V q3 x2 x3).bind fun q4 =>
    if q4 = x4 then
      some (0, V)
    else
      (f_X9_found V 4 (imax x2 x3)).bind fun q6 =>
      some (q6.1, q6.2)
def f_X9_reasonAgainstTear (V : St) (x1 : Int32) (x2 : Int32) (x3 : Int32) : Option (Int32 × St) :=
  (f_X9_reasonAgainstEnds V x1 x2 x3).bind fun q1 =>
  if q1.1 = 0 then
    (f_X9_reasonAgainstString q1.2 x1 x2 x3 0).bind fun q3 =>
    some (q3.1, q3.2)
  else
    some (q1.1, q1.2)
def f_X9_tear (V : St) (x1 : Int32) (x2 : Int32) (x3 : Int32) : Option ((Except Nat Int32) × St) :=
  (f_X9_reasonAgainstTear V x1 x2 x3).bind fun q1 =>
  (f_X9_keepsReason q1.2 q1.1).bind fun q2 =>
  if q2.1 = 0 then
    (f_X1_push q2.2 1).bind fun q4 =>
    (f_X8_tearString q4 1 x1 x2 x3).bind fun q5 =>
    (f_X8_netNumbered q5 1 x1).bind fun q6 =>
    (f_X3_countChapters q5 q6).bind fun q7 =>
    some (.ok q7, q5)
  else
    some (.error 0, q2.2)
def f_X9_reasonAgainstMend (V : St) (x1 : Int32) (x2 : Int32) (x3 : Int32) (x4 : Int32) : Option (Int32 × St) :=
  (f_X9_reasonAgainstEnds V x1 x2 x3).bind fun q1 =>
  if q1.1 = 0 then
    (f_X8_hasEditor q1.2 1 x4).bind fun q3 =>
    if q3 = 0 then
      (f_X9_found q1.2 2 x4).bind fun q11 =>
      some (q11.1, q11.2)
    else
      (f_X9_reasonAgainstString q1.2 x1 x2 x3 1).bind fun q5 =>
      if q5.1 = 0 then
        (f_X8_editorNumbered q5.2 1 x4).bind fun q7 =>
        (f_X9_twineFor x2 x3).bind fun q8 =>
        if q8 ≤ (q5.2 q7 0) then
          some (0, q5.2)
        else
          (f_X9_found q5.2 6 (q5.2 q7 0)).bind fun q10 =>
          some (q10.1, q10.2)
      else
        some (q5.1, q5.2)
  else
    some (q1.1, q1.2)
def f_X9_mend (V : St) (x1 : Int32) (x2 : Int32) (x3 : Int32) (x4 : Int32) : Option ((Except Nat Int32) × St) :=
  (f_X9_reasonAgainstMend V x1 x2 x3 x4).bind fun q1 =>
  (f_X9_keepsReason q1.2 q1.1).bind fun q2 =>
  if q2.1 = 0 then
    (f_X1_push q2.2 1).bind fun q4 =>
    (f_X8_mendString q4 1 x1 x2 x3 x4).bind fun q5 =>
    (f_X8_editorNumbered q5 1 x4).bind fun q6 =>
    some (.ok (q5 q6 0), q5)
  else
    some (.error 0, q2.2)
def f_X9_reasonAgainstEditor_b10 (V : St) (x1 : Int32) : Option (Int32 × St) :=
  (f_X9_found V 3 x1).bind fun q1 =>
  some (q1.1, q1.2)
def f_X9_reasonAgainstEditor (V : St) (x1 : Int32) : Option (Int32 × St) :=
  if x1 < 0 then
    f_X9_reasonAgainstEditor_b10 V x1
  else
    if x1 ≤ 99 then
      if (V 1 3) < 4 then
        some (0, V)
      else
        (f_X9_found V 1 (V 1 3)).bind fun q5 =>
        some (q5.1, q5.2)
    else
      f_X9_reasonAgainstEditor_b10 V x1
def f_X9_editor (V : St) (x1 : Int32) : Option ((Except Nat Int32) × St) :=
  (f_X9_reasonAgainstEditor V x1).bind fun q1 =>
  (f_X9_keepsReason q1.2 q1.1).bind fun q2 =>
  if q2.1 = 0 then
    (f_X1_push q2.2 1).bind fun q4 =>
    (f_X8_addEditor q4 1 x1).bind fun q5 =>
    some (.ok ((q5 1 3) - 1), q5)
  else
    some (.error 0, q2.2)
def f_X9_reasonAgainstTide_b9 (V : St) (x1 : Int32) : Option (Int32 × St) :=
  (f_X9_found V 3 x1).bind fun q1 =>
  some (q1.1, q1.2)
def f_X9_reasonAgainstTide (V : St) (x1 : Int32) : Option (Int32 × St) :=
  if x1 < 0 then
    f_X9_reasonAgainstTide_b9 V x1
  else
    if x1 ≤ 4 then
      if (V 1 5) = x1 then
        (f_X9_found V 4 x1).bind fun q5 =>
        some (q5.1, q5.2)
      else
        some (0, V)
    else
      f_X9_reasonAgainstTide_b9 V x1
def f_X9_tide (V : St) (x1 : Int32) : Option ((Except Nat Int32) × St) :=
  (f_X9_reasonAgainstTide V x1).bind fun q1 =>
  (f_X9_keepsReason q1.2 q1.1).bind fun q2 =>
  if q2.1 = 0 then
    (f_X1_push q2.2 1).bind fun q4 =>
    (f_X8_countReadable (up q4 1 5 x1) 1).bind fun q5 =>
    some (.ok q5, up q4 1 5 x1)
  else
    some (.error 0, q2.2)
def f_X9_reasonAgainstSink_b23 (V : St) (x2 : Int32) : Option (Int32 × St) :=
  (f_X9_found V 3 x2).bind fun q1 =>
  some (q1.1, q1.2)
def f_X9_reasonAgainstSink_b50 (V : St) (x2 : Int32) (y0 : Int32) : Option (Int32 × St) :=
  if y0 = 0 then
    some (0, V)
  else
    (f_X9_found V 4 x2).bind fun q3 =>
    some (q3.1, q3.2)
def f_X9_reasonAgainstSink (V : St) (x1 : Int32) (x2 : Int32) : Option (Int32 × St) :=
  (f_X9_isNet x1).bind fun q4 =>
  if q4 = 0 then
    (f_X9_found V 2 x1).bind fun q10 =>
    some (q10.1, q10.2)
  else
    if x2 < 0 then
      f_X9_reasonAgainstSink_b23 V x2
    else
      if x2 ≤ 4 then
        (f_X8_netNumbered V 1 x1).bind fun q8 =>
        if (V q8 4) = x2 then
          f_X9_reasonAgainstSink_b50 V x2 1
        else
          f_X9_reasonAgainstSink_b50 V x2 0
      else
        f_X9_reasonAgainstSink_b23 V x2
def f_X9_sink (V : St) (x1 : Int32) (x2 : Int32) : Option ((Except Nat Int32) × St) :=
  (f_X9_reasonAgainstSink V x1 x2).bind fun q1 =>
  (f_X9_keepsReason q1.2 q1.1).bind fun q2 =>
  if q2.1 = 0 then
    (f_X1_push q2.2 1).bind fun q4 =>
    (f_X8_netNumbered q4 1 x1).bind fun q5 =>
    (f_X8_linesUnderWater (up q4 q5 4 x2) 1 x1).bind fun q6 =>
    some (.ok q6, up q4 q5 4 x2)
  else
    some (.error 0, q2.2)
def f_X9_reasonAgainstNote (V : St) (x1 : Int32) (x2 : Int32) : Option (Int32 × St) :=
  (f_X9_isNet x1).bind fun q1 =>
  if q1 = 0 then
    (f_X9_found V 2 x1).bind fun q15 =>
    some (q15.1, q15.2)
  else
    (f_X9_isPlace x2).bind fun q3 =>
    if q3 = 0 then
      (f_X9_found V 2 x2).bind fun q14 =>
      some (q14.1, q14.2)
    else
      (f_X8_netNumbered V 1 x1).bind fun q5 =>
      (f_X3_chapterAt V q5 x2).bind fun q6 =>
      if q6 = 0 then
        (f_X9_found V 7 x2).bind fun q13 =>
        some (q13.1, q13.2)
      else
        (f_X8_lowestNoteOf V 1 x1 q6).bind fun q8 =>
        if q8 = (-1) then
          if (V 1 4) < 6 then
            some (0, V)
          else
            (f_X9_found V 1 (V 1 4)).bind fun q11 =>
            some (q11.1, q11.2)
        else
          (f_X9_found V 8 q8).bind fun q12 =>
          some (q12.1, q12.2)
def f_X9_note (V : St) (x1 : Int32) (x2 : Int32) : Option ((Except Nat Int32) × St) :=
  (f_X9_reasonAgainstNote V x1 x2).bind fun q1 =>
  (f_X9_keepsReason q1.2 q1.1).bind fun q2 =>
  if q2.1 = 0 then
    (f_X1_push q2.2 1).bind fun q4 =>
    (f_X8_addNote q4 1 x1 x2).bind fun q5 =>
    some (.ok ((q5 1 4) - 1), q5)
  else
    some (.error 0, q2.2)
def f_X9_reasonAgainstDrop (V : St) (x1 : Int32) : Option (Int32 × St) :=
  (f_X8_hasNote V 1 x1).bind fun q1 =>
  if q1 = 0 then
    (f_X9_found V 2 x1).bind fun q3 =>
    some (q3.1, q3.2)
  else
    some (0, V)
def f_X9_drop (V : St) (x1 : Int32) : Option ((Except Nat Int32) × St) :=
  (f_X9_reasonAgainstDrop V x1).bind fun q1 =>
  (f_X9_keepsReason q1.2 q1.1).bind fun q2 =>
  if q2.1 = 0 then
    (f_X1_push q2.2 1).bind fun q4 =>
    (f_X8_removeNote q4 1 x1).bind fun q5 =>
    some (.ok (q5 1 4), q5)
  else
    some (.error 0, q2.2)
def f_X9_kindOf_b14 (V : St) : Option (Except Nat Int32) :=
  some (.error 1)
def f_X9_kindOf (V : St) (x1 : Int32) (x2 : Int32) : Option (Except Nat Int32) :=
  (f_X9_isNet x1).bind fun q1 =>
  if q1 = 0 then
    f_X9_kindOf_b14 V
  else
    (f_X9_isPlace x2).bind fun q3 =>
    if q3 = 0 then
      f_X9_kindOf_b14 V
    else
      (f_X8_netNumbered V 1 x1).bind fun q5 =>
      (f_X3_kindAt V q5 x2).bind fun q6 =>
      some (.ok q6)
def f_X9_isTorn_b21 (V : St) : Option (Except Nat Int32) :=
  some (.error 1)
def f_X9_isTorn (V : St) (x1 : Int32) (x2 : Int32) (x3 : Int32) : Option (Except Nat Int32) :=
  (f_X9_isNet x1).bind fun q1 =>
  if q1 = 0 then
    f_X9_isTorn_b21 V
  else
    (f_X9_isPlace x2).bind fun q3 =>
    if q3 = 0 then
      f_X9_isTorn_b21 V
    else
      (f_X9_isPlace x3).bind fun q5 =>
      if q5 = 0 then
        f_X9_isTorn_b21 V
      else
        (f_X9_areBeside x2 x3).bind fun q7 =>
        if q7 = 0 then
          some (.error 2)
        else
          (f_X8_netNumbered V 1 x1).bind fun q9 =>
          (f_X3_isTornBetween V q9 x2 x3).bind fun q10 =>
          (nr .boolean q10).bind fun q11 =>
          some (.ok q10)
def f_X9_netOf (V : St) (x1 : Int32) (x2 : Int32) : Option (Except Nat Int32) :=
  (f_X9_isNet x1).bind fun q1 =>
  if q1 = 0 then
    some (.error 1)
  else
    (f_X8_netNumbered V 1 x1).bind fun q3 =>
    if x2 = 0 then
      (f_X3_knots V q3).bind fun q5 =>
      (f_J6_bitCount_0f7a4 q5).bind fun q6 =>
      some (.ok q6)
    else
    if x2 = 1 then
      (f_X3_knots V q3).bind fun q8 =>
      (f_X8_dryPlaces V 1 x1).bind fun q9 =>
      (f_J6_bitCount_0f7a4 (q8 &&& q9)).bind fun q10 =>
      some (.ok q10)
    else
    if x2 = 2 then
      (f_X3_countTorn V q3).bind fun q12 =>
      some (.ok q12)
    else
    if x2 = 3 then
      some (.ok (V q3 4))
    else
    if x2 = 4 then
      (f_X8_linesUnderWater V 1 x1).bind fun q15 =>
      some (.ok q15)
    else
    if x2 = 5 then
      (f_X3_knots V q3).bind fun q17 =>
      (f_X3_greatestChapter V q3 q17).bind fun q18 =>
      (f_J6_bitCount_0f7a4 q18).bind fun q19 =>
      some (.ok q19)
    else
    if x2 = 6 then
      (f_X3_twineForAll V q3).bind fun q21 =>
      some (.ok q21)
    else
    some (.error 3)
def f_X9_chapters (V : St) (x1 : Int32) : Option (Except Nat Int32) :=
  (f_X9_isNet x1).bind fun q1 =>
  if q1 = 0 then
    some (.error 1)
  else
    (f_X8_netNumbered V 1 x1).bind fun q3 =>
    (f_X3_countChapters V q3).bind fun q4 =>
    some (.ok q4)
def f_X9_chaptersAgain (V : St) (x1 : Int32) : Option ((Except Nat Int32) × St) :=
  (f_X9_isNet x1).bind fun q1 =>
  if q1 = 0 then
    some (.error 1, V)
  else
    (f_X8_netNumbered V 1 x1).bind fun q3 =>
    (f_X3_countChaptersByStrings V q3).bind fun q4 =>
    some (.ok q4.1, q4.2)
def f_X9_chapterOf_b14 (V : St) : Option (Except Nat Int32) :=
  some (.error 1)
def f_X9_chapterOf_b33 (V : St) : Option (Except Nat Int32) :=
  some (.error 3)
def f_X9_chapterOf (V : St) (x1 : Int32) (x2 : Int32) (x3 : Int32) : Option (Except Nat Int32) :=
  (f_X9_isNet x1).bind fun q1 =>
  if q1 = 0 then
    f_X9_chapterOf_b14 V
  else
    (f_X9_isPlace x2).bind fun q3 =>
    if q3 = 0 then
      f_X9_chapterOf_b14 V
    else
      if x3 < 0 then
        f_X9_chapterOf_b33 V
      else
        if x3 ≤ 3 then
          (f_X8_netNumbered V 1 x1).bind fun q7 =>
          (f_X3_chapterAt V q7 x2).bind fun q8 =>
          if q8 = 0 then
            some (.error 2)
          else
            if x3 = 0 then
              (f_X9_lowestPlace q8).bind fun q11 =>
              some (.ok q11)
            else
            if x3 = 1 then
              (f_J6_bitCount_0f7a4 q8).bind fun q13 =>
              some (.ok q13)
            else
            if x3 = 2 then
              (f_X8_dryPlaces V 1 x1).bind fun q15 =>
              (f_J6_bitCount_0f7a4 (q8 &&& q15)).bind fun q16 =>
              some (.ok q16)
            else
            (f_X8_netNumbered V 1 x1).bind fun q17 =>
            (f_X3_countWholeWithin V q17 q8).bind fun q18 =>
            some (.ok q18)
        else
          f_X9_chapterOf_b33 V
def f_X9_noteOf (V : St) (x1 : Int32) (x2 : Int32) : Option (Except Nat Int32) :=
  (f_X8_hasNote V 1 x1).bind fun q1 =>
  if q1 = 0 then
    some (.error 1)
  else
    (f_X8_noteNumbered V 1 x1).bind fun q3 =>
    if x2 = 0 then
      some (.ok (V q3 0))
    else
    if x2 = 1 then
      (f_X4_places V q3).bind fun q6 =>
      (f_X9_lowestPlace q6).bind fun q7 =>
      some (.ok q7)
    else
    if x2 = 2 then
      (f_X4_places V q3).bind fun q9 =>
      (f_J6_bitCount_0f7a4 q9).bind fun q10 =>
      some (.ok q10)
    else
    if x2 = 3 then
      (f_X8_readsAsNoted V 1 q3).bind fun q12 =>
      if q12 = 0 then
        some (.ok 0)
      else
        some (.ok 1)
    else
    some (.error 3)
def f_X9_least (V : St) (x1 : Int32) : Option ((Except Nat Int32) × St) :=
  (f_X8_hasNote V 1 x1).bind fun q1 =>
  if q1 = 0 then
    some (.error 1, V)
  else
    (f_X8_noteNumbered V 1 x1).bind fun q3 =>
    (f_X8_canBeMended V 1 q3).bind fun q4 =>
    if q4 = 0 then
      some (.error 2, V)
    else
      (f_X8_leastByStrings V 1 q3).bind fun q6 =>
      some (.ok q6.1, q6.2)
def f_X9_leastAgain (V : St) (x1 : Int32) : Option (Except Nat Int32) :=
  (f_X8_hasNote V 1 x1).bind fun q1 =>
  if q1 = 0 then
    some (.error 1)
  else
    (f_X8_noteNumbered V 1 x1).bind fun q3 =>
    (f_X8_canBeMended V 1 q3).bind fun q4 =>
    if q4 = 0 then
      some (.error 2)
    else
      (f_X8_leastByPlaces V 1 q3).bind fun q6 =>
      some (.ok q6)
def f_X9_bestMend (V : St) (x1 : Int32) (x2 : Int32) : Option (Except Nat Int32) :=
  (f_X9_isNet x1).bind fun q1 =>
  if q1 = 0 then
    some (.error 1)
  else
    (f_X8_netNumbered V 1 x1).bind fun q3 =>
    (f_X3_bestTornString V q3 x2).bind fun q4 =>
    if q4 = (-1) then
      some (.error 2)
    else
      some (.ok q4)
def f_X9_ranked (V : St) (x1 : Int32) (x2 : Int32) : Option (Except Nat Int32) :=
  (f_X9_isNet x1).bind fun q1 =>
  if q1 = 0 then
    some (.error 1)
  else
    (f_X8_netNumbered V 1 x1).bind fun q3 =>
    (f_X3_chapterRanked V q3 x2).bind fun q4 =>
    if q4 = 0 then
      some (.error 2)
    else
      (f_X9_lowestPlace q4).bind fun q6 =>
      some (.ok q6)
def f_X9_editorOf (V : St) (x1 : Int32) (x2 : Int32) : Option (Except Nat Int32) :=
  (f_X8_hasEditor V 1 x1).bind fun q1 =>
  if q1 = 0 then
    some (.error 1)
  else
    if x2 = 0 then
      (f_X8_editorNumbered V 1 x1).bind fun q4 =>
      some (.ok (V q4 0))
    else
    if x2 = 1 then
      (f_X8_editorNumbered V 1 x1).bind fun q6 =>
      some (.ok (V q6 1))
    else
    some (.error 3)
def f_X9_feed (V : St) (x1 : Int32) : Option ((Except Nat Int32) × St) :=
  (f_X7_isFull V).bind fun q1 =>
  if q1 = 0 then
    (f_X7_append V x1).bind fun q3 =>
    some (.ok (q3 192 1), q3)
  else
    some (.error 4, V)
def f_X9_reasonAgainstOrder (V : St) (x1 : Int32) : Option (Int32 × St) :=
  (f_X7_numberAt V x1 0).bind fun q1 =>
  (f_X7_numberAt V x1 1).bind fun q2 =>
  (f_X7_numberAt V x1 2).bind fun q3 =>
  (f_X7_wordAt V x1).bind fun q4 =>
  if q4 = 0 then
    (f_X9_reasonAgainstKnot V q1 q2 q3).bind fun q6 =>
    some (q6.1, q6.2)
  else
  if q4 = 1 then
    (f_X9_reasonAgainstTear V q1 q2 q3).bind fun q8 =>
    some (q8.1, q8.2)
  else
  if q4 = 2 then
    (f_X7_numberAt V x1 3).bind fun q10 =>
    (f_X9_reasonAgainstMend V q1 q2 q3 q10).bind fun q11 =>
    some (q11.1, q11.2)
  else
  if q4 = 3 then
    (f_X9_reasonAgainstEditor V q1).bind fun q13 =>
    some (q13.1, q13.2)
  else
  if q4 = 4 then
    (f_X9_reasonAgainstTide V q1).bind fun q15 =>
    some (q15.1, q15.2)
  else
  if q4 = 5 then
    (f_X9_reasonAgainstSink V q1 q2).bind fun q17 =>
    some (q17.1, q17.2)
  else
  if q4 = 6 then
    (f_X9_reasonAgainstNote V q1 q2).bind fun q19 =>
    some (q19.1, q19.2)
  else
  (f_X9_reasonAgainstDrop V q1).bind fun q20 =>
  some (q20.1, q20.2)
def f_X9_doOrder (V : St) (x1 : Int32) : Option (St) :=
  (f_X7_numberAt V x1 0).bind fun q1 =>
  (f_X7_numberAt V x1 1).bind fun q2 =>
  (f_X7_numberAt V x1 2).bind fun q3 =>
  (f_X7_wordAt V x1).bind fun q4 =>
  if q4 = 0 then
    (f_X8_netNumbered V 1 q1).bind fun q6 =>
    (f_X3_tie V q6 q2 q3).bind fun q7 =>
    some q7
  else
  if q4 = 1 then
    (f_X8_tearString V 1 q1 q2 q3).bind fun q9 =>
    some q9
  else
  if q4 = 2 then
    (f_X7_numberAt V x1 3).bind fun q11 =>
    (f_X8_mendString V 1 q1 q2 q3 q11).bind fun q12 =>
    some q12
  else
  if q4 = 3 then
    (f_X8_addEditor V 1 q1).bind fun q14 =>
    some q14
  else
  if q4 = 4 then
    some (up V 1 5 q1)
  else
  if q4 = 5 then
    (f_X8_netNumbered V 1 q1).bind fun q17 =>
    some (up V q17 4 q2)
  else
  if q4 = 6 then
    (f_X8_addNote V 1 q1 q2).bind fun q19 =>
    some q19
  else
  (f_X8_removeNote V 1 q1).bind fun q20 =>
  some q20
def f_X9_run_b49 : Nat → St → Int32 → Option ((Except Nat Int32) × St)
  | 0, _, _ => none
  | n + 1, V, x2 =>
    if (V 192 5) ≤ x2 then
      (f_X1_push V 18).bind fun q2 =>
      some (.ok (q2 192 5), q2)
    else
      (f_X9_reasonAgainstOrder V x2).bind fun q3 =>
      if q3.1 = 0 then
        (f_X9_doOrder q3.2 x2).bind fun q5 =>
        f_X9_run_b49 n q5 (x2 + 1)
      else
        (f_X8_copyFrom q3.2 1 18).bind fun q6 =>
        (f_X6_keepOrder q6 x2 q3.1 (q6 0 9)).bind fun q7 =>
        some (.error 0, q7)
def f_X9_run (V : St) : Option ((Except Nat Int32) × St) :=
  (f_X7_findFault V).bind fun q8 =>
  (f_X7_clear q8.2).bind fun q9 =>
  if q8.1 = (-1) then
    (f_X8_copyFrom q9 18 1).bind fun q11 =>
    f_X9_run_b49 500 q11 0
  else
    some (.error 3, up q9 0 10 q8.1)
def f_X9_line_b16 (V : St) : Option ((Except Nat Int32) × St) :=
  some (.error 1, V)
def f_X9_line_b57 (V : St) (x1 : Int32) (x2 : Int32) : Option ((Except Nat Int32) × St) :=
  (f_X8_netNumbered V 1 x1).bind fun q1 =>
  (f_X3_writeLine V q1 x2).bind fun q2 =>
  some (.ok (q2 205 1), q2)
def f_X9_line (V : St) (x1 : Int32) (x2 : Int32) : Option ((Except Nat Int32) × St) :=
  (f_X9_isNet x1).bind fun q3 =>
  if q3 = 0 then
    f_X9_line_b16 V
  else
    if x2 < 0 then
      f_X9_line_b16 V
    else
      if x2 < 4 then
        (f_X2_clear V).bind fun q7 =>
        (f_X8_linesUnderWater q7 1 x1).bind fun q8 =>
        if x2 < (4 - q8) then
          f_X9_line_b57 q7 x1 x2
        else
          (f_X2_append q7 126).bind fun q10 =>
          f_X9_line_b57 q10 x1 x2
      else
        f_X9_line_b16 V
def f_X9_chapterLine_b14 (V : St) : Option ((Except Nat Int32) × St) :=
  some (.error 1, V)
def f_X9_chapterLine (V : St) (x1 : Int32) (x2 : Int32) : Option ((Except Nat Int32) × St) :=
  (f_X9_isNet x1).bind fun q1 =>
  if q1 = 0 then
    f_X9_chapterLine_b14 V
  else
    (f_X9_isPlace x2).bind fun q3 =>
    if q3 = 0 then
      f_X9_chapterLine_b14 V
    else
      (f_X8_netNumbered V 1 x1).bind fun q5 =>
      (f_X3_chapterAt V q5 x2).bind fun q6 =>
      if q6 = 0 then
        some (.error 2, V)
      else
        (f_X2_clear V).bind fun q8 =>
        (f_X2_appendKnots q8 ((q8 q5 0) &&& q6) ((q8 q5 1) &&& q6)).bind fun q9 =>
        some (.ok (q9 205 1), q9)
def f_X9_noteLine (V : St) (x1 : Int32) : Option ((Except Nat Int32) × St) :=
  (f_X8_hasNote V 1 x1).bind fun q1 =>
  if q1 = 0 then
    some (.error 1, V)
  else
    (f_X8_noteNumbered V 1 x1).bind fun q3 =>
    (f_X2_clear V).bind fun q4 =>
    (f_X2_appendKnots q4 (q4 q3 1) (q4 q3 2)).bind fun q5 =>
    (f_X8_readsAsNoted q5 1 q3).bind fun q6 =>
    if q6 = 0 then
      (f_X2_append q5 33).bind fun q8 =>
      some (.ok (q8 205 1), q8)
    else
      some (.ok (q5 205 1), q5)
def f_X9_meanKnots (V : St) : Option (Except Nat UInt64) :=
  (f_X8_countAllChapters V 1).bind fun q1 =>
  if q1 = 0 then
    some (.error 5)
  else
    (f_X8_countKnots V 1).bind fun q3 =>
    (dv (FP.i2d q3) (FP.i2d q1)).bind fun q4 =>
    some (.ok q4)
def f_X9_readShare (V : St) : Option (Except Nat UInt32) :=
  (f_X8_countKnots V 1).bind fun q1 =>
  if q1 = 0 then
    some (.error 5)
  else
    (f_X8_countReadable V 1).bind fun q3 =>
    (fv (FP.i2f q3) (FP.i2f q1)).bind fun q4 =>
    some (.ok q4)
def f_X9_account (V : St) (x1 : Int32) : Option (Except Nat Int32) :=
  if x1 = 0 then
    (f_X8_countKnots V 1).bind fun q2 =>
    some (.ok q2)
  else
  if x1 = 1 then
    (f_X8_countAllChapters V 1).bind fun q4 =>
    some (.ok q4)
  else
  if x1 = 2 then
    (f_X8_countTorn V 1).bind fun q6 =>
    some (.ok q6)
  else
  if x1 = 3 then
    some (.ok (V 1 3))
  else
  if x1 = 4 then
    (f_X8_sumTwine V 1).bind fun q9 =>
    some (.ok q9)
  else
  if x1 = 5 then
    some (.ok (V 1 4))
  else
  if x1 = 6 then
    (f_X8_countAsNoted V 1).bind fun q12 =>
    some (.ok q12)
  else
  if x1 = 7 then
    some (.ok (V 1 5))
  else
  if x1 = 8 then
    some (.ok (V 1 6))
  else
  if x1 = 9 then
    some (.ok (V 1 7))
  else
  if x1 = 10 then
    some (.ok (V 1 8))
  else
  if x1 = 11 then
    some (.ok (V 192 1))
  else
  if x1 = 12 then
    some (.ok (V 52 2))
  else
  some (.error 3)
def f_X9_isBalanced (V : St) : Option (Int32 × St) :=
  (f_X8_areChaptersToldAlike V 1).bind fun q1 =>
  if q1.1 = 0 then
    some (0, q1.2)
  else
    (f_X8_areNotesToldAlike q1.2 1).bind fun q3 =>
    if q3.1 = 0 then
      some (0, q3.2)
    else
      (f_X8_countTorn q3.2 1).bind fun q5 =>
      if (q3.2 1 6) = (q5 + (q3.2 1 7)) then
        some (1, q3.2)
      else
        some (0, q3.2)
def f_X9_undo (V : St) : Option ((Except Nat Int32) × St) :=
  if (V 52 2) = 0 then
    some (.error 4, V)
  else
    (f_X1_popInto V 1).bind fun q2 =>
    some (.ok (q2 52 2), q2)
def f_X9_save (V : St) : Option (Int32 × St) :=
  (f_X8_copyFrom V 35 1).bind fun q1 =>
  some ((up q1 0 3 1) 35 4, up q1 0 3 1)
def f_X9_restore (V : St) : Option ((Except Nat Int32) × St) :=
  if (V 0 3) = 0 then
    some (.error 4, V)
  else
    (f_X8_copyFrom V 1 35).bind fun q2 =>
    (f_X1_clear q2).bind fun q3 =>
    some (.ok (q3 1 4), q3)
