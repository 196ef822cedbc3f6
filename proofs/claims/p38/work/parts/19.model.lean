/-! the reference as functions of its ints (out of the whole claim's rows): a ghost beside the class's state -/
def f_X10_thrown (V : St) : Option (Int32) :=
  some (V 208 0)
def f_X10_fails (V : St) (x1 : Int32) : Option (Int32 × St) :=
  some (0, up V 208 0 x1)
def f_X10_in (x0 : Int32) (x1 : Int32) (x2 : Int32) : Option (Int32) :=
  if x0 < x1 then
    some 0
  else
    if x2 < x0 then
      some 0
    else
      some 1
def f_X10_remembers_b7 : Nat → St → Int32 → Option (St)
  | 0, _, _ => none
  | n + 1, V, x1 =>
    if 53 ≤ x1 then
      some V
    else
      (ix x1 53).bind fun j2 =>
      (ix x1 53).bind fun j3 =>
      f_X10_remembers_b7 n (up V 210 j3 (V 209 j2)) (x1 + 1)
def f_X10_remembers (V : St) : Option (St) :=
  f_X10_remembers_b7 500 (up V 208 0 0) 0
def f_X10_changed_b54 : Nat → St → Int32 → Int32 → Option (Int32 × St)
  | 0, _, _, _ => none
  | n + 1, V, x1, x2 =>
    if 53 ≤ x2 then
      some (x1, V)
    else
      (ix x2 53).bind fun j2 =>
      (ix ((53 * ((V 208 5) - 1)) + x2) 424).bind fun j3 =>
      f_X10_changed_b54 n (up V 212 j3 (V 210 j2)) x1 (x2 + 1)
def f_X10_changed_b52 (V : St) (x1 : Int32) : Option (Int32 × St) :=
  f_X10_changed_b54 500 V x1 0
def f_X10_changed_b11 : Nat → St → Int32 → Int32 → Option (Int32 × St)
  | 0, _, _, _ => none
  | n + 1, V, x1, x2 =>
    if 371 ≤ x2 then
      f_X10_changed_b52 V x1
    else
      (ix (x2 + 53) 424).bind fun j5 =>
      (ix x2 424).bind fun j6 =>
      f_X10_changed_b11 n (up V 212 j6 (V 212 j5)) x1 (x2 + 1)
def f_X10_changed (V : St) (x1 : Int32) : Option (Int32 × St) :=
  if (V 208 5) = 8 then
    f_X10_changed_b11 500 V x1 0
  else
    f_X10_changed_b52 (up V 208 5 ((V 208 5) + 1)) x1
def f_X10_refused (V : St) (x1 : Int32) (x2 : Int32) : Option (Int32 × St) :=
  some (x1, up V 208 17 x2)
def f_X10_done (V : St) (x1 : Int32) : Option (Int32 × St) :=
  some (0, up V 208 18 x1)
def f_X10_ends (V : St) (x1 : Int32) : Option (Int32 × St) :=
  if x1 = 0 then
    (f_X10_changed V (V 208 18)).bind fun q3 =>
    some (q3.1, q3.2)
  else
    (f_X10_fails (up (up (up V 208 13 x1) 208 14 ((up V 208 13 x1) 208 17)) 208 15 0) 1).bind fun q2 =>
    some (q2.1, q2.2)
def f_X10_isNet (x0 : Int32) : Option (Int32) :=
  (f_X10_in x0 0 2).bind fun q1 =>
  (nr .boolean q1).bind fun q2 =>
  some q1
def f_X10_isPlace (x0 : Int32) : Option (Int32) :=
  (f_X10_in x0 0 23).bind fun q1 =>
  (nr .boolean q1).bind fun q2 =>
  some q1
def f_X10_of (V : St) (x1 : Int32) (x2 : Int32) : Option (Int32) :=
  (ix ((6 + (5 * x1)) + x2) 53).bind fun j1 =>
  some (V 209 j1)
def f_X10_sets (V : St) (x1 : Int32) (x2 : Int32) (x3 : Int32) (x4 : Int32) : Option (St) :=
  if x4 = 0 then
    (ix ((6 + (5 * x1)) + x2) 53).bind fun j2 =>
    (ix ((6 + (5 * x1)) + x2) 53).bind fun j3 =>
    some (up V 209 j3 ((V 209 j2) &&& ((1 <<< (x3 &&& 31)) ^^^ (-1))))
  else
    (ix ((6 + (5 * x1)) + x2) 53).bind fun j4 =>
    (ix ((6 + (5 * x1)) + x2) 53).bind fun j5 =>
    some (up V 209 j5 ((V 209 j4) ||| (1 <<< (x3 &&& 31))))
def f_X10_kind (V : St) (x1 : Int32) (x2 : Int32) : Option (Int32) :=
  (f_X10_of V x1 0).bind fun q1 =>
  (f_X10_of V x1 1).bind fun q2 =>
  some (((q1 >>> (x2 &&& 31)) &&& 1) + (2 * ((q2 >>> (x2 &&& 31)) &&& 1)))
def f_X10_bits_b4 : Nat → Int32 → Int32 → Int32 → Option (Int32)
  | 0, _, _, _ => none
  | n + 1, x0, x1, x2 =>
    if 24 ≤ x2 then
      some x1
    else
      f_X10_bits_b4 n x0 (x1 + ((x0 >>> (x2 &&& 31)) &&& 1)) (x2 + 1)
def f_X10_bits (x0 : Int32) : Option (Int32) :=
  f_X10_bits_b4 500 x0 0 0
def f_X10_lowest_b2 : Nat → Int32 → Int32 → Option (Int32)
  | 0, _, _ => none
  | n + 1, x0, x1 =>
    if 24 ≤ x1 then
      some (-1)
    else
      if ((x0 >>> (x1 &&& 31)) &&& 1) = 1 then
        some x1
      else
        f_X10_lowest_b2 n x0 (x1 + 1)
def f_X10_lowest (x0 : Int32) : Option (Int32) :=
  f_X10_lowest_b2 500 x0 0
def f_X10_looksAt (V : St) (x1 : Int32) : Option (St) :=
  (f_X10_of V x1 0).bind fun q1 =>
  (f_X10_of V x1 1).bind fun q2 =>
  (f_X10_of (up V 208 19 (q1 ||| q2)) x1 2).bind fun q3 =>
  (f_X10_of (up (up V 208 19 (q1 ||| q2)) 208 20 (8255455 &&& (q3 ^^^ (-1)))) x1 3).bind fun q4 =>
  some (up (up (up V 208 19 (q1 ||| q2)) 208 20 (8255455 &&& (q3 ^^^ (-1)))) 208 21 (262143 &&& (q4 ^^^ (-1))))
def f_X10_spread (V : St) (x1 : Int32) : Option (Int32) :=
  some ((((x1 ||| ((x1 &&& (V 208 20)) <<< (1 &&& 31))) ||| ((x1 >>> (1 &&& 31)) &&& (V 208 20))) ||| ((x1 &&& (V 208 21)) <<< (6 &&& 31))) ||| ((x1 >>> (6 &&& 31)) &&& (V 208 21)))
def f_X10_together_b13 : Nat → St → Int32 → Int32 → Int32 → Option (Int32)
  | 0, _, _, _, _ => none
  | n + 1, V, x2, x3, x4 =>
    if x4 = x3 then
      some x3
    else
      (f_X10_spread V x4).bind fun q2 =>
      f_X10_together_b13 n V x2 x4 (q2 &&& x2)
def f_X10_together (V : St) (x1 : Int32) (x2 : Int32) : Option (Int32) :=
  (f_X10_spread V (1 <<< (x1 &&& 31))).bind fun q3 =>
  f_X10_together_b13 500 V x2 (1 <<< (x1 &&& 31)) (q3 &&& x2)
def f_X10_partsOf_b4 : Nat → St → Int32 → Int32 → Int32 → Option (Int32)
  | 0, _, _, _, _ => none
  | n + 1, V, x1, x2, x3 =>
    if x2 = 0 then
      some x3
    else
      (f_X10_lowest x2).bind fun q2 =>
      (f_X10_together V q2 x1).bind fun q3 =>
      f_X10_partsOf_b4 n V x1 (x2 &&& (q3 ^^^ (-1))) (x3 + 1)
def f_X10_partsOf (V : St) (x1 : Int32) : Option (Int32) :=
  f_X10_partsOf_b4 500 V x1 x1 0
def f_X10_underWater (V : St) (x1 : Int32) : Option (Int32) :=
  (f_X10_of V x1 4).bind fun q1 =>
  if ((V 209 0) + q1) ≤ 4 then
    some ((V 209 0) + q1)
  else
    some 4
def f_X10_dry (V : St) (x1 : Int32) : Option (Int32) :=
  (f_X10_underWater V x1).bind fun q1 =>
  some ((1 <<< ((24 - (6 * q1)) &&& 31)) - 1)
def f_X10_ties_b98 (V : St) (x4 : Int32) (y0 : Int32) (y1 : Int32) (y2 : Int32) (y3 : Int32) : Option (Int32 × St) :=
  (f_X10_sets V y3 y2 y1 y0).bind fun q1 =>
  (f_X10_done q1 x4).bind fun q2 =>
  some (q2.1, q2.2)
def f_X10_ties_b81 (V : St) (x1 : Int32) (x2 : Int32) (x3 : Int32) (x4 : Int32) (y0 : Int32) (y1 : Int32) (y2 : Int32) (y3 : Int32) : Option (Int32 × St) :=
  (f_X10_sets V y3 y2 y1 y0).bind fun q3 =>
  if x3 ≤ 1 then
    f_X10_ties_b98 q3 x4 0 x2 1 x1
  else
    f_X10_ties_b98 q3 x4 1 x2 1 x1
def f_X10_ties (V : St) (x1 : Int32) (x2 : Int32) (x3 : Int32) : Option (Int32 × St) :=
  (f_X10_isNet x1).bind fun q5 =>
  if q5 = 0 then
    (f_X10_refused V 2 x1).bind fun q17 =>
    some (q17.1, q17.2)
  else
    (f_X10_isPlace x2).bind fun q7 =>
    if q7 = 0 then
      (f_X10_refused V 2 x2).bind fun q16 =>
      some (q16.1, q16.2)
    else
      (f_X10_in x3 0 3).bind fun q9 =>
      if q9 = 0 then
        (f_X10_refused V 3 x3).bind fun q15 =>
        some (q15.1, q15.2)
      else
        (f_X10_kind V x1 x2).bind fun q11 =>
        if q11 = x3 then
          (f_X10_refused V 4 x3).bind fun q14 =>
          some (q14.1, q14.2)
        else
          if (x3 &&& 1) = 1 then
            f_X10_ties_b81 V x1 x2 x3 q11 1 x2 0 x1
          else
            f_X10_ties_b81 V x1 x2 x3 q11 0 x2 0 x1
def f_X10_stringFor_b40 (x2 : Int32) (x3 : Int32) : Option (Int32) :=
  if (x3 - x2) = 6 then
    some 3
  else
    some (-1)
def f_X10_stringFor_b21 (x2 : Int32) (y0 : Int32) : Option (Int32) :=
  if (y0 - x2) = 1 then
    if (y0 - y0 / 6 * 6) = 0 then
      f_X10_stringFor_b40 x2 y0
    else
      some 2
  else
    f_X10_stringFor_b40 x2 y0
def f_X10_stringFor_b10 (x0 : Int32) (x1 : Int32) (y0 : Int32) : Option (Int32) :=
  if x1 ≤ x0 then
    f_X10_stringFor_b21 y0 x0
  else
    f_X10_stringFor_b21 y0 x1
def f_X10_stringFor (x0 : Int32) (x1 : Int32) : Option (Int32) :=
  if x1 ≤ x0 then
    f_X10_stringFor_b10 x0 x1 x1
  else
    f_X10_stringFor_b10 x0 x1 x0
def f_X10_tears_b72 (V : St) (x1 : Int32) (x2 : Int32) (x3 : Int32) (x4 : Int32) (y0 : Int32) : Option (Int32 × St) :=
  (f_X10_of V x1 x4).bind fun q1 =>
  if ((q1 >>> (y0 &&& 31)) &&& 1) = 1 then
    (f_X10_refused V 4 ((x2 + x3) - y0)).bind fun q7 =>
    some (q7.1, q7.2)
  else
    (f_X10_sets V x1 x4 y0 1).bind fun q3 =>
    (f_X10_looksAt (up q3 209 3 ((q3 209 3) + 1)) x1).bind fun q4 =>
    (f_X10_partsOf q4 (q4 208 19)).bind fun q5 =>
    (f_X10_done q4 q5).bind fun q6 =>
    some (q6.1, q6.2)
def f_X10_tears (V : St) (x1 : Int32) (x2 : Int32) (x3 : Int32) : Option (Int32 × St) :=
  (f_X10_isNet x1).bind fun q8 =>
  if q8 = 0 then
    (f_X10_refused V 2 x1).bind fun q20 =>
    some (q20.1, q20.2)
  else
    (f_X10_isPlace x2).bind fun q10 =>
    if q10 = 0 then
      (f_X10_refused V 2 x2).bind fun q19 =>
      some (q19.1, q19.2)
    else
      (f_X10_isPlace x3).bind fun q12 =>
      if q12 = 0 then
        (f_X10_refused V 2 x3).bind fun q18 =>
        some (q18.1, q18.2)
      else
        (f_X10_stringFor x2 x3).bind fun q14 =>
        if q14 = (-1) then
          (f_X10_refused V 5 x3).bind fun q17 =>
          some (q17.1, q17.2)
        else
          if x3 ≤ x2 then
            f_X10_tears_b72 V x1 x2 x3 q14 x3
          else
            f_X10_tears_b72 V x1 x2 x3 q14 x2
def f_X10_mends_b137 (V : St) (x1 : Int32) (x4 : Int32) (x5 : Int32) (x6 : Int32) (y0 : Int32) : Option (Int32 × St) :=
  (ix (21 + (2 * x4)) 53).bind fun j1 =>
  if y0 ≤ (V 209 j1) then
    (f_X10_sets V x1 x5 x6 0).bind fun q3 =>
    (ix (21 + (2 * x4)) 53).bind fun j4 =>
    (ix ((21 + (2 * x4)) + 1) 53).bind fun j5 =>
    (ix ((21 + (2 * x4)) + 1) 53).bind fun j6 =>
    (f_X10_done (up (up (up (up q3 209 j4 ((V 209 j1) - y0)) 209 j6 (((up q3 209 j4 ((V 209 j1) - y0)) 209 j5) + 1)) 209 4 (((up (up q3 209 j4 ((V 209 j1) - y0)) 209 j6 (((up q3 209 j4 ((V 209 j1) - y0)) 209 j5) + 1)) 209 4) + 1)) 209 5 (((up (up (up q3 209 j4 ((V 209 j1) - y0)) 209 j6 (((up q3 209 j4 ((V 209 j1) - y0)) 209 j5) + 1)) 209 4 (((up (up q3 209 j4 ((V 209 j1) - y0)) 209 j6 (((up q3 209 j4 ((V 209 j1) - y0)) 209 j5) + 1)) 209 4) + 1)) 209 5) + y0)) ((V 209 j1) - y0)).bind fun q7 =>
    some (q7.1, q7.2)
  else
    (f_X10_refused V 6 (V 209 j1)).bind fun q8 =>
    some (q8.1, q8.2)
def f_X10_mends_b97 (V : St) (x1 : Int32) (x2 : Int32) (x3 : Int32) (x4 : Int32) (x5 : Int32) (y0 : Int32) : Option (Int32 × St) :=
  (f_X10_of V x1 x5).bind fun q9 =>
  if ((q9 >>> (y0 &&& 31)) &&& 1) = 0 then
    (f_X10_refused V 4 ((x2 + x3) - y0)).bind fun q12 =>
    some (q12.1, q12.2)
  else
    if x5 = 2 then
      f_X10_mends_b137 V x1 x4 x5 y0 1
    else
      f_X10_mends_b137 V x1 x4 x5 y0 2
def f_X10_mends (V : St) (x1 : Int32) (x2 : Int32) (x3 : Int32) (x4 : Int32) : Option (Int32 × St) :=
  (f_X10_isNet x1).bind fun q13 =>
  if q13 = 0 then
    (f_X10_refused V 2 x1).bind fun q28 =>
    some (q28.1, q28.2)
  else
    (f_X10_isPlace x2).bind fun q15 =>
    if q15 = 0 then
      (f_X10_refused V 2 x2).bind fun q27 =>
      some (q27.1, q27.2)
    else
      (f_X10_isPlace x3).bind fun q17 =>
      if q17 = 0 then
        (f_X10_refused V 2 x3).bind fun q26 =>
        some (q26.1, q26.2)
      else
        (f_X10_in x4 0 ((V 209 1) - 1)).bind fun q19 =>
        if q19 = 0 then
          (f_X10_refused V 2 x4).bind fun q25 =>
          some (q25.1, q25.2)
        else
          (f_X10_stringFor x2 x3).bind fun q21 =>
          if q21 = (-1) then
            (f_X10_refused V 5 x3).bind fun q24 =>
            some (q24.1, q24.2)
          else
            if x3 ≤ x2 then
              f_X10_mends_b97 V x1 x2 x3 x4 q21 x3
            else
              f_X10_mends_b97 V x1 x2 x3 x4 q21 x2
def f_X10_comes (V : St) (x1 : Int32) : Option (Int32 × St) :=
  (f_X10_in x1 0 99).bind fun q1 =>
  if q1 = 0 then
    (f_X10_refused V 3 x1).bind fun q8 =>
    some (q8.1, q8.2)
  else
    if (V 209 1) = 4 then
      (f_X10_refused V 1 4).bind fun q7 =>
      some (q7.1, q7.2)
    else
      (ix (21 + (2 * (V 209 1))) 53).bind fun j4 =>
      (ix ((21 + (2 * (V 209 1))) + 1) 53).bind fun j5 =>
      (f_X10_done (up (up (up V 209 j4 x1) 209 j5 0) 209 1 ((V 209 1) + 1)) (V 209 1)).bind fun q6 =>
      some (q6.1, q6.2)
def f_X10_readable (V : St) (x1 : Int32) : Option (Int32) :=
  (f_X10_of V x1 0).bind fun q1 =>
  (f_X10_of V x1 1).bind fun q2 =>
  (f_X10_dry V x1).bind fun q3 =>
  (f_X10_bits ((q1 ||| q2) &&& q3)).bind fun q4 =>
  some q4
def f_X10_turns (V : St) (x1 : Int32) : Option (Int32 × St) :=
  (f_X10_in x1 0 4).bind fun q1 =>
  if q1 = 0 then
    (f_X10_refused V 3 x1).bind fun q9 =>
    some (q9.1, q9.2)
  else
    if (V 209 0) = x1 then
      (f_X10_refused V 4 x1).bind fun q8 =>
      some (q8.1, q8.2)
    else
      (f_X10_readable (up V 209 0 x1) 0).bind fun q4 =>
      (f_X10_readable (up V 209 0 x1) 1).bind fun q5 =>
      (f_X10_readable (up V 209 0 x1) 2).bind fun q6 =>
      (f_X10_done (up V 209 0 x1) ((q4 + q5) + q6)).bind fun q7 =>
      some (q7.1, q7.2)
def f_X10_sinks (V : St) (x1 : Int32) (x2 : Int32) : Option (Int32 × St) :=
  (f_X10_isNet x1).bind fun q1 =>
  if q1 = 0 then
    (f_X10_refused V 2 x1).bind fun q12 =>
    some (q12.1, q12.2)
  else
    (f_X10_in x2 0 4).bind fun q3 =>
    if q3 = 0 then
      (f_X10_refused V 3 x2).bind fun q11 =>
      some (q11.1, q11.2)
    else
      (f_X10_of V x1 4).bind fun q5 =>
      if q5 = x2 then
        (f_X10_refused V 4 x2).bind fun q10 =>
        some (q10.1, q10.2)
      else
        (ix ((6 + (5 * x1)) + 4) 53).bind fun j7 =>
        (f_X10_underWater (up V 209 j7 x2) x1).bind fun q8 =>
        (f_X10_done (up V 209 j7 x2) q8).bind fun q9 =>
        some (q9.1, q9.2)
def f_X10_ofNote (V : St) (x1 : Int32) (x2 : Int32) : Option (Int32) :=
  (ix ((29 + (4 * x1)) + x2) 53).bind fun j1 =>
  some (V 209 j1)
def f_X10_notes_b153 (c_91 : St → Int32 → Int32 → Int32 → Int32 → Int32 → Int32 → Option (Int32 × St)) (V : St) (x1 : Int32) (x3 : Int32) (x4 : Int32) (x5 : Int32) (x6 : Int32) (x7 : Int32) : Option (Int32 × St) :=
  c_91 V x1 x3 x4 x5 x6 (x7 + 1)
def f_X10_notes_b91 : Nat → St → Int32 → Int32 → Int32 → Int32 → Int32 → Int32 → Option (Int32 × St)
  | 0, _, _, _, _, _, _, _ => none
  | n + 1, V, x1, x3, x4, x5, x6, x7 =>
    if x6 ≤ x7 then
      if x6 = 6 then
        (f_X10_refused V 1 6).bind fun q8 =>
        some (q8.1, q8.2)
      else
        (ix (29 + (4 * x6)) 53).bind fun j3 =>
        (ix ((29 + (4 * x6)) + 1) 53).bind fun j4 =>
        (ix ((29 + (4 * x6)) + 2) 53).bind fun j5 =>
        (ix ((29 + (4 * x6)) + 3) 53).bind fun j6 =>
        (f_X10_done (up (up (up (up (up V 209 j3 x1) 209 j4 x3) 209 j5 x4) 209 j6 x5) 209 2 (x6 + 1)) x6).bind fun q7 =>
        some (q7.1, q7.2)
    else
      (f_X10_ofNote V x7 0).bind fun q9 =>
      if q9 = x1 then
        (f_X10_ofNote V x7 1).bind fun q11 =>
        if q11 = x3 then
          (f_X10_ofNote V x7 2).bind fun q13 =>
          if q13 = x4 then
            (f_X10_ofNote V x7 3).bind fun q15 =>
            if q15 = x5 then
              (f_X10_refused V 8 x7).bind fun q17 =>
              some (q17.1, q17.2)
            else
              f_X10_notes_b153 (fun V x1 x3 x4 x5 x6 x7 => f_X10_notes_b91 n V x1 x3 x4 x5 x6 x7) V x1 x3 x4 x5 x6 x7
          else
            f_X10_notes_b153 (fun V x1 x3 x4 x5 x6 x7 => f_X10_notes_b91 n V x1 x3 x4 x5 x6 x7) V x1 x3 x4 x5 x6 x7
        else
          f_X10_notes_b153 (fun V x1 x3 x4 x5 x6 x7 => f_X10_notes_b91 n V x1 x3 x4 x5 x6 x7) V x1 x3 x4 x5 x6 x7
      else
        f_X10_notes_b153 (fun V x1 x3 x4 x5 x6 x7 => f_X10_notes_b91 n V x1 x3 x4 x5 x6 x7) V x1 x3 x4 x5 x6 x7
def f_X10_notes (V : St) (x1 : Int32) (x2 : Int32) : Option (Int32 × St) :=
  (f_X10_isNet x1).bind fun q18 =>
  if q18 = 0 then
    (f_X10_refused V 2 x1).bind fun q30 =>
    some (q30.1, q30.2)
  else
    (f_X10_isPlace x2).bind fun q20 =>
    if q20 = 0 then
      (f_X10_refused V 2 x2).bind fun q29 =>
      some (q29.1, q29.2)
    else
      (f_X10_kind V x1 x2).bind fun q22 =>
      if q22 = 0 then
        (f_X10_refused V 7 x2).bind fun q28 =>
        some (q28.1, q28.2)
      else
        (f_X10_looksAt V x1).bind fun q24 =>
        (f_X10_together q24 x2 (q24 208 19)).bind fun q25 =>
        (f_X10_of q24 x1 0).bind fun q26 =>
        (f_X10_of q24 x1 1).bind fun q27 =>
        f_X10_notes_b91 500 q24 x1 q25 (q26 &&& q25) (q27 &&& q25) (q24 209 2) 0
def f_X10_drops_b71 : Nat → St → Int32 → Int32 → Option (Int32 × St)
  | 0, _, _, _ => none
  | n + 1, V, x2, x3 =>
    if 4 ≤ x3 then
      (f_X10_done (up V 209 2 x2) x2).bind fun q2 =>
      some (q2.1, q2.2)
    else
      (ix ((29 + (4 * x2)) + x3) 53).bind fun j3 =>
      f_X10_drops_b71 n (up V 209 j3 0) x2 (x3 + 1)
def f_X10_drops_b36 : Nat → St → Int32 → Int32 → Option (Int32 × St)
  | 0, _, _, _ => none
  | n + 1, V, x2, x3 =>
    if (4 * x2) ≤ x3 then
      f_X10_drops_b71 500 V x2 0
    else
      (ix ((29 + x3) + 4) 53).bind fun j5 =>
      (ix (29 + x3) 53).bind fun j6 =>
      f_X10_drops_b36 n (up V 209 j6 (V 209 j5)) x2 (x3 + 1)
def f_X10_drops (V : St) (x1 : Int32) : Option (Int32 × St) :=
  (f_X10_in x1 0 ((V 209 2) - 1)).bind fun q7 =>
  if q7 = 0 then
    (f_X10_refused V 2 x1).bind fun q9 =>
    some (q9.1, q9.2)
  else
    f_X10_drops_b36 500 V ((V 209 2) - 1) (4 * x1)
def f_X10_knot (V : St) (x1 : Int32) (x2 : Int32) (x3 : Int32) : Option (Int32 × St) :=
  (f_X10_remembers V).bind fun q1 =>
  (f_X10_ties q1 x1 x2 x3).bind fun q2 =>
  (f_X10_ends q2.2 q2.1).bind fun q3 =>
  some (q3.1, q3.2)
def f_X10_tear (V : St) (x1 : Int32) (x2 : Int32) (x3 : Int32) : Option (Int32 × St) :=
  (f_X10_remembers V).bind fun q1 =>
  (f_X10_tears q1 x1 x2 x3).bind fun q2 =>
  (f_X10_ends q2.2 q2.1).bind fun q3 =>
  some (q3.1, q3.2)
def f_X10_mend (V : St) (x1 : Int32) (x2 : Int32) (x3 : Int32) (x4 : Int32) : Option (Int32 × St) :=
  (f_X10_remembers V).bind fun q1 =>
  (f_X10_mends q1 x1 x2 x3 x4).bind fun q2 =>
  (f_X10_ends q2.2 q2.1).bind fun q3 =>
  some (q3.1, q3.2)
def f_X10_editor (V : St) (x1 : Int32) : Option (Int32 × St) :=
  (f_X10_remembers V).bind fun q1 =>
  (f_X10_comes q1 x1).bind fun q2 =>
  (f_X10_ends q2.2 q2.1).bind fun q3 =>
  some (q3.1, q3.2)
def f_X10_tide (V : St) (x1 : Int32) : Option (Int32 × St) :=
  (f_X10_remembers V).bind fun q1 =>
  (f_X10_turns q1 x1).bind fun q2 =>
  (f_X10_ends q2.2 q2.1).bind fun q3 =>
  some (q3.1, q3.2)
def f_X10_sink (V : St) (x1 : Int32) (x2 : Int32) : Option (Int32 × St) :=
  (f_X10_remembers V).bind fun q1 =>
  (f_X10_sinks q1 x1 x2).bind fun q2 =>
  (f_X10_ends q2.2 q2.1).bind fun q3 =>
  some (q3.1, q3.2)
def f_X10_note (V : St) (x1 : Int32) (x2 : Int32) : Option (Int32 × St) :=
  (f_X10_remembers V).bind fun q1 =>
  (f_X10_notes q1 x1 x2).bind fun q2 =>
  (f_X10_ends q2.2 q2.1).bind fun q3 =>
  some (q3.1, q3.2)
def f_X10_drop (V : St) (x1 : Int32) : Option (Int32 × St) :=
  (f_X10_remembers V).bind fun q1 =>
  (f_X10_drops q1 x1).bind fun q2 =>
  (f_X10_ends q2.2 q2.1).bind fun q3 =>
  some (q3.1, q3.2)
def f_X10_kindOf_b20 (V : St) (x1 : Int32) (x2 : Int32) (y0 : Int32) : Option (Int32 × St) :=
  if ((up V 208 0 y0) 208 0) ≤ 0 then
    (f_X10_kind (up V 208 0 y0) x1 x2).bind fun q2 =>
    some (q2, up V 208 0 y0)
  else
    some (0, up V 208 0 y0)
def f_X10_kindOf_b19 (V : St) (x1 : Int32) (x2 : Int32) : Option (Int32 × St) :=
  f_X10_kindOf_b20 V x1 x2 1
def f_X10_kindOf (V : St) (x1 : Int32) (x2 : Int32) : Option (Int32 × St) :=
  (f_X10_isNet x1).bind fun q3 =>
  if q3 = 0 then
    f_X10_kindOf_b19 V x1 x2
  else
    (f_X10_isPlace x2).bind fun q5 =>
    if q5 = 0 then
      f_X10_kindOf_b19 V x1 x2
    else
      f_X10_kindOf_b20 V x1 x2 0
def f_X10_isTorn_b70 (V : St) (y0 : Int32) (y1 : Int32) : Option (Int32 × St) :=
  if ((y1 >>> (y0 &&& 31)) &&& 1) = 1 then
    some (1, V)
  else
    some (0, V)
def f_X10_isTorn_b40 (V : St) (x1 : Int32) (x2 : Int32) (x3 : Int32) (y0 : Int32) : Option (Int32 × St) :=
  if ((up V 208 0 y0) 208 0) = 0 then
    (f_X10_stringFor x2 x3).bind fun q3 =>
    (f_X10_of (up V 208 0 y0) x1 q3).bind fun q4 =>
    if x3 ≤ x2 then
      f_X10_isTorn_b70 (up V 208 0 y0) x3 q4
    else
      f_X10_isTorn_b70 (up V 208 0 y0) x2 q4
  else
    some (0, up V 208 0 y0)
def f_X10_isTorn_b22 (V : St) (x1 : Int32) (x2 : Int32) (x3 : Int32) : Option (Int32 × St) :=
  f_X10_isTorn_b40 V x1 x2 x3 1
def f_X10_isTorn (V : St) (x1 : Int32) (x2 : Int32) (x3 : Int32) : Option (Int32 × St) :=
  (f_X10_isNet x1).bind fun q6 =>
  if q6 = 0 then
    f_X10_isTorn_b22 V x1 x2 x3
  else
    (f_X10_isPlace x2).bind fun q8 =>
    if q8 = 0 then
      f_X10_isTorn_b22 V x1 x2 x3
    else
      (f_X10_isPlace x3).bind fun q10 =>
      if q10 = 0 then
        f_X10_isTorn_b22 V x1 x2 x3
      else
        (f_X10_stringFor x2 x3).bind fun q12 =>
        if q12 = (-1) then
          f_X10_isTorn_b40 V x1 x2 x3 2
        else
          f_X10_isTorn_b40 V x1 x2 x3 0
def f_X10_greatest_b48 (c_12 : St → Int32 → Int32 → Option (Int32 × St)) (V : St) (x2 : Int32) (x4 : Int32) (y0 : Int32) : Option (Int32 × St) :=
  c_12 V (x2 &&& (x4 ^^^ (-1))) y0
def f_X10_greatest_b12 : Nat → St → Int32 → Int32 → Option (Int32 × St)
  | 0, _, _, _ => none
  | n + 1, V, x2, x3 =>
    if x2 = 0 then
      some (x3, V)
    else
      (f_X10_lowest x2).bind fun q2 =>
      (f_X10_together V q2 (V 208 19)).bind fun q3 =>
      (f_X10_bits q3).bind fun q4 =>
      if q4 ≤ x3 then
        f_X10_greatest_b48 (fun V x2 x3 => f_X10_greatest_b12 n V x2 x3) V x2 q3 x3
      else
        (f_X10_bits q3).bind fun q6 =>
        f_X10_greatest_b48 (fun V x2 x3 => f_X10_greatest_b12 n V x2 x3) V x2 q3 q6
def f_X10_greatest (V : St) (x1 : Int32) : Option (Int32 × St) :=
  (f_X10_looksAt V x1).bind fun q7 =>
  f_X10_greatest_b12 500 q7 (q7 208 19) 0
def f_X10_tornIn (V : St) (x1 : Int32) : Option (Int32) :=
  (f_X10_of V x1 2).bind fun q1 =>
  (f_X10_bits q1).bind fun q2 =>
  (f_X10_of V x1 3).bind fun q3 =>
  (f_X10_bits q3).bind fun q4 =>
  some (q2 + q4)
def f_X10_netOf_b13 (V : St) (x1 : Int32) (x2 : Int32) (y0 : Int32) : Option (Int32 × St) :=
  if ((up V 208 0 y0) 208 0) ≤ 0 then
    if x2 = 0 then
      (f_X10_of (up V 208 0 y0) x1 0).bind fun q3 =>
      (f_X10_of (up V 208 0 y0) x1 1).bind fun q4 =>
      (f_X10_bits (q3 ||| q4)).bind fun q5 =>
      some (q5, up V 208 0 y0)
    else
    if x2 = 1 then
      (f_X10_readable (up V 208 0 y0) x1).bind fun q7 =>
      some (q7, up V 208 0 y0)
    else
    if x2 = 2 then
      (f_X10_tornIn (up V 208 0 y0) x1).bind fun q9 =>
      some (q9, up V 208 0 y0)
    else
    if x2 = 3 then
      (f_X10_of (up V 208 0 y0) x1 4).bind fun q11 =>
      some (q11, up V 208 0 y0)
    else
    if x2 = 4 then
      (f_X10_underWater (up V 208 0 y0) x1).bind fun q13 =>
      some (q13, up V 208 0 y0)
    else
    if x2 = 5 then
      (f_X10_greatest (up V 208 0 y0) x1).bind fun q15 =>
      some (q15.1, q15.2)
    else
    if x2 = 6 then
      (f_X10_of (up V 208 0 y0) x1 2).bind fun q17 =>
      (f_X10_bits q17).bind fun q18 =>
      (f_X10_of (up V 208 0 y0) x1 3).bind fun q19 =>
      (f_X10_bits q19).bind fun q20 =>
      some (q18 + (2 * q20), up V 208 0 y0)
    else
    (f_X10_fails (up V 208 0 y0) 2).bind fun q21 =>
    some (q21.1, q21.2)
  else
    some (0, up V 208 0 y0)
def f_X10_netOf (V : St) (x1 : Int32) (x2 : Int32) : Option (Int32 × St) :=
  (f_X10_isNet x1).bind fun q22 =>
  if q22 = 0 then
    f_X10_netOf_b13 V x1 x2 1
  else
    f_X10_netOf_b13 V x1 x2 0
def f_X10_chaptersOf (V : St) (x1 : Int32) : Option (Int32 × St) :=
  (f_X10_looksAt V x1).bind fun q1 =>
  (f_X10_partsOf q1 (q1 208 19)).bind fun q2 =>
  some (q2, q1)
def f_X10_chapters_b13 (V : St) (x1 : Int32) (y0 : Int32) : Option (Int32 × St) :=
  if ((up V 208 0 y0) 208 0) ≤ 0 then
    (f_X10_chaptersOf (up V 208 0 y0) x1).bind fun q2 =>
    some (q2.1, q2.2)
  else
    some (0, up V 208 0 y0)
def f_X10_chapters (V : St) (x1 : Int32) : Option (Int32 × St) :=
  (f_X10_isNet x1).bind fun q3 =>
  if q3 = 0 then
    f_X10_chapters_b13 V x1 1
  else
    f_X10_chapters_b13 V x1 0
def f_X10_chaptersAgain (V : St) (x1 : Int32) : Option (Int32 × St) :=
  (f_X10_chapters V x1).bind fun q1 =>
  some (q1.1, q1.2)
def f_X10_chapterOf_b46 (V : St) (x1 : Int32) (x2 : Int32) (x3 : Int32) (y0 : Int32) : Option (Int32 × St) :=
  if ((up V 208 0 y0) 208 0) ≤ 0 then
    (f_X10_looksAt (up V 208 0 y0) x1).bind fun q2 =>
    (f_X10_together q2 x2 (q2 208 19)).bind fun q3 =>
    if x3 = 0 then
      (f_X10_lowest q3).bind fun q5 =>
      some (q5, q2)
    else
    if x3 = 1 then
      (f_X10_bits q3).bind fun q7 =>
      some (q7, q2)
    else
    if x3 = 2 then
      (f_X10_dry q2 x1).bind fun q9 =>
      (f_X10_bits (q3 &&& q9)).bind fun q10 =>
      some (q10, q2)
    else
    (f_X10_bits ((q3 &&& (q3 >>> (1 &&& 31))) &&& (q2 208 20))).bind fun q11 =>
    (f_X10_bits ((q3 &&& (q3 >>> (6 &&& 31))) &&& (q2 208 21))).bind fun q12 =>
    some (q11 + q12, q2)
  else
    some (0, up V 208 0 y0)
def f_X10_chapterOf_b15 (V : St) (x1 : Int32) (x2 : Int32) (x3 : Int32) : Option (Int32 × St) :=
  f_X10_chapterOf_b46 V x1 x2 x3 1
def f_X10_chapterOf (V : St) (x1 : Int32) (x2 : Int32) (x3 : Int32) : Option (Int32 × St) :=
  (f_X10_isNet x1).bind fun q13 =>
  if q13 = 0 then
    f_X10_chapterOf_b15 V x1 x2 x3
  else
    (f_X10_isPlace x2).bind fun q15 =>
    if q15 = 0 then
      f_X10_chapterOf_b15 V x1 x2 x3
    else
      (f_X10_in x3 0 3).bind fun q17 =>
      if q17 = 0 then
        f_X10_chapterOf_b46 V x1 x2 x3 2
      else
        (f_X10_kind V x1 x2).bind fun q19 =>
        if q19 = 0 then
          f_X10_chapterOf_b46 V x1 x2 x3 3
        else
          f_X10_chapterOf_b46 V x1 x2 x3 0
def f_X10_isNote (V : St) (x1 : Int32) : Option (Int32) :=
  (f_X10_in x1 0 ((V 209 2) - 1)).bind fun q1 =>
  (nr .boolean q1).bind fun q2 =>
  some q1
def f_X10_hasKinds (V : St) (x1 : Int32) : Option (Int32) :=
  (f_X10_ofNote V x1 0).bind fun q1 =>
  (f_X10_ofNote V x1 1).bind fun q2 =>
  (f_X10_of V q1 0).bind fun q3 =>
  (f_X10_ofNote V x1 2).bind fun q4 =>
  if (q3 &&& q2) = q4 then
    (f_X10_of V q1 1).bind fun q6 =>
    (f_X10_ofNote V x1 3).bind fun q7 =>
    if (q6 &&& q2) = q7 then
      some 1
    else
      some 0
  else
    some 0
def f_X10_readsSo (V : St) (x1 : Int32) : Option (Int32 × St) :=
  (f_X10_hasKinds V x1).bind fun q1 =>
  if q1 = 0 then
    some (0, V)
  else
    (f_X10_ofNote V x1 0).bind fun q3 =>
    (f_X10_looksAt V q3).bind fun q4 =>
    (f_X10_ofNote q4 x1 1).bind fun q5 =>
    (f_X10_lowest q5).bind fun q6 =>
    (f_X10_together q4 q6 (q4 208 19)).bind fun q7 =>
    (f_X10_ofNote q4 x1 1).bind fun q8 =>
    if q7 = q8 then
      some (1, q4)
    else
      some (0, q4)
def f_X10_noteOf_b14 (V : St) (x1 : Int32) (x2 : Int32) (y0 : Int32) : Option (Int32 × St) :=
  if ((up V 208 0 y0) 208 0) ≤ 0 then
    if x2 = 0 then
      (f_X10_ofNote (up V 208 0 y0) x1 0).bind fun q3 =>
      some (q3, up V 208 0 y0)
    else
    if x2 = 1 then
      (f_X10_ofNote (up V 208 0 y0) x1 1).bind fun q5 =>
      (f_X10_lowest q5).bind fun q6 =>
      some (q6, up V 208 0 y0)
    else
    if x2 = 2 then
      (f_X10_ofNote (up V 208 0 y0) x1 1).bind fun q8 =>
      (f_X10_bits q8).bind fun q9 =>
      some (q9, up V 208 0 y0)
    else
    if x2 = 3 then
      (f_X10_readsSo (up V 208 0 y0) x1).bind fun q11 =>
      if q11.1 = 0 then
        some (0, q11.2)
      else
        some (1, q11.2)
    else
    (f_X10_fails (up V 208 0 y0) 2).bind fun q13 =>
    some (q13.1, q13.2)
  else
    some (0, up V 208 0 y0)
def f_X10_noteOf (V : St) (x1 : Int32) (x2 : Int32) : Option (Int32 × St) :=
  (f_X10_isNote V x1).bind fun q14 =>
  if q14 = 0 then
    f_X10_noteOf_b14 V x1 x2 1
  else
    f_X10_noteOf_b14 V x1 x2 0
def f_X10_little (V : St) (x1 : Int32) : Option (Int32 × St) :=
  (f_X10_hasKinds V x1).bind fun q1 =>
  if q1 = 0 then
    some ((-1), V)
  else
    (f_X10_ofNote V x1 1).bind fun q3 =>
    (f_X10_ofNote V x1 0).bind fun q4 =>
    (f_X10_looksAt V q4).bind fun q5 =>
    (f_X10_spread q5 q3).bind fun q6 =>
    if ((q6 &&& (q5 208 19)) &&& (q3 ^^^ (-1))) = 0 then
      (f_X10_partsOf q5 q3).bind fun q8 =>
      (f_X10_partsOf (up q5 208 20 8255455) q3).bind fun q9 =>
      some ((q8 - q9) + (2 * (q9 - 1)), up q5 208 20 8255455)
    else
      some ((-1), q5)
def f_X10_least_b14 (V : St) (x1 : Int32) (y0 : Int32) : Option (Int32 × St) :=
  if ((up V 208 0 y0) 208 0) ≤ 0 then
    (f_X10_little (up V 208 0 y0) x1).bind fun q2 =>
    if q2.1 = (-1) then
      (f_X10_fails q2.2 2).bind fun q4 =>
      some (q4.1, q4.2)
    else
      some (q2.1, q2.2)
  else
    some (0, up V 208 0 y0)
def f_X10_least (V : St) (x1 : Int32) : Option (Int32 × St) :=
  (f_X10_isNote V x1).bind fun q5 =>
  if q5 = 0 then
    f_X10_least_b14 V x1 1
  else
    f_X10_least_b14 V x1 0
def f_X10_leastAgain (V : St) (x1 : Int32) : Option (Int32 × St) :=
  (f_X10_least V x1).bind fun q1 =>
  some (q1.1, q1.2)
def f_X10_joins_b15 (V : St) (x1 : Int32) (x2 : Int32) (x3 : Int32) (y0 : Int32) : Option (Int32) :=
  (f_X10_of V x1 x2).bind fun q1 =>
  if ((q1 >>> (x3 &&& 31)) &&& 1) = 0 then
    some (-1)
  else
    if (((V 208 19) >>> (x3 &&& 31)) &&& 1) = 0 then
      some (-1)
    else
      if (((V 208 19) >>> (y0 &&& 31)) &&& 1) = 0 then
        some (-1)
      else
        (f_X10_together V x3 (V 208 19)).bind fun q5 =>
        if ((q5 >>> (y0 &&& 31)) &&& 1) = 1 then
          some (-1)
        else
          (f_X10_bits q5).bind fun q7 =>
          (f_X10_together V y0 (V 208 19)).bind fun q8 =>
          (f_X10_bits q8).bind fun q9 =>
          some (q7 + q9)
def f_X10_joins (V : St) (x1 : Int32) (x2 : Int32) (x3 : Int32) : Option (Int32) :=
  if x2 = 2 then
    f_X10_joins_b15 V x1 x2 x3 (x3 + 1)
  else
    f_X10_joins_b15 V x1 x2 x3 (x3 + 6)
def f_X10_bestMend_b98 (c_50 : St → Int32 → Int32 → Int32 → Int32 → Int32 → Int32 → Int32 → Option (Int32 × St)) (c_41 : St → Int32 → Int32 → Int32 → Int32 → Int32 → Int32 → Option (Int32 × St)) (V : St) (x1 : Int32) (x2 : Int32) (x3 : Int32) (x4 : Int32) (x5 : Int32) (x6 : Int32) (x7 : Int32) : Option (Int32 × St) :=
  c_50 V x1 x2 x3 x4 x5 x6 (x7 + 1)
def f_X10_bestMend_b96 (c_50 : St → Int32 → Int32 → Int32 → Int32 → Int32 → Int32 → Int32 → Option (Int32 × St)) (c_41 : St → Int32 → Int32 → Int32 → Int32 → Int32 → Int32 → Option (Int32 × St)) (V : St) (x1 : Int32) (x2 : Int32) (x3 : Int32) (x4 : Int32) (x6 : Int32) (x7 : Int32) (y0 : Int32) : Option (Int32 × St) :=
  f_X10_bestMend_b98 c_50 c_41 V x1 x2 x3 x4 y0 x6 x7
def f_X10_bestMend_b50 (c_41 : St → Int32 → Int32 → Int32 → Int32 → Int32 → Int32 → Option (Int32 × St)) : Nat → St → Int32 → Int32 → Int32 → Int32 → Int32 → Int32 → Int32 → Option (Int32 × St)
  | 0, _, _, _, _, _, _, _, _ => none
  | n + 1, V, x1, x2, x3, x4, x5, x6, x7 =>
    if 24 ≤ x7 then
      c_41 V x1 x2 x3 x4 x5 (x6 + 1)
    else
      (f_X10_joins V x1 x6 x7).bind fun q2 =>
      if x3 < q2 then
        if x6 = 2 then
          f_X10_bestMend_b96 (fun V x1 x2 x3 x4 x5 x6 x7 => f_X10_bestMend_b50 c_41 n V x1 x2 x3 x4 x5 x6 x7) c_41 V x1 x2 q2 x7 x6 x7 1
        else
          f_X10_bestMend_b96 (fun V x1 x2 x3 x4 x5 x6 x7 => f_X10_bestMend_b50 c_41 n V x1 x2 x3 x4 x5 x6 x7) c_41 V x1 x2 q2 x7 x6 x7 6
      else
        f_X10_bestMend_b98 (fun V x1 x2 x3 x4 x5 x6 x7 => f_X10_bestMend_b50 c_41 n V x1 x2 x3 x4 x5 x6 x7) c_41 V x1 x2 x3 x4 x5 x6 x7
def f_X10_bestMend_b41 : Nat → St → Int32 → Int32 → Int32 → Int32 → Int32 → Int32 → Option (Int32 × St)
  | 0, _, _, _, _, _, _, _ => none
  | n + 1, V, x1, x2, x3, x4, x5, x6 =>
    if 3 < x6 then
      if x4 = (-1) then
        (f_X10_fails V 2).bind fun q8 =>
        some (q8.1, q8.2)
      else
        if x2 = 0 then
          some (x4, V)
        else
          some (x4 + x5, V)
    else
      f_X10_bestMend_b50 (fun V x1 x2 x3 x4 x5 x6 => f_X10_bestMend_b41 n V x1 x2 x3 x4 x5 x6) 500 V x1 x2 x3 x4 x5 x6 0
def f_X10_bestMend_b13 (V : St) (x1 : Int32) (x2 : Int32) (y0 : Int32) : Option (Int32 × St) :=
  if ((up V 208 0 y0) 208 0) ≤ 0 then
    (f_X10_looksAt (up V 208 0 y0) x1).bind fun q10 =>
    f_X10_bestMend_b41 500 q10 x1 x2 (-1) (-1) 0 2
  else
    some (0, up V 208 0 y0)
def f_X10_bestMend (V : St) (x1 : Int32) (x2 : Int32) : Option (Int32 × St) :=
  (f_X10_isNet x1).bind fun q11 =>
  if q11 = 0 then
    f_X10_bestMend_b13 V x1 x2 1
  else
    f_X10_bestMend_b13 V x1 x2 0
def f_X10_ranked_b47 (c_36 : St → Int32 → Int32 → Option (Int32 × St)) : Nat → St → Int32 → Int32 → Int32 → Option (Int32 × St)
  | 0, _, _, _, _ => none
  | n + 1, V, x3, x4, x5 =>
    if x5 = 0 then
      c_36 V x3 (x4 + (-1))
    else
      (f_X10_lowest x5).bind fun q2 =>
      (f_X10_together V q2 (V 208 19)).bind fun q3 =>
      (f_X10_bits q3).bind fun q4 =>
      if q4 = x4 then
        if x3 = 0 then
          some (q2, V)
        else
          f_X10_ranked_b47 c_36 n V (x3 + (-1)) x4 (x5 &&& (q3 ^^^ (-1)))
      else
        f_X10_ranked_b47 c_36 n V x3 x4 (x5 &&& (q3 ^^^ (-1)))
def f_X10_ranked_b36 : Nat → St → Int32 → Int32 → Option (Int32 × St)
  | 0, _, _, _ => none
  | n + 1, V, x3, x4 =>
    if x4 ≤ 0 then
      (f_X10_fails V 2).bind fun q8 =>
      some (q8.1, q8.2)
    else
      f_X10_ranked_b47 (fun V x3 x4 => f_X10_ranked_b36 n V x3 x4) 500 V x3 x4 (V 208 19)
def f_X10_ranked_b13 (V : St) (x1 : Int32) (x2 : Int32) (y0 : Int32) : Option (Int32 × St) :=
  if ((up V 208 0 y0) 208 0) ≤ 0 then
    (f_X10_looksAt (up V 208 0 y0) x1).bind fun q10 =>
    f_X10_ranked_b36 500 q10 x2 24
  else
    some (0, up V 208 0 y0)
def f_X10_ranked (V : St) (x1 : Int32) (x2 : Int32) : Option (Int32 × St) :=
  (f_X10_isNet x1).bind fun q11 =>
  if q11 = 0 then
    f_X10_ranked_b13 V x1 x2 1
  else
    f_X10_ranked_b13 V x1 x2 0
def f_X10_editorOf_b35 (V : St) (x1 : Int32) (x2 : Int32) (y0 : Int32) : Option (Int32 × St) :=
  if ((up V 208 0 y0) 208 0) ≤ 0 then
    (ix ((21 + (2 * x1)) + x2) 53).bind fun j2 =>
    some ((up V 208 0 y0) 209 j2, up V 208 0 y0)
  else
    some (0, up V 208 0 y0)
def f_X10_editorOf (V : St) (x1 : Int32) (x2 : Int32) : Option (Int32 × St) :=
  (f_X10_in x1 0 ((V 209 1) - 1)).bind fun q3 =>
  if q3 = 0 then
    f_X10_editorOf_b35 V x1 x2 1
  else
    (f_X10_in x2 0 1).bind fun q5 =>
    if q5 = 0 then
      f_X10_editorOf_b35 V x1 x2 2
    else
      f_X10_editorOf_b35 V x1 x2 0
def f_X10_feed_b15 (V : St) (x1 : Int32) (y0 : Int32) : Option (Int32 × St) :=
  if ((up V 208 0 y0) 208 0) ≤ 0 then
    (ix ((up V 208 0 y0) 208 10) 60).bind fun j2 =>
    some ((up (up (up V 208 0 y0) 213 j2 x1) 208 10 (((up (up V 208 0 y0) 213 j2 x1) 208 10) + 1)) 208 10, up (up (up V 208 0 y0) 213 j2 x1) 208 10 (((up (up V 208 0 y0) 213 j2 x1) 208 10) + 1))
  else
    some (0, up V 208 0 y0)
def f_X10_feed (V : St) (x1 : Int32) : Option (Int32 × St) :=
  if (V 208 10) = 60 then
    f_X10_feed_b15 V x1 1
  else
    f_X10_feed_b15 V x1 0
def f_X10_here (V : St) (x1 : Int32) : Option (Int32) :=
  if (V 208 23) ≤ ((V 208 22) + x1) then
    some (-1)
  else
    (ix ((V 208 22) + x1) 60).bind fun j2 =>
    some (V 213 j2)
def f_X10_says_b56 (c_2 : St → Nat → Int32 → Option (St)) (V : St) (t1 : Nat) (x2 : Int32) (y0 : Int32) (y1 : Int32) : Option (St) :=
  c_2 (up V 208 22 (y1 + y0)) t1 (x2 + 1)
def f_X10_says_b36 (c_2 : St → Nat → Int32 → Option (St)) (V : St) (t1 : Nat) (x2 : Int32) (y0 : Int32) : Option (St) :=
  (nr .boolean y0).bind fun q1 =>
  if ((up V 208 25 y0) 208 25) = 0 then
    f_X10_says_b56 c_2 (up V 208 25 y0) t1 x2 1 ((up V 208 25 y0) 208 22)
  else
    f_X10_says_b56 c_2 (up V 208 25 y0) t1 x2 0 ((up V 208 25 y0) 208 22)
def f_X10_says_b2 : Nat → St → Nat → Int32 → Option (St)
  | 0, _, _, _ => none
  | n + 1, V, t1, x2 =>
    (f_J0_length_8abf5 t1).bind fun q3 =>
    if q3 ≤ x2 then
      some V
    else
      if (V 208 25) = 0 then
        (f_X10_here V 0).bind fun q6 =>
        (f_J0_charAt_5068e t1 x2).bind fun q7 =>
        if q6 = q7 then
          f_X10_says_b36 (fun V t1 x2 => f_X10_says_b2 n V t1 x2) V t1 x2 0
        else
          f_X10_says_b36 (fun V t1 x2 => f_X10_says_b2 n V t1 x2) V t1 x2 1
      else
        some V
def f_X10_says (V : St) (t1 : Nat) : Option (St) :=
  f_X10_says_b2 500 V t1 0
def f_X10_figure_b81 (V : St) (x1 : Int32) (x3 : Int32) (y0 : Int32) : Option (St) :=
  (nr .boolean y0).bind fun q1 =>
  (ix ((5 * ((up V 208 25 y0) 208 24)) + x1) 300).bind fun j2 =>
  some (up (up V 208 25 y0) 214 j2 x3)
def f_X10_figure_b76 (V : St) (x1 : Int32) (x3 : Int32) : Option (St) :=
  f_X10_figure_b81 V x1 x3 1
def f_X10_figure_b63 (V : St) (x1 : Int32) (x3 : Int32) (x4 : Int32) : Option (St) :=
  if (V 208 25) = 0 then
    if x4 = 0 then
      f_X10_figure_b76 V x1 x3
    else
      f_X10_figure_b81 V x1 x3 0
  else
    f_X10_figure_b76 V x1 x3
def f_X10_figure_b5 : Nat → St → Int32 → Int32 → Int32 → Int32 → Option (St)
  | 0, _, _, _, _, _ => none
  | n + 1, V, x1, x2, x3, x4 =>
    if (V 208 25) = 0 then
      if x2 ≤ x4 then
        f_X10_figure_b63 V x1 x3 x4
      else
        (f_X10_here V 0).bind fun q7 =>
        (f_X10_in q7 48 57).bind fun q8 =>
        if q8 = 0 then
          f_X10_figure_b63 V x1 x3 x4
        else
          (f_X10_here V 0).bind fun q10 =>
          f_X10_figure_b5 n (up V 208 22 ((V 208 22) + 1)) x1 x2 (((10 * x3) + q10) - 48) (x4 + 1)
    else
      f_X10_figure_b63 V x1 x3 x4
def f_X10_figure (V : St) (x1 : Int32) (x2 : Int32) : Option (St) :=
  f_X10_figure_b5 500 V x1 x2 0 0
def f_X10_string (V : St) (t1 : Nat) : Option (St) :=
  (f_X10_says V t1).bind fun q1 =>
  (f_X10_figure q1 1 1).bind fun q2 =>
  (f_X10_says q2 39).bind fun q3 =>
  (f_X10_figure q3 2 2).bind fun q4 =>
  (f_X10_says q4 42).bind fun q5 =>
  (f_X10_figure q5 3 2).bind fun q6 =>
  some q6
def f_X10_one (V : St) (t1 : Nat) (x2 : Int32) : Option (St) :=
  (f_X10_says V t1).bind fun q1 =>
  (f_X10_figure q1 1 x2).bind fun q2 =>
  some q2
def f_X10_two (V : St) (t1 : Nat) (t2 : Nat) (x3 : Int32) : Option (St) :=
  (f_X10_says V t1).bind fun q1 =>
  (f_X10_figure q1 1 1).bind fun q2 =>
  (f_X10_says q2 t2).bind fun q3 =>
  (f_X10_figure q3 2 x3).bind fun q4 =>
  some q4
def f_X10_readsOne_b283 (V : St) : Option (St) :=
  some (up V 208 24 ((V 208 24) + 1))
def f_X10_readsOne_b59 (V : St) (x1 : Int32) (y0 : Int32) : Option (St) :=
  if y0 = 100 then
    (f_X10_one V 49 1).bind fun q2 =>
    f_X10_readsOne_b283 q2
  else
  if y0 = 101 then
    (f_X10_one V 45 2).bind fun q4 =>
    f_X10_readsOne_b283 q4
  else
  if y0 = 102 then
    f_X10_readsOne_b283 (up V 208 25 1)
  else
  if y0 = 103 then
    f_X10_readsOne_b283 (up V 208 25 1)
  else
  if y0 = 104 then
    f_X10_readsOne_b283 (up V 208 25 1)
  else
  if y0 = 105 then
    f_X10_readsOne_b283 (up V 208 25 1)
  else
  if y0 = 106 then
    f_X10_readsOne_b283 (up V 208 25 1)
  else
  if y0 = 107 then
    (f_X10_two V 38 39 2).bind fun q11 =>
    (f_X10_says q11 40).bind fun q12 =>
    (f_X10_figure q12 3 1).bind fun q13 =>
    f_X10_readsOne_b283 q13
  else
  if y0 = 108 then
    f_X10_readsOne_b283 (up V 208 25 1)
  else
  if y0 = 109 then
    (f_X10_string V 43).bind fun q16 =>
    (f_X10_says q16 44).bind fun q17 =>
    (f_X10_figure q17 4 1).bind fun q18 =>
    f_X10_readsOne_b283 q18
  else
  if y0 = 110 then
    (f_X10_two V 48 39 2).bind fun q20 =>
    f_X10_readsOne_b283 q20
  else
  if y0 = 111 then
    f_X10_readsOne_b283 (up V 208 25 1)
  else
  if y0 = 112 then
    f_X10_readsOne_b283 (up V 208 25 1)
  else
  if y0 = 113 then
    f_X10_readsOne_b283 (up V 208 25 1)
  else
  if y0 = 114 then
    f_X10_readsOne_b283 (up V 208 25 1)
  else
  if y0 = 115 then
    (f_X10_two V 47 40 1).bind fun q26 =>
    f_X10_readsOne_b283 q26
  else
  if y0 = 116 then
    (f_X10_string V 41).bind fun q28 =>
    f_X10_readsOne_b283 q28
  else
  if y0 = 117 then
    f_X10_readsOne_b283 (up V 208 25 1)
  else
  if y0 = 118 then
    f_X10_readsOne_b283 (up V 208 25 1)
  else
  if y0 = 119 then
    if x1 = 119 then
      f_X10_readsOne_b283 (up V 208 25 1)
    else
      (f_X10_one V 46 1).bind fun q33 =>
      f_X10_readsOne_b283 q33
  else
  f_X10_readsOne_b283 (up V 208 25 1)
def f_X10_readsOne_b48 (V : St) (x1 : Int32) (x2 : Int32) (y0 : Int32) (y1 : Int32) : Option (St) :=
  (ix y1 300).bind fun j34 =>
  if x2 = 0 then
    f_X10_readsOne_b59 (up V 214 j34 y0) x1 x1
  else
    f_X10_readsOne_b59 (up V 214 j34 y0) x1 119
def f_X10_readsOne_b27 (V : St) (x1 : Int32) (y0 : Int32) : Option (St) :=
  if y0 = 0 then
    f_X10_readsOne_b48 V x1 y0 x1 (5 * (V 208 24))
  else
    f_X10_readsOne_b48 V x1 y0 119 (5 * (V 208 24))
def f_X10_readsOne_b26 (V : St) (x1 : Int32) : Option (St) :=
  f_X10_readsOne_b27 V x1 0
def f_X10_readsOne (V : St) : Option (St) :=
  (f_X10_here V 0).bind fun q37 =>
  if q37 = 116 then
    (f_X10_here V 1).bind fun q39 =>
    if q39 = 105 then
      f_X10_readsOne_b27 V q37 1
    else
      f_X10_readsOne_b26 V q37
  else
    f_X10_readsOne_b26 V q37
def f_X10_does (V : St) (x1 : Int32) : Option (Int32 × St) :=
  (ix ((5 * x1) + 1) 300).bind fun j1 =>
  (ix ((5 * x1) + 2) 300).bind fun j2 =>
  (ix ((5 * x1) + 3) 300).bind fun j3 =>
  (ix (5 * x1) 300).bind fun j4 =>
  if (V 214 j4) = 101 then
    (f_X10_comes V (V 214 j1)).bind fun q6 =>
    some (q6.1, q6.2)
  else
  if (V 214 j4) = 102 then
    (f_X10_drops V (V 214 j1)).bind fun q8 =>
    some (q8.1, q8.2)
  else
  if (V 214 j4) = 103 then
    (f_X10_drops V (V 214 j1)).bind fun q10 =>
    some (q10.1, q10.2)
  else
  if (V 214 j4) = 104 then
    (f_X10_drops V (V 214 j1)).bind fun q12 =>
    some (q12.1, q12.2)
  else
  if (V 214 j4) = 105 then
    (f_X10_drops V (V 214 j1)).bind fun q14 =>
    some (q14.1, q14.2)
  else
  if (V 214 j4) = 106 then
    (f_X10_drops V (V 214 j1)).bind fun q16 =>
    some (q16.1, q16.2)
  else
  if (V 214 j4) = 107 then
    (f_X10_ties V (V 214 j1) (V 214 j2) (V 214 j3)).bind fun q18 =>
    some (q18.1, q18.2)
  else
  if (V 214 j4) = 108 then
    (f_X10_drops V (V 214 j1)).bind fun q20 =>
    some (q20.1, q20.2)
  else
  if (V 214 j4) = 109 then
    (ix ((5 * x1) + 4) 300).bind fun j22 =>
    (f_X10_mends V (V 214 j1) (V 214 j2) (V 214 j3) (V 214 j22)).bind fun q23 =>
    some (q23.1, q23.2)
  else
  if (V 214 j4) = 110 then
    (f_X10_notes V (V 214 j1) (V 214 j2)).bind fun q25 =>
    some (q25.1, q25.2)
  else
  if (V 214 j4) = 111 then
    (f_X10_drops V (V 214 j1)).bind fun q27 =>
    some (q27.1, q27.2)
  else
  if (V 214 j4) = 112 then
    (f_X10_drops V (V 214 j1)).bind fun q29 =>
    some (q29.1, q29.2)
  else
  if (V 214 j4) = 113 then
    (f_X10_drops V (V 214 j1)).bind fun q31 =>
    some (q31.1, q31.2)
  else
  if (V 214 j4) = 114 then
    (f_X10_drops V (V 214 j1)).bind fun q33 =>
    some (q33.1, q33.2)
  else
  if (V 214 j4) = 115 then
    (f_X10_sinks V (V 214 j1) (V 214 j2)).bind fun q35 =>
    some (q35.1, q35.2)
  else
  if (V 214 j4) = 116 then
    (f_X10_tears V (V 214 j1) (V 214 j2) (V 214 j3)).bind fun q37 =>
    some (q37.1, q37.2)
  else
  if (V 214 j4) = 117 then
    (f_X10_drops V (V 214 j1)).bind fun q39 =>
    some (q39.1, q39.2)
  else
  if (V 214 j4) = 118 then
    (f_X10_drops V (V 214 j1)).bind fun q41 =>
    some (q41.1, q41.2)
  else
  if (V 214 j4) = 119 then
    (f_X10_turns V (V 214 j1)).bind fun q43 =>
    some (q43.1, q43.2)
  else
  (f_X10_drops V (V 214 j1)).bind fun q44 =>
  some (q44.1, q44.2)
def f_X10_run_b88 (V : St) : Option (Int32 × St) :=
  (f_X10_fails (up V 208 12 (V 208 22)) 1).bind fun q1 =>
  some (q1.1, q1.2)
def f_X10_run_b127 : Nat → St → Int32 → Int32 → Int32 → Option (Int32 × St)
  | 0, _, _, _, _ => none
  | n + 1, V, x1, x2, x3 =>
    if 53 ≤ x3 then
      (f_X10_fails (up (up (up (up V 208 13 9) 208 14 x1) 208 15 x2) 208 16 ((up (up (up V 208 13 9) 208 14 x1) 208 15 x2) 208 17)) 2).bind fun q3 =>
      some (q3.1, q3.2)
    else
      (ix x3 53).bind fun j4 =>
      (ix x3 53).bind fun j5 =>
      f_X10_run_b127 n (up V 209 j5 (V 210 j4)) x1 x2 (x3 + 1)
def f_X10_run_b104 : Nat → St → Int32 → Option (Int32 × St)
  | 0, _, _ => none
  | n + 1, V, x1 =>
    if (V 208 24) ≤ x1 then
      (f_X10_changed V (V 208 24)).bind fun q7 =>
      some (q7.1, q7.2)
    else
      (f_X10_does V x1).bind fun q8 =>
      if q8.1 = 0 then
        f_X10_run_b104 n q8.2 (x1 + 1)
      else
        f_X10_run_b127 500 q8.2 x1 q8.1 0
def f_X10_run_b70 (V : St) : Option (Int32 × St) :=
  if (V 208 25) = 0 then
    if (V 208 23) ≤ (V 208 22) then
      f_X10_run_b104 500 V 0
    else
      f_X10_run_b88 V
  else
    f_X10_run_b88 V
def f_X10_run_b36 : Nat → St → Option (Int32 × St)
  | 0, _ => none
  | n + 1, V =>
    if (V 208 25) = 0 then
      (f_X10_here V 0).bind fun q13 =>
      if q13 = 59 then
        (f_X10_readsOne (up V 208 22 ((V 208 22) + 1))).bind fun q15 =>
        f_X10_run_b36 n q15
      else
        f_X10_run_b70 V
    else
      f_X10_run_b70 V
def f_X10_run (V : St) : Option (Int32 × St) :=
  (f_X10_remembers V).bind fun q16 =>
  (f_X10_readsOne (up (up (up (up (up q16 208 22 0) 208 23 ((up q16 208 22 0) 208 10)) 208 10 0) 208 24 0) 208 25 0)).bind fun q17 =>
  f_X10_run_b36 500 q17
def f_X10_faultPosition (V : St) : Option (Int32 × St) :=
  if ((up V 208 0 0) 208 12) = (-1) then
    (f_X10_fails (up V 208 0 0) 1).bind fun q2 =>
    some (q2.1, q2.2)
  else
    some ((up V 208 0 0) 208 12, up V 208 0 0)
def f_X10_reason_b24 (V : St) (x1 : Int32) (x2 : Int32) (y0 : Int32) : Option (Int32 × St) :=
  if ((up V 208 0 y0) 208 0) ≤ 0 then
    if x1 = 0 then
      if x2 = 0 then
        some ((up V 208 0 y0) 208 13, up V 208 0 y0)
      else
        some ((up V 208 0 y0) 208 14, up V 208 0 y0)
    else
      if x2 = 0 then
        some ((up V 208 0 y0) 208 15, up V 208 0 y0)
      else
        some ((up V 208 0 y0) 208 16, up V 208 0 y0)
  else
    some (0, up V 208 0 y0)
def f_X10_reason_b19 (V : St) (x1 : Int32) (x2 : Int32) : Option (Int32 × St) :=
  f_X10_reason_b24 V x1 x2 1
def f_X10_reason_b23 (V : St) (x1 : Int32) (x2 : Int32) : Option (Int32 × St) :=
  f_X10_reason_b24 V x1 x2 0
def f_X10_reason (V : St) (x1 : Int32) (x2 : Int32) : Option (Int32 × St) :=
  if (V 208 13) = 0 then
    f_X10_reason_b19 V x1 x2
  else
    if x1 = 0 then
      f_X10_reason_b23 V x1 x2
    else
      if (V 208 15) = 0 then
        f_X10_reason_b19 V x1 x2
      else
        f_X10_reason_b23 V x1 x2
def f_X10_writes (V : St) (x1 : Int32) : Option (St) :=
  (ix (V 208 11) 60).bind fun j1 =>
  some (up (up V 215 j1 x1) 208 11 (((up V 215 j1 x1) 208 11) + 1))
def f_X10_letter (x0 : Int32) : Option (Int32) :=
  if x0 = 0 then
    some 46
  else
    some ((97 + x0) - 1)
def f_X10_line_b118 (c_61 : St → Int32 → Int32 → Int32 → Option (Int32 × St)) (V : St) (x1 : Int32) (x2 : Int32) (x3 : Int32) : Option (Int32 × St) :=
  c_61 V x1 x2 (x3 + 1)
def f_X10_line_b115 (c_61 : St → Int32 → Int32 → Int32 → Option (Int32 × St)) (V : St) (x1 : Int32) (x2 : Int32) (x3 : Int32) (y0 : Int32) : Option (Int32 × St) :=
  (f_X10_writes V y0).bind fun q1 =>
  f_X10_line_b118 c_61 q1 x1 x2 x3
def f_X10_line_b61 : Nat → St → Int32 → Int32 → Int32 → Option (Int32 × St)
  | 0, _, _, _, _ => none
  | n + 1, V, x1, x2, x3 =>
    if ((6 * x2) + 6) ≤ x3 then
      some (V 208 11, V)
    else
      (f_X10_kind V x1 x3).bind fun q3 =>
      (f_X10_letter q3).bind fun q4 =>
      (f_X10_writes V q4).bind fun q5 =>
      if 5 ≤ (x3 - x3 / 6 * 6) then
        f_X10_line_b118 (fun V x1 x2 x3 => f_X10_line_b61 n V x1 x2 x3) q5 x1 x2 x3
      else
        (f_X10_of q5 x1 2).bind fun q7 =>
        if ((q7 >>> (x3 &&& 31)) &&& 1) = 1 then
          f_X10_line_b115 (fun V x1 x2 x3 => f_X10_line_b61 n V x1 x2 x3) q5 x1 x2 x3 47
        else
          f_X10_line_b115 (fun V x1 x2 x3 => f_X10_line_b61 n V x1 x2 x3) q5 x1 x2 x3 45
def f_X10_line_b56 (V : St) (x1 : Int32) (x2 : Int32) : Option (Int32 × St) :=
  f_X10_line_b61 500 V x1 x2 (6 * x2)
def f_X10_line_b22 (V : St) (x1 : Int32) (x2 : Int32) (y0 : Int32) : Option (Int32 × St) :=
  if ((up V 208 0 y0) 208 0) ≤ 0 then
    (f_X10_underWater (up (up V 208 0 y0) 208 11 0) x1).bind fun q10 =>
    if x2 < (4 - q10) then
      f_X10_line_b56 (up (up V 208 0 y0) 208 11 0) x1 x2
    else
      (f_X10_writes (up (up V 208 0 y0) 208 11 0) 126).bind fun q12 =>
      f_X10_line_b56 q12 x1 x2
  else
    some (0, up V 208 0 y0)
def f_X10_line_b21 (V : St) (x1 : Int32) (x2 : Int32) : Option (Int32 × St) :=
  f_X10_line_b22 V x1 x2 1
def f_X10_line (V : St) (x1 : Int32) (x2 : Int32) : Option (Int32 × St) :=
  (f_X10_isNet x1).bind fun q13 =>
  if q13 = 0 then
    f_X10_line_b21 V x1 x2
  else
    (f_X10_in x2 0 3).bind fun q15 =>
    if q15 = 0 then
      f_X10_line_b21 V x1 x2
    else
      f_X10_line_b22 V x1 x2 0
def f_X10_chapterLine_b99 (c_68 : St → Int32 → Int32 → Int32 → Option (Int32 × St)) (V : St) (x1 : Int32) (x3 : Int32) (x4 : Int32) : Option (Int32 × St) :=
  c_68 V x1 x3 (x4 + 1)
def f_X10_chapterLine_b68 : Nat → St → Int32 → Int32 → Int32 → Option (Int32 × St)
  | 0, _, _, _, _ => none
  | n + 1, V, x1, x3, x4 =>
    if 24 ≤ x4 then
      some (V 208 11, V)
    else
      if ((x3 >>> (x4 &&& 31)) &&& 1) = 1 then
        (f_X10_kind V x1 x4).bind fun q3 =>
        (f_X10_letter q3).bind fun q4 =>
        (f_X10_writes V q4).bind fun q5 =>
        f_X10_chapterLine_b99 (fun V x1 x3 x4 => f_X10_chapterLine_b68 n V x1 x3 x4) q5 x1 x3 x4
      else
        f_X10_chapterLine_b99 (fun V x1 x3 x4 => f_X10_chapterLine_b68 n V x1 x3 x4) V x1 x3 x4
def f_X10_chapterLine_b33 (V : St) (x1 : Int32) (x2 : Int32) (y0 : Int32) : Option (Int32 × St) :=
  if ((up V 208 0 y0) 208 0) ≤ 0 then
    (f_X10_looksAt (up V 208 0 y0) x1).bind fun q7 =>
    (f_X10_together q7 x2 (q7 208 19)).bind fun q8 =>
    f_X10_chapterLine_b68 500 (up q7 208 11 0) x1 q8 0
  else
    some (0, up V 208 0 y0)
def f_X10_chapterLine_b15 (V : St) (x1 : Int32) (x2 : Int32) : Option (Int32 × St) :=
  f_X10_chapterLine_b33 V x1 x2 1
def f_X10_chapterLine (V : St) (x1 : Int32) (x2 : Int32) : Option (Int32 × St) :=
  (f_X10_isNet x1).bind fun q9 =>
  if q9 = 0 then
    f_X10_chapterLine_b15 V x1 x2
  else
    (f_X10_isPlace x2).bind fun q11 =>
    if q11 = 0 then
      f_X10_chapterLine_b15 V x1 x2
    else
      (f_X10_kind V x1 x2).bind fun q13 =>
      if q13 = 0 then
        f_X10_chapterLine_b33 V x1 x2 2
      else
        f_X10_chapterLine_b33 V x1 x2 0
def f_X10_noteLine_b83 (c_33 : St → Int32 → Int32 → Option (Int32 × St)) (V : St) (x1 : Int32) (x2 : Int32) : Option (Int32 × St) :=
  c_33 V x1 (x2 + 1)
def f_X10_noteLine_b33 : Nat → St → Int32 → Int32 → Option (Int32 × St)
  | 0, _, _, _ => none
  | n + 1, V, x1, x2 =>
    if 24 ≤ x2 then
      (f_X10_readsSo V x1).bind fun q2 =>
      if q2.1 = 0 then
        (f_X10_writes q2.2 33).bind fun q4 =>
        some (q4 208 11, q4)
      else
        some (q2.2 208 11, q2.2)
    else
      (f_X10_ofNote V x1 1).bind fun q5 =>
      if ((q5 >>> (x2 &&& 31)) &&& 1) = 1 then
        (f_X10_ofNote V x1 2).bind fun q7 =>
        (f_X10_ofNote V x1 3).bind fun q8 =>
        (f_X10_letter (((q7 >>> (x2 &&& 31)) &&& 1) + (2 * ((q8 >>> (x2 &&& 31)) &&& 1)))).bind fun q9 =>
        (f_X10_writes V q9).bind fun q10 =>
        f_X10_noteLine_b83 (fun V x1 x2 => f_X10_noteLine_b33 n V x1 x2) q10 x1 x2
      else
        f_X10_noteLine_b83 (fun V x1 x2 => f_X10_noteLine_b33 n V x1 x2) V x1 x2
def f_X10_noteLine_b14 (V : St) (x1 : Int32) (y0 : Int32) : Option (Int32 × St) :=
  if ((up V 208 0 y0) 208 0) ≤ 0 then
    f_X10_noteLine_b33 500 (up (up V 208 0 y0) 208 11 0) x1 0
  else
    some (0, up V 208 0 y0)
def f_X10_noteLine (V : St) (x1 : Int32) : Option (Int32 × St) :=
  (f_X10_isNote V x1).bind fun q12 =>
  if q12 = 0 then
    f_X10_noteLine_b14 V x1 1
  else
    f_X10_noteLine_b14 V x1 0
def f_X10_character_b20 (V : St) (x1 : Int32) (y0 : Int32) : Option (Int32 × St) :=
  if ((up V 208 0 y0) 208 0) ≤ 0 then
    (ix x1 60).bind fun j2 =>
    (nr .char (i2c ((up V 208 0 y0) 215 j2))).bind fun q3 =>
    some (i2c ((up V 208 0 y0) 215 j2), up V 208 0 y0)
  else
    some (0, up V 208 0 y0)
def f_X10_character (V : St) (x1 : Int32) : Option (Int32 × St) :=
  (f_X10_in x1 0 ((V 208 11) - 1)).bind fun q4 =>
  if q4 = 0 then
    f_X10_character_b20 V x1 1
  else
    f_X10_character_b20 V x1 0
def f_X10_allKnots (V : St) : Option (Int32) :=
  (f_X10_of V 0 0).bind fun q1 =>
  (f_X10_of V 0 1).bind fun q2 =>
  (f_X10_bits (q1 ||| q2)).bind fun q3 =>
  (f_X10_of V 1 0).bind fun q4 =>
  (f_X10_of V 1 1).bind fun q5 =>
  (f_X10_bits (q4 ||| q5)).bind fun q6 =>
  (f_X10_of V 2 0).bind fun q7 =>
  (f_X10_of V 2 1).bind fun q8 =>
  (f_X10_bits (q7 ||| q8)).bind fun q9 =>
  some ((q3 + q6) + q9)
def f_X10_allChapters (V : St) : Option (Int32 × St) :=
  (f_X10_chaptersOf V 0).bind fun q1 =>
  (f_X10_chaptersOf q1.2 1).bind fun q2 =>
  (f_X10_chaptersOf q2.2 2).bind fun q3 =>
  some ((q1.1 + q2.1) + q3.1, q3.2)
def f_X10_meanKnots_b13 (V : St) (y0 : Int32) : Option (UInt64 × St) :=
  if ((up V 208 0 y0) 208 0) ≤ 0 then
    (f_X10_allKnots (up V 208 0 y0)).bind fun q2 =>
    (f_X10_allChapters (up V 208 0 y0)).bind fun q3 =>
    (dv (FP.i2d q2) (FP.i2d q3.1)).bind fun q4 =>
    some (q4, q3.2)
  else
    some (FP.dconst0, up V 208 0 y0)
def f_X10_meanKnots (V : St) : Option (UInt64 × St) :=
  (f_X10_allChapters V).bind fun q5 =>
  if q5.1 = 0 then
    f_X10_meanKnots_b13 q5.2 1
  else
    f_X10_meanKnots_b13 q5.2 0
def f_X10_readShare_b13 (V : St) (y0 : Int32) : Option (UInt32 × St) :=
  if ((up V 208 0 y0) 208 0) ≤ 0 then
    (f_X10_readable (up V 208 0 y0) 0).bind fun q2 =>
    (f_X10_readable (up V 208 0 y0) 1).bind fun q3 =>
    (f_X10_readable (up V 208 0 y0) 2).bind fun q4 =>
    (f_X10_allKnots (up V 208 0 y0)).bind fun q5 =>
    (fv (FP.i2f ((q2 + q3) + q4)) (FP.i2f q5)).bind fun q6 =>
    some (q6, up V 208 0 y0)
  else
    some (FP.fconst0, up V 208 0 y0)
def f_X10_readShare (V : St) : Option (UInt32 × St) :=
  (f_X10_allKnots V).bind fun q7 =>
  if q7 = 0 then
    f_X10_readShare_b13 V 1
  else
    f_X10_readShare_b13 V 0
def f_X10_allTwine_b4 : Nat → St → Int32 → Int32 → Option (Int32)
  | 0, _, _, _ => none
  | n + 1, V, x1, x2 =>
    if (V 209 1) ≤ x2 then
      some x1
    else
      (ix (21 + (2 * x2)) 53).bind fun j2 =>
      f_X10_allTwine_b4 n V (x1 + (V 209 j2)) (x2 + 1)
def f_X10_allTwine (V : St) : Option (Int32) :=
  f_X10_allTwine_b4 500 V 0 0
def f_X10_readSo_b28 (c_4 : St → Int32 → Int32 → Option (Int32 × St)) (V : St) (x2 : Int32) (y0 : Int32) (y1 : Int32) : Option (Int32 × St) :=
  c_4 V (y1 + y0) (x2 + 1)
def f_X10_readSo_b4 : Nat → St → Int32 → Int32 → Option (Int32 × St)
  | 0, _, _, _ => none
  | n + 1, V, x1, x2 =>
    if (V 209 2) ≤ x2 then
      some (x1, V)
    else
      (f_X10_readsSo V x2).bind fun q2 =>
      if q2.1 = 0 then
        f_X10_readSo_b28 (fun V x1 x2 => f_X10_readSo_b4 n V x1 x2) q2.2 x2 0 x1
      else
        f_X10_readSo_b28 (fun V x1 x2 => f_X10_readSo_b4 n V x1 x2) q2.2 x2 1 x1
def f_X10_readSo (V : St) : Option (Int32 × St) :=
  f_X10_readSo_b4 500 V 0 0
def f_X10_account (V : St) (x1 : Int32) : Option (Int32 × St) :=
  if x1 = 0 then
    (f_X10_allKnots (up V 208 0 0)).bind fun q2 =>
    some (q2, up V 208 0 0)
  else
  if x1 = 1 then
    (f_X10_allChapters (up V 208 0 0)).bind fun q4 =>
    some (q4.1, q4.2)
  else
  if x1 = 2 then
    (f_X10_tornIn (up V 208 0 0) 0).bind fun q6 =>
    (f_X10_tornIn (up V 208 0 0) 1).bind fun q7 =>
    (f_X10_tornIn (up V 208 0 0) 2).bind fun q8 =>
    some ((q6 + q7) + q8, up V 208 0 0)
  else
  if x1 = 3 then
    some ((up V 208 0 0) 209 1, up V 208 0 0)
  else
  if x1 = 4 then
    (f_X10_allTwine (up V 208 0 0)).bind fun q11 =>
    some (q11, up V 208 0 0)
  else
  if x1 = 5 then
    some ((up V 208 0 0) 209 2, up V 208 0 0)
  else
  if x1 = 6 then
    (f_X10_readSo (up V 208 0 0)).bind fun q14 =>
    some (q14.1, q14.2)
  else
  if x1 = 7 then
    some ((up V 208 0 0) 209 0, up V 208 0 0)
  else
  if x1 = 8 then
    some ((up V 208 0 0) 209 3, up V 208 0 0)
  else
  if x1 = 9 then
    some ((up V 208 0 0) 209 4, up V 208 0 0)
  else
  if x1 = 10 then
    some ((up V 208 0 0) 209 5, up V 208 0 0)
  else
  if x1 = 11 then
    some ((up V 208 0 0) 208 10, up V 208 0 0)
  else
  if x1 = 12 then
    some ((up V 208 0 0) 208 5, up V 208 0 0)
  else
  (f_X10_fails (up V 208 0 0) 1).bind fun q21 =>
  some (q21.1, q21.2)
def f_X10_isBalanced (V : St) : Option (Int32 × St) :=
  (f_X10_tornIn (up V 208 0 0) 0).bind fun q1 =>
  (f_X10_tornIn (up V 208 0 0) 1).bind fun q2 =>
  (f_X10_tornIn (up V 208 0 0) 2).bind fun q3 =>
  if ((up V 208 0 0) 209 3) = (((((up V 208 0 0) 209 4) + q1) + q2) + q3) then
    some (1, up V 208 0 0)
  else
    some (0, up V 208 0 0)
def f_X10_undo_b30 : Nat → St → Int32 → Option (Int32 × St)
  | 0, _, _ => none
  | n + 1, V, x1 =>
    if 53 ≤ x1 then
      some (V 208 5, V)
    else
      (ix ((53 * (V 208 5)) + x1) 424).bind fun j2 =>
      (ix x1 53).bind fun j3 =>
      f_X10_undo_b30 n (up V 209 j3 (V 212 j2)) (x1 + 1)
def f_X10_undo (V : St) : Option (Int32 × St) :=
  if ((up V 208 0 0) 208 5) = 0 then
    (f_X10_fails (up V 208 0 0) 1).bind fun q5 =>
    some (q5.1, q5.2)
  else
    f_X10_undo_b30 500 (up (up V 208 0 0) 208 5 (((up V 208 0 0) 208 5) - 1)) 0
def f_X10_save_b7 : Nat → St → Int32 → Option (Int32 × St)
  | 0, _, _ => none
  | n + 1, V, x1 =>
    if 53 ≤ x1 then
      some ((up V 208 6 1) 209 2, up V 208 6 1)
    else
      (ix x1 53).bind fun j2 =>
      (ix x1 53).bind fun j3 =>
      f_X10_save_b7 n (up V 211 j3 (V 209 j2)) (x1 + 1)
def f_X10_save (V : St) : Option (Int32 × St) :=
  f_X10_save_b7 500 (up V 208 0 0) 0
def f_X10_restore_b20 : Nat → St → Int32 → Option (Int32 × St)
  | 0, _, _ => none
  | n + 1, V, x1 =>
    if 53 ≤ x1 then
      some ((up V 208 5 0) 209 2, up V 208 5 0)
    else
      (ix x1 53).bind fun j2 =>
      (ix x1 53).bind fun j3 =>
      f_X10_restore_b20 n (up V 209 j3 (V 211 j2)) (x1 + 1)
def f_X10_restore (V : St) : Option (Int32 × St) :=
  if ((up V 208 0 0) 208 6) = 0 then
    (f_X10_fails (up V 208 0 0) 1).bind fun q5 =>
    some (q5.1, q5.2)
  else
    f_X10_restore_b20 500 (up V 208 0 0) 0

