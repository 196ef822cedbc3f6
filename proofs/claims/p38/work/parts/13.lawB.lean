def f_L_isNet_b938 (V : St) (A : Nat → Int32) (y0 : Int32) (y1 : Int32) : Option (Int32 × St) :=
  if y1 = y0 then
    some (1, V)
  else
    some (0, V)
def f_L_isNet_b895 (V : St) (A : Nat → Int32) (x1 : Int32) (x2 : Int32) (x3 : Int32) (x13 : Int32) (x16 : Int32) (y0 : Int32) : Option (Int32 × St) :=
  if x13 = 0 then
    some (0, V)
  else
    if x16 = 0 then
      some (0, V)
    else
      if y0 = 0 then
        some (0, V)
      else
        (f_L_line V x1 (x2 / 6)).bind fun q5 =>
        if (4 - x3) ≤ (x2 / 6) then
          f_L_isNet_b938 q5.2 A 12 q5.1
        else
          f_L_isNet_b938 q5.2 A 11 q5.1
def f_L_isNet_b894 (V : St) (A : Nat → Int32) (x1 : Int32) (x2 : Int32) (x3 : Int32) (x13 : Int32) (x16 : Int32) : Option (Int32 × St) :=
  f_L_isNet_b895 V A x1 x2 x3 x13 x16 0
def f_L_isNet_b790 (V : St) (A : Nat → Int32) (x1 : Int32) (x2 : Int32) (x3 : Int32) (x4 : Int32) (x5 : Int32) (x6 : Int32) (x7 : Int32) (x9 : Int32) (x10 : Int32) (x13 : Int32) (y0 : Int32) : Option (Int32 × St) :=
  (f_L_netOf V x1 0).bind fun q7 =>
  if q7 = x4 then
    (f_L_netOf V x1 1).bind fun q9 =>
    if q9 = x5 then
      (f_L_netOf V x1 2).bind fun q11 =>
      if q11 = x6 then
        (f_L_netOf V x1 4).bind fun q13 =>
        if q13 = x3 then
          (f_L_netOf V x1 5).bind fun q15 =>
          if q15 = x10 then
            (f_L_netOf V x1 6).bind fun q17 =>
            if q17 = x7 then
              (f_L_chapters V x1).bind fun q19 =>
              if q19 = x9 then
                (f_L_chaptersAgain V x1).bind fun q21 =>
                if q21.1 = x9 then
                  (f_L_ranked q21.2 x1 x9).bind fun q23 =>
                  if q23 = (-75) then
                    f_L_isNet_b895 q21.2 A x1 x2 x3 x13 y0 1
                  else
                    f_L_isNet_b894 q21.2 A x1 x2 x3 x13 y0
                else
                  f_L_isNet_b894 q21.2 A x1 x2 x3 x13 y0
              else
                f_L_isNet_b894 V A x1 x2 x3 x13 y0
            else
              f_L_isNet_b894 V A x1 x2 x3 x13 y0
          else
            f_L_isNet_b894 V A x1 x2 x3 x13 y0
        else
          f_L_isNet_b894 V A x1 x2 x3 x13 y0
      else
        f_L_isNet_b894 V A x1 x2 x3 x13 y0
    else
      f_L_isNet_b894 V A x1 x2 x3 x13 y0
  else
    f_L_isNet_b894 V A x1 x2 x3 x13 y0
def f_L_isNet_b789 (V : St) (A : Nat → Int32) (x1 : Int32) (x2 : Int32) (x3 : Int32) (x4 : Int32) (x5 : Int32) (x6 : Int32) (x7 : Int32) (x9 : Int32) (x10 : Int32) (x13 : Int32) : Option (Int32 × St) :=
  f_L_isNet_b790 V A x1 x2 x3 x4 x5 x6 x7 x9 x10 x13 0
def f_L_isNet_b699 (c_634 : St → (Nat → Int32) → Int32 → Int32 → Int32 → Int32 → Int32 → Int32 → Int32 → Int32 → Int32 → Int32 → Int32 → Option (Int32 × St)) (V : St) (A : Nat → Int32) (x1 : Int32) (x2 : Int32) (x3 : Int32) (x4 : Int32) (x5 : Int32) (x6 : Int32) (x7 : Int32) (x9 : Int32) (x10 : Int32) (x13 : Int32) (x14 : Int32) : Option (Int32 × St) :=
  c_634 V A x1 x2 x3 x4 x5 x6 x7 x9 x10 x13 (x14 + 1)
def f_L_isNet_b634 : Nat → St → (Nat → Int32) → Int32 → Int32 → Int32 → Int32 → Int32 → Int32 → Int32 → Int32 → Int32 → Int32 → Int32 → Option (Int32 × St)
  | 0, _, _, _, _, _, _, _, _, _, _, _, _, _ => none
  | n + 1, V, A, x1, x2, x3, x4, x5, x6, x7, x9, x10, x13, x14 =>
    if x9 ≤ x14 then
      (f_L_bestMend V x1 0).bind fun q26 =>
      (f_L_bestMend V x1 1).bind fun q27 =>
      if q26 = (-75) then
        if q27 = (-75) then
          f_L_isNet_b790 V A x1 x2 x3 x4 x5 x6 x7 x9 x10 x13 1
        else
          f_L_isNet_b790 V A x1 x2 x3 x4 x5 x6 x7 x9 x10 x13 0
      else
        (f_L_torn V x1 q26 q27).bind fun q29 =>
        if q29 = 1 then
          (ix q26 24).bind fun j31 =>
          if (A j31) < 0 then
            f_L_isNet_b789 V A x1 x2 x3 x4 x5 x6 x7 x9 x10 x13
          else
            (ix q27 24).bind fun j33 =>
            if (A j33) < 0 then
              f_L_isNet_b789 V A x1 x2 x3 x4 x5 x6 x7 x9 x10 x13
            else
              (ix q26 24).bind fun j35 =>
              (ix q27 24).bind fun j36 =>
              if (A j35) = (A j36) then
                f_L_isNet_b789 V A x1 x2 x3 x4 x5 x6 x7 x9 x10 x13
              else
                f_L_isNet_b790 V A x1 x2 x3 x4 x5 x6 x7 x9 x10 x13 1
        else
          f_L_isNet_b789 V A x1 x2 x3 x4 x5 x6 x7 x9 x10 x13
    else
      (f_L_ranked V x1 (x14 - 1)).bind fun q39 =>
      (f_L_ranked V x1 x14).bind fun q40 =>
      (f_L_chapterOf V x1 q39 1).bind fun q41 =>
      (f_L_chapterOf V x1 q40 1).bind fun q42 =>
      if (q41 - q42) < 0 then
        some (0, V)
      else
        if (q41 - q42) = 0 then
          if q39 ≤ q40 then
            f_L_isNet_b699 (fun V A x1 x2 x3 x4 x5 x6 x7 x9 x10 x13 x14 => f_L_isNet_b634 n V A x1 x2 x3 x4 x5 x6 x7 x9 x10 x13 x14) V A x1 x2 x3 x4 x5 x6 x7 x9 x10 x13 x14
          else
            some (0, V)
        else
          f_L_isNet_b699 (fun V A x1 x2 x3 x4 x5 x6 x7 x9 x10 x13 x14 => f_L_isNet_b634 n V A x1 x2 x3 x4 x5 x6 x7 x9 x10 x13 x14) V A x1 x2 x3 x4 x5 x6 x7 x9 x10 x13 x14
def f_L_isNet_b629 (V : St) (A : Nat → Int32) (x1 : Int32) (x2 : Int32) (x3 : Int32) (x4 : Int32) (x5 : Int32) (x6 : Int32) (x7 : Int32) (x9 : Int32) (x10 : Int32) (y0 : Int32) : Option (Int32 × St) :=
  f_L_isNet_b634 25 V A x1 x2 x3 x4 x5 x6 x7 x9 x10 y0 1
def f_L_isNet_b628 (V : St) (A : Nat → Int32) (x1 : Int32) (x2 : Int32) (x3 : Int32) (x4 : Int32) (x5 : Int32) (x6 : Int32) (x7 : Int32) (x9 : Int32) (x10 : Int32) : Option (Int32 × St) :=
  f_L_isNet_b629 V A x1 x2 x3 x4 x5 x6 x7 x9 x10 0
def f_L_isNet_b571 (V : St) (A : Nat → Int32) (x1 : Int32) (x2 : Int32) (x3 : Int32) (x4 : Int32) (x5 : Int32) (x6 : Int32) (x7 : Int32) (x9 : Int32) (x10 : Int32) : Option (Int32 × St) :=
  f_L_isNet_b629 V A x1 x2 x3 x4 x5 x6 x7 x9 x10 0
def f_L_isNet_b530 (c_459 : St → (Nat → Int32) → Int32 → Int32 → Int32 → Int32 → Int32 → Int32 → Int32 → Int32 → Int32 → Int32 → Int32 → Int32 → Option (Int32 × St)) (V : St) (A : Nat → Int32) (x1 : Int32) (x2 : Int32) (x3 : Int32) (x4 : Int32) (x5 : Int32) (x6 : Int32) (x7 : Int32) (x9 : Int32) (x10 : Int32) (x11 : Int32) (x13 : Int32) (y0 : Int32) (y1 : Int32) : Option (Int32 × St) :=
  c_459 V A x1 x2 x3 x4 x5 x6 x7 x9 x10 x11 (y1 + y0) (x13 + 1)
def f_L_isNet_b529 (c_459 : St → (Nat → Int32) → Int32 → Int32 → Int32 → Int32 → Int32 → Int32 → Int32 → Int32 → Int32 → Int32 → Int32 → Int32 → Option (Int32 × St)) (V : St) (A : Nat → Int32) (x1 : Int32) (x2 : Int32) (x3 : Int32) (x4 : Int32) (x5 : Int32) (x6 : Int32) (x7 : Int32) (x9 : Int32) (x10 : Int32) (x11 : Int32) (x13 : Int32) (y0 : Int32) : Option (Int32 × St) :=
  f_L_isNet_b530 c_459 V A x1 x2 x3 x4 x5 x6 x7 x9 x10 x11 x13 0 y0
def f_L_isNet_b504 (c_459 : St → (Nat → Int32) → Int32 → Int32 → Int32 → Int32 → Int32 → Int32 → Int32 → Int32 → Int32 → Int32 → Int32 → Int32 → Option (Int32 × St)) (V : St) (A : Nat → Int32) (x1 : Int32) (x2 : Int32) (x3 : Int32) (x4 : Int32) (x5 : Int32) (x6 : Int32) (x7 : Int32) (x9 : Int32) (x10 : Int32) (x12 : Int32) (x13 : Int32) (x14 : Int32) (y0 : Int32) (y1 : Int32) : Option (Int32 × St) :=
  if x14 = 0 then
    f_L_isNet_b529 c_459 V A x1 x2 x3 x4 x5 x6 x7 x9 x10 (y1 + y0) x13 x12
  else
    if (4 - x3) ≤ (x13 / 6) then
      f_L_isNet_b529 c_459 V A x1 x2 x3 x4 x5 x6 x7 x9 x10 (y1 + y0) x13 x12
    else
      f_L_isNet_b530 c_459 V A x1 x2 x3 x4 x5 x6 x7 x9 x10 (y1 + y0) x13 1 x12
def f_L_isNet_b490 (c_459 : St → (Nat → Int32) → Int32 → Int32 → Int32 → Int32 → Int32 → Int32 → Int32 → Int32 → Int32 → Int32 → Int32 → Int32 → Option (Int32 × St)) (V : St) (A : Nat → Int32) (x1 : Int32) (x2 : Int32) (x3 : Int32) (x4 : Int32) (x5 : Int32) (x6 : Int32) (x7 : Int32) (x9 : Int32) (x10 : Int32) (x11 : Int32) (x12 : Int32) (x13 : Int32) (y0 : Int32) : Option (Int32 × St) :=
  if y0 = 0 then
    f_L_isNet_b504 c_459 V A x1 x2 x3 x4 x5 x6 x7 x9 x10 x12 x13 y0 0 x11
  else
    f_L_isNet_b504 c_459 V A x1 x2 x3 x4 x5 x6 x7 x9 x10 x12 x13 y0 1 x11
def f_L_isNet_b489 (c_459 : St → (Nat → Int32) → Int32 → Int32 → Int32 → Int32 → Int32 → Int32 → Int32 → Int32 → Int32 → Int32 → Int32 → Int32 → Option (Int32 × St)) (V : St) (A : Nat → Int32) (x1 : Int32) (x2 : Int32) (x3 : Int32) (x4 : Int32) (x5 : Int32) (x6 : Int32) (x7 : Int32) (x9 : Int32) (x10 : Int32) (x11 : Int32) (x12 : Int32) (x13 : Int32) : Option (Int32 × St) :=
  f_L_isNet_b490 c_459 V A x1 x2 x3 x4 x5 x6 x7 x9 x10 x11 x12 x13 0
def f_L_isNet_b459 : Nat → St → (Nat → Int32) → Int32 → Int32 → Int32 → Int32 → Int32 → Int32 → Int32 → Int32 → Int32 → Int32 → Int32 → Int32 → Option (Int32 × St)
  | 0, _, _, _, _, _, _, _, _, _, _, _, _, _, _ => none
  | n + 1, V, A, x1, x2, x3, x4, x5, x6, x7, x9, x10, x11, x12, x13 =>
    if 24 ≤ x13 then
      if x11 = 0 then
        (f_L_chapterOf V x1 x2 1).bind fun q59 =>
        if q59 = (-75) then
          (f_L_chapterLine V x1 x2).bind fun q61 =>
          if q61.1 = (-75) then
            f_L_isNet_b629 q61.2 A x1 x2 x3 x4 x5 x6 x7 x9 x10 1
          else
            f_L_isNet_b571 q61.2 A x1 x2 x3 x4 x5 x6 x7 x9 x10
        else
          f_L_isNet_b571 V A x1 x2 x3 x4 x5 x6 x7 x9 x10
      else
        (f_L_chapterOf V x1 x2 1).bind fun q51 =>
        if q51 = x11 then
          (f_L_chapterOf V x1 x2 2).bind fun q53 =>
          if q53 = x12 then
            (f_L_chapterLine V x1 x2).bind fun q55 =>
            if q55.1 = x11 then
              (f_L_chapterOf q55.2 x1 x2 3).bind fun q57 =>
              if q57 < (x11 - 1) then
                f_L_isNet_b628 q55.2 A x1 x2 x3 x4 x5 x6 x7 x9 x10
              else
                f_L_isNet_b629 q55.2 A x1 x2 x3 x4 x5 x6 x7 x9 x10 1
            else
              f_L_isNet_b628 q55.2 A x1 x2 x3 x4 x5 x6 x7 x9 x10
          else
            f_L_isNet_b628 V A x1 x2 x3 x4 x5 x6 x7 x9 x10
        else
          f_L_isNet_b628 V A x1 x2 x3 x4 x5 x6 x7 x9 x10
    else
      (ix x2 24).bind fun j63 =>
      if (A j63) < 0 then
        f_L_isNet_b489 (fun V A x1 x2 x3 x4 x5 x6 x7 x9 x10 x11 x12 x13 => f_L_isNet_b459 n V A x1 x2 x3 x4 x5 x6 x7 x9 x10 x11 x12 x13) V A x1 x2 x3 x4 x5 x6 x7 x9 x10 x11 x12 x13
      else
        (ix x13 24).bind fun j65 =>
        (ix x2 24).bind fun j66 =>
        if (A j65) = (A j66) then
          f_L_isNet_b490 (fun V A x1 x2 x3 x4 x5 x6 x7 x9 x10 x11 x12 x13 => f_L_isNet_b459 n V A x1 x2 x3 x4 x5 x6 x7 x9 x10 x11 x12 x13) V A x1 x2 x3 x4 x5 x6 x7 x9 x10 x11 x12 x13 1
        else
          f_L_isNet_b489 (fun V A x1 x2 x3 x4 x5 x6 x7 x9 x10 x11 x12 x13 => f_L_isNet_b459 n V A x1 x2 x3 x4 x5 x6 x7 x9 x10 x11 x12 x13) V A x1 x2 x3 x4 x5 x6 x7 x9 x10 x11 x12 x13
def f_L_isNet_b442 (c_214 : St → (Nat → Int32) → Int32 → Int32 → Int32 → Int32 → Int32 → Int32 → Int32 → Int32 → Int32 → Int32 → Option (Int32 × St)) (V : St) (A : Nat → Int32) (x1 : Int32) (x2 : Int32) (x3 : Int32) (x4 : Int32) (x5 : Int32) (x6 : Int32) (x7 : Int32) (x9 : Int32) (x11 : Int32) (y0 : Int32) : Option (Int32 × St) :=
  c_214 V A x1 x2 x3 x4 x5 x6 x7 x9 y0 (x11 + 1)
def f_L_isNet_b411 (c_214 : St → (Nat → Int32) → Int32 → Int32 → Int32 → Int32 → Int32 → Int32 → Int32 → Int32 → Int32 → Int32 → Option (Int32 × St)) (V : St) (A : Nat → Int32) (x1 : Int32) (x2 : Int32) (x3 : Int32) (x4 : Int32) (x5 : Int32) (x6 : Int32) (x7 : Int32) (x10 : Int32) (x11 : Int32) (y0 : Int32) (y1 : Int32) : Option (Int32 × St) :=
  (ix x11 24).bind fun j68 =>
  if (A j68) = x11 then
    (f_L_chapterOf V x1 x11 1).bind fun q70 =>
    f_L_isNet_b442 c_214 V A x1 x2 x3 x4 x5 x6 x7 (y1 + y0) x11 (imax x10 q70)
  else
    f_L_isNet_b442 c_214 V A x1 x2 x3 x4 x5 x6 x7 (y1 + y0) x11 x10
def f_L_isNet_b394 (c_214 : St → (Nat → Int32) → Int32 → Int32 → Int32 → Int32 → Int32 → Int32 → Int32 → Int32 → Int32 → Int32 → Option (Int32 × St)) (V : St) (A : Nat → Int32) (x1 : Int32) (x2 : Int32) (x3 : Int32) (x4 : Int32) (x5 : Int32) (x6 : Int32) (x7 : Int32) (x9 : Int32) (x10 : Int32) (x11 : Int32) : Option (Int32 × St) :=
  (ix x11 24).bind fun j71 =>
  if (A j71) = x11 then
    f_L_isNet_b411 c_214 V A x1 x2 x3 x4 x5 x6 x7 x10 x11 1 x9
  else
    f_L_isNet_b411 c_214 V A x1 x2 x3 x4 x5 x6 x7 x10 x11 0 x9
def f_L_isNet_b358 (c_214 : St → (Nat → Int32) → Int32 → Int32 → Int32 → Int32 → Int32 → Int32 → Int32 → Int32 → Int32 → Int32 → Option (Int32 × St)) (V : St) (A : Nat → Int32) (x1 : Int32) (x2 : Int32) (x3 : Int32) (x4 : Int32) (x5 : Int32) (x6 : Int32) (x7 : Int32) (x9 : Int32) (x10 : Int32) (x11 : Int32) : Option (Int32 × St) :=
  (ix x11 24).bind fun j73 =>
  if x11 < (A j73) then
    some (0, V)
  else
    (ix x11 24).bind fun j75 =>
    if (A j75) < 0 then
      f_L_isNet_b394 c_214 V A x1 x2 x3 x4 x5 x6 x7 x9 x10 x11
    else
      (ix x11 24).bind fun j77 =>
      (ix (A j77) 24).bind fun j78 =>
      (ix x11 24).bind fun j79 =>
      if (A j78) = (A j79) then
        f_L_isNet_b394 c_214 V A x1 x2 x3 x4 x5 x6 x7 x9 x10 x11
      else
        some (0, V)
def f_L_isNet_b337 (c_214 : St → (Nat → Int32) → Int32 → Int32 → Int32 → Int32 → Int32 → Int32 → Int32 → Int32 → Int32 → Int32 → Option (Int32 × St)) (V : St) (A : Nat → Int32) (x1 : Int32) (x2 : Int32) (x3 : Int32) (x4 : Int32) (x5 : Int32) (x6 : Int32) (x7 : Int32) (x9 : Int32) (x10 : Int32) (x11 : Int32) (x13 : Int32) : Option (Int32 × St) :=
  if x13 = 0 then
    f_L_isNet_b358 c_214 V A x1 x2 x3 x4 x5 x6 x7 x9 x10 x11
  else
    (ix x11 24).bind fun j82 =>
    (ix (x11 + 6) 24).bind fun j83 =>
    if (A j82) = (A j83) then
      f_L_isNet_b358 c_214 V A x1 x2 x3 x4 x5 x6 x7 x9 x10 x11
    else
      some (0, V)
def f_L_isNet_b315 (c_214 : St → (Nat → Int32) → Int32 → Int32 → Int32 → Int32 → Int32 → Int32 → Int32 → Int32 → Int32 → Int32 → Option (Int32 × St)) (V : St) (A : Nat → Int32) (x1 : Int32) (x2 : Int32) (x3 : Int32) (x4 : Int32) (x5 : Int32) (x6 : Int32) (x7 : Int32) (x9 : Int32) (x10 : Int32) (x11 : Int32) (x12 : Int32) (y0 : Int32) : Option (Int32 × St) :=
  if x12 = 0 then
    f_L_isNet_b337 c_214 V A x1 x2 x3 x4 x5 x6 x7 x9 x10 x11 y0
  else
    (ix x11 24).bind fun j86 =>
    (ix (x11 + 1) 24).bind fun j87 =>
    if (A j86) = (A j87) then
      f_L_isNet_b337 c_214 V A x1 x2 x3 x4 x5 x6 x7 x9 x10 x11 y0
    else
      some (0, V)
def f_L_isNet_b314 (c_214 : St → (Nat → Int32) → Int32 → Int32 → Int32 → Int32 → Int32 → Int32 → Int32 → Int32 → Int32 → Int32 → Option (Int32 × St)) (V : St) (A : Nat → Int32) (x1 : Int32) (x2 : Int32) (x3 : Int32) (x4 : Int32) (x5 : Int32) (x6 : Int32) (x7 : Int32) (x9 : Int32) (x10 : Int32) (x11 : Int32) (x12 : Int32) : Option (Int32 × St) :=
  f_L_isNet_b315 c_214 V A x1 x2 x3 x4 x5 x6 x7 x9 x10 x11 x12 0
def f_L_isNet_b267 (c_214 : St → (Nat → Int32) → Int32 → Int32 → Int32 → Int32 → Int32 → Int32 → Int32 → Int32 → Int32 → Int32 → Option (Int32 × St)) (V : St) (A : Nat → Int32) (x1 : Int32) (x2 : Int32) (x3 : Int32) (x4 : Int32) (x5 : Int32) (x6 : Int32) (x7 : Int32) (x9 : Int32) (x10 : Int32) (x11 : Int32) (y0 : Int32) : Option (Int32 × St) :=
  if 18 ≤ x11 then
    f_L_isNet_b314 c_214 V A x1 x2 x3 x4 x5 x6 x7 x9 x10 x11 y0
  else
    (f_L_torn V x1 x11 (x11 + 6)).bind fun q90 =>
    if q90 = 0 then
      (ix x11 24).bind fun j92 =>
      if (A j92) < 0 then
        f_L_isNet_b314 c_214 V A x1 x2 x3 x4 x5 x6 x7 x9 x10 x11 y0
      else
        (ix (x11 + 6) 24).bind fun j94 =>
        if (A j94) < 0 then
          f_L_isNet_b314 c_214 V A x1 x2 x3 x4 x5 x6 x7 x9 x10 x11 y0
        else
          f_L_isNet_b315 c_214 V A x1 x2 x3 x4 x5 x6 x7 x9 x10 x11 y0 1
    else
      f_L_isNet_b314 c_214 V A x1 x2 x3 x4 x5 x6 x7 x9 x10 x11 y0
def f_L_isNet_b266 (c_214 : St → (Nat → Int32) → Int32 → Int32 → Int32 → Int32 → Int32 → Int32 → Int32 → Int32 → Int32 → Int32 → Option (Int32 × St)) (V : St) (A : Nat → Int32) (x1 : Int32) (x2 : Int32) (x3 : Int32) (x4 : Int32) (x5 : Int32) (x6 : Int32) (x7 : Int32) (x9 : Int32) (x10 : Int32) (x11 : Int32) : Option (Int32 × St) :=
  f_L_isNet_b267 c_214 V A x1 x2 x3 x4 x5 x6 x7 x9 x10 x11 0
def f_L_isNet_b214 : Nat → St → (Nat → Int32) → Int32 → Int32 → Int32 → Int32 → Int32 → Int32 → Int32 → Int32 → Int32 → Int32 → Option (Int32 × St)
  | 0, _, _, _, _, _, _, _, _, _, _, _, _ => none
  | n + 1, V, A, x1, x2, x3, x4, x5, x6, x7, x9, x10, x11 =>
    if 24 ≤ x11 then
      f_L_isNet_b459 25 V A x1 x2 x3 x4 x5 x6 x7 x9 x10 0 0 0
    else
      if (x11 - x11 / 6 * 6) = 5 then
        f_L_isNet_b266 (fun V A x1 x2 x3 x4 x5 x6 x7 x9 x10 x11 => f_L_isNet_b214 n V A x1 x2 x3 x4 x5 x6 x7 x9 x10 x11) V A x1 x2 x3 x4 x5 x6 x7 x9 x10 x11
      else
        (f_L_torn V x1 x11 (x11 + 1)).bind fun q98 =>
        if q98 = 0 then
          (ix x11 24).bind fun j100 =>
          if (A j100) < 0 then
            f_L_isNet_b266 (fun V A x1 x2 x3 x4 x5 x6 x7 x9 x10 x11 => f_L_isNet_b214 n V A x1 x2 x3 x4 x5 x6 x7 x9 x10 x11) V A x1 x2 x3 x4 x5 x6 x7 x9 x10 x11
          else
            (ix (x11 + 1) 24).bind fun j102 =>
            if (A j102) < 0 then
              f_L_isNet_b266 (fun V A x1 x2 x3 x4 x5 x6 x7 x9 x10 x11 => f_L_isNet_b214 n V A x1 x2 x3 x4 x5 x6 x7 x9 x10 x11) V A x1 x2 x3 x4 x5 x6 x7 x9 x10 x11
            else
              f_L_isNet_b267 (fun V A x1 x2 x3 x4 x5 x6 x7 x9 x10 x11 => f_L_isNet_b214 n V A x1 x2 x3 x4 x5 x6 x7 x9 x10 x11) V A x1 x2 x3 x4 x5 x6 x7 x9 x10 x11 1
        else
          f_L_isNet_b266 (fun V A x1 x2 x3 x4 x5 x6 x7 x9 x10 x11 => f_L_isNet_b214 n V A x1 x2 x3 x4 x5 x6 x7 x9 x10 x11) V A x1 x2 x3 x4 x5 x6 x7 x9 x10 x11
def f_L_isNet_b198 (c_39 : St → (Nat → Int32) → Int32 → Int32 → Int32 → Int32 → Int32 → Int32 → Int32 → Int32 → Option (Int32 × St)) (V : St) (A : Nat → Int32) (x1 : Int32) (x2 : Int32) (x3 : Int32) (x4 : Int32) (x5 : Int32) (x6 : Int32) (x7 : Int32) (x9 : Int32) (y0 : Int32) (y1 : Int32) : Option (Int32 × St) :=
  (ix y1 24).bind fun j104 =>
  c_39 V (updA A j104 y0) x1 x2 x3 x4 x5 x6 x7 (x9 + 1)
def f_L_isNet_b153 (c_39 : St → (Nat → Int32) → Int32 → Int32 → Int32 → Int32 → Int32 → Int32 → Int32 → Int32 → Option (Int32 × St)) (V : St) (A : Nat → Int32) (x1 : Int32) (x2 : Int32) (x3 : Int32) (x4 : Int32) (x5 : Int32) (x6 : Int32) (x7 : Int32) (x9 : Int32) (x10 : Int32) (x11 : Int32) (y0 : Int32) : Option (Int32 × St) :=
  if x10 = 0 then
    f_L_isNet_b198 c_39 V A x1 x2 x3 x4 x5 (x6 + (x11 + y0)) (x7 + (x11 + (2 * y0))) x9 (-1) x9
  else
    (f_L_chapterOf V x1 x9 0).bind fun q106 =>
    f_L_isNet_b198 c_39 V A x1 x2 x3 x4 x5 (x6 + (x11 + y0)) (x7 + (x11 + (2 * y0))) x9 q106 x9
def f_L_isNet_b128 (c_39 : St → (Nat → Int32) → Int32 → Int32 → Int32 → Int32 → Int32 → Int32 → Int32 → Int32 → Option (Int32 × St)) (V : St) (A : Nat → Int32) (x1 : Int32) (x2 : Int32) (x3 : Int32) (x4 : Int32) (x5 : Int32) (x6 : Int32) (x7 : Int32) (x9 : Int32) (x10 : Int32) (y0 : Int32) : Option (Int32 × St) :=
  if x9 ≤ 17 then
    (f_L_torn V x1 x9 (x9 + 6)).bind fun q108 =>
    f_L_isNet_b153 c_39 V A x1 x2 x3 x4 x5 x6 x7 x9 x10 y0 q108
  else
    f_L_isNet_b153 c_39 V A x1 x2 x3 x4 x5 x6 x7 x9 x10 y0 0
def f_L_isNet_b101 (c_39 : St → (Nat → Int32) → Int32 → Int32 → Int32 → Int32 → Int32 → Int32 → Int32 → Int32 → Option (Int32 × St)) (V : St) (A : Nat → Int32) (x1 : Int32) (x2 : Int32) (x3 : Int32) (x4 : Int32) (x6 : Int32) (x7 : Int32) (x9 : Int32) (x10 : Int32) (y0 : Int32) (y1 : Int32) : Option (Int32 × St) :=
  if (x9 - x9 / 6 * 6) = 5 then
    f_L_isNet_b128 c_39 V A x1 x2 x3 x4 (y1 + y0) x6 x7 x9 x10 0
  else
    (f_L_torn V x1 x9 (x9 + 1)).bind fun q110 =>
    f_L_isNet_b128 c_39 V A x1 x2 x3 x4 (y1 + y0) x6 x7 x9 x10 q110
def f_L_isNet_b100 (c_39 : St → (Nat → Int32) → Int32 → Int32 → Int32 → Int32 → Int32 → Int32 → Int32 → Int32 → Option (Int32 × St)) (V : St) (A : Nat → Int32) (x1 : Int32) (x2 : Int32) (x3 : Int32) (x4 : Int32) (x6 : Int32) (x7 : Int32) (x9 : Int32) (x10 : Int32) (y0 : Int32) : Option (Int32 × St) :=
  f_L_isNet_b101 c_39 V A x1 x2 x3 x4 x6 x7 x9 x10 0 y0
def f_L_isNet_b75 (c_39 : St → (Nat → Int32) → Int32 → Int32 → Int32 → Int32 → Int32 → Int32 → Int32 → Int32 → Option (Int32 × St)) (V : St) (A : Nat → Int32) (x1 : Int32) (x2 : Int32) (x3 : Int32) (x5 : Int32) (x6 : Int32) (x7 : Int32) (x9 : Int32) (x10 : Int32) (y0 : Int32) (y1 : Int32) : Option (Int32 × St) :=
  if x10 = 0 then
    f_L_isNet_b100 c_39 V A x1 x2 x3 (y1 + y0) x6 x7 x9 x10 x5
  else
    if (4 - x3) ≤ (x9 / 6) then
      f_L_isNet_b100 c_39 V A x1 x2 x3 (y1 + y0) x6 x7 x9 x10 x5
    else
      f_L_isNet_b101 c_39 V A x1 x2 x3 (y1 + y0) x6 x7 x9 x10 1 x5
def f_L_isNet_b61 (c_39 : St → (Nat → Int32) → Int32 → Int32 → Int32 → Int32 → Int32 → Int32 → Int32 → Int32 → Option (Int32 × St)) (V : St) (A : Nat → Int32) (x1 : Int32) (x2 : Int32) (x3 : Int32) (x4 : Int32) (x5 : Int32) (x6 : Int32) (x7 : Int32) (x9 : Int32) (y0 : Int32) : Option (Int32 × St) :=
  if y0 = 0 then
    f_L_isNet_b75 c_39 V A x1 x2 x3 x5 x6 x7 x9 y0 0 x4
  else
    f_L_isNet_b75 c_39 V A x1 x2 x3 x5 x6 x7 x9 y0 1 x4
def f_L_isNet_b39 : Nat → St → (Nat → Int32) → Int32 → Int32 → Int32 → Int32 → Int32 → Int32 → Int32 → Int32 → Option (Int32 × St)
  | 0, _, _, _, _, _, _, _, _, _, _ => none
  | n + 1, V, A, x1, x2, x3, x4, x5, x6, x7, x9 =>
    if 24 ≤ x9 then
      f_L_isNet_b214 25 V A x1 x2 x3 x4 x5 x6 x7 0 0 0
    else
      (f_L_kindOf V x1 x9).bind fun q115 =>
      if q115 ≤ 0 then
        f_L_isNet_b61 (fun V A x1 x2 x3 x4 x5 x6 x7 x9 => f_L_isNet_b39 n V A x1 x2 x3 x4 x5 x6 x7 x9) V A x1 x2 x3 x4 x5 x6 x7 x9 0
      else
        f_L_isNet_b61 (fun V A x1 x2 x3 x4 x5 x6 x7 x9 => f_L_isNet_b39 n V A x1 x2 x3 x4 x5 x6 x7 x9) V A x1 x2 x3 x4 x5 x6 x7 x9 1
def f_L_isNet (V : St) (x1 : Int32) (x2 : Int32) : Option (Int32 × St) :=
  (f_L_account V 7).bind fun q117 =>
  (f_L_netOf V x1 3).bind fun q118 =>
  f_L_isNet_b39 25 V (fun _ => 0) x1 x2 (imin 4 (q117 + q118)) 0 0 0 0 0
set_option maxHeartbeats 8000000 in
set_option maxRecDepth 100000 in
theorem c_L_isNet (l : Launch) (hfl : l.stackTraces = false) (G : LG) (b0 : Nat) (V : St) (x1 : Int32) (x2 : Int32) (res : Int32 × St) (hr : f_L_isNet V x1 x2 = some res) : Met l yL_isNet (wy yL_isNet cL_isNet 18 (some .boolean)) (rmc 8 391) (va_Pc [.ref (b0 + 0), .int x1, .int x2] (Iv G b0 V)) (QI G b0 res.1 res.2) 391 (6 * 391) (Ab b0) := by
  refine mk_c (by decide +kernel) (Nat.le_of_ble_eq_true rfl) ?_
  intro p e s m below meth c C hV hS ls hl
  obtain ⟨args, hargs⟩ : ∃ z, z = ([.ref (b0 + 0), .int x1, .int x2] : List Value).toArray := ⟨_, rfl⟩
  rw [← hargs] at C ⊢
  obtain ⟨hx, hb, hrt, hml, hown, hts, hlocks, hK, hSv⟩ := id C
  have hl : lv_has ls 18 [(0, .ref (b0 + 0)), (1, .int x1), (2, .int x2)] := hl
  have K_938 : ∀ (w : Nat) (V : St) (a9 : Nat) (hF : Fr G b0 a9) (A : Nat → Int32) (y0 : Int32) (y1 : Int32), w + 0 ≤ 391 → f_L_isNet_b938 V A y0 y1 = some res → ∀ (H : Heap) (locs : List Loc) (ls : Array Slot), Hd (xg G a9 (ai G 24 A)) b0 V H → va_S (Ab b0) s.heap H locs → lv_has ls 18 [] → W p l e (rmc 8 391) s m args below meth c H locs w (6 * w) (MQ below (QI G b0 res.1 res.2) args s 391 (6 * 391) (Ab b0)) (F0 m 938 ls [.int y0, .int y1]) := by
    intro w V a9 hF A y0 y1 hw hr H locs ls hV hS hl
    unfold f_L_isNet_b938 at hr
    refine lv_icmp_ne (tgt := 945) hx hb dL_isNet_938 (by decide) (fun b_1 => ?_) (fun b_1 => ?_)
    · have hr := ie b_1 hr
      refine lv_iconst (v := 0) hx hb dL_isNet_945 (by decide) ?_
      rw [← Option.some.inj hr]
      exact fin_zc (w := w) C hV.un hS (by omega) (by decide) rfl dL_isNet_946
    · have hr := it b_1 hr
      refine lv_iconst (v := 1) hx hb dL_isNet_941 (by decide) ?_
      refine lv_goto (tgt := 946) hx hb dL_isNet_942 (by decide) ?_
      rw [← Option.some.inj hr]
      exact fin_zc (w := w) C hV.un hS (by omega) (by decide) rfl dL_isNet_946
  have K_895 : ∀ (w : Nat) (V : St) (a9 : Nat) (hF : Fr G b0 a9) (A : Nat → Int32) (x1 : Int32) (x2 : Int32) (x3 : Int32) (x13 : Int32) (x16 : Int32) (y0 : Int32), w + 1 ≤ 391 → f_L_isNet_b895 V A x1 x2 x3 x13 x16 y0 = some res → ∀ (H : Heap) (locs : List Loc) (ls : Array Slot), Hd (xg G a9 (ai G 24 A)) b0 V H → va_S (Ab b0) s.heap H locs → lv_has ls 18 [(0, .ref (b0 + 0)), (1, .int x1), (2, .int x2), (3, .int x3), (13, .int x13), (16, .int x16)] → W p l e (rmc 8 391) s m args below meth c H locs w (6 * w) (MQ below (QI G b0 res.1 res.2) args s 391 (6 * 391) (Ab b0)) (F0 m 895 ls [.int y0]) := by
    intro w V a9 hF A x1 x2 x3 x13 x16 y0 hw hr H locs ls hV hS hl
    unfold f_L_isNet_b895 at hr
    refine lv_istore (lv' := [(17, .int y0), (0, .ref (b0 + 0)), (1, .int x1), (2, .int x2), (3, .int x3), (13, .int x13), (16, .int x16)]) hx hb dL_isNet_895 hl (by decide) rfl (fun ls hl => ?_)
    refine lv_iload hx hb dL_isNet_897 (lv_at hl 5 rfl) ?_
    refine lv_if_eq (tgt := 945) hx hb dL_isNet_899 (by decide) (fun b_2 => ?_) (fun b_2 => ?_)
    · have hr := it b_2 hr
      refine lv_iconst (v := 0) hx hb dL_isNet_945 (by decide) ?_
      rw [← Option.some.inj hr]
      exact fin_zc (w := w) C hV.un hS (by omega) (by decide) rfl dL_isNet_946
    · have hr := ie b_2 hr
      refine lv_iload hx hb dL_isNet_902 (lv_at hl 6 rfl) ?_
      refine lv_if_eq (tgt := 945) hx hb dL_isNet_904 (by decide) (fun b_3 => ?_) (fun b_3 => ?_)
      · have hr := it b_3 hr
        refine lv_iconst (v := 0) hx hb dL_isNet_945 (by decide) ?_
        rw [← Option.some.inj hr]
        exact fin_zc (w := w) C hV.un hS (by omega) (by decide) rfl dL_isNet_946
      · have hr := ie b_3 hr
        refine lv_iload hx hb dL_isNet_907 (lv_at hl 0 rfl) ?_
        refine lv_if_eq (tgt := 945) hx hb dL_isNet_909 (by decide) (fun b_4 => ?_) (fun b_4 => ?_)
        · have hr := it b_4 hr
          refine lv_iconst (v := 0) hx hb dL_isNet_945 (by decide) ?_
          rw [← Option.some.inj hr]
          exact fin_zc (w := w) C hV.un hS (by omega) (by decide) rfl dL_isNet_946
        · have hr := ie b_4 hr
          refine lv_aload_n hx hb dL_isNet_912 rfl (lv_at hl 1 rfl) ?_
          refine lv_iload_n hx hb dL_isNet_913 rfl (lv_at hl 2 rfl) ?_
          refine lv_iload_n hx hb dL_isNet_914 rfl (lv_at hl 3 rfl) ?_
          refine lv_bipush (v := 6) hx hb dL_isNet_915 (by decide) ?_
          refine lv_idiv hx hb dL_isNet_917 (by decide) ?_
          obtain ⟨q5, e5, hr⟩ := ob hr
          refine cal_ic (run_HC (As := [.ref (b0 + 0), .int x1, .int (x2 / 6)]) (rest := []) C.x hV hS (c_L_line l hfl (xg G a9 (ai G 24 A)) b0 V x1 (x2 / 6) q5 e5) q_1423 q_1424 q_92 q_1425 dk_L_line (rmc_ok (by decide) (by decide)) hl.1 rfl (Nat.le_of_ble_eq_true rfl) dL_isNet_918 (rmc_cs (by omega))) hS (fun H locs hV hS => ?_)
          refine lv_iload_n hx hb dL_isNet_921 rfl (lv_at hl 3 rfl) ?_
          refine lv_bipush (v := 6) hx hb dL_isNet_922 (by decide) ?_
          refine lv_idiv hx hb dL_isNet_924 (by decide) ?_
          refine lv_iconst (v := 4) hx hb dL_isNet_925 (by decide) ?_
          refine lv_iload_n hx hb dL_isNet_926 rfl (lv_at hl 4 rfl) ?_
          refine lv_isub hx hb dL_isNet_927 ?_
          refine lv_icmp_ge (tgt := 936) hx hb dL_isNet_928 (by decide) (fun b_6 => ?_) (fun b_6 => ?_)
          · have hr := it b_6 hr
            refine lv_bipush (v := 12) hx hb dL_isNet_936 (by decide) ?_
            exact K_938 (w + 1) _ _ hF _ 12 q5.1 (by omega) hr _ _ ls hV hS (lv_sub hl [] rfl)
          · have hr := ie b_6 hr
            refine lv_bipush (v := 11) hx hb dL_isNet_931 (by decide) ?_
            refine lv_goto (tgt := 938) hx hb dL_isNet_933 (by decide) ?_
            exact K_938 (w + 1) _ _ hF _ 11 q5.1 (by omega) hr _ _ ls hV hS (lv_sub hl [] rfl)
  have K_894 : ∀ (w : Nat) (V : St) (a9 : Nat) (hF : Fr G b0 a9) (A : Nat → Int32) (x1 : Int32) (x2 : Int32) (x3 : Int32) (x13 : Int32) (x16 : Int32), w + 1 ≤ 391 → f_L_isNet_b894 V A x1 x2 x3 x13 x16 = some res → ∀ (H : Heap) (locs : List Loc) (ls : Array Slot), Hd (xg G a9 (ai G 24 A)) b0 V H → va_S (Ab b0) s.heap H locs → lv_has ls 18 [(0, .ref (b0 + 0)), (1, .int x1), (2, .int x2), (3, .int x3), (13, .int x13), (16, .int x16)] → W p l e (rmc 8 391) s m args below meth c H locs w (6 * w) (MQ below (QI G b0 res.1 res.2) args s 391 (6 * 391) (Ab b0)) (F0 m 894 ls []) := by
    intro w V a9 hF A x1 x2 x3 x13 x16 hw hr H locs ls hV hS hl
    unfold f_L_isNet_b894 at hr
    refine lv_iconst (v := 0) hx hb dL_isNet_894 (by decide) ?_
    exact K_895 w _ _ hF _ x1 x2 x3 x13 x16 0 (by omega) hr _ _ ls hV hS (lv_sub hl [0, 1, 2, 3, 4, 5] rfl)
  have K_790 : ∀ (w : Nat) (V : St) (a9 : Nat) (hF : Fr G b0 a9) (A : Nat → Int32) (x1 : Int32) (x2 : Int32) (x3 : Int32) (x4 : Int32) (x5 : Int32) (x6 : Int32) (x7 : Int32) (x9 : Int32) (x10 : Int32) (x13 : Int32) (y0 : Int32), w + 10 ≤ 391 → f_L_isNet_b790 V A x1 x2 x3 x4 x5 x6 x7 x9 x10 x13 y0 = some res → ∀ (H : Heap) (locs : List Loc) (ls : Array Slot), Hd (xg G a9 (ai G 24 A)) b0 V H → va_S (Ab b0) s.heap H locs → lv_has ls 18 [(0, .ref (b0 + 0)), (1, .int x1), (2, .int x2), (3, .int x3), (4, .int x4), (5, .int x5), (6, .int x6), (7, .int x7), (9, .int x9), (10, .int x10), (13, .int x13)] → W p l e (rmc 8 391) s m args below meth c H locs w (6 * w) (MQ below (QI G b0 res.1 res.2) args s 391 (6 * 391) (Ab b0)) (F0 m 790 ls [.int y0]) := by
    intro w V a9 hF A x1 x2 x3 x4 x5 x6 x7 x9 x10 x13 y0 hw hr H locs ls hV hS hl
    unfold f_L_isNet_b790 at hr
    refine lv_istore (lv' := [(16, .int y0), (0, .ref (b0 + 0)), (1, .int x1), (2, .int x2), (3, .int x3), (4, .int x4), (5, .int x5), (6, .int x6), (7, .int x7), (9, .int x9), (10, .int x10), (13, .int x13)]) hx hb dL_isNet_790 hl (by decide) rfl (fun ls hl => ?_)
    refine lv_aload_n hx hb dL_isNet_792 rfl (lv_at hl 1 rfl) ?_
    refine lv_iload_n hx hb dL_isNet_793 rfl (lv_at hl 2 rfl) ?_
    refine lv_iconst (v := 0) hx hb dL_isNet_794 (by decide) ?_
    obtain ⟨q7, e7, hr⟩ := ob hr
    refine cal_ic (run_HC (As := [.ref (b0 + 0), .int x1, .int 0]) (rest := []) C.x hV hS (c_L_netOf l hfl (xg G a9 (ai G 24 A)) b0 V x1 0 q7 e7) q_1239 q_1240 q_92 q_1241 dk_L_netOf (rmc_ok (by decide) (by decide)) hl.1 rfl (Nat.le_of_ble_eq_true rfl) dL_isNet_795 (rmc_cs (by omega))) hS (fun H locs hV hS => ?_)
    refine lv_iload hx hb dL_isNet_798 (lv_at hl 5 rfl) ?_
    refine lv_icmp_ne (tgt := 894) hx hb dL_isNet_800 (by decide) (fun b_8 => ?_) (fun b_8 => ?_)
    · have hr := ie b_8 hr
      exact K_894 (w + 1) _ _ hF _ x1 x2 x3 x13 y0 (by omega) hr _ _ ls hV hS (lv_sub hl [1, 2, 3, 4, 11, 0] rfl)
    · have hr := it b_8 hr
      refine lv_aload_n hx hb dL_isNet_803 rfl (lv_at hl 1 rfl) ?_
      refine lv_iload_n hx hb dL_isNet_804 rfl (lv_at hl 2 rfl) ?_
      refine lv_iconst (v := 1) hx hb dL_isNet_805 (by decide) ?_
      obtain ⟨q9, e9, hr⟩ := ob hr
      refine cal_ic (run_HC (As := [.ref (b0 + 0), .int x1, .int 1]) (rest := []) C.x hV hS (c_L_netOf l hfl (xg G a9 (ai G 24 A)) b0 V x1 1 q9 e9) q_1239 q_1240 q_92 q_1241 dk_L_netOf (rmc_ok (by decide) (by decide)) hl.1 rfl (Nat.le_of_ble_eq_true rfl) dL_isNet_806 (rmc_cs (by omega))) hS (fun H locs hV hS => ?_)
      refine lv_iload hx hb dL_isNet_809 (lv_at hl 6 rfl) ?_
      refine lv_icmp_ne (tgt := 894) hx hb dL_isNet_811 (by decide) (fun b_10 => ?_) (fun b_10 => ?_)
      · have hr := ie b_10 hr
        exact K_894 (w + 1 + 1) _ _ hF _ x1 x2 x3 x13 y0 (by omega) hr _ _ ls hV hS (lv_sub hl [1, 2, 3, 4, 11, 0] rfl)
      · have hr := it b_10 hr
        refine lv_aload_n hx hb dL_isNet_814 rfl (lv_at hl 1 rfl) ?_
        refine lv_iload_n hx hb dL_isNet_815 rfl (lv_at hl 2 rfl) ?_
        refine lv_iconst (v := 2) hx hb dL_isNet_816 (by decide) ?_
        obtain ⟨q11, e11, hr⟩ := ob hr
        refine cal_ic (run_HC (As := [.ref (b0 + 0), .int x1, .int 2]) (rest := []) C.x hV hS (c_L_netOf l hfl (xg G a9 (ai G 24 A)) b0 V x1 2 q11 e11) q_1239 q_1240 q_92 q_1241 dk_L_netOf (rmc_ok (by decide) (by decide)) hl.1 rfl (Nat.le_of_ble_eq_true rfl) dL_isNet_817 (rmc_cs (by omega))) hS (fun H locs hV hS => ?_)
        refine lv_iload hx hb dL_isNet_820 (lv_at hl 7 rfl) ?_
        refine lv_icmp_ne (tgt := 894) hx hb dL_isNet_822 (by decide) (fun b_12 => ?_) (fun b_12 => ?_)
        · have hr := ie b_12 hr
          exact K_894 (w + 1 + 1 + 1) _ _ hF _ x1 x2 x3 x13 y0 (by omega) hr _ _ ls hV hS (lv_sub hl [1, 2, 3, 4, 11, 0] rfl)
        · have hr := it b_12 hr
          refine lv_aload_n hx hb dL_isNet_825 rfl (lv_at hl 1 rfl) ?_
          refine lv_iload_n hx hb dL_isNet_826 rfl (lv_at hl 2 rfl) ?_
          refine lv_iconst (v := 4) hx hb dL_isNet_827 (by decide) ?_
          obtain ⟨q13, e13, hr⟩ := ob hr
          refine cal_ic (run_HC (As := [.ref (b0 + 0), .int x1, .int 4]) (rest := []) C.x hV hS (c_L_netOf l hfl (xg G a9 (ai G 24 A)) b0 V x1 4 q13 e13) q_1239 q_1240 q_92 q_1241 dk_L_netOf (rmc_ok (by decide) (by decide)) hl.1 rfl (Nat.le_of_ble_eq_true rfl) dL_isNet_828 (rmc_cs (by omega))) hS (fun H locs hV hS => ?_)
          refine lv_iload_n hx hb dL_isNet_831 rfl (lv_at hl 4 rfl) ?_
          refine lv_icmp_ne (tgt := 894) hx hb dL_isNet_832 (by decide) (fun b_14 => ?_) (fun b_14 => ?_)
          · have hr := ie b_14 hr
            exact K_894 (w + 1 + 1 + 1 + 1) _ _ hF _ x1 x2 x3 x13 y0 (by omega) hr _ _ ls hV hS (lv_sub hl [1, 2, 3, 4, 11, 0] rfl)
          · have hr := it b_14 hr
            refine lv_aload_n hx hb dL_isNet_835 rfl (lv_at hl 1 rfl) ?_
            refine lv_iload_n hx hb dL_isNet_836 rfl (lv_at hl 2 rfl) ?_
            refine lv_iconst (v := 5) hx hb dL_isNet_837 (by decide) ?_
            obtain ⟨q15, e15, hr⟩ := ob hr
            refine cal_ic (run_HC (As := [.ref (b0 + 0), .int x1, .int 5]) (rest := []) C.x hV hS (c_L_netOf l hfl (xg G a9 (ai G 24 A)) b0 V x1 5 q15 e15) q_1239 q_1240 q_92 q_1241 dk_L_netOf (rmc_ok (by decide) (by decide)) hl.1 rfl (Nat.le_of_ble_eq_true rfl) dL_isNet_838 (rmc_cs (by omega))) hS (fun H locs hV hS => ?_)
            refine lv_iload hx hb dL_isNet_841 (lv_at hl 10 rfl) ?_
            refine lv_icmp_ne (tgt := 894) hx hb dL_isNet_843 (by decide) (fun b_16 => ?_) (fun b_16 => ?_)
            · have hr := ie b_16 hr
              exact K_894 (w + 1 + 1 + 1 + 1 + 1) _ _ hF _ x1 x2 x3 x13 y0 (by omega) hr _ _ ls hV hS (lv_sub hl [1, 2, 3, 4, 11, 0] rfl)
            · have hr := it b_16 hr
              refine lv_aload_n hx hb dL_isNet_846 rfl (lv_at hl 1 rfl) ?_
              refine lv_iload_n hx hb dL_isNet_847 rfl (lv_at hl 2 rfl) ?_
              refine lv_bipush (v := 6) hx hb dL_isNet_848 (by decide) ?_
              obtain ⟨q17, e17, hr⟩ := ob hr
              refine cal_ic (run_HC (As := [.ref (b0 + 0), .int x1, .int 6]) (rest := []) C.x hV hS (c_L_netOf l hfl (xg G a9 (ai G 24 A)) b0 V x1 6 q17 e17) q_1239 q_1240 q_92 q_1241 dk_L_netOf (rmc_ok (by decide) (by decide)) hl.1 rfl (Nat.le_of_ble_eq_true rfl) dL_isNet_850 (rmc_cs (by omega))) hS (fun H locs hV hS => ?_)
              refine lv_iload hx hb dL_isNet_853 (lv_at hl 8 rfl) ?_
              refine lv_icmp_ne (tgt := 894) hx hb dL_isNet_855 (by decide) (fun b_18 => ?_) (fun b_18 => ?_)
              · have hr := ie b_18 hr
                exact K_894 (w + 1 + 1 + 1 + 1 + 1 + 1) _ _ hF _ x1 x2 x3 x13 y0 (by omega) hr _ _ ls hV hS (lv_sub hl [1, 2, 3, 4, 11, 0] rfl)
              · have hr := it b_18 hr
                refine lv_aload_n hx hb dL_isNet_858 rfl (lv_at hl 1 rfl) ?_
                refine lv_iload_n hx hb dL_isNet_859 rfl (lv_at hl 2 rfl) ?_
                obtain ⟨q19, e19, hr⟩ := ob hr
                refine cal_ic (run_HC (As := [.ref (b0 + 0), .int x1]) (rest := []) C.x hV hS (c_L_chapters l hfl (xg G a9 (ai G 24 A)) b0 V x1 q19 e19) q_380 q_381 q_92 q_382 dk_L_chapters (rmc_ok (by decide) (by decide)) hl.1 rfl (Nat.le_of_ble_eq_true rfl) dL_isNet_860 (rmc_cs (by omega))) hS (fun H locs hV hS => ?_)
                refine lv_iload hx hb dL_isNet_863 (lv_at hl 9 rfl) ?_
                refine lv_icmp_ne (tgt := 894) hx hb dL_isNet_865 (by decide) (fun b_20 => ?_) (fun b_20 => ?_)
                · have hr := ie b_20 hr
                  exact K_894 (w + 1 + 1 + 1 + 1 + 1 + 1 + 1) _ _ hF _ x1 x2 x3 x13 y0 (by omega) hr _ _ ls hV hS (lv_sub hl [1, 2, 3, 4, 11, 0] rfl)
                · have hr := it b_20 hr
                  refine lv_aload_n hx hb dL_isNet_868 rfl (lv_at hl 1 rfl) ?_
                  refine lv_iload_n hx hb dL_isNet_869 rfl (lv_at hl 2 rfl) ?_
                  obtain ⟨q21, e21, hr⟩ := ob hr
                  refine cal_ic (run_HC (As := [.ref (b0 + 0), .int x1]) (rest := []) C.x hV hS (c_L_chaptersAgain l hfl (xg G a9 (ai G 24 A)) b0 V x1 q21 e21) q_1398 q_1399 q_92 q_1400 dk_L_chaptersAgain (rmc_ok (by decide) (by decide)) hl.1 rfl (Nat.le_of_ble_eq_true rfl) dL_isNet_870 (rmc_cs (by omega))) hS (fun H locs hV hS => ?_)
                  refine lv_iload hx hb dL_isNet_873 (lv_at hl 9 rfl) ?_
                  refine lv_icmp_ne (tgt := 894) hx hb dL_isNet_875 (by decide) (fun b_22 => ?_) (fun b_22 => ?_)
                  · have hr := ie b_22 hr
                    exact K_894 (w + 1 + 1 + 1 + 1 + 1 + 1 + 1 + 1) _ _ hF _ x1 x2 x3 x13 y0 (by omega) hr _ _ ls hV hS (lv_sub hl [1, 2, 3, 4, 11, 0] rfl)
                  · have hr := it b_22 hr
                    refine lv_aload_n hx hb dL_isNet_878 rfl (lv_at hl 1 rfl) ?_
                    refine lv_iload_n hx hb dL_isNet_879 rfl (lv_at hl 2 rfl) ?_
                    refine lv_iload hx hb dL_isNet_880 (lv_at hl 9 rfl) ?_
                    obtain ⟨q23, e23, hr⟩ := ob hr
                    refine cal_ic (run_HC (As := [.ref (b0 + 0), .int x1, .int x9]) (rest := []) C.x hV hS (c_L_ranked l hfl (xg G a9 (ai G 24 A)) b0 q21.2 x1 x9 q23 e23) q_1366 q_1367 q_92 q_1368 dk_L_ranked (rmc_ok (by decide) (by decide)) hl.1 rfl (Nat.le_of_ble_eq_true rfl) dL_isNet_882 (rmc_cs (by omega))) hS (fun H locs hV hS => ?_)
                    refine lv_bipush (v := (-75)) hx hb dL_isNet_885 (by decide) ?_
                    refine lv_icmp_ne (tgt := 894) hx hb dL_isNet_887 (by decide) (fun b_24 => ?_) (fun b_24 => ?_)
                    · have hr := ie b_24 hr
                      exact K_894 (w + 1 + 1 + 1 + 1 + 1 + 1 + 1 + 1 + 1) _ _ hF _ x1 x2 x3 x13 y0 (by omega) hr _ _ ls hV hS (lv_sub hl [1, 2, 3, 4, 11, 0] rfl)
                    · have hr := it b_24 hr
                      refine lv_iconst (v := 1) hx hb dL_isNet_890 (by decide) ?_
                      refine lv_goto (tgt := 895) hx hb dL_isNet_891 (by decide) ?_
                      exact K_895 (w + 1 + 1 + 1 + 1 + 1 + 1 + 1 + 1 + 1) _ _ hF _ x1 x2 x3 x13 y0 1 (by omega) hr _ _ ls hV hS (lv_sub hl [1, 2, 3, 4, 11, 0] rfl)
  have K_789 : ∀ (w : Nat) (V : St) (a9 : Nat) (hF : Fr G b0 a9) (A : Nat → Int32) (x1 : Int32) (x2 : Int32) (x3 : Int32) (x4 : Int32) (x5 : Int32) (x6 : Int32) (x7 : Int32) (x9 : Int32) (x10 : Int32) (x13 : Int32), w + 10 ≤ 391 → f_L_isNet_b789 V A x1 x2 x3 x4 x5 x6 x7 x9 x10 x13 = some res → ∀ (H : Heap) (locs : List Loc) (ls : Array Slot), Hd (xg G a9 (ai G 24 A)) b0 V H → va_S (Ab b0) s.heap H locs → lv_has ls 18 [(0, .ref (b0 + 0)), (1, .int x1), (2, .int x2), (3, .int x3), (4, .int x4), (5, .int x5), (6, .int x6), (7, .int x7), (9, .int x9), (10, .int x10), (13, .int x13)] → W p l e (rmc 8 391) s m args below meth c H locs w (6 * w) (MQ below (QI G b0 res.1 res.2) args s 391 (6 * 391) (Ab b0)) (F0 m 789 ls []) := by
    intro w V a9 hF A x1 x2 x3 x4 x5 x6 x7 x9 x10 x13 hw hr H locs ls hV hS hl
    unfold f_L_isNet_b789 at hr
    refine lv_iconst (v := 0) hx hb dL_isNet_789 (by decide) ?_
    exact K_790 w _ _ hF _ x1 x2 x3 x4 x5 x6 x7 x9 x10 x13 0 (by omega) hr _ _ ls hV hS (lv_sub hl [0, 1, 2, 3, 4, 5, 6, 7, 8, 9, 10] rfl)
  have K_699 : ∀ (X_634 : Nat) (c_634 : St → (Nat → Int32) → Int32 → Int32 → Int32 → Int32 → Int32 → Int32 → Int32 → Int32 → Int32 → Int32 → Int32 → Option (Int32 × St)) (hc_634 : ∀ (w : Nat) (V : St) (a9 : Nat) (hF : Fr G b0 a9) (A : Nat → Int32) (x1 : Int32) (x2 : Int32) (x3 : Int32) (x4 : Int32) (x5 : Int32) (x6 : Int32) (x7 : Int32) (x9 : Int32) (x10 : Int32) (x13 : Int32) (x14 : Int32), w + X_634 ≤ 391 → c_634 V A x1 x2 x3 x4 x5 x6 x7 x9 x10 x13 x14 = some res → ∀ (H : Heap) (locs : List Loc) (ls : Array Slot), Hd (xg G a9 (ai G 24 A)) b0 V H → va_S (Ab b0) s.heap H locs → lv_has ls 18 [(0, .ref (b0 + 0)), (1, .int x1), (2, .int x2), (3, .int x3), (4, .int x4), (5, .int x5), (6, .int x6), (7, .int x7), (8, .ref a9), (9, .int x9), (10, .int x10), (13, .int x13), (14, .int x14)] → W p l e (rmc 8 391) s m args below meth c H locs w (6 * w) (MQ below (QI G b0 res.1 res.2) args s 391 (6 * 391) (Ab b0)) (F0 m 634 ls [])) (w : Nat) (V : St) (a9 : Nat) (hF : Fr G b0 a9) (A : Nat → Int32) (x1 : Int32) (x2 : Int32) (x3 : Int32) (x4 : Int32) (x5 : Int32) (x6 : Int32) (x7 : Int32) (x9 : Int32) (x10 : Int32) (x13 : Int32) (x14 : Int32), w + 0 + X_634 ≤ 391 → f_L_isNet_b699 c_634 V A x1 x2 x3 x4 x5 x6 x7 x9 x10 x13 x14 = some res → ∀ (H : Heap) (locs : List Loc) (ls : Array Slot), Hd (xg G a9 (ai G 24 A)) b0 V H → va_S (Ab b0) s.heap H locs → lv_has ls 18 [(0, .ref (b0 + 0)), (1, .int x1), (2, .int x2), (3, .int x3), (4, .int x4), (5, .int x5), (6, .int x6), (7, .int x7), (8, .ref a9), (9, .int x9), (10, .int x10), (13, .int x13), (14, .int x14)] → W p l e (rmc 8 391) s m args below meth c H locs w (6 * w) (MQ below (QI G b0 res.1 res.2) args s 391 (6 * 391) (Ab b0)) (F0 m 699 ls []) := by
    intro X_634 c_634 hc_634 w V a9 hF A x1 x2 x3 x4 x5 x6 x7 x9 x10 x13 x14 hw hr H locs ls hV hS hl
    unfold f_L_isNet_b699 at hr
    refine lv_iinc (v := x14 + 1) (lv' := [(14, .int (x14 + 1)), (0, .ref (b0 + 0)), (1, .int x1), (2, .int x2), (3, .int x3), (4, .int x4), (5, .int x5), (6, .int x6), (7, .int x7), (8, .ref a9), (9, .int x9), (10, .int x10), (13, .int x13)]) hx hb dL_isNet_699 hl (k := 12) rfl rfl (by decide) rfl (fun ls hl => ?_)
    refine lv_goto (tgt := 634) hx hb dL_isNet_702 (by decide) ?_
    exact hc_634 w _ _ hF _ x1 x2 x3 x4 x5 x6 x7 x9 x10 x13 (x14 + 1) (by omega) hr _ _ ls hV hS (lv_sub hl [1, 2, 3, 4, 5, 6, 7, 8, 9, 10, 11, 12, 0] rfl)
  have K_634 : ∀ (n : Nat) (w : Nat) (V : St) (a9 : Nat) (hF : Fr G b0 a9) (A : Nat → Int32) (x1 : Int32) (x2 : Int32) (x3 : Int32) (x4 : Int32) (x5 : Int32) (x6 : Int32) (x7 : Int32) (x9 : Int32) (x10 : Int32) (x13 : Int32) (x14 : Int32), w + n * 4 + 10 ≤ 391 → f_L_isNet_b634 n V A x1 x2 x3 x4 x5 x6 x7 x9 x10 x13 x14 = some res → ∀ (H : Heap) (locs : List Loc) (ls : Array Slot), Hd (xg G a9 (ai G 24 A)) b0 V H → va_S (Ab b0) s.heap H locs → lv_has ls 18 [(0, .ref (b0 + 0)), (1, .int x1), (2, .int x2), (3, .int x3), (4, .int x4), (5, .int x5), (6, .int x6), (7, .int x7), (8, .ref a9), (9, .int x9), (10, .int x10), (13, .int x13), (14, .int x14)] → W p l e (rmc 8 391) s m args below meth c H locs w (6 * w) (MQ below (QI G b0 res.1 res.2) args s 391 (6 * 391) (Ab b0)) (F0 m 634 ls []) := by
    intro  n
    induction n with
    | zero =>
      intro w V a9 hF A x1 x2 x3 x4 x5 x6 x7 x9 x10 x13 x14 hw hr
      rw [f_L_isNet_b634] at hr
      cases hr
    | succ n ih =>
      intro w V a9 hF A x1 x2 x3 x4 x5 x6 x7 x9 x10 x13 x14 hw hr H locs ls hV hS hl
      rw [f_L_isNet_b634] at hr
      refine lv_iload hx hb dL_isNet_634 (lv_at hl 12 rfl) ?_
      refine lv_iload hx hb dL_isNet_636 (lv_at hl 9 rfl) ?_
      refine lv_icmp_ge (tgt := 705) hx hb dL_isNet_638 (by decide) (fun b_25 => ?_) (fun b_25 => ?_)
      · have hr := it b_25 hr
        refine lv_aload_n hx hb dL_isNet_705 rfl (lv_at hl 0 rfl) ?_
        refine lv_iload_n hx hb dL_isNet_706 rfl (lv_at hl 1 rfl) ?_
        refine lv_iconst (v := 0) hx hb dL_isNet_707 (by decide) ?_
        obtain ⟨q26, e26, hr⟩ := ob hr
        refine cal_ic (run_HC (As := [.ref (b0 + 0), .int x1, .int 0]) (rest := []) C.x hV hS (c_L_bestMend l hfl (xg G a9 (ai G 24 A)) b0 V x1 0 q26 e26) q_1379 q_1380 q_92 q_1381 dk_L_bestMend (rmc_ok (by decide) (by decide)) hl.1 rfl (Nat.le_of_ble_eq_true rfl) dL_isNet_708 (rmc_cs (by omega))) hS (fun H locs hV hS => ?_)
        refine lv_istore (lv' := [(14, .int q26), (0, .ref (b0 + 0)), (1, .int x1), (2, .int x2), (3, .int x3), (4, .int x4), (5, .int x5), (6, .int x6), (7, .int x7), (8, .ref a9), (9, .int x9), (10, .int x10), (13, .int x13)]) hx hb dL_isNet_711 hl (by decide) rfl (fun ls hl => ?_)
        refine lv_aload_n hx hb dL_isNet_713 rfl (lv_at hl 1 rfl) ?_
        refine lv_iload_n hx hb dL_isNet_714 rfl (lv_at hl 2 rfl) ?_
        refine lv_iconst (v := 1) hx hb dL_isNet_715 (by decide) ?_
        obtain ⟨q27, e27, hr⟩ := ob hr
        refine cal_ic (run_HC (As := [.ref (b0 + 0), .int x1, .int 1]) (rest := []) C.x hV hS (c_L_bestMend l hfl (xg G a9 (ai G 24 A)) b0 V x1 1 q27 e27) q_1379 q_1380 q_92 q_1381 dk_L_bestMend (rmc_ok (by decide) (by decide)) hl.1 rfl (Nat.le_of_ble_eq_true rfl) dL_isNet_716 (rmc_cs (by omega))) hS (fun H locs hV hS => ?_)
        refine lv_istore (lv' := [(15, .int q27), (14, .int q26), (0, .ref (b0 + 0)), (1, .int x1), (2, .int x2), (3, .int x3), (4, .int x4), (5, .int x5), (6, .int x6), (7, .int x7), (8, .ref a9), (9, .int x9), (10, .int x10), (13, .int x13)]) hx hb dL_isNet_719 hl (by decide) rfl (fun ls hl => ?_)
        refine lv_iload hx hb dL_isNet_721 (lv_at hl 1 rfl) ?_
        refine lv_bipush (v := (-75)) hx hb dL_isNet_723 (by decide) ?_
        refine lv_icmp_ne (tgt := 743) hx hb dL_isNet_725 (by decide) (fun b_28 => ?_) (fun b_28 => ?_)
        · have hr := ie b_28 hr
          refine lv_aload_n hx hb dL_isNet_743 rfl (lv_at hl 2 rfl) ?_
          refine lv_iload_n hx hb dL_isNet_744 rfl (lv_at hl 3 rfl) ?_
          refine lv_iload hx hb dL_isNet_745 (lv_at hl 1 rfl) ?_
          refine lv_iload hx hb dL_isNet_747 (lv_at hl 0 rfl) ?_
          obtain ⟨q29, e29, hr⟩ := ob hr
          refine cal_ic (run_HC (As := [.ref (b0 + 0), .int x1, .int q26, .int q27]) (rest := []) C.x hV hS (c_L_torn l hfl (xg G a9 (ai G 24 A)) b0 V x1 q26 q27 q29 e29) q_1265 q_1266 q_92 q_1267 dk_L_torn (rmc_ok (by decide) (by decide)) hl.1 rfl (Nat.le_of_ble_eq_true rfl) dL_isNet_749 (rmc_cs (by omega))) hS (fun H locs hV hS => ?_)
          refine lv_iconst (v := 1) hx hb dL_isNet_752 (by decide) ?_
          refine lv_icmp_ne (tgt := 789) hx hb dL_isNet_753 (by decide) (fun b_30 => ?_) (fun b_30 => ?_)
          · have hr := ie b_30 hr
            exact K_789 (w + 1 + 1 + 1) _ _ hF _ x1 x2 x3 x4 x5 x6 x7 x9 x10 x13 (by omega) hr _ _ ls hV hS (lv_sub hl [2, 3, 4, 5, 6, 7, 8, 9, 11, 12, 13] rfl)
          · have hr := it b_30 hr
            refine lv_aload hx hb dL_isNet_756 (lv_at hl 10 rfl) ?_
            refine lv_iload hx hb dL_isNet_758 (lv_at hl 1 rfl) ?_
            obtain ⟨j31, e31, hr⟩ := ob hr
            refine x_iald C hV e31 dL_isNet_760 ?_
            refine lv_if_lt (tgt := 789) hx hb dL_isNet_761 (by decide) (fun b_32 => ?_) (fun b_32 => ?_)
            · have hr := it b_32 hr
              exact K_789 (w + 1 + 1 + 1) _ _ hF _ x1 x2 x3 x4 x5 x6 x7 x9 x10 x13 (by omega) hr _ _ ls hV hS (lv_sub hl [2, 3, 4, 5, 6, 7, 8, 9, 11, 12, 13] rfl)
            · have hr := ie b_32 hr
              refine lv_aload hx hb dL_isNet_764 (lv_at hl 10 rfl) ?_
              refine lv_iload hx hb dL_isNet_766 (lv_at hl 0 rfl) ?_
              obtain ⟨j33, e33, hr⟩ := ob hr
              refine x_iald C hV e33 dL_isNet_768 ?_
              refine lv_if_lt (tgt := 789) hx hb dL_isNet_769 (by decide) (fun b_34 => ?_) (fun b_34 => ?_)
              · have hr := it b_34 hr
                exact K_789 (w + 1 + 1 + 1) _ _ hF _ x1 x2 x3 x4 x5 x6 x7 x9 x10 x13 (by omega) hr _ _ ls hV hS (lv_sub hl [2, 3, 4, 5, 6, 7, 8, 9, 11, 12, 13] rfl)
              · have hr := ie b_34 hr
                refine lv_aload hx hb dL_isNet_772 (lv_at hl 10 rfl) ?_
                refine lv_iload hx hb dL_isNet_774 (lv_at hl 1 rfl) ?_
                obtain ⟨j35, e35, hr⟩ := ob hr
                refine x_iald C hV e35 dL_isNet_776 ?_
                refine lv_aload hx hb dL_isNet_777 (lv_at hl 10 rfl) ?_
                refine lv_iload hx hb dL_isNet_779 (lv_at hl 0 rfl) ?_
                obtain ⟨j36, e36, hr⟩ := ob hr
                refine x_iald C hV e36 dL_isNet_781 ?_
                refine lv_icmp_eq (tgt := 789) hx hb dL_isNet_782 (by decide) (fun b_37 => ?_) (fun b_37 => ?_)
                · have hr := it b_37 hr
                  exact K_789 (w + 1 + 1 + 1) _ _ hF _ x1 x2 x3 x4 x5 x6 x7 x9 x10 x13 (by omega) hr _ _ ls hV hS (lv_sub hl [2, 3, 4, 5, 6, 7, 8, 9, 11, 12, 13] rfl)
                · have hr := ie b_37 hr
                  refine lv_iconst (v := 1) hx hb dL_isNet_785 (by decide) ?_
                  refine lv_goto (tgt := 790) hx hb dL_isNet_786 (by decide) ?_
                  exact K_790 (w + 1 + 1 + 1) _ _ hF _ x1 x2 x3 x4 x5 x6 x7 x9 x10 x13 1 (by omega) hr _ _ ls hV hS (lv_sub hl [2, 3, 4, 5, 6, 7, 8, 9, 11, 12, 13] rfl)
        · have hr := it b_28 hr
          refine lv_iload hx hb dL_isNet_728 (lv_at hl 0 rfl) ?_
          refine lv_bipush (v := (-75)) hx hb dL_isNet_730 (by decide) ?_
          refine lv_icmp_ne (tgt := 739) hx hb dL_isNet_732 (by decide) (fun b_38 => ?_) (fun b_38 => ?_)
          · have hr := ie b_38 hr
            refine lv_iconst (v := 0) hx hb dL_isNet_739 (by decide) ?_
            refine lv_goto (tgt := 790) hx hb dL_isNet_740 (by decide) ?_
            exact K_790 (w + 1 + 1) _ _ hF _ x1 x2 x3 x4 x5 x6 x7 x9 x10 x13 0 (by omega) hr _ _ ls hV hS (lv_sub hl [2, 3, 4, 5, 6, 7, 8, 9, 11, 12, 13] rfl)
          · have hr := it b_38 hr
            refine lv_iconst (v := 1) hx hb dL_isNet_735 (by decide) ?_
            refine lv_goto (tgt := 790) hx hb dL_isNet_736 (by decide) ?_
            exact K_790 (w + 1 + 1) _ _ hF _ x1 x2 x3 x4 x5 x6 x7 x9 x10 x13 1 (by omega) hr _ _ ls hV hS (lv_sub hl [2, 3, 4, 5, 6, 7, 8, 9, 11, 12, 13] rfl)
      · have hr := ie b_25 hr
        refine lv_aload_n hx hb dL_isNet_641 rfl (lv_at hl 0 rfl) ?_
        refine lv_iload_n hx hb dL_isNet_642 rfl (lv_at hl 1 rfl) ?_
        refine lv_iload hx hb dL_isNet_643 (lv_at hl 12 rfl) ?_
        refine lv_iconst (v := 1) hx hb dL_isNet_645 (by decide) ?_
        refine lv_isub hx hb dL_isNet_646 ?_
        obtain ⟨q39, e39, hr⟩ := ob hr
        refine cal_ic (run_HC (As := [.ref (b0 + 0), .int x1, .int (x14 - 1)]) (rest := []) C.x hV hS (c_L_ranked l hfl (xg G a9 (ai G 24 A)) b0 V x1 (x14 - 1) q39 e39) q_1366 q_1367 q_92 q_1368 dk_L_ranked (rmc_ok (by decide) (by decide)) hl.1 rfl (Nat.le_of_ble_eq_true rfl) dL_isNet_647 (rmc_cs (by omega))) hS (fun H locs hV hS => ?_)
        refine lv_istore (lv' := [(15, .int q39), (0, .ref (b0 + 0)), (1, .int x1), (2, .int x2), (3, .int x3), (4, .int x4), (5, .int x5), (6, .int x6), (7, .int x7), (8, .ref a9), (9, .int x9), (10, .int x10), (13, .int x13), (14, .int x14)]) hx hb dL_isNet_650 hl (by decide) rfl (fun ls hl => ?_)
        refine lv_aload_n hx hb dL_isNet_652 rfl (lv_at hl 1 rfl) ?_
        refine lv_iload_n hx hb dL_isNet_653 rfl (lv_at hl 2 rfl) ?_
        refine lv_iload hx hb dL_isNet_654 (lv_at hl 13 rfl) ?_
        obtain ⟨q40, e40, hr⟩ := ob hr
        refine cal_ic (run_HC (As := [.ref (b0 + 0), .int x1, .int x14]) (rest := []) C.x hV hS (c_L_ranked l hfl (xg G a9 (ai G 24 A)) b0 V x1 x14 q40 e40) q_1366 q_1367 q_92 q_1368 dk_L_ranked (rmc_ok (by decide) (by decide)) hl.1 rfl (Nat.le_of_ble_eq_true rfl) dL_isNet_656 (rmc_cs (by omega))) hS (fun H locs hV hS => ?_)
        refine lv_istore (lv' := [(16, .int q40), (15, .int q39), (0, .ref (b0 + 0)), (1, .int x1), (2, .int x2), (3, .int x3), (4, .int x4), (5, .int x5), (6, .int x6), (7, .int x7), (8, .ref a9), (9, .int x9), (10, .int x10), (13, .int x13), (14, .int x14)]) hx hb dL_isNet_659 hl (by decide) rfl (fun ls hl => ?_)
        refine lv_aload_n hx hb dL_isNet_661 rfl (lv_at hl 2 rfl) ?_
        refine lv_iload_n hx hb dL_isNet_662 rfl (lv_at hl 3 rfl) ?_
        refine lv_iload hx hb dL_isNet_663 (lv_at hl 1 rfl) ?_
        refine lv_iconst (v := 1) hx hb dL_isNet_665 (by decide) ?_
        obtain ⟨q41, e41, hr⟩ := ob hr
        refine cal_ic (run_HC (As := [.ref (b0 + 0), .int x1, .int q39, .int 1]) (rest := []) C.x hV hS (c_L_chapterOf l hfl (xg G a9 (ai G 24 A)) b0 V x1 q39 1 q41 e41) q_1343 q_1344 q_92 q_1345 dk_L_chapterOf (rmc_ok (by decide) (by decide)) hl.1 rfl (Nat.le_of_ble_eq_true rfl) dL_isNet_666 (rmc_cs (by omega))) hS (fun H locs hV hS => ?_)
        refine lv_aload_n hx hb dL_isNet_669 rfl (lv_at hl 2 rfl) ?_
        refine lv_iload_n hx hb dL_isNet_670 rfl (lv_at hl 3 rfl) ?_
        refine lv_iload hx hb dL_isNet_671 (lv_at hl 0 rfl) ?_
        refine lv_iconst (v := 1) hx hb dL_isNet_673 (by decide) ?_
        obtain ⟨q42, e42, hr⟩ := ob hr
        refine cal_ic (run_HC (As := [.ref (b0 + 0), .int x1, .int q40, .int 1]) (rest := [.int q41]) C.x hV hS (c_L_chapterOf l hfl (xg G a9 (ai G 24 A)) b0 V x1 q40 1 q42 e42) q_1343 q_1344 q_92 q_1345 dk_L_chapterOf (rmc_ok (by decide) (by decide)) hl.1 rfl (Nat.le_of_ble_eq_true rfl) dL_isNet_674 (rmc_cs (by omega))) hS (fun H locs hV hS => ?_)
        refine lv_isub hx hb dL_isNet_677 ?_
        refine lv_istore (lv' := [(17, .int (q41 - q42)), (16, .int q40), (15, .int q39), (0, .ref (b0 + 0)), (1, .int x1), (2, .int x2), (3, .int x3), (4, .int x4), (5, .int x5), (6, .int x6), (7, .int x7), (8, .ref a9), (9, .int x9), (10, .int x10), (13, .int x13), (14, .int x14)]) hx hb dL_isNet_678 hl (by decide) rfl (fun ls hl => ?_)
        refine lv_iload hx hb dL_isNet_680 (lv_at hl 0 rfl) ?_
        refine lv_if_lt (tgt := 697) hx hb dL_isNet_682 (by decide) (fun b_43 => ?_) (fun b_43 => ?_)
        · have hr := it b_43 hr
          refine lv_iconst (v := 0) hx hb dL_isNet_697 (by decide) ?_
          rw [← Option.some.inj hr]
          exact fin_zc (w := w + 1 + 1 + 1 + 1) C hV.un hS (by omega) (by decide) rfl dL_isNet_698
        · have hr := ie b_43 hr
          refine lv_iload hx hb dL_isNet_685 (lv_at hl 0 rfl) ?_
          refine lv_if_ne (tgt := 699) hx hb dL_isNet_687 (by decide) (fun b_44 => ?_) (fun b_44 => ?_)
          · have hr := ie b_44 hr
            exact K_699 (n * 4 + 10) (fun V A x1 x2 x3 x4 x5 x6 x7 x9 x10 x13 x14 => f_L_isNet_b634 n V A x1 x2 x3 x4 x5 x6 x7 x9 x10 x13 x14) (fun w V a9 hF A x1 x2 x3 x4 x5 x6 x7 x9 x10 x13 x14 hw hr => ih w V a9 hF A x1 x2 x3 x4 x5 x6 x7 x9 x10 x13 x14 (by omega) hr) (w + 1 + 1 + 1 + 1) _ _ hF _ x1 x2 x3 x4 x5 x6 x7 x9 x10 x13 x14 (by omega) hr _ _ ls hV hS (lv_sub hl [3, 4, 5, 6, 7, 8, 9, 10, 11, 12, 13, 14, 15] rfl)
          · have hr := it b_44 hr
            refine lv_iload hx hb dL_isNet_690 (lv_at hl 2 rfl) ?_
            refine lv_iload hx hb dL_isNet_692 (lv_at hl 1 rfl) ?_
            refine lv_icmp_le (tgt := 699) hx hb dL_isNet_694 (by decide) (fun b_45 => ?_) (fun b_45 => ?_)
            · have hr := it b_45 hr
              exact K_699 (n * 4 + 10) (fun V A x1 x2 x3 x4 x5 x6 x7 x9 x10 x13 x14 => f_L_isNet_b634 n V A x1 x2 x3 x4 x5 x6 x7 x9 x10 x13 x14) (fun w V a9 hF A x1 x2 x3 x4 x5 x6 x7 x9 x10 x13 x14 hw hr => ih w V a9 hF A x1 x2 x3 x4 x5 x6 x7 x9 x10 x13 x14 (by omega) hr) (w + 1 + 1 + 1 + 1) _ _ hF _ x1 x2 x3 x4 x5 x6 x7 x9 x10 x13 x14 (by omega) hr _ _ ls hV hS (lv_sub hl [3, 4, 5, 6, 7, 8, 9, 10, 11, 12, 13, 14, 15] rfl)
            · have hr := ie b_45 hr
              refine lv_iconst (v := 0) hx hb dL_isNet_697 (by decide) ?_
              rw [← Option.some.inj hr]
              exact fin_zc (w := w + 1 + 1 + 1 + 1) C hV.un hS (by omega) (by decide) rfl dL_isNet_698
  have K_629 : ∀ (w : Nat) (V : St) (a9 : Nat) (hF : Fr G b0 a9) (A : Nat → Int32) (x1 : Int32) (x2 : Int32) (x3 : Int32) (x4 : Int32) (x5 : Int32) (x6 : Int32) (x7 : Int32) (x9 : Int32) (x10 : Int32) (y0 : Int32), w + 110 ≤ 391 → f_L_isNet_b629 V A x1 x2 x3 x4 x5 x6 x7 x9 x10 y0 = some res → ∀ (H : Heap) (locs : List Loc) (ls : Array Slot), Hd (xg G a9 (ai G 24 A)) b0 V H → va_S (Ab b0) s.heap H locs → lv_has ls 18 [(0, .ref (b0 + 0)), (1, .int x1), (2, .int x2), (3, .int x3), (4, .int x4), (5, .int x5), (6, .int x6), (7, .int x7), (8, .ref a9), (9, .int x9), (10, .int x10)] → W p l e (rmc 8 391) s m args below meth c H locs w (6 * w) (MQ below (QI G b0 res.1 res.2) args s 391 (6 * 391) (Ab b0)) (F0 m 629 ls [.int y0]) := by
    intro w V a9 hF A x1 x2 x3 x4 x5 x6 x7 x9 x10 y0 hw hr H locs ls hV hS hl
    unfold f_L_isNet_b629 at hr
    refine lv_istore (lv' := [(13, .int y0), (0, .ref (b0 + 0)), (1, .int x1), (2, .int x2), (3, .int x3), (4, .int x4), (5, .int x5), (6, .int x6), (7, .int x7), (8, .ref a9), (9, .int x9), (10, .int x10)]) hx hb dL_isNet_629 hl (by decide) rfl (fun ls hl => ?_)
    refine lv_iconst (v := 1) hx hb dL_isNet_631 (by decide) ?_
    refine lv_istore (lv' := [(14, .int 1), (13, .int y0), (0, .ref (b0 + 0)), (1, .int x1), (2, .int x2), (3, .int x3), (4, .int x4), (5, .int x5), (6, .int x6), (7, .int x7), (8, .ref a9), (9, .int x9), (10, .int x10)]) hx hb dL_isNet_632 hl (by decide) rfl (fun ls hl => ?_)
    exact K_634 25 w _ _ hF _ x1 x2 x3 x4 x5 x6 x7 x9 x10 y0 1 (by omega) hr _ _ ls hV hS (lv_sub hl [2, 3, 4, 5, 6, 7, 8, 9, 10, 11, 12, 1, 0] rfl)
  have K_628 : ∀ (w : Nat) (V : St) (a9 : Nat) (hF : Fr G b0 a9) (A : Nat → Int32) (x1 : Int32) (x2 : Int32) (x3 : Int32) (x4 : Int32) (x5 : Int32) (x6 : Int32) (x7 : Int32) (x9 : Int32) (x10 : Int32), w + 110 ≤ 391 → f_L_isNet_b628 V A x1 x2 x3 x4 x5 x6 x7 x9 x10 = some res → ∀ (H : Heap) (locs : List Loc) (ls : Array Slot), Hd (xg G a9 (ai G 24 A)) b0 V H → va_S (Ab b0) s.heap H locs → lv_has ls 18 [(0, .ref (b0 + 0)), (1, .int x1), (2, .int x2), (3, .int x3), (4, .int x4), (5, .int x5), (6, .int x6), (7, .int x7), (8, .ref a9), (9, .int x9), (10, .int x10)] → W p l e (rmc 8 391) s m args below meth c H locs w (6 * w) (MQ below (QI G b0 res.1 res.2) args s 391 (6 * 391) (Ab b0)) (F0 m 628 ls []) := by
    intro w V a9 hF A x1 x2 x3 x4 x5 x6 x7 x9 x10 hw hr H locs ls hV hS hl
    unfold f_L_isNet_b628 at hr
    refine lv_iconst (v := 0) hx hb dL_isNet_628 (by decide) ?_
    exact K_629 w _ _ hF _ x1 x2 x3 x4 x5 x6 x7 x9 x10 0 (by omega) hr _ _ ls hV hS (lv_sub hl [0, 1, 2, 3, 4, 5, 6, 7, 8, 9, 10] rfl)
  have K_571 : ∀ (w : Nat) (V : St) (a9 : Nat) (hF : Fr G b0 a9) (A : Nat → Int32) (x1 : Int32) (x2 : Int32) (x3 : Int32) (x4 : Int32) (x5 : Int32) (x6 : Int32) (x7 : Int32) (x9 : Int32) (x10 : Int32), w + 110 ≤ 391 → f_L_isNet_b571 V A x1 x2 x3 x4 x5 x6 x7 x9 x10 = some res → ∀ (H : Heap) (locs : List Loc) (ls : Array Slot), Hd (xg G a9 (ai G 24 A)) b0 V H → va_S (Ab b0) s.heap H locs → lv_has ls 18 [(0, .ref (b0 + 0)), (1, .int x1), (2, .int x2), (3, .int x3), (4, .int x4), (5, .int x5), (6, .int x6), (7, .int x7), (8, .ref a9), (9, .int x9), (10, .int x10)] → W p l e (rmc 8 391) s m args below meth c H locs w (6 * w) (MQ below (QI G b0 res.1 res.2) args s 391 (6 * 391) (Ab b0)) (F0 m 571 ls []) := by
    intro w V a9 hF A x1 x2 x3 x4 x5 x6 x7 x9 x10 hw hr H locs ls hV hS hl
    unfold f_L_isNet_b571 at hr
    refine lv_iconst (v := 0) hx hb dL_isNet_571 (by decide) ?_
    refine lv_goto (tgt := 629) hx hb dL_isNet_572 (by decide) ?_
    exact K_629 w _ _ hF _ x1 x2 x3 x4 x5 x6 x7 x9 x10 0 (by omega) hr _ _ ls hV hS (lv_sub hl [0, 1, 2, 3, 4, 5, 6, 7, 8, 9, 10] rfl)
  have K_530 : ∀ (X_459 : Nat) (c_459 : St → (Nat → Int32) → Int32 → Int32 → Int32 → Int32 → Int32 → Int32 → Int32 → Int32 → Int32 → Int32 → Int32 → Int32 → Option (Int32 × St)) (hc_459 : ∀ (w : Nat) (V : St) (a9 : Nat) (hF : Fr G b0 a9) (A : Nat → Int32) (x1 : Int32) (x2 : Int32) (x3 : Int32) (x4 : Int32) (x5 : Int32) (x6 : Int32) (x7 : Int32) (x9 : Int32) (x10 : Int32) (x11 : Int32) (x12 : Int32) (x13 : Int32), w + X_459 ≤ 391 → c_459 V A x1 x2 x3 x4 x5 x6 x7 x9 x10 x11 x12 x13 = some res → ∀ (H : Heap) (locs : List Loc) (ls : Array Slot), Hd (xg G a9 (ai G 24 A)) b0 V H → va_S (Ab b0) s.heap H locs → lv_has ls 18 [(0, .ref (b0 + 0)), (1, .int x1), (2, .int x2), (3, .int x3), (4, .int x4), (5, .int x5), (6, .int x6), (7, .int x7), (8, .ref a9), (9, .int x9), (10, .int x10), (11, .int x11), (12, .int x12), (13, .int x13)] → W p l e (rmc 8 391) s m args below meth c H locs w (6 * w) (MQ below (QI G b0 res.1 res.2) args s 391 (6 * 391) (Ab b0)) (F0 m 459 ls [])) (w : Nat) (V : St) (a9 : Nat) (hF : Fr G b0 a9) (A : Nat → Int32) (x1 : Int32) (x2 : Int32) (x3 : Int32) (x4 : Int32) (x5 : Int32) (x6 : Int32) (x7 : Int32) (x9 : Int32) (x10 : Int32) (x11 : Int32) (x13 : Int32) (y0 : Int32) (y1 : Int32), w + 0 + X_459 ≤ 391 → f_L_isNet_b530 c_459 V A x1 x2 x3 x4 x5 x6 x7 x9 x10 x11 x13 y0 y1 = some res → ∀ (H : Heap) (locs : List Loc) (ls : Array Slot), Hd (xg G a9 (ai G 24 A)) b0 V H → va_S (Ab b0) s.heap H locs → lv_has ls 18 [(0, .ref (b0 + 0)), (1, .int x1), (2, .int x2), (3, .int x3), (4, .int x4), (5, .int x5), (6, .int x6), (7, .int x7), (8, .ref a9), (9, .int x9), (10, .int x10), (11, .int x11), (13, .int x13)] → W p l e (rmc 8 391) s m args below meth c H locs w (6 * w) (MQ below (QI G b0 res.1 res.2) args s 391 (6 * 391) (Ab b0)) (F0 m 530 ls [.int y0, .int y1]) := by
    intro X_459 c_459 hc_459 w V a9 hF A x1 x2 x3 x4 x5 x6 x7 x9 x10 x11 x13 y0 y1 hw hr H locs ls hV hS hl
    unfold f_L_isNet_b530 at hr
    refine lv_iadd hx hb dL_isNet_530 ?_
    refine lv_istore (lv' := [(12, .int (y1 + y0)), (0, .ref (b0 + 0)), (1, .int x1), (2, .int x2), (3, .int x3), (4, .int x4), (5, .int x5), (6, .int x6), (7, .int x7), (8, .ref a9), (9, .int x9), (10, .int x10), (11, .int x11), (13, .int x13)]) hx hb dL_isNet_531 hl (by decide) rfl (fun ls hl => ?_)
    refine lv_iinc (v := x13 + 1) (lv' := [(13, .int (x13 + 1)), (12, .int (y1 + y0)), (0, .ref (b0 + 0)), (1, .int x1), (2, .int x2), (3, .int x3), (4, .int x4), (5, .int x5), (6, .int x6), (7, .int x7), (8, .ref a9), (9, .int x9), (10, .int x10), (11, .int x11)]) hx hb dL_isNet_533 hl (k := 13) rfl rfl (by decide) rfl (fun ls hl => ?_)
    refine lv_goto (tgt := 459) hx hb dL_isNet_536 (by decide) ?_
    exact hc_459 w _ _ hF _ x1 x2 x3 x4 x5 x6 x7 x9 x10 x11 (y1 + y0) (x13 + 1) (by omega) hr _ _ ls hV hS (lv_sub hl [2, 3, 4, 5, 6, 7, 8, 9, 10, 11, 12, 13, 1, 0] rfl)
  have K_529 : ∀ (X_459 : Nat) (c_459 : St → (Nat → Int32) → Int32 → Int32 → Int32 → Int32 → Int32 → Int32 → Int32 → Int32 → Int32 → Int32 → Int32 → Int32 → Option (Int32 × St)) (hc_459 : ∀ (w : Nat) (V : St) (a9 : Nat) (hF : Fr G b0 a9) (A : Nat → Int32) (x1 : Int32) (x2 : Int32) (x3 : Int32) (x4 : Int32) (x5 : Int32) (x6 : Int32) (x7 : Int32) (x9 : Int32) (x10 : Int32) (x11 : Int32) (x12 : Int32) (x13 : Int32), w + X_459 ≤ 391 → c_459 V A x1 x2 x3 x4 x5 x6 x7 x9 x10 x11 x12 x13 = some res → ∀ (H : Heap) (locs : List Loc) (ls : Array Slot), Hd (xg G a9 (ai G 24 A)) b0 V H → va_S (Ab b0) s.heap H locs → lv_has ls 18 [(0, .ref (b0 + 0)), (1, .int x1), (2, .int x2), (3, .int x3), (4, .int x4), (5, .int x5), (6, .int x6), (7, .int x7), (8, .ref a9), (9, .int x9), (10, .int x10), (11, .int x11), (12, .int x12), (13, .int x13)] → W p l e (rmc 8 391) s m args below meth c H locs w (6 * w) (MQ below (QI G b0 res.1 res.2) args s 391 (6 * 391) (Ab b0)) (F0 m 459 ls [])) (w : Nat) (V : St) (a9 : Nat) (hF : Fr G b0 a9) (A : Nat → Int32) (x1 : Int32) (x2 : Int32) (x3 : Int32) (x4 : Int32) (x5 : Int32) (x6 : Int32) (x7 : Int32) (x9 : Int32) (x10 : Int32) (x11 : Int32) (x13 : Int32) (y0 : Int32), w + 0 + X_459 ≤ 391 → f_L_isNet_b529 c_459 V A x1 x2 x3 x4 x5 x6 x7 x9 x10 x11 x13 y0 = some res → ∀ (H : Heap) (locs : List Loc) (ls : Array Slot), Hd (xg G a9 (ai G 24 A)) b0 V H → va_S (Ab b0) s.heap H locs → lv_has ls 18 [(0, .ref (b0 + 0)), (1, .int x1), (2, .int x2), (3, .int x3), (4, .int x4), (5, .int x5), (6, .int x6), (7, .int x7), (8, .ref a9), (9, .int x9), (10, .int x10), (11, .int x11), (13, .int x13)] → W p l e (rmc 8 391) s m args below meth c H locs w (6 * w) (MQ below (QI G b0 res.1 res.2) args s 391 (6 * 391) (Ab b0)) (F0 m 529 ls [.int y0]) := by
    intro X_459 c_459 hc_459 w V a9 hF A x1 x2 x3 x4 x5 x6 x7 x9 x10 x11 x13 y0 hw hr H locs ls hV hS hl
    unfold f_L_isNet_b529 at hr
    refine lv_iconst (v := 0) hx hb dL_isNet_529 (by decide) ?_
    exact K_530 X_459 c_459 hc_459 w _ _ hF _ x1 x2 x3 x4 x5 x6 x7 x9 x10 x11 x13 0 y0 (by omega) hr _ _ ls hV hS (lv_sub hl [0, 1, 2, 3, 4, 5, 6, 7, 8, 9, 10, 11, 12] rfl)
  have K_504 : ∀ (X_459 : Nat) (c_459 : St → (Nat → Int32) → Int32 → Int32 → Int32 → Int32 → Int32 → Int32 → Int32 → Int32 → Int32 → Int32 → Int32 → Int32 → Option (Int32 × St)) (hc_459 : ∀ (w : Nat) (V : St) (a9 : Nat) (hF : Fr G b0 a9) (A : Nat → Int32) (x1 : Int32) (x2 : Int32) (x3 : Int32) (x4 : Int32) (x5 : Int32) (x6 : Int32) (x7 : Int32) (x9 : Int32) (x10 : Int32) (x11 : Int32) (x12 : Int32) (x13 : Int32), w + X_459 ≤ 391 → c_459 V A x1 x2 x3 x4 x5 x6 x7 x9 x10 x11 x12 x13 = some res → ∀ (H : Heap) (locs : List Loc) (ls : Array Slot), Hd (xg G a9 (ai G 24 A)) b0 V H → va_S (Ab b0) s.heap H locs → lv_has ls 18 [(0, .ref (b0 + 0)), (1, .int x1), (2, .int x2), (3, .int x3), (4, .int x4), (5, .int x5), (6, .int x6), (7, .int x7), (8, .ref a9), (9, .int x9), (10, .int x10), (11, .int x11), (12, .int x12), (13, .int x13)] → W p l e (rmc 8 391) s m args below meth c H locs w (6 * w) (MQ below (QI G b0 res.1 res.2) args s 391 (6 * 391) (Ab b0)) (F0 m 459 ls [])) (w : Nat) (V : St) (a9 : Nat) (hF : Fr G b0 a9) (A : Nat → Int32) (x1 : Int32) (x2 : Int32) (x3 : Int32) (x4 : Int32) (x5 : Int32) (x6 : Int32) (x7 : Int32) (x9 : Int32) (x10 : Int32) (x12 : Int32) (x13 : Int32) (x14 : Int32) (y0 : Int32) (y1 : Int32), w + 0 + X_459 ≤ 391 → f_L_isNet_b504 c_459 V A x1 x2 x3 x4 x5 x6 x7 x9 x10 x12 x13 x14 y0 y1 = some res → ∀ (H : Heap) (locs : List Loc) (ls : Array Slot), Hd (xg G a9 (ai G 24 A)) b0 V H → va_S (Ab b0) s.heap H locs → lv_has ls 18 [(0, .ref (b0 + 0)), (1, .int x1), (2, .int x2), (3, .int x3), (4, .int x4), (5, .int x5), (6, .int x6), (7, .int x7), (8, .ref a9), (9, .int x9), (10, .int x10), (12, .int x12), (13, .int x13), (14, .int x14)] → W p l e (rmc 8 391) s m args below meth c H locs w (6 * w) (MQ below (QI G b0 res.1 res.2) args s 391 (6 * 391) (Ab b0)) (F0 m 504 ls [.int y0, .int y1]) := by
    intro X_459 c_459 hc_459 w V a9 hF A x1 x2 x3 x4 x5 x6 x7 x9 x10 x12 x13 x14 y0 y1 hw hr H locs ls hV hS hl
    unfold f_L_isNet_b504 at hr
    refine lv_iadd hx hb dL_isNet_504 ?_
    refine lv_istore (lv' := [(11, .int (y1 + y0)), (0, .ref (b0 + 0)), (1, .int x1), (2, .int x2), (3, .int x3), (4, .int x4), (5, .int x5), (6, .int x6), (7, .int x7), (8, .ref a9), (9, .int x9), (10, .int x10), (12, .int x12), (13, .int x13), (14, .int x14)]) hx hb dL_isNet_505 hl (by decide) rfl (fun ls hl => ?_)
    refine lv_iload hx hb dL_isNet_507 (lv_at hl 12 rfl) ?_
    refine lv_iload hx hb dL_isNet_509 (lv_at hl 14 rfl) ?_
    refine lv_if_eq (tgt := 529) hx hb dL_isNet_511 (by decide) (fun b_46 => ?_) (fun b_46 => ?_)
    · have hr := it b_46 hr
      exact K_529 X_459 c_459 hc_459 w _ _ hF _ x1 x2 x3 x4 x5 x6 x7 x9 x10 (y1 + y0) x13 x12 (by omega) hr _ _ ls hV hS (lv_sub hl [1, 2, 3, 4, 5, 6, 7, 8, 9, 10, 11, 0, 13] rfl)
    · have hr := ie b_46 hr
      refine lv_iload hx hb dL_isNet_514 (lv_at hl 13 rfl) ?_
      refine lv_bipush (v := 6) hx hb dL_isNet_516 (by decide) ?_
      refine lv_idiv hx hb dL_isNet_518 (by decide) ?_
      refine lv_iconst (v := 4) hx hb dL_isNet_519 (by decide) ?_
      refine lv_iload_n hx hb dL_isNet_520 rfl (lv_at hl 4 rfl) ?_
      refine lv_isub hx hb dL_isNet_521 ?_
      refine lv_icmp_ge (tgt := 529) hx hb dL_isNet_522 (by decide) (fun b_47 => ?_) (fun b_47 => ?_)
      · have hr := it b_47 hr
        exact K_529 X_459 c_459 hc_459 w _ _ hF _ x1 x2 x3 x4 x5 x6 x7 x9 x10 (y1 + y0) x13 x12 (by omega) hr _ _ ls hV hS (lv_sub hl [1, 2, 3, 4, 5, 6, 7, 8, 9, 10, 11, 0, 13] rfl)
      · have hr := ie b_47 hr
        refine lv_iconst (v := 1) hx hb dL_isNet_525 (by decide) ?_
        refine lv_goto (tgt := 530) hx hb dL_isNet_526 (by decide) ?_
        exact K_530 X_459 c_459 hc_459 w _ _ hF _ x1 x2 x3 x4 x5 x6 x7 x9 x10 (y1 + y0) x13 1 x12 (by omega) hr _ _ ls hV hS (lv_sub hl [1, 2, 3, 4, 5, 6, 7, 8, 9, 10, 11, 0, 13] rfl)
  have K_490 : ∀ (X_459 : Nat) (c_459 : St → (Nat → Int32) → Int32 → Int32 → Int32 → Int32 → Int32 → Int32 → Int32 → Int32 → Int32 → Int32 → Int32 → Int32 → Option (Int32 × St)) (hc_459 : ∀ (w : Nat) (V : St) (a9 : Nat) (hF : Fr G b0 a9) (A : Nat → Int32) (x1 : Int32) (x2 : Int32) (x3 : Int32) (x4 : Int32) (x5 : Int32) (x6 : Int32) (x7 : Int32) (x9 : Int32) (x10 : Int32) (x11 : Int32) (x12 : Int32) (x13 : Int32), w + X_459 ≤ 391 → c_459 V A x1 x2 x3 x4 x5 x6 x7 x9 x10 x11 x12 x13 = some res → ∀ (H : Heap) (locs : List Loc) (ls : Array Slot), Hd (xg G a9 (ai G 24 A)) b0 V H → va_S (Ab b0) s.heap H locs → lv_has ls 18 [(0, .ref (b0 + 0)), (1, .int x1), (2, .int x2), (3, .int x3), (4, .int x4), (5, .int x5), (6, .int x6), (7, .int x7), (8, .ref a9), (9, .int x9), (10, .int x10), (11, .int x11), (12, .int x12), (13, .int x13)] → W p l e (rmc 8 391) s m args below meth c H locs w (6 * w) (MQ below (QI G b0 res.1 res.2) args s 391 (6 * 391) (Ab b0)) (F0 m 459 ls [])) (w : Nat) (V : St) (a9 : Nat) (hF : Fr G b0 a9) (A : Nat → Int32) (x1 : Int32) (x2 : Int32) (x3 : Int32) (x4 : Int32) (x5 : Int32) (x6 : Int32) (x7 : Int32) (x9 : Int32) (x10 : Int32) (x11 : Int32) (x12 : Int32) (x13 : Int32) (y0 : Int32), w + 0 + X_459 ≤ 391 → f_L_isNet_b490 c_459 V A x1 x2 x3 x4 x5 x6 x7 x9 x10 x11 x12 x13 y0 = some res → ∀ (H : Heap) (locs : List Loc) (ls : Array Slot), Hd (xg G a9 (ai G 24 A)) b0 V H → va_S (Ab b0) s.heap H locs → lv_has ls 18 [(0, .ref (b0 + 0)), (1, .int x1), (2, .int x2), (3, .int x3), (4, .int x4), (5, .int x5), (6, .int x6), (7, .int x7), (8, .ref a9), (9, .int x9), (10, .int x10), (11, .int x11), (12, .int x12), (13, .int x13)] → W p l e (rmc 8 391) s m args below meth c H locs w (6 * w) (MQ below (QI G b0 res.1 res.2) args s 391 (6 * 391) (Ab b0)) (F0 m 490 ls [.int y0]) := by
    intro X_459 c_459 hc_459 w V a9 hF A x1 x2 x3 x4 x5 x6 x7 x9 x10 x11 x12 x13 y0 hw hr H locs ls hV hS hl
    unfold f_L_isNet_b490 at hr
    refine lv_istore (lv' := [(14, .int y0), (0, .ref (b0 + 0)), (1, .int x1), (2, .int x2), (3, .int x3), (4, .int x4), (5, .int x5), (6, .int x6), (7, .int x7), (8, .ref a9), (9, .int x9), (10, .int x10), (11, .int x11), (12, .int x12), (13, .int x13)]) hx hb dL_isNet_490 hl (by decide) rfl (fun ls hl => ?_)
    refine lv_iload hx hb dL_isNet_492 (lv_at hl 12 rfl) ?_
    refine lv_iload hx hb dL_isNet_494 (lv_at hl 0 rfl) ?_
    refine lv_if_eq (tgt := 503) hx hb dL_isNet_496 (by decide) (fun b_48 => ?_) (fun b_48 => ?_)
    · have hr := it b_48 hr
      refine lv_iconst (v := 0) hx hb dL_isNet_503 (by decide) ?_
      exact K_504 X_459 c_459 hc_459 w _ _ hF _ x1 x2 x3 x4 x5 x6 x7 x9 x10 x12 x13 y0 0 x11 (by omega) hr _ _ ls hV hS (lv_sub hl [1, 2, 3, 4, 5, 6, 7, 8, 9, 10, 11, 13, 14, 0] rfl)
    · have hr := ie b_48 hr
      refine lv_iconst (v := 1) hx hb dL_isNet_499 (by decide) ?_
      refine lv_goto (tgt := 504) hx hb dL_isNet_500 (by decide) ?_
      exact K_504 X_459 c_459 hc_459 w _ _ hF _ x1 x2 x3 x4 x5 x6 x7 x9 x10 x12 x13 y0 1 x11 (by omega) hr _ _ ls hV hS (lv_sub hl [1, 2, 3, 4, 5, 6, 7, 8, 9, 10, 11, 13, 14, 0] rfl)
  have K_489 : ∀ (X_459 : Nat) (c_459 : St → (Nat → Int32) → Int32 → Int32 → Int32 → Int32 → Int32 → Int32 → Int32 → Int32 → Int32 → Int32 → Int32 → Int32 → Option (Int32 × St)) (hc_459 : ∀ (w : Nat) (V : St) (a9 : Nat) (hF : Fr G b0 a9) (A : Nat → Int32) (x1 : Int32) (x2 : Int32) (x3 : Int32) (x4 : Int32) (x5 : Int32) (x6 : Int32) (x7 : Int32) (x9 : Int32) (x10 : Int32) (x11 : Int32) (x12 : Int32) (x13 : Int32), w + X_459 ≤ 391 → c_459 V A x1 x2 x3 x4 x5 x6 x7 x9 x10 x11 x12 x13 = some res → ∀ (H : Heap) (locs : List Loc) (ls : Array Slot), Hd (xg G a9 (ai G 24 A)) b0 V H → va_S (Ab b0) s.heap H locs → lv_has ls 18 [(0, .ref (b0 + 0)), (1, .int x1), (2, .int x2), (3, .int x3), (4, .int x4), (5, .int x5), (6, .int x6), (7, .int x7), (8, .ref a9), (9, .int x9), (10, .int x10), (11, .int x11), (12, .int x12), (13, .int x13)] → W p l e (rmc 8 391) s m args below meth c H locs w (6 * w) (MQ below (QI G b0 res.1 res.2) args s 391 (6 * 391) (Ab b0)) (F0 m 459 ls [])) (w : Nat) (V : St) (a9 : Nat) (hF : Fr G b0 a9) (A : Nat → Int32) (x1 : Int32) (x2 : Int32) (x3 : Int32) (x4 : Int32) (x5 : Int32) (x6 : Int32) (x7 : Int32) (x9 : Int32) (x10 : Int32) (x11 : Int32) (x12 : Int32) (x13 : Int32), w + 0 + X_459 ≤ 391 → f_L_isNet_b489 c_459 V A x1 x2 x3 x4 x5 x6 x7 x9 x10 x11 x12 x13 = some res → ∀ (H : Heap) (locs : List Loc) (ls : Array Slot), Hd (xg G a9 (ai G 24 A)) b0 V H → va_S (Ab b0) s.heap H locs → lv_has ls 18 [(0, .ref (b0 + 0)), (1, .int x1), (2, .int x2), (3, .int x3), (4, .int x4), (5, .int x5), (6, .int x6), (7, .int x7), (8, .ref a9), (9, .int x9), (10, .int x10), (11, .int x11), (12, .int x12), (13, .int x13)] → W p l e (rmc 8 391) s m args below meth c H locs w (6 * w) (MQ below (QI G b0 res.1 res.2) args s 391 (6 * 391) (Ab b0)) (F0 m 489 ls []) := by
    intro X_459 c_459 hc_459 w V a9 hF A x1 x2 x3 x4 x5 x6 x7 x9 x10 x11 x12 x13 hw hr H locs ls hV hS hl
    unfold f_L_isNet_b489 at hr
    refine lv_iconst (v := 0) hx hb dL_isNet_489 (by decide) ?_
    exact K_490 X_459 c_459 hc_459 w _ _ hF _ x1 x2 x3 x4 x5 x6 x7 x9 x10 x11 x12 x13 0 (by omega) hr _ _ ls hV hS (lv_sub hl [0, 1, 2, 3, 4, 5, 6, 7, 8, 9, 10, 11, 12, 13] rfl)
  have K_459 : ∀ (n : Nat) (w : Nat) (V : St) (a9 : Nat) (hF : Fr G b0 a9) (A : Nat → Int32) (x1 : Int32) (x2 : Int32) (x3 : Int32) (x4 : Int32) (x5 : Int32) (x6 : Int32) (x7 : Int32) (x9 : Int32) (x10 : Int32) (x11 : Int32) (x12 : Int32) (x13 : Int32), w + n * 4 + 110 ≤ 391 → f_L_isNet_b459 n V A x1 x2 x3 x4 x5 x6 x7 x9 x10 x11 x12 x13 = some res → ∀ (H : Heap) (locs : List Loc) (ls : Array Slot), Hd (xg G a9 (ai G 24 A)) b0 V H → va_S (Ab b0) s.heap H locs → lv_has ls 18 [(0, .ref (b0 + 0)), (1, .int x1), (2, .int x2), (3, .int x3), (4, .int x4), (5, .int x5), (6, .int x6), (7, .int x7), (8, .ref a9), (9, .int x9), (10, .int x10), (11, .int x11), (12, .int x12), (13, .int x13)] → W p l e (rmc 8 391) s m args below meth c H locs w (6 * w) (MQ below (QI G b0 res.1 res.2) args s 391 (6 * 391) (Ab b0)) (F0 m 459 ls []) := by
    intro  n
    induction n with
    | zero =>
      intro w V a9 hF A x1 x2 x3 x4 x5 x6 x7 x9 x10 x11 x12 x13 hw hr
      rw [f_L_isNet_b459] at hr
      cases hr
    | succ n ih =>
      intro w V a9 hF A x1 x2 x3 x4 x5 x6 x7 x9 x10 x11 x12 x13 hw hr H locs ls hV hS hl
      rw [f_L_isNet_b459] at hr
      refine lv_iload hx hb dL_isNet_459 (lv_at hl 13 rfl) ?_
      refine lv_bipush (v := 24) hx hb dL_isNet_461 (by decide) ?_
      refine lv_icmp_ge (tgt := 539) hx hb dL_isNet_463 (by decide) (fun b_49 => ?_) (fun b_49 => ?_)
      · have hr := it b_49 hr
        refine lv_iload hx hb dL_isNet_539 (lv_at hl 11 rfl) ?_
        refine lv_if_ne (tgt := 575) hx hb dL_isNet_541 (by decide) (fun b_50 => ?_) (fun b_50 => ?_)
        · have hr := ie b_50 hr
          refine lv_aload_n hx hb dL_isNet_575 rfl (lv_at hl 0 rfl) ?_
          refine lv_iload_n hx hb dL_isNet_576 rfl (lv_at hl 1 rfl) ?_
          refine lv_iload_n hx hb dL_isNet_577 rfl (lv_at hl 2 rfl) ?_
          refine lv_iconst (v := 1) hx hb dL_isNet_578 (by decide) ?_
          obtain ⟨q51, e51, hr⟩ := ob hr
          refine cal_ic (run_HC (As := [.ref (b0 + 0), .int x1, .int x2, .int 1]) (rest := []) C.x hV hS (c_L_chapterOf l hfl (xg G a9 (ai G 24 A)) b0 V x1 x2 1 q51 e51) q_1343 q_1344 q_92 q_1345 dk_L_chapterOf (rmc_ok (by decide) (by decide)) hl.1 rfl (Nat.le_of_ble_eq_true rfl) dL_isNet_579 (rmc_cs (by omega))) hS (fun H locs hV hS => ?_)
          refine lv_iload hx hb dL_isNet_582 (lv_at hl 11 rfl) ?_
          refine lv_icmp_ne (tgt := 628) hx hb dL_isNet_584 (by decide) (fun b_52 => ?_) (fun b_52 => ?_)
          · have hr := ie b_52 hr
            exact K_628 (w + 1) _ _ hF _ x1 x2 x3 x4 x5 x6 x7 x9 x10 (by omega) hr _ _ ls hV hS (lv_sub hl [0, 1, 2, 3, 4, 5, 6, 7, 8, 9, 10] rfl)
          · have hr := it b_52 hr
            refine lv_aload_n hx hb dL_isNet_587 rfl (lv_at hl 0 rfl) ?_
            refine lv_iload_n hx hb dL_isNet_588 rfl (lv_at hl 1 rfl) ?_
            refine lv_iload_n hx hb dL_isNet_589 rfl (lv_at hl 2 rfl) ?_
            refine lv_iconst (v := 2) hx hb dL_isNet_590 (by decide) ?_
            obtain ⟨q53, e53, hr⟩ := ob hr
            refine cal_ic (run_HC (As := [.ref (b0 + 0), .int x1, .int x2, .int 2]) (rest := []) C.x hV hS (c_L_chapterOf l hfl (xg G a9 (ai G 24 A)) b0 V x1 x2 2 q53 e53) q_1343 q_1344 q_92 q_1345 dk_L_chapterOf (rmc_ok (by decide) (by decide)) hl.1 rfl (Nat.le_of_ble_eq_true rfl) dL_isNet_591 (rmc_cs (by omega))) hS (fun H locs hV hS => ?_)
            refine lv_iload hx hb dL_isNet_594 (lv_at hl 12 rfl) ?_
            refine lv_icmp_ne (tgt := 628) hx hb dL_isNet_596 (by decide) (fun b_54 => ?_) (fun b_54 => ?_)
            · have hr := ie b_54 hr
              exact K_628 (w + 1 + 1) _ _ hF _ x1 x2 x3 x4 x5 x6 x7 x9 x10 (by omega) hr _ _ ls hV hS (lv_sub hl [0, 1, 2, 3, 4, 5, 6, 7, 8, 9, 10] rfl)
            · have hr := it b_54 hr
              refine lv_aload_n hx hb dL_isNet_599 rfl (lv_at hl 0 rfl) ?_
              refine lv_iload_n hx hb dL_isNet_600 rfl (lv_at hl 1 rfl) ?_
              refine lv_iload_n hx hb dL_isNet_601 rfl (lv_at hl 2 rfl) ?_
              obtain ⟨q55, e55, hr⟩ := ob hr
              refine cal_ic (run_HC (As := [.ref (b0 + 0), .int x1, .int x2]) (rest := []) C.x hV hS (c_L_chapterLine l hfl (xg G a9 (ai G 24 A)) b0 V x1 x2 q55 e55) q_1359 q_1360 q_92 q_1361 dk_L_chapterLine (rmc_ok (by decide) (by decide)) hl.1 rfl (Nat.le_of_ble_eq_true rfl) dL_isNet_602 (rmc_cs (by omega))) hS (fun H locs hV hS => ?_)
              refine lv_iload hx hb dL_isNet_605 (lv_at hl 11 rfl) ?_
              refine lv_icmp_ne (tgt := 628) hx hb dL_isNet_607 (by decide) (fun b_56 => ?_) (fun b_56 => ?_)
              · have hr := ie b_56 hr
                exact K_628 (w + 1 + 1 + 1) _ _ hF _ x1 x2 x3 x4 x5 x6 x7 x9 x10 (by omega) hr _ _ ls hV hS (lv_sub hl [0, 1, 2, 3, 4, 5, 6, 7, 8, 9, 10] rfl)
              · have hr := it b_56 hr
                refine lv_aload_n hx hb dL_isNet_610 rfl (lv_at hl 0 rfl) ?_
                refine lv_iload_n hx hb dL_isNet_611 rfl (lv_at hl 1 rfl) ?_
                refine lv_iload_n hx hb dL_isNet_612 rfl (lv_at hl 2 rfl) ?_
                refine lv_iconst (v := 3) hx hb dL_isNet_613 (by decide) ?_
                obtain ⟨q57, e57, hr⟩ := ob hr
                refine cal_ic (run_HC (As := [.ref (b0 + 0), .int x1, .int x2, .int 3]) (rest := []) C.x hV hS (c_L_chapterOf l hfl (xg G a9 (ai G 24 A)) b0 q55.2 x1 x2 3 q57 e57) q_1343 q_1344 q_92 q_1345 dk_L_chapterOf (rmc_ok (by decide) (by decide)) hl.1 rfl (Nat.le_of_ble_eq_true rfl) dL_isNet_614 (rmc_cs (by omega))) hS (fun H locs hV hS => ?_)
                refine lv_iload hx hb dL_isNet_617 (lv_at hl 11 rfl) ?_
                refine lv_iconst (v := 1) hx hb dL_isNet_619 (by decide) ?_
                refine lv_isub hx hb dL_isNet_620 ?_
                refine lv_icmp_lt (tgt := 628) hx hb dL_isNet_621 (by decide) (fun b_58 => ?_) (fun b_58 => ?_)
                · have hr := it b_58 hr
                  exact K_628 (w + 1 + 1 + 1 + 1) _ _ hF _ x1 x2 x3 x4 x5 x6 x7 x9 x10 (by omega) hr _ _ ls hV hS (lv_sub hl [0, 1, 2, 3, 4, 5, 6, 7, 8, 9, 10] rfl)
                · have hr := ie b_58 hr
                  refine lv_iconst (v := 1) hx hb dL_isNet_624 (by decide) ?_
                  refine lv_goto (tgt := 629) hx hb dL_isNet_625 (by decide) ?_
                  exact K_629 (w + 1 + 1 + 1 + 1) _ _ hF _ x1 x2 x3 x4 x5 x6 x7 x9 x10 1 (by omega) hr _ _ ls hV hS (lv_sub hl [0, 1, 2, 3, 4, 5, 6, 7, 8, 9, 10] rfl)
        · have hr := it b_50 hr
          refine lv_aload_n hx hb dL_isNet_544 rfl (lv_at hl 0 rfl) ?_
          refine lv_iload_n hx hb dL_isNet_545 rfl (lv_at hl 1 rfl) ?_
          refine lv_iload_n hx hb dL_isNet_546 rfl (lv_at hl 2 rfl) ?_
          refine lv_iconst (v := 1) hx hb dL_isNet_547 (by decide) ?_
          obtain ⟨q59, e59, hr⟩ := ob hr
          refine cal_ic (run_HC (As := [.ref (b0 + 0), .int x1, .int x2, .int 1]) (rest := []) C.x hV hS (c_L_chapterOf l hfl (xg G a9 (ai G 24 A)) b0 V x1 x2 1 q59 e59) q_1343 q_1344 q_92 q_1345 dk_L_chapterOf (rmc_ok (by decide) (by decide)) hl.1 rfl (Nat.le_of_ble_eq_true rfl) dL_isNet_548 (rmc_cs (by omega))) hS (fun H locs hV hS => ?_)
          refine lv_bipush (v := (-75)) hx hb dL_isNet_551 (by decide) ?_
          refine lv_icmp_ne (tgt := 571) hx hb dL_isNet_553 (by decide) (fun b_60 => ?_) (fun b_60 => ?_)
          · have hr := ie b_60 hr
            exact K_571 (w + 1) _ _ hF _ x1 x2 x3 x4 x5 x6 x7 x9 x10 (by omega) hr _ _ ls hV hS (lv_sub hl [0, 1, 2, 3, 4, 5, 6, 7, 8, 9, 10] rfl)
          · have hr := it b_60 hr
            refine lv_aload_n hx hb dL_isNet_556 rfl (lv_at hl 0 rfl) ?_
            refine lv_iload_n hx hb dL_isNet_557 rfl (lv_at hl 1 rfl) ?_
            refine lv_iload_n hx hb dL_isNet_558 rfl (lv_at hl 2 rfl) ?_
            obtain ⟨q61, e61, hr⟩ := ob hr
            refine cal_ic (run_HC (As := [.ref (b0 + 0), .int x1, .int x2]) (rest := []) C.x hV hS (c_L_chapterLine l hfl (xg G a9 (ai G 24 A)) b0 V x1 x2 q61 e61) q_1359 q_1360 q_92 q_1361 dk_L_chapterLine (rmc_ok (by decide) (by decide)) hl.1 rfl (Nat.le_of_ble_eq_true rfl) dL_isNet_559 (rmc_cs (by omega))) hS (fun H locs hV hS => ?_)
            refine lv_bipush (v := (-75)) hx hb dL_isNet_562 (by decide) ?_
            refine lv_icmp_ne (tgt := 571) hx hb dL_isNet_564 (by decide) (fun b_62 => ?_) (fun b_62 => ?_)
            · have hr := ie b_62 hr
              exact K_571 (w + 1 + 1) _ _ hF _ x1 x2 x3 x4 x5 x6 x7 x9 x10 (by omega) hr _ _ ls hV hS (lv_sub hl [0, 1, 2, 3, 4, 5, 6, 7, 8, 9, 10] rfl)
            · have hr := it b_62 hr
              refine lv_iconst (v := 1) hx hb dL_isNet_567 (by decide) ?_
              refine lv_goto (tgt := 629) hx hb dL_isNet_568 (by decide) ?_
              exact K_629 (w + 1 + 1) _ _ hF _ x1 x2 x3 x4 x5 x6 x7 x9 x10 1 (by omega) hr _ _ ls hV hS (lv_sub hl [0, 1, 2, 3, 4, 5, 6, 7, 8, 9, 10] rfl)
      · have hr := ie b_49 hr
        refine lv_aload hx hb dL_isNet_466 (lv_at hl 8 rfl) ?_
        refine lv_iload_n hx hb dL_isNet_468 rfl (lv_at hl 2 rfl) ?_
        obtain ⟨j63, e63, hr⟩ := ob hr
        refine x_iald C hV e63 dL_isNet_469 ?_
        refine lv_if_lt (tgt := 489) hx hb dL_isNet_470 (by decide) (fun b_64 => ?_) (fun b_64 => ?_)
        · have hr := it b_64 hr
          exact K_489 (n * 4 + 110) (fun V A x1 x2 x3 x4 x5 x6 x7 x9 x10 x11 x12 x13 => f_L_isNet_b459 n V A x1 x2 x3 x4 x5 x6 x7 x9 x10 x11 x12 x13) (fun w V a9 hF A x1 x2 x3 x4 x5 x6 x7 x9 x10 x11 x12 x13 hw hr => ih w V a9 hF A x1 x2 x3 x4 x5 x6 x7 x9 x10 x11 x12 x13 (by omega) hr) w _ _ hF _ x1 x2 x3 x4 x5 x6 x7 x9 x10 x11 x12 x13 (by omega) hr _ _ ls hV hS (lv_sub hl [0, 1, 2, 3, 4, 5, 6, 7, 8, 9, 10, 11, 12, 13] rfl)
        · have hr := ie b_64 hr
          refine lv_aload hx hb dL_isNet_473 (lv_at hl 8 rfl) ?_
          refine lv_iload hx hb dL_isNet_475 (lv_at hl 13 rfl) ?_
          obtain ⟨j65, e65, hr⟩ := ob hr
          refine x_iald C hV e65 dL_isNet_477 ?_
          refine lv_aload hx hb dL_isNet_478 (lv_at hl 8 rfl) ?_
          refine lv_iload_n hx hb dL_isNet_480 rfl (lv_at hl 2 rfl) ?_
          obtain ⟨j66, e66, hr⟩ := ob hr
          refine x_iald C hV e66 dL_isNet_481 ?_
          refine lv_icmp_ne (tgt := 489) hx hb dL_isNet_482 (by decide) (fun b_67 => ?_) (fun b_67 => ?_)
          · have hr := ie b_67 hr
            exact K_489 (n * 4 + 110) (fun V A x1 x2 x3 x4 x5 x6 x7 x9 x10 x11 x12 x13 => f_L_isNet_b459 n V A x1 x2 x3 x4 x5 x6 x7 x9 x10 x11 x12 x13) (fun w V a9 hF A x1 x2 x3 x4 x5 x6 x7 x9 x10 x11 x12 x13 hw hr => ih w V a9 hF A x1 x2 x3 x4 x5 x6 x7 x9 x10 x11 x12 x13 (by omega) hr) w _ _ hF _ x1 x2 x3 x4 x5 x6 x7 x9 x10 x11 x12 x13 (by omega) hr _ _ ls hV hS (lv_sub hl [0, 1, 2, 3, 4, 5, 6, 7, 8, 9, 10, 11, 12, 13] rfl)
          · have hr := it b_67 hr
            refine lv_iconst (v := 1) hx hb dL_isNet_485 (by decide) ?_
            refine lv_goto (tgt := 490) hx hb dL_isNet_486 (by decide) ?_
            exact K_490 (n * 4 + 110) (fun V A x1 x2 x3 x4 x5 x6 x7 x9 x10 x11 x12 x13 => f_L_isNet_b459 n V A x1 x2 x3 x4 x5 x6 x7 x9 x10 x11 x12 x13) (fun w V a9 hF A x1 x2 x3 x4 x5 x6 x7 x9 x10 x11 x12 x13 hw hr => ih w V a9 hF A x1 x2 x3 x4 x5 x6 x7 x9 x10 x11 x12 x13 (by omega) hr) w _ _ hF _ x1 x2 x3 x4 x5 x6 x7 x9 x10 x11 x12 x13 1 (by omega) hr _ _ ls hV hS (lv_sub hl [0, 1, 2, 3, 4, 5, 6, 7, 8, 9, 10, 11, 12, 13] rfl)
  have K_442 : ∀ (X_214 : Nat) (c_214 : St → (Nat → Int32) → Int32 → Int32 → Int32 → Int32 → Int32 → Int32 → Int32 → Int32 → Int32 → Int32 → Option (Int32 × St)) (hc_214 : ∀ (w : Nat) (V : St) (a9 : Nat) (hF : Fr G b0 a9) (A : Nat → Int32) (x1 : Int32) (x2 : Int32) (x3 : Int32) (x4 : Int32) (x5 : Int32) (x6 : Int32) (x7 : Int32) (x9 : Int32) (x10 : Int32) (x11 : Int32), w + X_214 ≤ 391 → c_214 V A x1 x2 x3 x4 x5 x6 x7 x9 x10 x11 = some res → ∀ (H : Heap) (locs : List Loc) (ls : Array Slot), Hd (xg G a9 (ai G 24 A)) b0 V H → va_S (Ab b0) s.heap H locs → lv_has ls 18 [(0, .ref (b0 + 0)), (1, .int x1), (2, .int x2), (3, .int x3), (4, .int x4), (5, .int x5), (6, .int x6), (7, .int x7), (8, .ref a9), (9, .int x9), (10, .int x10), (11, .int x11)] → W p l e (rmc 8 391) s m args below meth c H locs w (6 * w) (MQ below (QI G b0 res.1 res.2) args s 391 (6 * 391) (Ab b0)) (F0 m 214 ls [])) (w : Nat) (V : St) (a9 : Nat) (hF : Fr G b0 a9) (A : Nat → Int32) (x1 : Int32) (x2 : Int32) (x3 : Int32) (x4 : Int32) (x5 : Int32) (x6 : Int32) (x7 : Int32) (x9 : Int32) (x11 : Int32) (y0 : Int32), w + 0 + X_214 ≤ 391 → f_L_isNet_b442 c_214 V A x1 x2 x3 x4 x5 x6 x7 x9 x11 y0 = some res → ∀ (H : Heap) (locs : List Loc) (ls : Array Slot), Hd (xg G a9 (ai G 24 A)) b0 V H → va_S (Ab b0) s.heap H locs → lv_has ls 18 [(0, .ref (b0 + 0)), (1, .int x1), (2, .int x2), (3, .int x3), (4, .int x4), (5, .int x5), (6, .int x6), (7, .int x7), (8, .ref a9), (9, .int x9), (11, .int x11)] → W p l e (rmc 8 391) s m args below meth c H locs w (6 * w) (MQ below (QI G b0 res.1 res.2) args s 391 (6 * 391) (Ab b0)) (F0 m 442 ls [.int y0]) := by
    intro X_214 c_214 hc_214 w V a9 hF A x1 x2 x3 x4 x5 x6 x7 x9 x11 y0 hw hr H locs ls hV hS hl
    unfold f_L_isNet_b442 at hr
    refine lv_istore (lv' := [(10, .int y0), (0, .ref (b0 + 0)), (1, .int x1), (2, .int x2), (3, .int x3), (4, .int x4), (5, .int x5), (6, .int x6), (7, .int x7), (8, .ref a9), (9, .int x9), (11, .int x11)]) hx hb dL_isNet_442 hl (by decide) rfl (fun ls hl => ?_)
    refine lv_iinc (v := x11 + 1) (lv' := [(11, .int (x11 + 1)), (10, .int y0), (0, .ref (b0 + 0)), (1, .int x1), (2, .int x2), (3, .int x3), (4, .int x4), (5, .int x5), (6, .int x6), (7, .int x7), (8, .ref a9), (9, .int x9)]) hx hb dL_isNet_444 hl (k := 11) rfl rfl (by decide) rfl (fun ls hl => ?_)
    refine lv_goto (tgt := 214) hx hb dL_isNet_447 (by decide) ?_
    exact hc_214 w _ _ hF _ x1 x2 x3 x4 x5 x6 x7 x9 y0 (x11 + 1) (by omega) hr _ _ ls hV hS (lv_sub hl [2, 3, 4, 5, 6, 7, 8, 9, 10, 11, 1, 0] rfl)
  have K_411 : ∀ (X_214 : Nat) (c_214 : St → (Nat → Int32) → Int32 → Int32 → Int32 → Int32 → Int32 → Int32 → Int32 → Int32 → Int32 → Int32 → Option (Int32 × St)) (hc_214 : ∀ (w : Nat) (V : St) (a9 : Nat) (hF : Fr G b0 a9) (A : Nat → Int32) (x1 : Int32) (x2 : Int32) (x3 : Int32) (x4 : Int32) (x5 : Int32) (x6 : Int32) (x7 : Int32) (x9 : Int32) (x10 : Int32) (x11 : Int32), w + X_214 ≤ 391 → c_214 V A x1 x2 x3 x4 x5 x6 x7 x9 x10 x11 = some res → ∀ (H : Heap) (locs : List Loc) (ls : Array Slot), Hd (xg G a9 (ai G 24 A)) b0 V H → va_S (Ab b0) s.heap H locs → lv_has ls 18 [(0, .ref (b0 + 0)), (1, .int x1), (2, .int x2), (3, .int x3), (4, .int x4), (5, .int x5), (6, .int x6), (7, .int x7), (8, .ref a9), (9, .int x9), (10, .int x10), (11, .int x11)] → W p l e (rmc 8 391) s m args below meth c H locs w (6 * w) (MQ below (QI G b0 res.1 res.2) args s 391 (6 * 391) (Ab b0)) (F0 m 214 ls [])) (w : Nat) (V : St) (a9 : Nat) (hF : Fr G b0 a9) (A : Nat → Int32) (x1 : Int32) (x2 : Int32) (x3 : Int32) (x4 : Int32) (x5 : Int32) (x6 : Int32) (x7 : Int32) (x10 : Int32) (x11 : Int32) (y0 : Int32) (y1 : Int32), w + 1 + X_214 ≤ 391 → f_L_isNet_b411 c_214 V A x1 x2 x3 x4 x5 x6 x7 x10 x11 y0 y1 = some res → ∀ (H : Heap) (locs : List Loc) (ls : Array Slot), Hd (xg G a9 (ai G 24 A)) b0 V H → va_S (Ab b0) s.heap H locs → lv_has ls 18 [(0, .ref (b0 + 0)), (1, .int x1), (2, .int x2), (3, .int x3), (4, .int x4), (5, .int x5), (6, .int x6), (7, .int x7), (8, .ref a9), (10, .int x10), (11, .int x11)] → W p l e (rmc 8 391) s m args below meth c H locs w (6 * w) (MQ below (QI G b0 res.1 res.2) args s 391 (6 * 391) (Ab b0)) (F0 m 411 ls [.int y0, .int y1]) := by
    intro X_214 c_214 hc_214 w V a9 hF A x1 x2 x3 x4 x5 x6 x7 x10 x11 y0 y1 hw hr H locs ls hV hS hl
    unfold f_L_isNet_b411 at hr
    refine lv_iadd hx hb dL_isNet_411 ?_
    refine lv_istore (lv' := [(9, .int (y1 + y0)), (0, .ref (b0 + 0)), (1, .int x1), (2, .int x2), (3, .int x3), (4, .int x4), (5, .int x5), (6, .int x6), (7, .int x7), (8, .ref a9), (10, .int x10), (11, .int x11)]) hx hb dL_isNet_412 hl (by decide) rfl (fun ls hl => ?_)
    refine lv_aload hx hb dL_isNet_414 (lv_at hl 9 rfl) ?_
    refine lv_iload hx hb dL_isNet_416 (lv_at hl 11 rfl) ?_
    obtain ⟨j68, e68, hr⟩ := ob hr
    refine x_iald C hV e68 dL_isNet_418 ?_
    refine lv_iload hx hb dL_isNet_419 (lv_at hl 11 rfl) ?_
    refine lv_icmp_ne (tgt := 440) hx hb dL_isNet_421 (by decide) (fun b_69 => ?_) (fun b_69 => ?_)
    · have hr := ie b_69 hr
      refine lv_iload hx hb dL_isNet_440 (lv_at hl 10 rfl) ?_
      exact K_442 X_214 c_214 hc_214 w _ _ hF _ x1 x2 x3 x4 x5 x6 x7 (y1 + y0) x11 x10 (by omega) hr _ _ ls hV hS (lv_sub hl [1, 2, 3, 4, 5, 6, 7, 8, 9, 0, 11] rfl)
    · have hr := it b_69 hr
      refine lv_iload hx hb dL_isNet_424 (lv_at hl 10 rfl) ?_
      refine lv_aload_n hx hb dL_isNet_426 rfl (lv_at hl 1 rfl) ?_
      refine lv_iload_n hx hb dL_isNet_427 rfl (lv_at hl 2 rfl) ?_
      refine lv_iload hx hb dL_isNet_428 (lv_at hl 11 rfl) ?_
      refine lv_iconst (v := 1) hx hb dL_isNet_430 (by decide) ?_
      obtain ⟨q70, e70, hr⟩ := ob hr
      refine cal_ic (run_HC (As := [.ref (b0 + 0), .int x1, .int x11, .int 1]) (rest := [.int x10]) C.x hV hS (c_L_chapterOf l hfl (xg G a9 (ai G 24 A)) b0 V x1 x11 1 q70 e70) q_1343 q_1344 q_92 q_1345 dk_L_chapterOf (rmc_ok (by decide) (by decide)) hl.1 rfl (Nat.le_of_ble_eq_true rfl) dL_isNet_431 (rmc_cs (by omega))) hS (fun H locs hV hS => ?_)
      refine r_max (D := 7) C q_1358 q_706 q_112 q_707 hl.1 ⟨rfl, rfl⟩ (Nat.le_of_ble_eq_true rfl) (rmc_c0 (by omega)) dL_isNet_434 ?_
      refine W.eq (g2 := F0 m 437 ls [.int (imax x10 q70)]) rfl ?_
      refine lv_goto (tgt := 442) hx hb dL_isNet_437 (by decide) ?_
      exact K_442 X_214 c_214 hc_214 (w + 1) _ _ hF _ x1 x2 x3 x4 x5 x6 x7 (y1 + y0) x11 (imax x10 q70) (by omega) hr _ _ ls hV hS (lv_sub hl [1, 2, 3, 4, 5, 6, 7, 8, 9, 0, 11] rfl)
  have K_394 : ∀ (X_214 : Nat) (c_214 : St → (Nat → Int32) → Int32 → Int32 → Int32 → Int32 → Int32 → Int32 → Int32 → Int32 → Int32 → Int32 → Option (Int32 × St)) (hc_214 : ∀ (w : Nat) (V : St) (a9 : Nat) (hF : Fr G b0 a9) (A : Nat → Int32) (x1 : Int32) (x2 : Int32) (x3 : Int32) (x4 : Int32) (x5 : Int32) (x6 : Int32) (x7 : Int32) (x9 : Int32) (x10 : Int32) (x11 : Int32), w + X_214 ≤ 391 → c_214 V A x1 x2 x3 x4 x5 x6 x7 x9 x10 x11 = some res → ∀ (H : Heap) (locs : List Loc) (ls : Array Slot), Hd (xg G a9 (ai G 24 A)) b0 V H → va_S (Ab b0) s.heap H locs → lv_has ls 18 [(0, .ref (b0 + 0)), (1, .int x1), (2, .int x2), (3, .int x3), (4, .int x4), (5, .int x5), (6, .int x6), (7, .int x7), (8, .ref a9), (9, .int x9), (10, .int x10), (11, .int x11)] → W p l e (rmc 8 391) s m args below meth c H locs w (6 * w) (MQ below (QI G b0 res.1 res.2) args s 391 (6 * 391) (Ab b0)) (F0 m 214 ls [])) (w : Nat) (V : St) (a9 : Nat) (hF : Fr G b0 a9) (A : Nat → Int32) (x1 : Int32) (x2 : Int32) (x3 : Int32) (x4 : Int32) (x5 : Int32) (x6 : Int32) (x7 : Int32) (x9 : Int32) (x10 : Int32) (x11 : Int32), w + 1 + X_214 ≤ 391 → f_L_isNet_b394 c_214 V A x1 x2 x3 x4 x5 x6 x7 x9 x10 x11 = some res → ∀ (H : Heap) (locs : List Loc) (ls : Array Slot), Hd (xg G a9 (ai G 24 A)) b0 V H → va_S (Ab b0) s.heap H locs → lv_has ls 18 [(0, .ref (b0 + 0)), (1, .int x1), (2, .int x2), (3, .int x3), (4, .int x4), (5, .int x5), (6, .int x6), (7, .int x7), (8, .ref a9), (9, .int x9), (10, .int x10), (11, .int x11)] → W p l e (rmc 8 391) s m args below meth c H locs w (6 * w) (MQ below (QI G b0 res.1 res.2) args s 391 (6 * 391) (Ab b0)) (F0 m 394 ls []) := by
    intro X_214 c_214 hc_214 w V a9 hF A x1 x2 x3 x4 x5 x6 x7 x9 x10 x11 hw hr H locs ls hV hS hl
    unfold f_L_isNet_b394 at hr
    refine lv_iload hx hb dL_isNet_394 (lv_at hl 9 rfl) ?_
    refine lv_aload hx hb dL_isNet_396 (lv_at hl 8 rfl) ?_
    refine lv_iload hx hb dL_isNet_398 (lv_at hl 11 rfl) ?_
    obtain ⟨j71, e71, hr⟩ := ob hr
    refine x_iald C hV e71 dL_isNet_400 ?_
    refine lv_iload hx hb dL_isNet_401 (lv_at hl 11 rfl) ?_
    refine lv_icmp_ne (tgt := 410) hx hb dL_isNet_403 (by decide) (fun b_72 => ?_) (fun b_72 => ?_)
    · have hr := ie b_72 hr
      refine lv_iconst (v := 0) hx hb dL_isNet_410 (by decide) ?_
      exact K_411 X_214 c_214 hc_214 w _ _ hF _ x1 x2 x3 x4 x5 x6 x7 x10 x11 0 x9 (by omega) hr _ _ ls hV hS (lv_sub hl [0, 1, 2, 3, 4, 5, 6, 7, 8, 10, 11] rfl)
    · have hr := it b_72 hr
      refine lv_iconst (v := 1) hx hb dL_isNet_406 (by decide) ?_
      refine lv_goto (tgt := 411) hx hb dL_isNet_407 (by decide) ?_
      exact K_411 X_214 c_214 hc_214 w _ _ hF _ x1 x2 x3 x4 x5 x6 x7 x10 x11 1 x9 (by omega) hr _ _ ls hV hS (lv_sub hl [0, 1, 2, 3, 4, 5, 6, 7, 8, 10, 11] rfl)
  have K_358 : ∀ (X_214 : Nat) (c_214 : St → (Nat → Int32) → Int32 → Int32 → Int32 → Int32 → Int32 → Int32 → Int32 → Int32 → Int32 → Int32 → Option (Int32 × St)) (hc_214 : ∀ (w : Nat) (V : St) (a9 : Nat) (hF : Fr G b0 a9) (A : Nat → Int32) (x1 : Int32) (x2 : Int32) (x3 : Int32) (x4 : Int32) (x5 : Int32) (x6 : Int32) (x7 : Int32) (x9 : Int32) (x10 : Int32) (x11 : Int32), w + X_214 ≤ 391 → c_214 V A x1 x2 x3 x4 x5 x6 x7 x9 x10 x11 = some res → ∀ (H : Heap) (locs : List Loc) (ls : Array Slot), Hd (xg G a9 (ai G 24 A)) b0 V H → va_S (Ab b0) s.heap H locs → lv_has ls 18 [(0, .ref (b0 + 0)), (1, .int x1), (2, .int x2), (3, .int x3), (4, .int x4), (5, .int x5), (6, .int x6), (7, .int x7), (8, .ref a9), (9, .int x9), (10, .int x10), (11, .int x11)] → W p l e (rmc 8 391) s m args below meth c H locs w (6 * w) (MQ below (QI G b0 res.1 res.2) args s 391 (6 * 391) (Ab b0)) (F0 m 214 ls [])) (w : Nat) (V : St) (a9 : Nat) (hF : Fr G b0 a9) (A : Nat → Int32) (x1 : Int32) (x2 : Int32) (x3 : Int32) (x4 : Int32) (x5 : Int32) (x6 : Int32) (x7 : Int32) (x9 : Int32) (x10 : Int32) (x11 : Int32), w + 1 + X_214 ≤ 391 → f_L_isNet_b358 c_214 V A x1 x2 x3 x4 x5 x6 x7 x9 x10 x11 = some res → ∀ (H : Heap) (locs : List Loc) (ls : Array Slot), Hd (xg G a9 (ai G 24 A)) b0 V H → va_S (Ab b0) s.heap H locs → lv_has ls 18 [(0, .ref (b0 + 0)), (1, .int x1), (2, .int x2), (3, .int x3), (4, .int x4), (5, .int x5), (6, .int x6), (7, .int x7), (8, .ref a9), (9, .int x9), (10, .int x10), (11, .int x11)] → W p l e (rmc 8 391) s m args below meth c H locs w (6 * w) (MQ below (QI G b0 res.1 res.2) args s 391 (6 * 391) (Ab b0)) (F0 m 358 ls []) := by
    intro X_214 c_214 hc_214 w V a9 hF A x1 x2 x3 x4 x5 x6 x7 x9 x10 x11 hw hr H locs ls hV hS hl
    unfold f_L_isNet_b358 at hr
    refine lv_aload hx hb dL_isNet_358 (lv_at hl 8 rfl) ?_
    refine lv_iload hx hb dL_isNet_360 (lv_at hl 11 rfl) ?_
    obtain ⟨j73, e73, hr⟩ := ob hr
    refine x_iald C hV e73 dL_isNet_362 ?_
    refine lv_iload hx hb dL_isNet_363 (lv_at hl 11 rfl) ?_
    refine lv_icmp_gt (tgt := 392) hx hb dL_isNet_365 (by decide) (fun b_74 => ?_) (fun b_74 => ?_)
    · have hr := it b_74 hr
      refine lv_iconst (v := 0) hx hb dL_isNet_392 (by decide) ?_
      rw [← Option.some.inj hr]
      exact fin_zc (w := w) C hV.un hS (by omega) (by decide) rfl dL_isNet_393
    · have hr := ie b_74 hr
      refine lv_aload hx hb dL_isNet_368 (lv_at hl 8 rfl) ?_
      refine lv_iload hx hb dL_isNet_370 (lv_at hl 11 rfl) ?_
      obtain ⟨j75, e75, hr⟩ := ob hr
      refine x_iald C hV e75 dL_isNet_372 ?_
      refine lv_if_lt (tgt := 394) hx hb dL_isNet_373 (by decide) (fun b_76 => ?_) (fun b_76 => ?_)
      · have hr := it b_76 hr
        exact K_394 X_214 c_214 hc_214 w _ _ hF _ x1 x2 x3 x4 x5 x6 x7 x9 x10 x11 (by omega) hr _ _ ls hV hS (lv_sub hl [0, 1, 2, 3, 4, 5, 6, 7, 8, 9, 10, 11] rfl)
      · have hr := ie b_76 hr
        refine lv_aload hx hb dL_isNet_376 (lv_at hl 8 rfl) ?_
        refine lv_aload hx hb dL_isNet_378 (lv_at hl 8 rfl) ?_
        refine lv_iload hx hb dL_isNet_380 (lv_at hl 11 rfl) ?_
        obtain ⟨j77, e77, hr⟩ := ob hr
        refine x_iald C hV e77 dL_isNet_382 ?_
        obtain ⟨j78, e78, hr⟩ := ob hr
        refine x_iald C hV e78 dL_isNet_383 ?_
        refine lv_aload hx hb dL_isNet_384 (lv_at hl 8 rfl) ?_
        refine lv_iload hx hb dL_isNet_386 (lv_at hl 11 rfl) ?_
        obtain ⟨j79, e79, hr⟩ := ob hr
        refine x_iald C hV e79 dL_isNet_388 ?_
        refine lv_icmp_eq (tgt := 394) hx hb dL_isNet_389 (by decide) (fun b_80 => ?_) (fun b_80 => ?_)
        · have hr := it b_80 hr
          exact K_394 X_214 c_214 hc_214 w _ _ hF _ x1 x2 x3 x4 x5 x6 x7 x9 x10 x11 (by omega) hr _ _ ls hV hS (lv_sub hl [0, 1, 2, 3, 4, 5, 6, 7, 8, 9, 10, 11] rfl)
        · have hr := ie b_80 hr
          refine lv_iconst (v := 0) hx hb dL_isNet_392 (by decide) ?_
          rw [← Option.some.inj hr]
          exact fin_zc (w := w) C hV.un hS (by omega) (by decide) rfl dL_isNet_393
  have K_337 : ∀ (X_214 : Nat) (c_214 : St → (Nat → Int32) → Int32 → Int32 → Int32 → Int32 → Int32 → Int32 → Int32 → Int32 → Int32 → Int32 → Option (Int32 × St)) (hc_214 : ∀ (w : Nat) (V : St) (a9 : Nat) (hF : Fr G b0 a9) (A : Nat → Int32) (x1 : Int32) (x2 : Int32) (x3 : Int32) (x4 : Int32) (x5 : Int32) (x6 : Int32) (x7 : Int32) (x9 : Int32) (x10 : Int32) (x11 : Int32), w + X_214 ≤ 391 → c_214 V A x1 x2 x3 x4 x5 x6 x7 x9 x10 x11 = some res → ∀ (H : Heap) (locs : List Loc) (ls : Array Slot), Hd (xg G a9 (ai G 24 A)) b0 V H → va_S (Ab b0) s.heap H locs → lv_has ls 18 [(0, .ref (b0 + 0)), (1, .int x1), (2, .int x2), (3, .int x3), (4, .int x4), (5, .int x5), (6, .int x6), (7, .int x7), (8, .ref a9), (9, .int x9), (10, .int x10), (11, .int x11)] → W p l e (rmc 8 391) s m args below meth c H locs w (6 * w) (MQ below (QI G b0 res.1 res.2) args s 391 (6 * 391) (Ab b0)) (F0 m 214 ls [])) (w : Nat) (V : St) (a9 : Nat) (hF : Fr G b0 a9) (A : Nat → Int32) (x1 : Int32) (x2 : Int32) (x3 : Int32) (x4 : Int32) (x5 : Int32) (x6 : Int32) (x7 : Int32) (x9 : Int32) (x10 : Int32) (x11 : Int32) (x13 : Int32), w + 1 + X_214 ≤ 391 → f_L_isNet_b337 c_214 V A x1 x2 x3 x4 x5 x6 x7 x9 x10 x11 x13 = some res → ∀ (H : Heap) (locs : List Loc) (ls : Array Slot), Hd (xg G a9 (ai G 24 A)) b0 V H → va_S (Ab b0) s.heap H locs → lv_has ls 18 [(0, .ref (b0 + 0)), (1, .int x1), (2, .int x2), (3, .int x3), (4, .int x4), (5, .int x5), (6, .int x6), (7, .int x7), (8, .ref a9), (9, .int x9), (10, .int x10), (11, .int x11), (13, .int x13)] → W p l e (rmc 8 391) s m args below meth c H locs w (6 * w) (MQ below (QI G b0 res.1 res.2) args s 391 (6 * 391) (Ab b0)) (F0 m 337 ls []) := by
    intro X_214 c_214 hc_214 w V a9 hF A x1 x2 x3 x4 x5 x6 x7 x9 x10 x11 x13 hw hr H locs ls hV hS hl
    unfold f_L_isNet_b337 at hr
    refine lv_iload hx hb dL_isNet_337 (lv_at hl 12 rfl) ?_
    refine lv_if_eq (tgt := 358) hx hb dL_isNet_339 (by decide) (fun b_81 => ?_) (fun b_81 => ?_)
    · have hr := it b_81 hr
      exact K_358 X_214 c_214 hc_214 w _ _ hF _ x1 x2 x3 x4 x5 x6 x7 x9 x10 x11 (by omega) hr _ _ ls hV hS (lv_sub hl [0, 1, 2, 3, 4, 5, 6, 7, 8, 9, 10, 11] rfl)
    · have hr := ie b_81 hr
      refine lv_aload hx hb dL_isNet_342 (lv_at hl 8 rfl) ?_
      refine lv_iload hx hb dL_isNet_344 (lv_at hl 11 rfl) ?_
      obtain ⟨j82, e82, hr⟩ := ob hr
      refine x_iald C hV e82 dL_isNet_346 ?_
      refine lv_aload hx hb dL_isNet_347 (lv_at hl 8 rfl) ?_
      refine lv_iload hx hb dL_isNet_349 (lv_at hl 11 rfl) ?_
      refine lv_bipush (v := 6) hx hb dL_isNet_351 (by decide) ?_
      refine lv_iadd hx hb dL_isNet_353 ?_
      obtain ⟨j83, e83, hr⟩ := ob hr
      refine x_iald C hV e83 dL_isNet_354 ?_
      refine lv_icmp_ne (tgt := 392) hx hb dL_isNet_355 (by decide) (fun b_84 => ?_) (fun b_84 => ?_)
      · have hr := ie b_84 hr
        refine lv_iconst (v := 0) hx hb dL_isNet_392 (by decide) ?_
        rw [← Option.some.inj hr]
        exact fin_zc (w := w) C hV.un hS (by omega) (by decide) rfl dL_isNet_393
      · have hr := it b_84 hr
        exact K_358 X_214 c_214 hc_214 w _ _ hF _ x1 x2 x3 x4 x5 x6 x7 x9 x10 x11 (by omega) hr _ _ ls hV hS (lv_sub hl [0, 1, 2, 3, 4, 5, 6, 7, 8, 9, 10, 11] rfl)
  have K_315 : ∀ (X_214 : Nat) (c_214 : St → (Nat → Int32) → Int32 → Int32 → Int32 → Int32 → Int32 → Int32 → Int32 → Int32 → Int32 → Int32 → Option (Int32 × St)) (hc_214 : ∀ (w : Nat) (V : St) (a9 : Nat) (hF : Fr G b0 a9) (A : Nat → Int32) (x1 : Int32) (x2 : Int32) (x3 : Int32) (x4 : Int32) (x5 : Int32) (x6 : Int32) (x7 : Int32) (x9 : Int32) (x10 : Int32) (x11 : Int32), w + X_214 ≤ 391 → c_214 V A x1 x2 x3 x4 x5 x6 x7 x9 x10 x11 = some res → ∀ (H : Heap) (locs : List Loc) (ls : Array Slot), Hd (xg G a9 (ai G 24 A)) b0 V H → va_S (Ab b0) s.heap H locs → lv_has ls 18 [(0, .ref (b0 + 0)), (1, .int x1), (2, .int x2), (3, .int x3), (4, .int x4), (5, .int x5), (6, .int x6), (7, .int x7), (8, .ref a9), (9, .int x9), (10, .int x10), (11, .int x11)] → W p l e (rmc 8 391) s m args below meth c H locs w (6 * w) (MQ below (QI G b0 res.1 res.2) args s 391 (6 * 391) (Ab b0)) (F0 m 214 ls [])) (w : Nat) (V : St) (a9 : Nat) (hF : Fr G b0 a9) (A : Nat → Int32) (x1 : Int32) (x2 : Int32) (x3 : Int32) (x4 : Int32) (x5 : Int32) (x6 : Int32) (x7 : Int32) (x9 : Int32) (x10 : Int32) (x11 : Int32) (x12 : Int32) (y0 : Int32), w + 1 + X_214 ≤ 391 → f_L_isNet_b315 c_214 V A x1 x2 x3 x4 x5 x6 x7 x9 x10 x11 x12 y0 = some res → ∀ (H : Heap) (locs : List Loc) (ls : Array Slot), Hd (xg G a9 (ai G 24 A)) b0 V H → va_S (Ab b0) s.heap H locs → lv_has ls 18 [(0, .ref (b0 + 0)), (1, .int x1), (2, .int x2), (3, .int x3), (4, .int x4), (5, .int x5), (6, .int x6), (7, .int x7), (8, .ref a9), (9, .int x9), (10, .int x10), (11, .int x11), (12, .int x12)] → W p l e (rmc 8 391) s m args below meth c H locs w (6 * w) (MQ below (QI G b0 res.1 res.2) args s 391 (6 * 391) (Ab b0)) (F0 m 315 ls [.int y0]) := by
    intro X_214 c_214 hc_214 w V a9 hF A x1 x2 x3 x4 x5 x6 x7 x9 x10 x11 x12 y0 hw hr H locs ls hV hS hl
    unfold f_L_isNet_b315 at hr
    refine lv_istore (lv' := [(13, .int y0), (0, .ref (b0 + 0)), (1, .int x1), (2, .int x2), (3, .int x3), (4, .int x4), (5, .int x5), (6, .int x6), (7, .int x7), (8, .ref a9), (9, .int x9), (10, .int x10), (11, .int x11), (12, .int x12)]) hx hb dL_isNet_315 hl (by decide) rfl (fun ls hl => ?_)
    refine lv_iload hx hb dL_isNet_317 (lv_at hl 13 rfl) ?_
    refine lv_if_eq (tgt := 337) hx hb dL_isNet_319 (by decide) (fun b_85 => ?_) (fun b_85 => ?_)
    · have hr := it b_85 hr
      exact K_337 X_214 c_214 hc_214 w _ _ hF _ x1 x2 x3 x4 x5 x6 x7 x9 x10 x11 y0 (by omega) hr _ _ ls hV hS (lv_sub hl [1, 2, 3, 4, 5, 6, 7, 8, 9, 10, 11, 12, 0] rfl)
    · have hr := ie b_85 hr
      refine lv_aload hx hb dL_isNet_322 (lv_at hl 9 rfl) ?_
      refine lv_iload hx hb dL_isNet_324 (lv_at hl 12 rfl) ?_
      obtain ⟨j86, e86, hr⟩ := ob hr
      refine x_iald C hV e86 dL_isNet_326 ?_
      refine lv_aload hx hb dL_isNet_327 (lv_at hl 9 rfl) ?_
      refine lv_iload hx hb dL_isNet_329 (lv_at hl 12 rfl) ?_
      refine lv_iconst (v := 1) hx hb dL_isNet_331 (by decide) ?_
      refine lv_iadd hx hb dL_isNet_332 ?_
      obtain ⟨j87, e87, hr⟩ := ob hr
      refine x_iald C hV e87 dL_isNet_333 ?_
      refine lv_icmp_ne (tgt := 392) hx hb dL_isNet_334 (by decide) (fun b_88 => ?_) (fun b_88 => ?_)
      · have hr := ie b_88 hr
        refine lv_iconst (v := 0) hx hb dL_isNet_392 (by decide) ?_
        rw [← Option.some.inj hr]
        exact fin_zc (w := w) C hV.un hS (by omega) (by decide) rfl dL_isNet_393
      · have hr := it b_88 hr
        exact K_337 X_214 c_214 hc_214 w _ _ hF _ x1 x2 x3 x4 x5 x6 x7 x9 x10 x11 y0 (by omega) hr _ _ ls hV hS (lv_sub hl [1, 2, 3, 4, 5, 6, 7, 8, 9, 10, 11, 12, 0] rfl)
  have K_314 : ∀ (X_214 : Nat) (c_214 : St → (Nat → Int32) → Int32 → Int32 → Int32 → Int32 → Int32 → Int32 → Int32 → Int32 → Int32 → Int32 → Option (Int32 × St)) (hc_214 : ∀ (w : Nat) (V : St) (a9 : Nat) (hF : Fr G b0 a9) (A : Nat → Int32) (x1 : Int32) (x2 : Int32) (x3 : Int32) (x4 : Int32) (x5 : Int32) (x6 : Int32) (x7 : Int32) (x9 : Int32) (x10 : Int32) (x11 : Int32), w + X_214 ≤ 391 → c_214 V A x1 x2 x3 x4 x5 x6 x7 x9 x10 x11 = some res → ∀ (H : Heap) (locs : List Loc) (ls : Array Slot), Hd (xg G a9 (ai G 24 A)) b0 V H → va_S (Ab b0) s.heap H locs → lv_has ls 18 [(0, .ref (b0 + 0)), (1, .int x1), (2, .int x2), (3, .int x3), (4, .int x4), (5, .int x5), (6, .int x6), (7, .int x7), (8, .ref a9), (9, .int x9), (10, .int x10), (11, .int x11)] → W p l e (rmc 8 391) s m args below meth c H locs w (6 * w) (MQ below (QI G b0 res.1 res.2) args s 391 (6 * 391) (Ab b0)) (F0 m 214 ls [])) (w : Nat) (V : St) (a9 : Nat) (hF : Fr G b0 a9) (A : Nat → Int32) (x1 : Int32) (x2 : Int32) (x3 : Int32) (x4 : Int32) (x5 : Int32) (x6 : Int32) (x7 : Int32) (x9 : Int32) (x10 : Int32) (x11 : Int32) (x12 : Int32), w + 1 + X_214 ≤ 391 → f_L_isNet_b314 c_214 V A x1 x2 x3 x4 x5 x6 x7 x9 x10 x11 x12 = some res → ∀ (H : Heap) (locs : List Loc) (ls : Array Slot), Hd (xg G a9 (ai G 24 A)) b0 V H → va_S (Ab b0) s.heap H locs → lv_has ls 18 [(0, .ref (b0 + 0)), (1, .int x1), (2, .int x2), (3, .int x3), (4, .int x4), (5, .int x5), (6, .int x6), (7, .int x7), (8, .ref a9), (9, .int x9), (10, .int x10), (11, .int x11), (12, .int x12)] → W p l e (rmc 8 391) s m args below meth c H locs w (6 * w) (MQ below (QI G b0 res.1 res.2) args s 391 (6 * 391) (Ab b0)) (F0 m 314 ls []) := by
    intro X_214 c_214 hc_214 w V a9 hF A x1 x2 x3 x4 x5 x6 x7 x9 x10 x11 x12 hw hr H locs ls hV hS hl
    unfold f_L_isNet_b314 at hr
    refine lv_iconst (v := 0) hx hb dL_isNet_314 (by decide) ?_
    exact K_315 X_214 c_214 hc_214 w _ _ hF _ x1 x2 x3 x4 x5 x6 x7 x9 x10 x11 x12 0 (by omega) hr _ _ ls hV hS (lv_sub hl [0, 1, 2, 3, 4, 5, 6, 7, 8, 9, 10, 11, 12] rfl)
  have K_267 : ∀ (X_214 : Nat) (c_214 : St → (Nat → Int32) → Int32 → Int32 → Int32 → Int32 → Int32 → Int32 → Int32 → Int32 → Int32 → Int32 → Option (Int32 × St)) (hc_214 : ∀ (w : Nat) (V : St) (a9 : Nat) (hF : Fr G b0 a9) (A : Nat → Int32) (x1 : Int32) (x2 : Int32) (x3 : Int32) (x4 : Int32) (x5 : Int32) (x6 : Int32) (x7 : Int32) (x9 : Int32) (x10 : Int32) (x11 : Int32), w + X_214 ≤ 391 → c_214 V A x1 x2 x3 x4 x5 x6 x7 x9 x10 x11 = some res → ∀ (H : Heap) (locs : List Loc) (ls : Array Slot), Hd (xg G a9 (ai G 24 A)) b0 V H → va_S (Ab b0) s.heap H locs → lv_has ls 18 [(0, .ref (b0 + 0)), (1, .int x1), (2, .int x2), (3, .int x3), (4, .int x4), (5, .int x5), (6, .int x6), (7, .int x7), (8, .ref a9), (9, .int x9), (10, .int x10), (11, .int x11)] → W p l e (rmc 8 391) s m args below meth c H locs w (6 * w) (MQ below (QI G b0 res.1 res.2) args s 391 (6 * 391) (Ab b0)) (F0 m 214 ls [])) (w : Nat) (V : St) (a9 : Nat) (hF : Fr G b0 a9) (A : Nat → Int32) (x1 : Int32) (x2 : Int32) (x3 : Int32) (x4 : Int32) (x5 : Int32) (x6 : Int32) (x7 : Int32) (x9 : Int32) (x10 : Int32) (x11 : Int32) (y0 : Int32), w + 2 + X_214 ≤ 391 → f_L_isNet_b267 c_214 V A x1 x2 x3 x4 x5 x6 x7 x9 x10 x11 y0 = some res → ∀ (H : Heap) (locs : List Loc) (ls : Array Slot), Hd (xg G a9 (ai G 24 A)) b0 V H → va_S (Ab b0) s.heap H locs → lv_has ls 18 [(0, .ref (b0 + 0)), (1, .int x1), (2, .int x2), (3, .int x3), (4, .int x4), (5, .int x5), (6, .int x6), (7, .int x7), (8, .ref a9), (9, .int x9), (10, .int x10), (11, .int x11)] → W p l e (rmc 8 391) s m args below meth c H locs w (6 * w) (MQ below (QI G b0 res.1 res.2) args s 391 (6 * 391) (Ab b0)) (F0 m 267 ls [.int y0]) := by
    intro X_214 c_214 hc_214 w V a9 hF A x1 x2 x3 x4 x5 x6 x7 x9 x10 x11 y0 hw hr H locs ls hV hS hl
    unfold f_L_isNet_b267 at hr
    refine lv_istore (lv' := [(12, .int y0), (0, .ref (b0 + 0)), (1, .int x1), (2, .int x2), (3, .int x3), (4, .int x4), (5, .int x5), (6, .int x6), (7, .int x7), (8, .ref a9), (9, .int x9), (10, .int x10), (11, .int x11)]) hx hb dL_isNet_267 hl (by decide) rfl (fun ls hl => ?_)
    refine lv_iload hx hb dL_isNet_269 (lv_at hl 12 rfl) ?_
    refine lv_bipush (v := 18) hx hb dL_isNet_271 (by decide) ?_
    refine lv_icmp_ge (tgt := 314) hx hb dL_isNet_273 (by decide) (fun b_89 => ?_) (fun b_89 => ?_)
    · have hr := it b_89 hr
      exact K_314 X_214 c_214 hc_214 w _ _ hF _ x1 x2 x3 x4 x5 x6 x7 x9 x10 x11 y0 (by omega) hr _ _ ls hV hS (lv_sub hl [1, 2, 3, 4, 5, 6, 7, 8, 9, 10, 11, 12, 0] rfl)
    · have hr := ie b_89 hr
      refine lv_aload_n hx hb dL_isNet_276 rfl (lv_at hl 1 rfl) ?_
      refine lv_iload_n hx hb dL_isNet_277 rfl (lv_at hl 2 rfl) ?_
      refine lv_iload hx hb dL_isNet_278 (lv_at hl 12 rfl) ?_
      refine lv_iload hx hb dL_isNet_280 (lv_at hl 12 rfl) ?_
      refine lv_bipush (v := 6) hx hb dL_isNet_282 (by decide) ?_
      refine lv_iadd hx hb dL_isNet_284 ?_
      obtain ⟨q90, e90, hr⟩ := ob hr
      refine cal_ic (run_HC (As := [.ref (b0 + 0), .int x1, .int x11, .int (x11 + 6)]) (rest := []) C.x hV hS (c_L_torn l hfl (xg G a9 (ai G 24 A)) b0 V x1 x11 (x11 + 6) q90 e90) q_1265 q_1266 q_92 q_1267 dk_L_torn (rmc_ok (by decide) (by decide)) hl.1 rfl (Nat.le_of_ble_eq_true rfl) dL_isNet_285 (rmc_cs (by omega))) hS (fun H locs hV hS => ?_)
      refine lv_if_ne (tgt := 314) hx hb dL_isNet_288 (by decide) (fun b_91 => ?_) (fun b_91 => ?_)
      · have hr := ie b_91 hr
        exact K_314 X_214 c_214 hc_214 (w + 1) _ _ hF _ x1 x2 x3 x4 x5 x6 x7 x9 x10 x11 y0 (by omega) hr _ _ ls hV hS (lv_sub hl [1, 2, 3, 4, 5, 6, 7, 8, 9, 10, 11, 12, 0] rfl)
      · have hr := it b_91 hr
        refine lv_aload hx hb dL_isNet_291 (lv_at hl 9 rfl) ?_
        refine lv_iload hx hb dL_isNet_293 (lv_at hl 12 rfl) ?_
        obtain ⟨j92, e92, hr⟩ := ob hr
        refine x_iald C hV e92 dL_isNet_295 ?_
        refine lv_if_lt (tgt := 314) hx hb dL_isNet_296 (by decide) (fun b_93 => ?_) (fun b_93 => ?_)
        · have hr := it b_93 hr
          exact K_314 X_214 c_214 hc_214 (w + 1) _ _ hF _ x1 x2 x3 x4 x5 x6 x7 x9 x10 x11 y0 (by omega) hr _ _ ls hV hS (lv_sub hl [1, 2, 3, 4, 5, 6, 7, 8, 9, 10, 11, 12, 0] rfl)
        · have hr := ie b_93 hr
          refine lv_aload hx hb dL_isNet_299 (lv_at hl 9 rfl) ?_
          refine lv_iload hx hb dL_isNet_301 (lv_at hl 12 rfl) ?_
          refine lv_bipush (v := 6) hx hb dL_isNet_303 (by decide) ?_
          refine lv_iadd hx hb dL_isNet_305 ?_
          obtain ⟨j94, e94, hr⟩ := ob hr
          refine x_iald C hV e94 dL_isNet_306 ?_
          refine lv_if_lt (tgt := 314) hx hb dL_isNet_307 (by decide) (fun b_95 => ?_) (fun b_95 => ?_)
          · have hr := it b_95 hr
            exact K_314 X_214 c_214 hc_214 (w + 1) _ _ hF _ x1 x2 x3 x4 x5 x6 x7 x9 x10 x11 y0 (by omega) hr _ _ ls hV hS (lv_sub hl [1, 2, 3, 4, 5, 6, 7, 8, 9, 10, 11, 12, 0] rfl)
          · have hr := ie b_95 hr
            refine lv_iconst (v := 1) hx hb dL_isNet_310 (by decide) ?_
            refine lv_goto (tgt := 315) hx hb dL_isNet_311 (by decide) ?_
            exact K_315 X_214 c_214 hc_214 (w + 1) _ _ hF _ x1 x2 x3 x4 x5 x6 x7 x9 x10 x11 y0 1 (by omega) hr _ _ ls hV hS (lv_sub hl [1, 2, 3, 4, 5, 6, 7, 8, 9, 10, 11, 12, 0] rfl)
  have K_266 : ∀ (X_214 : Nat) (c_214 : St → (Nat → Int32) → Int32 → Int32 → Int32 → Int32 → Int32 → Int32 → Int32 → Int32 → Int32 → Int32 → Option (Int32 × St)) (hc_214 : ∀ (w : Nat) (V : St) (a9 : Nat) (hF : Fr G b0 a9) (A : Nat → Int32) (x1 : Int32) (x2 : Int32) (x3 : Int32) (x4 : Int32) (x5 : Int32) (x6 : Int32) (x7 : Int32) (x9 : Int32) (x10 : Int32) (x11 : Int32), w + X_214 ≤ 391 → c_214 V A x1 x2 x3 x4 x5 x6 x7 x9 x10 x11 = some res → ∀ (H : Heap) (locs : List Loc) (ls : Array Slot), Hd (xg G a9 (ai G 24 A)) b0 V H → va_S (Ab b0) s.heap H locs → lv_has ls 18 [(0, .ref (b0 + 0)), (1, .int x1), (2, .int x2), (3, .int x3), (4, .int x4), (5, .int x5), (6, .int x6), (7, .int x7), (8, .ref a9), (9, .int x9), (10, .int x10), (11, .int x11)] → W p l e (rmc 8 391) s m args below meth c H locs w (6 * w) (MQ below (QI G b0 res.1 res.2) args s 391 (6 * 391) (Ab b0)) (F0 m 214 ls [])) (w : Nat) (V : St) (a9 : Nat) (hF : Fr G b0 a9) (A : Nat → Int32) (x1 : Int32) (x2 : Int32) (x3 : Int32) (x4 : Int32) (x5 : Int32) (x6 : Int32) (x7 : Int32) (x9 : Int32) (x10 : Int32) (x11 : Int32), w + 2 + X_214 ≤ 391 → f_L_isNet_b266 c_214 V A x1 x2 x3 x4 x5 x6 x7 x9 x10 x11 = some res → ∀ (H : Heap) (locs : List Loc) (ls : Array Slot), Hd (xg G a9 (ai G 24 A)) b0 V H → va_S (Ab b0) s.heap H locs → lv_has ls 18 [(0, .ref (b0 + 0)), (1, .int x1), (2, .int x2), (3, .int x3), (4, .int x4), (5, .int x5), (6, .int x6), (7, .int x7), (8, .ref a9), (9, .int x9), (10, .int x10), (11, .int x11)] → W p l e (rmc 8 391) s m args below meth c H locs w (6 * w) (MQ below (QI G b0 res.1 res.2) args s 391 (6 * 391) (Ab b0)) (F0 m 266 ls []) := by
    intro X_214 c_214 hc_214 w V a9 hF A x1 x2 x3 x4 x5 x6 x7 x9 x10 x11 hw hr H locs ls hV hS hl
    unfold f_L_isNet_b266 at hr
    refine lv_iconst (v := 0) hx hb dL_isNet_266 (by decide) ?_
    exact K_267 X_214 c_214 hc_214 w _ _ hF _ x1 x2 x3 x4 x5 x6 x7 x9 x10 x11 0 (by omega) hr _ _ ls hV hS (lv_sub hl [0, 1, 2, 3, 4, 5, 6, 7, 8, 9, 10, 11] rfl)
  have K_214 : ∀ (n : Nat) (w : Nat) (V : St) (a9 : Nat) (hF : Fr G b0 a9) (A : Nat → Int32) (x1 : Int32) (x2 : Int32) (x3 : Int32) (x4 : Int32) (x5 : Int32) (x6 : Int32) (x7 : Int32) (x9 : Int32) (x10 : Int32) (x11 : Int32), w + n * 3 + 210 ≤ 391 → f_L_isNet_b214 n V A x1 x2 x3 x4 x5 x6 x7 x9 x10 x11 = some res → ∀ (H : Heap) (locs : List Loc) (ls : Array Slot), Hd (xg G a9 (ai G 24 A)) b0 V H → va_S (Ab b0) s.heap H locs → lv_has ls 18 [(0, .ref (b0 + 0)), (1, .int x1), (2, .int x2), (3, .int x3), (4, .int x4), (5, .int x5), (6, .int x6), (7, .int x7), (8, .ref a9), (9, .int x9), (10, .int x10), (11, .int x11)] → W p l e (rmc 8 391) s m args below meth c H locs w (6 * w) (MQ below (QI G b0 res.1 res.2) args s 391 (6 * 391) (Ab b0)) (F0 m 214 ls []) := by
    intro  n
    induction n with
    | zero =>
      intro w V a9 hF A x1 x2 x3 x4 x5 x6 x7 x9 x10 x11 hw hr
      rw [f_L_isNet_b214] at hr
      cases hr
    | succ n ih =>
      intro w V a9 hF A x1 x2 x3 x4 x5 x6 x7 x9 x10 x11 hw hr H locs ls hV hS hl
      rw [f_L_isNet_b214] at hr
      refine lv_iload hx hb dL_isNet_214 (lv_at hl 11 rfl) ?_
      refine lv_bipush (v := 24) hx hb dL_isNet_216 (by decide) ?_
      refine lv_icmp_ge (tgt := 450) hx hb dL_isNet_218 (by decide) (fun b_96 => ?_) (fun b_96 => ?_)
      · have hr := it b_96 hr
        refine lv_iconst (v := 0) hx hb dL_isNet_450 (by decide) ?_
        refine lv_istore (lv' := [(11, .int 0), (0, .ref (b0 + 0)), (1, .int x1), (2, .int x2), (3, .int x3), (4, .int x4), (5, .int x5), (6, .int x6), (7, .int x7), (8, .ref a9), (9, .int x9), (10, .int x10)]) hx hb dL_isNet_451 hl (by decide) rfl (fun ls hl => ?_)
        refine lv_iconst (v := 0) hx hb dL_isNet_453 (by decide) ?_
        refine lv_istore (lv' := [(12, .int 0), (11, .int 0), (0, .ref (b0 + 0)), (1, .int x1), (2, .int x2), (3, .int x3), (4, .int x4), (5, .int x5), (6, .int x6), (7, .int x7), (8, .ref a9), (9, .int x9), (10, .int x10)]) hx hb dL_isNet_454 hl (by decide) rfl (fun ls hl => ?_)
        refine lv_iconst (v := 0) hx hb dL_isNet_456 (by decide) ?_
        refine lv_istore (lv' := [(13, .int 0), (12, .int 0), (11, .int 0), (0, .ref (b0 + 0)), (1, .int x1), (2, .int x2), (3, .int x3), (4, .int x4), (5, .int x5), (6, .int x6), (7, .int x7), (8, .ref a9), (9, .int x9), (10, .int x10)]) hx hb dL_isNet_457 hl (by decide) rfl (fun ls hl => ?_)
        exact K_459 25 w _ _ hF _ x1 x2 x3 x4 x5 x6 x7 x9 x10 0 0 0 (by omega) hr _ _ ls hV hS (lv_sub hl [3, 4, 5, 6, 7, 8, 9, 10, 11, 12, 13, 2, 1, 0] rfl)
      · have hr := ie b_96 hr
        refine lv_iload hx hb dL_isNet_221 (lv_at hl 11 rfl) ?_
        refine lv_bipush (v := 6) hx hb dL_isNet_223 (by decide) ?_
        refine lv_irem hx hb dL_isNet_225 (by decide) ?_
        refine lv_iconst (v := 5) hx hb dL_isNet_226 (by decide) ?_
        refine lv_icmp_eq (tgt := 266) hx hb dL_isNet_227 (by decide) (fun b_97 => ?_) (fun b_97 => ?_)
        · have hr := it b_97 hr
          exact K_266 (n * 3 + 210) (fun V A x1 x2 x3 x4 x5 x6 x7 x9 x10 x11 => f_L_isNet_b214 n V A x1 x2 x3 x4 x5 x6 x7 x9 x10 x11) (fun w V a9 hF A x1 x2 x3 x4 x5 x6 x7 x9 x10 x11 hw hr => ih w V a9 hF A x1 x2 x3 x4 x5 x6 x7 x9 x10 x11 (by omega) hr) w _ _ hF _ x1 x2 x3 x4 x5 x6 x7 x9 x10 x11 (by omega) hr _ _ ls hV hS (lv_sub hl [0, 1, 2, 3, 4, 5, 6, 7, 8, 9, 10, 11] rfl)
        · have hr := ie b_97 hr
          refine lv_aload_n hx hb dL_isNet_230 rfl (lv_at hl 0 rfl) ?_
          refine lv_iload_n hx hb dL_isNet_231 rfl (lv_at hl 1 rfl) ?_
          refine lv_iload hx hb dL_isNet_232 (lv_at hl 11 rfl) ?_
          refine lv_iload hx hb dL_isNet_234 (lv_at hl 11 rfl) ?_
          refine lv_iconst (v := 1) hx hb dL_isNet_236 (by decide) ?_
          refine lv_iadd hx hb dL_isNet_237 ?_
          obtain ⟨q98, e98, hr⟩ := ob hr
          refine cal_ic (run_HC (As := [.ref (b0 + 0), .int x1, .int x11, .int (x11 + 1)]) (rest := []) C.x hV hS (c_L_torn l hfl (xg G a9 (ai G 24 A)) b0 V x1 x11 (x11 + 1) q98 e98) q_1265 q_1266 q_92 q_1267 dk_L_torn (rmc_ok (by decide) (by decide)) hl.1 rfl (Nat.le_of_ble_eq_true rfl) dL_isNet_238 (rmc_cs (by omega))) hS (fun H locs hV hS => ?_)
          refine lv_if_ne (tgt := 266) hx hb dL_isNet_241 (by decide) (fun b_99 => ?_) (fun b_99 => ?_)
          · have hr := ie b_99 hr
            exact K_266 (n * 3 + 210) (fun V A x1 x2 x3 x4 x5 x6 x7 x9 x10 x11 => f_L_isNet_b214 n V A x1 x2 x3 x4 x5 x6 x7 x9 x10 x11) (fun w V a9 hF A x1 x2 x3 x4 x5 x6 x7 x9 x10 x11 hw hr => ih w V a9 hF A x1 x2 x3 x4 x5 x6 x7 x9 x10 x11 (by omega) hr) (w + 1) _ _ hF _ x1 x2 x3 x4 x5 x6 x7 x9 x10 x11 (by omega) hr _ _ ls hV hS (lv_sub hl [0, 1, 2, 3, 4, 5, 6, 7, 8, 9, 10, 11] rfl)
          · have hr := it b_99 hr
            refine lv_aload hx hb dL_isNet_244 (lv_at hl 8 rfl) ?_
            refine lv_iload hx hb dL_isNet_246 (lv_at hl 11 rfl) ?_
            obtain ⟨j100, e100, hr⟩ := ob hr
            refine x_iald C hV e100 dL_isNet_248 ?_
            refine lv_if_lt (tgt := 266) hx hb dL_isNet_249 (by decide) (fun b_101 => ?_) (fun b_101 => ?_)
            · have hr := it b_101 hr
              exact K_266 (n * 3 + 210) (fun V A x1 x2 x3 x4 x5 x6 x7 x9 x10 x11 => f_L_isNet_b214 n V A x1 x2 x3 x4 x5 x6 x7 x9 x10 x11) (fun w V a9 hF A x1 x2 x3 x4 x5 x6 x7 x9 x10 x11 hw hr => ih w V a9 hF A x1 x2 x3 x4 x5 x6 x7 x9 x10 x11 (by omega) hr) (w + 1) _ _ hF _ x1 x2 x3 x4 x5 x6 x7 x9 x10 x11 (by omega) hr _ _ ls hV hS (lv_sub hl [0, 1, 2, 3, 4, 5, 6, 7, 8, 9, 10, 11] rfl)
            · have hr := ie b_101 hr
              refine lv_aload hx hb dL_isNet_252 (lv_at hl 8 rfl) ?_
              refine lv_iload hx hb dL_isNet_254 (lv_at hl 11 rfl) ?_
              refine lv_iconst (v := 1) hx hb dL_isNet_256 (by decide) ?_
              refine lv_iadd hx hb dL_isNet_257 ?_
              obtain ⟨j102, e102, hr⟩ := ob hr
              refine x_iald C hV e102 dL_isNet_258 ?_
              refine lv_if_lt (tgt := 266) hx hb dL_isNet_259 (by decide) (fun b_103 => ?_) (fun b_103 => ?_)
              · have hr := it b_103 hr
                exact K_266 (n * 3 + 210) (fun V A x1 x2 x3 x4 x5 x6 x7 x9 x10 x11 => f_L_isNet_b214 n V A x1 x2 x3 x4 x5 x6 x7 x9 x10 x11) (fun w V a9 hF A x1 x2 x3 x4 x5 x6 x7 x9 x10 x11 hw hr => ih w V a9 hF A x1 x2 x3 x4 x5 x6 x7 x9 x10 x11 (by omega) hr) (w + 1) _ _ hF _ x1 x2 x3 x4 x5 x6 x7 x9 x10 x11 (by omega) hr _ _ ls hV hS (lv_sub hl [0, 1, 2, 3, 4, 5, 6, 7, 8, 9, 10, 11] rfl)
              · have hr := ie b_103 hr
                refine lv_iconst (v := 1) hx hb dL_isNet_262 (by decide) ?_
                refine lv_goto (tgt := 267) hx hb dL_isNet_263 (by decide) ?_
                exact K_267 (n * 3 + 210) (fun V A x1 x2 x3 x4 x5 x6 x7 x9 x10 x11 => f_L_isNet_b214 n V A x1 x2 x3 x4 x5 x6 x7 x9 x10 x11) (fun w V a9 hF A x1 x2 x3 x4 x5 x6 x7 x9 x10 x11 hw hr => ih w V a9 hF A x1 x2 x3 x4 x5 x6 x7 x9 x10 x11 (by omega) hr) (w + 1) _ _ hF _ x1 x2 x3 x4 x5 x6 x7 x9 x10 x11 1 (by omega) hr _ _ ls hV hS (lv_sub hl [0, 1, 2, 3, 4, 5, 6, 7, 8, 9, 10, 11] rfl)
  have K_198 : ∀ (X_39 : Nat) (c_39 : St → (Nat → Int32) → Int32 → Int32 → Int32 → Int32 → Int32 → Int32 → Int32 → Int32 → Option (Int32 × St)) (hc_39 : ∀ (w : Nat) (V : St) (a9 : Nat) (hF : Fr G b0 a9) (A : Nat → Int32) (x1 : Int32) (x2 : Int32) (x3 : Int32) (x4 : Int32) (x5 : Int32) (x6 : Int32) (x7 : Int32) (x9 : Int32), w + X_39 ≤ 391 → c_39 V A x1 x2 x3 x4 x5 x6 x7 x9 = some res → ∀ (H : Heap) (locs : List Loc) (ls : Array Slot), Hd (xg G a9 (ai G 24 A)) b0 V H → va_S (Ab b0) s.heap H locs → lv_has ls 18 [(0, .ref (b0 + 0)), (1, .int x1), (2, .int x2), (3, .int x3), (4, .int x4), (5, .int x5), (6, .int x6), (7, .int x7), (8, .ref a9), (9, .int x9)] → W p l e (rmc 8 391) s m args below meth c H locs w (6 * w) (MQ below (QI G b0 res.1 res.2) args s 391 (6 * 391) (Ab b0)) (F0 m 39 ls [])) (w : Nat) (V : St) (a9 : Nat) (hF : Fr G b0 a9) (A : Nat → Int32) (x1 : Int32) (x2 : Int32) (x3 : Int32) (x4 : Int32) (x5 : Int32) (x6 : Int32) (x7 : Int32) (x9 : Int32) (y0 : Int32) (y1 : Int32), w + 0 + X_39 ≤ 391 → f_L_isNet_b198 c_39 V A x1 x2 x3 x4 x5 x6 x7 x9 y0 y1 = some res → ∀ (H : Heap) (locs : List Loc) (ls : Array Slot), Hd (xg G a9 (ai G 24 A)) b0 V H → va_S (Ab b0) s.heap H locs → lv_has ls 18 [(0, .ref (b0 + 0)), (1, .int x1), (2, .int x2), (3, .int x3), (4, .int x4), (5, .int x5), (6, .int x6), (7, .int x7), (8, .ref a9), (9, .int x9)] → W p l e (rmc 8 391) s m args below meth c H locs w (6 * w) (MQ below (QI G b0 res.1 res.2) args s 391 (6 * 391) (Ab b0)) (F0 m 198 ls [.int y0, .int y1, .ref a9]) := by
    intro X_39 c_39 hc_39 w V a9 hF A x1 x2 x3 x4 x5 x6 x7 x9 y0 y1 hw hr H locs ls hV hS hl
    unfold f_L_isNet_b198 at hr
    obtain ⟨j104, e104, hr⟩ := ob hr
    refine x_iast C hV hF hS e104 dL_isNet_198 (fun H locs hV hS => ?_)
    refine lv_iinc (v := x9 + 1) (lv' := [(9, .int (x9 + 1)), (0, .ref (b0 + 0)), (1, .int x1), (2, .int x2), (3, .int x3), (4, .int x4), (5, .int x5), (6, .int x6), (7, .int x7), (8, .ref a9)]) hx hb dL_isNet_199 hl (k := 9) rfl rfl (by decide) rfl (fun ls hl => ?_)
    refine lv_goto (tgt := 39) hx hb dL_isNet_202 (by decide) ?_
    exact hc_39 w _ _ hF _ x1 x2 x3 x4 x5 x6 x7 (x9 + 1) (by omega) hr _ _ ls hV hS (lv_sub hl [1, 2, 3, 4, 5, 6, 7, 8, 9, 0] rfl)
  have K_153 : ∀ (X_39 : Nat) (c_39 : St → (Nat → Int32) → Int32 → Int32 → Int32 → Int32 → Int32 → Int32 → Int32 → Int32 → Option (Int32 × St)) (hc_39 : ∀ (w : Nat) (V : St) (a9 : Nat) (hF : Fr G b0 a9) (A : Nat → Int32) (x1 : Int32) (x2 : Int32) (x3 : Int32) (x4 : Int32) (x5 : Int32) (x6 : Int32) (x7 : Int32) (x9 : Int32), w + X_39 ≤ 391 → c_39 V A x1 x2 x3 x4 x5 x6 x7 x9 = some res → ∀ (H : Heap) (locs : List Loc) (ls : Array Slot), Hd (xg G a9 (ai G 24 A)) b0 V H → va_S (Ab b0) s.heap H locs → lv_has ls 18 [(0, .ref (b0 + 0)), (1, .int x1), (2, .int x2), (3, .int x3), (4, .int x4), (5, .int x5), (6, .int x6), (7, .int x7), (8, .ref a9), (9, .int x9)] → W p l e (rmc 8 391) s m args below meth c H locs w (6 * w) (MQ below (QI G b0 res.1 res.2) args s 391 (6 * 391) (Ab b0)) (F0 m 39 ls [])) (w : Nat) (V : St) (a9 : Nat) (hF : Fr G b0 a9) (A : Nat → Int32) (x1 : Int32) (x2 : Int32) (x3 : Int32) (x4 : Int32) (x5 : Int32) (x6 : Int32) (x7 : Int32) (x9 : Int32) (x10 : Int32) (x11 : Int32) (y0 : Int32), w + 1 + X_39 ≤ 391 → f_L_isNet_b153 c_39 V A x1 x2 x3 x4 x5 x6 x7 x9 x10 x11 y0 = some res → ∀ (H : Heap) (locs : List Loc) (ls : Array Slot), Hd (xg G a9 (ai G 24 A)) b0 V H → va_S (Ab b0) s.heap H locs → lv_has ls 18 [(0, .ref (b0 + 0)), (1, .int x1), (2, .int x2), (3, .int x3), (4, .int x4), (5, .int x5), (6, .int x6), (7, .int x7), (8, .ref a9), (9, .int x9), (10, .int x10), (11, .int x11)] → W p l e (rmc 8 391) s m args below meth c H locs w (6 * w) (MQ below (QI G b0 res.1 res.2) args s 391 (6 * 391) (Ab b0)) (F0 m 153 ls [.int y0]) := by
    intro X_39 c_39 hc_39 w V a9 hF A x1 x2 x3 x4 x5 x6 x7 x9 x10 x11 y0 hw hr H locs ls hV hS hl
    unfold f_L_isNet_b153 at hr
    refine lv_istore (lv' := [(12, .int y0), (0, .ref (b0 + 0)), (1, .int x1), (2, .int x2), (3, .int x3), (4, .int x4), (5, .int x5), (6, .int x6), (7, .int x7), (8, .ref a9), (9, .int x9), (10, .int x10), (11, .int x11)]) hx hb dL_isNet_153 hl (by decide) rfl (fun ls hl => ?_)
    refine lv_iload hx hb dL_isNet_155 (lv_at hl 7 rfl) ?_
    refine lv_iload hx hb dL_isNet_157 (lv_at hl 12 rfl) ?_
    refine lv_iload hx hb dL_isNet_159 (lv_at hl 0 rfl) ?_
    refine lv_iadd hx hb dL_isNet_161 ?_
    refine lv_iadd hx hb dL_isNet_162 ?_
    refine lv_istore (lv' := [(6, .int (x6 + (x11 + y0))), (12, .int y0), (0, .ref (b0 + 0)), (1, .int x1), (2, .int x2), (3, .int x3), (4, .int x4), (5, .int x5), (7, .int x7), (8, .ref a9), (9, .int x9), (10, .int x10), (11, .int x11)]) hx hb dL_isNet_163 hl (by decide) rfl (fun ls hl => ?_)
    refine lv_iload hx hb dL_isNet_165 (lv_at hl 8 rfl) ?_
    refine lv_iload hx hb dL_isNet_167 (lv_at hl 12 rfl) ?_
    refine lv_iconst (v := 2) hx hb dL_isNet_169 (by decide) ?_
    refine lv_iload hx hb dL_isNet_170 (lv_at hl 1 rfl) ?_
    refine lv_imul hx hb dL_isNet_172 ?_
    refine lv_iadd hx hb dL_isNet_173 ?_
    refine lv_iadd hx hb dL_isNet_174 ?_
    refine lv_istore (lv' := [(7, .int (x7 + (x11 + (2 * y0)))), (6, .int (x6 + (x11 + y0))), (12, .int y0), (0, .ref (b0 + 0)), (1, .int x1), (2, .int x2), (3, .int x3), (4, .int x4), (5, .int x5), (8, .ref a9), (9, .int x9), (10, .int x10), (11, .int x11)]) hx hb dL_isNet_175 hl (by decide) rfl (fun ls hl => ?_)
    refine lv_aload hx hb dL_isNet_177 (lv_at hl 9 rfl) ?_
    refine lv_iload hx hb dL_isNet_179 (lv_at hl 10 rfl) ?_
    refine lv_iload hx hb dL_isNet_181 (lv_at hl 11 rfl) ?_
    refine lv_if_eq (tgt := 197) hx hb dL_isNet_183 (by decide) (fun b_105 => ?_) (fun b_105 => ?_)
    · have hr := it b_105 hr
      refine lv_iconst (v := (-1)) hx hb dL_isNet_197 (by decide) ?_
      exact K_198 X_39 c_39 hc_39 w _ _ hF _ x1 x2 x3 x4 x5 (x6 + (x11 + y0)) (x7 + (x11 + (2 * y0))) x9 (-1) x9 (by omega) hr _ _ ls hV hS (lv_sub hl [3, 4, 5, 6, 7, 8, 1, 0, 9, 10] rfl)
    · have hr := ie b_105 hr
      refine lv_aload_n hx hb dL_isNet_186 rfl (lv_at hl 3 rfl) ?_
      refine lv_iload_n hx hb dL_isNet_187 rfl (lv_at hl 4 rfl) ?_
      refine lv_iload hx hb dL_isNet_188 (lv_at hl 10 rfl) ?_
      refine lv_iconst (v := 0) hx hb dL_isNet_190 (by decide) ?_
      obtain ⟨q106, e106, hr⟩ := ob hr
      refine cal_ic (run_HC (As := [.ref (b0 + 0), .int x1, .int x9, .int 0]) (rest := [.int x9, .ref a9]) C.x hV hS (c_L_chapterOf l hfl (xg G a9 (ai G 24 A)) b0 V x1 x9 0 q106 e106) q_1343 q_1344 q_92 q_1345 dk_L_chapterOf (rmc_ok (by decide) (by decide)) hl.1 rfl (Nat.le_of_ble_eq_true rfl) dL_isNet_191 (rmc_cs (by omega))) hS (fun H locs hV hS => ?_)
      refine lv_goto (tgt := 198) hx hb dL_isNet_194 (by decide) ?_
      exact K_198 X_39 c_39 hc_39 (w + 1) _ _ hF _ x1 x2 x3 x4 x5 (x6 + (x11 + y0)) (x7 + (x11 + (2 * y0))) x9 q106 x9 (by omega) hr _ _ ls hV hS (lv_sub hl [3, 4, 5, 6, 7, 8, 1, 0, 9, 10] rfl)
  have K_128 : ∀ (X_39 : Nat) (c_39 : St → (Nat → Int32) → Int32 → Int32 → Int32 → Int32 → Int32 → Int32 → Int32 → Int32 → Option (Int32 × St)) (hc_39 : ∀ (w : Nat) (V : St) (a9 : Nat) (hF : Fr G b0 a9) (A : Nat → Int32) (x1 : Int32) (x2 : Int32) (x3 : Int32) (x4 : Int32) (x5 : Int32) (x6 : Int32) (x7 : Int32) (x9 : Int32), w + X_39 ≤ 391 → c_39 V A x1 x2 x3 x4 x5 x6 x7 x9 = some res → ∀ (H : Heap) (locs : List Loc) (ls : Array Slot), Hd (xg G a9 (ai G 24 A)) b0 V H → va_S (Ab b0) s.heap H locs → lv_has ls 18 [(0, .ref (b0 + 0)), (1, .int x1), (2, .int x2), (3, .int x3), (4, .int x4), (5, .int x5), (6, .int x6), (7, .int x7), (8, .ref a9), (9, .int x9)] → W p l e (rmc 8 391) s m args below meth c H locs w (6 * w) (MQ below (QI G b0 res.1 res.2) args s 391 (6 * 391) (Ab b0)) (F0 m 39 ls [])) (w : Nat) (V : St) (a9 : Nat) (hF : Fr G b0 a9) (A : Nat → Int32) (x1 : Int32) (x2 : Int32) (x3 : Int32) (x4 : Int32) (x5 : Int32) (x6 : Int32) (x7 : Int32) (x9 : Int32) (x10 : Int32) (y0 : Int32), w + 2 + X_39 ≤ 391 → f_L_isNet_b128 c_39 V A x1 x2 x3 x4 x5 x6 x7 x9 x10 y0 = some res → ∀ (H : Heap) (locs : List Loc) (ls : Array Slot), Hd (xg G a9 (ai G 24 A)) b0 V H → va_S (Ab b0) s.heap H locs → lv_has ls 18 [(0, .ref (b0 + 0)), (1, .int x1), (2, .int x2), (3, .int x3), (4, .int x4), (5, .int x5), (6, .int x6), (7, .int x7), (8, .ref a9), (9, .int x9), (10, .int x10)] → W p l e (rmc 8 391) s m args below meth c H locs w (6 * w) (MQ below (QI G b0 res.1 res.2) args s 391 (6 * 391) (Ab b0)) (F0 m 128 ls [.int y0]) := by
    intro X_39 c_39 hc_39 w V a9 hF A x1 x2 x3 x4 x5 x6 x7 x9 x10 y0 hw hr H locs ls hV hS hl
    unfold f_L_isNet_b128 at hr
    refine lv_istore (lv' := [(11, .int y0), (0, .ref (b0 + 0)), (1, .int x1), (2, .int x2), (3, .int x3), (4, .int x4), (5, .int x5), (6, .int x6), (7, .int x7), (8, .ref a9), (9, .int x9), (10, .int x10)]) hx hb dL_isNet_128 hl (by decide) rfl (fun ls hl => ?_)
    refine lv_iload hx hb dL_isNet_130 (lv_at hl 10 rfl) ?_
    refine lv_bipush (v := 17) hx hb dL_isNet_132 (by decide) ?_
    refine lv_icmp_le (tgt := 141) hx hb dL_isNet_134 (by decide) (fun b_107 => ?_) (fun b_107 => ?_)
    · have hr := it b_107 hr
      refine lv_aload_n hx hb dL_isNet_141 rfl (lv_at hl 1 rfl) ?_
      refine lv_iload_n hx hb dL_isNet_142 rfl (lv_at hl 2 rfl) ?_
      refine lv_iload hx hb dL_isNet_143 (lv_at hl 10 rfl) ?_
      refine lv_iload hx hb dL_isNet_145 (lv_at hl 10 rfl) ?_
      refine lv_bipush (v := 6) hx hb dL_isNet_147 (by decide) ?_
      refine lv_iadd hx hb dL_isNet_149 ?_
      obtain ⟨q108, e108, hr⟩ := ob hr
      refine cal_ic (run_HC (As := [.ref (b0 + 0), .int x1, .int x9, .int (x9 + 6)]) (rest := []) C.x hV hS (c_L_torn l hfl (xg G a9 (ai G 24 A)) b0 V x1 x9 (x9 + 6) q108 e108) q_1265 q_1266 q_92 q_1267 dk_L_torn (rmc_ok (by decide) (by decide)) hl.1 rfl (Nat.le_of_ble_eq_true rfl) dL_isNet_150 (rmc_cs (by omega))) hS (fun H locs hV hS => ?_)
      exact K_153 X_39 c_39 hc_39 (w + 1) _ _ hF _ x1 x2 x3 x4 x5 x6 x7 x9 x10 y0 q108 (by omega) hr _ _ ls hV hS (lv_sub hl [1, 2, 3, 4, 5, 6, 7, 8, 9, 10, 11, 0] rfl)
    · have hr := ie b_107 hr
      refine lv_iconst (v := 0) hx hb dL_isNet_137 (by decide) ?_
      refine lv_goto (tgt := 153) hx hb dL_isNet_138 (by decide) ?_
      exact K_153 X_39 c_39 hc_39 w _ _ hF _ x1 x2 x3 x4 x5 x6 x7 x9 x10 y0 0 (by omega) hr _ _ ls hV hS (lv_sub hl [1, 2, 3, 4, 5, 6, 7, 8, 9, 10, 11, 0] rfl)
  have K_101 : ∀ (X_39 : Nat) (c_39 : St → (Nat → Int32) → Int32 → Int32 → Int32 → Int32 → Int32 → Int32 → Int32 → Int32 → Option (Int32 × St)) (hc_39 : ∀ (w : Nat) (V : St) (a9 : Nat) (hF : Fr G b0 a9) (A : Nat → Int32) (x1 : Int32) (x2 : Int32) (x3 : Int32) (x4 : Int32) (x5 : Int32) (x6 : Int32) (x7 : Int32) (x9 : Int32), w + X_39 ≤ 391 → c_39 V A x1 x2 x3 x4 x5 x6 x7 x9 = some res → ∀ (H : Heap) (locs : List Loc) (ls : Array Slot), Hd (xg G a9 (ai G 24 A)) b0 V H → va_S (Ab b0) s.heap H locs → lv_has ls 18 [(0, .ref (b0 + 0)), (1, .int x1), (2, .int x2), (3, .int x3), (4, .int x4), (5, .int x5), (6, .int x6), (7, .int x7), (8, .ref a9), (9, .int x9)] → W p l e (rmc 8 391) s m args below meth c H locs w (6 * w) (MQ below (QI G b0 res.1 res.2) args s 391 (6 * 391) (Ab b0)) (F0 m 39 ls [])) (w : Nat) (V : St) (a9 : Nat) (hF : Fr G b0 a9) (A : Nat → Int32) (x1 : Int32) (x2 : Int32) (x3 : Int32) (x4 : Int32) (x6 : Int32) (x7 : Int32) (x9 : Int32) (x10 : Int32) (y0 : Int32) (y1 : Int32), w + 3 + X_39 ≤ 391 → f_L_isNet_b101 c_39 V A x1 x2 x3 x4 x6 x7 x9 x10 y0 y1 = some res → ∀ (H : Heap) (locs : List Loc) (ls : Array Slot), Hd (xg G a9 (ai G 24 A)) b0 V H → va_S (Ab b0) s.heap H locs → lv_has ls 18 [(0, .ref (b0 + 0)), (1, .int x1), (2, .int x2), (3, .int x3), (4, .int x4), (6, .int x6), (7, .int x7), (8, .ref a9), (9, .int x9), (10, .int x10)] → W p l e (rmc 8 391) s m args below meth c H locs w (6 * w) (MQ below (QI G b0 res.1 res.2) args s 391 (6 * 391) (Ab b0)) (F0 m 101 ls [.int y0, .int y1]) := by
    intro X_39 c_39 hc_39 w V a9 hF A x1 x2 x3 x4 x6 x7 x9 x10 y0 y1 hw hr H locs ls hV hS hl
    unfold f_L_isNet_b101 at hr
    refine lv_iadd hx hb dL_isNet_101 ?_
    refine lv_istore (lv' := [(5, .int (y1 + y0)), (0, .ref (b0 + 0)), (1, .int x1), (2, .int x2), (3, .int x3), (4, .int x4), (6, .int x6), (7, .int x7), (8, .ref a9), (9, .int x9), (10, .int x10)]) hx hb dL_isNet_102 hl (by decide) rfl (fun ls hl => ?_)
    refine lv_iload hx hb dL_isNet_104 (lv_at hl 9 rfl) ?_
    refine lv_bipush (v := 6) hx hb dL_isNet_106 (by decide) ?_
    refine lv_irem hx hb dL_isNet_108 (by decide) ?_
    refine lv_iconst (v := 5) hx hb dL_isNet_109 (by decide) ?_
    refine lv_icmp_ne (tgt := 117) hx hb dL_isNet_110 (by decide) (fun b_109 => ?_) (fun b_109 => ?_)
    · have hr := ie b_109 hr
      refine lv_aload_n hx hb dL_isNet_117 rfl (lv_at hl 1 rfl) ?_
      refine lv_iload_n hx hb dL_isNet_118 rfl (lv_at hl 2 rfl) ?_
      refine lv_iload hx hb dL_isNet_119 (lv_at hl 9 rfl) ?_
      refine lv_iload hx hb dL_isNet_121 (lv_at hl 9 rfl) ?_
      refine lv_iconst (v := 1) hx hb dL_isNet_123 (by decide) ?_
      refine lv_iadd hx hb dL_isNet_124 ?_
      obtain ⟨q110, e110, hr⟩ := ob hr
      refine cal_ic (run_HC (As := [.ref (b0 + 0), .int x1, .int x9, .int (x9 + 1)]) (rest := []) C.x hV hS (c_L_torn l hfl (xg G a9 (ai G 24 A)) b0 V x1 x9 (x9 + 1) q110 e110) q_1265 q_1266 q_92 q_1267 dk_L_torn (rmc_ok (by decide) (by decide)) hl.1 rfl (Nat.le_of_ble_eq_true rfl) dL_isNet_125 (rmc_cs (by omega))) hS (fun H locs hV hS => ?_)
      exact K_128 X_39 c_39 hc_39 (w + 1) _ _ hF _ x1 x2 x3 x4 (y1 + y0) x6 x7 x9 x10 q110 (by omega) hr _ _ ls hV hS (lv_sub hl [1, 2, 3, 4, 5, 0, 6, 7, 8, 9, 10] rfl)
    · have hr := it b_109 hr
      refine lv_iconst (v := 0) hx hb dL_isNet_113 (by decide) ?_
      refine lv_goto (tgt := 128) hx hb dL_isNet_114 (by decide) ?_
      exact K_128 X_39 c_39 hc_39 w _ _ hF _ x1 x2 x3 x4 (y1 + y0) x6 x7 x9 x10 0 (by omega) hr _ _ ls hV hS (lv_sub hl [1, 2, 3, 4, 5, 0, 6, 7, 8, 9, 10] rfl)
  have K_100 : ∀ (X_39 : Nat) (c_39 : St → (Nat → Int32) → Int32 → Int32 → Int32 → Int32 → Int32 → Int32 → Int32 → Int32 → Option (Int32 × St)) (hc_39 : ∀ (w : Nat) (V : St) (a9 : Nat) (hF : Fr G b0 a9) (A : Nat → Int32) (x1 : Int32) (x2 : Int32) (x3 : Int32) (x4 : Int32) (x5 : Int32) (x6 : Int32) (x7 : Int32) (x9 : Int32), w + X_39 ≤ 391 → c_39 V A x1 x2 x3 x4 x5 x6 x7 x9 = some res → ∀ (H : Heap) (locs : List Loc) (ls : Array Slot), Hd (xg G a9 (ai G 24 A)) b0 V H → va_S (Ab b0) s.heap H locs → lv_has ls 18 [(0, .ref (b0 + 0)), (1, .int x1), (2, .int x2), (3, .int x3), (4, .int x4), (5, .int x5), (6, .int x6), (7, .int x7), (8, .ref a9), (9, .int x9)] → W p l e (rmc 8 391) s m args below meth c H locs w (6 * w) (MQ below (QI G b0 res.1 res.2) args s 391 (6 * 391) (Ab b0)) (F0 m 39 ls [])) (w : Nat) (V : St) (a9 : Nat) (hF : Fr G b0 a9) (A : Nat → Int32) (x1 : Int32) (x2 : Int32) (x3 : Int32) (x4 : Int32) (x6 : Int32) (x7 : Int32) (x9 : Int32) (x10 : Int32) (y0 : Int32), w + 3 + X_39 ≤ 391 → f_L_isNet_b100 c_39 V A x1 x2 x3 x4 x6 x7 x9 x10 y0 = some res → ∀ (H : Heap) (locs : List Loc) (ls : Array Slot), Hd (xg G a9 (ai G 24 A)) b0 V H → va_S (Ab b0) s.heap H locs → lv_has ls 18 [(0, .ref (b0 + 0)), (1, .int x1), (2, .int x2), (3, .int x3), (4, .int x4), (6, .int x6), (7, .int x7), (8, .ref a9), (9, .int x9), (10, .int x10)] → W p l e (rmc 8 391) s m args below meth c H locs w (6 * w) (MQ below (QI G b0 res.1 res.2) args s 391 (6 * 391) (Ab b0)) (F0 m 100 ls [.int y0]) := by
    intro X_39 c_39 hc_39 w V a9 hF A x1 x2 x3 x4 x6 x7 x9 x10 y0 hw hr H locs ls hV hS hl
    unfold f_L_isNet_b100 at hr
    refine lv_iconst (v := 0) hx hb dL_isNet_100 (by decide) ?_
    exact K_101 X_39 c_39 hc_39 w _ _ hF _ x1 x2 x3 x4 x6 x7 x9 x10 0 y0 (by omega) hr _ _ ls hV hS (lv_sub hl [0, 1, 2, 3, 4, 5, 6, 7, 8, 9] rfl)
  have K_75 : ∀ (X_39 : Nat) (c_39 : St → (Nat → Int32) → Int32 → Int32 → Int32 → Int32 → Int32 → Int32 → Int32 → Int32 → Option (Int32 × St)) (hc_39 : ∀ (w : Nat) (V : St) (a9 : Nat) (hF : Fr G b0 a9) (A : Nat → Int32) (x1 : Int32) (x2 : Int32) (x3 : Int32) (x4 : Int32) (x5 : Int32) (x6 : Int32) (x7 : Int32) (x9 : Int32), w + X_39 ≤ 391 → c_39 V A x1 x2 x3 x4 x5 x6 x7 x9 = some res → ∀ (H : Heap) (locs : List Loc) (ls : Array Slot), Hd (xg G a9 (ai G 24 A)) b0 V H → va_S (Ab b0) s.heap H locs → lv_has ls 18 [(0, .ref (b0 + 0)), (1, .int x1), (2, .int x2), (3, .int x3), (4, .int x4), (5, .int x5), (6, .int x6), (7, .int x7), (8, .ref a9), (9, .int x9)] → W p l e (rmc 8 391) s m args below meth c H locs w (6 * w) (MQ below (QI G b0 res.1 res.2) args s 391 (6 * 391) (Ab b0)) (F0 m 39 ls [])) (w : Nat) (V : St) (a9 : Nat) (hF : Fr G b0 a9) (A : Nat → Int32) (x1 : Int32) (x2 : Int32) (x3 : Int32) (x5 : Int32) (x6 : Int32) (x7 : Int32) (x9 : Int32) (x10 : Int32) (y0 : Int32) (y1 : Int32), w + 3 + X_39 ≤ 391 → f_L_isNet_b75 c_39 V A x1 x2 x3 x5 x6 x7 x9 x10 y0 y1 = some res → ∀ (H : Heap) (locs : List Loc) (ls : Array Slot), Hd (xg G a9 (ai G 24 A)) b0 V H → va_S (Ab b0) s.heap H locs → lv_has ls 18 [(0, .ref (b0 + 0)), (1, .int x1), (2, .int x2), (3, .int x3), (5, .int x5), (6, .int x6), (7, .int x7), (8, .ref a9), (9, .int x9), (10, .int x10)] → W p l e (rmc 8 391) s m args below meth c H locs w (6 * w) (MQ below (QI G b0 res.1 res.2) args s 391 (6 * 391) (Ab b0)) (F0 m 75 ls [.int y0, .int y1]) := by
    intro X_39 c_39 hc_39 w V a9 hF A x1 x2 x3 x5 x6 x7 x9 x10 y0 y1 hw hr H locs ls hV hS hl
    unfold f_L_isNet_b75 at hr
    refine lv_iadd hx hb dL_isNet_75 ?_
    refine lv_istore (lv' := [(4, .int (y1 + y0)), (0, .ref (b0 + 0)), (1, .int x1), (2, .int x2), (3, .int x3), (5, .int x5), (6, .int x6), (7, .int x7), (8, .ref a9), (9, .int x9), (10, .int x10)]) hx hb dL_isNet_76 hl (by decide) rfl (fun ls hl => ?_)
    refine lv_iload hx hb dL_isNet_78 (lv_at hl 5 rfl) ?_
    refine lv_iload hx hb dL_isNet_80 (lv_at hl 10 rfl) ?_
    refine lv_if_eq (tgt := 100) hx hb dL_isNet_82 (by decide) (fun b_111 => ?_) (fun b_111 => ?_)
    · have hr := it b_111 hr
      exact K_100 X_39 c_39 hc_39 w _ _ hF _ x1 x2 x3 (y1 + y0) x6 x7 x9 x10 x5 (by omega) hr _ _ ls hV hS (lv_sub hl [1, 2, 3, 4, 0, 6, 7, 8, 9, 10] rfl)
    · have hr := ie b_111 hr
      refine lv_iload hx hb dL_isNet_85 (lv_at hl 9 rfl) ?_
      refine lv_bipush (v := 6) hx hb dL_isNet_87 (by decide) ?_
      refine lv_idiv hx hb dL_isNet_89 (by decide) ?_
      refine lv_iconst (v := 4) hx hb dL_isNet_90 (by decide) ?_
      refine lv_iload_n hx hb dL_isNet_91 rfl (lv_at hl 4 rfl) ?_
      refine lv_isub hx hb dL_isNet_92 ?_
      refine lv_icmp_ge (tgt := 100) hx hb dL_isNet_93 (by decide) (fun b_112 => ?_) (fun b_112 => ?_)
      · have hr := it b_112 hr
        exact K_100 X_39 c_39 hc_39 w _ _ hF _ x1 x2 x3 (y1 + y0) x6 x7 x9 x10 x5 (by omega) hr _ _ ls hV hS (lv_sub hl [1, 2, 3, 4, 0, 6, 7, 8, 9, 10] rfl)
      · have hr := ie b_112 hr
        refine lv_iconst (v := 1) hx hb dL_isNet_96 (by decide) ?_
        refine lv_goto (tgt := 101) hx hb dL_isNet_97 (by decide) ?_
        exact K_101 X_39 c_39 hc_39 w _ _ hF _ x1 x2 x3 (y1 + y0) x6 x7 x9 x10 1 x5 (by omega) hr _ _ ls hV hS (lv_sub hl [1, 2, 3, 4, 0, 6, 7, 8, 9, 10] rfl)
  have K_61 : ∀ (X_39 : Nat) (c_39 : St → (Nat → Int32) → Int32 → Int32 → Int32 → Int32 → Int32 → Int32 → Int32 → Int32 → Option (Int32 × St)) (hc_39 : ∀ (w : Nat) (V : St) (a9 : Nat) (hF : Fr G b0 a9) (A : Nat → Int32) (x1 : Int32) (x2 : Int32) (x3 : Int32) (x4 : Int32) (x5 : Int32) (x6 : Int32) (x7 : Int32) (x9 : Int32), w + X_39 ≤ 391 → c_39 V A x1 x2 x3 x4 x5 x6 x7 x9 = some res → ∀ (H : Heap) (locs : List Loc) (ls : Array Slot), Hd (xg G a9 (ai G 24 A)) b0 V H → va_S (Ab b0) s.heap H locs → lv_has ls 18 [(0, .ref (b0 + 0)), (1, .int x1), (2, .int x2), (3, .int x3), (4, .int x4), (5, .int x5), (6, .int x6), (7, .int x7), (8, .ref a9), (9, .int x9)] → W p l e (rmc 8 391) s m args below meth c H locs w (6 * w) (MQ below (QI G b0 res.1 res.2) args s 391 (6 * 391) (Ab b0)) (F0 m 39 ls [])) (w : Nat) (V : St) (a9 : Nat) (hF : Fr G b0 a9) (A : Nat → Int32) (x1 : Int32) (x2 : Int32) (x3 : Int32) (x4 : Int32) (x5 : Int32) (x6 : Int32) (x7 : Int32) (x9 : Int32) (y0 : Int32), w + 3 + X_39 ≤ 391 → f_L_isNet_b61 c_39 V A x1 x2 x3 x4 x5 x6 x7 x9 y0 = some res → ∀ (H : Heap) (locs : List Loc) (ls : Array Slot), Hd (xg G a9 (ai G 24 A)) b0 V H → va_S (Ab b0) s.heap H locs → lv_has ls 18 [(0, .ref (b0 + 0)), (1, .int x1), (2, .int x2), (3, .int x3), (4, .int x4), (5, .int x5), (6, .int x6), (7, .int x7), (8, .ref a9), (9, .int x9)] → W p l e (rmc 8 391) s m args below meth c H locs w (6 * w) (MQ below (QI G b0 res.1 res.2) args s 391 (6 * 391) (Ab b0)) (F0 m 61 ls [.int y0]) := by
    intro X_39 c_39 hc_39 w V a9 hF A x1 x2 x3 x4 x5 x6 x7 x9 y0 hw hr H locs ls hV hS hl
    unfold f_L_isNet_b61 at hr
    refine lv_istore (lv' := [(10, .int y0), (0, .ref (b0 + 0)), (1, .int x1), (2, .int x2), (3, .int x3), (4, .int x4), (5, .int x5), (6, .int x6), (7, .int x7), (8, .ref a9), (9, .int x9)]) hx hb dL_isNet_61 hl (by decide) rfl (fun ls hl => ?_)
    refine lv_iload hx hb dL_isNet_63 (lv_at hl 5 rfl) ?_
    refine lv_iload hx hb dL_isNet_65 (lv_at hl 0 rfl) ?_
    refine lv_if_eq (tgt := 74) hx hb dL_isNet_67 (by decide) (fun b_113 => ?_) (fun b_113 => ?_)
    · have hr := it b_113 hr
      refine lv_iconst (v := 0) hx hb dL_isNet_74 (by decide) ?_
      exact K_75 X_39 c_39 hc_39 w _ _ hF _ x1 x2 x3 x5 x6 x7 x9 y0 0 x4 (by omega) hr _ _ ls hV hS (lv_sub hl [1, 2, 3, 4, 6, 7, 8, 9, 10, 0] rfl)
    · have hr := ie b_113 hr
      refine lv_iconst (v := 1) hx hb dL_isNet_70 (by decide) ?_
      refine lv_goto (tgt := 75) hx hb dL_isNet_71 (by decide) ?_
      exact K_75 X_39 c_39 hc_39 w _ _ hF _ x1 x2 x3 x5 x6 x7 x9 y0 1 x4 (by omega) hr _ _ ls hV hS (lv_sub hl [1, 2, 3, 4, 6, 7, 8, 9, 10, 0] rfl)
  have K_39 : ∀ (n : Nat) (w : Nat) (V : St) (a9 : Nat) (hF : Fr G b0 a9) (A : Nat → Int32) (x1 : Int32) (x2 : Int32) (x3 : Int32) (x4 : Int32) (x5 : Int32) (x6 : Int32) (x7 : Int32) (x9 : Int32), w + n * 4 + 285 ≤ 391 → f_L_isNet_b39 n V A x1 x2 x3 x4 x5 x6 x7 x9 = some res → ∀ (H : Heap) (locs : List Loc) (ls : Array Slot), Hd (xg G a9 (ai G 24 A)) b0 V H → va_S (Ab b0) s.heap H locs → lv_has ls 18 [(0, .ref (b0 + 0)), (1, .int x1), (2, .int x2), (3, .int x3), (4, .int x4), (5, .int x5), (6, .int x6), (7, .int x7), (8, .ref a9), (9, .int x9)] → W p l e (rmc 8 391) s m args below meth c H locs w (6 * w) (MQ below (QI G b0 res.1 res.2) args s 391 (6 * 391) (Ab b0)) (F0 m 39 ls []) := by
    intro  n
    induction n with
    | zero =>
      intro w V a9 hF A x1 x2 x3 x4 x5 x6 x7 x9 hw hr
      rw [f_L_isNet_b39] at hr
      cases hr
    | succ n ih =>
      intro w V a9 hF A x1 x2 x3 x4 x5 x6 x7 x9 hw hr H locs ls hV hS hl
      rw [f_L_isNet_b39] at hr
      refine lv_iload hx hb dL_isNet_39 (lv_at hl 9 rfl) ?_
      refine lv_bipush (v := 24) hx hb dL_isNet_41 (by decide) ?_
      refine lv_icmp_ge (tgt := 205) hx hb dL_isNet_43 (by decide) (fun b_114 => ?_) (fun b_114 => ?_)
      · have hr := it b_114 hr
        refine lv_iconst (v := 0) hx hb dL_isNet_205 (by decide) ?_
        refine lv_istore (lv' := [(9, .int 0), (0, .ref (b0 + 0)), (1, .int x1), (2, .int x2), (3, .int x3), (4, .int x4), (5, .int x5), (6, .int x6), (7, .int x7), (8, .ref a9)]) hx hb dL_isNet_206 hl (by decide) rfl (fun ls hl => ?_)
        refine lv_iconst (v := 0) hx hb dL_isNet_208 (by decide) ?_
        refine lv_istore (lv' := [(10, .int 0), (9, .int 0), (0, .ref (b0 + 0)), (1, .int x1), (2, .int x2), (3, .int x3), (4, .int x4), (5, .int x5), (6, .int x6), (7, .int x7), (8, .ref a9)]) hx hb dL_isNet_209 hl (by decide) rfl (fun ls hl => ?_)
        refine lv_iconst (v := 0) hx hb dL_isNet_211 (by decide) ?_
        refine lv_istore (lv' := [(11, .int 0), (10, .int 0), (9, .int 0), (0, .ref (b0 + 0)), (1, .int x1), (2, .int x2), (3, .int x3), (4, .int x4), (5, .int x5), (6, .int x6), (7, .int x7), (8, .ref a9)]) hx hb dL_isNet_212 hl (by decide) rfl (fun ls hl => ?_)
        exact K_214 25 w _ _ hF _ x1 x2 x3 x4 x5 x6 x7 0 0 0 (by omega) hr _ _ ls hV hS (lv_sub hl [3, 4, 5, 6, 7, 8, 9, 10, 11, 2, 1, 0] rfl)
      · have hr := ie b_114 hr
        refine lv_aload_n hx hb dL_isNet_46 rfl (lv_at hl 0 rfl) ?_
        refine lv_iload_n hx hb dL_isNet_47 rfl (lv_at hl 1 rfl) ?_
        refine lv_iload hx hb dL_isNet_48 (lv_at hl 9 rfl) ?_
        obtain ⟨q115, e115, hr⟩ := ob hr
        refine cal_ic (run_HC (As := [.ref (b0 + 0), .int x1, .int x9]) (rest := []) C.x hV hS (c_L_kindOf l hfl (xg G a9 (ai G 24 A)) b0 V x1 x9 q115 e115) q_1257 q_1258 q_92 q_1259 dk_L_kindOf (rmc_ok (by decide) (by decide)) hl.1 rfl (Nat.le_of_ble_eq_true rfl) dL_isNet_50 (rmc_cs (by omega))) hS (fun H locs hV hS => ?_)
        refine lv_if_le (tgt := 60) hx hb dL_isNet_53 (by decide) (fun b_116 => ?_) (fun b_116 => ?_)
        · have hr := it b_116 hr
          refine lv_iconst (v := 0) hx hb dL_isNet_60 (by decide) ?_
          exact K_61 (n * 4 + 285) (fun V A x1 x2 x3 x4 x5 x6 x7 x9 => f_L_isNet_b39 n V A x1 x2 x3 x4 x5 x6 x7 x9) (fun w V a9 hF A x1 x2 x3 x4 x5 x6 x7 x9 hw hr => ih w V a9 hF A x1 x2 x3 x4 x5 x6 x7 x9 (by omega) hr) (w + 1) _ _ hF _ x1 x2 x3 x4 x5 x6 x7 x9 0 (by omega) hr _ _ ls hV hS (lv_sub hl [0, 1, 2, 3, 4, 5, 6, 7, 8, 9] rfl)
        · have hr := ie b_116 hr
          refine lv_iconst (v := 1) hx hb dL_isNet_56 (by decide) ?_
          refine lv_goto (tgt := 61) hx hb dL_isNet_57 (by decide) ?_
          exact K_61 (n * 4 + 285) (fun V A x1 x2 x3 x4 x5 x6 x7 x9 => f_L_isNet_b39 n V A x1 x2 x3 x4 x5 x6 x7 x9) (fun w V a9 hF A x1 x2 x3 x4 x5 x6 x7 x9 hw hr => ih w V a9 hF A x1 x2 x3 x4 x5 x6 x7 x9 (by omega) hr) (w + 1) _ _ hF _ x1 x2 x3 x4 x5 x6 x7 x9 1 (by omega) hr _ _ ls hV hS (lv_sub hl [0, 1, 2, 3, 4, 5, 6, 7, 8, 9] rfl)
  unfold f_L_isNet at hr
  refine lv_iconst (v := 4) hx hb dL_isNet_0 (by decide) ?_
  refine lv_aload_n hx hb dL_isNet_1 rfl (lv_at hl 0 rfl) ?_
  refine lv_bipush (v := 7) hx hb dL_isNet_2 (by decide) ?_
  obtain ⟨q117, e117, hr⟩ := ob hr
  refine cal_ic (run_HC (As := [.ref (b0 + 0), .int 7]) (rest := [.int 4]) C hV hS (c_L_account l hfl G b0 V 7 q117 e117) q_522 q_523 q_92 q_524 dk_L_account (rmc_ok (by decide) (by decide)) hl.1 rfl (Nat.le_of_ble_eq_true rfl) dL_isNet_4 (rmc_cs (by omega))) hS (fun H locs hV hS => ?_)
  refine lv_aload_n hx hb dL_isNet_7 rfl (lv_at hl 0 rfl) ?_
  refine lv_iload_n hx hb dL_isNet_8 rfl (lv_at hl 1 rfl) ?_
  refine lv_iconst (v := 3) hx hb dL_isNet_9 (by decide) ?_
  obtain ⟨q118, e118, hr⟩ := ob hr
  refine cal_ic (run_HC (As := [.ref (b0 + 0), .int x1, .int 3]) (rest := [.int q117, .int 4]) C hV hS (c_L_netOf l hfl G b0 V x1 3 q118 e118) q_1239 q_1240 q_92 q_1241 dk_L_netOf (rmc_ok (by decide) (by decide)) hl.1 rfl (Nat.le_of_ble_eq_true rfl) dL_isNet_10 (rmc_cs (by omega))) hS (fun H locs hV hS => ?_)
  refine lv_iadd hx hb dL_isNet_13 ?_
  refine r_min (D := 7) C q_1342 q_703 q_112 q_704 hl.1 ⟨rfl, rfl⟩ (Nat.le_of_ble_eq_true rfl) (rmc_c0 (by omega)) dL_isNet_14 ?_
  refine W.eq (g2 := F0 m 17 ls [.int (imin 4 (q117 + q118))]) rfl ?_
  refine lv_istore_n (lv' := [(3, .int (imin 4 (q117 + q118))), (0, .ref (b0 + 0)), (1, .int x1), (2, .int x2)]) hx hb dL_isNet_17 rfl hl (by decide) rfl (fun ls hl => ?_)
  refine lv_iconst (v := 0) hx hb dL_isNet_18 (by decide) ?_
  refine lv_istore (lv' := [(4, .int 0), (3, .int (imin 4 (q117 + q118))), (0, .ref (b0 + 0)), (1, .int x1), (2, .int x2)]) hx hb dL_isNet_19 hl (by decide) rfl (fun ls hl => ?_)
  refine lv_iconst (v := 0) hx hb dL_isNet_21 (by decide) ?_
  refine lv_istore (lv' := [(5, .int 0), (4, .int 0), (3, .int (imin 4 (q117 + q118))), (0, .ref (b0 + 0)), (1, .int x1), (2, .int x2)]) hx hb dL_isNet_22 hl (by decide) rfl (fun ls hl => ?_)
  refine lv_iconst (v := 0) hx hb dL_isNet_24 (by decide) ?_
  refine lv_istore (lv' := [(6, .int 0), (5, .int 0), (4, .int 0), (3, .int (imin 4 (q117 + q118))), (0, .ref (b0 + 0)), (1, .int x1), (2, .int x2)]) hx hb dL_isNet_25 hl (by decide) rfl (fun ls hl => ?_)
  refine lv_iconst (v := 0) hx hb dL_isNet_27 (by decide) ?_
  refine lv_istore (lv' := [(7, .int 0), (6, .int 0), (5, .int 0), (4, .int 0), (3, .int (imin 4 (q117 + q118))), (0, .ref (b0 + 0)), (1, .int x1), (2, .int x2)]) hx hb dL_isNet_28 hl (by decide) rfl (fun ls hl => ?_)
  refine lv_bipush (v := 24) hx hb dL_isNet_30 (by decide) ?_
  refine x_newi (u := 4) (w := 0 + 1 + 1) (N' := 24) C hV hS (by decide) (by decide) (Nat.le_of_ble_eq_true rfl) ⟨by decide, by decide⟩ (rmc_cs (by omega)) q_275 dL_isNet_32 (fun a9 H hF hV hS => ?_)
  refine lv_astore (lv' := [(8, .ref a9), (7, .int 0), (6, .int 0), (5, .int 0), (4, .int 0), (3, .int (imin 4 (q117 + q118))), (0, .ref (b0 + 0)), (1, .int x1), (2, .int x2)]) hx hb dL_isNet_34 hl (by decide) rfl (fun ls hl => ?_)
  refine lv_iconst (v := 0) hx hb dL_isNet_36 (by decide) ?_
  refine lv_istore (lv' := [(9, .int 0), (8, .ref a9), (7, .int 0), (6, .int 0), (5, .int 0), (4, .int 0), (3, .int (imin 4 (q117 + q118))), (0, .ref (b0 + 0)), (1, .int x1), (2, .int x2)]) hx hb dL_isNet_37 hl (by decide) rfl (fun ls hl => ?_)
  exact K_39 25 (0 + 1 + 1 + 4) _ _ hF _ x1 x2 (imin 4 (q117 + q118)) 0 0 0 0 0 (by omega) hr _ _ ls hV hS (lv_sub hl [7, 8, 9, 6, 5, 4, 3, 2, 1, 0] rfl)
