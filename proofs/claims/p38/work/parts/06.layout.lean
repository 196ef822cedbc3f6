abbrev St : Type := Nat → Nat → Int32
/-- the tables' side of the layout: classes and slots; classes of arrays; addresses of the String constants; cells beside the objects; the script -/
abbrev LG : Type := va_G × (Nat → ClassId) × (Nat → Nat) × va_W × (Nat × Nat × (Nat → Int32))
def up (V : St) (k j : Nat) (x : Int32) : St := fun q => if q = k then upd (V k) j x else V q
def kdL : List Nat := [0, 1, 2, 3, 4, 5, 5, 5, 6, 6, 6, 6, 7, 7, 7, 7, 7, 7, 1, 2, 3, 4, 5, 5, 5, 6, 6, 6, 6, 7, 7, 7, 7, 7, 7, 1, 2, 3, 4, 5, 5, 5, 6, 6, 6, 6, 7, 7, 7, 7, 7, 7, 8, 9, 1, 2, 3, 4, 5, 5, 5, 6, 6, 6, 6, 7, 7, 7, 7, 7, 7, 1, 2, 3, 4, 5, 5, 5, 6, 6, 6, 6, 7, 7, 7, 7, 7, 7, 1, 2, 3, 4, 5, 5, 5, 6, 6, 6, 6, 7, 7, 7, 7, 7, 7, 1, 2, 3, 4, 5, 5, 5, 6, 6, 6, 6, 7, 7, 7, 7, 7, 7, 1, 2, 3, 4, 5, 5, 5, 6, 6, 6, 6, 7, 7, 7, 7, 7, 7, 1, 2, 3, 4, 5, 5, 5, 6, 6, 6, 6, 7, 7, 7, 7, 7, 7, 1, 2, 3, 4, 5, 5, 5, 6, 6, 6, 6, 7, 7, 7, 7, 7, 7, 1, 2, 3, 4, 5, 5, 5, 6, 6, 6, 6, 7, 7, 7, 7, 7, 7, 10, 11, 12, 13, 14, 15, 16, 16, 16, 16, 16, 16, 16, 16, 16, 17, 18, 19]
/-- the kind of the object that was made as the k-th -/
def kd (k : Nat) : Nat := kdL.getD k 99
theorem kd_lt {k n : Nat} (h : kd k = n) (hn : n ≠ 99) : k < 208 := by
  rcases Nat.lt_or_ge k 208 with q | q
  · exact q
  · exfalso
    apply hn
    rw [← h]
    unfold kd
    rw [List.getD_eq_getElem?_getD, List.getElem?_eq_none (by rw [show kdL.length = 208 from by decide +kernel]; exact q)]
    rfl
theorem kd_s1 {k : Nat} (h : kd k = 1) : kd (k + 1) = 2 := (by decide +kernel : ∀ k, k < 208 → kd k = 1 → kd (k + 1) = 2) k (kd_lt h (by decide)) h
theorem kd_s2 {k : Nat} (h : kd k = 1) : kd (k + 2) = 3 := (by decide +kernel : ∀ k, k < 208 → kd k = 1 → kd (k + 2) = 3) k (kd_lt h (by decide)) h
theorem kd_s3 {k : Nat} (h : kd k = 1) : kd (k + 3) = 4 := (by decide +kernel : ∀ k, k < 208 → kd k = 1 → kd (k + 3) = 4) k (kd_lt h (by decide)) h
theorem kd_h1 {k : Nat} (h : kd k = 8) : kd (k + 1) = 9 := (by decide +kernel : ∀ k, k < 208 → kd k = 8 → kd (k + 1) = 9) k (kd_lt h (by decide)) h
theorem kd_p1 {k : Nat} (h : kd k = 10) : kd (k + 1) = 11 := (by decide +kernel : ∀ k, k < 208 → kd k = 10 → kd (k + 1) = 11) k (kd_lt h (by decide)) h
theorem kd_c1 {k : Nat} (h : kd k = 12) : kd (k + 1) = 13 := (by decide +kernel : ∀ k, k < 208 → kd k = 12 → kd (k + 1) = 13) k (kd_lt h (by decide)) h
theorem kd_c2 {k : Nat} (h : kd k = 12) : kd (k + 2) = 14 := (by decide +kernel : ∀ k, k < 208 → kd k = 12 → kd (k + 2) = 14) k (kd_lt h (by decide)) h
theorem kd_c3 {k : Nat} (h : kd k = 12) : kd (k + 3) = 15 := (by decide +kernel : ∀ k, k < 208 → kd k = 12 → kd (k + 3) = 15) k (kd_lt h (by decide)) h
theorem kd_l1 {k : Nat} (h : kd k = 17) : kd (k + 1) = 18 := (by decide +kernel : ∀ k, k < 208 → kd k = 17 → kd (k + 1) = 18) k (kd_lt h (by decide)) h
theorem kd_n {k j : Nat} (h : kd k = 2) (hj : j < 3) : kd (k + 3 + j) = 5 := (by decide +kernel : ∀ k, k < 208 → ∀ j, j < 3 → kd k = 2 → kd (k + 3 + j) = 5) k (kd_lt h (by decide)) j hj h
theorem kd_e {k j : Nat} (h : kd k = 3) (hj : j < 4) : kd (k + 5 + j) = 6 := (by decide +kernel : ∀ k, k < 208 → ∀ j, j < 4 → kd k = 3 → kd (k + 5 + j) = 6) k (kd_lt h (by decide)) j hj h
theorem kd_o {k j : Nat} (h : kd k = 4) (hj : j < 6) : kd (k + 8 + j) = 7 := (by decide +kernel : ∀ k, k < 208 → ∀ j, j < 6 → kd k = 4 → kd (k + 8 + j) = 7) k (kd_lt h (by decide)) j hj h
theorem kd_h {k j : Nat} (h : kd k = 9) (hj : j < 8) : kd (k + 1 + 17 * j) = 1 := (by decide +kernel : ∀ k, k < 208 → ∀ j, j < 8 → kd k = 9 → kd (k + 1 + 17 * j) = 1) k (kd_lt h (by decide)) j hj h
theorem kd_r {k j : Nat} (h : kd k = 15) (hj : j < 9) : kd (k + 1 + j) = 16 := (by decide +kernel : ∀ k, k < 208 → ∀ j, j < 9 → kd k = 15 → kd (k + 1 + j) = 16) k (kd_lt h (by decide)) j hj h
/-- a double in two ints -/
def dlo (x : UInt64) : Int32 := x.toUInt32.toInt32
def dhi (x : UInt64) : Int32 := (x >>> 32).toUInt32.toInt32
def dmk (a b : Int32) : UInt64 := a.toUInt32.toUInt64 ||| (b.toUInt32.toUInt64 <<< 32)
def rfN (b0 : Nat) (k : Nat) : Value := .ref (b0 + k)

/-- what the object k holds, by its ints f -/
def shp (G : LG) (b0 k : Nat) (f : Nat → Int32) : Nat → va_E
  | 0 => .inr (12, [.ref (b0 + 1), .ref (b0 + 18), .ref (b0 + 35), .int (f 3), .ref (b0 + 52), .ref (b0 + 190), .ref (b0 + 192), .ref (b0 + 205), .ref (b0 + 207), .int (f 9), .int (f 10)])
  | 1 => .inr (11, [.ref (b0 + (k + 1)), .ref (b0 + (k + 2)), .ref (b0 + (k + 3)), .int (f 3), .int (f 4), .int (f 5), .int (f 6), .int (f 7), .int (f 8)])
  | 2 => .inl (G.2.1 4, 3, .inr (.inr (.inr (.inr (fun j => if j < 3 then some (b0 + (k + 3 + j)) else none)))))
  | 3 => .inl (G.2.1 5, 4, .inr (.inr (.inr (.inr (fun j => if j < 4 then some (b0 + (k + 5 + j)) else none)))))
  | 4 => .inl (G.2.1 6, 6, .inr (.inr (.inr (.inr (fun j => if j < 6 then some (b0 + (k + 8 + j)) else none)))))
  | 5 => .inr (6, [.int (f 0), .int (f 1), .int (f 2), .int (f 3), .int (f 4)])
  | 6 => .inr (3, [.int (f 0), .int (f 1)])
  | 7 => .inr (7, [.int (f 0), .int (f 1), .int (f 2)])
  | 8 => .inr (4, [.ref (b0 + (k + 1)), .int (f 1), .int (f 2)])
  | 9 => .inl (G.2.1 7, 8, .inr (.inr (.inr (.inr (fun j => if j < 8 then some (b0 + (k + 1 + 17 * j)) else none)))))
  | 10 => .inr (8, [.ref (b0 + (k + 1))])
  | 11 => .inl (G.2.1 0, 24, .inl f)
  | 12 => .inr (10, [.ref (b0 + (k + 1)), .int (f 1), .int (f 2), .ref (b0 + (k + 2)), .ref (b0 + (k + 3)), .int (f 5)])
  | 13 => .inl (G.2.1 1, 60, .inl f)
  | 14 => .inl (G.2.1 0, 9, .inl f)
  | 15 => .inl (G.2.1 8, 9, .inr (.inr (.inr (.inr (fun j => if j < 9 then some (b0 + (k + 1 + j)) else none)))))
  | 16 => .inl (G.2.1 0, 4, .inl f)
  | 17 => .inr (5, [.ref (b0 + (k + 1)), .int (f 1)])
  | 18 => .inl (G.2.1 1, 25, .inl f)
  | 19 => .inr (9, [.int (f 0), .int (f 1), .int (f 2), .int (f 3)])
  | _ => .inr (0, [])
def cel (G : LG) (b0 : Nat) (V : St) (k : Nat) : va_E := shp G b0 k (V k) (kd k)
theorem cel_0 {G : LG} {b0 : Nat} {V : St} {k : Nat} (h : kd k = 0) : cel G b0 V k = .inr (12, [.ref (b0 + 1), .ref (b0 + 18), .ref (b0 + 35), .int (V k 3), .ref (b0 + 52), .ref (b0 + 190), .ref (b0 + 192), .ref (b0 + 205), .ref (b0 + 207), .int (V k 9), .int (V k 10)]) := by
  unfold cel
  rw [h]
  rfl
theorem cel_1 {G : LG} {b0 : Nat} {V : St} {k : Nat} (h : kd k = 1) : cel G b0 V k = .inr (11, [.ref (b0 + (k + 1)), .ref (b0 + (k + 2)), .ref (b0 + (k + 3)), .int (V k 3), .int (V k 4), .int (V k 5), .int (V k 6), .int (V k 7), .int (V k 8)]) := by
  unfold cel
  rw [h]
  rfl
theorem cel_2 {G : LG} {b0 : Nat} {V : St} {k : Nat} (h : kd k = 2) : cel G b0 V k = .inl (G.2.1 4, 3, .inr (.inr (.inr (.inr (fun j => if j < 3 then some (b0 + (k + 3 + j)) else none))))) := by
  unfold cel
  rw [h]
  rfl
theorem cel_3 {G : LG} {b0 : Nat} {V : St} {k : Nat} (h : kd k = 3) : cel G b0 V k = .inl (G.2.1 5, 4, .inr (.inr (.inr (.inr (fun j => if j < 4 then some (b0 + (k + 5 + j)) else none))))) := by
  unfold cel
  rw [h]
  rfl
theorem cel_4 {G : LG} {b0 : Nat} {V : St} {k : Nat} (h : kd k = 4) : cel G b0 V k = .inl (G.2.1 6, 6, .inr (.inr (.inr (.inr (fun j => if j < 6 then some (b0 + (k + 8 + j)) else none))))) := by
  unfold cel
  rw [h]
  rfl
theorem cel_5 {G : LG} {b0 : Nat} {V : St} {k : Nat} (h : kd k = 5) : cel G b0 V k = .inr (6, [.int (V k 0), .int (V k 1), .int (V k 2), .int (V k 3), .int (V k 4)]) := by
  unfold cel
  rw [h]
  rfl
theorem cel_6 {G : LG} {b0 : Nat} {V : St} {k : Nat} (h : kd k = 6) : cel G b0 V k = .inr (3, [.int (V k 0), .int (V k 1)]) := by
  unfold cel
  rw [h]
  rfl
theorem cel_7 {G : LG} {b0 : Nat} {V : St} {k : Nat} (h : kd k = 7) : cel G b0 V k = .inr (7, [.int (V k 0), .int (V k 1), .int (V k 2)]) := by
  unfold cel
  rw [h]
  rfl
theorem cel_8 {G : LG} {b0 : Nat} {V : St} {k : Nat} (h : kd k = 8) : cel G b0 V k = .inr (4, [.ref (b0 + (k + 1)), .int (V k 1), .int (V k 2)]) := by
  unfold cel
  rw [h]
  rfl
theorem cel_9 {G : LG} {b0 : Nat} {V : St} {k : Nat} (h : kd k = 9) : cel G b0 V k = .inl (G.2.1 7, 8, .inr (.inr (.inr (.inr (fun j => if j < 8 then some (b0 + (k + 1 + 17 * j)) else none))))) := by
  unfold cel
  rw [h]
  rfl
theorem cel_10 {G : LG} {b0 : Nat} {V : St} {k : Nat} (h : kd k = 10) : cel G b0 V k = .inr (8, [.ref (b0 + (k + 1))]) := by
  unfold cel
  rw [h]
  rfl
theorem cel_11 {G : LG} {b0 : Nat} {V : St} {k : Nat} (h : kd k = 11) : cel G b0 V k = .inl (G.2.1 0, 24, .inl (V k)) := by
  unfold cel
  rw [h]
  rfl
theorem cel_12 {G : LG} {b0 : Nat} {V : St} {k : Nat} (h : kd k = 12) : cel G b0 V k = .inr (10, [.ref (b0 + (k + 1)), .int (V k 1), .int (V k 2), .ref (b0 + (k + 2)), .ref (b0 + (k + 3)), .int (V k 5)]) := by
  unfold cel
  rw [h]
  rfl
theorem cel_13 {G : LG} {b0 : Nat} {V : St} {k : Nat} (h : kd k = 13) : cel G b0 V k = .inl (G.2.1 1, 60, .inl (V k)) := by
  unfold cel
  rw [h]
  rfl
theorem cel_14 {G : LG} {b0 : Nat} {V : St} {k : Nat} (h : kd k = 14) : cel G b0 V k = .inl (G.2.1 0, 9, .inl (V k)) := by
  unfold cel
  rw [h]
  rfl
theorem cel_15 {G : LG} {b0 : Nat} {V : St} {k : Nat} (h : kd k = 15) : cel G b0 V k = .inl (G.2.1 8, 9, .inr (.inr (.inr (.inr (fun j => if j < 9 then some (b0 + (k + 1 + j)) else none))))) := by
  unfold cel
  rw [h]
  rfl
theorem cel_16 {G : LG} {b0 : Nat} {V : St} {k : Nat} (h : kd k = 16) : cel G b0 V k = .inl (G.2.1 0, 4, .inl (V k)) := by
  unfold cel
  rw [h]
  rfl
theorem cel_17 {G : LG} {b0 : Nat} {V : St} {k : Nat} (h : kd k = 17) : cel G b0 V k = .inr (5, [.ref (b0 + (k + 1)), .int (V k 1)]) := by
  unfold cel
  rw [h]
  rfl
theorem cel_18 {G : LG} {b0 : Nat} {V : St} {k : Nat} (h : kd k = 18) : cel G b0 V k = .inl (G.2.1 1, 25, .inl (V k)) := by
  unfold cel
  rw [h]
  rfl
theorem cel_19 {G : LG} {b0 : Nat} {V : St} {k : Nat} (h : kd k = 19) : cel G b0 V k = .inr (9, [.int (V k 0), .int (V k 1), .int (V k 2), .int (V k 3)]) := by
  unfold cel
  rw [h]
  rfl
