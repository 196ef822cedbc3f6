/-- what a method may change: all that was made since the law began -/
def Ab (b0 : Nat) : Nat → Prop := fun q => b0 ≤ q
def tyL (G : LG) : List (ClassId × FieldType) := [(G.2.1 0, .int), (G.2.1 1, .char), (G.2.1 2, .long), (G.2.1 3, .byte), (G.2.1 4, .object "NetScript$Net"), (G.2.1 5, .object "NetScript$Editor"), (G.2.1 6, .object "NetScript$Note"), (G.2.1 7, .object "NetScript$State"), (G.2.1 8, .array .int)]
/-- the heap holds the objects, with the ints V, and whatever cells the list beside names (they lie apart from the objects) -/
def Hd (G : LG) (b0 : Nat) (V : St) (H : Heap) : Prop := (∀ k, k < 208 → va_at G.1 vwCl (b0 + k, cel G b0 V k) H) ∧ (∀ x ∈ G.2.2.2.1, va_at G.1 vwCl x H) ∧ ∀ x ∈ G.2.2.2.1, x.1 < b0 ∨ b0 + 208 ≤ x.1
theorem Hd.p1 {G : LG} {b0 : Nat} {V : St} {H : Heap} (h : Hd G b0 V H) {k : Nat} (hk : k < 208) : va_P G.1 vwCl [(b0 + k, cel G b0 V k)] H := by
  intro i q hq
  cases i with
  | zero =>
    rw [List.getElem?_cons_zero] at hq
    cases hq
    exact h.1 k hk
  | succ i => simp at hq
theorem Hd.kept {G : LG} {b0 : Nat} {V : St} {H H1 : Heap} (h : Hd G b0 V H) (hq : ∀ q : Nat, q < H.size → H1[q]? = H[q]?) : Hd G b0 V H1 := ⟨fun k hk => (h.1 k hk).kept (hq _ (h.1 k hk).lt), fun x hx => (h.2.1 x hx).kept (hq _ (h.2.1 x hx).lt), h.2.2⟩
theorem Hd.size {G : LG} {b0 : Nat} {V : St} {H : Heap} (h : Hd G b0 V H) : b0 ≤ H.size := by
  have h1 : b0 + 0 < H.size := (h.1 0 (by decide)).lt
  omega
/-- the String constants, by their places in the list: own class, pool entry, text -/
def SL : List (String × Nat × String) := [(RX9, 210, "no such net"), (RX9, 234, "what is out of range"), (RX9, 78, "the knot is refused"), (RX9, 104, "the tear is refused"), (RX9, 118, "the mending is refused"), (RX9, 136, "the editor is refused"), (RX9, 148, "the tide is refused"), (RX9, 160, "the draught is refused"), (RX9, 171, "the note is refused"), (RX9, 182, "the drop is refused"), (RL, 209, "knot "), (RL, 218, " "), (RL, 220, "="), (RL, 222, ";tide "), (RJ7, 337, " > "), (RL, 228, ";note "), (RL, 230, ";tear "), (RL, 232, "-"), (RL, 234, ";"), (RX9, 311, "the tape is full"), (RX7, 60, "knot D N=D"), (RX7, 62, "tear D N-N"), (RX7, 64, "mend D N-N/D"), (RX7, 66, "editor N"), (RX7, 68, "tide D"), (RX7, 70, "sink D=D"), (RX7, 72, "note D N"), (RX7, 74, "drop D"), (RX9, 327, "the text has a fault"), (RX9, 341, "an order is refused"), (RX9, 195, "no such net or place"), (RX9, 204, "the places are not beside each other"), (RX9, 255, "no such note"), (RX9, 300, "no such editor"), (RX9, 244, "there is no knot"), (RX9, 295, "no such place in the order"), (RX9, 290, "no mending joins two chapters"), (RX9, 364, "no such net or line"), (RX9, 276, "no twine would do"), (RX9, 398, "there are no chapters"), (RX9, 404, "there are no knots"), (RX9, 432, "there is nothing to undo"), (RX9, 437, "nothing was saved")]
theorem sl_0 : SL[0]? = some (RX9, 210, "no such net") := by decide +kernel
theorem sl_1 : SL[1]? = some (RX9, 234, "what is out of range") := by decide +kernel
theorem sl_2 : SL[2]? = some (RX9, 78, "the knot is refused") := by decide +kernel
theorem sl_3 : SL[3]? = some (RX9, 104, "the tear is refused") := by decide +kernel
theorem sl_4 : SL[4]? = some (RX9, 118, "the mending is refused") := by decide +kernel
theorem sl_5 : SL[5]? = some (RX9, 136, "the editor is refused") := by decide +kernel
theorem sl_6 : SL[6]? = some (RX9, 148, "the tide is refused") := by decide +kernel
theorem sl_7 : SL[7]? = some (RX9, 160, "the draught is refused") := by decide +kernel
theorem sl_8 : SL[8]? = some (RX9, 171, "the note is refused") := by decide +kernel
theorem sl_9 : SL[9]? = some (RX9, 182, "the drop is refused") := by decide +kernel
theorem sl_10 : SL[10]? = some (RL, 209, "knot ") := by decide +kernel
theorem sl_11 : SL[11]? = some (RL, 218, " ") := by decide +kernel
theorem sl_12 : SL[12]? = some (RL, 220, "=") := by decide +kernel
theorem sl_13 : SL[13]? = some (RL, 222, ";tide ") := by decide +kernel
theorem sl_14 : SL[14]? = some (RJ7, 337, " > ") := by decide +kernel
theorem sl_15 : SL[15]? = some (RL, 228, ";note ") := by decide +kernel
theorem sl_16 : SL[16]? = some (RL, 230, ";tear ") := by decide +kernel
theorem sl_17 : SL[17]? = some (RL, 232, "-") := by decide +kernel
theorem sl_18 : SL[18]? = some (RL, 234, ";") := by decide +kernel
theorem sl_19 : SL[19]? = some (RX9, 311, "the tape is full") := by decide +kernel
theorem sl_20 : SL[20]? = some (RX7, 60, "knot D N=D") := by decide +kernel
theorem sl_21 : SL[21]? = some (RX7, 62, "tear D N-N") := by decide +kernel
theorem sl_22 : SL[22]? = some (RX7, 64, "mend D N-N/D") := by decide +kernel
theorem sl_23 : SL[23]? = some (RX7, 66, "editor N") := by decide +kernel
theorem sl_24 : SL[24]? = some (RX7, 68, "tide D") := by decide +kernel
theorem sl_25 : SL[25]? = some (RX7, 70, "sink D=D") := by decide +kernel
theorem sl_26 : SL[26]? = some (RX7, 72, "note D N") := by decide +kernel
theorem sl_27 : SL[27]? = some (RX7, 74, "drop D") := by decide +kernel
theorem sl_28 : SL[28]? = some (RX9, 327, "the text has a fault") := by decide +kernel
theorem sl_29 : SL[29]? = some (RX9, 341, "an order is refused") := by decide +kernel
theorem sl_30 : SL[30]? = some (RX9, 195, "no such net or place") := by decide +kernel
theorem sl_31 : SL[31]? = some (RX9, 204, "the places are not beside each other") := by decide +kernel
theorem sl_32 : SL[32]? = some (RX9, 255, "no such note") := by decide +kernel
theorem sl_33 : SL[33]? = some (RX9, 300, "no such editor") := by decide +kernel
theorem sl_34 : SL[34]? = some (RX9, 244, "there is no knot") := by decide +kernel
theorem sl_35 : SL[35]? = some (RX9, 295, "no such place in the order") := by decide +kernel
theorem sl_36 : SL[36]? = some (RX9, 290, "no mending joins two chapters") := by decide +kernel
theorem sl_37 : SL[37]? = some (RX9, 364, "no such net or line") := by decide +kernel
theorem sl_38 : SL[38]? = some (RX9, 276, "no twine would do") := by decide +kernel
theorem sl_39 : SL[39]? = some (RX9, 398, "there are no chapters") := by decide +kernel
theorem sl_40 : SL[40]? = some (RX9, 404, "there are no knots") := by decide +kernel
theorem sl_41 : SL[41]? = some (RX9, 432, "there is nothing to undo") := by decide +kernel
theorem sl_42 : SL[42]? = some (RX9, 437, "nothing was saved") := by decide +kernel
def StA (G : LG) (s : State) : Prop := ∀ (i : Nat) (q : String × Nat × String), SL[i]? = some q → vk_R q.1 q.2.1 q.2.2 (G.2.2.1 i) s
/-- the bytes of a text -/
def byS (t : String) : List Int32 := t.toList.map (fun c => nI c.toNat)
def StB (G : LG) (b0 : Nat) (U : State) (H : Heap) : Prop := ∀ (i : Nat) (q : String × Nat × String), SL[i]? = some q → va_O "java/lang/String" (G.2.2.1 i) (Ab b0) U H ∧ va_OF "java/lang/String" "coder" "B" (.int 0) (G.2.2.1 i) (Ab b0) U H ∧ va_OF "java/lang/String" "value" "[B" (.ref (G.2.2.1 (100 + i))) (G.2.2.1 i) (Ab b0) U H ∧ va_T .byte (G.2.2.1 (100 + i)) (byS q.2.2).length (fun j => .int ((byS q.2.2).getD j 0)) (Ab b0) U H
/-- classes of exceptions of which the first can't be caught as the second -/
def ncL : List (String × String) := [("java/util/NoSuchElementException", "java/lang/IndexOutOfBoundsException"), ("java/lang/IllegalArgumentException", "java/lang/IndexOutOfBoundsException"), ("java/util/NoSuchElementException", "java/lang/IllegalArgumentException"), ("java/lang/UnsupportedOperationException", "java/lang/IllegalArgumentException")]
def NcA (s : State) : Prop := ∀ q ∈ ncL, va_Nc q.1 q.2 s
def Kv (G : LG) (s : State) : Prop := va_K G.1 vwCl (tyL G) s ∧ (∀ w ∈ NW, va_Nw w s) ∧ StA G s ∧ NcA s
/-- the tables of digits -/
def DgS (G : LG) (b0 : Nat) (U : State) (H : Heap) : Prop := va_Z "java/lang/Integer" "DigitTens" "[B" (.ref (G.2.2.1 500)) (Ab b0) U H ∧ va_T .byte (G.2.2.1 500) 100 (fun j => .int (nI (48 + j / 10))) (Ab b0) U H ∧ va_Z "java/lang/Integer" "DigitOnes" "[B" (.ref (G.2.2.1 501)) (Ab b0) U H ∧ va_T .byte (G.2.2.1 501) 100 (fun j => .int (nI (48 + j % 10))) (Ab b0) U H
theorem st_0 {G : LG} {s : State} (hK : Kv G s) : vk_R RX9 210 "no such net" (G.2.2.1 0) s := by
  have h : StA G s := hK.2.2.1
  exact h 0 (RX9, 210, "no such net") sl_0
theorem st_1 {G : LG} {s : State} (hK : Kv G s) : vk_R RX9 234 "what is out of range" (G.2.2.1 1) s := by
  have h : StA G s := hK.2.2.1
  exact h 1 (RX9, 234, "what is out of range") sl_1
theorem st_2 {G : LG} {s : State} (hK : Kv G s) : vk_R RX9 78 "the knot is refused" (G.2.2.1 2) s := by
  have h : StA G s := hK.2.2.1
  exact h 2 (RX9, 78, "the knot is refused") sl_2
theorem st_3 {G : LG} {s : State} (hK : Kv G s) : vk_R RX9 104 "the tear is refused" (G.2.2.1 3) s := by
  have h : StA G s := hK.2.2.1
  exact h 3 (RX9, 104, "the tear is refused") sl_3
theorem st_4 {G : LG} {s : State} (hK : Kv G s) : vk_R RX9 118 "the mending is refused" (G.2.2.1 4) s := by
  have h : StA G s := hK.2.2.1
  exact h 4 (RX9, 118, "the mending is refused") sl_4
theorem st_5 {G : LG} {s : State} (hK : Kv G s) : vk_R RX9 136 "the editor is refused" (G.2.2.1 5) s := by
  have h : StA G s := hK.2.2.1
  exact h 5 (RX9, 136, "the editor is refused") sl_5
theorem st_6 {G : LG} {s : State} (hK : Kv G s) : vk_R RX9 148 "the tide is refused" (G.2.2.1 6) s := by
  have h : StA G s := hK.2.2.1
  exact h 6 (RX9, 148, "the tide is refused") sl_6
theorem st_7 {G : LG} {s : State} (hK : Kv G s) : vk_R RX9 160 "the draught is refused" (G.2.2.1 7) s := by
  have h : StA G s := hK.2.2.1
  exact h 7 (RX9, 160, "the draught is refused") sl_7
theorem st_8 {G : LG} {s : State} (hK : Kv G s) : vk_R RX9 171 "the note is refused" (G.2.2.1 8) s := by
  have h : StA G s := hK.2.2.1
  exact h 8 (RX9, 171, "the note is refused") sl_8
theorem st_9 {G : LG} {s : State} (hK : Kv G s) : vk_R RX9 182 "the drop is refused" (G.2.2.1 9) s := by
  have h : StA G s := hK.2.2.1
  exact h 9 (RX9, 182, "the drop is refused") sl_9
theorem st_10 {G : LG} {s : State} (hK : Kv G s) : vk_R RL 209 "knot " (G.2.2.1 10) s := by
  have h : StA G s := hK.2.2.1
  exact h 10 (RL, 209, "knot ") sl_10
theorem st_11 {G : LG} {s : State} (hK : Kv G s) : vk_R RL 218 " " (G.2.2.1 11) s := by
  have h : StA G s := hK.2.2.1
  exact h 11 (RL, 218, " ") sl_11
theorem st_12 {G : LG} {s : State} (hK : Kv G s) : vk_R RL 220 "=" (G.2.2.1 12) s := by
  have h : StA G s := hK.2.2.1
  exact h 12 (RL, 220, "=") sl_12
theorem st_13 {G : LG} {s : State} (hK : Kv G s) : vk_R RL 222 ";tide " (G.2.2.1 13) s := by
  have h : StA G s := hK.2.2.1
  exact h 13 (RL, 222, ";tide ") sl_13
theorem st_14 {G : LG} {s : State} (hK : Kv G s) : vk_R RJ7 337 " > " (G.2.2.1 14) s := by
  have h : StA G s := hK.2.2.1
  exact h 14 (RJ7, 337, " > ") sl_14
theorem st_15 {G : LG} {s : State} (hK : Kv G s) : vk_R RL 228 ";note " (G.2.2.1 15) s := by
  have h : StA G s := hK.2.2.1
  exact h 15 (RL, 228, ";note ") sl_15
theorem st_16 {G : LG} {s : State} (hK : Kv G s) : vk_R RL 230 ";tear " (G.2.2.1 16) s := by
  have h : StA G s := hK.2.2.1
  exact h 16 (RL, 230, ";tear ") sl_16
theorem st_17 {G : LG} {s : State} (hK : Kv G s) : vk_R RL 232 "-" (G.2.2.1 17) s := by
  have h : StA G s := hK.2.2.1
  exact h 17 (RL, 232, "-") sl_17
theorem st_18 {G : LG} {s : State} (hK : Kv G s) : vk_R RL 234 ";" (G.2.2.1 18) s := by
  have h : StA G s := hK.2.2.1
  exact h 18 (RL, 234, ";") sl_18
theorem st_19 {G : LG} {s : State} (hK : Kv G s) : vk_R RX9 311 "the tape is full" (G.2.2.1 19) s := by
  have h : StA G s := hK.2.2.1
  exact h 19 (RX9, 311, "the tape is full") sl_19
theorem st_20 {G : LG} {s : State} (hK : Kv G s) : vk_R RX7 60 "knot D N=D" (G.2.2.1 20) s := by
  have h : StA G s := hK.2.2.1
  exact h 20 (RX7, 60, "knot D N=D") sl_20
theorem st_21 {G : LG} {s : State} (hK : Kv G s) : vk_R RX7 62 "tear D N-N" (G.2.2.1 21) s := by
  have h : StA G s := hK.2.2.1
  exact h 21 (RX7, 62, "tear D N-N") sl_21
theorem st_22 {G : LG} {s : State} (hK : Kv G s) : vk_R RX7 64 "mend D N-N/D" (G.2.2.1 22) s := by
  have h : StA G s := hK.2.2.1
  exact h 22 (RX7, 64, "mend D N-N/D") sl_22
theorem st_23 {G : LG} {s : State} (hK : Kv G s) : vk_R RX7 66 "editor N" (G.2.2.1 23) s := by
  have h : StA G s := hK.2.2.1
  exact h 23 (RX7, 66, "editor N") sl_23
theorem st_24 {G : LG} {s : State} (hK : Kv G s) : vk_R RX7 68 "tide D" (G.2.2.1 24) s := by
  have h : StA G s := hK.2.2.1
  exact h 24 (RX7, 68, "tide D") sl_24
theorem st_25 {G : LG} {s : State} (hK : Kv G s) : vk_R RX7 70 "sink D=D" (G.2.2.1 25) s := by
  have h : StA G s := hK.2.2.1
  exact h 25 (RX7, 70, "sink D=D") sl_25
theorem st_26 {G : LG} {s : State} (hK : Kv G s) : vk_R RX7 72 "note D N" (G.2.2.1 26) s := by
  have h : StA G s := hK.2.2.1
  exact h 26 (RX7, 72, "note D N") sl_26
theorem st_27 {G : LG} {s : State} (hK : Kv G s) : vk_R RX7 74 "drop D" (G.2.2.1 27) s := by
  have h : StA G s := hK.2.2.1
  exact h 27 (RX7, 74, "drop D") sl_27
theorem st_28 {G : LG} {s : State} (hK : Kv G s) : vk_R RX9 327 "the text has a fault" (G.2.2.1 28) s := by
  have h : StA G s := hK.2.2.1
  exact h 28 (RX9, 327, "the text has a fault") sl_28
theorem st_29 {G : LG} {s : State} (hK : Kv G s) : vk_R RX9 341 "an order is refused" (G.2.2.1 29) s := by
  have h : StA G s := hK.2.2.1
  exact h 29 (RX9, 341, "an order is refused") sl_29
theorem st_30 {G : LG} {s : State} (hK : Kv G s) : vk_R RX9 195 "no such net or place" (G.2.2.1 30) s := by
  have h : StA G s := hK.2.2.1
  exact h 30 (RX9, 195, "no such net or place") sl_30
theorem st_31 {G : LG} {s : State} (hK : Kv G s) : vk_R RX9 204 "the places are not beside each other" (G.2.2.1 31) s := by
  have h : StA G s := hK.2.2.1
  exact h 31 (RX9, 204, "the places are not beside each other") sl_31
theorem st_32 {G : LG} {s : State} (hK : Kv G s) : vk_R RX9 255 "no such note" (G.2.2.1 32) s := by
  have h : StA G s := hK.2.2.1
  exact h 32 (RX9, 255, "no such note") sl_32
theorem st_33 {G : LG} {s : State} (hK : Kv G s) : vk_R RX9 300 "no such editor" (G.2.2.1 33) s := by
  have h : StA G s := hK.2.2.1
  exact h 33 (RX9, 300, "no such editor") sl_33
theorem st_34 {G : LG} {s : State} (hK : Kv G s) : vk_R RX9 244 "there is no knot" (G.2.2.1 34) s := by
  have h : StA G s := hK.2.2.1
  exact h 34 (RX9, 244, "there is no knot") sl_34
theorem st_35 {G : LG} {s : State} (hK : Kv G s) : vk_R RX9 295 "no such place in the order" (G.2.2.1 35) s := by
  have h : StA G s := hK.2.2.1
  exact h 35 (RX9, 295, "no such place in the order") sl_35
theorem st_36 {G : LG} {s : State} (hK : Kv G s) : vk_R RX9 290 "no mending joins two chapters" (G.2.2.1 36) s := by
  have h : StA G s := hK.2.2.1
  exact h 36 (RX9, 290, "no mending joins two chapters") sl_36
theorem st_37 {G : LG} {s : State} (hK : Kv G s) : vk_R RX9 364 "no such net or line" (G.2.2.1 37) s := by
  have h : StA G s := hK.2.2.1
  exact h 37 (RX9, 364, "no such net or line") sl_37
theorem st_38 {G : LG} {s : State} (hK : Kv G s) : vk_R RX9 276 "no twine would do" (G.2.2.1 38) s := by
  have h : StA G s := hK.2.2.1
  exact h 38 (RX9, 276, "no twine would do") sl_38
theorem st_39 {G : LG} {s : State} (hK : Kv G s) : vk_R RX9 398 "there are no chapters" (G.2.2.1 39) s := by
  have h : StA G s := hK.2.2.1
  exact h 39 (RX9, 398, "there are no chapters") sl_39
theorem st_40 {G : LG} {s : State} (hK : Kv G s) : vk_R RX9 404 "there are no knots" (G.2.2.1 40) s := by
  have h : StA G s := hK.2.2.1
  exact h 40 (RX9, 404, "there are no knots") sl_40
theorem st_41 {G : LG} {s : State} (hK : Kv G s) : vk_R RX9 432 "there is nothing to undo" (G.2.2.1 41) s := by
  have h : StA G s := hK.2.2.1
  exact h 41 (RX9, 432, "there is nothing to undo") sl_41
theorem st_42 {G : LG} {s : State} (hK : Kv G s) : vk_R RX9 437 "nothing was saved" (G.2.2.1 42) s := by
  have h : StA G s := hK.2.2.1
  exact h 42 (RX9, 437, "nothing was saved") sl_42
/-- what the old heap holds, and stays -/
def Sv (G : LG) (b0 : Nat) (U : State) (H : Heap) : Prop := vx_Zq Bundle.tN "UNASSIGNED_STACK" Bundle.steD (Ab b0) U H ∧ vx_Zq Bundle.tN "SUPPRESSED_SENTINEL" Bundle.listD (Ab b0) U H ∧ StB G b0 U H ∧ va_Z "java/lang/String" "COMPACT_STRINGS" "Z" (.int 1) (Ab b0) U H ∧ va_Zq "jdk/internal/util/Preconditions" "SIOOBE_FORMATTER" "Ljava/util/function/BiFunction;" (Ab b0) U H ∧ va_X G.2.2.2.2.1 G.2.2.2.2.2.1 G.2.2.2.2.2.2 U H ∧ G.2.2.2.2.1 < b0 ∧ DgS G b0 U H
def Iv (G : LG) (b0 : Nat) (V : St) (U : State) : Prop := Hd G b0 V U.heap ∧ Kv G U ∧ Sv G b0 U U.heap
theorem nw_warm {w : Cond} (hn : nstW w = true) {s U : State} (hW : s.WarmedH U.vm) (h : va_Nw w s) : va_Nw w U := by
  cases w <;> first | (simp [nstW] at hn; done) | exact va_Nw.warmF hW h | exact va_Nw.warmM hW h | exact va_Nw.warmD hW h | exact va_Nw.warmC hW h
theorem Kv.warm {G : LG} {s U : State} (hW : s.WarmedH U.vm) (h : Kv G s) : Kv G U := ⟨va_K.moved hW.alike h.1, fun w hw => nw_warm (List.mem_filter.mp hw).2 hW (h.2.1 w hw), fun i q hq => vk_R.warm hW (h.2.2.1 i q hq), fun q hq => va_Nc.moved hW.alike (h.2.2.2 q hq)⟩
theorem nw_tab {w : Cond} (hn : nstW w = true) : w.onTables = true := by
  cases w <;> first | (simp [nstW] at hn; done) | rfl
theorem va_K.vmeq {D : va_G} {cl : List vw_C} {tys : List (ClassId × FieldType)} {u U : State} (hvm : u.vm = U.vm) (h : va_K D cl tys u) : va_K D cl tys U := va_K.moved (by rw [hvm]; exact Vm.Alike.refl U.vm) h
theorem Kv.vmeq {G : LG} {s U : State} (hv : s.vm = U.vm) (h : Kv G s) : Kv G U := ⟨va_K.vmeq hv h.1, fun w hw => va_Nw.same (nw_tab (List.mem_filter.mp hw).2) hv (h.2.1 w hw), fun i q hq => vk_R.same hv.symm (h.2.2.1 i q hq), fun q hq => va_Nc.moved (by rw [hv]; exact Vm.Alike.refl U.vm) (h.2.2.2 q hq)⟩
theorem Sv.moved {G : LG} {b0 : Nat} {u U : State} {H : Heap} (hvm : u.vm.Alike U.vm) (h : Sv G b0 u H) : Sv G b0 U H := by
  obtain ⟨h1, h2, h3, h4, h5, h6, h7, h8⟩ := h
  refine ⟨vx_Zq.moved hvm h1, vx_Zq.moved hvm h2, fun i q hq => ?_, va_Z.moved hvm h4, va_Zq.moved hvm h5, va_X.moved hvm h6, h7, va_Z.moved hvm h8.1, va_T.moved hvm h8.2.1, va_Z.moved hvm h8.2.2.1, va_T.moved hvm h8.2.2.2⟩
  obtain ⟨a1, a2, a3, a4⟩ := h3 i q hq
  exact ⟨va_O.moved hvm a1, va_OF.moved hvm a2, va_OF.moved hvm a3, va_T.moved hvm a4⟩
theorem Sv.kept {G : LG} {b0 : Nat} {U : State} {H H1 : Heap} (h : Sv G b0 U H) (hq : ∀ a : Nat, a < H.size → ¬ Ab b0 a → H1[a]? = H[a]?) : Sv G b0 U H1 := by
  obtain ⟨h1, h2, h3, h4, h5, h6, h7, h8⟩ := h
  refine ⟨vx_Zq.kept h1 hq, vx_Zq.kept h2 hq, fun i q hq9 => ?_, va_Z.kept h4 hq, va_Zq.kept h5 hq, h6.kept (hq _ (by obtain ⟨scr, z, -⟩ := h6; exact (Array.getElem?_eq_some_iff.mp z).1) (Nat.not_le.mpr h7)), h7, h8.1.kept hq, h8.2.1.kept hq, h8.2.2.1.kept hq, h8.2.2.2.kept hq⟩
  obtain ⟨a1, a2, a3, a4⟩ := h3 i q hq9
  exact ⟨a1.kept hq, a2.kept hq, a3.kept hq, a4.kept hq⟩
/-- behind a step of the heap: the whole again, for any state that has this heap -/
theorem Iv.mk {G : LG} {b0 : Nat} {V : St} {s : State} {H : Heap} {locs : List Loc} (hK : Kv G s) (hSv : Sv G b0 s s.heap) (hV : Hd G b0 V H) (hS : va_S (Ab b0) s.heap H locs) {U : State} (hU : U.heap = H) (hW : s.WarmedH U.vm) : Iv G b0 V U := by
  refine ⟨by rw [hU]; exact hV, hK.warm hW, ?_⟩
  rw [hU]
  exact (hSv.moved hW.alike).kept hS.2.1
theorem Iv.blind {G : LG} {b0 : Nat} {V : St} {U : State} {g : JFrame} {mk : MethodId} {a : Array Value} (h : Iv G b0 V U) : Iv G b0 V (U.calling g mk a) :=
  ⟨h.1, Kv.vmeq (s := U) (U := U.calling g mk a) rfl h.2.1, Sv.moved (u := U) (U := U.calling g mk a) (Vm.Alike.refl U.vm) h.2.2⟩
/-- what a method's walk has at hand -/
def Cx (p : Program) (l : Launch) (s : State) (m : MethodId) (args : Array Value) (meth : Method) (c : Code) (G : LG) (b0 : Nat) (own : String) (cc : ByteArray) (nL : Nat) (ret : Option FieldType) : Prop :=
  p.tables.exec = Jvm.exec ∧ c.code = cc ∧ meth.sig.returnType = ret ∧ c.maxLocals = nL ∧ s.vm.findClass own = some m.cls ∧ (∀ w ∈ GW, w.before args s = true) ∧ meth.locks = false ∧ Kv G s ∧ Sv G b0 s s.heap
def rm (d : Nat) : Room := { frames := d, cells := 0, slots := 0, locals := 60 * d }
def QI (G : LG) (b0 : Nat) (r : Int32) (V : St) : Array Value → State → Outcome → State → Prop := va_Qi (fun x (_ : Unit) => x = r) (fun _ => Iv G b0 V) (Ab b0)
def QV (G : LG) (b0 : Nat) (V : St) : Array Value → State → Outcome → State → Prop := va_Qv (fun (_ : Unit) => True) (fun _ => Iv G b0 V) (Ab b0)
/-- a reference: of one of our objects -/
def QR (G : LG) (b0 : Nat) (r : Nat) (V : St) : Array Value → State → Outcome → State → Prop := va_Qr (fun (_ : Unit) => True) (fun _ a t => a = b0 + r ∧ Iv G b0 V t) (Ab b0)
/-- a reference: a String constant -/
def QS (G : LG) (b0 : Nat) (r : Nat) (V : St) : Array Value → State → Outcome → State → Prop := va_Qr (fun (_ : Unit) => True) (fun _ a t => a = G.2.2.1 r ∧ Iv G b0 V t) (Ab b0)
def QD (G : LG) (b0 : Nat) (r : UInt64) (V : St) : Array Value → State → Outcome → State → Prop := va_Qd (fun x (_ : Unit) => x = r) (fun _ => Iv G b0 V) (Ab b0)
def QF (G : LG) (b0 : Nat) (r : UInt32) (V : St) : Array Value → State → Outcome → State → Prop := va_Qf (fun x (_ : Unit) => x = r) (fun _ => Iv G b0 V) (Ab b0)
/-- a method that throws nothing, from its walk -/
theorem mk_m {l : Launch} {y : MethodName} {cc : ByteArray} {nL : Nat} {ret : Option FieldType} {As : List Value} {G : LG} {b0 : Nat} {V : St} {d : Nat} {Qc : Array Value → State → Outcome → State → Prop} (hy : plainFor y = true) (hn : (lg_sl As).length ≤ nL)
    (body : ∀ (p : Program) (e : Env) (s : State) (m : MethodId) (below : List Frame) (meth : Method) (c : Code), Cx p l s m As.toArray meth c G b0 y.cls cc nL ret → Hd G b0 V s.heap → va_S (Ab b0) s.heap s.heap [] → ∀ ls, lv_has ls nL (lv_args 0 As) → W p l e (rm d) s m As.toArray below meth c s.heap [] 0 0 (MQ below Qc As.toArray s 0 0 (Ab b0)) (F0 m 0 ls [])) :
    Met l y (wy y cc nL ret) (rm d) (va_Pc As (Iv G b0 V)) Qc 0 0 (Ab b0) := by
  refine MetFree.of_bodySF (code := cc) (maxLocals := nL) (ret := ret) hy ?_ ?_
  · intro args s m h hn9
    obtain ⟨meth, c, h1, h2, h3, h4, h5, h6, -, -⟩ := Cond.code_spec hn9 (atoms_spec (ws := wy y cc nL ret) h _ List.mem_cons_self)
    exact ⟨meth, c, h1, h2, h3, h4, h5, h6⟩
  · intro p e s m args below meth c s₁ B hml hv _
    have hh0 : s₁.heap = s.heap := by rw [B.state]; rfl
    obtain ⟨rfl, hV, hK, hSv⟩ := hv
    have hts := atoms_spec (ws := wy y cc nL ret) B.pre
    have w := body p e s m below meth c ⟨B.exec, B.bytes, B.returns, hml, findClass_of_methodNamed B.named, fun w hw => hts w (List.mem_cons_of_mem _ hw), B.notSynchronized, hK, hSv⟩ hV va_S.rf _ (lv_entry As hn)
    rw [← lg_entry_eq] at w
    obtain ⟨t, a1, o, b1, b2, b3⟩ := w s₁ hh0 (Stand.of_body B)
    exact ⟨t, o, a1, b1, b2, ⟨b3.1, b3.2⟩⟩
def ix (i : Int32) (n : Nat) : Option Nat := if i < 0 ∨ n ≤ i.toNatClampNeg then none else some i.toNatClampNeg
theorem ix_in {i : Int32} {n j : Nat} (h : ix i n = some j) : vp_in i n ∧ i.toNatClampNeg = j ∧ j < n := by
  unfold ix at h
  by_cases c : i < 0 ∨ n ≤ i.toNatClampNeg
  · rw [if_pos c] at h
    cases h
  · rw [if_neg c] at h
    cases h
    exact ⟨c, rfl, Nat.not_le.mp fun q => c (Or.inr q)⟩
/-- an int that a small type keeps -/
def nr (ty : FieldType) (x : Int32) : Option Int32 := if vp_nar ty x = x then some x else none
theorem nr_in {ty : FieldType} {x y : Int32} (h : nr ty x = some y) : y = x ∧ vp_nar ty x = x := by
  unfold nr at h
  by_cases c : vp_nar ty x = x
  · rw [if_pos c] at h
    cases h
    exact ⟨rfl, c⟩
  · rw [if_neg c] at h
    cases h
theorem nar_z {x : Int32} (h : vp_nar .boolean x = x) : narrow .boolean (.int x) = .int x := by
  have e : narrow .boolean (.int x) = .int (vp_nar .boolean x) := rfl
  rw [e, h]
theorem nar_c {x : Int32} (h : vp_nar .char x = x) : narrow .char (.int x) = .int x := by
  have e : narrow .char (.int x) = .int (vp_nar .char x) := rfl
  rw [e, h]
theorem ob {α β : Type} {o : Option α} {f : α → Option β} {r : β} (h : o.bind f = some r) : ∃ a, o = some a ∧ f a = some r := by
  cases o with
  | none => cases h
  | some a => exact ⟨a, rfl, h⟩
theorem rm_ok {d D maxL : Nat} (h : d + 1 ≤ D) (h2 : maxL ≤ 40) : (rm d).frames + 1 ≤ (rm D).frames ∧ 8 + (maxL + 11) + (rm d).locals ≤ (rm D).locals := by
  unfold rm
  refine ⟨h, ?_⟩
  show 8 + (maxL + 11) + 60 * d ≤ 60 * D
  omega
section MR
variable {p : Program} {l : Launch} {e : Env} {R : Room} {s : State} {m : MethodId} {args : Array Value} {below : List Frame} {meth : Method} {c : Code} {H : Heap} {locs : List Loc} {cells slots : Nat} {Q : State → Prop}
variable {cc : ByteArray} {pc : Nat} {ls : Array Slot} {rest st0 : List Value} {G : LG} {b0 : Nat} {V V1 : St} {own : String} {nL index : Nat} {ret0 : Option FieldType} {a : Array Value}
/-! ends -/
theorem fin_i (C : Cx p l s m args meth c G b0 own cc nL (some .int)) (hV : Hd G b0 V H) (hS : va_S (Ab b0) s.heap H locs) {v r : Int32} (hv : v = r) (hdg : decode cc pc = .ok (.ireturn, 1)) : W p l e R s m args below meth c H locs 0 0 (MQ below (QI G b0 r V) args s 0 0 (Ab b0)) (F0 m pc ls [.int v]) := by
  obtain ⟨hx, hb, hr, -, -, -, hlocks, hK, hSv⟩ := C
  exact W.iret (v := v) hx hb hr (fun t ht hW => ⟨⟨v, (), rfl, hv, Iv.mk hK hSv hV hS ht hW⟩, hS.F ht⟩) hS.2.2 hdg
theorem fin_z (C : Cx p l s m args meth c G b0 own cc nL (some .boolean)) (hV : Hd G b0 V H) (hS : va_S (Ab b0) s.heap H locs) {v r : Int32} (hn : vp_nar .boolean v = v) (hv : v = r) (hdg : decode cc pc = .ok (.ireturn, 1)) : W p l e R s m args below meth c H locs 0 0 (MQ below (QI G b0 r V) args s 0 0 (Ab b0)) (F0 m pc ls [.int v]) := by
  obtain ⟨hx, hb, hr, -, -, -, hlocks, hK, hSv⟩ := C
  exact W.zret (v := v) hx hb hr (nar_z hn) (fun t ht hW => ⟨⟨v, (), rfl, hv, Iv.mk hK hSv hV hS ht hW⟩, hS.F ht⟩) hS.2.2 hdg
theorem fin_c (C : Cx p l s m args meth c G b0 own cc nL (some .char)) (hV : Hd G b0 V H) (hS : va_S (Ab b0) s.heap H locs) {v r : Int32} (hn : vp_nar .char v = v) (hv : v = r) (hdg : decode cc pc = .ok (.ireturn, 1)) : W p l e R s m args below meth c H locs 0 0 (MQ below (QI G b0 r V) args s 0 0 (Ab b0)) (F0 m pc ls [.int v]) := by
  obtain ⟨hx, hb, hr, -, -, -, hlocks, hK, hSv⟩ := C
  exact W.zret (v := v) hx hb hr (nar_c hn) (fun t ht hW => ⟨⟨v, (), rfl, hv, Iv.mk hK hSv hV hS ht hW⟩, hS.F ht⟩) hS.2.2 hdg
theorem fin_v (C : Cx p l s m args meth c G b0 own cc nL none) (hV : Hd G b0 V H) (hS : va_S (Ab b0) s.heap H locs) (hv : V = V1) (hdg : decode cc pc = .ok (.return_, 1)) : W p l e R s m args below meth c H locs 0 0 (MQ below (QV G b0 V1) args s 0 0 (Ab b0)) (F0 m pc ls []) := by
  obtain ⟨hx, hb, hr, -, -, -, hlocks, hK, hSv⟩ := C
  subst hv
  exact W.vret hx hb hr (fun t ht hW => ⟨⟨(), rfl, trivial, Iv.mk hK hSv hV hS ht hW⟩, hS.F ht⟩) hS.2.2 hdg
theorem fin_r {rn : String} (C : Cx p l s m args meth c G b0 own cc nL (some (.object rn))) (hV : Hd G b0 V H) (hS : va_S (Ab b0) s.heap H locs) {v r : Nat} (hv : v = r) (hdg : decode cc pc = .ok (.areturn, 1)) : W p l e R s m args below meth c H locs 0 0 (MQ below (QR G b0 r V) args s 0 0 (Ab b0)) (F0 m pc ls [.ref (b0 + v)]) := by
  obtain ⟨hx, hb, hr, -, -, -, hlocks, hK, hSv⟩ := C
  subst hv
  exact W.aret (v := .ref (b0 + v)) hx hb hr (Or.inl ⟨_, rfl⟩) (Or.inr ⟨_, rfl⟩) (fun t ht hW => ⟨⟨(), _, rfl, trivial, rfl, Iv.mk hK hSv hV hS ht hW⟩, hS.F ht⟩) hS.2.2 hdg
theorem fin_s {rn : String} (C : Cx p l s m args meth c G b0 own cc nL (some (.object rn))) (hV : Hd G b0 V H) (hS : va_S (Ab b0) s.heap H locs) {v r : Nat} (hv : v = r) (hdg : decode cc pc = .ok (.areturn, 1)) : W p l e R s m args below meth c H locs 0 0 (MQ below (QS G b0 r V) args s 0 0 (Ab b0)) (F0 m pc ls [.ref (G.2.2.1 v)]) := by
  obtain ⟨hx, hb, hr, -, -, -, hlocks, hK, hSv⟩ := C
  subst hv
  exact W.aret (v := .ref (G.2.2.1 v)) hx hb hr (Or.inl ⟨_, rfl⟩) (Or.inr ⟨_, rfl⟩) (fun t ht hW => ⟨⟨(), _, rfl, trivial, rfl, Iv.mk hK hSv hV hS ht hW⟩, hS.F ht⟩) hS.2.2 hdg
/-! behind a call -/
theorem cal_i {r : Int32} (hr : va_Run p l e R s m args below meth c H locs cells slots 0 0 (F0 m pc ls st0) rest (QI G b0 r V1 a) (Ab b0)) (hS : va_S (Ab b0) s.heap H locs)
    (kk : ∀ (H1 : Heap) (locs1 : List Loc), Hd G b0 V1 H1 → va_S (Ab b0) s.heap H1 locs1 → W p l e R s m args below meth c H1 locs1 cells slots Q (F0 m (pc + 3) ls (.int r :: rest))) : W p l e R s m args below meth c H locs cells slots Q (F0 m pc ls st0) :=
  va_calli hr hS (fun _ _ h => h) (fun _ h => h) (fun x u t H1 locs1 ht hvm hw hB hz hk hS1 => by
    have hw : x = r := hw
    subst hw
    exact kk H1 locs1 (by rw [← ht]; exact hB.1) hS1)
theorem cal_v (hr : va_Run p l e R s m args below meth c H locs cells slots 0 0 (F0 m pc ls st0) rest (QV G b0 V1 a) (Ab b0)) (hS : va_S (Ab b0) s.heap H locs)
    (kk : ∀ (H1 : Heap) (locs1 : List Loc), Hd G b0 V1 H1 → va_S (Ab b0) s.heap H1 locs1 → W p l e R s m args below meth c H1 locs1 cells slots Q (F0 m (pc + 3) ls rest)) : W p l e R s m args below meth c H locs cells slots Q (F0 m pc ls st0) :=
  va_callv hr hS (fun _ _ h => h) (fun _ h => h) (fun u t H1 locs1 ht hvm hw hB hz hk hS1 => kk H1 locs1 (by rw [← ht]; exact hB.1) hS1)
theorem cal_r {r : Nat} (hr : va_Run p l e R s m args below meth c H locs cells slots 0 0 (F0 m pc ls st0) rest (QR G b0 r V1 a) (Ab b0)) (hS : va_S (Ab b0) s.heap H locs)
    (kk : ∀ (H1 : Heap) (locs1 : List Loc), Hd G b0 V1 H1 → va_S (Ab b0) s.heap H1 locs1 → W p l e R s m args below meth c H1 locs1 cells slots Q (F0 m (pc + 3) ls (.ref (b0 + r) :: rest))) : W p l e R s m args below meth c H locs cells slots Q (F0 m pc ls st0) :=
  va_callr hr hS (fun _ _ h => h) (fun _ h => h) (fun u ra t H1 locs1 ht hvm hw hB hz hk hS1 => by
    obtain ⟨hB1, hB2⟩ := hB
    subst hB1
    exact kk H1 locs1 (by rw [← ht]; exact hB2.1) hS1)
theorem cal_s {r : Nat} (hr : va_Run p l e R s m args below meth c H locs cells slots 0 0 (F0 m pc ls st0) rest (QS G b0 r V1 a) (Ab b0)) (hS : va_S (Ab b0) s.heap H locs)
    (kk : ∀ (H1 : Heap) (locs1 : List Loc), Hd G b0 V1 H1 → va_S (Ab b0) s.heap H1 locs1 → W p l e R s m args below meth c H1 locs1 cells slots Q (F0 m (pc + 3) ls (.ref (G.2.2.1 r) :: rest))) : W p l e R s m args below meth c H locs cells slots Q (F0 m pc ls st0) :=
  va_callr hr hS (fun _ _ h => h) (fun _ h => h) (fun u ra t H1 locs1 ht hvm hw hB hz hk hS1 => by
    obtain ⟨hB1, hB2⟩ := hB
    subst hB1
    exact kk H1 locs1 (by rw [← ht]; exact hB2.1) hS1)
/-! calls -/
variable {y : MethodName} {bytes : ByteArray} {maxL d n : Nat} {ret : Option FieldType} {As : List Value} {Qc : Array Value → State → Outcome → State → Prop}
abbrev dOk (y : MethodName) (n : Nat) : Prop := y.cls ≠ "java/lang/invoke/MethodHandle" ∧ y.cls ≠ "java/lang/invoke/VarHandle" ∧ (parseMethodDescriptor y.desc).map (fun d => d.parameters.length) = some n
/-- a receiver that is one of our objects -/
theorem rcv (hK : Kv G s) (hV : Hd G b0 V H) {k ci N : Nat} {T : u_T} {fs : List Value} {Cn : String} (hk : k < 208) (he : cel G b0 V k = .inr (ci, fs)) (hc : vwCl[ci]? = some (Cn, T, N)) : ∃ cellB : Cell, H[b0 + k]? = some cellB ∧ cellB.vm.isStatics = false ∧ s.vm.findClass Cn = some cellB.cls :=
  va_recv hK.1 (hV.p1 hk) hc (q0 := 0) (fs := fs) (by rw [he]; rfl)
theorem run_V (C : Cx p l s m args meth c G b0 own cc nL ret0) (hV : Hd G b0 V H) (hS : va_S (Ab b0) s.heap H locs) {b : Nat} (hM : Met l y (wy y bytes maxL ret) (rm d) (va_Pc (.ref b :: As) (Iv G b0 V)) Qc 0 0 (Ab b0))
    (hrv : ∃ cellB : Cell, H[b]? = some cellB ∧ cellB.vm.isStatics = false ∧ s.vm.findClass y.cls = some cellB.cls) (hl : Cond.methodLink own index y ∈ GW) (hi : Cond.instanceMethod y ∈ GW) (hse : Cond.selects y.cls y y ∈ GW) (hin : Cond.initialized y.cls ∈ GW) (hco : Cond.code y bytes maxL ret ∈ GW) (hd : dOk y As.length)
    (hR : (rm d).frames + 1 ≤ R.frames ∧ 8 + (maxL + 11) + (rm d).locals ≤ R.locals) (hls : ls.size = nL) (hst : st0 = As.reverse ++ .ref b :: rest) (hn : (rest.map fun v => v.category).sum ≤ 8) (hdg : decode cc pc = .ok (.invokevirtual index, 3)) (hcs : cells ≤ R.cells ∧ slots ≤ R.slots) :
    va_Run p l e R s m args below meth c H locs cells slots 0 0 (F0 m pc ls st0) rest (Qc (Value.ref b :: As).toArray) (Ab b0) := by
  obtain ⟨hx, hb, hr, hml, hown, hts, hlocks, hK, hSv⟩ := C
  have hG : GoodIn GW (wsV own index y.cls y (wy y bytes maxL ret)) := by
    intro w hw
    rcases List.mem_append.mp hw with h | h
    · have h9 : w ∈ GW := by
        simp only [List.mem_cons, List.not_mem_nil, or_false] at h
        rcases h with rfl | rfl | rfl | rfl
        · exact hl
        · exact hi
        · exact hse
        · exact hin
      exact ⟨h9, good_of_word (gw_good _ h9)⟩
    · exact gi_wy hco w h
  exact va_runV (As := As) (rest := rest) ⟨hx, hb, hml, hown, hts⟩ hM (cwV As.length hts hG rfl rfl rfl ⟨rfl, hd⟩ hR) ⟨fun a U g mk q => ⟨q.1, q.2.blind⟩, hrv, fun U hU hW => ⟨rfl, Iv.mk hK hSv hV hS hU hW⟩⟩ rfl rfl hls hst (lv_room hn) hdg hcs
theorem run_VN (C : Cx p l s m args meth c G b0 own cc nL ret0) (hV : Hd G b0 V H) (hS : va_S (Ab b0) s.heap H locs) {b : Nat} {host : String} (hM : Met l y (wy y bytes maxL ret) (rm d) (va_Pc (.ref b :: As) (Iv G b0 V)) Qc 0 0 (Ab b0))
    (hrv : ∃ cellB : Cell, H[b]? = some cellB ∧ cellB.vm.isStatics = false ∧ s.vm.findClass y.cls = some cellB.cls) (hl : Cond.methodLinkNest own index y host ∈ NW) (hi : Cond.instanceMethod y ∈ GW) (hse : Cond.selects y.cls y y ∈ GW) (hin : Cond.initialized y.cls ∈ GW) (hco : Cond.code y bytes maxL ret ∈ GW) (hd : dOk y As.length)
    (hR : (rm d).frames + 1 ≤ R.frames ∧ 8 + (maxL + 11) + (rm d).locals ≤ R.locals) (hls : ls.size = nL) (hst : st0 = As.reverse ++ .ref b :: rest) (hn : (rest.map fun v => v.category).sum ≤ 8) (hdg : decode cc pc = .ok (.invokevirtual index, 3)) (hcs : cells ≤ R.cells ∧ slots ≤ R.slots) :
    va_Run p l e R s m args below meth c H locs cells slots 0 0 (F0 m pc ls st0) rest (Qc (Value.ref b :: As).toArray) (Ab b0) := by
  obtain ⟨hx, hb, hr, hml, hown, hts, hlocks, hK, hSv⟩ := C
  exact va_runVN (As := As) (rest := rest) ⟨hx, hb, hml, hown, hts⟩ hM ⟨va_cnB As.length hts (gi_wy hco) rfl rfl rfl (hK.2.1 _ hl) (hts _ hin) hd hR, hts _ hi, hts _ hse⟩ ⟨fun a U g mk q => ⟨q.1, q.2.blind⟩, hrv, fun U hU hW => ⟨rfl, Iv.mk hK hSv hV hS hU hW⟩⟩ rfl rfl hls hst (lv_room hn) hdg hcs
theorem run_S (C : Cx p l s m args meth c G b0 own cc nL ret0) (hV : Hd G b0 V H) (hS : va_S (Ab b0) s.heap H locs) (hM : Met l y (wy y bytes maxL ret) (rm d) (va_Pc As (Iv G b0 V)) Qc 0 0 (Ab b0))
    (hl : Cond.methodLink own index y ∈ GW) (hi : Cond.static y ∈ GW) (hin : Cond.initialized y.cls ∈ GW) (hco : Cond.code y bytes maxL ret ∈ GW) (hd : dOk y As.length)
    (hR : (rm d).frames + 1 ≤ R.frames ∧ 8 + (maxL + 11) + (rm d).locals ≤ R.locals) (hls : ls.size = nL) (hst : st0 = As.reverse ++ rest) (hn : (rest.map fun v => v.category).sum ≤ 8) (hdg : decode cc pc = .ok (.invokestatic index, 3)) (hcs : cells ≤ R.cells ∧ slots ≤ R.slots) :
    va_Run p l e R s m args below meth c H locs cells slots 0 0 (F0 m pc ls st0) rest (Qc As.toArray) (Ab b0) := by
  obtain ⟨hx, hb, hr, hml, hown, hts, hlocks, hK, hSv⟩ := C
  have hG : GoodIn GW (va_wsS own index y (wy y bytes maxL ret)) := by
    intro w hw
    rcases List.mem_append.mp hw with h | h
    · have h9 : w ∈ GW := by
        simp only [List.mem_cons, List.not_mem_nil, or_false] at h
        rcases h with rfl | rfl | rfl
        · exact hl
        · exact hi
        · exact hin
      exact ⟨h9, good_of_word (gw_good _ h9)⟩
    · exact gi_wy hco w h
  exact va_runS (As := As) (rest := rest) ⟨hx, hb, hml, hown, hts⟩ hM (va_cwS As.length hts hG rfl rfl rfl hd hR) ⟨fun a U g mk q => ⟨q.1, q.2.blind⟩, fun U hU hW => ⟨rfl, Iv.mk hK hSv hV hS hU hW⟩⟩ rfl rfl hls hst (lv_room hn) hdg hcs
theorem run_SN (C : Cx p l s m args meth c G b0 own cc nL ret0) (hV : Hd G b0 V H) (hS : va_S (Ab b0) s.heap H locs) {host : String} (hM : Met l y (wy y bytes maxL ret) (rm d) (va_Pc As (Iv G b0 V)) Qc 0 0 (Ab b0))
    (hl : Cond.methodLinkNest own index y host ∈ NW) (hi : Cond.static y ∈ GW) (hin : Cond.initialized y.cls ∈ GW) (hco : Cond.code y bytes maxL ret ∈ GW) (hd : dOk y As.length)
    (hR : (rm d).frames + 1 ≤ R.frames ∧ 8 + (maxL + 11) + (rm d).locals ≤ R.locals) (hls : ls.size = nL) (hst : st0 = As.reverse ++ rest) (hn : (rest.map fun v => v.category).sum ≤ 8) (hdg : decode cc pc = .ok (.invokestatic index, 3)) (hcs : cells ≤ R.cells ∧ slots ≤ R.slots) :
    va_Run p l e R s m args below meth c H locs cells slots 0 0 (F0 m pc ls st0) rest (Qc As.toArray) (Ab b0) := by
  obtain ⟨hx, hb, hr, hml, hown, hts, hlocks, hK, hSv⟩ := C
  exact va_runSN (As := As) (rest := rest) ⟨hx, hb, hml, hown, hts⟩ hM ⟨va_cnB As.length hts (gi_wy hco) rfl rfl rfl (hK.2.1 _ hl) (hts _ hin) hd hR, hts _ hi, trivial⟩ ⟨fun a U g mk q => ⟨q.1, q.2.blind⟩, fun U hU hW => ⟨rfl, Iv.mk hK hSv hV hS hU hW⟩⟩ rfl rfl hls hst (lv_room hn) hdg hcs
/-! Math -/
theorem r_max (C : Cx p l s m args meth c G b0 own cc nL ret0) (hl : Cond.methodLink own index Lib.Math.max.name ∈ GW) (hst : Cond.static Lib.Math.max.name ∈ GW) (hin : Cond.initialized "java/lang/Math" ∈ GW) (hco : Cond.code Lib.Math.max.name Lib.Math.max.code 2 (some .int) ∈ GW) (hls : ls.size = nL) {D : Nat} (hR : R.frames = D + 1 ∧ R.locals = 60 * (D + 1)) (hn : (rest.map fun v => v.category).sum ≤ 8) (hcs : cells ≤ R.cells ∧ slots ≤ R.slots) {x z : Int32} (hdg : decode cc pc = .ok (.invokestatic index, 3))
    (kk : W p l e R s m args below meth c H locs cells slots Q (F0 m (pc + 3) ls (.int (if x < z then z else x) :: rest))) : W p l e R s m args below meth c H locs cells slots Q (F0 m pc ls (.int z :: .int x :: rest)) := by
  obtain ⟨hx, hb, hr, hml, hown, hts, hlocks, hK, hSv⟩ := C
  exact va_mmax hx hb (hml.trans hls.symm) hown (hts _ hl) (hts _ hst) (hts _ hin) (hts _ hco) (by rw [hR.1]; omega) (by rw [hR.2]; omega) hcs.1 hcs.2 hdg kk
theorem r_min (C : Cx p l s m args meth c G b0 own cc nL ret0) (hl : Cond.methodLink own index Lib.Math.min.name ∈ GW) (hst : Cond.static Lib.Math.min.name ∈ GW) (hin : Cond.initialized "java/lang/Math" ∈ GW) (hco : Cond.code Lib.Math.min.name Lib.Math.min.code 2 (some .int) ∈ GW) (hls : ls.size = nL) {D : Nat} (hR : R.frames = D + 1 ∧ R.locals = 60 * (D + 1)) (hn : (rest.map fun v => v.category).sum ≤ 8) (hcs : cells ≤ R.cells ∧ slots ≤ R.slots) {x z : Int32} (hdg : decode cc pc = .ok (.invokestatic index, 3))
    (kk : W p l e R s m args below meth c H locs cells slots Q (F0 m (pc + 3) ls (.int (if z < x then z else x) :: rest))) : W p l e R s m args below meth c H locs cells slots Q (F0 m pc ls (.int z :: .int x :: rest)) := by
  obtain ⟨hx, hb, hr, hml, hown, hts, hlocks, hK, hSv⟩ := C
  exact va_mmin hx hb (hml.trans hls.symm) hown (hts _ hl) (hts _ hst) (hts _ hin) (hts _ hco) (by rw [hR.1]; omega) (by rw [hR.2]; omega) hcs.1 hcs.2 hdg kk
/-! fields -/
theorem up_at {k j : Nat} {x : Int32} {k' : Nat} (h : k' ≠ k) : up V k j x k' = V k' := if_neg h
theorem up_me {k j : Nat} {x : Int32} : up V k j x k = upd (V k) j x := if_pos rfl
theorem Hd.set (hV : Hd G b0 V H) {H1 : Heap} {k j : Nat} {x : Int32} (hk : k < 208) (h1 : va_at G.1 vwCl (b0 + k, cel G b0 (up V k j x) k) H1) (oq : ∀ q : Nat, q ≠ b0 + k → H1[q]? = H[q]?) : Hd G b0 (up V k j x) H1 := by
  refine ⟨fun i hi => ?_, fun y hy => (hV.2.1 y hy).kept (oq _ ?_), hV.2.2⟩
  · by_cases e : i = k
    · subst e
      exact h1
    · have h2 : cel G b0 (up V k j x) i = cel G b0 V i := by
        unfold cel
        rw [up_at e]
      rw [h2]
      exact (hV.1 i hi).kept (oq _ (by show b0 + i ≠ b0 + k; omega))
  · have := hV.2.2 y hy
    show y.1 ≠ b0 + k
    omega
theorem r_get (C : Cx p l s m args meth c G b0 own cc nL ret0) (hV : Hd G b0 V H) {k ci N : Nat} {T : u_T} {fs : List Value} {Cn ref : String} {v : Value} (hk : k < 208) (he : cel G b0 V k = .inr (ci, fs)) (hc : vwCl[ci]? = some (Cn, T, N)) (hin : ∀ w ∈ u_ws Cn T N, w ∈ GW) (j : Nat) (hj : j < N) (hlink : Cond.fieldLink own index ref (T j).2.1 (T j).2.2.1 ∈ GW) (hsame : ref = (T j).1) (hv : fs[j]? = some v) (hdg : decode cc pc = .ok (.getfield index, 3))
    (kk : W p l e R s m args below meth c H locs cells slots Q (F0 m (pc + 3) ls (v :: rest))) : W p l e R s m args below meth c H locs cells slots Q (F0 m pc ls (.ref (b0 + k) :: rest)) := by
  obtain ⟨hx, hb, hr, hml, hown, hts, hlocks, hK, hSv⟩ := C
  subst hsame
  exact va_get (T := T) hx hb hts hin hown hK.1 (hV.p1 hk) 0 (by rw [he]; rfl) hc j hj (hts _ hlink) (fun _ h => h) hv hdg kk
theorem r_getN (C : Cx p l s m args meth c G b0 own cc nL ret0) (hV : Hd G b0 V H) {k ci N : Nat} {T : u_T} {fs : List Value} {Cn ref host : String} {v : Value} (hk : k < 208) (he : cel G b0 V k = .inr (ci, fs)) (hc : vwCl[ci]? = some (Cn, T, N)) (hin : ∀ w ∈ u_ws Cn T N, w ∈ GW) (j : Nat) (hj : j < N) (hlink : Cond.fieldLinkNest own index ref (T j).2.1 (T j).2.2.1 host ∈ NW) (hsame : ref = (T j).1) (hv : fs[j]? = some v) (hdg : decode cc pc = .ok (.getfield index, 3))
    (kk : W p l e R s m args below meth c H locs cells slots Q (F0 m (pc + 3) ls (v :: rest))) : W p l e R s m args below meth c H locs cells slots Q (F0 m pc ls (.ref (b0 + k) :: rest)) := by
  obtain ⟨hx, hb, hr, hml, hown, hts, hlocks, hK, hSv⟩ := C
  subst hsame
  exact va_getN (T := T) hx hb hts hin hown hK.1 (hV.p1 hk) 0 (by rw [he]; rfl) hc j hj (va_Nw.use rfl (hK.2.1 _ hlink)) (fun _ h => h) hv hdg kk
theorem r_put (C : Cx p l s m args meth c G b0 own cc nL ret0) (hV : Hd G b0 V H) (hS : va_S (Ab b0) s.heap H locs) {k ci N : Nat} {T : u_T} {fs : List Value} {Cn ref : String} {v : Value} (hk : k < 208) (he : cel G b0 V k = .inr (ci, fs)) (hc : vwCl[ci]? = some (Cn, T, N)) (hin : ∀ w ∈ u_ws Cn T N, w ∈ GW) (ty0 : Nat → FieldType) (hty : ∀ k, k < N → parseFieldDescriptor (T k).2.2.1 = some (ty0 k)) (hnm : ∀ a, a < N → ∀ b, b < N → a ≠ b → (T a).2.1 ≠ (T b).2.1) (j : Nat) (hj : j < N) (hlink : Cond.fieldLink own index ref (T j).2.1 (T j).2.2.1 ∈ GW) (hsame : ref = (T j).1) (hfin : (T j).2.2.2 = false) {ty : FieldType} (hd : parseFieldDescriptor (T j).2.2.1 = some ty) (hn : narrow ty v = v) (hfit : fits ty v = true) (hl : j < fs.length)
    (j' : Nat) (x : Int32) (he1 : cel G b0 (up V k j' x) k = .inr (ci, fs.set j v)) (hdg : decode cc pc = .ok (.putfield index, 3))
    (kk : ∀ (H1 : Heap) (locs1 : List Loc), Hd G b0 (up V k j' x) H1 → va_S (Ab b0) s.heap H1 locs1 → W p l e R s m args below meth c H1 locs1 cells slots Q (F0 m (pc + 3) ls rest)) : W p l e R s m args below meth c H locs cells slots Q (F0 m pc ls (v :: .ref (b0 + k) :: rest)) := by
  obtain ⟨hx, hb, hr, hml, hown, hts, hlocks, hK, hSv⟩ := C
  subst hsame
  have hap := va_apart (own := own) hts hin ty0 hty hnm hK.1 hc
  have h0 := hV.1 k hk
  rw [he] at h0
  obtain ⟨r, h1, cell, q1, q2, q3, q4⟩ := h0
  have hr : r = (Cn, T, N) := Option.some.inj (h1.symm.trans hc)
  subst hr
  obtain ⟨hS9, hfc, kC, hkC, hkind⟩ := hK.1.1 ci _ hc
  obtain ⟨cf, kf, fi, f, hi, hsl⟩ := hS9 j hj
  have hlay := hts _ (hin _ (u_in_lay hj))
  unfold u_lay at hlay
  rw [if_neg (by rw [hfin]; decide)] at hlay
  have hst := (u_facts hfc hkC (u_lays hts hin hj) hi).1
  have h6 := u_store hfc hkC hkind hlay hi hd hn hfit
  refine W.putK hx hb (f := f) ⟨hown, hts _ hlink, ⟨_, _, _, hi⟩, hst⟩ (by rw [q2]; exact h6) q1 q3 (by rw [hsl]; exact k2_hasslot (q4 j hj)) rfl rfl hdg fun H' e1 e2 e3 => ?_
  rw [hsl] at e1 ⊢
  refine kk H' _ (hV.set hk ?_ e3) (hS.put e2 e3 (show b0 ≤ b0 + k by omega))
  rw [he1]
  exact ⟨_, hc, t_OB.to (V := updV (vp_V fs) j v) ⟨_, e1, q2, q3, t_set q4 hap hj v⟩ (fun i _ => vp_updV_set hl v i)⟩
theorem r_putN (C : Cx p l s m args meth c G b0 own cc nL ret0) (hV : Hd G b0 V H) (hS : va_S (Ab b0) s.heap H locs) {k ci N : Nat} {T : u_T} {fs : List Value} {Cn ref host : String} {v : Value} (hk : k < 208) (he : cel G b0 V k = .inr (ci, fs)) (hc : vwCl[ci]? = some (Cn, T, N)) (hin : ∀ w ∈ u_ws Cn T N, w ∈ GW) (ty0 : Nat → FieldType) (hty : ∀ k, k < N → parseFieldDescriptor (T k).2.2.1 = some (ty0 k)) (hnm : ∀ a, a < N → ∀ b, b < N → a ≠ b → (T a).2.1 ≠ (T b).2.1) (j : Nat) (hj : j < N) (hlink : Cond.fieldLinkNest own index ref (T j).2.1 (T j).2.2.1 host ∈ NW) (hsame : ref = (T j).1) (hfin : (T j).2.2.2 = false) {ty : FieldType} (hd : parseFieldDescriptor (T j).2.2.1 = some ty) (hn : narrow ty v = v) (hfit : fits ty v = true) (hl : j < fs.length)
    (j' : Nat) (x : Int32) (he1 : cel G b0 (up V k j' x) k = .inr (ci, fs.set j v)) (hdg : decode cc pc = .ok (.putfield index, 3))
    (kk : ∀ (H1 : Heap) (locs1 : List Loc), Hd G b0 (up V k j' x) H1 → va_S (Ab b0) s.heap H1 locs1 → W p l e R s m args below meth c H1 locs1 cells slots Q (F0 m (pc + 3) ls rest)) : W p l e R s m args below meth c H locs cells slots Q (F0 m pc ls (v :: .ref (b0 + k) :: rest)) := by
  obtain ⟨hx, hb, hr, hml, hown, hts, hlocks, hK, hSv⟩ := C
  subst hsame
  have hap := va_apart (own := own) hts hin ty0 hty hnm hK.1 hc
  have h0 := hV.1 k hk
  rw [he] at h0
  obtain ⟨r, h1, cell, q1, q2, q3, q4⟩ := h0
  have hr : r = (Cn, T, N) := Option.some.inj (h1.symm.trans hc)
  subst hr
  obtain ⟨hS9, hfc, kC, hkC, hkind⟩ := hK.1.1 ci _ hc
  obtain ⟨cf, kf, fi, f, hi, hsl⟩ := hS9 j hj
  have hlay := hts _ (hin _ (u_in_lay hj))
  unfold u_lay at hlay
  rw [if_neg (by rw [hfin]; decide)] at hlay
  have hst := (u_facts hfc hkC (u_lays hts hin hj) hi).1
  have h6 := u_store hfc hkC hkind hlay hi hd hn hfit
  refine va_WputK hx hb hown (va_Nw.use rfl (hK.2.1 _ hlink)) hi hst (by rw [q2]; exact h6) q1 q3 (by rw [hsl]; exact k2_hasslot (q4 j hj)) rfl rfl hdg fun H' e1 e2 e3 => ?_
  rw [hsl] at e1 ⊢
  refine kk H' _ (hV.set hk ?_ e3) (hS.put e2 e3 (show b0 ≤ b0 + k by omega))
  rw [he1]
  exact ⟨_, hc, t_OB.to (V := updV (vp_V fs) j v) ⟨_, e1, q2, q3, t_set q4 hap hj v⟩ (fun i _ => vp_updV_set hl v i)⟩
/-! arrays -/
theorem r_iald (C : Cx p l s m args meth c G b0 own cc nL ret0) (hV : Hd G b0 V H) {k n j : Nat} {i : Int32} (hk : k < 208) (he : cel G b0 V k = .inl (G.2.1 0, n, .inl (V k))) (hi : ix i n = some j) (hdg : decode cc pc = .ok (.iaload, 1))
    (kk : W p l e R s m args below meth c H locs cells slots Q (F0 m (pc + 1) ls (.int (V k j) :: rest))) : W p l e R s m args below meth c H locs cells slots Q (F0 m pc ls (.int i :: .ref (b0 + k) :: rest)) := by
  obtain ⟨hx, hb, hr, hml, hown, hts, hlocks, hK, hSv⟩ := C
  obtain ⟨h1, h2, -⟩ := ix_in hi
  subst h2
  exact va_iald hx hb hK.1 (hV.p1 hk) 0 0 (by rw [he]; rfl) rfl h1 hdg kk
theorem r_cald (C : Cx p l s m args meth c G b0 own cc nL ret0) (hV : Hd G b0 V H) {k n j : Nat} {i : Int32} (hk : k < 208) (he : cel G b0 V k = .inl (G.2.1 1, n, .inl (V k))) (hi : ix i n = some j) (hdg : decode cc pc = .ok (.caload, 1))
    (kk : W p l e R s m args below meth c H locs cells slots Q (F0 m (pc + 1) ls (.int (V k j) :: rest))) : W p l e R s m args below meth c H locs cells slots Q (F0 m pc ls (.int i :: .ref (b0 + k) :: rest)) := by
  obtain ⟨hx, hb, hr, hml, hown, hts, hlocks, hK, hSv⟩ := C
  obtain ⟨h1, h2, -⟩ := ix_in hi
  subst h2
  exact va_cald hx hb hK.1 (hV.p1 hk) 0 1 (by rw [he]; rfl) rfl h1 hdg kk
theorem r_aald (C : Cx p l s m args meth c G b0 own cc nL ret0) (hV : Hd G b0 V H) {k n j t0 r : Nat} {i : Int32} {cA : ClassId} {ty : FieldType} {f : Nat → Option Nat} (hk : k < 208) (he : cel G b0 V k = .inl (cA, n, .inr (.inr (.inr (.inr f))))) (ht : (tyL G)[t0]? = some (cA, ty)) (hty : ty.isReference = true) (hi : ix i n = some j) (hf : f j = some r) (hdg : decode cc pc = .ok (.aaload, 1))
    (kk : W p l e R s m args below meth c H locs cells slots Q (F0 m (pc + 1) ls (.ref r :: rest))) : W p l e R s m args below meth c H locs cells slots Q (F0 m pc ls (.int i :: .ref (b0 + k) :: rest)) := by
  obtain ⟨hx, hb, hr, hml, hown, hts, hlocks, hK, hSv⟩ := C
  obtain ⟨h1, h2, h3⟩ := ix_in hi
  subst h2
  have h0 := hV.1 k hk
  rw [he] at h0
  have h9 : W p l e R s m args below meth c H locs cells slots Q (F0 m (pc + 1) ls (va_rf (f i.toNatClampNeg) :: rest)) := by rw [hf]; exact kk
  exact W.aald (v := va_rf (f i.toNatClampNeg)) (ty := ty) hx hb h0 ((hK.1.2 t0 _ ht).1 n (fun j => va_rf (f j))) hty (fun q => by cases q) (by show ¬ (i < 0 ∨ (arrV _ _ _).slots.size ≤ _); rw [arrV_size]; exact h1) (by show (arrV _ _ _).slots[_]? = _; rw [arrV_read _ _ h3]) rfl rfl hdg h9
theorem r_iast (C : Cx p l s m args meth c G b0 own cc nL ret0) (hV : Hd G b0 V H) (hS : va_S (Ab b0) s.heap H locs) {k n j : Nat} {i x : Int32} (hk : k < 208) (he : ∀ V : St, cel G b0 V k = .inl (G.2.1 0, n, .inl (V k))) (hi : ix i n = some j) (hdg : decode cc pc = .ok (.iastore, 1))
    (kk : ∀ (H1 : Heap) (locs1 : List Loc), Hd G b0 (up V k j x) H1 → va_S (Ab b0) s.heap H1 locs1 → W p l e R s m args below meth c H1 locs1 cells slots Q (F0 m (pc + 1) ls rest)) : W p l e R s m args below meth c H locs cells slots Q (F0 m pc ls (.int x :: .int i :: .ref (b0 + k) :: rest)) := by
  obtain ⟨hx, hb, hr, hml, hown, hts, hlocks, hK, hSv⟩ := C
  obtain ⟨h1, h2, h3⟩ := ix_in hi
  have h0 := hV.1 k hk
  rw [he V] at h0
  refine W.iast hx hb h0 ((hK.1.2 0 _ rfl).1 n (fun j => .int (V k j))) (fun q => by cases q) (by show ¬ (i < 0 ∨ (arrV _ _ _).slots.size ≤ _); rw [arrV_size]; exact h1) rfl rfl hdg fun H1 e1 z oq => ?_
  refine kk H1 _ (hV.set hk ?_ oq) (hS.put z oq (show b0 ≤ b0 + k by omega))
  rw [he, up_me]
  show H1[b0 + k]? = some (vp_cell _ _)
  rw [e1, h2]
  rw [vp_cell_i, vp_cell_i, arrV_store]
  congr 2
  funext q
  by_cases hq : q = j
  · subst hq
    simp [updV, upd]
  · simp [updV, upd, hq]
theorem r_cast (C : Cx p l s m args meth c G b0 own cc nL ret0) (hV : Hd G b0 V H) (hS : va_S (Ab b0) s.heap H locs) {k n j : Nat} {i x : Int32} (hk : k < 208) (he : ∀ V : St, cel G b0 V k = .inl (G.2.1 1, n, .inl (V k))) (hi : ix i n = some j) (hdg : decode cc pc = .ok (.castore, 1))
    (kk : ∀ (H1 : Heap) (locs1 : List Loc), Hd G b0 (up V k j (vp_nar .char x)) H1 → va_S (Ab b0) s.heap H1 locs1 → W p l e R s m args below meth c H1 locs1 cells slots Q (F0 m (pc + 1) ls rest)) : W p l e R s m args below meth c H locs cells slots Q (F0 m pc ls (.int x :: .int i :: .ref (b0 + k) :: rest)) := by
  obtain ⟨hx, hb, hr, hml, hown, hts, hlocks, hK, hSv⟩ := C
  obtain ⟨h1, h2, h3⟩ := ix_in hi
  have h0 := hV.1 k hk
  rw [he V] at h0
  refine W.cast hx hb h0 ((hK.1.2 1 _ rfl).1 n (fun j => .int (V k j))) (fun q => by cases q) (by show ¬ (i < 0 ∨ (arrV _ _ _).slots.size ≤ _); rw [arrV_size]; exact h1) rfl rfl hdg fun H1 e1 z oq => ?_
  refine kk H1 _ (hV.set hk ?_ oq) (hS.put z oq (show b0 ≤ b0 + k by omega))
  rw [he, up_me]
  show H1[b0 + k]? = some (vp_cell _ _)
  rw [e1, h2]
  rw [vp_cell_i, vp_cell_i, arrV_store]
  congr 2
  funext q
  by_cases hq : q = j
  · subst hq
    simp [updV, upd, vp_nar]
    try rfl
  · simp [updV, upd, hq]
end MR
