def RX0 : String := "NetScript$Editor"
def TX0 : u_T := fun k => match k with
  | 0 => ("NetScript$Editor", "twine", "I", false)
  | _ => ("NetScript$Editor", "mended", "I", false)
def tyX0 : Nat → FieldType := fun k => match k with
  | 0 => .int
  | _ => .int
abbrev wsX00 : List Cond := u_ws RX0 TX0 2
theorem nmX0 : ∀ a, a < 2 → ∀ b, b < 2 → a ≠ b → (TX0 a).2.1 ≠ (TX0 b).2.1 := by decide +kernel
theorem tyX0_ok : ∀ k, k < 2 → parseFieldDescriptor (TX0 k).2.2.1 = some (tyX0 k) := by decide +kernel
abbrev cX0_init : ByteArray := prog_2_method_1_code
def yX0_init : MethodName := ⟨RX0, "<init>", "()V"⟩
abbrev cX0_copyFrom : ByteArray := prog_2_method_2_code
def yX0_copyFrom : MethodName := ⟨RX0, "copyFrom", "(LNetScript$Editor;)V"⟩
def RX1 : String := "NetScript$History"
def TX1 : u_T := fun k => match k with
  | 0 => ("NetScript$History", "states", "[LNetScript$State;", true)
  | 1 => ("NetScript$History", "oldest", "I", false)
  | _ => ("NetScript$History", "count", "I", false)
def tyX1 : Nat → FieldType := fun k => match k with
  | 0 => .array (.object "NetScript$State")
  | 1 => .int
  | _ => .int
abbrev wsX10 : List Cond := u_ws RX1 TX1 3
theorem nmX1 : ∀ a, a < 3 → ∀ b, b < 3 → a ≠ b → (TX1 a).2.1 ≠ (TX1 b).2.1 := by decide +kernel
theorem tyX1_ok : ∀ k, k < 3 → parseFieldDescriptor (TX1 k).2.2.1 = some (tyX1 k) := by decide +kernel
abbrev cX1_init : ByteArray := prog_3_method_1_code
def yX1_init : MethodName := ⟨RX1, "<init>", "()V"⟩
abbrev cX1_push : ByteArray := prog_3_method_2_code
def yX1_push : MethodName := ⟨RX1, "push", "(LNetScript$State;)V"⟩
abbrev cX1_popInto : ByteArray := prog_3_method_3_code
def yX1_popInto : MethodName := ⟨RX1, "popInto", "(LNetScript$State;)V"⟩
abbrev cX1_clear : ByteArray := prog_3_method_4_code
def yX1_clear : MethodName := ⟨RX1, "clear", "()V"⟩
def RX2 : String := "NetScript$Line"
def TX2 : u_T := fun k => match k with
  | 0 => ("NetScript$Line", "characters", "[C", true)
  | _ => ("NetScript$Line", "length", "I", false)
def tyX2 : Nat → FieldType := fun k => match k with
  | 0 => .array .char
  | _ => .int
abbrev wsX20 : List Cond := u_ws RX2 TX2 2
theorem nmX2 : ∀ a, a < 2 → ∀ b, b < 2 → a ≠ b → (TX2 a).2.1 ≠ (TX2 b).2.1 := by decide +kernel
theorem tyX2_ok : ∀ k, k < 2 → parseFieldDescriptor (TX2 k).2.2.1 = some (tyX2 k) := by decide +kernel
abbrev cX2_init : ByteArray := prog_4_method_1_code
def yX2_init : MethodName := ⟨RX2, "<init>", "()V"⟩
abbrev cX2_clear : ByteArray := prog_4_method_2_code
def yX2_clear : MethodName := ⟨RX2, "clear", "()V"⟩
abbrev cX2_append : ByteArray := prog_4_method_3_code
def yX2_append : MethodName := ⟨RX2, "append", "(C)V"⟩
abbrev cX2_appendKnots : ByteArray := prog_4_method_4_code
def yX2_appendKnots : MethodName := ⟨RX2, "appendKnots", "(II)V"⟩
def RX3 : String := "NetScript$Net"
def TX3 : u_T := fun k => match k with
  | 0 => ("NetScript$Net", "oddKinds", "I", false)
  | 1 => ("NetScript$Net", "highKinds", "I", false)
  | 2 => ("NetScript$Net", "tornAcross", "I", false)
  | 3 => ("NetScript$Net", "tornDown", "I", false)
  | _ => ("NetScript$Net", "draught", "I", false)
def tyX3 : Nat → FieldType := fun k => match k with
  | 0 => .int
  | 1 => .int
  | 2 => .int
  | 3 => .int
  | _ => .int
abbrev wsX30 : List Cond := u_ws RX3 TX3 5
theorem nmX3 : ∀ a, a < 5 → ∀ b, b < 5 → a ≠ b → (TX3 a).2.1 ≠ (TX3 b).2.1 := by decide +kernel
theorem tyX3_ok : ∀ k, k < 5 → parseFieldDescriptor (TX3 k).2.2.1 = some (tyX3 k) := by decide +kernel
abbrev cX3_init : ByteArray := prog_5_method_1_code
def yX3_init : MethodName := ⟨RX3, "<init>", "()V"⟩
abbrev cX3_copyFrom : ByteArray := prog_5_method_2_code
def yX3_copyFrom : MethodName := ⟨RX3, "copyFrom", "(LNetScript$Net;)V"⟩
abbrev cX3_knots : ByteArray := prog_5_method_3_code
def yX3_knots : MethodName := ⟨RX3, "knots", "()I"⟩
abbrev cX3_kindAt : ByteArray := prog_5_method_4_code
def yX3_kindAt : MethodName := ⟨RX3, "kindAt", "(I)I"⟩
abbrev cX3_tie : ByteArray := prog_5_method_5_code
def yX3_tie : MethodName := ⟨RX3, "tie", "(II)V"⟩
abbrev cX3_wholeAcross : ByteArray := prog_5_method_6_code
def yX3_wholeAcross : MethodName := ⟨RX3, "wholeAcross", "()I"⟩
abbrev cX3_wholeDown : ByteArray := prog_5_method_7_code
def yX3_wholeDown : MethodName := ⟨RX3, "wholeDown", "()I"⟩
abbrev cX3_isTornBetween : ByteArray := prog_5_method_8_code
def yX3_isTornBetween : MethodName := ⟨RX3, "isTornBetween", "(II)Z"⟩
abbrev cX3_putString : ByteArray := prog_5_method_9_code
def yX3_putString : MethodName := ⟨RX3, "putString", "(IIZ)V"⟩
abbrev cX3_countTorn : ByteArray := prog_5_method_10_code
def yX3_countTorn : MethodName := ⟨RX3, "countTorn", "()I"⟩
abbrev cX3_twineForAll : ByteArray := prog_5_method_11_code
def yX3_twineForAll : MethodName := ⟨RX3, "twineForAll", "()I"⟩
abbrev cX3_countWholeWithin : ByteArray := prog_5_method_12_code
def yX3_countWholeWithin : MethodName := ⟨RX3, "countWholeWithin", "(I)I"⟩
abbrev cX3_chapterAt : ByteArray := prog_5_method_13_code
def yX3_chapterAt : MethodName := ⟨RX3, "chapterAt", "(I)I"⟩
abbrev cX3_countChapters : ByteArray := prog_5_method_14_code
def yX3_countChapters : MethodName := ⟨RX3, "countChapters", "()I"⟩
abbrev cX3_countChaptersByStrings : ByteArray := prog_5_method_15_code
def yX3_countChaptersByStrings : MethodName := ⟨RX3, "countChaptersByStrings", "(LNetScript$Parts;)I"⟩
abbrev cX3_greatestChapter : ByteArray := prog_5_method_16_code
def yX3_greatestChapter : MethodName := ⟨RX3, "greatestChapter", "(I)I"⟩
abbrev cX3_chapterRanked : ByteArray := prog_5_method_17_code
def yX3_chapterRanked : MethodName := ⟨RX3, "chapterRanked", "(I)I"⟩
abbrev cX3_knotsJoinedBy : ByteArray := prog_5_method_18_code
def yX3_knotsJoinedBy : MethodName := ⟨RX3, "knotsJoinedBy", "(II)I"⟩
abbrev cX3_bestTornString : ByteArray := prog_5_method_19_code
def yX3_bestTornString : MethodName := ⟨RX3, "bestTornString", "(Z)I"⟩
abbrev cX3_hasStringOutOf : ByteArray := prog_5_method_20_code
def yX3_hasStringOutOf : MethodName := ⟨RX3, "hasStringOutOf", "(I)Z"⟩
abbrev cX3_leastByStrings : ByteArray := prog_5_method_21_code
def yX3_leastByStrings : MethodName := ⟨RX3, "leastByStrings", "(ILNetScript$Parts;)I"⟩
abbrev cX3_leastByPlaces : ByteArray := prog_5_method_22_code
def yX3_leastByPlaces : MethodName := ⟨RX3, "leastByPlaces", "(I)I"⟩
abbrev cX3_writeLine : ByteArray := prog_5_method_23_code
def yX3_writeLine : MethodName := ⟨RX3, "writeLine", "(ILNetScript$Line;)V"⟩
def RX4 : String := "NetScript$Note"
def TX4 : u_T := fun k => match k with
  | 0 => ("NetScript$Note", "net", "I", false)
  | 1 => ("NetScript$Note", "oddKinds", "I", false)
  | _ => ("NetScript$Note", "highKinds", "I", false)
def tyX4 : Nat → FieldType := fun k => match k with
  | 0 => .int
  | 1 => .int
  | _ => .int
abbrev wsX40 : List Cond := u_ws RX4 TX4 3
theorem nmX4 : ∀ a, a < 3 → ∀ b, b < 3 → a ≠ b → (TX4 a).2.1 ≠ (TX4 b).2.1 := by decide +kernel
theorem tyX4_ok : ∀ k, k < 3 → parseFieldDescriptor (TX4 k).2.2.1 = some (tyX4 k) := by decide +kernel
abbrev cX4_init : ByteArray := prog_6_method_1_code
def yX4_init : MethodName := ⟨RX4, "<init>", "()V"⟩
abbrev cX4_copyFrom : ByteArray := prog_6_method_2_code
def yX4_copyFrom : MethodName := ⟨RX4, "copyFrom", "(LNetScript$Note;)V"⟩
abbrev cX4_places : ByteArray := prog_6_method_3_code
def yX4_places : MethodName := ⟨RX4, "places", "()I"⟩
abbrev cX4_isOf : ByteArray := prog_6_method_4_code
def yX4_isOf : MethodName := ⟨RX4, "isOf", "(LNetScript$Net;I)Z"⟩
def RX5 : String := "NetScript$Parts"
def TX5 : u_T := fun k => match k with
  | _ => ("NetScript$Parts", "partOf", "[I", true)
def tyX5 : Nat → FieldType := fun k => match k with
  | _ => .array .int
abbrev wsX50 : List Cond := u_ws RX5 TX5 1
theorem nmX5 : ∀ a, a < 1 → ∀ b, b < 1 → a ≠ b → (TX5 a).2.1 ≠ (TX5 b).2.1 := by decide +kernel
theorem tyX5_ok : ∀ k, k < 1 → parseFieldDescriptor (TX5 k).2.2.1 = some (tyX5 k) := by decide +kernel
abbrev cX5_init : ByteArray := prog_7_method_1_code
def yX5_init : MethodName := ⟨RX5, "<init>", "()V"⟩
abbrev cX5_separate : ByteArray := prog_7_method_2_code
def yX5_separate : MethodName := ⟨RX5, "separate", "()V"⟩
abbrev cX5_joinAll : ByteArray := prog_7_method_3_code
def yX5_joinAll : MethodName := ⟨RX5, "joinAll", "(II)I"⟩
abbrev cX5_join : ByteArray := prog_7_method_4_code
def yX5_join : MethodName := ⟨RX5, "join", "(II)Z"⟩
def RX6 : String := "NetScript$Refusal"
def TX6 : u_T := fun k => match k with
  | 0 => ("NetScript$Refusal", "reason", "I", false)
  | 1 => ("NetScript$Refusal", "detail", "I", false)
  | 2 => ("NetScript$Refusal", "reasonBehind", "I", false)
  | _ => ("NetScript$Refusal", "detailBehind", "I", false)
def tyX6 : Nat → FieldType := fun k => match k with
  | 0 => .int
  | 1 => .int
  | 2 => .int
  | _ => .int
abbrev wsX60 : List Cond := u_ws RX6 TX6 4
theorem nmX6 : ∀ a, a < 4 → ∀ b, b < 4 → a ≠ b → (TX6 a).2.1 ≠ (TX6 b).2.1 := by decide +kernel
theorem tyX6_ok : ∀ k, k < 4 → parseFieldDescriptor (TX6 k).2.2.1 = some (tyX6 k) := by decide +kernel
abbrev cX6_init : ByteArray := prog_8_method_1_code
def yX6_init : MethodName := ⟨RX6, "<init>", "()V"⟩
abbrev cX6_keepAlone : ByteArray := prog_8_method_2_code
def yX6_keepAlone : MethodName := ⟨RX6, "keepAlone", "(II)V"⟩
abbrev cX6_keepOrder : ByteArray := prog_8_method_3_code
def yX6_keepOrder : MethodName := ⟨RX6, "keepOrder", "(III)V"⟩
def RX7 : String := "NetScript$Script"
def TX7 : u_T := fun k => match k with
  | 0 => ("NetScript$Script", "tape", "[C", true)
  | 1 => ("NetScript$Script", "length", "I", false)
  | 2 => ("NetScript$Script", "position", "I", false)
  | 3 => ("NetScript$Script", "words", "[I", true)
  | 4 => ("NetScript$Script", "numbers", "[[I", true)
  | _ => ("NetScript$Script", "orderCount", "I", false)
def tyX7 : Nat → FieldType := fun k => match k with
  | 0 => .array .char
  | 1 => .int
  | 2 => .int
  | 3 => .array .int
  | 4 => .array (.array .int)
  | _ => .int
abbrev wsX70 : List Cond := u_ws RX7 TX7 6
theorem nmX7 : ∀ a, a < 6 → ∀ b, b < 6 → a ≠ b → (TX7 a).2.1 ≠ (TX7 b).2.1 := by decide +kernel
theorem tyX7_ok : ∀ k, k < 6 → parseFieldDescriptor (TX7 k).2.2.1 = some (tyX7 k) := by decide +kernel
abbrev cX7_init : ByteArray := prog_9_method_1_code
def yX7_init : MethodName := ⟨RX7, "<init>", "()V"⟩
abbrev cX7_isFull : ByteArray := prog_9_method_2_code
def yX7_isFull : MethodName := ⟨RX7, "isFull", "()Z"⟩
abbrev cX7_append : ByteArray := prog_9_method_3_code
def yX7_append : MethodName := ⟨RX7, "append", "(C)V"⟩
abbrev cX7_clear : ByteArray := prog_9_method_4_code
def yX7_clear : MethodName := ⟨RX7, "clear", "()V"⟩
abbrev cX7_wordAt : ByteArray := prog_9_method_5_code
def yX7_wordAt : MethodName := ⟨RX7, "wordAt", "(I)I"⟩
abbrev cX7_putWord : ByteArray := prog_9_method_6_code
def yX7_putWord : MethodName := ⟨RX7, "putWord", "(II)V"⟩
abbrev cX7_numberAt : ByteArray := prog_9_method_7_code
def yX7_numberAt : MethodName := ⟨RX7, "numberAt", "(II)I"⟩
abbrev cX7_putNumber : ByteArray := prog_9_method_8_code
def yX7_putNumber : MethodName := ⟨RX7, "putNumber", "(III)V"⟩
abbrev cX7_findFault : ByteArray := prog_9_method_9_code
def yX7_findFault : MethodName := ⟨RX7, "findFault", "()I"⟩
abbrev cX7_readOrder : ByteArray := prog_9_method_10_code
def yX7_readOrder : MethodName := ⟨RX7, "readOrder", "(I)Z"⟩
abbrev cX7_formOf : ByteArray := prog_9_method_11_code
def yX7_formOf : MethodName := ⟨RX7, "formOf", "(I)Ljava/lang/String;"⟩
abbrev cX7_readForm : ByteArray := prog_9_method_12_code
def yX7_readForm : MethodName := ⟨RX7, "readForm", "(Ljava/lang/String;I)Z"⟩
abbrev cX7_readNumber : ByteArray := prog_9_method_13_code
def yX7_readNumber : MethodName := ⟨RX7, "readNumber", "(Z)I"⟩
abbrev cX7_isInText : ByteArray := prog_9_method_14_code
def yX7_isInText : MethodName := ⟨RX7, "isInText", "()Z"⟩
abbrev cX7_isNext : ByteArray := prog_9_method_15_code
def yX7_isNext : MethodName := ⟨RX7, "isNext", "(C)Z"⟩
abbrev cX7_isDigitNext : ByteArray := prog_9_method_16_code
def yX7_isDigitNext : MethodName := ⟨RX7, "isDigitNext", "()Z"⟩
def RX8 : String := "NetScript$State"
def TX8 : u_T := fun k => match k with
  | 0 => ("NetScript$State", "nets", "[LNetScript$Net;", true)
  | 1 => ("NetScript$State", "editors", "[LNetScript$Editor;", true)
  | 2 => ("NetScript$State", "notes", "[LNetScript$Note;", true)
  | 3 => ("NetScript$State", "editorCount", "I", false)
  | 4 => ("NetScript$State", "noteCount", "I", false)
  | 5 => ("NetScript$State", "tide", "I", false)
  | 6 => ("NetScript$State", "tornSoFar", "I", false)
  | 7 => ("NetScript$State", "mendedSoFar", "I", false)
  | _ => ("NetScript$State", "twineUsed", "I", false)
def tyX8 : Nat → FieldType := fun k => match k with
  | 0 => .array (.object "NetScript$Net")
  | 1 => .array (.object "NetScript$Editor")
  | 2 => .array (.object "NetScript$Note")
  | 3 => .int
  | 4 => .int
  | 5 => .int
  | 6 => .int
  | 7 => .int
  | _ => .int
abbrev wsX80 : List Cond := u_ws RX8 TX8 9
theorem nmX8 : ∀ a, a < 9 → ∀ b, b < 9 → a ≠ b → (TX8 a).2.1 ≠ (TX8 b).2.1 := by decide +kernel
theorem tyX8_ok : ∀ k, k < 9 → parseFieldDescriptor (TX8 k).2.2.1 = some (tyX8 k) := by decide +kernel
abbrev cX8_init : ByteArray := prog_10_method_1_code
def yX8_init : MethodName := ⟨RX8, "<init>", "()V"⟩
abbrev cX8_copyFrom : ByteArray := prog_10_method_2_code
def yX8_copyFrom : MethodName := ⟨RX8, "copyFrom", "(LNetScript$State;)V"⟩
abbrev cX8_netNumbered : ByteArray := prog_10_method_3_code
def yX8_netNumbered : MethodName := ⟨RX8, "netNumbered", "(I)LNetScript$Net;"⟩
abbrev cX8_editorNumbered : ByteArray := prog_10_method_4_code
def yX8_editorNumbered : MethodName := ⟨RX8, "editorNumbered", "(I)LNetScript$Editor;"⟩
abbrev cX8_noteNumbered : ByteArray := prog_10_method_5_code
def yX8_noteNumbered : MethodName := ⟨RX8, "noteNumbered", "(I)LNetScript$Note;"⟩
abbrev cX8_hasEditor : ByteArray := prog_10_method_6_code
def yX8_hasEditor : MethodName := ⟨RX8, "hasEditor", "(I)Z"⟩
abbrev cX8_hasNote : ByteArray := prog_10_method_7_code
def yX8_hasNote : MethodName := ⟨RX8, "hasNote", "(I)Z"⟩
abbrev cX8_tearString : ByteArray := prog_10_method_8_code
def yX8_tearString : MethodName := ⟨RX8, "tearString", "(III)V"⟩
abbrev cX8_mendString : ByteArray := prog_10_method_9_code
def yX8_mendString : MethodName := ⟨RX8, "mendString", "(IIII)V"⟩
abbrev cX8_addEditor : ByteArray := prog_10_method_10_code
def yX8_addEditor : MethodName := ⟨RX8, "addEditor", "(I)V"⟩
abbrev cX8_addNote : ByteArray := prog_10_method_11_code
def yX8_addNote : MethodName := ⟨RX8, "addNote", "(II)V"⟩
abbrev cX8_removeNote : ByteArray := prog_10_method_12_code
def yX8_removeNote : MethodName := ⟨RX8, "removeNote", "(I)V"⟩
abbrev cX8_lowestNoteOf : ByteArray := prog_10_method_13_code
def yX8_lowestNoteOf : MethodName := ⟨RX8, "lowestNoteOf", "(II)I"⟩
abbrev cX8_readsAsNoted : ByteArray := prog_10_method_14_code
def yX8_readsAsNoted : MethodName := ⟨RX8, "readsAsNoted", "(LNetScript$Note;)Z"⟩
abbrev cX8_canBeMended : ByteArray := prog_10_method_15_code
def yX8_canBeMended : MethodName := ⟨RX8, "canBeMended", "(LNetScript$Note;)Z"⟩
abbrev cX8_leastByStrings : ByteArray := prog_10_method_16_code
def yX8_leastByStrings : MethodName := ⟨RX8, "leastByStrings", "(LNetScript$Note;LNetScript$Parts;)I"⟩
abbrev cX8_leastByPlaces : ByteArray := prog_10_method_17_code
def yX8_leastByPlaces : MethodName := ⟨RX8, "leastByPlaces", "(LNetScript$Note;)I"⟩
abbrev cX8_linesUnderWater : ByteArray := prog_10_method_18_code
def yX8_linesUnderWater : MethodName := ⟨RX8, "linesUnderWater", "(I)I"⟩
abbrev cX8_dryPlaces : ByteArray := prog_10_method_19_code
def yX8_dryPlaces : MethodName := ⟨RX8, "dryPlaces", "(I)I"⟩
abbrev cX8_countKnots : ByteArray := prog_10_method_20_code
def yX8_countKnots : MethodName := ⟨RX8, "countKnots", "()I"⟩
abbrev cX8_countReadable : ByteArray := prog_10_method_21_code
def yX8_countReadable : MethodName := ⟨RX8, "countReadable", "()I"⟩
abbrev cX8_countAllChapters : ByteArray := prog_10_method_22_code
def yX8_countAllChapters : MethodName := ⟨RX8, "countAllChapters", "()I"⟩
abbrev cX8_countTorn : ByteArray := prog_10_method_23_code
def yX8_countTorn : MethodName := ⟨RX8, "countTorn", "()I"⟩
abbrev cX8_sumTwine : ByteArray := prog_10_method_24_code
def yX8_sumTwine : MethodName := ⟨RX8, "sumTwine", "()I"⟩
abbrev cX8_countAsNoted : ByteArray := prog_10_method_25_code
def yX8_countAsNoted : MethodName := ⟨RX8, "countAsNoted", "()I"⟩
abbrev cX8_areChaptersToldAlike : ByteArray := prog_10_method_26_code
def yX8_areChaptersToldAlike : MethodName := ⟨RX8, "areChaptersToldAlike", "(LNetScript$Parts;)Z"⟩
abbrev cX8_areNotesToldAlike : ByteArray := prog_10_method_27_code
def yX8_areNotesToldAlike : MethodName := ⟨RX8, "areNotesToldAlike", "(LNetScript$Parts;)Z"⟩
def RX9 : String := "NetScript"
def TX9 : u_T := fun k => match k with
  | 0 => ("NetScript", "now", "LNetScript$State;", true)
  | 1 => ("NetScript", "beforeRun", "LNetScript$State;", true)
  | 2 => ("NetScript", "saved", "LNetScript$State;", true)
  | 3 => ("NetScript", "isSaved", "Z", false)
  | 4 => ("NetScript", "history", "LNetScript$History;", true)
  | 5 => ("NetScript", "parts", "LNetScript$Parts;", true)
  | 6 => ("NetScript", "script", "LNetScript$Script;", true)
  | 7 => ("NetScript", "written", "LNetScript$Line;", true)
  | 8 => ("NetScript", "refusal", "LNetScript$Refusal;", true)
  | 9 => ("NetScript", "foundDetail", "I", false)
  | _ => ("NetScript", "lastFault", "I", false)
def tyX9 : Nat → FieldType := fun k => match k with
  | 0 => .object "NetScript$State"
  | 1 => .object "NetScript$State"
  | 2 => .object "NetScript$State"
  | 3 => .boolean
  | 4 => .object "NetScript$History"
  | 5 => .object "NetScript$Parts"
  | 6 => .object "NetScript$Script"
  | 7 => .object "NetScript$Line"
  | 8 => .object "NetScript$Refusal"
  | 9 => .int
  | _ => .int
abbrev wsX90 : List Cond := u_ws RX9 TX9 11
theorem nmX9 : ∀ a, a < 11 → ∀ b, b < 11 → a ≠ b → (TX9 a).2.1 ≠ (TX9 b).2.1 := by decide +kernel
theorem tyX9_ok : ∀ k, k < 11 → parseFieldDescriptor (TX9 k).2.2.1 = some (tyX9 k) := by decide +kernel
abbrev cX9_init : ByteArray := prog_1_method_1_code
def yX9_init : MethodName := ⟨RX9, "<init>", "()V"⟩
abbrev cX9_knot : ByteArray := prog_1_method_2_code
def yX9_knot : MethodName := ⟨RX9, "knot", "(III)I"⟩
abbrev cX9_tear : ByteArray := prog_1_method_3_code
def yX9_tear : MethodName := ⟨RX9, "tear", "(III)I"⟩
abbrev cX9_mend : ByteArray := prog_1_method_4_code
def yX9_mend : MethodName := ⟨RX9, "mend", "(IIII)I"⟩
abbrev cX9_editor : ByteArray := prog_1_method_5_code
def yX9_editor : MethodName := ⟨RX9, "editor", "(I)I"⟩
abbrev cX9_tide : ByteArray := prog_1_method_6_code
def yX9_tide : MethodName := ⟨RX9, "tide", "(I)I"⟩
abbrev cX9_sink : ByteArray := prog_1_method_7_code
def yX9_sink : MethodName := ⟨RX9, "sink", "(II)I"⟩
abbrev cX9_note : ByteArray := prog_1_method_8_code
def yX9_note : MethodName := ⟨RX9, "note", "(II)I"⟩
abbrev cX9_drop : ByteArray := prog_1_method_9_code
def yX9_drop : MethodName := ⟨RX9, "drop", "(I)I"⟩
abbrev cX9_kindOf : ByteArray := prog_1_method_10_code
def yX9_kindOf : MethodName := ⟨RX9, "kindOf", "(II)I"⟩
abbrev cX9_isTorn : ByteArray := prog_1_method_11_code
def yX9_isTorn : MethodName := ⟨RX9, "isTorn", "(III)Z"⟩
abbrev cX9_netOf : ByteArray := prog_1_method_12_code
def yX9_netOf : MethodName := ⟨RX9, "netOf", "(II)I"⟩
abbrev cX9_chapters : ByteArray := prog_1_method_13_code
def yX9_chapters : MethodName := ⟨RX9, "chapters", "(I)I"⟩
abbrev cX9_chaptersAgain : ByteArray := prog_1_method_14_code
def yX9_chaptersAgain : MethodName := ⟨RX9, "chaptersAgain", "(I)I"⟩
abbrev cX9_chapterOf : ByteArray := prog_1_method_15_code
def yX9_chapterOf : MethodName := ⟨RX9, "chapterOf", "(III)I"⟩
abbrev cX9_noteOf : ByteArray := prog_1_method_16_code
def yX9_noteOf : MethodName := ⟨RX9, "noteOf", "(II)I"⟩
abbrev cX9_least : ByteArray := prog_1_method_17_code
def yX9_least : MethodName := ⟨RX9, "least", "(I)I"⟩
abbrev cX9_leastAgain : ByteArray := prog_1_method_18_code
def yX9_leastAgain : MethodName := ⟨RX9, "leastAgain", "(I)I"⟩
abbrev cX9_bestMend : ByteArray := prog_1_method_19_code
def yX9_bestMend : MethodName := ⟨RX9, "bestMend", "(IZ)I"⟩
abbrev cX9_ranked : ByteArray := prog_1_method_20_code
def yX9_ranked : MethodName := ⟨RX9, "ranked", "(II)I"⟩
abbrev cX9_editorOf : ByteArray := prog_1_method_21_code
def yX9_editorOf : MethodName := ⟨RX9, "editorOf", "(II)I"⟩
abbrev cX9_feed : ByteArray := prog_1_method_22_code
def yX9_feed : MethodName := ⟨RX9, "feed", "(C)I"⟩
abbrev cX9_run : ByteArray := prog_1_method_23_code
def yX9_run : MethodName := ⟨RX9, "run", "()I"⟩
abbrev cX9_line : ByteArray := prog_1_method_26_code
def yX9_line : MethodName := ⟨RX9, "line", "(II)I"⟩
abbrev cX9_chapterLine : ByteArray := prog_1_method_27_code
def yX9_chapterLine : MethodName := ⟨RX9, "chapterLine", "(II)I"⟩
abbrev cX9_noteLine : ByteArray := prog_1_method_28_code
def yX9_noteLine : MethodName := ⟨RX9, "noteLine", "(I)I"⟩
abbrev cX9_meanKnots : ByteArray := prog_1_method_30_code
def yX9_meanKnots : MethodName := ⟨RX9, "meanKnots", "()D"⟩
abbrev cX9_readShare : ByteArray := prog_1_method_31_code
def yX9_readShare : MethodName := ⟨RX9, "readShare", "()F"⟩
abbrev cX9_account : ByteArray := prog_1_method_32_code
def yX9_account : MethodName := ⟨RX9, "account", "(I)I"⟩
abbrev cX9_isBalanced : ByteArray := prog_1_method_33_code
def yX9_isBalanced : MethodName := ⟨RX9, "isBalanced", "()Z"⟩
abbrev cX9_undo : ByteArray := prog_1_method_34_code
def yX9_undo : MethodName := ⟨RX9, "undo", "()I"⟩
abbrev cX9_save : ByteArray := prog_1_method_35_code
def yX9_save : MethodName := ⟨RX9, "save", "()I"⟩
abbrev cX9_restore : ByteArray := prog_1_method_36_code
def yX9_restore : MethodName := ⟨RX9, "restore", "()I"⟩
abbrev cX9_keepsReason : ByteArray := prog_1_method_37_code
def yX9_keepsReason : MethodName := ⟨RX9, "keepsReason", "(I)Z"⟩
abbrev cX9_found : ByteArray := prog_1_method_38_code
def yX9_found : MethodName := ⟨RX9, "found", "(II)I"⟩
abbrev cX9_reasonAgainstKnot : ByteArray := prog_1_method_39_code
def yX9_reasonAgainstKnot : MethodName := ⟨RX9, "reasonAgainstKnot", "(III)I"⟩
abbrev cX9_reasonAgainstEnds : ByteArray := prog_1_method_40_code
def yX9_reasonAgainstEnds : MethodName := ⟨RX9, "reasonAgainstEnds", "(III)I"⟩
abbrev cX9_reasonAgainstString : ByteArray := prog_1_method_41_code
def yX9_reasonAgainstString : MethodName := ⟨RX9, "reasonAgainstString", "(IIIZ)I"⟩
abbrev cX9_reasonAgainstTear : ByteArray := prog_1_method_42_code
def yX9_reasonAgainstTear : MethodName := ⟨RX9, "reasonAgainstTear", "(III)I"⟩
abbrev cX9_reasonAgainstMend : ByteArray := prog_1_method_43_code
def yX9_reasonAgainstMend : MethodName := ⟨RX9, "reasonAgainstMend", "(IIII)I"⟩
abbrev cX9_reasonAgainstEditor : ByteArray := prog_1_method_44_code
def yX9_reasonAgainstEditor : MethodName := ⟨RX9, "reasonAgainstEditor", "(I)I"⟩
abbrev cX9_reasonAgainstTide : ByteArray := prog_1_method_45_code
def yX9_reasonAgainstTide : MethodName := ⟨RX9, "reasonAgainstTide", "(I)I"⟩
abbrev cX9_reasonAgainstSink : ByteArray := prog_1_method_46_code
def yX9_reasonAgainstSink : MethodName := ⟨RX9, "reasonAgainstSink", "(II)I"⟩
abbrev cX9_reasonAgainstNote : ByteArray := prog_1_method_47_code
def yX9_reasonAgainstNote : MethodName := ⟨RX9, "reasonAgainstNote", "(II)I"⟩
abbrev cX9_reasonAgainstDrop : ByteArray := prog_1_method_48_code
def yX9_reasonAgainstDrop : MethodName := ⟨RX9, "reasonAgainstDrop", "(I)I"⟩
abbrev cX9_reasonAgainstOrder : ByteArray := prog_1_method_49_code
def yX9_reasonAgainstOrder : MethodName := ⟨RX9, "reasonAgainstOrder", "(I)I"⟩
abbrev cX9_doOrder : ByteArray := prog_1_method_50_code
def yX9_doOrder : MethodName := ⟨RX9, "doOrder", "(I)V"⟩
abbrev cX9_isNet : ByteArray := prog_1_method_51_code
def yX9_isNet : MethodName := ⟨RX9, "isNet", "(I)Z"⟩
abbrev cX9_isPlace : ByteArray := prog_1_method_52_code
def yX9_isPlace : MethodName := ⟨RX9, "isPlace", "(I)Z"⟩
abbrev cX9_areBeside : ByteArray := prog_1_method_53_code
def yX9_areBeside : MethodName := ⟨RX9, "areBeside", "(II)Z"⟩
abbrev cX9_isAcross : ByteArray := prog_1_method_54_code
def yX9_isAcross : MethodName := ⟨RX9, "isAcross", "(II)Z"⟩
abbrev cX9_twineFor : ByteArray := prog_1_method_55_code
def yX9_twineFor : MethodName := ⟨RX9, "twineFor", "(II)I"⟩
abbrev cX9_isIn : ByteArray := prog_1_method_56_code
def yX9_isIn : MethodName := ⟨RX9, "isIn", "(II)Z"⟩
abbrev cX9_with : ByteArray := prog_1_method_57_code
def yX9_with : MethodName := ⟨RX9, "with", "(IIZ)I"⟩
abbrev cX9_lowestPlace : ByteArray := prog_1_method_58_code
def yX9_lowestPlace : MethodName := ⟨RX9, "lowestPlace", "(I)I"⟩
abbrev cX9_beside : ByteArray := prog_1_method_59_code
def yX9_beside : MethodName := ⟨RX9, "beside", "(III)I"⟩
abbrev cX9_within : ByteArray := prog_1_method_60_code
def yX9_within : MethodName := ⟨RX9, "within", "(III)I"⟩
abbrev cX9_letterOf : ByteArray := prog_1_method_61_code
def yX9_letterOf : MethodName := ⟨RX9, "letterOf", "(I)C"⟩
def RX10 : String := "NetScriptModel"
def TX10 : u_T := fun k => match k with
  | _ => ("", "", "", false)
def tyX10 : Nat → FieldType := fun k => match k with
  | _ => .int
abbrev wsX100 : List Cond := u_ws RX10 TX10 0
theorem nmX10 : ∀ a, a < 0 → ∀ b, b < 0 → a ≠ b → (TX10 a).2.1 ≠ (TX10 b).2.1 := by decide +kernel
theorem tyX10_ok : ∀ k, k < 0 → parseFieldDescriptor (TX10 k).2.2.1 = some (tyX10 k) := by decide +kernel
def RJx145de : String := "java/io/Serializable"
def TJx145de : u_T := fun k => match k with
  | _ => ("", "", "", false)
def tyJx145de : Nat → FieldType := fun k => match k with
  | _ => .int
abbrev wsJx145de0 : List Cond := u_ws RJx145de TJx145de 0
theorem nmJx145de : ∀ a, a < 0 → ∀ b, b < 0 → a ≠ b → (TJx145de a).2.1 ≠ (TJx145de b).2.1 := by decide +kernel
theorem tyJx145de_ok : ∀ k, k < 0 → parseFieldDescriptor (TJx145de k).2.2.1 = some (tyJx145de k) := by decide +kernel
def RJ5 : String := "java/lang/AbstractStringBuilder"
def TJ5 : u_T := fun k => match k with
  | _ => ("", "", "", false)
def tyJ5 : Nat → FieldType := fun k => match k with
  | _ => .int
abbrev wsJ50 : List Cond := u_ws RJ5 TJ5 0
theorem nmJ5 : ∀ a, a < 0 → ∀ b, b < 0 → a ≠ b → (TJ5 a).2.1 ≠ (TJ5 b).2.1 := by decide +kernel
theorem tyJ5_ok : ∀ k, k < 0 → parseFieldDescriptor (TJ5 k).2.2.1 = some (tyJ5 k) := by decide +kernel
abbrev cJ5_init_d00df : ByteArray := prog_14_method_2_code
def yJ5_init_d00df : MethodName := ⟨RJ5, "<init>", "(I)V"⟩
abbrev cJ5_length_8abf5 : ByteArray := prog_14_method_6_code
def yJ5_length_8abf5 : MethodName := ⟨RJ5, "length", "()I"⟩
abbrev cJ5_ensureCapacityInternal_d00df : ByteArray := prog_14_method_9_code
def yJ5_ensureCapacityInternal_d00df : MethodName := ⟨RJ5, "ensureCapacityInternal", "(I)V"⟩
abbrev cJ5_newCapacity_0f7a4 : ByteArray := prog_14_method_10_code
def yJ5_newCapacity_0f7a4 : MethodName := ⟨RJ5, "newCapacity", "(I)I"⟩
abbrev cJ5_inflate_da8c8 : ByteArray := prog_14_method_11_code
def yJ5_inflate_da8c8 : MethodName := ⟨RJ5, "inflate", "()V"⟩
abbrev cJ5_append_cf1ce : ByteArray := prog_14_method_22_code
def yJ5_append_cf1ce : MethodName := ⟨RJ5, "append", "(Ljava/lang/String;)Ljava/lang/AbstractStringBuilder;"⟩
abbrev cJ5_appendNull_278bc : ByteArray := prog_14_method_26_code
def yJ5_appendNull_278bc : MethodName := ⟨RJ5, "appendNull", "()Ljava/lang/AbstractStringBuilder;"⟩
abbrev cJ5_append_c97b9 : ByteArray := prog_14_method_32_code
def yJ5_append_c97b9 : MethodName := ⟨RJ5, "append", "(I)Ljava/lang/AbstractStringBuilder;"⟩
abbrev cJ5_getValue_6d5f1 : ByteArray := prog_14_method_64_code
def yJ5_getValue_6d5f1 : MethodName := ⟨RJ5, "getValue", "()[B"⟩
abbrev cJ5_isLatin1_aae02 : ByteArray := prog_14_method_68_code
def yJ5_isLatin1_aae02 : MethodName := ⟨RJ5, "isLatin1", "()Z"⟩
abbrev cJ5_inflateIfNeededFor_a7421 : ByteArray := prog_14_method_71_code
def yJ5_inflateIfNeededFor_a7421 : MethodName := ⟨RJ5, "inflateIfNeededFor", "(Ljava/lang/String;)V"⟩
abbrev cJ5_putStringAt_47b60 : ByteArray := prog_14_method_73_code
def yJ5_putStringAt_47b60 : MethodName := ⟨RJ5, "putStringAt", "(ILjava/lang/String;)V"⟩
def RJx2cfe8 : String := "java/lang/Appendable"
def TJx2cfe8 : u_T := fun k => match k with
  | _ => ("", "", "", false)
def tyJx2cfe8 : Nat → FieldType := fun k => match k with
  | _ => .int
abbrev wsJx2cfe80 : List Cond := u_ws RJx2cfe8 TJx2cfe8 0
theorem nmJx2cfe8 : ∀ a, a < 0 → ∀ b, b < 0 → a ≠ b → (TJx2cfe8 a).2.1 ≠ (TJx2cfe8 b).2.1 := by decide +kernel
theorem tyJx2cfe8_ok : ∀ k, k < 0 → parseFieldDescriptor (TJx2cfe8 k).2.2.1 = some (tyJx2cfe8 k) := by decide +kernel
def RJx00060 : String := "java/lang/ArrayIndexOutOfBoundsException"
def TJx00060 : u_T := fun k => match k with
  | 0 => ("java/lang/Throwable", "backtrace", "Ljava/lang/Object;", false)
  | 1 => ("java/lang/Throwable", "detailMessage", "Ljava/lang/String;", false)
  | 2 => ("java/lang/Throwable", "cause", "Ljava/lang/Throwable;", false)
  | 3 => ("java/lang/Throwable", "stackTrace", "[Ljava/lang/StackTraceElement;", false)
  | 4 => ("java/lang/Throwable", "depth", "I", false)
  | _ => ("java/lang/Throwable", "suppressedExceptions", "Ljava/util/List;", false)
def tyJx00060 : Nat → FieldType := fun k => match k with
  | 0 => .object "java/lang/Object"
  | 1 => .object "java/lang/String"
  | 2 => .object "java/lang/Throwable"
  | 3 => .array (.object "java/lang/StackTraceElement")
  | 4 => .int
  | _ => .object "java/util/List"
abbrev wsJx000600 : List Cond := u_ws RJx00060 TJx00060 6
theorem nmJx00060 : ∀ a, a < 6 → ∀ b, b < 6 → a ≠ b → (TJx00060 a).2.1 ≠ (TJx00060 b).2.1 := by decide +kernel
theorem tyJx00060_ok : ∀ k, k < 6 → parseFieldDescriptor (TJx00060 k).2.2.1 = some (tyJx00060 k) := by decide +kernel
abbrev cJx00060_init_a7421 : ByteArray := prog_17_method_2_code
def yJx00060_init_a7421 : MethodName := ⟨RJx00060, "<init>", "(Ljava/lang/String;)V"⟩
def RJx9f9b0 : String := "java/lang/CharSequence"
def TJx9f9b0 : u_T := fun k => match k with
  | _ => ("", "", "", false)
def tyJx9f9b0 : Nat → FieldType := fun k => match k with
  | _ => .int
abbrev wsJx9f9b00 : List Cond := u_ws RJx9f9b0 TJx9f9b0 0
theorem nmJx9f9b0 : ∀ a, a < 0 → ∀ b, b < 0 → a ≠ b → (TJx9f9b0 a).2.1 ≠ (TJx9f9b0 b).2.1 := by decide +kernel
theorem tyJx9f9b0_ok : ∀ k, k < 0 → parseFieldDescriptor (TJx9f9b0 k).2.2.1 = some (tyJx9f9b0 k) := by decide +kernel
def RJx8e188 : String := "java/lang/Cloneable"
def TJx8e188 : u_T := fun k => match k with
  | _ => ("", "", "", false)
def tyJx8e188 : Nat → FieldType := fun k => match k with
  | _ => .int
abbrev wsJx8e1880 : List Cond := u_ws RJx8e188 TJx8e188 0
theorem nmJx8e188 : ∀ a, a < 0 → ∀ b, b < 0 → a ≠ b → (TJx8e188 a).2.1 ≠ (TJx8e188 b).2.1 := by decide +kernel
theorem tyJx8e188_ok : ∀ k, k < 0 → parseFieldDescriptor (TJx8e188 k).2.2.1 = some (tyJx8e188 k) := by decide +kernel
def RJxb160c : String := "java/lang/Comparable"
def TJxb160c : u_T := fun k => match k with
  | _ => ("", "", "", false)
def tyJxb160c : Nat → FieldType := fun k => match k with
  | _ => .int
abbrev wsJxb160c0 : List Cond := u_ws RJxb160c TJxb160c 0
theorem nmJxb160c : ∀ a, a < 0 → ∀ b, b < 0 → a ≠ b → (TJxb160c a).2.1 ≠ (TJxb160c b).2.1 := by decide +kernel
theorem tyJxb160c_ok : ∀ k, k < 0 → parseFieldDescriptor (TJxb160c k).2.2.1 = some (tyJxb160c k) := by decide +kernel
def RJ6 : String := "java/lang/Integer"
def TJ6 : u_T := fun k => match k with
  | _ => ("", "", "", false)
def tyJ6 : Nat → FieldType := fun k => match k with
  | _ => .int
abbrev wsJ60 : List Cond := u_ws RJ6 TJ6 0
theorem nmJ6 : ∀ a, a < 0 → ∀ b, b < 0 → a ≠ b → (TJ6 a).2.1 ≠ (TJ6 b).2.1 := by decide +kernel
theorem tyJ6_ok : ∀ k, k < 0 → parseFieldDescriptor (TJ6 k).2.2.1 = some (tyJ6 k) := by decide +kernel
abbrev cJ6_getChars_ba4f3 : ByteArray := prog_25_method_12_code
def yJ6_getChars_ba4f3 : MethodName := ⟨RJ6, "getChars", "(II[B)I"⟩
abbrev cJ6_stringSize_0f7a4 : ByteArray := prog_25_method_13_code
def yJ6_stringSize_0f7a4 : MethodName := ⟨RJ6, "stringSize", "(I)I"⟩
abbrev cJ6_bitCount_0f7a4 : ByteArray := prog_25_method_49_code
def yJ6_bitCount_0f7a4 : MethodName := ⟨RJ6, "bitCount", "(I)I"⟩
def RJ9 : String := "java/lang/Math"
def TJ9 : u_T := fun k => match k with
  | _ => ("", "", "", false)
def tyJ9 : Nat → FieldType := fun k => match k with
  | _ => .int
abbrev wsJ90 : List Cond := u_ws RJ9 TJ9 0
theorem nmJ9 : ∀ a, a < 0 → ∀ b, b < 0 → a ≠ b → (TJ9 a).2.1 ≠ (TJ9 b).2.1 := by decide +kernel
theorem tyJ9_ok : ∀ k, k < 0 → parseFieldDescriptor (TJ9 k).2.2.1 = some (tyJ9 k) := by decide +kernel
abbrev cJ9_floorMod_7cf53 : ByteArray := prog_26_method_50_code
def yJ9_floorMod_7cf53 : MethodName := ⟨RJ9, "floorMod", "(II)I"⟩
abbrev cJ9_max_7cf53 : ByteArray := prog_26_method_65_code
def yJ9_max_7cf53 : MethodName := ⟨RJ9, "max", "(II)I"⟩
abbrev cJ9_min_7cf53 : ByteArray := prog_26_method_69_code
def yJ9_min_7cf53 : MethodName := ⟨RJ9, "min", "(II)I"⟩
def RJxd2413 : String := "java/lang/Number"
def TJxd2413 : u_T := fun k => match k with
  | _ => ("", "", "", false)
def tyJxd2413 : Nat → FieldType := fun k => match k with
  | _ => .int
abbrev wsJxd24130 : List Cond := u_ws RJxd2413 TJxd2413 0
theorem nmJxd2413 : ∀ a, a < 0 → ∀ b, b < 0 → a ≠ b → (TJxd2413 a).2.1 ≠ (TJxd2413 b).2.1 := by decide +kernel
theorem tyJxd2413_ok : ∀ k, k < 0 → parseFieldDescriptor (TJxd2413 k).2.2.1 = some (tyJxd2413 k) := by decide +kernel
def RJ0 : String := "java/lang/String"
def TJ0 : u_T := fun k => match k with
  | 0 => ("java/lang/String", "value", "[B", true)
  | 1 => ("java/lang/String", "coder", "B", true)
  | 2 => ("java/lang/String", "hash", "I", false)
  | _ => ("java/lang/String", "hashIsZero", "Z", false)
def tyJ0 : Nat → FieldType := fun k => match k with
  | 0 => .array .byte
  | 1 => .byte
  | 2 => .int
  | _ => .boolean
abbrev wsJ00 : List Cond := u_ws RJ0 TJ0 4
theorem nmJ0 : ∀ a, a < 4 → ∀ b, b < 4 → a ≠ b → (TJ0 a).2.1 ≠ (TJ0 b).2.1 := by decide +kernel
theorem tyJ0_ok : ∀ k, k < 4 → parseFieldDescriptor (TJ0 k).2.2.1 = some (tyJ0 k) := by decide +kernel
abbrev cJ0_init_81219 : ByteArray := prog_29_method_53_code
def yJ0_init_81219 : MethodName := ⟨RJ0, "<init>", "(Ljava/lang/StringBuilder;)V"⟩
abbrev cJ0_length_8abf5 : ByteArray := prog_29_method_54_code
def yJ0_length_8abf5 : MethodName := ⟨RJ0, "length", "()I"⟩
abbrev cJ0_charAt_5068e : ByteArray := prog_29_method_56_code
def yJ0_charAt_5068e : MethodName := ⟨RJ0, "charAt", "(I)C"⟩
abbrev cJ0_getBytes_840e7 : ByteArray := prog_29_method_147_code
def yJ0_getBytes_840e7 : MethodName := ⟨RJ0, "getBytes", "([BIB)V"⟩
abbrev cJ0_init_db425 : ByteArray := prog_29_method_150_code
def yJ0_init_db425 : MethodName := ⟨RJ0, "<init>", "(Ljava/lang/AbstractStringBuilder;Ljava/lang/Void;)V"⟩
abbrev cJ0_coder_7d493 : ByteArray := prog_29_method_152_code
def yJ0_coder_7d493 : MethodName := ⟨RJ0, "coder", "()B"⟩
abbrev cJ0_isLatin1_aae02 : ByteArray := prog_29_method_154_code
def yJ0_isLatin1_aae02 : MethodName := ⟨RJ0, "isLatin1", "()Z"⟩
abbrev cJ0_checkIndex_df160 : ByteArray := prog_29_method_155_code
def yJ0_checkIndex_df160 : MethodName := ⟨RJ0, "checkIndex", "(II)V"⟩
abbrev cJ0_checkBoundsOffCount_cabcc : ByteArray := prog_29_method_157_code
def yJ0_checkBoundsOffCount_cabcc : MethodName := ⟨RJ0, "checkBoundsOffCount", "(III)I"⟩
abbrev cJ0_checkBoundsBeginEnd_23922 : ByteArray := prog_29_method_158_code
def yJ0_checkBoundsBeginEnd_23922 : MethodName := ⟨RJ0, "checkBoundsBeginEnd", "(III)V"⟩
def RJ4 : String := "java/lang/StringBuilder"
def TJ4 : u_T := fun k => match k with
  | 0 => ("java/lang/AbstractStringBuilder", "value", "[B", false)
  | 1 => ("java/lang/AbstractStringBuilder", "coder", "B", false)
  | 2 => ("java/lang/AbstractStringBuilder", "maybeLatin1", "Z", false)
  | _ => ("java/lang/AbstractStringBuilder", "count", "I", false)
def tyJ4 : Nat → FieldType := fun k => match k with
  | 0 => .array .byte
  | 1 => .byte
  | 2 => .boolean
  | _ => .int
abbrev wsJ40 : List Cond := u_ws RJ4 TJ4 4
theorem nmJ4 : ∀ a, a < 4 → ∀ b, b < 4 → a ≠ b → (TJ4 a).2.1 ≠ (TJ4 b).2.1 := by decide +kernel
theorem tyJ4_ok : ∀ k, k < 4 → parseFieldDescriptor (TJ4 k).2.2.1 = some (tyJ4 k) := by decide +kernel
abbrev cJ4_init_da8c8 : ByteArray := prog_30_method_1_code
def yJ4_init_da8c8 : MethodName := ⟨RJ4, "<init>", "()V"⟩
abbrev cJ4_append_15ec4 : ByteArray := prog_30_method_7_code
def yJ4_append_15ec4 : MethodName := ⟨RJ4, "append", "(Ljava/lang/String;)Ljava/lang/StringBuilder;"⟩
abbrev cJ4_append_bf812 : ByteArray := prog_30_method_15_code
def yJ4_append_bf812 : MethodName := ⟨RJ4, "append", "(I)Ljava/lang/StringBuilder;"⟩
abbrev cJ4_toString_0e30d : ByteArray := prog_30_method_42_code
def yJ4_toString_0e30d : MethodName := ⟨RJ4, "toString", "()Ljava/lang/String;"⟩
abbrev cJ4_length_8abf5 : ByteArray := prog_30_method_93_code
def yJ4_length_8abf5 : MethodName := ⟨RJ4, "length", "()I"⟩
def RJ1 : String := "java/lang/StringLatin1"
def TJ1 : u_T := fun k => match k with
  | _ => ("", "", "", false)
def tyJ1 : Nat → FieldType := fun k => match k with
  | _ => .int
abbrev wsJ10 : List Cond := u_ws RJ1 TJ1 0
theorem nmJ1 : ∀ a, a < 0 → ∀ b, b < 0 → a ≠ b → (TJ1 a).2.1 ≠ (TJ1 b).2.1 := by decide +kernel
theorem tyJ1_ok : ∀ k, k < 0 → parseFieldDescriptor (TJ1 k).2.2.1 = some (tyJ1 k) := by decide +kernel
abbrev cJ1_charAt_3b067 : ByteArray := prog_31_method_2_code
def yJ1_charAt_3b067 : MethodName := ⟨RJ1, "charAt", "([BI)C"⟩
abbrev cJ1_inflate_0e8fd : ByteArray := prog_31_method_50_code
def yJ1_inflate_0e8fd : MethodName := ⟨RJ1, "inflate", "([BI[BII)V"⟩
def RJ2 : String := "java/lang/StringUTF16"
def TJ2 : u_T := fun k => match k with
  | _ => ("", "", "", false)
def tyJ2 : Nat → FieldType := fun k => match k with
  | _ => .int
abbrev wsJ20 : List Cond := u_ws RJ2 TJ2 0
theorem nmJ2 : ∀ a, a < 0 → ∀ b, b < 0 → a ≠ b → (TJ2 a).2.1 ≠ (TJ2 b).2.1 := by decide +kernel
theorem tyJ2_ok : ∀ k, k < 0 → parseFieldDescriptor (TJ2 k).2.2.1 = some (tyJ2 k) := by decide +kernel
abbrev cJ2_newBytesFor_77867 : ByteArray := prog_32_method_2_code
def yJ2_newBytesFor_77867 : MethodName := ⟨RJ2, "newBytesFor", "(I)[B"⟩
abbrev cJ2_newBytesLength_0f7a4 : ByteArray := prog_32_method_3_code
def yJ2_newBytesLength_0f7a4 : MethodName := ⟨RJ2, "newBytesLength", "(I)I"⟩
abbrev cJ2_putChar_b72d1 : ByteArray := prog_32_method_4_code
def yJ2_putChar_b72d1 : MethodName := ⟨RJ2, "putChar", "([BII)V"⟩
abbrev cJ2_getChar_3b067 : ByteArray := prog_32_method_5_code
def yJ2_getChar_3b067 : MethodName := ⟨RJ2, "getChar", "([BI)C"⟩
abbrev cJ2_length_9d52b : ByteArray := prog_32_method_6_code
def yJ2_length_9d52b : MethodName := ⟨RJ2, "length", "([B)I"⟩
abbrev cJ2_coderFromArrayLen_85cad : ByteArray := prog_32_method_15_code
def yJ2_coderFromArrayLen_85cad : MethodName := ⟨RJ2, "coderFromArrayLen", "([BI)B"⟩
abbrev cJ2_compress_39247 : ByteArray := prog_32_method_17_code
def yJ2_compress_39247 : MethodName := ⟨RJ2, "compress", "([BII)[B"⟩
abbrev cJ2_compress_5af95 : ByteArray := prog_32_method_22_code
def yJ2_compress_5af95 : MethodName := ⟨RJ2, "compress", "([BI[BII)I"⟩
abbrev cJ2_getChars_46870 : ByteArray := prog_32_method_77_code
def yJ2_getChars_46870 : MethodName := ⟨RJ2, "getChars", "(III[B)I"⟩
abbrev cJ2_putCharsAt_cd4e5 : ByteArray := prog_32_method_81_code
def yJ2_putCharsAt_cd4e5 : MethodName := ⟨RJ2, "putCharsAt", "([BICCCC)I"⟩
abbrev cJ2_charAt_3b067 : ByteArray := prog_32_method_83_code
def yJ2_charAt_3b067 : MethodName := ⟨RJ2, "charAt", "([BI)C"⟩
abbrev cJ2_inflate_0e8fd : ByteArray := prog_32_method_86_code
def yJ2_inflate_0e8fd : MethodName := ⟨RJ2, "inflate", "([BI[BII)V"⟩
abbrev cJ2_getChars_ba4f3 : ByteArray := prog_32_method_89_code
def yJ2_getChars_ba4f3 : MethodName := ⟨RJ2, "getChars", "(II[B)I"⟩
abbrev cJ2_checkIndex_2214a : ByteArray := prog_32_method_91_code
def yJ2_checkIndex_2214a : MethodName := ⟨RJ2, "checkIndex", "(I[B)V"⟩
abbrev cJ2_checkBoundsBeginEnd_d044e : ByteArray := prog_32_method_93_code
def yJ2_checkBoundsBeginEnd_d044e : MethodName := ⟨RJ2, "checkBoundsBeginEnd", "(II[B)V"⟩
abbrev cJ2_checkBoundsOffCount_d044e : ByteArray := prog_32_method_94_code
def yJ2_checkBoundsOffCount_d044e : MethodName := ⟨RJ2, "checkBoundsOffCount", "(II[B)V"⟩
def RJ10 : String := "java/lang/System"
def TJ10 : u_T := fun k => match k with
  | _ => ("", "", "", false)
def tyJ10 : Nat → FieldType := fun k => match k with
  | _ => .int
abbrev wsJ100 : List Cond := u_ws RJ10 TJ10 0
theorem nmJ10 : ∀ a, a < 0 → ∀ b, b < 0 → a ≠ b → (TJ10 a).2.1 ≠ (TJ10 b).2.1 := by decide +kernel
theorem tyJ10_ok : ∀ k, k < 0 → parseFieldDescriptor (TJ10 k).2.2.1 = some (tyJ10 k) := by decide +kernel
def RJxfd54e : String := "java/lang/constant/Constable"
def TJxfd54e : u_T := fun k => match k with
  | _ => ("", "", "", false)
def tyJxfd54e : Nat → FieldType := fun k => match k with
  | _ => .int
abbrev wsJxfd54e0 : List Cond := u_ws RJxfd54e TJxfd54e 0
theorem nmJxfd54e : ∀ a, a < 0 → ∀ b, b < 0 → a ≠ b → (TJxfd54e a).2.1 ≠ (TJxfd54e b).2.1 := by decide +kernel
theorem tyJxfd54e_ok : ∀ k, k < 0 → parseFieldDescriptor (TJxfd54e k).2.2.1 = some (tyJxfd54e k) := by decide +kernel
def RJx3cf43 : String := "java/lang/constant/ConstantDesc"
def TJx3cf43 : u_T := fun k => match k with
  | _ => ("", "", "", false)
def tyJx3cf43 : Nat → FieldType := fun k => match k with
  | _ => .int
abbrev wsJx3cf430 : List Cond := u_ws RJx3cf43 TJx3cf43 0
theorem nmJx3cf43 : ∀ a, a < 0 → ∀ b, b < 0 → a ≠ b → (TJx3cf43 a).2.1 ≠ (TJx3cf43 b).2.1 := by decide +kernel
theorem tyJx3cf43_ok : ∀ k, k < 0 → parseFieldDescriptor (TJx3cf43 k).2.2.1 = some (tyJx3cf43 k) := by decide +kernel
def RJ7 : String := "java/util/Arrays"
def TJ7 : u_T := fun k => match k with
  | _ => ("", "", "", false)
def tyJ7 : Nat → FieldType := fun k => match k with
  | _ => .int
abbrev wsJ70 : List Cond := u_ws RJ7 TJ7 0
theorem nmJ7 : ∀ a, a < 0 → ∀ b, b < 0 → a ≠ b → (TJ7 a).2.1 ≠ (TJ7 b).2.1 := by decide +kernel
theorem tyJ7_ok : ∀ k, k < 0 → parseFieldDescriptor (TJ7 k).2.2.1 = some (tyJ7 k) := by decide +kernel
abbrev cJ7_copyOf_9075b : ByteArray := prog_38_method_121_code
def yJ7_copyOf_9075b : MethodName := ⟨RJ7, "copyOf", "([BI)[B"⟩
abbrev cJ7_checkLength_df160 : ByteArray := prog_38_method_131_code
def yJ7_checkLength_df160 : MethodName := ⟨RJ7, "checkLength", "(II)V"⟩
abbrev cJ7_copyOfRange_39247 : ByteArray := prog_38_method_132_code
def yJ7_copyOfRange_39247 : MethodName := ⟨RJ7, "copyOfRange", "([BII)[B"⟩
abbrev cJ7_copyOfRangeByte_39247 : ByteArray := prog_38_method_133_code
def yJ7_copyOfRangeByte_39247 : MethodName := ⟨RJ7, "copyOfRangeByte", "([BII)[B"⟩
def RJ8 : String := "jdk/internal/util/ArraysSupport"
def TJ8 : u_T := fun k => match k with
  | _ => ("", "", "", false)
def tyJ8 : Nat → FieldType := fun k => match k with
  | _ => .int
abbrev wsJ80 : List Cond := u_ws RJ8 TJ8 0
theorem nmJ8 : ∀ a, a < 0 → ∀ b, b < 0 → a ≠ b → (TJ8 a).2.1 ≠ (TJ8 b).2.1 := by decide +kernel
theorem tyJ8_ok : ∀ k, k < 0 → parseFieldDescriptor (TJ8 k).2.2.1 = some (tyJ8 k) := by decide +kernel
abbrev cJ8_newLength_cabcc : ByteArray := prog_40_method_27_code
def yJ8_newLength_cabcc : MethodName := ⟨RJ8, "newLength", "(III)I"⟩
abbrev cJ8_hugeLength_7cf53 : ByteArray := prog_40_method_28_code
def yJ8_hugeLength_7cf53 : MethodName := ⟨RJ8, "hugeLength", "(II)I"⟩
def RJ3 : String := "jdk/internal/util/Preconditions"
def TJ3 : u_T := fun k => match k with
  | _ => ("", "", "", false)
def tyJ3 : Nat → FieldType := fun k => match k with
  | _ => .int
abbrev wsJ30 : List Cond := u_ws RJ3 TJ3 0
theorem nmJ3 : ∀ a, a < 0 → ∀ b, b < 0 → a ≠ b → (TJ3 a).2.1 ≠ (TJ3 b).2.1 := by decide +kernel
theorem tyJ3_ok : ∀ k, k < 0 → parseFieldDescriptor (TJ3 k).2.2.1 = some (tyJ3 k) := by decide +kernel
abbrev cJ3_checkIndex_8e157 : ByteArray := prog_41_method_11_code
def yJ3_checkIndex_8e157 : MethodName := ⟨RJ3, "checkIndex", "(IILjava/util/function/BiFunction;)I"⟩
abbrev cJ3_checkFromToIndex_8c36e : ByteArray := prog_41_method_12_code
def yJ3_checkFromToIndex_8c36e : MethodName := ⟨RJ3, "checkFromToIndex", "(IIILjava/util/function/BiFunction;)I"⟩
abbrev cJ3_checkFromIndexSize_8c36e : ByteArray := prog_41_method_13_code
def yJ3_checkFromIndexSize_8c36e : MethodName := ⟨RJ3, "checkFromIndexSize", "(IIILjava/util/function/BiFunction;)I"⟩
def RL : String := "NetScriptLaw"
abbrev cL_cell : ByteArray := method_2_code
def yL_cell : MethodName := ⟨RL, "cell", "([II)I"⟩
abbrev cL_pick : ByteArray := method_3_code
def yL_pick : MethodName := ⟨RL, "pick", "([III)I"⟩
abbrev cL_knot : ByteArray := method_4_code
def yL_knot : MethodName := ⟨RL, "knot", "(LNetScript;III)I"⟩
abbrev cL_tear : ByteArray := method_5_code
def yL_tear : MethodName := ⟨RL, "tear", "(LNetScript;III)I"⟩
abbrev cL_mend : ByteArray := method_6_code
def yL_mend : MethodName := ⟨RL, "mend", "(LNetScript;IIII)I"⟩
abbrev cL_editor : ByteArray := method_7_code
def yL_editor : MethodName := ⟨RL, "editor", "(LNetScript;I)I"⟩
abbrev cL_tide : ByteArray := method_8_code
def yL_tide : MethodName := ⟨RL, "tide", "(LNetScript;I)I"⟩
abbrev cL_sink : ByteArray := method_9_code
def yL_sink : MethodName := ⟨RL, "sink", "(LNetScript;II)I"⟩
abbrev cL_note : ByteArray := method_10_code
def yL_note : MethodName := ⟨RL, "note", "(LNetScript;II)I"⟩
abbrev cL_drop : ByteArray := method_11_code
def yL_drop : MethodName := ⟨RL, "drop", "(LNetScript;I)I"⟩
abbrev cL_kindOf : ByteArray := method_12_code
def yL_kindOf : MethodName := ⟨RL, "kindOf", "(LNetScript;II)I"⟩
abbrev cL_torn : ByteArray := method_13_code
def yL_torn : MethodName := ⟨RL, "torn", "(LNetScript;III)I"⟩
abbrev cL_netOf : ByteArray := method_14_code
def yL_netOf : MethodName := ⟨RL, "netOf", "(LNetScript;II)I"⟩
abbrev cL_chapters : ByteArray := method_15_code
def yL_chapters : MethodName := ⟨RL, "chapters", "(LNetScript;I)I"⟩
abbrev cL_chaptersAgain : ByteArray := method_16_code
def yL_chaptersAgain : MethodName := ⟨RL, "chaptersAgain", "(LNetScript;I)I"⟩
abbrev cL_chapterOf : ByteArray := method_17_code
def yL_chapterOf : MethodName := ⟨RL, "chapterOf", "(LNetScript;III)I"⟩
abbrev cL_noteOf : ByteArray := method_18_code
def yL_noteOf : MethodName := ⟨RL, "noteOf", "(LNetScript;II)I"⟩
abbrev cL_least : ByteArray := method_19_code
def yL_least : MethodName := ⟨RL, "least", "(LNetScript;I)I"⟩
abbrev cL_leastAgain : ByteArray := method_20_code
def yL_leastAgain : MethodName := ⟨RL, "leastAgain", "(LNetScript;I)I"⟩
abbrev cL_bestMend : ByteArray := method_21_code
def yL_bestMend : MethodName := ⟨RL, "bestMend", "(LNetScript;IZ)I"⟩
abbrev cL_ranked : ByteArray := method_22_code
def yL_ranked : MethodName := ⟨RL, "ranked", "(LNetScript;II)I"⟩
abbrev cL_editorOf : ByteArray := method_23_code
def yL_editorOf : MethodName := ⟨RL, "editorOf", "(LNetScript;II)I"⟩
abbrev cL_feed : ByteArray := method_24_code
def yL_feed : MethodName := ⟨RL, "feed", "(LNetScript;C)I"⟩
abbrev cL_run : ByteArray := method_25_code
def yL_run : MethodName := ⟨RL, "run", "(LNetScript;)I"⟩
abbrev cL_line : ByteArray := method_28_code
def yL_line : MethodName := ⟨RL, "line", "(LNetScript;II)I"⟩
abbrev cL_chapterLine : ByteArray := method_29_code
def yL_chapterLine : MethodName := ⟨RL, "chapterLine", "(LNetScript;II)I"⟩
abbrev cL_noteLine : ByteArray := method_30_code
def yL_noteLine : MethodName := ⟨RL, "noteLine", "(LNetScript;I)I"⟩
abbrev cL_meanKnots : ByteArray := method_32_code
def yL_meanKnots : MethodName := ⟨RL, "meanKnots", "(LNetScript;)D"⟩
abbrev cL_readShare : ByteArray := method_33_code
def yL_readShare : MethodName := ⟨RL, "readShare", "(LNetScript;)F"⟩
abbrev cL_account : ByteArray := method_34_code
def yL_account : MethodName := ⟨RL, "account", "(LNetScript;I)I"⟩
abbrev cL_undo : ByteArray := method_35_code
def yL_undo : MethodName := ⟨RL, "undo", "(LNetScript;)I"⟩
abbrev cL_restore : ByteArray := method_36_code
def yL_restore : MethodName := ⟨RL, "restore", "(LNetScript;)I"⟩
abbrev cL_reads : ByteArray := method_37_code
def yL_reads : MethodName := ⟨RL, "reads", "(LNetScript;Ljava/lang/String;)I"⟩
abbrev cL_law : ByteArray := code
def yL_law : MethodName := ⟨RL, "law", "([I)Z"⟩
abbrev cL_does : ByteArray := method_42_code
def yL_does : MethodName := ⟨RL, "does", "([IIILNetScript;II)I"⟩
abbrev cL_sum : ByteArray := method_43_code
def yL_sum : MethodName := ⟨RL, "sum", "(LNetScript;)J"⟩
abbrev cL_isNet : ByteArray := method_44_code
def yL_isNet : MethodName := ⟨RL, "isNet", "(LNetScript;II)Z"⟩
abbrev cL_isWhole : ByteArray := method_45_code
def yL_isWhole : MethodName := ⟨RL, "isWhole", "(LNetScript;II)Z"⟩
abbrev cL_isKept : ByteArray := method_46_code
def yL_isKept : MethodName := ⟨RL, "isKept", "(LNetScript;[JI)Z"⟩
abbrev vwCl : List vw_C := [(RJ0, TJ0, 4), (RJ4, TJ4, 4), (RJx00060, TJx00060, 6), (RX0, TX0, 2), (RX1, TX1, 3), (RX2, TX2, 2), (RX3, TX3, 5), (RX4, TX4, 3), (RX5, TX5, 1), (RX6, TX6, 4), (RX7, TX7, 6), (RX8, TX8, 9), (RX9, TX9, 11)]
