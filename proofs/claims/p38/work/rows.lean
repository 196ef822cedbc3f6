section
-- ===== PART A: goes FIRST, ahead of the names: the tables' words, and 'selects' of the private methods out of them =====
/-- a private method of a class that the tables say can be made, by its rows of tables_1 -/
def lw_okq (q : MethodName × Nat) : Prop := (q.1.cls ≠ "java/lang/invoke/MethodHandle" ∧ q.1.cls ≠ "java/lang/invoke/VarHandle") ∧ Cond.instantiable q.1.cls q.2 ∈ tables_1 ∧ Cond.privateMethod q.1 ∈ tables_1 ∧ Cond.instanceMethod q.1 ∈ tables_1
theorem lw_p0 : lw_okq (⟨"java/lang/Throwable", "fillInStackTrace", "(I)Ljava/lang/Throwable;"⟩, 6) := ⟨⟨by decide +kernel, by decide +kernel⟩, List.mem_of_getElem? (i := 326) (by decide +kernel), List.mem_of_getElem? (i := 324) (by decide +kernel), List.mem_of_getElem? (i := 325) (by decide +kernel)⟩
theorem lw_p1 : lw_okq (⟨"NetScript$State", "netNumbered", "(I)LNetScript$Net;"⟩, 9) := ⟨⟨by decide +kernel, by decide +kernel⟩, List.mem_of_getElem? (i := 42) (by decide +kernel), List.mem_of_getElem? (i := 392) (by decide +kernel), List.mem_of_getElem? (i := 393) (by decide +kernel)⟩
theorem lw_p2 : lw_okq (⟨"NetScript$Net", "countChapters", "()I"⟩, 5) := ⟨⟨by decide +kernel, by decide +kernel⟩, List.mem_of_getElem? (i := 53) (by decide +kernel), List.mem_of_getElem? (i := 397) (by decide +kernel), List.mem_of_getElem? (i := 398) (by decide +kernel)⟩
theorem lw_p3 : lw_okq (⟨"NetScript$Net", "knots", "()I"⟩, 5) := ⟨⟨by decide +kernel, by decide +kernel⟩, List.mem_of_getElem? (i := 53) (by decide +kernel), List.mem_of_getElem? (i := 401) (by decide +kernel), List.mem_of_getElem? (i := 402) (by decide +kernel)⟩
theorem lw_p4 : lw_okq (⟨"NetScript$Net", "chapterAt", "(I)I"⟩, 5) := ⟨⟨by decide +kernel, by decide +kernel⟩, List.mem_of_getElem? (i := 53) (by decide +kernel), List.mem_of_getElem? (i := 414) (by decide +kernel), List.mem_of_getElem? (i := 415) (by decide +kernel)⟩
theorem lw_p5 : lw_okq (⟨"NetScript$Net", "wholeAcross", "()I"⟩, 5) := ⟨⟨by decide +kernel, by decide +kernel⟩, List.mem_of_getElem? (i := 53) (by decide +kernel), List.mem_of_getElem? (i := 418) (by decide +kernel), List.mem_of_getElem? (i := 419) (by decide +kernel)⟩
theorem lw_p6 : lw_okq (⟨"NetScript$Net", "wholeDown", "()I"⟩, 5) := ⟨⟨by decide +kernel, by decide +kernel⟩, List.mem_of_getElem? (i := 53) (by decide +kernel), List.mem_of_getElem? (i := 423) (by decide +kernel), List.mem_of_getElem? (i := 424) (by decide +kernel)⟩
theorem lw_p7 : lw_okq (⟨"NetScript$State", "countKnots", "()I"⟩, 9) := ⟨⟨by decide +kernel, by decide +kernel⟩, List.mem_of_getElem? (i := 42) (by decide +kernel), List.mem_of_getElem? (i := 439) (by decide +kernel), List.mem_of_getElem? (i := 440) (by decide +kernel)⟩
theorem lw_p8 : lw_okq (⟨"NetScript$State", "countAllChapters", "()I"⟩, 9) := ⟨⟨by decide +kernel, by decide +kernel⟩, List.mem_of_getElem? (i := 42) (by decide +kernel), List.mem_of_getElem? (i := 446) (by decide +kernel), List.mem_of_getElem? (i := 447) (by decide +kernel)⟩
theorem lw_p9 : lw_okq (⟨"NetScript$State", "countTorn", "()I"⟩, 9) := ⟨⟨by decide +kernel, by decide +kernel⟩, List.mem_of_getElem? (i := 42) (by decide +kernel), List.mem_of_getElem? (i := 451) (by decide +kernel), List.mem_of_getElem? (i := 452) (by decide +kernel)⟩
theorem lw_p10 : lw_okq (⟨"NetScript$Net", "countTorn", "()I"⟩, 5) := ⟨⟨by decide +kernel, by decide +kernel⟩, List.mem_of_getElem? (i := 53) (by decide +kernel), List.mem_of_getElem? (i := 455) (by decide +kernel), List.mem_of_getElem? (i := 456) (by decide +kernel)⟩
theorem lw_p11 : lw_okq (⟨"NetScript$State", "sumTwine", "()I"⟩, 9) := ⟨⟨by decide +kernel, by decide +kernel⟩, List.mem_of_getElem? (i := 42) (by decide +kernel), List.mem_of_getElem? (i := 460) (by decide +kernel), List.mem_of_getElem? (i := 461) (by decide +kernel)⟩
theorem lw_p12 : lw_okq (⟨"NetScript$State", "editorNumbered", "(I)LNetScript$Editor;"⟩, 9) := ⟨⟨by decide +kernel, by decide +kernel⟩, List.mem_of_getElem? (i := 42) (by decide +kernel), List.mem_of_getElem? (i := 464) (by decide +kernel), List.mem_of_getElem? (i := 465) (by decide +kernel)⟩
theorem lw_p13 : lw_okq (⟨"NetScript$State", "countAsNoted", "()I"⟩, 9) := ⟨⟨by decide +kernel, by decide +kernel⟩, List.mem_of_getElem? (i := 42) (by decide +kernel), List.mem_of_getElem? (i := 468) (by decide +kernel), List.mem_of_getElem? (i := 469) (by decide +kernel)⟩
theorem lw_p14 : lw_okq (⟨"NetScript$State", "noteNumbered", "(I)LNetScript$Note;"⟩, 9) := ⟨⟨by decide +kernel, by decide +kernel⟩, List.mem_of_getElem? (i := 42) (by decide +kernel), List.mem_of_getElem? (i := 472) (by decide +kernel), List.mem_of_getElem? (i := 473) (by decide +kernel)⟩
theorem lw_p15 : lw_okq (⟨"NetScript$State", "readsAsNoted", "(LNetScript$Note;)Z"⟩, 9) := ⟨⟨by decide +kernel, by decide +kernel⟩, List.mem_of_getElem? (i := 42) (by decide +kernel), List.mem_of_getElem? (i := 476) (by decide +kernel), List.mem_of_getElem? (i := 477) (by decide +kernel)⟩
def lw_privs_1 : List (MethodName × Nat) := [(⟨"java/lang/Throwable", "fillInStackTrace", "(I)Ljava/lang/Throwable;"⟩, 6), (⟨"NetScript$State", "netNumbered", "(I)LNetScript$Net;"⟩, 9), (⟨"NetScript$Net", "countChapters", "()I"⟩, 5), (⟨"NetScript$Net", "knots", "()I"⟩, 5), (⟨"NetScript$Net", "chapterAt", "(I)I"⟩, 5), (⟨"NetScript$Net", "wholeAcross", "()I"⟩, 5), (⟨"NetScript$Net", "wholeDown", "()I"⟩, 5), (⟨"NetScript$State", "countKnots", "()I"⟩, 9), (⟨"NetScript$State", "countAllChapters", "()I"⟩, 9), (⟨"NetScript$State", "countTorn", "()I"⟩, 9), (⟨"NetScript$Net", "countTorn", "()I"⟩, 5), (⟨"NetScript$State", "sumTwine", "()I"⟩, 9), (⟨"NetScript$State", "editorNumbered", "(I)LNetScript$Editor;"⟩, 9), (⟨"NetScript$State", "countAsNoted", "()I"⟩, 9), (⟨"NetScript$State", "noteNumbered", "(I)LNetScript$Note;"⟩, 9), (⟨"NetScript$State", "readsAsNoted", "(LNetScript$Note;)Z"⟩, 9)]
theorem lw_r1 : ∀ q ∈ lw_privs_1, lw_okq q := List.forall_mem_cons.mpr ⟨lw_p0, List.forall_mem_cons.mpr ⟨lw_p1, List.forall_mem_cons.mpr ⟨lw_p2, List.forall_mem_cons.mpr ⟨lw_p3, List.forall_mem_cons.mpr ⟨lw_p4, List.forall_mem_cons.mpr ⟨lw_p5, List.forall_mem_cons.mpr ⟨lw_p6, List.forall_mem_cons.mpr ⟨lw_p7, List.forall_mem_cons.mpr ⟨lw_p8, List.forall_mem_cons.mpr ⟨lw_p9, List.forall_mem_cons.mpr ⟨lw_p10, List.forall_mem_cons.mpr ⟨lw_p11, List.forall_mem_cons.mpr ⟨lw_p12, List.forall_mem_cons.mpr ⟨lw_p13, List.forall_mem_cons.mpr ⟨lw_p14, List.forall_mem_cons.mpr ⟨lw_p15, fun _ h => absurd h List.not_mem_nil⟩⟩⟩⟩⟩⟩⟩⟩⟩⟩⟩⟩⟩⟩⟩⟩
theorem lw_p16 : lw_okq (⟨"NetScript$Note", "places", "()I"⟩, 3) := ⟨⟨by decide +kernel, by decide +kernel⟩, List.mem_of_getElem? (i := 98) (by decide +kernel), List.mem_of_getElem? (i := 480) (by decide +kernel), List.mem_of_getElem? (i := 481) (by decide +kernel)⟩
theorem lw_p17 : lw_okq (⟨"NetScript$Note", "isOf", "(LNetScript$Net;I)Z"⟩, 3) := ⟨⟨by decide +kernel, by decide +kernel⟩, List.mem_of_getElem? (i := 98) (by decide +kernel), List.mem_of_getElem? (i := 486) (by decide +kernel), List.mem_of_getElem? (i := 487) (by decide +kernel)⟩
theorem lw_p18 : lw_okq (⟨"NetScript", "reasonAgainstKnot", "(III)I"⟩, 11) := ⟨⟨by decide +kernel, by decide +kernel⟩, List.mem_of_getElem? (i := 34) (by decide +kernel), List.mem_of_getElem? (i := 517) (by decide +kernel), List.mem_of_getElem? (i := 518) (by decide +kernel)⟩
theorem lw_p19 : lw_okq (⟨"NetScript", "found", "(II)I"⟩, 11) := ⟨⟨by decide +kernel, by decide +kernel⟩, List.mem_of_getElem? (i := 34) (by decide +kernel), List.mem_of_getElem? (i := 521) (by decide +kernel), List.mem_of_getElem? (i := 522) (by decide +kernel)⟩
theorem lw_p20 : lw_okq (⟨"NetScript$Net", "kindAt", "(I)I"⟩, 5) := ⟨⟨by decide +kernel, by decide +kernel⟩, List.mem_of_getElem? (i := 53) (by decide +kernel), List.mem_of_getElem? (i := 528) (by decide +kernel), List.mem_of_getElem? (i := 529) (by decide +kernel)⟩
theorem lw_p21 : lw_okq (⟨"NetScript", "keepsReason", "(I)Z"⟩, 11) := ⟨⟨by decide +kernel, by decide +kernel⟩, List.mem_of_getElem? (i := 34) (by decide +kernel), List.mem_of_getElem? (i := 535) (by decide +kernel), List.mem_of_getElem? (i := 536) (by decide +kernel)⟩
theorem lw_p22 : lw_okq (⟨"NetScript$Refusal", "keepAlone", "(II)V"⟩, 4) := ⟨⟨by decide +kernel, by decide +kernel⟩, List.mem_of_getElem? (i := 229) (by decide +kernel), List.mem_of_getElem? (i := 539) (by decide +kernel), List.mem_of_getElem? (i := 540) (by decide +kernel)⟩
theorem lw_p23 : lw_okq (⟨"NetScript$History", "push", "(LNetScript$State;)V"⟩, 3) := ⟨⟨by decide +kernel, by decide +kernel⟩, List.mem_of_getElem? (i := 154) (by decide +kernel), List.mem_of_getElem? (i := 559) (by decide +kernel), List.mem_of_getElem? (i := 560) (by decide +kernel)⟩
theorem lw_p24 : lw_okq (⟨"NetScript$State", "copyFrom", "(LNetScript$State;)V"⟩, 9) := ⟨⟨by decide +kernel, by decide +kernel⟩, List.mem_of_getElem? (i := 42) (by decide +kernel), List.mem_of_getElem? (i := 566) (by decide +kernel), List.mem_of_getElem? (i := 567) (by decide +kernel)⟩
theorem lw_p25 : lw_okq (⟨"NetScript$Net", "copyFrom", "(LNetScript$Net;)V"⟩, 5) := ⟨⟨by decide +kernel, by decide +kernel⟩, List.mem_of_getElem? (i := 53) (by decide +kernel), List.mem_of_getElem? (i := 570) (by decide +kernel), List.mem_of_getElem? (i := 571) (by decide +kernel)⟩
theorem lw_p26 : lw_okq (⟨"NetScript$Editor", "copyFrom", "(LNetScript$Editor;)V"⟩, 2) := ⟨⟨by decide +kernel, by decide +kernel⟩, List.mem_of_getElem? (i := 82) (by decide +kernel), List.mem_of_getElem? (i := 574) (by decide +kernel), List.mem_of_getElem? (i := 575) (by decide +kernel)⟩
theorem lw_p27 : lw_okq (⟨"NetScript$Note", "copyFrom", "(LNetScript$Note;)V"⟩, 3) := ⟨⟨by decide +kernel, by decide +kernel⟩, List.mem_of_getElem? (i := 98) (by decide +kernel), List.mem_of_getElem? (i := 578) (by decide +kernel), List.mem_of_getElem? (i := 579) (by decide +kernel)⟩
theorem lw_p28 : lw_okq (⟨"NetScript$Net", "tie", "(II)V"⟩, 5) := ⟨⟨by decide +kernel, by decide +kernel⟩, List.mem_of_getElem? (i := 53) (by decide +kernel), List.mem_of_getElem? (i := 582) (by decide +kernel), List.mem_of_getElem? (i := 583) (by decide +kernel)⟩
theorem lw_p29 : lw_okq (⟨"NetScript", "reasonAgainstTear", "(III)I"⟩, 11) := ⟨⟨by decide +kernel, by decide +kernel⟩, List.mem_of_getElem? (i := 34) (by decide +kernel), List.mem_of_getElem? (i := 596) (by decide +kernel), List.mem_of_getElem? (i := 597) (by decide +kernel)⟩
theorem lw_p30 : lw_okq (⟨"NetScript", "reasonAgainstEnds", "(III)I"⟩, 11) := ⟨⟨by decide +kernel, by decide +kernel⟩, List.mem_of_getElem? (i := 34) (by decide +kernel), List.mem_of_getElem? (i := 600) (by decide +kernel), List.mem_of_getElem? (i := 601) (by decide +kernel)⟩
theorem lw_p31 : lw_okq (⟨"NetScript", "reasonAgainstString", "(IIIZ)I"⟩, 11) := ⟨⟨by decide +kernel, by decide +kernel⟩, List.mem_of_getElem? (i := 34) (by decide +kernel), List.mem_of_getElem? (i := 604) (by decide +kernel), List.mem_of_getElem? (i := 605) (by decide +kernel)⟩
def lw_privs_2 : List (MethodName × Nat) := [(⟨"NetScript$Note", "places", "()I"⟩, 3), (⟨"NetScript$Note", "isOf", "(LNetScript$Net;I)Z"⟩, 3), (⟨"NetScript", "reasonAgainstKnot", "(III)I"⟩, 11), (⟨"NetScript", "found", "(II)I"⟩, 11), (⟨"NetScript$Net", "kindAt", "(I)I"⟩, 5), (⟨"NetScript", "keepsReason", "(I)Z"⟩, 11), (⟨"NetScript$Refusal", "keepAlone", "(II)V"⟩, 4), (⟨"NetScript$History", "push", "(LNetScript$State;)V"⟩, 3), (⟨"NetScript$State", "copyFrom", "(LNetScript$State;)V"⟩, 9), (⟨"NetScript$Net", "copyFrom", "(LNetScript$Net;)V"⟩, 5), (⟨"NetScript$Editor", "copyFrom", "(LNetScript$Editor;)V"⟩, 2), (⟨"NetScript$Note", "copyFrom", "(LNetScript$Note;)V"⟩, 3), (⟨"NetScript$Net", "tie", "(II)V"⟩, 5), (⟨"NetScript", "reasonAgainstTear", "(III)I"⟩, 11), (⟨"NetScript", "reasonAgainstEnds", "(III)I"⟩, 11), (⟨"NetScript", "reasonAgainstString", "(IIIZ)I"⟩, 11)]
theorem lw_r2 : ∀ q ∈ lw_privs_2, lw_okq q := List.forall_mem_cons.mpr ⟨lw_p16, List.forall_mem_cons.mpr ⟨lw_p17, List.forall_mem_cons.mpr ⟨lw_p18, List.forall_mem_cons.mpr ⟨lw_p19, List.forall_mem_cons.mpr ⟨lw_p20, List.forall_mem_cons.mpr ⟨lw_p21, List.forall_mem_cons.mpr ⟨lw_p22, List.forall_mem_cons.mpr ⟨lw_p23, List.forall_mem_cons.mpr ⟨lw_p24, List.forall_mem_cons.mpr ⟨lw_p25, List.forall_mem_cons.mpr ⟨lw_p26, List.forall_mem_cons.mpr ⟨lw_p27, List.forall_mem_cons.mpr ⟨lw_p28, List.forall_mem_cons.mpr ⟨lw_p29, List.forall_mem_cons.mpr ⟨lw_p30, List.forall_mem_cons.mpr ⟨lw_p31, fun _ h => absurd h List.not_mem_nil⟩⟩⟩⟩⟩⟩⟩⟩⟩⟩⟩⟩⟩⟩⟩⟩
theorem lw_p32 : lw_okq (⟨"NetScript$Net", "isTornBetween", "(II)Z"⟩, 5) := ⟨⟨by decide +kernel, by decide +kernel⟩, List.mem_of_getElem? (i := 53) (by decide +kernel), List.mem_of_getElem? (i := 619) (by decide +kernel), List.mem_of_getElem? (i := 620) (by decide +kernel)⟩
theorem lw_p33 : lw_okq (⟨"NetScript$State", "tearString", "(III)V"⟩, 9) := ⟨⟨by decide +kernel, by decide +kernel⟩, List.mem_of_getElem? (i := 42) (by decide +kernel), List.mem_of_getElem? (i := 628) (by decide +kernel), List.mem_of_getElem? (i := 629) (by decide +kernel)⟩
theorem lw_p34 : lw_okq (⟨"NetScript$Net", "putString", "(IIZ)V"⟩, 5) := ⟨⟨by decide +kernel, by decide +kernel⟩, List.mem_of_getElem? (i := 53) (by decide +kernel), List.mem_of_getElem? (i := 632) (by decide +kernel), List.mem_of_getElem? (i := 633) (by decide +kernel)⟩
theorem lw_p35 : lw_okq (⟨"NetScript", "reasonAgainstMend", "(IIII)I"⟩, 11) := ⟨⟨by decide +kernel, by decide +kernel⟩, List.mem_of_getElem? (i := 34) (by decide +kernel), List.mem_of_getElem? (i := 643) (by decide +kernel), List.mem_of_getElem? (i := 644) (by decide +kernel)⟩
theorem lw_p36 : lw_okq (⟨"NetScript$State", "hasEditor", "(I)Z"⟩, 9) := ⟨⟨by decide +kernel, by decide +kernel⟩, List.mem_of_getElem? (i := 42) (by decide +kernel), List.mem_of_getElem? (i := 647) (by decide +kernel), List.mem_of_getElem? (i := 648) (by decide +kernel)⟩
theorem lw_p37 : lw_okq (⟨"NetScript$State", "mendString", "(IIII)V"⟩, 9) := ⟨⟨by decide +kernel, by decide +kernel⟩, List.mem_of_getElem? (i := 42) (by decide +kernel), List.mem_of_getElem? (i := 657) (by decide +kernel), List.mem_of_getElem? (i := 658) (by decide +kernel)⟩
theorem lw_p38 : lw_okq (⟨"NetScript", "reasonAgainstEditor", "(I)I"⟩, 11) := ⟨⟨by decide +kernel, by decide +kernel⟩, List.mem_of_getElem? (i := 34) (by decide +kernel), List.mem_of_getElem? (i := 669) (by decide +kernel), List.mem_of_getElem? (i := 670) (by decide +kernel)⟩
theorem lw_p39 : lw_okq (⟨"NetScript$State", "addEditor", "(I)V"⟩, 9) := ⟨⟨by decide +kernel, by decide +kernel⟩, List.mem_of_getElem? (i := 42) (by decide +kernel), List.mem_of_getElem? (i := 674) (by decide +kernel), List.mem_of_getElem? (i := 675) (by decide +kernel)⟩
theorem lw_p40 : lw_okq (⟨"NetScript", "reasonAgainstTide", "(I)I"⟩, 11) := ⟨⟨by decide +kernel, by decide +kernel⟩, List.mem_of_getElem? (i := 34) (by decide +kernel), List.mem_of_getElem? (i := 685) (by decide +kernel), List.mem_of_getElem? (i := 686) (by decide +kernel)⟩
theorem lw_p41 : lw_okq (⟨"NetScript$State", "countReadable", "()I"⟩, 9) := ⟨⟨by decide +kernel, by decide +kernel⟩, List.mem_of_getElem? (i := 42) (by decide +kernel), List.mem_of_getElem? (i := 690) (by decide +kernel), List.mem_of_getElem? (i := 691) (by decide +kernel)⟩
theorem lw_p42 : lw_okq (⟨"NetScript$State", "dryPlaces", "(I)I"⟩, 9) := ⟨⟨by decide +kernel, by decide +kernel⟩, List.mem_of_getElem? (i := 42) (by decide +kernel), List.mem_of_getElem? (i := 694) (by decide +kernel), List.mem_of_getElem? (i := 695) (by decide +kernel)⟩
theorem lw_p43 : lw_okq (⟨"NetScript$State", "linesUnderWater", "(I)I"⟩, 9) := ⟨⟨by decide +kernel, by decide +kernel⟩, List.mem_of_getElem? (i := 42) (by decide +kernel), List.mem_of_getElem? (i := 698) (by decide +kernel), List.mem_of_getElem? (i := 699) (by decide +kernel)⟩
theorem lw_p44 : lw_okq (⟨"NetScript", "reasonAgainstSink", "(II)I"⟩, 11) := ⟨⟨by decide +kernel, by decide +kernel⟩, List.mem_of_getElem? (i := 34) (by decide +kernel), List.mem_of_getElem? (i := 710) (by decide +kernel), List.mem_of_getElem? (i := 711) (by decide +kernel)⟩
theorem lw_p45 : lw_okq (⟨"NetScript", "reasonAgainstNote", "(II)I"⟩, 11) := ⟨⟨by decide +kernel, by decide +kernel⟩, List.mem_of_getElem? (i := 34) (by decide +kernel), List.mem_of_getElem? (i := 723) (by decide +kernel), List.mem_of_getElem? (i := 724) (by decide +kernel)⟩
theorem lw_p46 : lw_okq (⟨"NetScript$State", "lowestNoteOf", "(II)I"⟩, 9) := ⟨⟨by decide +kernel, by decide +kernel⟩, List.mem_of_getElem? (i := 42) (by decide +kernel), List.mem_of_getElem? (i := 728) (by decide +kernel), List.mem_of_getElem? (i := 729) (by decide +kernel)⟩
theorem lw_p47 : lw_okq (⟨"NetScript$State", "addNote", "(II)V"⟩, 9) := ⟨⟨by decide +kernel, by decide +kernel⟩, List.mem_of_getElem? (i := 42) (by decide +kernel), List.mem_of_getElem? (i := 733) (by decide +kernel), List.mem_of_getElem? (i := 734) (by decide +kernel)⟩
def lw_privs_3 : List (MethodName × Nat) := [(⟨"NetScript$Net", "isTornBetween", "(II)Z"⟩, 5), (⟨"NetScript$State", "tearString", "(III)V"⟩, 9), (⟨"NetScript$Net", "putString", "(IIZ)V"⟩, 5), (⟨"NetScript", "reasonAgainstMend", "(IIII)I"⟩, 11), (⟨"NetScript$State", "hasEditor", "(I)Z"⟩, 9), (⟨"NetScript$State", "mendString", "(IIII)V"⟩, 9), (⟨"NetScript", "reasonAgainstEditor", "(I)I"⟩, 11), (⟨"NetScript$State", "addEditor", "(I)V"⟩, 9), (⟨"NetScript", "reasonAgainstTide", "(I)I"⟩, 11), (⟨"NetScript$State", "countReadable", "()I"⟩, 9), (⟨"NetScript$State", "dryPlaces", "(I)I"⟩, 9), (⟨"NetScript$State", "linesUnderWater", "(I)I"⟩, 9), (⟨"NetScript", "reasonAgainstSink", "(II)I"⟩, 11), (⟨"NetScript", "reasonAgainstNote", "(II)I"⟩, 11), (⟨"NetScript$State", "lowestNoteOf", "(II)I"⟩, 9), (⟨"NetScript$State", "addNote", "(II)V"⟩, 9)]
theorem lw_r3 : ∀ q ∈ lw_privs_3, lw_okq q := List.forall_mem_cons.mpr ⟨lw_p32, List.forall_mem_cons.mpr ⟨lw_p33, List.forall_mem_cons.mpr ⟨lw_p34, List.forall_mem_cons.mpr ⟨lw_p35, List.forall_mem_cons.mpr ⟨lw_p36, List.forall_mem_cons.mpr ⟨lw_p37, List.forall_mem_cons.mpr ⟨lw_p38, List.forall_mem_cons.mpr ⟨lw_p39, List.forall_mem_cons.mpr ⟨lw_p40, List.forall_mem_cons.mpr ⟨lw_p41, List.forall_mem_cons.mpr ⟨lw_p42, List.forall_mem_cons.mpr ⟨lw_p43, List.forall_mem_cons.mpr ⟨lw_p44, List.forall_mem_cons.mpr ⟨lw_p45, List.forall_mem_cons.mpr ⟨lw_p46, List.forall_mem_cons.mpr ⟨lw_p47, fun _ h => absurd h List.not_mem_nil⟩⟩⟩⟩⟩⟩⟩⟩⟩⟩⟩⟩⟩⟩⟩⟩
theorem lw_p48 : lw_okq (⟨"NetScript", "reasonAgainstDrop", "(I)I"⟩, 11) := ⟨⟨by decide +kernel, by decide +kernel⟩, List.mem_of_getElem? (i := 34) (by decide +kernel), List.mem_of_getElem? (i := 744) (by decide +kernel), List.mem_of_getElem? (i := 745) (by decide +kernel)⟩
theorem lw_p49 : lw_okq (⟨"NetScript$State", "hasNote", "(I)Z"⟩, 9) := ⟨⟨by decide +kernel, by decide +kernel⟩, List.mem_of_getElem? (i := 42) (by decide +kernel), List.mem_of_getElem? (i := 748) (by decide +kernel), List.mem_of_getElem? (i := 749) (by decide +kernel)⟩
theorem lw_p50 : lw_okq (⟨"NetScript$State", "removeNote", "(I)V"⟩, 9) := ⟨⟨by decide +kernel, by decide +kernel⟩, List.mem_of_getElem? (i := 42) (by decide +kernel), List.mem_of_getElem? (i := 753) (by decide +kernel), List.mem_of_getElem? (i := 754) (by decide +kernel)⟩
theorem lw_p51 : lw_okq (⟨"NetScript$Script", "isFull", "()Z"⟩, 6) := ⟨⟨by decide +kernel, by decide +kernel⟩, List.mem_of_getElem? (i := 185) (by decide +kernel), List.mem_of_getElem? (i := 1036) (by decide +kernel), List.mem_of_getElem? (i := 1037) (by decide +kernel)⟩
theorem lw_p52 : lw_okq (⟨"NetScript$Script", "append", "(C)V"⟩, 6) := ⟨⟨by decide +kernel, by decide +kernel⟩, List.mem_of_getElem? (i := 185) (by decide +kernel), List.mem_of_getElem? (i := 1056) (by decide +kernel), List.mem_of_getElem? (i := 1057) (by decide +kernel)⟩
theorem lw_p53 : lw_okq (⟨"NetScript$Script", "findFault", "()I"⟩, 6) := ⟨⟨by decide +kernel, by decide +kernel⟩, List.mem_of_getElem? (i := 185) (by decide +kernel), List.mem_of_getElem? (i := 1067) (by decide +kernel), List.mem_of_getElem? (i := 1068) (by decide +kernel)⟩
theorem lw_p54 : lw_okq (⟨"NetScript$Script", "readOrder", "(I)Z"⟩, 6) := ⟨⟨by decide +kernel, by decide +kernel⟩, List.mem_of_getElem? (i := 185) (by decide +kernel), List.mem_of_getElem? (i := 1071) (by decide +kernel), List.mem_of_getElem? (i := 1072) (by decide +kernel)⟩
theorem lw_p55 : lw_okq (⟨"NetScript$Script", "readForm", "(Ljava/lang/String;I)Z"⟩, 6) := ⟨⟨by decide +kernel, by decide +kernel⟩, List.mem_of_getElem? (i := 185) (by decide +kernel), List.mem_of_getElem? (i := 1086) (by decide +kernel), List.mem_of_getElem? (i := 1087) (by decide +kernel)⟩
theorem lw_p56 : lw_okq (⟨"NetScript$Script", "isDigitNext", "()Z"⟩, 6) := ⟨⟨by decide +kernel, by decide +kernel⟩, List.mem_of_getElem? (i := 185) (by decide +kernel), List.mem_of_getElem? (i := 1092) (by decide +kernel), List.mem_of_getElem? (i := 1093) (by decide +kernel)⟩
theorem lw_p57 : lw_okq (⟨"NetScript$Script", "isInText", "()Z"⟩, 6) := ⟨⟨by decide +kernel, by decide +kernel⟩, List.mem_of_getElem? (i := 185) (by decide +kernel), List.mem_of_getElem? (i := 1096) (by decide +kernel), List.mem_of_getElem? (i := 1097) (by decide +kernel)⟩
theorem lw_p58 : lw_okq (⟨"NetScript$Script", "readNumber", "(Z)I"⟩, 6) := ⟨⟨by decide +kernel, by decide +kernel⟩, List.mem_of_getElem? (i := 185) (by decide +kernel), List.mem_of_getElem? (i := 1100) (by decide +kernel), List.mem_of_getElem? (i := 1101) (by decide +kernel)⟩
theorem lw_p59 : lw_okq (⟨"NetScript$Script", "putNumber", "(III)V"⟩, 6) := ⟨⟨by decide +kernel, by decide +kernel⟩, List.mem_of_getElem? (i := 185) (by decide +kernel), List.mem_of_getElem? (i := 1104) (by decide +kernel), List.mem_of_getElem? (i := 1105) (by decide +kernel)⟩
theorem lw_p60 : lw_okq (⟨"NetScript$Script", "isNext", "(C)Z"⟩, 6) := ⟨⟨by decide +kernel, by decide +kernel⟩, List.mem_of_getElem? (i := 185) (by decide +kernel), List.mem_of_getElem? (i := 1108) (by decide +kernel), List.mem_of_getElem? (i := 1109) (by decide +kernel)⟩
theorem lw_p61 : lw_okq (⟨"NetScript$Script", "putWord", "(II)V"⟩, 6) := ⟨⟨by decide +kernel, by decide +kernel⟩, List.mem_of_getElem? (i := 185) (by decide +kernel), List.mem_of_getElem? (i := 1112) (by decide +kernel), List.mem_of_getElem? (i := 1113) (by decide +kernel)⟩
theorem lw_p62 : lw_okq (⟨"NetScript$Script", "clear", "()V"⟩, 6) := ⟨⟨by decide +kernel, by decide +kernel⟩, List.mem_of_getElem? (i := 185) (by decide +kernel), List.mem_of_getElem? (i := 1117) (by decide +kernel), List.mem_of_getElem? (i := 1118) (by decide +kernel)⟩
theorem lw_p63 : lw_okq (⟨"NetScript", "reasonAgainstOrder", "(I)I"⟩, 11) := ⟨⟨by decide +kernel, by decide +kernel⟩, List.mem_of_getElem? (i := 34) (by decide +kernel), List.mem_of_getElem? (i := 1123) (by decide +kernel), List.mem_of_getElem? (i := 1124) (by decide +kernel)⟩
def lw_privs_4 : List (MethodName × Nat) := [(⟨"NetScript", "reasonAgainstDrop", "(I)I"⟩, 11), (⟨"NetScript$State", "hasNote", "(I)Z"⟩, 9), (⟨"NetScript$State", "removeNote", "(I)V"⟩, 9), (⟨"NetScript$Script", "isFull", "()Z"⟩, 6), (⟨"NetScript$Script", "append", "(C)V"⟩, 6), (⟨"NetScript$Script", "findFault", "()I"⟩, 6), (⟨"NetScript$Script", "readOrder", "(I)Z"⟩, 6), (⟨"NetScript$Script", "readForm", "(Ljava/lang/String;I)Z"⟩, 6), (⟨"NetScript$Script", "isDigitNext", "()Z"⟩, 6), (⟨"NetScript$Script", "isInText", "()Z"⟩, 6), (⟨"NetScript$Script", "readNumber", "(Z)I"⟩, 6), (⟨"NetScript$Script", "putNumber", "(III)V"⟩, 6), (⟨"NetScript$Script", "isNext", "(C)Z"⟩, 6), (⟨"NetScript$Script", "putWord", "(II)V"⟩, 6), (⟨"NetScript$Script", "clear", "()V"⟩, 6), (⟨"NetScript", "reasonAgainstOrder", "(I)I"⟩, 11)]
theorem lw_r4 : ∀ q ∈ lw_privs_4, lw_okq q := List.forall_mem_cons.mpr ⟨lw_p48, List.forall_mem_cons.mpr ⟨lw_p49, List.forall_mem_cons.mpr ⟨lw_p50, List.forall_mem_cons.mpr ⟨lw_p51, List.forall_mem_cons.mpr ⟨lw_p52, List.forall_mem_cons.mpr ⟨lw_p53, List.forall_mem_cons.mpr ⟨lw_p54, List.forall_mem_cons.mpr ⟨lw_p55, List.forall_mem_cons.mpr ⟨lw_p56, List.forall_mem_cons.mpr ⟨lw_p57, List.forall_mem_cons.mpr ⟨lw_p58, List.forall_mem_cons.mpr ⟨lw_p59, List.forall_mem_cons.mpr ⟨lw_p60, List.forall_mem_cons.mpr ⟨lw_p61, List.forall_mem_cons.mpr ⟨lw_p62, List.forall_mem_cons.mpr ⟨lw_p63, fun _ h => absurd h List.not_mem_nil⟩⟩⟩⟩⟩⟩⟩⟩⟩⟩⟩⟩⟩⟩⟩⟩
theorem lw_p64 : lw_okq (⟨"NetScript$Script", "numberAt", "(II)I"⟩, 6) := ⟨⟨by decide +kernel, by decide +kernel⟩, List.mem_of_getElem? (i := 185) (by decide +kernel), List.mem_of_getElem? (i := 1127) (by decide +kernel), List.mem_of_getElem? (i := 1128) (by decide +kernel)⟩
theorem lw_p65 : lw_okq (⟨"NetScript$Script", "wordAt", "(I)I"⟩, 6) := ⟨⟨by decide +kernel, by decide +kernel⟩, List.mem_of_getElem? (i := 185) (by decide +kernel), List.mem_of_getElem? (i := 1131) (by decide +kernel), List.mem_of_getElem? (i := 1132) (by decide +kernel)⟩
theorem lw_p66 : lw_okq (⟨"NetScript$Refusal", "keepOrder", "(III)V"⟩, 4) := ⟨⟨by decide +kernel, by decide +kernel⟩, List.mem_of_getElem? (i := 229) (by decide +kernel), List.mem_of_getElem? (i := 1135) (by decide +kernel), List.mem_of_getElem? (i := 1136) (by decide +kernel)⟩
theorem lw_p67 : lw_okq (⟨"NetScript", "doOrder", "(I)V"⟩, 11) := ⟨⟨by decide +kernel, by decide +kernel⟩, List.mem_of_getElem? (i := 34) (by decide +kernel), List.mem_of_getElem? (i := 1140) (by decide +kernel), List.mem_of_getElem? (i := 1141) (by decide +kernel)⟩
theorem lw_p68 : lw_okq (⟨"NetScript$Net", "greatestChapter", "(I)I"⟩, 5) := ⟨⟨by decide +kernel, by decide +kernel⟩, List.mem_of_getElem? (i := 53) (by decide +kernel), List.mem_of_getElem? (i := 1158) (by decide +kernel), List.mem_of_getElem? (i := 1159) (by decide +kernel)⟩
theorem lw_p69 : lw_okq (⟨"NetScript$Net", "twineForAll", "()I"⟩, 5) := ⟨⟨by decide +kernel, by decide +kernel⟩, List.mem_of_getElem? (i := 53) (by decide +kernel), List.mem_of_getElem? (i := 1162) (by decide +kernel), List.mem_of_getElem? (i := 1163) (by decide +kernel)⟩
theorem lw_p70 : lw_okq (⟨"NetScript$Line", "clear", "()V"⟩, 2) := ⟨⟨by decide +kernel, by decide +kernel⟩, List.mem_of_getElem? (i := 215) (by decide +kernel), List.mem_of_getElem? (i := 1219) (by decide +kernel), List.mem_of_getElem? (i := 1220) (by decide +kernel)⟩
theorem lw_p71 : lw_okq (⟨"NetScript$Line", "appendKnots", "(II)V"⟩, 2) := ⟨⟨by decide +kernel, by decide +kernel⟩, List.mem_of_getElem? (i := 215) (by decide +kernel), List.mem_of_getElem? (i := 1223) (by decide +kernel), List.mem_of_getElem? (i := 1224) (by decide +kernel)⟩
theorem lw_p72 : lw_okq (⟨"NetScript$Line", "append", "(C)V"⟩, 2) := ⟨⟨by decide +kernel, by decide +kernel⟩, List.mem_of_getElem? (i := 215) (by decide +kernel), List.mem_of_getElem? (i := 1231) (by decide +kernel), List.mem_of_getElem? (i := 1232) (by decide +kernel)⟩
theorem lw_p73 : lw_okq (⟨"NetScript$Net", "countWholeWithin", "(I)I"⟩, 5) := ⟨⟨by decide +kernel, by decide +kernel⟩, List.mem_of_getElem? (i := 53) (by decide +kernel), List.mem_of_getElem? (i := 1260) (by decide +kernel), List.mem_of_getElem? (i := 1261) (by decide +kernel)⟩
theorem lw_p74 : lw_okq (⟨"NetScript$Net", "chapterRanked", "(I)I"⟩, 5) := ⟨⟨by decide +kernel, by decide +kernel⟩, List.mem_of_getElem? (i := 53) (by decide +kernel), List.mem_of_getElem? (i := 1282) (by decide +kernel), List.mem_of_getElem? (i := 1283) (by decide +kernel)⟩
theorem lw_p75 : lw_okq (⟨"NetScript$Net", "bestTornString", "(Z)I"⟩, 5) := ⟨⟨by decide +kernel, by decide +kernel⟩, List.mem_of_getElem? (i := 53) (by decide +kernel), List.mem_of_getElem? (i := 1295) (by decide +kernel), List.mem_of_getElem? (i := 1296) (by decide +kernel)⟩
theorem lw_p76 : lw_okq (⟨"NetScript$Net", "knotsJoinedBy", "(II)I"⟩, 5) := ⟨⟨by decide +kernel, by decide +kernel⟩, List.mem_of_getElem? (i := 53) (by decide +kernel), List.mem_of_getElem? (i := 1299) (by decide +kernel), List.mem_of_getElem? (i := 1300) (by decide +kernel)⟩
theorem lw_p77 : lw_okq (⟨"NetScript$Net", "countChaptersByStrings", "(LNetScript$Parts;)I"⟩, 5) := ⟨⟨by decide +kernel, by decide +kernel⟩, List.mem_of_getElem? (i := 53) (by decide +kernel), List.mem_of_getElem? (i := 1314) (by decide +kernel), List.mem_of_getElem? (i := 1315) (by decide +kernel)⟩
theorem lw_p78 : lw_okq (⟨"NetScript$Parts", "separate", "()V"⟩, 1) := ⟨⟨by decide +kernel, by decide +kernel⟩, List.mem_of_getElem? (i := 174) (by decide +kernel), List.mem_of_getElem? (i := 1318) (by decide +kernel), List.mem_of_getElem? (i := 1319) (by decide +kernel)⟩
theorem lw_p79 : lw_okq (⟨"NetScript$Parts", "joinAll", "(II)I"⟩, 1) := ⟨⟨by decide +kernel, by decide +kernel⟩, List.mem_of_getElem? (i := 174) (by decide +kernel), List.mem_of_getElem? (i := 1322) (by decide +kernel), List.mem_of_getElem? (i := 1323) (by decide +kernel)⟩
def lw_privs_5 : List (MethodName × Nat) := [(⟨"NetScript$Script", "numberAt", "(II)I"⟩, 6), (⟨"NetScript$Script", "wordAt", "(I)I"⟩, 6), (⟨"NetScript$Refusal", "keepOrder", "(III)V"⟩, 4), (⟨"NetScript", "doOrder", "(I)V"⟩, 11), (⟨"NetScript$Net", "greatestChapter", "(I)I"⟩, 5), (⟨"NetScript$Net", "twineForAll", "()I"⟩, 5), (⟨"NetScript$Line", "clear", "()V"⟩, 2), (⟨"NetScript$Line", "appendKnots", "(II)V"⟩, 2), (⟨"NetScript$Line", "append", "(C)V"⟩, 2), (⟨"NetScript$Net", "countWholeWithin", "(I)I"⟩, 5), (⟨"NetScript$Net", "chapterRanked", "(I)I"⟩, 5), (⟨"NetScript$Net", "bestTornString", "(Z)I"⟩, 5), (⟨"NetScript$Net", "knotsJoinedBy", "(II)I"⟩, 5), (⟨"NetScript$Net", "countChaptersByStrings", "(LNetScript$Parts;)I"⟩, 5), (⟨"NetScript$Parts", "separate", "()V"⟩, 1), (⟨"NetScript$Parts", "joinAll", "(II)I"⟩, 1)]
theorem lw_r5 : ∀ q ∈ lw_privs_5, lw_okq q := List.forall_mem_cons.mpr ⟨lw_p64, List.forall_mem_cons.mpr ⟨lw_p65, List.forall_mem_cons.mpr ⟨lw_p66, List.forall_mem_cons.mpr ⟨lw_p67, List.forall_mem_cons.mpr ⟨lw_p68, List.forall_mem_cons.mpr ⟨lw_p69, List.forall_mem_cons.mpr ⟨lw_p70, List.forall_mem_cons.mpr ⟨lw_p71, List.forall_mem_cons.mpr ⟨lw_p72, List.forall_mem_cons.mpr ⟨lw_p73, List.forall_mem_cons.mpr ⟨lw_p74, List.forall_mem_cons.mpr ⟨lw_p75, List.forall_mem_cons.mpr ⟨lw_p76, List.forall_mem_cons.mpr ⟨lw_p77, List.forall_mem_cons.mpr ⟨lw_p78, List.forall_mem_cons.mpr ⟨lw_p79, fun _ h => absurd h List.not_mem_nil⟩⟩⟩⟩⟩⟩⟩⟩⟩⟩⟩⟩⟩⟩⟩⟩
theorem lw_p80 : lw_okq (⟨"NetScript$Parts", "join", "(II)Z"⟩, 1) := ⟨⟨by decide +kernel, by decide +kernel⟩, List.mem_of_getElem? (i := 174) (by decide +kernel), List.mem_of_getElem? (i := 1327) (by decide +kernel), List.mem_of_getElem? (i := 1328) (by decide +kernel)⟩
theorem lw_p81 : lw_okq (⟨"NetScript$Net", "writeLine", "(ILNetScript$Line;)V"⟩, 5) := ⟨⟨by decide +kernel, by decide +kernel⟩, List.mem_of_getElem? (i := 53) (by decide +kernel), List.mem_of_getElem? (i := 1340) (by decide +kernel), List.mem_of_getElem? (i := 1341) (by decide +kernel)⟩
theorem lw_p82 : lw_okq (⟨"NetScript$State", "canBeMended", "(LNetScript$Note;)Z"⟩, 9) := ⟨⟨by decide +kernel, by decide +kernel⟩, List.mem_of_getElem? (i := 42) (by decide +kernel), List.mem_of_getElem? (i := 1354) (by decide +kernel), List.mem_of_getElem? (i := 1355) (by decide +kernel)⟩
theorem lw_p83 : lw_okq (⟨"NetScript$Net", "hasStringOutOf", "(I)Z"⟩, 5) := ⟨⟨by decide +kernel, by decide +kernel⟩, List.mem_of_getElem? (i := 53) (by decide +kernel), List.mem_of_getElem? (i := 1358) (by decide +kernel), List.mem_of_getElem? (i := 1359) (by decide +kernel)⟩
theorem lw_p84 : lw_okq (⟨"NetScript$State", "leastByStrings", "(LNetScript$Note;LNetScript$Parts;)I"⟩, 9) := ⟨⟨by decide +kernel, by decide +kernel⟩, List.mem_of_getElem? (i := 42) (by decide +kernel), List.mem_of_getElem? (i := 1363) (by decide +kernel), List.mem_of_getElem? (i := 1364) (by decide +kernel)⟩
theorem lw_p85 : lw_okq (⟨"NetScript$Net", "leastByStrings", "(ILNetScript$Parts;)I"⟩, 5) := ⟨⟨by decide +kernel, by decide +kernel⟩, List.mem_of_getElem? (i := 53) (by decide +kernel), List.mem_of_getElem? (i := 1367) (by decide +kernel), List.mem_of_getElem? (i := 1368) (by decide +kernel)⟩
theorem lw_p86 : lw_okq (⟨"NetScript$State", "leastByPlaces", "(LNetScript$Note;)I"⟩, 9) := ⟨⟨by decide +kernel, by decide +kernel⟩, List.mem_of_getElem? (i := 42) (by decide +kernel), List.mem_of_getElem? (i := 1378) (by decide +kernel), List.mem_of_getElem? (i := 1379) (by decide +kernel)⟩
theorem lw_p87 : lw_okq (⟨"NetScript$Net", "leastByPlaces", "(I)I"⟩, 5) := ⟨⟨by decide +kernel, by decide +kernel⟩, List.mem_of_getElem? (i := 53) (by decide +kernel), List.mem_of_getElem? (i := 1382) (by decide +kernel), List.mem_of_getElem? (i := 1383) (by decide +kernel)⟩
theorem lw_p88 : lw_okq (⟨"NetScript$State", "areChaptersToldAlike", "(LNetScript$Parts;)Z"⟩, 9) := ⟨⟨by decide +kernel, by decide +kernel⟩, List.mem_of_getElem? (i := 42) (by decide +kernel), List.mem_of_getElem? (i := 1424) (by decide +kernel), List.mem_of_getElem? (i := 1425) (by decide +kernel)⟩
theorem lw_p89 : lw_okq (⟨"NetScript$State", "areNotesToldAlike", "(LNetScript$Parts;)Z"⟩, 9) := ⟨⟨by decide +kernel, by decide +kernel⟩, List.mem_of_getElem? (i := 42) (by decide +kernel), List.mem_of_getElem? (i := 1430) (by decide +kernel), List.mem_of_getElem? (i := 1431) (by decide +kernel)⟩
theorem lw_p90 : lw_okq (⟨"NetScript$History", "popInto", "(LNetScript$State;)V"⟩, 3) := ⟨⟨by decide +kernel, by decide +kernel⟩, List.mem_of_getElem? (i := 154) (by decide +kernel), List.mem_of_getElem? (i := 1452) (by decide +kernel), List.mem_of_getElem? (i := 1453) (by decide +kernel)⟩
theorem lw_p91 : lw_okq (⟨"NetScript$History", "clear", "()V"⟩, 3) := ⟨⟨by decide +kernel, by decide +kernel⟩, List.mem_of_getElem? (i := 154) (by decide +kernel), List.mem_of_getElem? (i := 1464) (by decide +kernel), List.mem_of_getElem? (i := 1465) (by decide +kernel)⟩
def lw_privs_6 : List (MethodName × Nat) := [(⟨"NetScript$Parts", "join", "(II)Z"⟩, 1), (⟨"NetScript$Net", "writeLine", "(ILNetScript$Line;)V"⟩, 5), (⟨"NetScript$State", "canBeMended", "(LNetScript$Note;)Z"⟩, 9), (⟨"NetScript$Net", "hasStringOutOf", "(I)Z"⟩, 5), (⟨"NetScript$State", "leastByStrings", "(LNetScript$Note;LNetScript$Parts;)I"⟩, 9), (⟨"NetScript$Net", "leastByStrings", "(ILNetScript$Parts;)I"⟩, 5), (⟨"NetScript$State", "leastByPlaces", "(LNetScript$Note;)I"⟩, 9), (⟨"NetScript$Net", "leastByPlaces", "(I)I"⟩, 5), (⟨"NetScript$State", "areChaptersToldAlike", "(LNetScript$Parts;)Z"⟩, 9), (⟨"NetScript$State", "areNotesToldAlike", "(LNetScript$Parts;)Z"⟩, 9), (⟨"NetScript$History", "popInto", "(LNetScript$State;)V"⟩, 3), (⟨"NetScript$History", "clear", "()V"⟩, 3)]
theorem lw_r6 : ∀ q ∈ lw_privs_6, lw_okq q := List.forall_mem_cons.mpr ⟨lw_p80, List.forall_mem_cons.mpr ⟨lw_p81, List.forall_mem_cons.mpr ⟨lw_p82, List.forall_mem_cons.mpr ⟨lw_p83, List.forall_mem_cons.mpr ⟨lw_p84, List.forall_mem_cons.mpr ⟨lw_p85, List.forall_mem_cons.mpr ⟨lw_p86, List.forall_mem_cons.mpr ⟨lw_p87, List.forall_mem_cons.mpr ⟨lw_p88, List.forall_mem_cons.mpr ⟨lw_p89, List.forall_mem_cons.mpr ⟨lw_p90, List.forall_mem_cons.mpr ⟨lw_p91, fun _ h => absurd h List.not_mem_nil⟩⟩⟩⟩⟩⟩⟩⟩⟩⟩⟩⟩
def lw_privs : List (MethodName × Nat) := lw_privs_1 ++ (lw_privs_2 ++ (lw_privs_3 ++ (lw_privs_4 ++ (lw_privs_5 ++ (lw_privs_6)))))
def lw_tbl : List Cond := k2_sels lw_privs ++ tables_1
theorem lw_privs_ok : ∀ q ∈ lw_privs, lw_okq q := by
  show ∀ q ∈ lw_privs_1 ++ (lw_privs_2 ++ (lw_privs_3 ++ (lw_privs_4 ++ (lw_privs_5 ++ (lw_privs_6))))), lw_okq q
  exact List.forall_mem_append.mpr ⟨lw_r1, List.forall_mem_append.mpr ⟨lw_r2, List.forall_mem_append.mpr ⟨lw_r3, List.forall_mem_append.mpr ⟨lw_r4, List.forall_mem_append.mpr ⟨lw_r5, lw_r6⟩⟩⟩⟩⟩
/-- the streams that the claim lets the run draw from -/
abbrev lw_cs : List Choice := [Jvm.Choice.named "NaN.bits"]
theorem lw_bits : nanBits ∈ lw_cs := by first | decide | exact List.mem_cons_self | simp [lw_cs, nanBits]
end
section
def RX0 : String := "NetScript$Editor"
def TX0 : u_T := fun k => match k with
  | 0 => ("NetScript$Editor", "twine", "I", false)
  | _ => ("NetScript$Editor", "mended", "I", false)
def tyX0 : Nat → FieldType := fun k => match k with
  | 0 => .int
  | _ => .int
abbrev wsX00 : List Cond := u_ws RX0 TX0 2
theorem nmX0 : ∀ a, a < 2 → ∀ b, b < 2 → a ≠ b → (TX0 a).2.1 ≠ (TX0 b).2.1 := by decide +kernel
theorem tyX0_ok : ∀ k, k < 2 → parseFieldDescriptor (TX0 k).2.2.1 = some (tyX0 k) := by decide +kernel
abbrev cX0_init : ByteArray := prog_2_method_1_code
def yX0_init : MethodName := ⟨RX0, "<init>", "()V"⟩
abbrev cX0_copyFrom : ByteArray := prog_2_method_2_code
def yX0_copyFrom : MethodName := ⟨RX0, "copyFrom", "(LNetScript$Editor;)V"⟩
def RX1 : String := "NetScript$History"
def TX1 : u_T := fun k => match k with
  | 0 => ("NetScript$History", "states", "[LNetScript$State;", true)
  | 1 => ("NetScript$History", "oldest", "I", false)
  | _ => ("NetScript$History", "count", "I", false)
def tyX1 : Nat → FieldType := fun k => match k with
  | 0 => .array (.object "NetScript$State")
  | 1 => .int
  | _ => .int
abbrev wsX10 : List Cond := u_ws RX1 TX1 3
theorem nmX1 : ∀ a, a < 3 → ∀ b, b < 3 → a ≠ b → (TX1 a).2.1 ≠ (TX1 b).2.1 := by decide +kernel
theorem tyX1_ok : ∀ k, k < 3 → parseFieldDescriptor (TX1 k).2.2.1 = some (tyX1 k) := by decide +kernel
abbrev cX1_init : ByteArray := prog_3_method_1_code
def yX1_init : MethodName := ⟨RX1, "<init>", "()V"⟩
abbrev cX1_push : ByteArray := prog_3_method_2_code
def yX1_push : MethodName := ⟨RX1, "push", "(LNetScript$State;)V"⟩
abbrev cX1_popInto : ByteArray := prog_3_method_3_code
def yX1_popInto : MethodName := ⟨RX1, "popInto", "(LNetScript$State;)V"⟩
abbrev cX1_clear : ByteArray := prog_3_method_4_code
def yX1_clear : MethodName := ⟨RX1, "clear", "()V"⟩
def RX2 : String := "NetScript$Line"
def TX2 : u_T := fun k => match k with
  | 0 => ("NetScript$Line", "characters", "[C", true)
  | _ => ("NetScript$Line", "length", "I", false)
def tyX2 : Nat → FieldType := fun k => match k with
  | 0 => .array .char
  | _ => .int
abbrev wsX20 : List Cond := u_ws RX2 TX2 2
theorem nmX2 : ∀ a, a < 2 → ∀ b, b < 2 → a ≠ b → (TX2 a).2.1 ≠ (TX2 b).2.1 := by decide +kernel
theorem tyX2_ok : ∀ k, k < 2 → parseFieldDescriptor (TX2 k).2.2.1 = some (tyX2 k) := by decide +kernel
abbrev cX2_init : ByteArray := prog_4_method_1_code
def yX2_init : MethodName := ⟨RX2, "<init>", "()V"⟩
abbrev cX2_clear : ByteArray := prog_4_method_2_code
def yX2_clear : MethodName := ⟨RX2, "clear", "()V"⟩
abbrev cX2_append : ByteArray := prog_4_method_3_code
def yX2_append : MethodName := ⟨RX2, "append", "(C)V"⟩
abbrev cX2_appendKnots : ByteArray := prog_4_method_4_code
def yX2_appendKnots : MethodName := ⟨RX2, "appendKnots", "(II)V"⟩
def RX3 : String := "NetScript$Net"
def TX3 : u_T := fun k => match k with
  | 0 => ("NetScript$Net", "oddKinds", "I", false)
  | 1 => ("NetScript$Net", "highKinds", "I", false)
  | 2 => ("NetScript$Net", "tornAcross", "I", false)
  | 3 => ("NetScript$Net", "tornDown", "I", false)
  | _ => ("NetScript$Net", "draught", "I", false)
def tyX3 : Nat → FieldType := fun k => match k with
  | 0 => .int
  | 1 => .int
  | 2 => .int
  | 3 => .int
  | _ => .int
abbrev wsX30 : List Cond := u_ws RX3 TX3 5
theorem nmX3 : ∀ a, a < 5 → ∀ b, b < 5 → a ≠ b → (TX3 a).2.1 ≠ (TX3 b).2.1 := by decide +kernel
theorem tyX3_ok : ∀ k, k < 5 → parseFieldDescriptor (TX3 k).2.2.1 = some (tyX3 k) := by decide +kernel
abbrev cX3_init : ByteArray := prog_5_method_1_code
def yX3_init : MethodName := ⟨RX3, "<init>", "()V"⟩
abbrev cX3_copyFrom : ByteArray := prog_5_method_2_code
def yX3_copyFrom : MethodName := ⟨RX3, "copyFrom", "(LNetScript$Net;)V"⟩
abbrev cX3_knots : ByteArray := prog_5_method_3_code
def yX3_knots : MethodName := ⟨RX3, "knots", "()I"⟩
abbrev cX3_kindAt : ByteArray := prog_5_method_4_code
def yX3_kindAt : MethodName := ⟨RX3, "kindAt", "(I)I"⟩
abbrev cX3_tie : ByteArray := prog_5_method_5_code
def yX3_tie : MethodName := ⟨RX3, "tie", "(II)V"⟩
abbrev cX3_wholeAcross : ByteArray := prog_5_method_6_code
def yX3_wholeAcross : MethodName := ⟨RX3, "wholeAcross", "()I"⟩
abbrev cX3_wholeDown : ByteArray := prog_5_method_7_code
def yX3_wholeDown : MethodName := ⟨RX3, "wholeDown", "()I"⟩
abbrev cX3_isTornBetween : ByteArray := prog_5_method_8_code
def yX3_isTornBetween : MethodName := ⟨RX3, "isTornBetween", "(II)Z"⟩
abbrev cX3_putString : ByteArray := prog_5_method_9_code
def yX3_putString : MethodName := ⟨RX3, "putString", "(IIZ)V"⟩
abbrev cX3_countTorn : ByteArray := prog_5_method_10_code
def yX3_countTorn : MethodName := ⟨RX3, "countTorn", "()I"⟩
abbrev cX3_twineForAll : ByteArray := prog_5_method_11_code
def yX3_twineForAll : MethodName := ⟨RX3, "twineForAll", "()I"⟩
abbrev cX3_countWholeWithin : ByteArray := prog_5_method_12_code
def yX3_countWholeWithin : MethodName := ⟨RX3, "countWholeWithin", "(I)I"⟩
abbrev cX3_chapterAt : ByteArray := prog_5_method_13_code
def yX3_chapterAt : MethodName := ⟨RX3, "chapterAt", "(I)I"⟩
abbrev cX3_countChapters : ByteArray := prog_5_method_14_code
def yX3_countChapters : MethodName := ⟨RX3, "countChapters", "()I"⟩
abbrev cX3_countChaptersByStrings : ByteArray := prog_5_method_15_code
def yX3_countChaptersByStrings : MethodName := ⟨RX3, "countChaptersByStrings", "(LNetScript$Parts;)I"⟩
abbrev cX3_greatestChapter : ByteArray := prog_5_method_16_code
def yX3_greatestChapter : MethodName := ⟨RX3, "greatestChapter", "(I)I"⟩
abbrev cX3_chapterRanked : ByteArray := prog_5_method_17_code
def yX3_chapterRanked : MethodName := ⟨RX3, "chapterRanked", "(I)I"⟩
abbrev cX3_knotsJoinedBy : ByteArray := prog_5_method_18_code
def yX3_knotsJoinedBy : MethodName := ⟨RX3, "knotsJoinedBy", "(II)I"⟩
abbrev cX3_bestTornString : ByteArray := prog_5_method_19_code
def yX3_bestTornString : MethodName := ⟨RX3, "bestTornString", "(Z)I"⟩
abbrev cX3_hasStringOutOf : ByteArray := prog_5_method_20_code
def yX3_hasStringOutOf : MethodName := ⟨RX3, "hasStringOutOf", "(I)Z"⟩
abbrev cX3_leastByStrings : ByteArray := prog_5_method_21_code
def yX3_leastByStrings : MethodName := ⟨RX3, "leastByStrings", "(ILNetScript$Parts;)I"⟩
abbrev cX3_leastByPlaces : ByteArray := prog_5_method_22_code
def yX3_leastByPlaces : MethodName := ⟨RX3, "leastByPlaces", "(I)I"⟩
abbrev cX3_writeLine : ByteArray := prog_5_method_23_code
def yX3_writeLine : MethodName := ⟨RX3, "writeLine", "(ILNetScript$Line;)V"⟩
def RX4 : String := "NetScript$Note"
def TX4 : u_T := fun k => match k with
  | 0 => ("NetScript$Note", "net", "I", false)
  | 1 => ("NetScript$Note", "oddKinds", "I", false)
  | _ => ("NetScript$Note", "highKinds", "I", false)
def tyX4 : Nat → FieldType := fun k => match k with
  | 0 => .int
  | 1 => .int
  | _ => .int
abbrev wsX40 : List Cond := u_ws RX4 TX4 3
theorem nmX4 : ∀ a, a < 3 → ∀ b, b < 3 → a ≠ b → (TX4 a).2.1 ≠ (TX4 b).2.1 := by decide +kernel
theorem tyX4_ok : ∀ k, k < 3 → parseFieldDescriptor (TX4 k).2.2.1 = some (tyX4 k) := by decide +kernel
abbrev cX4_init : ByteArray := prog_6_method_1_code
def yX4_init : MethodName := ⟨RX4, "<init>", "()V"⟩
abbrev cX4_copyFrom : ByteArray := prog_6_method_2_code
def yX4_copyFrom : MethodName := ⟨RX4, "copyFrom", "(LNetScript$Note;)V"⟩
abbrev cX4_places : ByteArray := prog_6_method_3_code
def yX4_places : MethodName := ⟨RX4, "places", "()I"⟩
abbrev cX4_isOf : ByteArray := prog_6_method_4_code
def yX4_isOf : MethodName := ⟨RX4, "isOf", "(LNetScript$Net;I)Z"⟩
def RX5 : String := "NetScript$Parts"
def TX5 : u_T := fun k => match k with
  | _ => ("NetScript$Parts", "partOf", "[I", true)
def tyX5 : Nat → FieldType := fun k => match k with
  | _ => .array .int
abbrev wsX50 : List Cond := u_ws RX5 TX5 1
theorem nmX5 : ∀ a, a < 1 → ∀ b, b < 1 → a ≠ b → (TX5 a).2.1 ≠ (TX5 b).2.1 := by decide +kernel
theorem tyX5_ok : ∀ k, k < 1 → parseFieldDescriptor (TX5 k).2.2.1 = some (tyX5 k) := by decide +kernel
abbrev cX5_init : ByteArray := prog_7_method_1_code
def yX5_init : MethodName := ⟨RX5, "<init>", "()V"⟩
abbrev cX5_separate : ByteArray := prog_7_method_2_code
def yX5_separate : MethodName := ⟨RX5, "separate", "()V"⟩
abbrev cX5_joinAll : ByteArray := prog_7_method_3_code
def yX5_joinAll : MethodName := ⟨RX5, "joinAll", "(II)I"⟩
abbrev cX5_join : ByteArray := prog_7_method_4_code
def yX5_join : MethodName := ⟨RX5, "join", "(II)Z"⟩
def RX6 : String := "NetScript$Refusal"
def TX6 : u_T := fun k => match k with
  | 0 => ("NetScript$Refusal", "reason", "I", false)
  | 1 => ("NetScript$Refusal", "detail", "I", false)
  | 2 => ("NetScript$Refusal", "reasonBehind", "I", false)
  | _ => ("NetScript$Refusal", "detailBehind", "I", false)
def tyX6 : Nat → FieldType := fun k => match k with
  | 0 => .int
  | 1 => .int
  | 2 => .int
  | _ => .int
abbrev wsX60 : List Cond := u_ws RX6 TX6 4
theorem nmX6 : ∀ a, a < 4 → ∀ b, b < 4 → a ≠ b → (TX6 a).2.1 ≠ (TX6 b).2.1 := by decide +kernel
theorem tyX6_ok : ∀ k, k < 4 → parseFieldDescriptor (TX6 k).2.2.1 = some (tyX6 k) := by decide +kernel
abbrev cX6_init : ByteArray := prog_8_method_1_code
def yX6_init : MethodName := ⟨RX6, "<init>", "()V"⟩
abbrev cX6_keepAlone : ByteArray := prog_8_method_2_code
def yX6_keepAlone : MethodName := ⟨RX6, "keepAlone", "(II)V"⟩
abbrev cX6_keepOrder : ByteArray := prog_8_method_3_code
def yX6_keepOrder : MethodName := ⟨RX6, "keepOrder", "(III)V"⟩
def RX7 : String := "NetScript$Script"
def TX7 : u_T := fun k => match k with
  | 0 => ("NetScript$Script", "tape", "[C", true)
  | 1 => ("NetScript$Script", "length", "I", false)
  | 2 => ("NetScript$Script", "position", "I", false)
  | 3 => ("NetScript$Script", "words", "[I", true)
  | 4 => ("NetScript$Script", "numbers", "[[I", true)
  | _ => ("NetScript$Script", "orderCount", "I", false)
def tyX7 : Nat → FieldType := fun k => match k with
  | 0 => .array .char
  | 1 => .int
  | 2 => .int
  | 3 => .array .int
  | 4 => .array (.array .int)
  | _ => .int
abbrev wsX70 : List Cond := u_ws RX7 TX7 6
theorem nmX7 : ∀ a, a < 6 → ∀ b, b < 6 → a ≠ b → (TX7 a).2.1 ≠ (TX7 b).2.1 := by decide +kernel
theorem tyX7_ok : ∀ k, k < 6 → parseFieldDescriptor (TX7 k).2.2.1 = some (tyX7 k) := by decide +kernel
abbrev cX7_init : ByteArray := prog_9_method_1_code
def yX7_init : MethodName := ⟨RX7, "<init>", "()V"⟩
abbrev cX7_isFull : ByteArray := prog_9_method_2_code
def yX7_isFull : MethodName := ⟨RX7, "isFull", "()Z"⟩
abbrev cX7_append : ByteArray := prog_9_method_3_code
def yX7_append : MethodName := ⟨RX7, "append", "(C)V"⟩
abbrev cX7_clear : ByteArray := prog_9_method_4_code
def yX7_clear : MethodName := ⟨RX7, "clear", "()V"⟩
abbrev cX7_wordAt : ByteArray := prog_9_method_5_code
def yX7_wordAt : MethodName := ⟨RX7, "wordAt", "(I)I"⟩
abbrev cX7_putWord : ByteArray := prog_9_method_6_code
def yX7_putWord : MethodName := ⟨RX7, "putWord", "(II)V"⟩
abbrev cX7_numberAt : ByteArray := prog_9_method_7_code
def yX7_numberAt : MethodName := ⟨RX7, "numberAt", "(II)I"⟩
abbrev cX7_putNumber : ByteArray := prog_9_method_8_code
def yX7_putNumber : MethodName := ⟨RX7, "putNumber", "(III)V"⟩
abbrev cX7_findFault : ByteArray := prog_9_method_9_code
def yX7_findFault : MethodName := ⟨RX7, "findFault", "()I"⟩
abbrev cX7_readOrder : ByteArray := prog_9_method_10_code
def yX7_readOrder : MethodName := ⟨RX7, "readOrder", "(I)Z"⟩
abbrev cX7_formOf : ByteArray := prog_9_method_11_code
def yX7_formOf : MethodName := ⟨RX7, "formOf", "(I)Ljava/lang/String;"⟩
abbrev cX7_readForm : ByteArray := prog_9_method_12_code
def yX7_readForm : MethodName := ⟨RX7, "readForm", "(Ljava/lang/String;I)Z"⟩
abbrev cX7_readNumber : ByteArray := prog_9_method_13_code
def yX7_readNumber : MethodName := ⟨RX7, "readNumber", "(Z)I"⟩
abbrev cX7_isInText : ByteArray := prog_9_method_14_code
def yX7_isInText : MethodName := ⟨RX7, "isInText", "()Z"⟩
abbrev cX7_isNext : ByteArray := prog_9_method_15_code
def yX7_isNext : MethodName := ⟨RX7, "isNext", "(C)Z"⟩
abbrev cX7_isDigitNext : ByteArray := prog_9_method_16_code
def yX7_isDigitNext : MethodName := ⟨RX7, "isDigitNext", "()Z"⟩
def RX8 : String := "NetScript$State"
def TX8 : u_T := fun k => match k with
  | 0 => ("NetScript$State", "nets", "[LNetScript$Net;", true)
  | 1 => ("NetScript$State", "editors", "[LNetScript$Editor;", true)
  | 2 => ("NetScript$State", "notes", "[LNetScript$Note;", true)
  | 3 => ("NetScript$State", "editorCount", "I", false)
  | 4 => ("NetScript$State", "noteCount", "I", false)
  | 5 => ("NetScript$State", "tide", "I", false)
  | 6 => ("NetScript$State", "tornSoFar", "I", false)
  | 7 => ("NetScript$State", "mendedSoFar", "I", false)
  | _ => ("NetScript$State", "twineUsed", "I", false)
def tyX8 : Nat → FieldType := fun k => match k with
  | 0 => .array (.object "NetScript$Net")
  | 1 => .array (.object "NetScript$Editor")
  | 2 => .array (.object "NetScript$Note")
  | 3 => .int
  | 4 => .int
  | 5 => .int
  | 6 => .int
  | 7 => .int
  | _ => .int
abbrev wsX80 : List Cond := u_ws RX8 TX8 9
theorem nmX8 : ∀ a, a < 9 → ∀ b, b < 9 → a ≠ b → (TX8 a).2.1 ≠ (TX8 b).2.1 := by decide +kernel
theorem tyX8_ok : ∀ k, k < 9 → parseFieldDescriptor (TX8 k).2.2.1 = some (tyX8 k) := by decide +kernel
abbrev cX8_init : ByteArray := prog_10_method_1_code
def yX8_init : MethodName := ⟨RX8, "<init>", "()V"⟩
abbrev cX8_copyFrom : ByteArray := prog_10_method_2_code
def yX8_copyFrom : MethodName := ⟨RX8, "copyFrom", "(LNetScript$State;)V"⟩
abbrev cX8_netNumbered : ByteArray := prog_10_method_3_code
def yX8_netNumbered : MethodName := ⟨RX8, "netNumbered", "(I)LNetScript$Net;"⟩
abbrev cX8_editorNumbered : ByteArray := prog_10_method_4_code
def yX8_editorNumbered : MethodName := ⟨RX8, "editorNumbered", "(I)LNetScript$Editor;"⟩
abbrev cX8_noteNumbered : ByteArray := prog_10_method_5_code
def yX8_noteNumbered : MethodName := ⟨RX8, "noteNumbered", "(I)LNetScript$Note;"⟩
abbrev cX8_hasEditor : ByteArray := prog_10_method_6_code
def yX8_hasEditor : MethodName := ⟨RX8, "hasEditor", "(I)Z"⟩
abbrev cX8_hasNote : ByteArray := prog_10_method_7_code
def yX8_hasNote : MethodName := ⟨RX8, "hasNote", "(I)Z"⟩
abbrev cX8_tearString : ByteArray := prog_10_method_8_code
def yX8_tearString : MethodName := ⟨RX8, "tearString", "(III)V"⟩
abbrev cX8_mendString : ByteArray := prog_10_method_9_code
def yX8_mendString : MethodName := ⟨RX8, "mendString", "(IIII)V"⟩
abbrev cX8_addEditor : ByteArray := prog_10_method_10_code
def yX8_addEditor : MethodName := ⟨RX8, "addEditor", "(I)V"⟩
abbrev cX8_addNote : ByteArray := prog_10_method_11_code
def yX8_addNote : MethodName := ⟨RX8, "addNote", "(II)V"⟩
abbrev cX8_removeNote : ByteArray := prog_10_method_12_code
def yX8_removeNote : MethodName := ⟨RX8, "removeNote", "(I)V"⟩
abbrev cX8_lowestNoteOf : ByteArray := prog_10_method_13_code
def yX8_lowestNoteOf : MethodName := ⟨RX8, "lowestNoteOf", "(II)I"⟩
abbrev cX8_readsAsNoted : ByteArray := prog_10_method_14_code
def yX8_readsAsNoted : MethodName := ⟨RX8, "readsAsNoted", "(LNetScript$Note;)Z"⟩
abbrev cX8_canBeMended : ByteArray := prog_10_method_15_code
def yX8_canBeMended : MethodName := ⟨RX8, "canBeMended", "(LNetScript$Note;)Z"⟩
abbrev cX8_leastByStrings : ByteArray := prog_10_method_16_code
def yX8_leastByStrings : MethodName := ⟨RX8, "leastByStrings", "(LNetScript$Note;LNetScript$Parts;)I"⟩
abbrev cX8_leastByPlaces : ByteArray := prog_10_method_17_code
def yX8_leastByPlaces : MethodName := ⟨RX8, "leastByPlaces", "(LNetScript$Note;)I"⟩
abbrev cX8_linesUnderWater : ByteArray := prog_10_method_18_code
def yX8_linesUnderWater : MethodName := ⟨RX8, "linesUnderWater", "(I)I"⟩
abbrev cX8_dryPlaces : ByteArray := prog_10_method_19_code
def yX8_dryPlaces : MethodName := ⟨RX8, "dryPlaces", "(I)I"⟩
abbrev cX8_countKnots : ByteArray := prog_10_method_20_code
def yX8_countKnots : MethodName := ⟨RX8, "countKnots", "()I"⟩
abbrev cX8_countReadable : ByteArray := prog_10_method_21_code
def yX8_countReadable : MethodName := ⟨RX8, "countReadable", "()I"⟩
abbrev cX8_countAllChapters : ByteArray := prog_10_method_22_code
def yX8_countAllChapters : MethodName := ⟨RX8, "countAllChapters", "()I"⟩
abbrev cX8_countTorn : ByteArray := prog_10_method_23_code
def yX8_countTorn : MethodName := ⟨RX8, "countTorn", "()I"⟩
abbrev cX8_sumTwine : ByteArray := prog_10_method_24_code
def yX8_sumTwine : MethodName := ⟨RX8, "sumTwine", "()I"⟩
abbrev cX8_countAsNoted : ByteArray := prog_10_method_25_code
def yX8_countAsNoted : MethodName := ⟨RX8, "countAsNoted", "()I"⟩
abbrev cX8_areChaptersToldAlike : ByteArray := prog_10_method_26_code
def yX8_areChaptersToldAlike : MethodName := ⟨RX8, "areChaptersToldAlike", "(LNetScript$Parts;)Z"⟩
abbrev cX8_areNotesToldAlike : ByteArray := prog_10_method_27_code
def yX8_areNotesToldAlike : MethodName := ⟨RX8, "areNotesToldAlike", "(LNetScript$Parts;)Z"⟩
def RX9 : String := "NetScript"
def TX9 : u_T := fun k => match k with
  | 0 => ("NetScript", "now", "LNetScript$State;", true)
  | 1 => ("NetScript", "beforeRun", "LNetScript$State;", true)
  | 2 => ("NetScript", "saved", "LNetScript$State;", true)
  | 3 => ("NetScript", "isSaved", "Z", false)
  | 4 => ("NetScript", "history", "LNetScript$History;", true)
  | 5 => ("NetScript", "parts", "LNetScript$Parts;", true)
  | 6 => ("NetScript", "script", "LNetScript$Script;", true)
  | 7 => ("NetScript", "written", "LNetScript$Line;", true)
  | 8 => ("NetScript", "refusal", "LNetScript$Refusal;", true)
  | 9 => ("NetScript", "foundDetail", "I", false)
  | _ => ("NetScript", "lastFault", "I", false)
def tyX9 : Nat → FieldType := fun k => match k with
  | 0 => .object "NetScript$State"
  | 1 => .object "NetScript$State"
  | 2 => .object "NetScript$State"
  | 3 => .boolean
  | 4 => .object "NetScript$History"
  | 5 => .object "NetScript$Parts"
  | 6 => .object "NetScript$Script"
  | 7 => .object "NetScript$Line"
  | 8 => .object "NetScript$Refusal"
  | 9 => .int
  | _ => .int
abbrev wsX90 : List Cond := u_ws RX9 TX9 11
theorem nmX9 : ∀ a, a < 11 → ∀ b, b < 11 → a ≠ b → (TX9 a).2.1 ≠ (TX9 b).2.1 := by decide +kernel
theorem tyX9_ok : ∀ k, k < 11 → parseFieldDescriptor (TX9 k).2.2.1 = some (tyX9 k) := by decide +kernel
abbrev cX9_init : ByteArray := prog_1_method_1_code
def yX9_init : MethodName := ⟨RX9, "<init>", "()V"⟩
abbrev cX9_knot : ByteArray := prog_1_method_2_code
def yX9_knot : MethodName := ⟨RX9, "knot", "(III)I"⟩
abbrev cX9_tear : ByteArray := prog_1_method_3_code
def yX9_tear : MethodName := ⟨RX9, "tear", "(III)I"⟩
abbrev cX9_mend : ByteArray := prog_1_method_4_code
def yX9_mend : MethodName := ⟨RX9, "mend", "(IIII)I"⟩
abbrev cX9_editor : ByteArray := prog_1_method_5_code
def yX9_editor : MethodName := ⟨RX9, "editor", "(I)I"⟩
abbrev cX9_tide : ByteArray := prog_1_method_6_code
def yX9_tide : MethodName := ⟨RX9, "tide", "(I)I"⟩
abbrev cX9_sink : ByteArray := prog_1_method_7_code
def yX9_sink : MethodName := ⟨RX9, "sink", "(II)I"⟩
abbrev cX9_note : ByteArray := prog_1_method_8_code
def yX9_note : MethodName := ⟨RX9, "note", "(II)I"⟩
abbrev cX9_drop : ByteArray := prog_1_method_9_code
def yX9_drop : MethodName := ⟨RX9, "drop", "(I)I"⟩
abbrev cX9_kindOf : ByteArray := prog_1_method_10_code
def yX9_kindOf : MethodName := ⟨RX9, "kindOf", "(II)I"⟩
abbrev cX9_isTorn : ByteArray := prog_1_method_11_code
def yX9_isTorn : MethodName := ⟨RX9, "isTorn", "(III)Z"⟩
abbrev cX9_netOf : ByteArray := prog_1_method_12_code
def yX9_netOf : MethodName := ⟨RX9, "netOf", "(II)I"⟩
abbrev cX9_chapters : ByteArray := prog_1_method_13_code
def yX9_chapters : MethodName := ⟨RX9, "chapters", "(I)I"⟩
abbrev cX9_chaptersAgain : ByteArray := prog_1_method_14_code
def yX9_chaptersAgain : MethodName := ⟨RX9, "chaptersAgain", "(I)I"⟩
abbrev cX9_chapterOf : ByteArray := prog_1_method_15_code
def yX9_chapterOf : MethodName := ⟨RX9, "chapterOf", "(III)I"⟩
abbrev cX9_noteOf : ByteArray := prog_1_method_16_code
def yX9_noteOf : MethodName := ⟨RX9, "noteOf", "(II)I"⟩
abbrev cX9_least : ByteArray := prog_1_method_17_code
def yX9_least : MethodName := ⟨RX9, "least", "(I)I"⟩
abbrev cX9_leastAgain : ByteArray := prog_1_method_18_code
def yX9_leastAgain : MethodName := ⟨RX9, "leastAgain", "(I)I"⟩
abbrev cX9_bestMend : ByteArray := prog_1_method_19_code
def yX9_bestMend : MethodName := ⟨RX9, "bestMend", "(IZ)I"⟩
abbrev cX9_ranked : ByteArray := prog_1_method_20_code
def yX9_ranked : MethodName := ⟨RX9, "ranked", "(II)I"⟩
abbrev cX9_editorOf : ByteArray := prog_1_method_21_code
def yX9_editorOf : MethodName := ⟨RX9, "editorOf", "(II)I"⟩
abbrev cX9_feed : ByteArray := prog_1_method_22_code
def yX9_feed : MethodName := ⟨RX9, "feed", "(C)I"⟩
abbrev cX9_run : ByteArray := prog_1_method_23_code
def yX9_run : MethodName := ⟨RX9, "run", "()I"⟩
abbrev cX9_line : ByteArray := prog_1_method_26_code
def yX9_line : MethodName := ⟨RX9, "line", "(II)I"⟩
abbrev cX9_chapterLine : ByteArray := prog_1_method_27_code
def yX9_chapterLine : MethodName := ⟨RX9, "chapterLine", "(II)I"⟩
abbrev cX9_noteLine : ByteArray := prog_1_method_28_code
def yX9_noteLine : MethodName := ⟨RX9, "noteLine", "(I)I"⟩
abbrev cX9_meanKnots : ByteArray := prog_1_method_30_code
def yX9_meanKnots : MethodName := ⟨RX9, "meanKnots", "()D"⟩
abbrev cX9_readShare : ByteArray := prog_1_method_31_code
def yX9_readShare : MethodName := ⟨RX9, "readShare", "()F"⟩
abbrev cX9_account : ByteArray := prog_1_method_32_code
def yX9_account : MethodName := ⟨RX9, "account", "(I)I"⟩
abbrev cX9_isBalanced : ByteArray := prog_1_method_33_code
def yX9_isBalanced : MethodName := ⟨RX9, "isBalanced", "()Z"⟩
abbrev cX9_undo : ByteArray := prog_1_method_34_code
def yX9_undo : MethodName := ⟨RX9, "undo", "()I"⟩
abbrev cX9_save : ByteArray := prog_1_method_35_code
def yX9_save : MethodName := ⟨RX9, "save", "()I"⟩
abbrev cX9_restore : ByteArray := prog_1_method_36_code
def yX9_restore : MethodName := ⟨RX9, "restore", "()I"⟩
abbrev cX9_keepsReason : ByteArray := prog_1_method_37_code
def yX9_keepsReason : MethodName := ⟨RX9, "keepsReason", "(I)Z"⟩
abbrev cX9_found : ByteArray := prog_1_method_38_code
def yX9_found : MethodName := ⟨RX9, "found", "(II)I"⟩
abbrev cX9_reasonAgainstKnot : ByteArray := prog_1_method_39_code
def yX9_reasonAgainstKnot : MethodName := ⟨RX9, "reasonAgainstKnot", "(III)I"⟩
abbrev cX9_reasonAgainstEnds : ByteArray := prog_1_method_40_code
def yX9_reasonAgainstEnds : MethodName := ⟨RX9, "reasonAgainstEnds", "(III)I"⟩
abbrev cX9_reasonAgainstString : ByteArray := prog_1_method_41_code
def yX9_reasonAgainstString : MethodName := ⟨RX9, "reasonAgainstString", "(IIIZ)I"⟩
abbrev cX9_reasonAgainstTear : ByteArray := prog_1_method_42_code
def yX9_reasonAgainstTear : MethodName := ⟨RX9, "reasonAgainstTear", "(III)I"⟩
abbrev cX9_reasonAgainstMend : ByteArray := prog_1_method_43_code
def yX9_reasonAgainstMend : MethodName := ⟨RX9, "reasonAgainstMend", "(IIII)I"⟩
abbrev cX9_reasonAgainstEditor : ByteArray := prog_1_method_44_code
def yX9_reasonAgainstEditor : MethodName := ⟨RX9, "reasonAgainstEditor", "(I)I"⟩
abbrev cX9_reasonAgainstTide : ByteArray := prog_1_method_45_code
def yX9_reasonAgainstTide : MethodName := ⟨RX9, "reasonAgainstTide", "(I)I"⟩
abbrev cX9_reasonAgainstSink : ByteArray := prog_1_method_46_code
def yX9_reasonAgainstSink : MethodName := ⟨RX9, "reasonAgainstSink", "(II)I"⟩
abbrev cX9_reasonAgainstNote : ByteArray := prog_1_method_47_code
def yX9_reasonAgainstNote : MethodName := ⟨RX9, "reasonAgainstNote", "(II)I"⟩
abbrev cX9_reasonAgainstDrop : ByteArray := prog_1_method_48_code
def yX9_reasonAgainstDrop : MethodName := ⟨RX9, "reasonAgainstDrop", "(I)I"⟩
abbrev cX9_reasonAgainstOrder : ByteArray := prog_1_method_49_code
def yX9_reasonAgainstOrder : MethodName := ⟨RX9, "reasonAgainstOrder", "(I)I"⟩
abbrev cX9_doOrder : ByteArray := prog_1_method_50_code
def yX9_doOrder : MethodName := ⟨RX9, "doOrder", "(I)V"⟩
abbrev cX9_isNet : ByteArray := prog_1_method_51_code
def yX9_isNet : MethodName := ⟨RX9, "isNet", "(I)Z"⟩
abbrev cX9_isPlace : ByteArray := prog_1_method_52_code
def yX9_isPlace : MethodName := ⟨RX9, "isPlace", "(I)Z"⟩
abbrev cX9_areBeside : ByteArray := prog_1_method_53_code
def yX9_areBeside : MethodName := ⟨RX9, "areBeside", "(II)Z"⟩
abbrev cX9_isAcross : ByteArray := prog_1_method_54_code
def yX9_isAcross : MethodName := ⟨RX9, "isAcross", "(II)Z"⟩
abbrev cX9_twineFor : ByteArray := prog_1_method_55_code
def yX9_twineFor : MethodName := ⟨RX9, "twineFor", "(II)I"⟩
abbrev cX9_isIn : ByteArray := prog_1_method_56_code
def yX9_isIn : MethodName := ⟨RX9, "isIn", "(II)Z"⟩
abbrev cX9_with : ByteArray := prog_1_method_57_code
def yX9_with : MethodName := ⟨RX9, "with", "(IIZ)I"⟩
abbrev cX9_lowestPlace : ByteArray := prog_1_method_58_code
def yX9_lowestPlace : MethodName := ⟨RX9, "lowestPlace", "(I)I"⟩
abbrev cX9_beside : ByteArray := prog_1_method_59_code
def yX9_beside : MethodName := ⟨RX9, "beside", "(III)I"⟩
abbrev cX9_within : ByteArray := prog_1_method_60_code
def yX9_within : MethodName := ⟨RX9, "within", "(III)I"⟩
abbrev cX9_letterOf : ByteArray := prog_1_method_61_code
def yX9_letterOf : MethodName := ⟨RX9, "letterOf", "(I)C"⟩
def RX10 : String := "NetScriptModel"
def TX10 : u_T := fun k => match k with
  | _ => ("", "", "", false)
def tyX10 : Nat → FieldType := fun k => match k with
  | _ => .int
abbrev wsX100 : List Cond := u_ws RX10 TX10 0
theorem nmX10 : ∀ a, a < 0 → ∀ b, b < 0 → a ≠ b → (TX10 a).2.1 ≠ (TX10 b).2.1 := by decide +kernel
theorem tyX10_ok : ∀ k, k < 0 → parseFieldDescriptor (TX10 k).2.2.1 = some (tyX10 k) := by decide +kernel
def RJx145de : String := "java/io/Serializable"
def TJx145de : u_T := fun k => match k with
  | _ => ("", "", "", false)
def tyJx145de : Nat → FieldType := fun k => match k with
  | _ => .int
abbrev wsJx145de0 : List Cond := u_ws RJx145de TJx145de 0
theorem nmJx145de : ∀ a, a < 0 → ∀ b, b < 0 → a ≠ b → (TJx145de a).2.1 ≠ (TJx145de b).2.1 := by decide +kernel
theorem tyJx145de_ok : ∀ k, k < 0 → parseFieldDescriptor (TJx145de k).2.2.1 = some (tyJx145de k) := by decide +kernel
def RJ5 : String := "java/lang/AbstractStringBuilder"
def TJ5 : u_T := fun k => match k with
  | _ => ("", "", "", false)
def tyJ5 : Nat → FieldType := fun k => match k with
  | _ => .int
abbrev wsJ50 : List Cond := u_ws RJ5 TJ5 0
theorem nmJ5 : ∀ a, a < 0 → ∀ b, b < 0 → a ≠ b → (TJ5 a).2.1 ≠ (TJ5 b).2.1 := by decide +kernel
theorem tyJ5_ok : ∀ k, k < 0 → parseFieldDescriptor (TJ5 k).2.2.1 = some (tyJ5 k) := by decide +kernel
abbrev cJ5_init_d00df : ByteArray := prog_14_method_2_code
def yJ5_init_d00df : MethodName := ⟨RJ5, "<init>", "(I)V"⟩
abbrev cJ5_length_8abf5 : ByteArray := prog_14_method_6_code
def yJ5_length_8abf5 : MethodName := ⟨RJ5, "length", "()I"⟩
abbrev cJ5_ensureCapacityInternal_d00df : ByteArray := prog_14_method_9_code
def yJ5_ensureCapacityInternal_d00df : MethodName := ⟨RJ5, "ensureCapacityInternal", "(I)V"⟩
abbrev cJ5_newCapacity_0f7a4 : ByteArray := prog_14_method_10_code
def yJ5_newCapacity_0f7a4 : MethodName := ⟨RJ5, "newCapacity", "(I)I"⟩
abbrev cJ5_inflate_da8c8 : ByteArray := prog_14_method_11_code
def yJ5_inflate_da8c8 : MethodName := ⟨RJ5, "inflate", "()V"⟩
abbrev cJ5_append_cf1ce : ByteArray := prog_14_method_22_code
def yJ5_append_cf1ce : MethodName := ⟨RJ5, "append", "(Ljava/lang/String;)Ljava/lang/AbstractStringBuilder;"⟩
abbrev cJ5_appendNull_278bc : ByteArray := prog_14_method_26_code
def yJ5_appendNull_278bc : MethodName := ⟨RJ5, "appendNull", "()Ljava/lang/AbstractStringBuilder;"⟩
abbrev cJ5_append_c97b9 : ByteArray := prog_14_method_32_code
def yJ5_append_c97b9 : MethodName := ⟨RJ5, "append", "(I)Ljava/lang/AbstractStringBuilder;"⟩
abbrev cJ5_getValue_6d5f1 : ByteArray := prog_14_method_64_code
def yJ5_getValue_6d5f1 : MethodName := ⟨RJ5, "getValue", "()[B"⟩
abbrev cJ5_isLatin1_aae02 : ByteArray := prog_14_method_68_code
def yJ5_isLatin1_aae02 : MethodName := ⟨RJ5, "isLatin1", "()Z"⟩
abbrev cJ5_inflateIfNeededFor_a7421 : ByteArray := prog_14_method_71_code
def yJ5_inflateIfNeededFor_a7421 : MethodName := ⟨RJ5, "inflateIfNeededFor", "(Ljava/lang/String;)V"⟩
abbrev cJ5_putStringAt_47b60 : ByteArray := prog_14_method_73_code
def yJ5_putStringAt_47b60 : MethodName := ⟨RJ5, "putStringAt", "(ILjava/lang/String;)V"⟩
def RJx2cfe8 : String := "java/lang/Appendable"
def TJx2cfe8 : u_T := fun k => match k with
  | _ => ("", "", "", false)
def tyJx2cfe8 : Nat → FieldType := fun k => match k with
  | _ => .int
abbrev wsJx2cfe80 : List Cond := u_ws RJx2cfe8 TJx2cfe8 0
theorem nmJx2cfe8 : ∀ a, a < 0 → ∀ b, b < 0 → a ≠ b → (TJx2cfe8 a).2.1 ≠ (TJx2cfe8 b).2.1 := by decide +kernel
theorem tyJx2cfe8_ok : ∀ k, k < 0 → parseFieldDescriptor (TJx2cfe8 k).2.2.1 = some (tyJx2cfe8 k) := by decide +kernel
def RJx00060 : String := "java/lang/ArrayIndexOutOfBoundsException"
def TJx00060 : u_T := fun k => match k with
  | 0 => ("java/lang/Throwable", "backtrace", "Ljava/lang/Object;", false)
  | 1 => ("java/lang/Throwable", "detailMessage", "Ljava/lang/String;", false)
  | 2 => ("java/lang/Throwable", "cause", "Ljava/lang/Throwable;", false)
  | 3 => ("java/lang/Throwable", "stackTrace", "[Ljava/lang/StackTraceElement;", false)
  | 4 => ("java/lang/Throwable", "depth", "I", false)
  | _ => ("java/lang/Throwable", "suppressedExceptions", "Ljava/util/List;", false)
def tyJx00060 : Nat → FieldType := fun k => match k with
  | 0 => .object "java/lang/Object"
  | 1 => .object "java/lang/String"
  | 2 => .object "java/lang/Throwable"
  | 3 => .array (.object "java/lang/StackTraceElement")
  | 4 => .int
  | _ => .object "java/util/List"
abbrev wsJx000600 : List Cond := u_ws RJx00060 TJx00060 6
theorem nmJx00060 : ∀ a, a < 6 → ∀ b, b < 6 → a ≠ b → (TJx00060 a).2.1 ≠ (TJx00060 b).2.1 := by decide +kernel
theorem tyJx00060_ok : ∀ k, k < 6 → parseFieldDescriptor (TJx00060 k).2.2.1 = some (tyJx00060 k) := by decide +kernel
abbrev cJx00060_init_a7421 : ByteArray := prog_17_method_2_code
def yJx00060_init_a7421 : MethodName := ⟨RJx00060, "<init>", "(Ljava/lang/String;)V"⟩
def RJx9f9b0 : String := "java/lang/CharSequence"
def TJx9f9b0 : u_T := fun k => match k with
  | _ => ("", "", "", false)
def tyJx9f9b0 : Nat → FieldType := fun k => match k with
  | _ => .int
abbrev wsJx9f9b00 : List Cond := u_ws RJx9f9b0 TJx9f9b0 0
theorem nmJx9f9b0 : ∀ a, a < 0 → ∀ b, b < 0 → a ≠ b → (TJx9f9b0 a).2.1 ≠ (TJx9f9b0 b).2.1 := by decide +kernel
theorem tyJx9f9b0_ok : ∀ k, k < 0 → parseFieldDescriptor (TJx9f9b0 k).2.2.1 = some (tyJx9f9b0 k) := by decide +kernel
def RJx8e188 : String := "java/lang/Cloneable"
def TJx8e188 : u_T := fun k => match k with
  | _ => ("", "", "", false)
def tyJx8e188 : Nat → FieldType := fun k => match k with
  | _ => .int
abbrev wsJx8e1880 : List Cond := u_ws RJx8e188 TJx8e188 0
theorem nmJx8e188 : ∀ a, a < 0 → ∀ b, b < 0 → a ≠ b → (TJx8e188 a).2.1 ≠ (TJx8e188 b).2.1 := by decide +kernel
theorem tyJx8e188_ok : ∀ k, k < 0 → parseFieldDescriptor (TJx8e188 k).2.2.1 = some (tyJx8e188 k) := by decide +kernel
def RJxb160c : String := "java/lang/Comparable"
def TJxb160c : u_T := fun k => match k with
  | _ => ("", "", "", false)
def tyJxb160c : Nat → FieldType := fun k => match k with
  | _ => .int
abbrev wsJxb160c0 : List Cond := u_ws RJxb160c TJxb160c 0
theorem nmJxb160c : ∀ a, a < 0 → ∀ b, b < 0 → a ≠ b → (TJxb160c a).2.1 ≠ (TJxb160c b).2.1 := by decide +kernel
theorem tyJxb160c_ok : ∀ k, k < 0 → parseFieldDescriptor (TJxb160c k).2.2.1 = some (tyJxb160c k) := by decide +kernel
def RJ6 : String := "java/lang/Integer"
def TJ6 : u_T := fun k => match k with
  | _ => ("", "", "", false)
def tyJ6 : Nat → FieldType := fun k => match k with
  | _ => .int
abbrev wsJ60 : List Cond := u_ws RJ6 TJ6 0
theorem nmJ6 : ∀ a, a < 0 → ∀ b, b < 0 → a ≠ b → (TJ6 a).2.1 ≠ (TJ6 b).2.1 := by decide +kernel
theorem tyJ6_ok : ∀ k, k < 0 → parseFieldDescriptor (TJ6 k).2.2.1 = some (tyJ6 k) := by decide +kernel
abbrev cJ6_getChars_ba4f3 : ByteArray := prog_25_method_12_code
def yJ6_getChars_ba4f3 : MethodName := ⟨RJ6, "getChars", "(II[B)I"⟩
abbrev cJ6_stringSize_0f7a4 : ByteArray := prog_25_method_13_code
def yJ6_stringSize_0f7a4 : MethodName := ⟨RJ6, "stringSize", "(I)I"⟩
abbrev cJ6_bitCount_0f7a4 : ByteArray := prog_25_method_49_code
def yJ6_bitCount_0f7a4 : MethodName := ⟨RJ6, "bitCount", "(I)I"⟩
def RJ9 : String := "java/lang/Math"
def TJ9 : u_T := fun k => match k with
  | _ => ("", "", "", false)
def tyJ9 : Nat → FieldType := fun k => match k with
  | _ => .int
abbrev wsJ90 : List Cond := u_ws RJ9 TJ9 0
theorem nmJ9 : ∀ a, a < 0 → ∀ b, b < 0 → a ≠ b → (TJ9 a).2.1 ≠ (TJ9 b).2.1 := by decide +kernel
theorem tyJ9_ok : ∀ k, k < 0 → parseFieldDescriptor (TJ9 k).2.2.1 = some (tyJ9 k) := by decide +kernel
abbrev cJ9_floorMod_7cf53 : ByteArray := prog_26_method_50_code
def yJ9_floorMod_7cf53 : MethodName := ⟨RJ9, "floorMod", "(II)I"⟩
abbrev cJ9_max_7cf53 : ByteArray := prog_26_method_65_code
def yJ9_max_7cf53 : MethodName := ⟨RJ9, "max", "(II)I"⟩
abbrev cJ9_min_7cf53 : ByteArray := prog_26_method_69_code
def yJ9_min_7cf53 : MethodName := ⟨RJ9, "min", "(II)I"⟩
def RJxd2413 : String := "java/lang/Number"
def TJxd2413 : u_T := fun k => match k with
  | _ => ("", "", "", false)
def tyJxd2413 : Nat → FieldType := fun k => match k with
  | _ => .int
abbrev wsJxd24130 : List Cond := u_ws RJxd2413 TJxd2413 0
theorem nmJxd2413 : ∀ a, a < 0 → ∀ b, b < 0 → a ≠ b → (TJxd2413 a).2.1 ≠ (TJxd2413 b).2.1 := by decide +kernel
theorem tyJxd2413_ok : ∀ k, k < 0 → parseFieldDescriptor (TJxd2413 k).2.2.1 = some (tyJxd2413 k) := by decide +kernel
def RJ0 : String := "java/lang/String"
def TJ0 : u_T := fun k => match k with
  | 0 => ("java/lang/String", "value", "[B", true)
  | 1 => ("java/lang/String", "coder", "B", true)
  | 2 => ("java/lang/String", "hash", "I", false)
  | _ => ("java/lang/String", "hashIsZero", "Z", false)
def tyJ0 : Nat → FieldType := fun k => match k with
  | 0 => .array .byte
  | 1 => .byte
  | 2 => .int
  | _ => .boolean
abbrev wsJ00 : List Cond := u_ws RJ0 TJ0 4
theorem nmJ0 : ∀ a, a < 4 → ∀ b, b < 4 → a ≠ b → (TJ0 a).2.1 ≠ (TJ0 b).2.1 := by decide +kernel
theorem tyJ0_ok : ∀ k, k < 4 → parseFieldDescriptor (TJ0 k).2.2.1 = some (tyJ0 k) := by decide +kernel
abbrev cJ0_init_81219 : ByteArray := prog_29_method_53_code
def yJ0_init_81219 : MethodName := ⟨RJ0, "<init>", "(Ljava/lang/StringBuilder;)V"⟩
abbrev cJ0_length_8abf5 : ByteArray := prog_29_method_54_code
def yJ0_length_8abf5 : MethodName := ⟨RJ0, "length", "()I"⟩
abbrev cJ0_charAt_5068e : ByteArray := prog_29_method_56_code
def yJ0_charAt_5068e : MethodName := ⟨RJ0, "charAt", "(I)C"⟩
abbrev cJ0_getBytes_840e7 : ByteArray := prog_29_method_147_code
def yJ0_getBytes_840e7 : MethodName := ⟨RJ0, "getBytes", "([BIB)V"⟩
abbrev cJ0_init_db425 : ByteArray := prog_29_method_150_code
def yJ0_init_db425 : MethodName := ⟨RJ0, "<init>", "(Ljava/lang/AbstractStringBuilder;Ljava/lang/Void;)V"⟩
abbrev cJ0_coder_7d493 : ByteArray := prog_29_method_152_code
def yJ0_coder_7d493 : MethodName := ⟨RJ0, "coder", "()B"⟩
abbrev cJ0_isLatin1_aae02 : ByteArray := prog_29_method_154_code
def yJ0_isLatin1_aae02 : MethodName := ⟨RJ0, "isLatin1", "()Z"⟩
abbrev cJ0_checkIndex_df160 : ByteArray := prog_29_method_155_code
def yJ0_checkIndex_df160 : MethodName := ⟨RJ0, "checkIndex", "(II)V"⟩
abbrev cJ0_checkBoundsOffCount_cabcc : ByteArray := prog_29_method_157_code
def yJ0_checkBoundsOffCount_cabcc : MethodName := ⟨RJ0, "checkBoundsOffCount", "(III)I"⟩
abbrev cJ0_checkBoundsBeginEnd_23922 : ByteArray := prog_29_method_158_code
def yJ0_checkBoundsBeginEnd_23922 : MethodName := ⟨RJ0, "checkBoundsBeginEnd", "(III)V"⟩
def RJ4 : String := "java/lang/StringBuilder"
def TJ4 : u_T := fun k => match k with
  | 0 => ("java/lang/AbstractStringBuilder", "value", "[B", false)
  | 1 => ("java/lang/AbstractStringBuilder", "coder", "B", false)
  | 2 => ("java/lang/AbstractStringBuilder", "maybeLatin1", "Z", false)
  | _ => ("java/lang/AbstractStringBuilder", "count", "I", false)
def tyJ4 : Nat → FieldType := fun k => match k with
  | 0 => .array .byte
  | 1 => .byte
  | 2 => .boolean
  | _ => .int
abbrev wsJ40 : List Cond := u_ws RJ4 TJ4 4
theorem nmJ4 : ∀ a, a < 4 → ∀ b, b < 4 → a ≠ b → (TJ4 a).2.1 ≠ (TJ4 b).2.1 := by decide +kernel
theorem tyJ4_ok : ∀ k, k < 4 → parseFieldDescriptor (TJ4 k).2.2.1 = some (tyJ4 k) := by decide +kernel
abbrev cJ4_init_da8c8 : ByteArray := prog_30_method_1_code
def yJ4_init_da8c8 : MethodName := ⟨RJ4, "<init>", "()V"⟩
abbrev cJ4_append_15ec4 : ByteArray := prog_30_method_7_code
def yJ4_append_15ec4 : MethodName := ⟨RJ4, "append", "(Ljava/lang/String;)Ljava/lang/StringBuilder;"⟩
abbrev cJ4_append_bf812 : ByteArray := prog_30_method_15_code
def yJ4_append_bf812 : MethodName := ⟨RJ4, "append", "(I)Ljava/lang/StringBuilder;"⟩
abbrev cJ4_toString_0e30d : ByteArray := prog_30_method_42_code
def yJ4_toString_0e30d : MethodName := ⟨RJ4, "toString", "()Ljava/lang/String;"⟩
abbrev cJ4_length_8abf5 : ByteArray := prog_30_method_93_code
def yJ4_length_8abf5 : MethodName := ⟨RJ4, "length", "()I"⟩
def RJ1 : String := "java/lang/StringLatin1"
def TJ1 : u_T := fun k => match k with
  | _ => ("", "", "", false)
def tyJ1 : Nat → FieldType := fun k => match k with
  | _ => .int
abbrev wsJ10 : List Cond := u_ws RJ1 TJ1 0
theorem nmJ1 : ∀ a, a < 0 → ∀ b, b < 0 → a ≠ b → (TJ1 a).2.1 ≠ (TJ1 b).2.1 := by decide +kernel
theorem tyJ1_ok : ∀ k, k < 0 → parseFieldDescriptor (TJ1 k).2.2.1 = some (tyJ1 k) := by decide +kernel
abbrev cJ1_charAt_3b067 : ByteArray := prog_31_method_2_code
def yJ1_charAt_3b067 : MethodName := ⟨RJ1, "charAt", "([BI)C"⟩
abbrev cJ1_inflate_0e8fd : ByteArray := prog_31_method_50_code
def yJ1_inflate_0e8fd : MethodName := ⟨RJ1, "inflate", "([BI[BII)V"⟩
def RJ2 : String := "java/lang/StringUTF16"
def TJ2 : u_T := fun k => match k with
  | _ => ("", "", "", false)
def tyJ2 : Nat → FieldType := fun k => match k with
  | _ => .int
abbrev wsJ20 : List Cond := u_ws RJ2 TJ2 0
theorem nmJ2 : ∀ a, a < 0 → ∀ b, b < 0 → a ≠ b → (TJ2 a).2.1 ≠ (TJ2 b).2.1 := by decide +kernel
theorem tyJ2_ok : ∀ k, k < 0 → parseFieldDescriptor (TJ2 k).2.2.1 = some (tyJ2 k) := by decide +kernel
abbrev cJ2_newBytesFor_77867 : ByteArray := prog_32_method_2_code
def yJ2_newBytesFor_77867 : MethodName := ⟨RJ2, "newBytesFor", "(I)[B"⟩
abbrev cJ2_newBytesLength_0f7a4 : ByteArray := prog_32_method_3_code
def yJ2_newBytesLength_0f7a4 : MethodName := ⟨RJ2, "newBytesLength", "(I)I"⟩
abbrev cJ2_putChar_b72d1 : ByteArray := prog_32_method_4_code
def yJ2_putChar_b72d1 : MethodName := ⟨RJ2, "putChar", "([BII)V"⟩
abbrev cJ2_getChar_3b067 : ByteArray := prog_32_method_5_code
def yJ2_getChar_3b067 : MethodName := ⟨RJ2, "getChar", "([BI)C"⟩
abbrev cJ2_length_9d52b : ByteArray := prog_32_method_6_code
def yJ2_length_9d52b : MethodName := ⟨RJ2, "length", "([B)I"⟩
abbrev cJ2_coderFromArrayLen_85cad : ByteArray := prog_32_method_15_code
def yJ2_coderFromArrayLen_85cad : MethodName := ⟨RJ2, "coderFromArrayLen", "([BI)B"⟩
abbrev cJ2_compress_39247 : ByteArray := prog_32_method_17_code
def yJ2_compress_39247 : MethodName := ⟨RJ2, "compress", "([BII)[B"⟩
abbrev cJ2_compress_5af95 : ByteArray := prog_32_method_22_code
def yJ2_compress_5af95 : MethodName := ⟨RJ2, "compress", "([BI[BII)I"⟩
abbrev cJ2_getChars_46870 : ByteArray := prog_32_method_77_code
def yJ2_getChars_46870 : MethodName := ⟨RJ2, "getChars", "(III[B)I"⟩
abbrev cJ2_putCharsAt_cd4e5 : ByteArray := prog_32_method_81_code
def yJ2_putCharsAt_cd4e5 : MethodName := ⟨RJ2, "putCharsAt", "([BICCCC)I"⟩
abbrev cJ2_charAt_3b067 : ByteArray := prog_32_method_83_code
def yJ2_charAt_3b067 : MethodName := ⟨RJ2, "charAt", "([BI)C"⟩
abbrev cJ2_inflate_0e8fd : ByteArray := prog_32_method_86_code
def yJ2_inflate_0e8fd : MethodName := ⟨RJ2, "inflate", "([BI[BII)V"⟩
abbrev cJ2_getChars_ba4f3 : ByteArray := prog_32_method_89_code
def yJ2_getChars_ba4f3 : MethodName := ⟨RJ2, "getChars", "(II[B)I"⟩
abbrev cJ2_checkIndex_2214a : ByteArray := prog_32_method_91_code
def yJ2_checkIndex_2214a : MethodName := ⟨RJ2, "checkIndex", "(I[B)V"⟩
abbrev cJ2_checkBoundsBeginEnd_d044e : ByteArray := prog_32_method_93_code
def yJ2_checkBoundsBeginEnd_d044e : MethodName := ⟨RJ2, "checkBoundsBeginEnd", "(II[B)V"⟩
abbrev cJ2_checkBoundsOffCount_d044e : ByteArray := prog_32_method_94_code
def yJ2_checkBoundsOffCount_d044e : MethodName := ⟨RJ2, "checkBoundsOffCount", "(II[B)V"⟩
def RJ10 : String := "java/lang/System"
def TJ10 : u_T := fun k => match k with
  | _ => ("", "", "", false)
def tyJ10 : Nat → FieldType := fun k => match k with
  | _ => .int
abbrev wsJ100 : List Cond := u_ws RJ10 TJ10 0
theorem nmJ10 : ∀ a, a < 0 → ∀ b, b < 0 → a ≠ b → (TJ10 a).2.1 ≠ (TJ10 b).2.1 := by decide +kernel
theorem tyJ10_ok : ∀ k, k < 0 → parseFieldDescriptor (TJ10 k).2.2.1 = some (tyJ10 k) := by decide +kernel
def RJxfd54e : String := "java/lang/constant/Constable"
def TJxfd54e : u_T := fun k => match k with
  | _ => ("", "", "", false)
def tyJxfd54e : Nat → FieldType := fun k => match k with
  | _ => .int
abbrev wsJxfd54e0 : List Cond := u_ws RJxfd54e TJxfd54e 0
theorem nmJxfd54e : ∀ a, a < 0 → ∀ b, b < 0 → a ≠ b → (TJxfd54e a).2.1 ≠ (TJxfd54e b).2.1 := by decide +kernel
theorem tyJxfd54e_ok : ∀ k, k < 0 → parseFieldDescriptor (TJxfd54e k).2.2.1 = some (tyJxfd54e k) := by decide +kernel
def RJx3cf43 : String := "java/lang/constant/ConstantDesc"
def TJx3cf43 : u_T := fun k => match k with
  | _ => ("", "", "", false)
def tyJx3cf43 : Nat → FieldType := fun k => match k with
  | _ => .int
abbrev wsJx3cf430 : List Cond := u_ws RJx3cf43 TJx3cf43 0
theorem nmJx3cf43 : ∀ a, a < 0 → ∀ b, b < 0 → a ≠ b → (TJx3cf43 a).2.1 ≠ (TJx3cf43 b).2.1 := by decide +kernel
theorem tyJx3cf43_ok : ∀ k, k < 0 → parseFieldDescriptor (TJx3cf43 k).2.2.1 = some (tyJx3cf43 k) := by decide +kernel
def RJ7 : String := "java/util/Arrays"
def TJ7 : u_T := fun k => match k with
  | _ => ("", "", "", false)
def tyJ7 : Nat → FieldType := fun k => match k with
  | _ => .int
abbrev wsJ70 : List Cond := u_ws RJ7 TJ7 0
theorem nmJ7 : ∀ a, a < 0 → ∀ b, b < 0 → a ≠ b → (TJ7 a).2.1 ≠ (TJ7 b).2.1 := by decide +kernel
theorem tyJ7_ok : ∀ k, k < 0 → parseFieldDescriptor (TJ7 k).2.2.1 = some (tyJ7 k) := by decide +kernel
abbrev cJ7_copyOf_9075b : ByteArray := prog_38_method_121_code
def yJ7_copyOf_9075b : MethodName := ⟨RJ7, "copyOf", "([BI)[B"⟩
abbrev cJ7_checkLength_df160 : ByteArray := prog_38_method_131_code
def yJ7_checkLength_df160 : MethodName := ⟨RJ7, "checkLength", "(II)V"⟩
abbrev cJ7_copyOfRange_39247 : ByteArray := prog_38_method_132_code
def yJ7_copyOfRange_39247 : MethodName := ⟨RJ7, "copyOfRange", "([BII)[B"⟩
abbrev cJ7_copyOfRangeByte_39247 : ByteArray := prog_38_method_133_code
def yJ7_copyOfRangeByte_39247 : MethodName := ⟨RJ7, "copyOfRangeByte", "([BII)[B"⟩
def RJ8 : String := "jdk/internal/util/ArraysSupport"
def TJ8 : u_T := fun k => match k with
  | _ => ("", "", "", false)
def tyJ8 : Nat → FieldType := fun k => match k with
  | _ => .int
abbrev wsJ80 : List Cond := u_ws RJ8 TJ8 0
theorem nmJ8 : ∀ a, a < 0 → ∀ b, b < 0 → a ≠ b → (TJ8 a).2.1 ≠ (TJ8 b).2.1 := by decide +kernel
theorem tyJ8_ok : ∀ k, k < 0 → parseFieldDescriptor (TJ8 k).2.2.1 = some (tyJ8 k) := by decide +kernel
abbrev cJ8_newLength_cabcc : ByteArray := prog_40_method_27_code
def yJ8_newLength_cabcc : MethodName := ⟨RJ8, "newLength", "(III)I"⟩
abbrev cJ8_hugeLength_7cf53 : ByteArray := prog_40_method_28_code
def yJ8_hugeLength_7cf53 : MethodName := ⟨RJ8, "hugeLength", "(II)I"⟩
def RJ3 : String := "jdk/internal/util/Preconditions"
def TJ3 : u_T := fun k => match k with
  | _ => ("", "", "", false)
def tyJ3 : Nat → FieldType := fun k => match k with
  | _ => .int
abbrev wsJ30 : List Cond := u_ws RJ3 TJ3 0
theorem nmJ3 : ∀ a, a < 0 → ∀ b, b < 0 → a ≠ b → (TJ3 a).2.1 ≠ (TJ3 b).2.1 := by decide +kernel
theorem tyJ3_ok : ∀ k, k < 0 → parseFieldDescriptor (TJ3 k).2.2.1 = some (tyJ3 k) := by decide +kernel
abbrev cJ3_checkIndex_8e157 : ByteArray := prog_41_method_11_code
def yJ3_checkIndex_8e157 : MethodName := ⟨RJ3, "checkIndex", "(IILjava/util/function/BiFunction;)I"⟩
abbrev cJ3_checkFromToIndex_8c36e : ByteArray := prog_41_method_12_code
def yJ3_checkFromToIndex_8c36e : MethodName := ⟨RJ3, "checkFromToIndex", "(IIILjava/util/function/BiFunction;)I"⟩
abbrev cJ3_checkFromIndexSize_8c36e : ByteArray := prog_41_method_13_code
def yJ3_checkFromIndexSize_8c36e : MethodName := ⟨RJ3, "checkFromIndexSize", "(IIILjava/util/function/BiFunction;)I"⟩
def RL : String := "NetScriptLaw"
abbrev cL_cell : ByteArray := method_2_code
def yL_cell : MethodName := ⟨RL, "cell", "([II)I"⟩
abbrev cL_pick : ByteArray := method_3_code
def yL_pick : MethodName := ⟨RL, "pick", "([III)I"⟩
abbrev cL_knot : ByteArray := method_4_code
def yL_knot : MethodName := ⟨RL, "knot", "(LNetScript;III)I"⟩
abbrev cL_tear : ByteArray := method_5_code
def yL_tear : MethodName := ⟨RL, "tear", "(LNetScript;III)I"⟩
abbrev cL_mend : ByteArray := method_6_code
def yL_mend : MethodName := ⟨RL, "mend", "(LNetScript;IIII)I"⟩
abbrev cL_editor : ByteArray := method_7_code
def yL_editor : MethodName := ⟨RL, "editor", "(LNetScript;I)I"⟩
abbrev cL_tide : ByteArray := method_8_code
def yL_tide : MethodName := ⟨RL, "tide", "(LNetScript;I)I"⟩
abbrev cL_sink : ByteArray := method_9_code
def yL_sink : MethodName := ⟨RL, "sink", "(LNetScript;II)I"⟩
abbrev cL_note : ByteArray := method_10_code
def yL_note : MethodName := ⟨RL, "note", "(LNetScript;II)I"⟩
abbrev cL_drop : ByteArray := method_11_code
def yL_drop : MethodName := ⟨RL, "drop", "(LNetScript;I)I"⟩
abbrev cL_kindOf : ByteArray := method_12_code
def yL_kindOf : MethodName := ⟨RL, "kindOf", "(LNetScript;II)I"⟩
abbrev cL_torn : ByteArray := method_13_code
def yL_torn : MethodName := ⟨RL, "torn", "(LNetScript;III)I"⟩
abbrev cL_netOf : ByteArray := method_14_code
def yL_netOf : MethodName := ⟨RL, "netOf", "(LNetScript;II)I"⟩
abbrev cL_chapters : ByteArray := method_15_code
def yL_chapters : MethodName := ⟨RL, "chapters", "(LNetScript;I)I"⟩
abbrev cL_chaptersAgain : ByteArray := method_16_code
def yL_chaptersAgain : MethodName := ⟨RL, "chaptersAgain", "(LNetScript;I)I"⟩
abbrev cL_chapterOf : ByteArray := method_17_code
def yL_chapterOf : MethodName := ⟨RL, "chapterOf", "(LNetScript;III)I"⟩
abbrev cL_noteOf : ByteArray := method_18_code
def yL_noteOf : MethodName := ⟨RL, "noteOf", "(LNetScript;II)I"⟩
abbrev cL_least : ByteArray := method_19_code
def yL_least : MethodName := ⟨RL, "least", "(LNetScript;I)I"⟩
abbrev cL_leastAgain : ByteArray := method_20_code
def yL_leastAgain : MethodName := ⟨RL, "leastAgain", "(LNetScript;I)I"⟩
abbrev cL_bestMend : ByteArray := method_21_code
def yL_bestMend : MethodName := ⟨RL, "bestMend", "(LNetScript;IZ)I"⟩
abbrev cL_ranked : ByteArray := method_22_code
def yL_ranked : MethodName := ⟨RL, "ranked", "(LNetScript;II)I"⟩
abbrev cL_editorOf : ByteArray := method_23_code
def yL_editorOf : MethodName := ⟨RL, "editorOf", "(LNetScript;II)I"⟩
abbrev cL_feed : ByteArray := method_24_code
def yL_feed : MethodName := ⟨RL, "feed", "(LNetScript;C)I"⟩
abbrev cL_run : ByteArray := method_25_code
def yL_run : MethodName := ⟨RL, "run", "(LNetScript;)I"⟩
abbrev cL_line : ByteArray := method_28_code
def yL_line : MethodName := ⟨RL, "line", "(LNetScript;II)I"⟩
abbrev cL_chapterLine : ByteArray := method_29_code
def yL_chapterLine : MethodName := ⟨RL, "chapterLine", "(LNetScript;II)I"⟩
abbrev cL_noteLine : ByteArray := method_30_code
def yL_noteLine : MethodName := ⟨RL, "noteLine", "(LNetScript;I)I"⟩
abbrev cL_meanKnots : ByteArray := method_32_code
def yL_meanKnots : MethodName := ⟨RL, "meanKnots", "(LNetScript;)D"⟩
abbrev cL_readShare : ByteArray := method_33_code
def yL_readShare : MethodName := ⟨RL, "readShare", "(LNetScript;)F"⟩
abbrev cL_account : ByteArray := method_34_code
def yL_account : MethodName := ⟨RL, "account", "(LNetScript;I)I"⟩
abbrev cL_undo : ByteArray := method_35_code
def yL_undo : MethodName := ⟨RL, "undo", "(LNetScript;)I"⟩
abbrev cL_restore : ByteArray := method_36_code
def yL_restore : MethodName := ⟨RL, "restore", "(LNetScript;)I"⟩
abbrev cL_reads : ByteArray := method_37_code
def yL_reads : MethodName := ⟨RL, "reads", "(LNetScript;Ljava/lang/String;)I"⟩
abbrev cL_law : ByteArray := code
def yL_law : MethodName := ⟨RL, "law", "([I)Z"⟩
abbrev cL_does : ByteArray := method_42_code
def yL_does : MethodName := ⟨RL, "does", "([IIILNetScript;II)I"⟩
abbrev cL_sum : ByteArray := method_43_code
def yL_sum : MethodName := ⟨RL, "sum", "(LNetScript;)J"⟩
abbrev cL_isNet : ByteArray := method_44_code
def yL_isNet : MethodName := ⟨RL, "isNet", "(LNetScript;II)Z"⟩
abbrev cL_isWhole : ByteArray := method_45_code
def yL_isWhole : MethodName := ⟨RL, "isWhole", "(LNetScript;II)Z"⟩
abbrev cL_isKept : ByteArray := method_46_code
def yL_isKept : MethodName := ⟨RL, "isKept", "(LNetScript;[JI)Z"⟩
abbrev vwCl : List vw_C := [(RJ0, TJ0, 4), (RJ4, TJ4, 4), (RJx00060, TJx00060, 6), (RX0, TX0, 2), (RX1, TX1, 3), (RX2, TX2, 2), (RX3, TX3, 5), (RX4, TX4, 3), (RX5, TX5, 1), (RX6, TX6, 4), (RX7, TX7, 6), (RX8, TX8, 9), (RX9, TX9, 11)]
end
section
theorem dX0_init_0 : decode cX0_init 0 = .ok (.aload_n 0, 1) := by decide +kernel
theorem dX0_init_1 : decode cX0_init 1 = .ok (.invokespecial 1, 3) := by decide +kernel
theorem dX0_init_4 : decode cX0_init 4 = .ok (.aload_n 0, 1) := by decide +kernel
theorem dX0_init_5 : decode cX0_init 5 = .ok (.iconst 0, 1) := by decide +kernel
theorem dX0_init_6 : decode cX0_init 6 = .ok (.putfield 7, 3) := by decide +kernel
theorem dX0_init_9 : decode cX0_init 9 = .ok (.aload_n 0, 1) := by decide +kernel
theorem dX0_init_10 : decode cX0_init 10 = .ok (.iconst 0, 1) := by decide +kernel
theorem dX0_init_11 : decode cX0_init 11 = .ok (.putfield 13, 3) := by decide +kernel
theorem dX0_init_14 : decode cX0_init 14 = .ok (.return_, 1) := by decide +kernel
theorem dX0_copyFrom_0 : decode cX0_copyFrom 0 = .ok (.aload_n 0, 1) := by decide +kernel
theorem dX0_copyFrom_1 : decode cX0_copyFrom 1 = .ok (.aload_n 1, 1) := by decide +kernel
theorem dX0_copyFrom_2 : decode cX0_copyFrom 2 = .ok (.getfield 7, 3) := by decide +kernel
theorem dX0_copyFrom_5 : decode cX0_copyFrom 5 = .ok (.putfield 7, 3) := by decide +kernel
theorem dX0_copyFrom_8 : decode cX0_copyFrom 8 = .ok (.aload_n 0, 1) := by decide +kernel
theorem dX0_copyFrom_9 : decode cX0_copyFrom 9 = .ok (.aload_n 1, 1) := by decide +kernel
theorem dX0_copyFrom_10 : decode cX0_copyFrom 10 = .ok (.getfield 13, 3) := by decide +kernel
theorem dX0_copyFrom_13 : decode cX0_copyFrom 13 = .ok (.putfield 13, 3) := by decide +kernel
theorem dX0_copyFrom_16 : decode cX0_copyFrom 16 = .ok (.return_, 1) := by decide +kernel
theorem dX1_init_0 : decode cX1_init 0 = .ok (.aload_n 0, 1) := by decide +kernel
theorem dX1_init_1 : decode cX1_init 1 = .ok (.invokespecial 3, 3) := by decide +kernel
theorem dX1_init_4 : decode cX1_init 4 = .ok (.aload_n 0, 1) := by decide +kernel
theorem dX1_init_5 : decode cX1_init 5 = .ok (.bipush 8, 2) := by decide +kernel
theorem dX1_init_7 : decode cX1_init 7 = .ok (.anewarray 9, 3) := by decide +kernel
theorem dX1_init_10 : decode cX1_init 10 = .ok (.putfield 11, 3) := by decide +kernel
theorem dX1_init_13 : decode cX1_init 13 = .ok (.aload_n 0, 1) := by decide +kernel
theorem dX1_init_14 : decode cX1_init 14 = .ok (.iconst 0, 1) := by decide +kernel
theorem dX1_init_15 : decode cX1_init 15 = .ok (.putfield 17, 3) := by decide +kernel
theorem dX1_init_18 : decode cX1_init 18 = .ok (.aload_n 0, 1) := by decide +kernel
theorem dX1_init_19 : decode cX1_init 19 = .ok (.iconst 0, 1) := by decide +kernel
theorem dX1_init_20 : decode cX1_init 20 = .ok (.putfield 21, 3) := by decide +kernel
theorem dX1_init_23 : decode cX1_init 23 = .ok (.iconst 0, 1) := by decide +kernel
theorem dX1_init_24 : decode cX1_init 24 = .ok (.istore_n 1, 1) := by decide +kernel
theorem dX1_init_25 : decode cX1_init 25 = .ok (.iload_n 1, 1) := by decide +kernel
theorem dX1_init_26 : decode cX1_init 26 = .ok (.bipush 8, 2) := by decide +kernel
theorem dX1_init_28 : decode cX1_init 28 = .ok (.if_icmp .ge 22, 3) := by decide +kernel
theorem dX1_init_31 : decode cX1_init 31 = .ok (.aload_n 0, 1) := by decide +kernel
theorem dX1_init_32 : decode cX1_init 32 = .ok (.getfield 11, 3) := by decide +kernel
theorem dX1_init_35 : decode cX1_init 35 = .ok (.iload_n 1, 1) := by decide +kernel
theorem dX1_init_36 : decode cX1_init 36 = .ok (.new 9, 3) := by decide +kernel
theorem dX1_init_39 : decode cX1_init 39 = .ok (.dup, 1) := by decide +kernel
theorem dX1_init_40 : decode cX1_init 40 = .ok (.invokespecial 24, 3) := by decide +kernel
theorem dX1_init_43 : decode cX1_init 43 = .ok (.aastore, 1) := by decide +kernel
theorem dX1_init_44 : decode cX1_init 44 = .ok (.iinc 1 1, 3) := by decide +kernel
theorem dX1_init_47 : decode cX1_init 47 = .ok (.goto (-22), 3) := by decide +kernel
theorem dX1_init_50 : decode cX1_init 50 = .ok (.return_, 1) := by decide +kernel
theorem dX1_push_0 : decode cX1_push 0 = .ok (.aload_n 0, 1) := by decide +kernel
theorem dX1_push_1 : decode cX1_push 1 = .ok (.getfield 11, 3) := by decide +kernel
theorem dX1_push_4 : decode cX1_push 4 = .ok (.aload_n 0, 1) := by decide +kernel
theorem dX1_push_5 : decode cX1_push 5 = .ok (.getfield 17, 3) := by decide +kernel
theorem dX1_push_8 : decode cX1_push 8 = .ok (.aload_n 0, 1) := by decide +kernel
theorem dX1_push_9 : decode cX1_push 9 = .ok (.getfield 21, 3) := by decide +kernel
theorem dX1_push_12 : decode cX1_push 12 = .ok (.iadd, 1) := by decide +kernel
theorem dX1_push_13 : decode cX1_push 13 = .ok (.bipush 8, 2) := by decide +kernel
theorem dX1_push_15 : decode cX1_push 15 = .ok (.invokestatic 25, 3) := by decide +kernel
theorem dX1_push_18 : decode cX1_push 18 = .ok (.aaload, 1) := by decide +kernel
theorem dX1_push_19 : decode cX1_push 19 = .ok (.aload_n 1, 1) := by decide +kernel
theorem dX1_push_20 : decode cX1_push 20 = .ok (.invokevirtual 31, 3) := by decide +kernel
theorem dX1_push_23 : decode cX1_push 23 = .ok (.aload_n 0, 1) := by decide +kernel
theorem dX1_push_24 : decode cX1_push 24 = .ok (.getfield 21, 3) := by decide +kernel
theorem dX1_push_27 : decode cX1_push 27 = .ok (.bipush 8, 2) := by decide +kernel
theorem dX1_push_29 : decode cX1_push 29 = .ok (.if_icmp .ge 16, 3) := by decide +kernel
theorem dX1_push_32 : decode cX1_push 32 = .ok (.aload_n 0, 1) := by decide +kernel
theorem dX1_push_33 : decode cX1_push 33 = .ok (.dup, 1) := by decide +kernel
theorem dX1_push_34 : decode cX1_push 34 = .ok (.getfield 21, 3) := by decide +kernel
theorem dX1_push_37 : decode cX1_push 37 = .ok (.iconst 1, 1) := by decide +kernel
theorem dX1_push_38 : decode cX1_push 38 = .ok (.iadd, 1) := by decide +kernel
theorem dX1_push_39 : decode cX1_push 39 = .ok (.putfield 21, 3) := by decide +kernel
theorem dX1_push_42 : decode cX1_push 42 = .ok (.goto 18, 3) := by decide +kernel
theorem dX1_push_45 : decode cX1_push 45 = .ok (.aload_n 0, 1) := by decide +kernel
theorem dX1_push_46 : decode cX1_push 46 = .ok (.aload_n 0, 1) := by decide +kernel
theorem dX1_push_47 : decode cX1_push 47 = .ok (.getfield 17, 3) := by decide +kernel
theorem dX1_push_50 : decode cX1_push 50 = .ok (.iconst 1, 1) := by decide +kernel
theorem dX1_push_51 : decode cX1_push 51 = .ok (.iadd, 1) := by decide +kernel
theorem dX1_push_52 : decode cX1_push 52 = .ok (.bipush 8, 2) := by decide +kernel
theorem dX1_push_54 : decode cX1_push 54 = .ok (.invokestatic 25, 3) := by decide +kernel
theorem dX1_push_57 : decode cX1_push 57 = .ok (.putfield 17, 3) := by decide +kernel
theorem dX1_push_60 : decode cX1_push 60 = .ok (.return_, 1) := by decide +kernel
theorem dX1_popInto_0 : decode cX1_popInto 0 = .ok (.aload_n 0, 1) := by decide +kernel
theorem dX1_popInto_1 : decode cX1_popInto 1 = .ok (.getfield 21, 3) := by decide +kernel
theorem dX1_popInto_4 : decode cX1_popInto 4 = .ok (.ifCond .le 36, 3) := by decide +kernel
theorem dX1_popInto_7 : decode cX1_popInto 7 = .ok (.aload_n 0, 1) := by decide +kernel
theorem dX1_popInto_8 : decode cX1_popInto 8 = .ok (.dup, 1) := by decide +kernel
theorem dX1_popInto_9 : decode cX1_popInto 9 = .ok (.getfield 21, 3) := by decide +kernel
theorem dX1_popInto_12 : decode cX1_popInto 12 = .ok (.iconst 1, 1) := by decide +kernel
theorem dX1_popInto_13 : decode cX1_popInto 13 = .ok (.isub, 1) := by decide +kernel
theorem dX1_popInto_14 : decode cX1_popInto 14 = .ok (.putfield 21, 3) := by decide +kernel
theorem dX1_popInto_17 : decode cX1_popInto 17 = .ok (.aload_n 1, 1) := by decide +kernel
theorem dX1_popInto_18 : decode cX1_popInto 18 = .ok (.aload_n 0, 1) := by decide +kernel
theorem dX1_popInto_19 : decode cX1_popInto 19 = .ok (.getfield 11, 3) := by decide +kernel
theorem dX1_popInto_22 : decode cX1_popInto 22 = .ok (.aload_n 0, 1) := by decide +kernel
theorem dX1_popInto_23 : decode cX1_popInto 23 = .ok (.getfield 17, 3) := by decide +kernel
theorem dX1_popInto_26 : decode cX1_popInto 26 = .ok (.aload_n 0, 1) := by decide +kernel
theorem dX1_popInto_27 : decode cX1_popInto 27 = .ok (.getfield 21, 3) := by decide +kernel
theorem dX1_popInto_30 : decode cX1_popInto 30 = .ok (.iadd, 1) := by decide +kernel
theorem dX1_popInto_31 : decode cX1_popInto 31 = .ok (.bipush 8, 2) := by decide +kernel
theorem dX1_popInto_33 : decode cX1_popInto 33 = .ok (.invokestatic 25, 3) := by decide +kernel
theorem dX1_popInto_36 : decode cX1_popInto 36 = .ok (.aaload, 1) := by decide +kernel
theorem dX1_popInto_37 : decode cX1_popInto 37 = .ok (.invokevirtual 31, 3) := by decide +kernel
theorem dX1_popInto_40 : decode cX1_popInto 40 = .ok (.return_, 1) := by decide +kernel
theorem dX1_clear_0 : decode cX1_clear 0 = .ok (.aload_n 0, 1) := by decide +kernel
theorem dX1_clear_1 : decode cX1_clear 1 = .ok (.iconst 0, 1) := by decide +kernel
theorem dX1_clear_2 : decode cX1_clear 2 = .ok (.putfield 21, 3) := by decide +kernel
theorem dX1_clear_5 : decode cX1_clear 5 = .ok (.return_, 1) := by decide +kernel
theorem dX2_init_0 : decode cX2_init 0 = .ok (.aload_n 0, 1) := by decide +kernel
theorem dX2_init_1 : decode cX2_init 1 = .ok (.invokespecial 3, 3) := by decide +kernel
theorem dX2_init_4 : decode cX2_init 4 = .ok (.aload_n 0, 1) := by decide +kernel
theorem dX2_init_5 : decode cX2_init 5 = .ok (.bipush 25, 2) := by decide +kernel
theorem dX2_init_7 : decode cX2_init 7 = .ok (.newarray .char, 2) := by decide +kernel
theorem dX2_init_9 : decode cX2_init 9 = .ok (.putfield 9, 3) := by decide +kernel
theorem dX2_init_12 : decode cX2_init 12 = .ok (.aload_n 0, 1) := by decide +kernel
theorem dX2_init_13 : decode cX2_init 13 = .ok (.iconst 0, 1) := by decide +kernel
theorem dX2_init_14 : decode cX2_init 14 = .ok (.putfield 15, 3) := by decide +kernel
theorem dX2_init_17 : decode cX2_init 17 = .ok (.return_, 1) := by decide +kernel
theorem dX2_clear_0 : decode cX2_clear 0 = .ok (.aload_n 0, 1) := by decide +kernel
theorem dX2_clear_1 : decode cX2_clear 1 = .ok (.iconst 0, 1) := by decide +kernel
theorem dX2_clear_2 : decode cX2_clear 2 = .ok (.putfield 15, 3) := by decide +kernel
theorem dX2_clear_5 : decode cX2_clear 5 = .ok (.return_, 1) := by decide +kernel
theorem dX2_append_0 : decode cX2_append 0 = .ok (.aload_n 0, 1) := by decide +kernel
theorem dX2_append_1 : decode cX2_append 1 = .ok (.getfield 15, 3) := by decide +kernel
theorem dX2_append_4 : decode cX2_append 4 = .ok (.ifCond .lt 32, 3) := by decide +kernel
theorem dX2_append_7 : decode cX2_append 7 = .ok (.aload_n 0, 1) := by decide +kernel
theorem dX2_append_8 : decode cX2_append 8 = .ok (.getfield 15, 3) := by decide +kernel
theorem dX2_append_11 : decode cX2_append 11 = .ok (.bipush 25, 2) := by decide +kernel
theorem dX2_append_13 : decode cX2_append 13 = .ok (.if_icmp .ge 23, 3) := by decide +kernel
theorem dX2_append_16 : decode cX2_append 16 = .ok (.aload_n 0, 1) := by decide +kernel
theorem dX2_append_17 : decode cX2_append 17 = .ok (.getfield 9, 3) := by decide +kernel
theorem dX2_append_20 : decode cX2_append 20 = .ok (.aload_n 0, 1) := by decide +kernel
theorem dX2_append_21 : decode cX2_append 21 = .ok (.getfield 15, 3) := by decide +kernel
theorem dX2_append_24 : decode cX2_append 24 = .ok (.iload_n 1, 1) := by decide +kernel
theorem dX2_append_25 : decode cX2_append 25 = .ok (.castore, 1) := by decide +kernel
theorem dX2_append_26 : decode cX2_append 26 = .ok (.aload_n 0, 1) := by decide +kernel
theorem dX2_append_27 : decode cX2_append 27 = .ok (.dup, 1) := by decide +kernel
theorem dX2_append_28 : decode cX2_append 28 = .ok (.getfield 15, 3) := by decide +kernel
theorem dX2_append_31 : decode cX2_append 31 = .ok (.iconst 1, 1) := by decide +kernel
theorem dX2_append_32 : decode cX2_append 32 = .ok (.iadd, 1) := by decide +kernel
theorem dX2_append_33 : decode cX2_append 33 = .ok (.putfield 15, 3) := by decide +kernel
theorem dX2_append_36 : decode cX2_append 36 = .ok (.return_, 1) := by decide +kernel
theorem dX2_appendKnots_0 : decode cX2_appendKnots 0 = .ok (.iconst 0, 1) := by decide +kernel
theorem dX2_appendKnots_1 : decode cX2_appendKnots 1 = .ok (.istore_n 3, 1) := by decide +kernel
theorem dX2_appendKnots_2 : decode cX2_appendKnots 2 = .ok (.iload_n 3, 1) := by decide +kernel
theorem dX2_appendKnots_3 : decode cX2_appendKnots 3 = .ok (.bipush 24, 2) := by decide +kernel
theorem dX2_appendKnots_5 : decode cX2_appendKnots 5 = .ok (.if_icmp .ge 52, 3) := by decide +kernel
theorem dX2_appendKnots_8 : decode cX2_appendKnots 8 = .ok (.iload_n 1, 1) := by decide +kernel
theorem dX2_appendKnots_9 : decode cX2_appendKnots 9 = .ok (.iload_n 3, 1) := by decide +kernel
theorem dX2_appendKnots_10 : decode cX2_appendKnots 10 = .ok (.invokestatic 19, 3) := by decide +kernel
theorem dX2_appendKnots_13 : decode cX2_appendKnots 13 = .ok (.ifCond .eq 7, 3) := by decide +kernel
theorem dX2_appendKnots_16 : decode cX2_appendKnots 16 = .ok (.iconst 1, 1) := by decide +kernel
theorem dX2_appendKnots_17 : decode cX2_appendKnots 17 = .ok (.goto 4, 3) := by decide +kernel
theorem dX2_appendKnots_20 : decode cX2_appendKnots 20 = .ok (.iconst 0, 1) := by decide +kernel
theorem dX2_appendKnots_21 : decode cX2_appendKnots 21 = .ok (.iload_n 2, 1) := by decide +kernel
theorem dX2_appendKnots_22 : decode cX2_appendKnots 22 = .ok (.iload_n 3, 1) := by decide +kernel
theorem dX2_appendKnots_23 : decode cX2_appendKnots 23 = .ok (.invokestatic 19, 3) := by decide +kernel
theorem dX2_appendKnots_26 : decode cX2_appendKnots 26 = .ok (.ifCond .eq 7, 3) := by decide +kernel
theorem dX2_appendKnots_29 : decode cX2_appendKnots 29 = .ok (.iconst 2, 1) := by decide +kernel
theorem dX2_appendKnots_30 : decode cX2_appendKnots 30 = .ok (.goto 4, 3) := by decide +kernel
theorem dX2_appendKnots_33 : decode cX2_appendKnots 33 = .ok (.iconst 0, 1) := by decide +kernel
theorem dX2_appendKnots_34 : decode cX2_appendKnots 34 = .ok (.iadd, 1) := by decide +kernel
theorem dX2_appendKnots_35 : decode cX2_appendKnots 35 = .ok (.istore 4, 2) := by decide +kernel
theorem dX2_appendKnots_37 : decode cX2_appendKnots 37 = .ok (.iload 4, 2) := by decide +kernel
theorem dX2_appendKnots_39 : decode cX2_appendKnots 39 = .ok (.ifCond .eq 12, 3) := by decide +kernel
theorem dX2_appendKnots_42 : decode cX2_appendKnots 42 = .ok (.aload_n 0, 1) := by decide +kernel
theorem dX2_appendKnots_43 : decode cX2_appendKnots 43 = .ok (.iload 4, 2) := by decide +kernel
theorem dX2_appendKnots_45 : decode cX2_appendKnots 45 = .ok (.invokestatic 23, 3) := by decide +kernel
theorem dX2_appendKnots_48 : decode cX2_appendKnots 48 = .ok (.invokevirtual 27, 3) := by decide +kernel
theorem dX2_appendKnots_51 : decode cX2_appendKnots 51 = .ok (.iinc 3 1, 3) := by decide +kernel
theorem dX2_appendKnots_54 : decode cX2_appendKnots 54 = .ok (.goto (-52), 3) := by decide +kernel
theorem dX2_appendKnots_57 : decode cX2_appendKnots 57 = .ok (.return_, 1) := by decide +kernel
theorem dX3_init_0 : decode cX3_init 0 = .ok (.aload_n 0, 1) := by decide +kernel
theorem dX3_init_1 : decode cX3_init 1 = .ok (.invokespecial 3, 3) := by decide +kernel
theorem dX3_init_4 : decode cX3_init 4 = .ok (.aload_n 0, 1) := by decide +kernel
theorem dX3_init_5 : decode cX3_init 5 = .ok (.iconst 0, 1) := by decide +kernel
theorem dX3_init_6 : decode cX3_init 6 = .ok (.putfield 9, 3) := by decide +kernel
theorem dX3_init_9 : decode cX3_init 9 = .ok (.aload_n 0, 1) := by decide +kernel
theorem dX3_init_10 : decode cX3_init 10 = .ok (.iconst 0, 1) := by decide +kernel
theorem dX3_init_11 : decode cX3_init 11 = .ok (.putfield 15, 3) := by decide +kernel
theorem dX3_init_14 : decode cX3_init 14 = .ok (.aload_n 0, 1) := by decide +kernel
theorem dX3_init_15 : decode cX3_init 15 = .ok (.iconst 0, 1) := by decide +kernel
theorem dX3_init_16 : decode cX3_init 16 = .ok (.putfield 18, 3) := by decide +kernel
theorem dX3_init_19 : decode cX3_init 19 = .ok (.aload_n 0, 1) := by decide +kernel
theorem dX3_init_20 : decode cX3_init 20 = .ok (.iconst 0, 1) := by decide +kernel
theorem dX3_init_21 : decode cX3_init 21 = .ok (.putfield 21, 3) := by decide +kernel
theorem dX3_init_24 : decode cX3_init 24 = .ok (.aload_n 0, 1) := by decide +kernel
theorem dX3_init_25 : decode cX3_init 25 = .ok (.iconst 0, 1) := by decide +kernel
theorem dX3_init_26 : decode cX3_init 26 = .ok (.putfield 24, 3) := by decide +kernel
theorem dX3_init_29 : decode cX3_init 29 = .ok (.return_, 1) := by decide +kernel
theorem dX3_copyFrom_0 : decode cX3_copyFrom 0 = .ok (.aload_n 0, 1) := by decide +kernel
theorem dX3_copyFrom_1 : decode cX3_copyFrom 1 = .ok (.aload_n 1, 1) := by decide +kernel
theorem dX3_copyFrom_2 : decode cX3_copyFrom 2 = .ok (.getfield 9, 3) := by decide +kernel
theorem dX3_copyFrom_5 : decode cX3_copyFrom 5 = .ok (.putfield 9, 3) := by decide +kernel
theorem dX3_copyFrom_8 : decode cX3_copyFrom 8 = .ok (.aload_n 0, 1) := by decide +kernel
theorem dX3_copyFrom_9 : decode cX3_copyFrom 9 = .ok (.aload_n 1, 1) := by decide +kernel
theorem dX3_copyFrom_10 : decode cX3_copyFrom 10 = .ok (.getfield 15, 3) := by decide +kernel
theorem dX3_copyFrom_13 : decode cX3_copyFrom 13 = .ok (.putfield 15, 3) := by decide +kernel
theorem dX3_copyFrom_16 : decode cX3_copyFrom 16 = .ok (.aload_n 0, 1) := by decide +kernel
theorem dX3_copyFrom_17 : decode cX3_copyFrom 17 = .ok (.aload_n 1, 1) := by decide +kernel
theorem dX3_copyFrom_18 : decode cX3_copyFrom 18 = .ok (.getfield 18, 3) := by decide +kernel
theorem dX3_copyFrom_21 : decode cX3_copyFrom 21 = .ok (.putfield 18, 3) := by decide +kernel
theorem dX3_copyFrom_24 : decode cX3_copyFrom 24 = .ok (.aload_n 0, 1) := by decide +kernel
theorem dX3_copyFrom_25 : decode cX3_copyFrom 25 = .ok (.aload_n 1, 1) := by decide +kernel
theorem dX3_copyFrom_26 : decode cX3_copyFrom 26 = .ok (.getfield 21, 3) := by decide +kernel
theorem dX3_copyFrom_29 : decode cX3_copyFrom 29 = .ok (.putfield 21, 3) := by decide +kernel
theorem dX3_copyFrom_32 : decode cX3_copyFrom 32 = .ok (.aload_n 0, 1) := by decide +kernel
theorem dX3_copyFrom_33 : decode cX3_copyFrom 33 = .ok (.aload_n 1, 1) := by decide +kernel
theorem dX3_copyFrom_34 : decode cX3_copyFrom 34 = .ok (.getfield 24, 3) := by decide +kernel
theorem dX3_copyFrom_37 : decode cX3_copyFrom 37 = .ok (.putfield 24, 3) := by decide +kernel
theorem dX3_copyFrom_40 : decode cX3_copyFrom 40 = .ok (.return_, 1) := by decide +kernel
theorem dX3_knots_0 : decode cX3_knots 0 = .ok (.aload_n 0, 1) := by decide +kernel
theorem dX3_knots_1 : decode cX3_knots 1 = .ok (.getfield 9, 3) := by decide +kernel
theorem dX3_knots_4 : decode cX3_knots 4 = .ok (.aload_n 0, 1) := by decide +kernel
theorem dX3_knots_5 : decode cX3_knots 5 = .ok (.getfield 15, 3) := by decide +kernel
theorem dX3_knots_8 : decode cX3_knots 8 = .ok (.ior, 1) := by decide +kernel
theorem dX3_knots_9 : decode cX3_knots 9 = .ok (.ireturn, 1) := by decide +kernel
theorem dX3_kindAt_0 : decode cX3_kindAt 0 = .ok (.aload_n 0, 1) := by decide +kernel
theorem dX3_kindAt_1 : decode cX3_kindAt 1 = .ok (.getfield 9, 3) := by decide +kernel
theorem dX3_kindAt_4 : decode cX3_kindAt 4 = .ok (.iload_n 1, 1) := by decide +kernel
theorem dX3_kindAt_5 : decode cX3_kindAt 5 = .ok (.invokestatic 27, 3) := by decide +kernel
theorem dX3_kindAt_8 : decode cX3_kindAt 8 = .ok (.ifCond .eq 7, 3) := by decide +kernel
theorem dX3_kindAt_11 : decode cX3_kindAt 11 = .ok (.iconst 1, 1) := by decide +kernel
theorem dX3_kindAt_12 : decode cX3_kindAt 12 = .ok (.goto 4, 3) := by decide +kernel
theorem dX3_kindAt_15 : decode cX3_kindAt 15 = .ok (.iconst 0, 1) := by decide +kernel
theorem dX3_kindAt_16 : decode cX3_kindAt 16 = .ok (.aload_n 0, 1) := by decide +kernel
theorem dX3_kindAt_17 : decode cX3_kindAt 17 = .ok (.getfield 15, 3) := by decide +kernel
theorem dX3_kindAt_20 : decode cX3_kindAt 20 = .ok (.iload_n 1, 1) := by decide +kernel
theorem dX3_kindAt_21 : decode cX3_kindAt 21 = .ok (.invokestatic 27, 3) := by decide +kernel
theorem dX3_kindAt_24 : decode cX3_kindAt 24 = .ok (.ifCond .eq 7, 3) := by decide +kernel
theorem dX3_kindAt_27 : decode cX3_kindAt 27 = .ok (.iconst 2, 1) := by decide +kernel
theorem dX3_kindAt_28 : decode cX3_kindAt 28 = .ok (.goto 4, 3) := by decide +kernel
theorem dX3_kindAt_31 : decode cX3_kindAt 31 = .ok (.iconst 0, 1) := by decide +kernel
theorem dX3_kindAt_32 : decode cX3_kindAt 32 = .ok (.iadd, 1) := by decide +kernel
theorem dX3_kindAt_33 : decode cX3_kindAt 33 = .ok (.ireturn, 1) := by decide +kernel
theorem dX3_tie_0 : decode cX3_tie 0 = .ok (.aload_n 0, 1) := by decide +kernel
theorem dX3_tie_1 : decode cX3_tie 1 = .ok (.aload_n 0, 1) := by decide +kernel
theorem dX3_tie_2 : decode cX3_tie 2 = .ok (.getfield 9, 3) := by decide +kernel
theorem dX3_tie_5 : decode cX3_tie 5 = .ok (.iload_n 1, 1) := by decide +kernel
theorem dX3_tie_6 : decode cX3_tie 6 = .ok (.iload_n 2, 1) := by decide +kernel
theorem dX3_tie_7 : decode cX3_tie 7 = .ok (.iconst 1, 1) := by decide +kernel
theorem dX3_tie_8 : decode cX3_tie 8 = .ok (.iand, 1) := by decide +kernel
theorem dX3_tie_9 : decode cX3_tie 9 = .ok (.ifCond .eq 7, 3) := by decide +kernel
theorem dX3_tie_12 : decode cX3_tie 12 = .ok (.iconst 1, 1) := by decide +kernel
theorem dX3_tie_13 : decode cX3_tie 13 = .ok (.goto 4, 3) := by decide +kernel
theorem dX3_tie_16 : decode cX3_tie 16 = .ok (.iconst 0, 1) := by decide +kernel
theorem dX3_tie_17 : decode cX3_tie 17 = .ok (.invokestatic 31, 3) := by decide +kernel
theorem dX3_tie_20 : decode cX3_tie 20 = .ok (.putfield 9, 3) := by decide +kernel
theorem dX3_tie_23 : decode cX3_tie 23 = .ok (.aload_n 0, 1) := by decide +kernel
theorem dX3_tie_24 : decode cX3_tie 24 = .ok (.aload_n 0, 1) := by decide +kernel
theorem dX3_tie_25 : decode cX3_tie 25 = .ok (.getfield 15, 3) := by decide +kernel
theorem dX3_tie_28 : decode cX3_tie 28 = .ok (.iload_n 1, 1) := by decide +kernel
theorem dX3_tie_29 : decode cX3_tie 29 = .ok (.iload_n 2, 1) := by decide +kernel
theorem dX3_tie_30 : decode cX3_tie 30 = .ok (.iconst 2, 1) := by decide +kernel
theorem dX3_tie_31 : decode cX3_tie 31 = .ok (.iand, 1) := by decide +kernel
theorem dX3_tie_32 : decode cX3_tie 32 = .ok (.ifCond .eq 7, 3) := by decide +kernel
theorem dX3_tie_35 : decode cX3_tie 35 = .ok (.iconst 1, 1) := by decide +kernel
theorem dX3_tie_36 : decode cX3_tie 36 = .ok (.goto 4, 3) := by decide +kernel
theorem dX3_tie_39 : decode cX3_tie 39 = .ok (.iconst 0, 1) := by decide +kernel
theorem dX3_tie_40 : decode cX3_tie 40 = .ok (.invokestatic 31, 3) := by decide +kernel
theorem dX3_tie_43 : decode cX3_tie 43 = .ok (.putfield 15, 3) := by decide +kernel
theorem dX3_tie_46 : decode cX3_tie 46 = .ok (.return_, 1) := by decide +kernel
theorem dX3_wholeAcross_0 : decode cX3_wholeAcross 0 = .ok (.ldc 35, 2) := by decide +kernel
theorem dX3_wholeAcross_2 : decode cX3_wholeAcross 2 = .ok (.aload_n 0, 1) := by decide +kernel
theorem dX3_wholeAcross_3 : decode cX3_wholeAcross 3 = .ok (.getfield 18, 3) := by decide +kernel
theorem dX3_wholeAcross_6 : decode cX3_wholeAcross 6 = .ok (.iconst (-1), 1) := by decide +kernel
theorem dX3_wholeAcross_7 : decode cX3_wholeAcross 7 = .ok (.ixor, 1) := by decide +kernel
theorem dX3_wholeAcross_8 : decode cX3_wholeAcross 8 = .ok (.iand, 1) := by decide +kernel
theorem dX3_wholeAcross_9 : decode cX3_wholeAcross 9 = .ok (.ireturn, 1) := by decide +kernel
theorem dX3_wholeDown_0 : decode cX3_wholeDown 0 = .ok (.ldc 36, 2) := by decide +kernel
theorem dX3_wholeDown_2 : decode cX3_wholeDown 2 = .ok (.aload_n 0, 1) := by decide +kernel
theorem dX3_wholeDown_3 : decode cX3_wholeDown 3 = .ok (.getfield 21, 3) := by decide +kernel
theorem dX3_wholeDown_6 : decode cX3_wholeDown 6 = .ok (.iconst (-1), 1) := by decide +kernel
theorem dX3_wholeDown_7 : decode cX3_wholeDown 7 = .ok (.ixor, 1) := by decide +kernel
theorem dX3_wholeDown_8 : decode cX3_wholeDown 8 = .ok (.iand, 1) := by decide +kernel
theorem dX3_wholeDown_9 : decode cX3_wholeDown 9 = .ok (.ireturn, 1) := by decide +kernel
theorem dX3_isTornBetween_0 : decode cX3_isTornBetween 0 = .ok (.iload_n 1, 1) := by decide +kernel
theorem dX3_isTornBetween_1 : decode cX3_isTornBetween 1 = .ok (.iload_n 2, 1) := by decide +kernel
theorem dX3_isTornBetween_2 : decode cX3_isTornBetween 2 = .ok (.invokestatic 37, 3) := by decide +kernel
theorem dX3_isTornBetween_5 : decode cX3_isTornBetween 5 = .ok (.ifCond .eq 10, 3) := by decide +kernel
theorem dX3_isTornBetween_8 : decode cX3_isTornBetween 8 = .ok (.aload_n 0, 1) := by decide +kernel
theorem dX3_isTornBetween_9 : decode cX3_isTornBetween 9 = .ok (.getfield 18, 3) := by decide +kernel
theorem dX3_isTornBetween_12 : decode cX3_isTornBetween 12 = .ok (.goto 7, 3) := by decide +kernel
theorem dX3_isTornBetween_15 : decode cX3_isTornBetween 15 = .ok (.aload_n 0, 1) := by decide +kernel
theorem dX3_isTornBetween_16 : decode cX3_isTornBetween 16 = .ok (.getfield 21, 3) := by decide +kernel
theorem dX3_isTornBetween_19 : decode cX3_isTornBetween 19 = .ok (.iload_n 1, 1) := by decide +kernel
theorem dX3_isTornBetween_20 : decode cX3_isTornBetween 20 = .ok (.iload_n 2, 1) := by decide +kernel
theorem dX3_isTornBetween_21 : decode cX3_isTornBetween 21 = .ok (.invokestatic 40, 3) := by decide +kernel
theorem dX3_isTornBetween_24 : decode cX3_isTornBetween 24 = .ok (.invokestatic 27, 3) := by decide +kernel
theorem dX3_isTornBetween_27 : decode cX3_isTornBetween 27 = .ok (.ireturn, 1) := by decide +kernel
theorem dX3_putString_0 : decode cX3_putString 0 = .ok (.iload_n 1, 1) := by decide +kernel
theorem dX3_putString_1 : decode cX3_putString 1 = .ok (.iload_n 2, 1) := by decide +kernel
theorem dX3_putString_2 : decode cX3_putString 2 = .ok (.invokestatic 40, 3) := by decide +kernel
theorem dX3_putString_5 : decode cX3_putString 5 = .ok (.istore 4, 2) := by decide +kernel
theorem dX3_putString_7 : decode cX3_putString 7 = .ok (.iload_n 1, 1) := by decide +kernel
theorem dX3_putString_8 : decode cX3_putString 8 = .ok (.iload_n 2, 1) := by decide +kernel
theorem dX3_putString_9 : decode cX3_putString 9 = .ok (.invokestatic 37, 3) := by decide +kernel
theorem dX3_putString_12 : decode cX3_putString 12 = .ok (.ifCond .eq 20, 3) := by decide +kernel
theorem dX3_putString_15 : decode cX3_putString 15 = .ok (.aload_n 0, 1) := by decide +kernel
theorem dX3_putString_16 : decode cX3_putString 16 = .ok (.aload_n 0, 1) := by decide +kernel
theorem dX3_putString_17 : decode cX3_putString 17 = .ok (.getfield 18, 3) := by decide +kernel
theorem dX3_putString_20 : decode cX3_putString 20 = .ok (.iload 4, 2) := by decide +kernel
theorem dX3_putString_22 : decode cX3_putString 22 = .ok (.iload_n 3, 1) := by decide +kernel
theorem dX3_putString_23 : decode cX3_putString 23 = .ok (.invokestatic 31, 3) := by decide +kernel
theorem dX3_putString_26 : decode cX3_putString 26 = .ok (.putfield 18, 3) := by decide +kernel
theorem dX3_putString_29 : decode cX3_putString 29 = .ok (.goto 17, 3) := by decide +kernel
theorem dX3_putString_32 : decode cX3_putString 32 = .ok (.aload_n 0, 1) := by decide +kernel
theorem dX3_putString_33 : decode cX3_putString 33 = .ok (.aload_n 0, 1) := by decide +kernel
theorem dX3_putString_34 : decode cX3_putString 34 = .ok (.getfield 21, 3) := by decide +kernel
theorem dX3_putString_37 : decode cX3_putString 37 = .ok (.iload 4, 2) := by decide +kernel
theorem dX3_putString_39 : decode cX3_putString 39 = .ok (.iload_n 3, 1) := by decide +kernel
theorem dX3_putString_40 : decode cX3_putString 40 = .ok (.invokestatic 31, 3) := by decide +kernel
theorem dX3_putString_43 : decode cX3_putString 43 = .ok (.putfield 21, 3) := by decide +kernel
theorem dX3_putString_46 : decode cX3_putString 46 = .ok (.return_, 1) := by decide +kernel
theorem dX3_countTorn_0 : decode cX3_countTorn 0 = .ok (.aload_n 0, 1) := by decide +kernel
theorem dX3_countTorn_1 : decode cX3_countTorn 1 = .ok (.getfield 18, 3) := by decide +kernel
theorem dX3_countTorn_4 : decode cX3_countTorn 4 = .ok (.invokestatic 46, 3) := by decide +kernel
theorem dX3_countTorn_7 : decode cX3_countTorn 7 = .ok (.aload_n 0, 1) := by decide +kernel
theorem dX3_countTorn_8 : decode cX3_countTorn 8 = .ok (.getfield 21, 3) := by decide +kernel
theorem dX3_countTorn_11 : decode cX3_countTorn 11 = .ok (.invokestatic 46, 3) := by decide +kernel
theorem dX3_countTorn_14 : decode cX3_countTorn 14 = .ok (.iadd, 1) := by decide +kernel
theorem dX3_countTorn_15 : decode cX3_countTorn 15 = .ok (.ireturn, 1) := by decide +kernel
theorem dX3_twineForAll_0 : decode cX3_twineForAll 0 = .ok (.iconst 1, 1) := by decide +kernel
theorem dX3_twineForAll_1 : decode cX3_twineForAll 1 = .ok (.aload_n 0, 1) := by decide +kernel
theorem dX3_twineForAll_2 : decode cX3_twineForAll 2 = .ok (.getfield 18, 3) := by decide +kernel
theorem dX3_twineForAll_5 : decode cX3_twineForAll 5 = .ok (.invokestatic 46, 3) := by decide +kernel
theorem dX3_twineForAll_8 : decode cX3_twineForAll 8 = .ok (.imul, 1) := by decide +kernel
theorem dX3_twineForAll_9 : decode cX3_twineForAll 9 = .ok (.iconst 2, 1) := by decide +kernel
theorem dX3_twineForAll_10 : decode cX3_twineForAll 10 = .ok (.aload_n 0, 1) := by decide +kernel
theorem dX3_twineForAll_11 : decode cX3_twineForAll 11 = .ok (.getfield 21, 3) := by decide +kernel
theorem dX3_twineForAll_14 : decode cX3_twineForAll 14 = .ok (.invokestatic 46, 3) := by decide +kernel
theorem dX3_twineForAll_17 : decode cX3_twineForAll 17 = .ok (.imul, 1) := by decide +kernel
theorem dX3_twineForAll_18 : decode cX3_twineForAll 18 = .ok (.iadd, 1) := by decide +kernel
theorem dX3_twineForAll_19 : decode cX3_twineForAll 19 = .ok (.ireturn, 1) := by decide +kernel
theorem dX3_countWholeWithin_0 : decode cX3_countWholeWithin 0 = .ok (.iload_n 1, 1) := by decide +kernel
theorem dX3_countWholeWithin_1 : decode cX3_countWholeWithin 1 = .ok (.aload_n 0, 1) := by decide +kernel
theorem dX3_countWholeWithin_2 : decode cX3_countWholeWithin 2 = .ok (.invokevirtual 52, 3) := by decide +kernel
theorem dX3_countWholeWithin_5 : decode cX3_countWholeWithin 5 = .ok (.iconst 1, 1) := by decide +kernel
theorem dX3_countWholeWithin_6 : decode cX3_countWholeWithin 6 = .ok (.invokestatic 56, 3) := by decide +kernel
theorem dX3_countWholeWithin_9 : decode cX3_countWholeWithin 9 = .ok (.invokestatic 46, 3) := by decide +kernel
theorem dX3_countWholeWithin_12 : decode cX3_countWholeWithin 12 = .ok (.iload_n 1, 1) := by decide +kernel
theorem dX3_countWholeWithin_13 : decode cX3_countWholeWithin 13 = .ok (.aload_n 0, 1) := by decide +kernel
theorem dX3_countWholeWithin_14 : decode cX3_countWholeWithin 14 = .ok (.invokevirtual 60, 3) := by decide +kernel
theorem dX3_countWholeWithin_17 : decode cX3_countWholeWithin 17 = .ok (.bipush 6, 2) := by decide +kernel
theorem dX3_countWholeWithin_19 : decode cX3_countWholeWithin 19 = .ok (.invokestatic 56, 3) := by decide +kernel
theorem dX3_countWholeWithin_22 : decode cX3_countWholeWithin 22 = .ok (.invokestatic 46, 3) := by decide +kernel
theorem dX3_countWholeWithin_25 : decode cX3_countWholeWithin 25 = .ok (.iadd, 1) := by decide +kernel
theorem dX3_countWholeWithin_26 : decode cX3_countWholeWithin 26 = .ok (.ireturn, 1) := by decide +kernel
theorem dX3_chapterAt_0 : decode cX3_chapterAt 0 = .ok (.aload_n 0, 1) := by decide +kernel
theorem dX3_chapterAt_1 : decode cX3_chapterAt 1 = .ok (.invokevirtual 63, 3) := by decide +kernel
theorem dX3_chapterAt_4 : decode cX3_chapterAt 4 = .ok (.iconst 1, 1) := by decide +kernel
theorem dX3_chapterAt_5 : decode cX3_chapterAt 5 = .ok (.iload_n 1, 1) := by decide +kernel
theorem dX3_chapterAt_6 : decode cX3_chapterAt 6 = .ok (.ishl, 1) := by decide +kernel
theorem dX3_chapterAt_7 : decode cX3_chapterAt 7 = .ok (.iand, 1) := by decide +kernel
theorem dX3_chapterAt_8 : decode cX3_chapterAt 8 = .ok (.istore_n 2, 1) := by decide +kernel
theorem dX3_chapterAt_9 : decode cX3_chapterAt 9 = .ok (.iconst 0, 1) := by decide +kernel
theorem dX3_chapterAt_10 : decode cX3_chapterAt 10 = .ok (.istore_n 3, 1) := by decide +kernel
theorem dX3_chapterAt_11 : decode cX3_chapterAt 11 = .ok (.iload_n 3, 1) := by decide +kernel
theorem dX3_chapterAt_12 : decode cX3_chapterAt 12 = .ok (.bipush 24, 2) := by decide +kernel
theorem dX3_chapterAt_14 : decode cX3_chapterAt 14 = .ok (.if_icmp .ge 41, 3) := by decide +kernel
theorem dX3_chapterAt_17 : decode cX3_chapterAt 17 = .ok (.iload_n 2, 1) := by decide +kernel
theorem dX3_chapterAt_18 : decode cX3_chapterAt 18 = .ok (.iload_n 2, 1) := by decide +kernel
theorem dX3_chapterAt_19 : decode cX3_chapterAt 19 = .ok (.aload_n 0, 1) := by decide +kernel
theorem dX3_chapterAt_20 : decode cX3_chapterAt 20 = .ok (.invokevirtual 52, 3) := by decide +kernel
theorem dX3_chapterAt_23 : decode cX3_chapterAt 23 = .ok (.aload_n 0, 1) := by decide +kernel
theorem dX3_chapterAt_24 : decode cX3_chapterAt 24 = .ok (.invokevirtual 60, 3) := by decide +kernel
theorem dX3_chapterAt_27 : decode cX3_chapterAt 27 = .ok (.invokestatic 66, 3) := by decide +kernel
theorem dX3_chapterAt_30 : decode cX3_chapterAt 30 = .ok (.aload_n 0, 1) := by decide +kernel
theorem dX3_chapterAt_31 : decode cX3_chapterAt 31 = .ok (.invokevirtual 63, 3) := by decide +kernel
theorem dX3_chapterAt_34 : decode cX3_chapterAt 34 = .ok (.iand, 1) := by decide +kernel
theorem dX3_chapterAt_35 : decode cX3_chapterAt 35 = .ok (.ior, 1) := by decide +kernel
theorem dX3_chapterAt_36 : decode cX3_chapterAt 36 = .ok (.istore 4, 2) := by decide +kernel
theorem dX3_chapterAt_38 : decode cX3_chapterAt 38 = .ok (.iload 4, 2) := by decide +kernel
theorem dX3_chapterAt_40 : decode cX3_chapterAt 40 = .ok (.iload_n 2, 1) := by decide +kernel
theorem dX3_chapterAt_41 : decode cX3_chapterAt 41 = .ok (.if_icmp .ne 5, 3) := by decide +kernel
theorem dX3_chapterAt_44 : decode cX3_chapterAt 44 = .ok (.iload_n 2, 1) := by decide +kernel
theorem dX3_chapterAt_45 : decode cX3_chapterAt 45 = .ok (.ireturn, 1) := by decide +kernel
theorem dX3_chapterAt_46 : decode cX3_chapterAt 46 = .ok (.iload 4, 2) := by decide +kernel
theorem dX3_chapterAt_48 : decode cX3_chapterAt 48 = .ok (.istore_n 2, 1) := by decide +kernel
theorem dX3_chapterAt_49 : decode cX3_chapterAt 49 = .ok (.iinc 3 1, 3) := by decide +kernel
theorem dX3_chapterAt_52 : decode cX3_chapterAt 52 = .ok (.goto (-41), 3) := by decide +kernel
theorem dX3_chapterAt_55 : decode cX3_chapterAt 55 = .ok (.iload_n 2, 1) := by decide +kernel
theorem dX3_chapterAt_56 : decode cX3_chapterAt 56 = .ok (.ireturn, 1) := by decide +kernel
theorem dX3_countChapters_0 : decode cX3_countChapters 0 = .ok (.aload_n 0, 1) := by decide +kernel
theorem dX3_countChapters_1 : decode cX3_countChapters 1 = .ok (.invokevirtual 63, 3) := by decide +kernel
theorem dX3_countChapters_4 : decode cX3_countChapters 4 = .ok (.istore_n 1, 1) := by decide +kernel
theorem dX3_countChapters_5 : decode cX3_countChapters 5 = .ok (.iconst 0, 1) := by decide +kernel
theorem dX3_countChapters_6 : decode cX3_countChapters 6 = .ok (.istore_n 2, 1) := by decide +kernel
theorem dX3_countChapters_7 : decode cX3_countChapters 7 = .ok (.iload_n 1, 1) := by decide +kernel
theorem dX3_countChapters_8 : decode cX3_countChapters 8 = .ok (.ifCond .eq 28, 3) := by decide +kernel
theorem dX3_countChapters_11 : decode cX3_countChapters 11 = .ok (.iload_n 2, 1) := by decide +kernel
theorem dX3_countChapters_12 : decode cX3_countChapters 12 = .ok (.bipush 24, 2) := by decide +kernel
theorem dX3_countChapters_14 : decode cX3_countChapters 14 = .ok (.if_icmp .ge 22, 3) := by decide +kernel
theorem dX3_countChapters_17 : decode cX3_countChapters 17 = .ok (.iload_n 1, 1) := by decide +kernel
theorem dX3_countChapters_18 : decode cX3_countChapters 18 = .ok (.aload_n 0, 1) := by decide +kernel
theorem dX3_countChapters_19 : decode cX3_countChapters 19 = .ok (.iload_n 1, 1) := by decide +kernel
theorem dX3_countChapters_20 : decode cX3_countChapters 20 = .ok (.invokestatic 69, 3) := by decide +kernel
theorem dX3_countChapters_23 : decode cX3_countChapters 23 = .ok (.invokevirtual 72, 3) := by decide +kernel
theorem dX3_countChapters_26 : decode cX3_countChapters 26 = .ok (.iconst (-1), 1) := by decide +kernel
theorem dX3_countChapters_27 : decode cX3_countChapters 27 = .ok (.ixor, 1) := by decide +kernel
theorem dX3_countChapters_28 : decode cX3_countChapters 28 = .ok (.iand, 1) := by decide +kernel
theorem dX3_countChapters_29 : decode cX3_countChapters 29 = .ok (.istore_n 1, 1) := by decide +kernel
theorem dX3_countChapters_30 : decode cX3_countChapters 30 = .ok (.iinc 2 1, 3) := by decide +kernel
theorem dX3_countChapters_33 : decode cX3_countChapters 33 = .ok (.goto (-26), 3) := by decide +kernel
theorem dX3_countChapters_36 : decode cX3_countChapters 36 = .ok (.iload_n 2, 1) := by decide +kernel
theorem dX3_countChapters_37 : decode cX3_countChapters 37 = .ok (.ireturn, 1) := by decide +kernel
theorem dX3_countChaptersByStrings_0 : decode cX3_countChaptersByStrings 0 = .ok (.aload_n 1, 1) := by decide +kernel
theorem dX3_countChaptersByStrings_1 : decode cX3_countChaptersByStrings 1 = .ok (.invokevirtual 75, 3) := by decide +kernel
theorem dX3_countChaptersByStrings_4 : decode cX3_countChaptersByStrings 4 = .ok (.aload_n 0, 1) := by decide +kernel
theorem dX3_countChaptersByStrings_5 : decode cX3_countChaptersByStrings 5 = .ok (.invokevirtual 63, 3) := by decide +kernel
theorem dX3_countChaptersByStrings_8 : decode cX3_countChaptersByStrings 8 = .ok (.invokestatic 46, 3) := by decide +kernel
theorem dX3_countChaptersByStrings_11 : decode cX3_countChaptersByStrings 11 = .ok (.aload_n 1, 1) := by decide +kernel
theorem dX3_countChaptersByStrings_12 : decode cX3_countChaptersByStrings 12 = .ok (.aload_n 0, 1) := by decide +kernel
theorem dX3_countChaptersByStrings_13 : decode cX3_countChaptersByStrings 13 = .ok (.invokevirtual 63, 3) := by decide +kernel
theorem dX3_countChaptersByStrings_16 : decode cX3_countChaptersByStrings 16 = .ok (.aload_n 0, 1) := by decide +kernel
theorem dX3_countChaptersByStrings_17 : decode cX3_countChaptersByStrings 17 = .ok (.invokevirtual 52, 3) := by decide +kernel
theorem dX3_countChaptersByStrings_20 : decode cX3_countChaptersByStrings 20 = .ok (.iconst 1, 1) := by decide +kernel
theorem dX3_countChaptersByStrings_21 : decode cX3_countChaptersByStrings 21 = .ok (.invokestatic 56, 3) := by decide +kernel
theorem dX3_countChaptersByStrings_24 : decode cX3_countChaptersByStrings 24 = .ok (.iconst 1, 1) := by decide +kernel
theorem dX3_countChaptersByStrings_25 : decode cX3_countChaptersByStrings 25 = .ok (.invokevirtual 80, 3) := by decide +kernel
theorem dX3_countChaptersByStrings_28 : decode cX3_countChaptersByStrings 28 = .ok (.isub, 1) := by decide +kernel
theorem dX3_countChaptersByStrings_29 : decode cX3_countChaptersByStrings 29 = .ok (.aload_n 1, 1) := by decide +kernel
theorem dX3_countChaptersByStrings_30 : decode cX3_countChaptersByStrings 30 = .ok (.aload_n 0, 1) := by decide +kernel
theorem dX3_countChaptersByStrings_31 : decode cX3_countChaptersByStrings 31 = .ok (.invokevirtual 63, 3) := by decide +kernel
theorem dX3_countChaptersByStrings_34 : decode cX3_countChaptersByStrings 34 = .ok (.aload_n 0, 1) := by decide +kernel
theorem dX3_countChaptersByStrings_35 : decode cX3_countChaptersByStrings 35 = .ok (.invokevirtual 60, 3) := by decide +kernel
theorem dX3_countChaptersByStrings_38 : decode cX3_countChaptersByStrings 38 = .ok (.bipush 6, 2) := by decide +kernel
theorem dX3_countChaptersByStrings_40 : decode cX3_countChaptersByStrings 40 = .ok (.invokestatic 56, 3) := by decide +kernel
theorem dX3_countChaptersByStrings_43 : decode cX3_countChaptersByStrings 43 = .ok (.bipush 6, 2) := by decide +kernel
theorem dX3_countChaptersByStrings_45 : decode cX3_countChaptersByStrings 45 = .ok (.invokevirtual 80, 3) := by decide +kernel
theorem dX3_countChaptersByStrings_48 : decode cX3_countChaptersByStrings 48 = .ok (.isub, 1) := by decide +kernel
theorem dX3_countChaptersByStrings_49 : decode cX3_countChaptersByStrings 49 = .ok (.ireturn, 1) := by decide +kernel
theorem dX3_greatestChapter_0 : decode cX3_greatestChapter 0 = .ok (.iload_n 1, 1) := by decide +kernel
theorem dX3_greatestChapter_1 : decode cX3_greatestChapter 1 = .ok (.istore_n 2, 1) := by decide +kernel
theorem dX3_greatestChapter_2 : decode cX3_greatestChapter 2 = .ok (.iconst 0, 1) := by decide +kernel
theorem dX3_greatestChapter_3 : decode cX3_greatestChapter 3 = .ok (.istore_n 3, 1) := by decide +kernel
theorem dX3_greatestChapter_4 : decode cX3_greatestChapter 4 = .ok (.iconst 0, 1) := by decide +kernel
theorem dX3_greatestChapter_5 : decode cX3_greatestChapter 5 = .ok (.istore 4, 2) := by decide +kernel
theorem dX3_greatestChapter_7 : decode cX3_greatestChapter 7 = .ok (.iload 4, 2) := by decide +kernel
theorem dX3_greatestChapter_9 : decode cX3_greatestChapter 9 = .ok (.bipush 24, 2) := by decide +kernel
theorem dX3_greatestChapter_11 : decode cX3_greatestChapter 11 = .ok (.if_icmp .ge 45, 3) := by decide +kernel
theorem dX3_greatestChapter_14 : decode cX3_greatestChapter 14 = .ok (.iload_n 2, 1) := by decide +kernel
theorem dX3_greatestChapter_15 : decode cX3_greatestChapter 15 = .ok (.ifCond .eq 41, 3) := by decide +kernel
theorem dX3_greatestChapter_18 : decode cX3_greatestChapter 18 = .ok (.aload_n 0, 1) := by decide +kernel
theorem dX3_greatestChapter_19 : decode cX3_greatestChapter 19 = .ok (.iload_n 2, 1) := by decide +kernel
theorem dX3_greatestChapter_20 : decode cX3_greatestChapter 20 = .ok (.invokestatic 69, 3) := by decide +kernel
theorem dX3_greatestChapter_23 : decode cX3_greatestChapter 23 = .ok (.invokevirtual 72, 3) := by decide +kernel
theorem dX3_greatestChapter_26 : decode cX3_greatestChapter 26 = .ok (.istore 5, 2) := by decide +kernel
theorem dX3_greatestChapter_28 : decode cX3_greatestChapter 28 = .ok (.iload 5, 2) := by decide +kernel
theorem dX3_greatestChapter_30 : decode cX3_greatestChapter 30 = .ok (.invokestatic 46, 3) := by decide +kernel
theorem dX3_greatestChapter_33 : decode cX3_greatestChapter 33 = .ok (.iload_n 3, 1) := by decide +kernel
theorem dX3_greatestChapter_34 : decode cX3_greatestChapter 34 = .ok (.invokestatic 46, 3) := by decide +kernel
theorem dX3_greatestChapter_37 : decode cX3_greatestChapter 37 = .ok (.if_icmp .le 6, 3) := by decide +kernel
theorem dX3_greatestChapter_40 : decode cX3_greatestChapter 40 = .ok (.iload 5, 2) := by decide +kernel
theorem dX3_greatestChapter_42 : decode cX3_greatestChapter 42 = .ok (.istore_n 3, 1) := by decide +kernel
theorem dX3_greatestChapter_43 : decode cX3_greatestChapter 43 = .ok (.iload_n 2, 1) := by decide +kernel
theorem dX3_greatestChapter_44 : decode cX3_greatestChapter 44 = .ok (.iload 5, 2) := by decide +kernel
theorem dX3_greatestChapter_46 : decode cX3_greatestChapter 46 = .ok (.iconst (-1), 1) := by decide +kernel
theorem dX3_greatestChapter_47 : decode cX3_greatestChapter 47 = .ok (.ixor, 1) := by decide +kernel
theorem dX3_greatestChapter_48 : decode cX3_greatestChapter 48 = .ok (.iand, 1) := by decide +kernel
theorem dX3_greatestChapter_49 : decode cX3_greatestChapter 49 = .ok (.istore_n 2, 1) := by decide +kernel
theorem dX3_greatestChapter_50 : decode cX3_greatestChapter 50 = .ok (.iinc 4 1, 3) := by decide +kernel
theorem dX3_greatestChapter_53 : decode cX3_greatestChapter 53 = .ok (.goto (-46), 3) := by decide +kernel
theorem dX3_greatestChapter_56 : decode cX3_greatestChapter 56 = .ok (.iload_n 3, 1) := by decide +kernel
theorem dX3_greatestChapter_57 : decode cX3_greatestChapter 57 = .ok (.ireturn, 1) := by decide +kernel
theorem dX3_chapterRanked_0 : decode cX3_chapterRanked 0 = .ok (.iload_n 1, 1) := by decide +kernel
theorem dX3_chapterRanked_1 : decode cX3_chapterRanked 1 = .ok (.ifCond .lt 9, 3) := by decide +kernel
theorem dX3_chapterRanked_4 : decode cX3_chapterRanked 4 = .ok (.iload_n 1, 1) := by decide +kernel
theorem dX3_chapterRanked_5 : decode cX3_chapterRanked 5 = .ok (.bipush 24, 2) := by decide +kernel
theorem dX3_chapterRanked_7 : decode cX3_chapterRanked 7 = .ok (.if_icmp .lt 5, 3) := by decide +kernel
theorem dX3_chapterRanked_10 : decode cX3_chapterRanked 10 = .ok (.iconst 0, 1) := by decide +kernel
theorem dX3_chapterRanked_11 : decode cX3_chapterRanked 11 = .ok (.ireturn, 1) := by decide +kernel
theorem dX3_chapterRanked_12 : decode cX3_chapterRanked 12 = .ok (.aload_n 0, 1) := by decide +kernel
theorem dX3_chapterRanked_13 : decode cX3_chapterRanked 13 = .ok (.invokevirtual 63, 3) := by decide +kernel
theorem dX3_chapterRanked_16 : decode cX3_chapterRanked 16 = .ok (.istore_n 2, 1) := by decide +kernel
theorem dX3_chapterRanked_17 : decode cX3_chapterRanked 17 = .ok (.iconst 0, 1) := by decide +kernel
theorem dX3_chapterRanked_18 : decode cX3_chapterRanked 18 = .ok (.istore_n 3, 1) := by decide +kernel
theorem dX3_chapterRanked_19 : decode cX3_chapterRanked 19 = .ok (.iload_n 3, 1) := by decide +kernel
theorem dX3_chapterRanked_20 : decode cX3_chapterRanked 20 = .ok (.iload_n 1, 1) := by decide +kernel
theorem dX3_chapterRanked_21 : decode cX3_chapterRanked 21 = .ok (.if_icmp .ge 19, 3) := by decide +kernel
theorem dX3_chapterRanked_24 : decode cX3_chapterRanked 24 = .ok (.iload_n 2, 1) := by decide +kernel
theorem dX3_chapterRanked_25 : decode cX3_chapterRanked 25 = .ok (.aload_n 0, 1) := by decide +kernel
theorem dX3_chapterRanked_26 : decode cX3_chapterRanked 26 = .ok (.iload_n 2, 1) := by decide +kernel
theorem dX3_chapterRanked_27 : decode cX3_chapterRanked 27 = .ok (.invokevirtual 83, 3) := by decide +kernel
theorem dX3_chapterRanked_30 : decode cX3_chapterRanked 30 = .ok (.iconst (-1), 1) := by decide +kernel
theorem dX3_chapterRanked_31 : decode cX3_chapterRanked 31 = .ok (.ixor, 1) := by decide +kernel
theorem dX3_chapterRanked_32 : decode cX3_chapterRanked 32 = .ok (.iand, 1) := by decide +kernel
theorem dX3_chapterRanked_33 : decode cX3_chapterRanked 33 = .ok (.istore_n 2, 1) := by decide +kernel
theorem dX3_chapterRanked_34 : decode cX3_chapterRanked 34 = .ok (.iinc 3 1, 3) := by decide +kernel
theorem dX3_chapterRanked_37 : decode cX3_chapterRanked 37 = .ok (.goto (-18), 3) := by decide +kernel
theorem dX3_chapterRanked_40 : decode cX3_chapterRanked 40 = .ok (.aload_n 0, 1) := by decide +kernel
theorem dX3_chapterRanked_41 : decode cX3_chapterRanked 41 = .ok (.iload_n 2, 1) := by decide +kernel
theorem dX3_chapterRanked_42 : decode cX3_chapterRanked 42 = .ok (.invokevirtual 83, 3) := by decide +kernel
theorem dX3_chapterRanked_45 : decode cX3_chapterRanked 45 = .ok (.ireturn, 1) := by decide +kernel
theorem dX3_knotsJoinedBy_0 : decode cX3_knotsJoinedBy 0 = .ok (.iload_n 1, 1) := by decide +kernel
theorem dX3_knotsJoinedBy_1 : decode cX3_knotsJoinedBy 1 = .ok (.iload_n 2, 1) := by decide +kernel
theorem dX3_knotsJoinedBy_2 : decode cX3_knotsJoinedBy 2 = .ok (.invokestatic 86, 3) := by decide +kernel
theorem dX3_knotsJoinedBy_5 : decode cX3_knotsJoinedBy 5 = .ok (.ifCond .eq 12, 3) := by decide +kernel
theorem dX3_knotsJoinedBy_8 : decode cX3_knotsJoinedBy 8 = .ok (.aload_n 0, 1) := by decide +kernel
theorem dX3_knotsJoinedBy_9 : decode cX3_knotsJoinedBy 9 = .ok (.iload_n 1, 1) := by decide +kernel
theorem dX3_knotsJoinedBy_10 : decode cX3_knotsJoinedBy 10 = .ok (.iload_n 2, 1) := by decide +kernel
theorem dX3_knotsJoinedBy_11 : decode cX3_knotsJoinedBy 11 = .ok (.invokevirtual 89, 3) := by decide +kernel
theorem dX3_knotsJoinedBy_14 : decode cX3_knotsJoinedBy 14 = .ok (.ifCond .ne 5, 3) := by decide +kernel
theorem dX3_knotsJoinedBy_17 : decode cX3_knotsJoinedBy 17 = .ok (.iconst 0, 1) := by decide +kernel
theorem dX3_knotsJoinedBy_18 : decode cX3_knotsJoinedBy 18 = .ok (.ireturn, 1) := by decide +kernel
theorem dX3_knotsJoinedBy_19 : decode cX3_knotsJoinedBy 19 = .ok (.aload_n 0, 1) := by decide +kernel
theorem dX3_knotsJoinedBy_20 : decode cX3_knotsJoinedBy 20 = .ok (.iload_n 1, 1) := by decide +kernel
theorem dX3_knotsJoinedBy_21 : decode cX3_knotsJoinedBy 21 = .ok (.invokevirtual 72, 3) := by decide +kernel
theorem dX3_knotsJoinedBy_24 : decode cX3_knotsJoinedBy 24 = .ok (.istore_n 3, 1) := by decide +kernel
theorem dX3_knotsJoinedBy_25 : decode cX3_knotsJoinedBy 25 = .ok (.aload_n 0, 1) := by decide +kernel
theorem dX3_knotsJoinedBy_26 : decode cX3_knotsJoinedBy 26 = .ok (.iload_n 2, 1) := by decide +kernel
theorem dX3_knotsJoinedBy_27 : decode cX3_knotsJoinedBy 27 = .ok (.invokevirtual 72, 3) := by decide +kernel
theorem dX3_knotsJoinedBy_30 : decode cX3_knotsJoinedBy 30 = .ok (.istore 4, 2) := by decide +kernel
theorem dX3_knotsJoinedBy_32 : decode cX3_knotsJoinedBy 32 = .ok (.iload_n 3, 1) := by decide +kernel
theorem dX3_knotsJoinedBy_33 : decode cX3_knotsJoinedBy 33 = .ok (.ifCond .eq 14, 3) := by decide +kernel
theorem dX3_knotsJoinedBy_36 : decode cX3_knotsJoinedBy 36 = .ok (.iload 4, 2) := by decide +kernel
theorem dX3_knotsJoinedBy_38 : decode cX3_knotsJoinedBy 38 = .ok (.ifCond .eq 9, 3) := by decide +kernel
theorem dX3_knotsJoinedBy_41 : decode cX3_knotsJoinedBy 41 = .ok (.iload_n 3, 1) := by decide +kernel
theorem dX3_knotsJoinedBy_42 : decode cX3_knotsJoinedBy 42 = .ok (.iload 4, 2) := by decide +kernel
theorem dX3_knotsJoinedBy_44 : decode cX3_knotsJoinedBy 44 = .ok (.if_icmp .ne 5, 3) := by decide +kernel
theorem dX3_knotsJoinedBy_47 : decode cX3_knotsJoinedBy 47 = .ok (.iconst 0, 1) := by decide +kernel
theorem dX3_knotsJoinedBy_48 : decode cX3_knotsJoinedBy 48 = .ok (.ireturn, 1) := by decide +kernel
theorem dX3_knotsJoinedBy_49 : decode cX3_knotsJoinedBy 49 = .ok (.iload_n 3, 1) := by decide +kernel
theorem dX3_knotsJoinedBy_50 : decode cX3_knotsJoinedBy 50 = .ok (.iload 4, 2) := by decide +kernel
theorem dX3_knotsJoinedBy_52 : decode cX3_knotsJoinedBy 52 = .ok (.ior, 1) := by decide +kernel
theorem dX3_knotsJoinedBy_53 : decode cX3_knotsJoinedBy 53 = .ok (.invokestatic 46, 3) := by decide +kernel
theorem dX3_knotsJoinedBy_56 : decode cX3_knotsJoinedBy 56 = .ok (.ireturn, 1) := by decide +kernel
theorem dX3_bestTornString_0 : decode cX3_bestTornString 0 = .ok (.iconst (-1), 1) := by decide +kernel
theorem dX3_bestTornString_1 : decode cX3_bestTornString 1 = .ok (.istore_n 2, 1) := by decide +kernel
theorem dX3_bestTornString_2 : decode cX3_bestTornString 2 = .ok (.iconst 0, 1) := by decide +kernel
theorem dX3_bestTornString_3 : decode cX3_bestTornString 3 = .ok (.istore_n 3, 1) := by decide +kernel
theorem dX3_bestTornString_4 : decode cX3_bestTornString 4 = .ok (.iconst 0, 1) := by decide +kernel
theorem dX3_bestTornString_5 : decode cX3_bestTornString 5 = .ok (.istore 4, 2) := by decide +kernel
theorem dX3_bestTornString_7 : decode cX3_bestTornString 7 = .ok (.iconst 0, 1) := by decide +kernel
theorem dX3_bestTornString_8 : decode cX3_bestTornString 8 = .ok (.istore 5, 2) := by decide +kernel
theorem dX3_bestTornString_10 : decode cX3_bestTornString 10 = .ok (.iload 5, 2) := by decide +kernel
theorem dX3_bestTornString_12 : decode cX3_bestTornString 12 = .ok (.bipush 24, 2) := by decide +kernel
theorem dX3_bestTornString_14 : decode cX3_bestTornString 14 = .ok (.if_icmp .ge 89, 3) := by decide +kernel
theorem dX3_bestTornString_17 : decode cX3_bestTornString 17 = .ok (.iconst 1, 1) := by decide +kernel
theorem dX3_bestTornString_18 : decode cX3_bestTornString 18 = .ok (.istore 6, 2) := by decide +kernel
theorem dX3_bestTornString_20 : decode cX3_bestTornString 20 = .ok (.iload 6, 2) := by decide +kernel
theorem dX3_bestTornString_22 : decode cX3_bestTornString 22 = .ok (.bipush 6, 2) := by decide +kernel
theorem dX3_bestTornString_24 : decode cX3_bestTornString 24 = .ok (.if_icmp .gt 73, 3) := by decide +kernel
theorem dX3_bestTornString_27 : decode cX3_bestTornString 27 = .ok (.iload 5, 2) := by decide +kernel
theorem dX3_bestTornString_29 : decode cX3_bestTornString 29 = .ok (.iload 6, 2) := by decide +kernel
theorem dX3_bestTornString_31 : decode cX3_bestTornString 31 = .ok (.iadd, 1) := by decide +kernel
theorem dX3_bestTornString_32 : decode cX3_bestTornString 32 = .ok (.istore 7, 2) := by decide +kernel
theorem dX3_bestTornString_34 : decode cX3_bestTornString 34 = .ok (.aload_n 0, 1) := by decide +kernel
theorem dX3_bestTornString_35 : decode cX3_bestTornString 35 = .ok (.iload 5, 2) := by decide +kernel
theorem dX3_bestTornString_37 : decode cX3_bestTornString 37 = .ok (.iload 7, 2) := by decide +kernel
theorem dX3_bestTornString_39 : decode cX3_bestTornString 39 = .ok (.invokevirtual 92, 3) := by decide +kernel
theorem dX3_bestTornString_42 : decode cX3_bestTornString 42 = .ok (.istore 8, 2) := by decide +kernel
theorem dX3_bestTornString_44 : decode cX3_bestTornString 44 = .ok (.iload 5, 2) := by decide +kernel
theorem dX3_bestTornString_46 : decode cX3_bestTornString 46 = .ok (.iload 7, 2) := by decide +kernel
theorem dX3_bestTornString_48 : decode cX3_bestTornString 48 = .ok (.invokestatic 95, 3) := by decide +kernel
theorem dX3_bestTornString_51 : decode cX3_bestTornString 51 = .ok (.istore 9, 2) := by decide +kernel
theorem dX3_bestTornString_53 : decode cX3_bestTornString 53 = .ok (.iload 8, 2) := by decide +kernel
theorem dX3_bestTornString_55 : decode cX3_bestTornString 55 = .ok (.iload_n 3, 1) := by decide +kernel
theorem dX3_bestTornString_56 : decode cX3_bestTornString 56 = .ok (.if_icmp .gt 16, 3) := by decide +kernel
theorem dX3_bestTornString_59 : decode cX3_bestTornString 59 = .ok (.iload 8, 2) := by decide +kernel
theorem dX3_bestTornString_61 : decode cX3_bestTornString 61 = .ok (.iload_n 3, 1) := by decide +kernel
theorem dX3_bestTornString_62 : decode cX3_bestTornString 62 = .ok (.if_icmp .ne 29, 3) := by decide +kernel
theorem dX3_bestTornString_65 : decode cX3_bestTornString 65 = .ok (.iload 9, 2) := by decide +kernel
theorem dX3_bestTornString_67 : decode cX3_bestTornString 67 = .ok (.iload 4, 2) := by decide +kernel
theorem dX3_bestTornString_69 : decode cX3_bestTornString 69 = .ok (.if_icmp .ge 22, 3) := by decide +kernel
theorem dX3_bestTornString_72 : decode cX3_bestTornString 72 = .ok (.iload_n 1, 1) := by decide +kernel
theorem dX3_bestTornString_73 : decode cX3_bestTornString 73 = .ok (.ifCond .eq 8, 3) := by decide +kernel
theorem dX3_bestTornString_76 : decode cX3_bestTornString 76 = .ok (.iload 7, 2) := by decide +kernel
theorem dX3_bestTornString_78 : decode cX3_bestTornString 78 = .ok (.goto 5, 3) := by decide +kernel
theorem dX3_bestTornString_81 : decode cX3_bestTornString 81 = .ok (.iload 5, 2) := by decide +kernel
theorem dX3_bestTornString_83 : decode cX3_bestTornString 83 = .ok (.istore_n 2, 1) := by decide +kernel
theorem dX3_bestTornString_84 : decode cX3_bestTornString 84 = .ok (.iload 8, 2) := by decide +kernel
theorem dX3_bestTornString_86 : decode cX3_bestTornString 86 = .ok (.istore_n 3, 1) := by decide +kernel
theorem dX3_bestTornString_87 : decode cX3_bestTornString 87 = .ok (.iload 9, 2) := by decide +kernel
theorem dX3_bestTornString_89 : decode cX3_bestTornString 89 = .ok (.istore 4, 2) := by decide +kernel
theorem dX3_bestTornString_91 : decode cX3_bestTornString 91 = .ok (.iinc 6 5, 3) := by decide +kernel
theorem dX3_bestTornString_94 : decode cX3_bestTornString 94 = .ok (.goto (-74), 3) := by decide +kernel
theorem dX3_bestTornString_97 : decode cX3_bestTornString 97 = .ok (.iinc 5 1, 3) := by decide +kernel
theorem dX3_bestTornString_100 : decode cX3_bestTornString 100 = .ok (.goto (-90), 3) := by decide +kernel
theorem dX3_bestTornString_103 : decode cX3_bestTornString 103 = .ok (.iload_n 2, 1) := by decide +kernel
theorem dX3_bestTornString_104 : decode cX3_bestTornString 104 = .ok (.ireturn, 1) := by decide +kernel
theorem dX3_hasStringOutOf_0 : decode cX3_hasStringOutOf 0 = .ok (.iload_n 1, 1) := by decide +kernel
theorem dX3_hasStringOutOf_1 : decode cX3_hasStringOutOf 1 = .ok (.aload_n 0, 1) := by decide +kernel
theorem dX3_hasStringOutOf_2 : decode cX3_hasStringOutOf 2 = .ok (.invokevirtual 52, 3) := by decide +kernel
theorem dX3_hasStringOutOf_5 : decode cX3_hasStringOutOf 5 = .ok (.aload_n 0, 1) := by decide +kernel
theorem dX3_hasStringOutOf_6 : decode cX3_hasStringOutOf 6 = .ok (.invokevirtual 60, 3) := by decide +kernel
theorem dX3_hasStringOutOf_9 : decode cX3_hasStringOutOf 9 = .ok (.invokestatic 66, 3) := by decide +kernel
theorem dX3_hasStringOutOf_12 : decode cX3_hasStringOutOf 12 = .ok (.aload_n 0, 1) := by decide +kernel
theorem dX3_hasStringOutOf_13 : decode cX3_hasStringOutOf 13 = .ok (.invokevirtual 63, 3) := by decide +kernel
theorem dX3_hasStringOutOf_16 : decode cX3_hasStringOutOf 16 = .ok (.iand, 1) := by decide +kernel
theorem dX3_hasStringOutOf_17 : decode cX3_hasStringOutOf 17 = .ok (.iload_n 1, 1) := by decide +kernel
theorem dX3_hasStringOutOf_18 : decode cX3_hasStringOutOf 18 = .ok (.iconst (-1), 1) := by decide +kernel
theorem dX3_hasStringOutOf_19 : decode cX3_hasStringOutOf 19 = .ok (.ixor, 1) := by decide +kernel
theorem dX3_hasStringOutOf_20 : decode cX3_hasStringOutOf 20 = .ok (.iand, 1) := by decide +kernel
theorem dX3_hasStringOutOf_21 : decode cX3_hasStringOutOf 21 = .ok (.ifCond .eq 7, 3) := by decide +kernel
theorem dX3_hasStringOutOf_24 : decode cX3_hasStringOutOf 24 = .ok (.iconst 1, 1) := by decide +kernel
theorem dX3_hasStringOutOf_25 : decode cX3_hasStringOutOf 25 = .ok (.goto 4, 3) := by decide +kernel
theorem dX3_hasStringOutOf_28 : decode cX3_hasStringOutOf 28 = .ok (.iconst 0, 1) := by decide +kernel
theorem dX3_hasStringOutOf_29 : decode cX3_hasStringOutOf 29 = .ok (.ireturn, 1) := by decide +kernel
theorem dX3_leastByStrings_0 : decode cX3_leastByStrings 0 = .ok (.aload_n 2, 1) := by decide +kernel
theorem dX3_leastByStrings_1 : decode cX3_leastByStrings 1 = .ok (.invokevirtual 75, 3) := by decide +kernel
theorem dX3_leastByStrings_4 : decode cX3_leastByStrings 4 = .ok (.aload_n 2, 1) := by decide +kernel
theorem dX3_leastByStrings_5 : decode cX3_leastByStrings 5 = .ok (.iload_n 1, 1) := by decide +kernel
theorem dX3_leastByStrings_6 : decode cX3_leastByStrings 6 = .ok (.aload_n 0, 1) := by decide +kernel
theorem dX3_leastByStrings_7 : decode cX3_leastByStrings 7 = .ok (.invokevirtual 52, 3) := by decide +kernel
theorem dX3_leastByStrings_10 : decode cX3_leastByStrings 10 = .ok (.iconst 1, 1) := by decide +kernel
theorem dX3_leastByStrings_11 : decode cX3_leastByStrings 11 = .ok (.invokestatic 56, 3) := by decide +kernel
theorem dX3_leastByStrings_14 : decode cX3_leastByStrings 14 = .ok (.iconst 1, 1) := by decide +kernel
theorem dX3_leastByStrings_15 : decode cX3_leastByStrings 15 = .ok (.invokevirtual 80, 3) := by decide +kernel
theorem dX3_leastByStrings_18 : decode cX3_leastByStrings 18 = .ok (.pop, 1) := by decide +kernel
theorem dX3_leastByStrings_19 : decode cX3_leastByStrings 19 = .ok (.aload_n 2, 1) := by decide +kernel
theorem dX3_leastByStrings_20 : decode cX3_leastByStrings 20 = .ok (.iload_n 1, 1) := by decide +kernel
theorem dX3_leastByStrings_21 : decode cX3_leastByStrings 21 = .ok (.aload_n 0, 1) := by decide +kernel
theorem dX3_leastByStrings_22 : decode cX3_leastByStrings 22 = .ok (.invokevirtual 60, 3) := by decide +kernel
theorem dX3_leastByStrings_25 : decode cX3_leastByStrings 25 = .ok (.bipush 6, 2) := by decide +kernel
theorem dX3_leastByStrings_27 : decode cX3_leastByStrings 27 = .ok (.invokestatic 56, 3) := by decide +kernel
theorem dX3_leastByStrings_30 : decode cX3_leastByStrings 30 = .ok (.bipush 6, 2) := by decide +kernel
theorem dX3_leastByStrings_32 : decode cX3_leastByStrings 32 = .ok (.invokevirtual 80, 3) := by decide +kernel
theorem dX3_leastByStrings_35 : decode cX3_leastByStrings 35 = .ok (.pop, 1) := by decide +kernel
theorem dX3_leastByStrings_36 : decode cX3_leastByStrings 36 = .ok (.iconst 1, 1) := by decide +kernel
theorem dX3_leastByStrings_37 : decode cX3_leastByStrings 37 = .ok (.aload_n 2, 1) := by decide +kernel
theorem dX3_leastByStrings_38 : decode cX3_leastByStrings 38 = .ok (.iload_n 1, 1) := by decide +kernel
theorem dX3_leastByStrings_39 : decode cX3_leastByStrings 39 = .ok (.aload_n 0, 1) := by decide +kernel
theorem dX3_leastByStrings_40 : decode cX3_leastByStrings 40 = .ok (.getfield 18, 3) := by decide +kernel
theorem dX3_leastByStrings_43 : decode cX3_leastByStrings 43 = .ok (.iconst 1, 1) := by decide +kernel
theorem dX3_leastByStrings_44 : decode cX3_leastByStrings 44 = .ok (.invokestatic 56, 3) := by decide +kernel
theorem dX3_leastByStrings_47 : decode cX3_leastByStrings 47 = .ok (.iconst 1, 1) := by decide +kernel
theorem dX3_leastByStrings_48 : decode cX3_leastByStrings 48 = .ok (.invokevirtual 80, 3) := by decide +kernel
theorem dX3_leastByStrings_51 : decode cX3_leastByStrings 51 = .ok (.imul, 1) := by decide +kernel
theorem dX3_leastByStrings_52 : decode cX3_leastByStrings 52 = .ok (.iconst 2, 1) := by decide +kernel
theorem dX3_leastByStrings_53 : decode cX3_leastByStrings 53 = .ok (.aload_n 2, 1) := by decide +kernel
theorem dX3_leastByStrings_54 : decode cX3_leastByStrings 54 = .ok (.iload_n 1, 1) := by decide +kernel
theorem dX3_leastByStrings_55 : decode cX3_leastByStrings 55 = .ok (.aload_n 0, 1) := by decide +kernel
theorem dX3_leastByStrings_56 : decode cX3_leastByStrings 56 = .ok (.getfield 21, 3) := by decide +kernel
theorem dX3_leastByStrings_59 : decode cX3_leastByStrings 59 = .ok (.bipush 6, 2) := by decide +kernel
theorem dX3_leastByStrings_61 : decode cX3_leastByStrings 61 = .ok (.invokestatic 56, 3) := by decide +kernel
theorem dX3_leastByStrings_64 : decode cX3_leastByStrings 64 = .ok (.bipush 6, 2) := by decide +kernel
theorem dX3_leastByStrings_66 : decode cX3_leastByStrings 66 = .ok (.invokevirtual 80, 3) := by decide +kernel
theorem dX3_leastByStrings_69 : decode cX3_leastByStrings 69 = .ok (.imul, 1) := by decide +kernel
theorem dX3_leastByStrings_70 : decode cX3_leastByStrings 70 = .ok (.iadd, 1) := by decide +kernel
theorem dX3_leastByStrings_71 : decode cX3_leastByStrings 71 = .ok (.ireturn, 1) := by decide +kernel
theorem dX3_leastByPlaces_0 : decode cX3_leastByPlaces 0 = .ok (.iload_n 1, 1) := by decide +kernel
theorem dX3_leastByPlaces_1 : decode cX3_leastByPlaces 1 = .ok (.iload_n 1, 1) := by decide +kernel
theorem dX3_leastByPlaces_2 : decode cX3_leastByPlaces 2 = .ok (.ineg, 1) := by decide +kernel
theorem dX3_leastByPlaces_3 : decode cX3_leastByPlaces 3 = .ok (.iand, 1) := by decide +kernel
theorem dX3_leastByPlaces_4 : decode cX3_leastByPlaces 4 = .ok (.istore_n 2, 1) := by decide +kernel
theorem dX3_leastByPlaces_5 : decode cX3_leastByPlaces 5 = .ok (.iconst 0, 1) := by decide +kernel
theorem dX3_leastByPlaces_6 : decode cX3_leastByPlaces 6 = .ok (.istore_n 3, 1) := by decide +kernel
theorem dX3_leastByPlaces_7 : decode cX3_leastByPlaces 7 = .ok (.iconst 0, 1) := by decide +kernel
theorem dX3_leastByPlaces_8 : decode cX3_leastByPlaces 8 = .ok (.istore 4, 2) := by decide +kernel
theorem dX3_leastByPlaces_10 : decode cX3_leastByPlaces 10 = .ok (.iload 4, 2) := by decide +kernel
theorem dX3_leastByPlaces_12 : decode cX3_leastByPlaces 12 = .ok (.bipush 24, 2) := by decide +kernel
theorem dX3_leastByPlaces_14 : decode cX3_leastByPlaces 14 = .ok (.if_icmp .ge 99, 3) := by decide +kernel
theorem dX3_leastByPlaces_17 : decode cX3_leastByPlaces 17 = .ok (.iload_n 2, 1) := by decide +kernel
theorem dX3_leastByPlaces_18 : decode cX3_leastByPlaces 18 = .ok (.iload_n 1, 1) := by decide +kernel
theorem dX3_leastByPlaces_19 : decode cX3_leastByPlaces 19 = .ok (.if_icmp .eq 94, 3) := by decide +kernel
theorem dX3_leastByPlaces_22 : decode cX3_leastByPlaces 22 = .ok (.iload_n 1, 1) := by decide +kernel
theorem dX3_leastByPlaces_23 : decode cX3_leastByPlaces 23 = .ok (.iload_n 2, 1) := by decide +kernel
theorem dX3_leastByPlaces_24 : decode cX3_leastByPlaces 24 = .ok (.iconst (-1), 1) := by decide +kernel
theorem dX3_leastByPlaces_25 : decode cX3_leastByPlaces 25 = .ok (.ixor, 1) := by decide +kernel
theorem dX3_leastByPlaces_26 : decode cX3_leastByPlaces 26 = .ok (.iand, 1) := by decide +kernel
theorem dX3_leastByPlaces_27 : decode cX3_leastByPlaces 27 = .ok (.istore 5, 2) := by decide +kernel
theorem dX3_leastByPlaces_29 : decode cX3_leastByPlaces 29 = .ok (.iload_n 2, 1) := by decide +kernel
theorem dX3_leastByPlaces_30 : decode cX3_leastByPlaces 30 = .ok (.aload_n 0, 1) := by decide +kernel
theorem dX3_leastByPlaces_31 : decode cX3_leastByPlaces 31 = .ok (.invokevirtual 52, 3) := by decide +kernel
theorem dX3_leastByPlaces_34 : decode cX3_leastByPlaces 34 = .ok (.aload_n 0, 1) := by decide +kernel
theorem dX3_leastByPlaces_35 : decode cX3_leastByPlaces 35 = .ok (.invokevirtual 60, 3) := by decide +kernel
theorem dX3_leastByPlaces_38 : decode cX3_leastByPlaces 38 = .ok (.invokestatic 66, 3) := by decide +kernel
theorem dX3_leastByPlaces_41 : decode cX3_leastByPlaces 41 = .ok (.iload 5, 2) := by decide +kernel
theorem dX3_leastByPlaces_43 : decode cX3_leastByPlaces 43 = .ok (.iand, 1) := by decide +kernel
theorem dX3_leastByPlaces_44 : decode cX3_leastByPlaces 44 = .ok (.istore 6, 2) := by decide +kernel
theorem dX3_leastByPlaces_46 : decode cX3_leastByPlaces 46 = .ok (.iconst 0, 1) := by decide +kernel
theorem dX3_leastByPlaces_47 : decode cX3_leastByPlaces 47 = .ok (.istore 7, 2) := by decide +kernel
theorem dX3_leastByPlaces_49 : decode cX3_leastByPlaces 49 = .ok (.iload 6, 2) := by decide +kernel
theorem dX3_leastByPlaces_51 : decode cX3_leastByPlaces 51 = .ok (.ifCond .ne 20, 3) := by decide +kernel
theorem dX3_leastByPlaces_54 : decode cX3_leastByPlaces 54 = .ok (.iload_n 2, 1) := by decide +kernel
theorem dX3_leastByPlaces_55 : decode cX3_leastByPlaces 55 = .ok (.aload_n 0, 1) := by decide +kernel
theorem dX3_leastByPlaces_56 : decode cX3_leastByPlaces 56 = .ok (.getfield 18, 3) := by decide +kernel
theorem dX3_leastByPlaces_59 : decode cX3_leastByPlaces 59 = .ok (.iconst 0, 1) := by decide +kernel
theorem dX3_leastByPlaces_60 : decode cX3_leastByPlaces 60 = .ok (.invokestatic 66, 3) := by decide +kernel
theorem dX3_leastByPlaces_63 : decode cX3_leastByPlaces 63 = .ok (.iload 5, 2) := by decide +kernel
theorem dX3_leastByPlaces_65 : decode cX3_leastByPlaces 65 = .ok (.iand, 1) := by decide +kernel
theorem dX3_leastByPlaces_66 : decode cX3_leastByPlaces 66 = .ok (.istore 6, 2) := by decide +kernel
theorem dX3_leastByPlaces_68 : decode cX3_leastByPlaces 68 = .ok (.iconst 1, 1) := by decide +kernel
theorem dX3_leastByPlaces_69 : decode cX3_leastByPlaces 69 = .ok (.istore 7, 2) := by decide +kernel
theorem dX3_leastByPlaces_71 : decode cX3_leastByPlaces 71 = .ok (.iload 6, 2) := by decide +kernel
theorem dX3_leastByPlaces_73 : decode cX3_leastByPlaces 73 = .ok (.ifCond .ne 20, 3) := by decide +kernel
theorem dX3_leastByPlaces_76 : decode cX3_leastByPlaces 76 = .ok (.iload_n 2, 1) := by decide +kernel
theorem dX3_leastByPlaces_77 : decode cX3_leastByPlaces 77 = .ok (.iconst 0, 1) := by decide +kernel
theorem dX3_leastByPlaces_78 : decode cX3_leastByPlaces 78 = .ok (.aload_n 0, 1) := by decide +kernel
theorem dX3_leastByPlaces_79 : decode cX3_leastByPlaces 79 = .ok (.getfield 21, 3) := by decide +kernel
theorem dX3_leastByPlaces_82 : decode cX3_leastByPlaces 82 = .ok (.invokestatic 66, 3) := by decide +kernel
theorem dX3_leastByPlaces_85 : decode cX3_leastByPlaces 85 = .ok (.iload 5, 2) := by decide +kernel
theorem dX3_leastByPlaces_87 : decode cX3_leastByPlaces 87 = .ok (.iand, 1) := by decide +kernel
theorem dX3_leastByPlaces_88 : decode cX3_leastByPlaces 88 = .ok (.istore 6, 2) := by decide +kernel
theorem dX3_leastByPlaces_90 : decode cX3_leastByPlaces 90 = .ok (.iconst 2, 1) := by decide +kernel
theorem dX3_leastByPlaces_91 : decode cX3_leastByPlaces 91 = .ok (.istore 7, 2) := by decide +kernel
theorem dX3_leastByPlaces_93 : decode cX3_leastByPlaces 93 = .ok (.iload_n 2, 1) := by decide +kernel
theorem dX3_leastByPlaces_94 : decode cX3_leastByPlaces 94 = .ok (.iload 6, 2) := by decide +kernel
theorem dX3_leastByPlaces_96 : decode cX3_leastByPlaces 96 = .ok (.iload 6, 2) := by decide +kernel
theorem dX3_leastByPlaces_98 : decode cX3_leastByPlaces 98 = .ok (.ineg, 1) := by decide +kernel
theorem dX3_leastByPlaces_99 : decode cX3_leastByPlaces 99 = .ok (.iand, 1) := by decide +kernel
theorem dX3_leastByPlaces_100 : decode cX3_leastByPlaces 100 = .ok (.ior, 1) := by decide +kernel
theorem dX3_leastByPlaces_101 : decode cX3_leastByPlaces 101 = .ok (.istore_n 2, 1) := by decide +kernel
theorem dX3_leastByPlaces_102 : decode cX3_leastByPlaces 102 = .ok (.iload_n 3, 1) := by decide +kernel
theorem dX3_leastByPlaces_103 : decode cX3_leastByPlaces 103 = .ok (.iload 7, 2) := by decide +kernel
theorem dX3_leastByPlaces_105 : decode cX3_leastByPlaces 105 = .ok (.iadd, 1) := by decide +kernel
theorem dX3_leastByPlaces_106 : decode cX3_leastByPlaces 106 = .ok (.istore_n 3, 1) := by decide +kernel
theorem dX3_leastByPlaces_107 : decode cX3_leastByPlaces 107 = .ok (.iinc 4 1, 3) := by decide +kernel
theorem dX3_leastByPlaces_110 : decode cX3_leastByPlaces 110 = .ok (.goto (-100), 3) := by decide +kernel
theorem dX3_leastByPlaces_113 : decode cX3_leastByPlaces 113 = .ok (.iload_n 3, 1) := by decide +kernel
theorem dX3_leastByPlaces_114 : decode cX3_leastByPlaces 114 = .ok (.ireturn, 1) := by decide +kernel
theorem dX3_writeLine_0 : decode cX3_writeLine 0 = .ok (.iconst 0, 1) := by decide +kernel
theorem dX3_writeLine_1 : decode cX3_writeLine 1 = .ok (.istore_n 3, 1) := by decide +kernel
theorem dX3_writeLine_2 : decode cX3_writeLine 2 = .ok (.iload_n 3, 1) := by decide +kernel
theorem dX3_writeLine_3 : decode cX3_writeLine 3 = .ok (.bipush 6, 2) := by decide +kernel
theorem dX3_writeLine_5 : decode cX3_writeLine 5 = .ok (.if_icmp .ge 72, 3) := by decide +kernel
theorem dX3_writeLine_8 : decode cX3_writeLine 8 = .ok (.iload_n 1, 1) := by decide +kernel
theorem dX3_writeLine_9 : decode cX3_writeLine 9 = .ok (.bipush 6, 2) := by decide +kernel
theorem dX3_writeLine_11 : decode cX3_writeLine 11 = .ok (.imul, 1) := by decide +kernel
theorem dX3_writeLine_12 : decode cX3_writeLine 12 = .ok (.iload_n 3, 1) := by decide +kernel
theorem dX3_writeLine_13 : decode cX3_writeLine 13 = .ok (.iadd, 1) := by decide +kernel
theorem dX3_writeLine_14 : decode cX3_writeLine 14 = .ok (.istore 4, 2) := by decide +kernel
theorem dX3_writeLine_16 : decode cX3_writeLine 16 = .ok (.iload_n 3, 1) := by decide +kernel
theorem dX3_writeLine_17 : decode cX3_writeLine 17 = .ok (.ifCond .le 27, 3) := by decide +kernel
theorem dX3_writeLine_20 : decode cX3_writeLine 20 = .ok (.aload_n 2, 1) := by decide +kernel
theorem dX3_writeLine_21 : decode cX3_writeLine 21 = .ok (.aload_n 0, 1) := by decide +kernel
theorem dX3_writeLine_22 : decode cX3_writeLine 22 = .ok (.iload 4, 2) := by decide +kernel
theorem dX3_writeLine_24 : decode cX3_writeLine 24 = .ok (.iconst 1, 1) := by decide +kernel
theorem dX3_writeLine_25 : decode cX3_writeLine 25 = .ok (.isub, 1) := by decide +kernel
theorem dX3_writeLine_26 : decode cX3_writeLine 26 = .ok (.iload 4, 2) := by decide +kernel
theorem dX3_writeLine_28 : decode cX3_writeLine 28 = .ok (.invokevirtual 89, 3) := by decide +kernel
theorem dX3_writeLine_31 : decode cX3_writeLine 31 = .ok (.ifCond .eq 8, 3) := by decide +kernel
theorem dX3_writeLine_34 : decode cX3_writeLine 34 = .ok (.bipush 47, 2) := by decide +kernel
theorem dX3_writeLine_36 : decode cX3_writeLine 36 = .ok (.goto 5, 3) := by decide +kernel
theorem dX3_writeLine_39 : decode cX3_writeLine 39 = .ok (.bipush 45, 2) := by decide +kernel
theorem dX3_writeLine_41 : decode cX3_writeLine 41 = .ok (.invokevirtual 98, 3) := by decide +kernel
theorem dX3_writeLine_44 : decode cX3_writeLine 44 = .ok (.aload_n 0, 1) := by decide +kernel
theorem dX3_writeLine_45 : decode cX3_writeLine 45 = .ok (.iload 4, 2) := by decide +kernel
theorem dX3_writeLine_47 : decode cX3_writeLine 47 = .ok (.invokevirtual 104, 3) := by decide +kernel
theorem dX3_writeLine_50 : decode cX3_writeLine 50 = .ok (.istore 5, 2) := by decide +kernel
theorem dX3_writeLine_52 : decode cX3_writeLine 52 = .ok (.aload_n 2, 1) := by decide +kernel
theorem dX3_writeLine_53 : decode cX3_writeLine 53 = .ok (.iload 5, 2) := by decide +kernel
theorem dX3_writeLine_55 : decode cX3_writeLine 55 = .ok (.ifCond .ne 8, 3) := by decide +kernel
theorem dX3_writeLine_58 : decode cX3_writeLine 58 = .ok (.bipush 46, 2) := by decide +kernel
theorem dX3_writeLine_60 : decode cX3_writeLine 60 = .ok (.goto 8, 3) := by decide +kernel
theorem dX3_writeLine_63 : decode cX3_writeLine 63 = .ok (.iload 5, 2) := by decide +kernel
theorem dX3_writeLine_65 : decode cX3_writeLine 65 = .ok (.invokestatic 107, 3) := by decide +kernel
theorem dX3_writeLine_68 : decode cX3_writeLine 68 = .ok (.invokevirtual 98, 3) := by decide +kernel
theorem dX3_writeLine_71 : decode cX3_writeLine 71 = .ok (.iinc 3 1, 3) := by decide +kernel
theorem dX3_writeLine_74 : decode cX3_writeLine 74 = .ok (.goto (-72), 3) := by decide +kernel
theorem dX3_writeLine_77 : decode cX3_writeLine 77 = .ok (.return_, 1) := by decide +kernel
theorem dX4_init_0 : decode cX4_init 0 = .ok (.aload_n 0, 1) := by decide +kernel
theorem dX4_init_1 : decode cX4_init 1 = .ok (.invokespecial 1, 3) := by decide +kernel
theorem dX4_init_4 : decode cX4_init 4 = .ok (.aload_n 0, 1) := by decide +kernel
theorem dX4_init_5 : decode cX4_init 5 = .ok (.iconst 0, 1) := by decide +kernel
theorem dX4_init_6 : decode cX4_init 6 = .ok (.putfield 7, 3) := by decide +kernel
theorem dX4_init_9 : decode cX4_init 9 = .ok (.aload_n 0, 1) := by decide +kernel
theorem dX4_init_10 : decode cX4_init 10 = .ok (.iconst 0, 1) := by decide +kernel
theorem dX4_init_11 : decode cX4_init 11 = .ok (.putfield 13, 3) := by decide +kernel
theorem dX4_init_14 : decode cX4_init 14 = .ok (.aload_n 0, 1) := by decide +kernel
theorem dX4_init_15 : decode cX4_init 15 = .ok (.iconst 0, 1) := by decide +kernel
theorem dX4_init_16 : decode cX4_init 16 = .ok (.putfield 16, 3) := by decide +kernel
theorem dX4_init_19 : decode cX4_init 19 = .ok (.return_, 1) := by decide +kernel
theorem dX4_copyFrom_0 : decode cX4_copyFrom 0 = .ok (.aload_n 0, 1) := by decide +kernel
theorem dX4_copyFrom_1 : decode cX4_copyFrom 1 = .ok (.aload_n 1, 1) := by decide +kernel
theorem dX4_copyFrom_2 : decode cX4_copyFrom 2 = .ok (.getfield 7, 3) := by decide +kernel
theorem dX4_copyFrom_5 : decode cX4_copyFrom 5 = .ok (.putfield 7, 3) := by decide +kernel
theorem dX4_copyFrom_8 : decode cX4_copyFrom 8 = .ok (.aload_n 0, 1) := by decide +kernel
theorem dX4_copyFrom_9 : decode cX4_copyFrom 9 = .ok (.aload_n 1, 1) := by decide +kernel
theorem dX4_copyFrom_10 : decode cX4_copyFrom 10 = .ok (.getfield 13, 3) := by decide +kernel
theorem dX4_copyFrom_13 : decode cX4_copyFrom 13 = .ok (.putfield 13, 3) := by decide +kernel
theorem dX4_copyFrom_16 : decode cX4_copyFrom 16 = .ok (.aload_n 0, 1) := by decide +kernel
theorem dX4_copyFrom_17 : decode cX4_copyFrom 17 = .ok (.aload_n 1, 1) := by decide +kernel
theorem dX4_copyFrom_18 : decode cX4_copyFrom 18 = .ok (.getfield 16, 3) := by decide +kernel
theorem dX4_copyFrom_21 : decode cX4_copyFrom 21 = .ok (.putfield 16, 3) := by decide +kernel
theorem dX4_copyFrom_24 : decode cX4_copyFrom 24 = .ok (.return_, 1) := by decide +kernel
theorem dX4_places_0 : decode cX4_places 0 = .ok (.aload_n 0, 1) := by decide +kernel
theorem dX4_places_1 : decode cX4_places 1 = .ok (.getfield 13, 3) := by decide +kernel
theorem dX4_places_4 : decode cX4_places 4 = .ok (.aload_n 0, 1) := by decide +kernel
theorem dX4_places_5 : decode cX4_places 5 = .ok (.getfield 16, 3) := by decide +kernel
theorem dX4_places_8 : decode cX4_places 8 = .ok (.ior, 1) := by decide +kernel
theorem dX4_places_9 : decode cX4_places 9 = .ok (.ireturn, 1) := by decide +kernel
theorem dX4_isOf_0 : decode cX4_isOf 0 = .ok (.aload_n 1, 1) := by decide +kernel
theorem dX4_isOf_1 : decode cX4_isOf 1 = .ok (.getfield 19, 3) := by decide +kernel
theorem dX4_isOf_4 : decode cX4_isOf 4 = .ok (.iload_n 2, 1) := by decide +kernel
theorem dX4_isOf_5 : decode cX4_isOf 5 = .ok (.iand, 1) := by decide +kernel
theorem dX4_isOf_6 : decode cX4_isOf 6 = .ok (.aload_n 0, 1) := by decide +kernel
theorem dX4_isOf_7 : decode cX4_isOf 7 = .ok (.getfield 13, 3) := by decide +kernel
theorem dX4_isOf_10 : decode cX4_isOf 10 = .ok (.if_icmp .ne 20, 3) := by decide +kernel
theorem dX4_isOf_13 : decode cX4_isOf 13 = .ok (.aload_n 1, 1) := by decide +kernel
theorem dX4_isOf_14 : decode cX4_isOf 14 = .ok (.getfield 22, 3) := by decide +kernel
theorem dX4_isOf_17 : decode cX4_isOf 17 = .ok (.iload_n 2, 1) := by decide +kernel
theorem dX4_isOf_18 : decode cX4_isOf 18 = .ok (.iand, 1) := by decide +kernel
theorem dX4_isOf_19 : decode cX4_isOf 19 = .ok (.aload_n 0, 1) := by decide +kernel
theorem dX4_isOf_20 : decode cX4_isOf 20 = .ok (.getfield 16, 3) := by decide +kernel
theorem dX4_isOf_23 : decode cX4_isOf 23 = .ok (.if_icmp .ne 7, 3) := by decide +kernel
theorem dX4_isOf_26 : decode cX4_isOf 26 = .ok (.iconst 1, 1) := by decide +kernel
theorem dX4_isOf_27 : decode cX4_isOf 27 = .ok (.goto 4, 3) := by decide +kernel
theorem dX4_isOf_30 : decode cX4_isOf 30 = .ok (.iconst 0, 1) := by decide +kernel
theorem dX4_isOf_31 : decode cX4_isOf 31 = .ok (.ireturn, 1) := by decide +kernel
theorem dX5_init_0 : decode cX5_init 0 = .ok (.aload_n 0, 1) := by decide +kernel
theorem dX5_init_1 : decode cX5_init 1 = .ok (.invokespecial 3, 3) := by decide +kernel
theorem dX5_init_4 : decode cX5_init 4 = .ok (.aload_n 0, 1) := by decide +kernel
theorem dX5_init_5 : decode cX5_init 5 = .ok (.bipush 24, 2) := by decide +kernel
theorem dX5_init_7 : decode cX5_init 7 = .ok (.newarray .int, 2) := by decide +kernel
theorem dX5_init_9 : decode cX5_init 9 = .ok (.putfield 9, 3) := by decide +kernel
theorem dX5_init_12 : decode cX5_init 12 = .ok (.return_, 1) := by decide +kernel
theorem dX5_separate_0 : decode cX5_separate 0 = .ok (.iconst 0, 1) := by decide +kernel
theorem dX5_separate_1 : decode cX5_separate 1 = .ok (.istore_n 1, 1) := by decide +kernel
theorem dX5_separate_2 : decode cX5_separate 2 = .ok (.iload_n 1, 1) := by decide +kernel
theorem dX5_separate_3 : decode cX5_separate 3 = .ok (.bipush 24, 2) := by decide +kernel
theorem dX5_separate_5 : decode cX5_separate 5 = .ok (.if_icmp .ge 16, 3) := by decide +kernel
theorem dX5_separate_8 : decode cX5_separate 8 = .ok (.aload_n 0, 1) := by decide +kernel
theorem dX5_separate_9 : decode cX5_separate 9 = .ok (.getfield 9, 3) := by decide +kernel
theorem dX5_separate_12 : decode cX5_separate 12 = .ok (.iload_n 1, 1) := by decide +kernel
theorem dX5_separate_13 : decode cX5_separate 13 = .ok (.iload_n 1, 1) := by decide +kernel
theorem dX5_separate_14 : decode cX5_separate 14 = .ok (.iastore, 1) := by decide +kernel
theorem dX5_separate_15 : decode cX5_separate 15 = .ok (.iinc 1 1, 3) := by decide +kernel
theorem dX5_separate_18 : decode cX5_separate 18 = .ok (.goto (-16), 3) := by decide +kernel
theorem dX5_separate_21 : decode cX5_separate 21 = .ok (.return_, 1) := by decide +kernel
theorem dX5_joinAll_0 : decode cX5_joinAll 0 = .ok (.iconst 0, 1) := by decide +kernel
theorem dX5_joinAll_1 : decode cX5_joinAll 1 = .ok (.istore_n 3, 1) := by decide +kernel
theorem dX5_joinAll_2 : decode cX5_joinAll 2 = .ok (.iconst 0, 1) := by decide +kernel
theorem dX5_joinAll_3 : decode cX5_joinAll 3 = .ok (.istore 4, 2) := by decide +kernel
theorem dX5_joinAll_5 : decode cX5_joinAll 5 = .ok (.iload 4, 2) := by decide +kernel
theorem dX5_joinAll_7 : decode cX5_joinAll 7 = .ok (.bipush 24, 2) := by decide +kernel
theorem dX5_joinAll_9 : decode cX5_joinAll 9 = .ok (.if_icmp .ge 34, 3) := by decide +kernel
theorem dX5_joinAll_12 : decode cX5_joinAll 12 = .ok (.iload_n 1, 1) := by decide +kernel
theorem dX5_joinAll_13 : decode cX5_joinAll 13 = .ok (.iload 4, 2) := by decide +kernel
theorem dX5_joinAll_15 : decode cX5_joinAll 15 = .ok (.invokestatic 15, 3) := by decide +kernel
theorem dX5_joinAll_18 : decode cX5_joinAll 18 = .ok (.ifCond .eq 19, 3) := by decide +kernel
theorem dX5_joinAll_21 : decode cX5_joinAll 21 = .ok (.aload_n 0, 1) := by decide +kernel
theorem dX5_joinAll_22 : decode cX5_joinAll 22 = .ok (.iload 4, 2) := by decide +kernel
theorem dX5_joinAll_24 : decode cX5_joinAll 24 = .ok (.iload 4, 2) := by decide +kernel
theorem dX5_joinAll_26 : decode cX5_joinAll 26 = .ok (.iload_n 2, 1) := by decide +kernel
theorem dX5_joinAll_27 : decode cX5_joinAll 27 = .ok (.iadd, 1) := by decide +kernel
theorem dX5_joinAll_28 : decode cX5_joinAll 28 = .ok (.invokevirtual 19, 3) := by decide +kernel
theorem dX5_joinAll_31 : decode cX5_joinAll 31 = .ok (.ifCond .eq 6, 3) := by decide +kernel
theorem dX5_joinAll_34 : decode cX5_joinAll 34 = .ok (.iinc 3 1, 3) := by decide +kernel
theorem dX5_joinAll_37 : decode cX5_joinAll 37 = .ok (.iinc 4 1, 3) := by decide +kernel
theorem dX5_joinAll_40 : decode cX5_joinAll 40 = .ok (.goto (-35), 3) := by decide +kernel
theorem dX5_joinAll_43 : decode cX5_joinAll 43 = .ok (.iload_n 3, 1) := by decide +kernel
theorem dX5_joinAll_44 : decode cX5_joinAll 44 = .ok (.ireturn, 1) := by decide +kernel
theorem dX5_join_0 : decode cX5_join 0 = .ok (.iload_n 1, 1) := by decide +kernel
theorem dX5_join_1 : decode cX5_join 1 = .ok (.invokestatic 22, 3) := by decide +kernel
theorem dX5_join_4 : decode cX5_join 4 = .ok (.ifCond .eq 25, 3) := by decide +kernel
theorem dX5_join_7 : decode cX5_join 7 = .ok (.iload_n 2, 1) := by decide +kernel
theorem dX5_join_8 : decode cX5_join 8 = .ok (.invokestatic 22, 3) := by decide +kernel
theorem dX5_join_11 : decode cX5_join 11 = .ok (.ifCond .eq 18, 3) := by decide +kernel
theorem dX5_join_14 : decode cX5_join 14 = .ok (.aload_n 0, 1) := by decide +kernel
theorem dX5_join_15 : decode cX5_join 15 = .ok (.getfield 9, 3) := by decide +kernel
theorem dX5_join_18 : decode cX5_join 18 = .ok (.iload_n 1, 1) := by decide +kernel
theorem dX5_join_19 : decode cX5_join 19 = .ok (.iaload, 1) := by decide +kernel
theorem dX5_join_20 : decode cX5_join 20 = .ok (.aload_n 0, 1) := by decide +kernel
theorem dX5_join_21 : decode cX5_join 21 = .ok (.getfield 9, 3) := by decide +kernel
theorem dX5_join_24 : decode cX5_join 24 = .ok (.iload_n 2, 1) := by decide +kernel
theorem dX5_join_25 : decode cX5_join 25 = .ok (.iaload, 1) := by decide +kernel
theorem dX5_join_26 : decode cX5_join 26 = .ok (.if_icmp .ne 5, 3) := by decide +kernel
theorem dX5_join_29 : decode cX5_join 29 = .ok (.iconst 0, 1) := by decide +kernel
theorem dX5_join_30 : decode cX5_join 30 = .ok (.ireturn, 1) := by decide +kernel
theorem dX5_join_31 : decode cX5_join 31 = .ok (.aload_n 0, 1) := by decide +kernel
theorem dX5_join_32 : decode cX5_join 32 = .ok (.getfield 9, 3) := by decide +kernel
theorem dX5_join_35 : decode cX5_join 35 = .ok (.iload_n 1, 1) := by decide +kernel
theorem dX5_join_36 : decode cX5_join 36 = .ok (.iaload, 1) := by decide +kernel
theorem dX5_join_37 : decode cX5_join 37 = .ok (.istore_n 3, 1) := by decide +kernel
theorem dX5_join_38 : decode cX5_join 38 = .ok (.aload_n 0, 1) := by decide +kernel
theorem dX5_join_39 : decode cX5_join 39 = .ok (.getfield 9, 3) := by decide +kernel
theorem dX5_join_42 : decode cX5_join 42 = .ok (.iload_n 2, 1) := by decide +kernel
theorem dX5_join_43 : decode cX5_join 43 = .ok (.iaload, 1) := by decide +kernel
theorem dX5_join_44 : decode cX5_join 44 = .ok (.istore 4, 2) := by decide +kernel
theorem dX5_join_46 : decode cX5_join 46 = .ok (.iconst 0, 1) := by decide +kernel
theorem dX5_join_47 : decode cX5_join 47 = .ok (.istore 5, 2) := by decide +kernel
theorem dX5_join_49 : decode cX5_join 49 = .ok (.iload 5, 2) := by decide +kernel
theorem dX5_join_51 : decode cX5_join 51 = .ok (.bipush 24, 2) := by decide +kernel
theorem dX5_join_53 : decode cX5_join 53 = .ok (.if_icmp .ge 29, 3) := by decide +kernel
theorem dX5_join_56 : decode cX5_join 56 = .ok (.aload_n 0, 1) := by decide +kernel
theorem dX5_join_57 : decode cX5_join 57 = .ok (.getfield 9, 3) := by decide +kernel
theorem dX5_join_60 : decode cX5_join 60 = .ok (.iload 5, 2) := by decide +kernel
theorem dX5_join_62 : decode cX5_join 62 = .ok (.iaload, 1) := by decide +kernel
theorem dX5_join_63 : decode cX5_join 63 = .ok (.iload 4, 2) := by decide +kernel
theorem dX5_join_65 : decode cX5_join 65 = .ok (.if_icmp .ne 11, 3) := by decide +kernel
theorem dX5_join_68 : decode cX5_join 68 = .ok (.aload_n 0, 1) := by decide +kernel
theorem dX5_join_69 : decode cX5_join 69 = .ok (.getfield 9, 3) := by decide +kernel
theorem dX5_join_72 : decode cX5_join 72 = .ok (.iload 5, 2) := by decide +kernel
theorem dX5_join_74 : decode cX5_join 74 = .ok (.iload_n 3, 1) := by decide +kernel
theorem dX5_join_75 : decode cX5_join 75 = .ok (.iastore, 1) := by decide +kernel
theorem dX5_join_76 : decode cX5_join 76 = .ok (.iinc 5 1, 3) := by decide +kernel
theorem dX5_join_79 : decode cX5_join 79 = .ok (.goto (-30), 3) := by decide +kernel
theorem dX5_join_82 : decode cX5_join 82 = .ok (.iconst 1, 1) := by decide +kernel
theorem dX5_join_83 : decode cX5_join 83 = .ok (.ireturn, 1) := by decide +kernel
theorem dX6_init_0 : decode cX6_init 0 = .ok (.aload_n 0, 1) := by decide +kernel
theorem dX6_init_1 : decode cX6_init 1 = .ok (.invokespecial 3, 3) := by decide +kernel
theorem dX6_init_4 : decode cX6_init 4 = .ok (.aload_n 0, 1) := by decide +kernel
theorem dX6_init_5 : decode cX6_init 5 = .ok (.iconst 0, 1) := by decide +kernel
theorem dX6_init_6 : decode cX6_init 6 = .ok (.putfield 9, 3) := by decide +kernel
theorem dX6_init_9 : decode cX6_init 9 = .ok (.aload_n 0, 1) := by decide +kernel
theorem dX6_init_10 : decode cX6_init 10 = .ok (.iconst 0, 1) := by decide +kernel
theorem dX6_init_11 : decode cX6_init 11 = .ok (.putfield 15, 3) := by decide +kernel
theorem dX6_init_14 : decode cX6_init 14 = .ok (.aload_n 0, 1) := by decide +kernel
theorem dX6_init_15 : decode cX6_init 15 = .ok (.iconst 0, 1) := by decide +kernel
theorem dX6_init_16 : decode cX6_init 16 = .ok (.putfield 18, 3) := by decide +kernel
theorem dX6_init_19 : decode cX6_init 19 = .ok (.aload_n 0, 1) := by decide +kernel
theorem dX6_init_20 : decode cX6_init 20 = .ok (.iconst 0, 1) := by decide +kernel
theorem dX6_init_21 : decode cX6_init 21 = .ok (.putfield 21, 3) := by decide +kernel
theorem dX6_init_24 : decode cX6_init 24 = .ok (.return_, 1) := by decide +kernel
theorem dX6_keepAlone_0 : decode cX6_keepAlone 0 = .ok (.aload_n 0, 1) := by decide +kernel
theorem dX6_keepAlone_1 : decode cX6_keepAlone 1 = .ok (.iload_n 1, 1) := by decide +kernel
theorem dX6_keepAlone_2 : decode cX6_keepAlone 2 = .ok (.putfield 9, 3) := by decide +kernel
theorem dX6_keepAlone_5 : decode cX6_keepAlone 5 = .ok (.aload_n 0, 1) := by decide +kernel
theorem dX6_keepAlone_6 : decode cX6_keepAlone 6 = .ok (.iload_n 2, 1) := by decide +kernel
theorem dX6_keepAlone_7 : decode cX6_keepAlone 7 = .ok (.putfield 15, 3) := by decide +kernel
theorem dX6_keepAlone_10 : decode cX6_keepAlone 10 = .ok (.aload_n 0, 1) := by decide +kernel
theorem dX6_keepAlone_11 : decode cX6_keepAlone 11 = .ok (.iconst 0, 1) := by decide +kernel
theorem dX6_keepAlone_12 : decode cX6_keepAlone 12 = .ok (.putfield 18, 3) := by decide +kernel
theorem dX6_keepAlone_15 : decode cX6_keepAlone 15 = .ok (.aload_n 0, 1) := by decide +kernel
theorem dX6_keepAlone_16 : decode cX6_keepAlone 16 = .ok (.iconst 0, 1) := by decide +kernel
theorem dX6_keepAlone_17 : decode cX6_keepAlone 17 = .ok (.putfield 21, 3) := by decide +kernel
theorem dX6_keepAlone_20 : decode cX6_keepAlone 20 = .ok (.return_, 1) := by decide +kernel
theorem dX6_keepOrder_0 : decode cX6_keepOrder 0 = .ok (.aload_n 0, 1) := by decide +kernel
theorem dX6_keepOrder_1 : decode cX6_keepOrder 1 = .ok (.bipush 9, 2) := by decide +kernel
theorem dX6_keepOrder_3 : decode cX6_keepOrder 3 = .ok (.putfield 9, 3) := by decide +kernel
theorem dX6_keepOrder_6 : decode cX6_keepOrder 6 = .ok (.aload_n 0, 1) := by decide +kernel
theorem dX6_keepOrder_7 : decode cX6_keepOrder 7 = .ok (.iload_n 1, 1) := by decide +kernel
theorem dX6_keepOrder_8 : decode cX6_keepOrder 8 = .ok (.putfield 15, 3) := by decide +kernel
theorem dX6_keepOrder_11 : decode cX6_keepOrder 11 = .ok (.aload_n 0, 1) := by decide +kernel
theorem dX6_keepOrder_12 : decode cX6_keepOrder 12 = .ok (.iload_n 2, 1) := by decide +kernel
theorem dX6_keepOrder_13 : decode cX6_keepOrder 13 = .ok (.putfield 18, 3) := by decide +kernel
theorem dX6_keepOrder_16 : decode cX6_keepOrder 16 = .ok (.aload_n 0, 1) := by decide +kernel
theorem dX6_keepOrder_17 : decode cX6_keepOrder 17 = .ok (.iload_n 3, 1) := by decide +kernel
theorem dX6_keepOrder_18 : decode cX6_keepOrder 18 = .ok (.putfield 21, 3) := by decide +kernel
theorem dX6_keepOrder_21 : decode cX6_keepOrder 21 = .ok (.return_, 1) := by decide +kernel
theorem dX7_init_0 : decode cX7_init 0 = .ok (.aload_n 0, 1) := by decide +kernel
theorem dX7_init_1 : decode cX7_init 1 = .ok (.invokespecial 3, 3) := by decide +kernel
theorem dX7_init_4 : decode cX7_init 4 = .ok (.aload_n 0, 1) := by decide +kernel
theorem dX7_init_5 : decode cX7_init 5 = .ok (.bipush 60, 2) := by decide +kernel
theorem dX7_init_7 : decode cX7_init 7 = .ok (.newarray .char, 2) := by decide +kernel
theorem dX7_init_9 : decode cX7_init 9 = .ok (.putfield 9, 3) := by decide +kernel
theorem dX7_init_12 : decode cX7_init 12 = .ok (.aload_n 0, 1) := by decide +kernel
theorem dX7_init_13 : decode cX7_init 13 = .ok (.iconst 0, 1) := by decide +kernel
theorem dX7_init_14 : decode cX7_init 14 = .ok (.putfield 15, 3) := by decide +kernel
theorem dX7_init_17 : decode cX7_init 17 = .ok (.aload_n 0, 1) := by decide +kernel
theorem dX7_init_18 : decode cX7_init 18 = .ok (.iconst 0, 1) := by decide +kernel
theorem dX7_init_19 : decode cX7_init 19 = .ok (.putfield 19, 3) := by decide +kernel
theorem dX7_init_22 : decode cX7_init 22 = .ok (.aload_n 0, 1) := by decide +kernel
theorem dX7_init_23 : decode cX7_init 23 = .ok (.bipush 9, 2) := by decide +kernel
theorem dX7_init_25 : decode cX7_init 25 = .ok (.newarray .int, 2) := by decide +kernel
theorem dX7_init_27 : decode cX7_init 27 = .ok (.putfield 22, 3) := by decide +kernel
theorem dX7_init_30 : decode cX7_init 30 = .ok (.aload_n 0, 1) := by decide +kernel
theorem dX7_init_31 : decode cX7_init 31 = .ok (.bipush 9, 2) := by decide +kernel
theorem dX7_init_33 : decode cX7_init 33 = .ok (.iconst 4, 1) := by decide +kernel
theorem dX7_init_34 : decode cX7_init 34 = .ok (.multianewarray 26 2, 4) := by decide +kernel
theorem dX7_init_38 : decode cX7_init 38 = .ok (.putfield 28, 3) := by decide +kernel
theorem dX7_init_41 : decode cX7_init 41 = .ok (.aload_n 0, 1) := by decide +kernel
theorem dX7_init_42 : decode cX7_init 42 = .ok (.iconst 0, 1) := by decide +kernel
theorem dX7_init_43 : decode cX7_init 43 = .ok (.putfield 31, 3) := by decide +kernel
theorem dX7_init_46 : decode cX7_init 46 = .ok (.return_, 1) := by decide +kernel
theorem dX7_isFull_0 : decode cX7_isFull 0 = .ok (.aload_n 0, 1) := by decide +kernel
theorem dX7_isFull_1 : decode cX7_isFull 1 = .ok (.getfield 15, 3) := by decide +kernel
theorem dX7_isFull_4 : decode cX7_isFull 4 = .ok (.bipush 60, 2) := by decide +kernel
theorem dX7_isFull_6 : decode cX7_isFull 6 = .ok (.if_icmp .lt 7, 3) := by decide +kernel
theorem dX7_isFull_9 : decode cX7_isFull 9 = .ok (.iconst 1, 1) := by decide +kernel
theorem dX7_isFull_10 : decode cX7_isFull 10 = .ok (.goto 4, 3) := by decide +kernel
theorem dX7_isFull_13 : decode cX7_isFull 13 = .ok (.iconst 0, 1) := by decide +kernel
theorem dX7_isFull_14 : decode cX7_isFull 14 = .ok (.ireturn, 1) := by decide +kernel
theorem dX7_append_0 : decode cX7_append 0 = .ok (.aload_n 0, 1) := by decide +kernel
theorem dX7_append_1 : decode cX7_append 1 = .ok (.getfield 15, 3) := by decide +kernel
theorem dX7_append_4 : decode cX7_append 4 = .ok (.ifCond .lt 32, 3) := by decide +kernel
theorem dX7_append_7 : decode cX7_append 7 = .ok (.aload_n 0, 1) := by decide +kernel
theorem dX7_append_8 : decode cX7_append 8 = .ok (.getfield 15, 3) := by decide +kernel
theorem dX7_append_11 : decode cX7_append 11 = .ok (.bipush 60, 2) := by decide +kernel
theorem dX7_append_13 : decode cX7_append 13 = .ok (.if_icmp .ge 23, 3) := by decide +kernel
theorem dX7_append_16 : decode cX7_append 16 = .ok (.aload_n 0, 1) := by decide +kernel
theorem dX7_append_17 : decode cX7_append 17 = .ok (.getfield 9, 3) := by decide +kernel
theorem dX7_append_20 : decode cX7_append 20 = .ok (.aload_n 0, 1) := by decide +kernel
theorem dX7_append_21 : decode cX7_append 21 = .ok (.getfield 15, 3) := by decide +kernel
theorem dX7_append_24 : decode cX7_append 24 = .ok (.iload_n 1, 1) := by decide +kernel
theorem dX7_append_25 : decode cX7_append 25 = .ok (.castore, 1) := by decide +kernel
theorem dX7_append_26 : decode cX7_append 26 = .ok (.aload_n 0, 1) := by decide +kernel
theorem dX7_append_27 : decode cX7_append 27 = .ok (.dup, 1) := by decide +kernel
theorem dX7_append_28 : decode cX7_append 28 = .ok (.getfield 15, 3) := by decide +kernel
theorem dX7_append_31 : decode cX7_append 31 = .ok (.iconst 1, 1) := by decide +kernel
theorem dX7_append_32 : decode cX7_append 32 = .ok (.iadd, 1) := by decide +kernel
theorem dX7_append_33 : decode cX7_append 33 = .ok (.putfield 15, 3) := by decide +kernel
theorem dX7_append_36 : decode cX7_append 36 = .ok (.return_, 1) := by decide +kernel
theorem dX7_clear_0 : decode cX7_clear 0 = .ok (.aload_n 0, 1) := by decide +kernel
theorem dX7_clear_1 : decode cX7_clear 1 = .ok (.iconst 0, 1) := by decide +kernel
theorem dX7_clear_2 : decode cX7_clear 2 = .ok (.putfield 15, 3) := by decide +kernel
theorem dX7_clear_5 : decode cX7_clear 5 = .ok (.return_, 1) := by decide +kernel
theorem dX7_wordAt_0 : decode cX7_wordAt 0 = .ok (.iload_n 1, 1) := by decide +kernel
theorem dX7_wordAt_1 : decode cX7_wordAt 1 = .ok (.ifCond .lt 18, 3) := by decide +kernel
theorem dX7_wordAt_4 : decode cX7_wordAt 4 = .ok (.iload_n 1, 1) := by decide +kernel
theorem dX7_wordAt_5 : decode cX7_wordAt 5 = .ok (.bipush 9, 2) := by decide +kernel
theorem dX7_wordAt_7 : decode cX7_wordAt 7 = .ok (.if_icmp .ge 12, 3) := by decide +kernel
theorem dX7_wordAt_10 : decode cX7_wordAt 10 = .ok (.aload_n 0, 1) := by decide +kernel
theorem dX7_wordAt_11 : decode cX7_wordAt 11 = .ok (.getfield 22, 3) := by decide +kernel
theorem dX7_wordAt_14 : decode cX7_wordAt 14 = .ok (.iload_n 1, 1) := by decide +kernel
theorem dX7_wordAt_15 : decode cX7_wordAt 15 = .ok (.iaload, 1) := by decide +kernel
theorem dX7_wordAt_16 : decode cX7_wordAt 16 = .ok (.goto 4, 3) := by decide +kernel
theorem dX7_wordAt_19 : decode cX7_wordAt 19 = .ok (.iconst (-1), 1) := by decide +kernel
theorem dX7_wordAt_20 : decode cX7_wordAt 20 = .ok (.ireturn, 1) := by decide +kernel
theorem dX7_putWord_0 : decode cX7_putWord 0 = .ok (.iload_n 1, 1) := by decide +kernel
theorem dX7_putWord_1 : decode cX7_putWord 1 = .ok (.ifCond .lt 16, 3) := by decide +kernel
theorem dX7_putWord_4 : decode cX7_putWord 4 = .ok (.iload_n 1, 1) := by decide +kernel
theorem dX7_putWord_5 : decode cX7_putWord 5 = .ok (.bipush 9, 2) := by decide +kernel
theorem dX7_putWord_7 : decode cX7_putWord 7 = .ok (.if_icmp .ge 10, 3) := by decide +kernel
theorem dX7_putWord_10 : decode cX7_putWord 10 = .ok (.aload_n 0, 1) := by decide +kernel
theorem dX7_putWord_11 : decode cX7_putWord 11 = .ok (.getfield 22, 3) := by decide +kernel
theorem dX7_putWord_14 : decode cX7_putWord 14 = .ok (.iload_n 1, 1) := by decide +kernel
theorem dX7_putWord_15 : decode cX7_putWord 15 = .ok (.iload_n 2, 1) := by decide +kernel
theorem dX7_putWord_16 : decode cX7_putWord 16 = .ok (.iastore, 1) := by decide +kernel
theorem dX7_putWord_17 : decode cX7_putWord 17 = .ok (.return_, 1) := by decide +kernel
theorem dX7_numberAt_0 : decode cX7_numberAt 0 = .ok (.iload_n 1, 1) := by decide +kernel
theorem dX7_numberAt_1 : decode cX7_numberAt 1 = .ok (.ifCond .lt 18, 3) := by decide +kernel
theorem dX7_numberAt_4 : decode cX7_numberAt 4 = .ok (.iload_n 1, 1) := by decide +kernel
theorem dX7_numberAt_5 : decode cX7_numberAt 5 = .ok (.bipush 9, 2) := by decide +kernel
theorem dX7_numberAt_7 : decode cX7_numberAt 7 = .ok (.if_icmp .ge 12, 3) := by decide +kernel
theorem dX7_numberAt_10 : decode cX7_numberAt 10 = .ok (.iload_n 2, 1) := by decide +kernel
theorem dX7_numberAt_11 : decode cX7_numberAt 11 = .ok (.ifCond .lt 8, 3) := by decide +kernel
theorem dX7_numberAt_14 : decode cX7_numberAt 14 = .ok (.iload_n 2, 1) := by decide +kernel
theorem dX7_numberAt_15 : decode cX7_numberAt 15 = .ok (.iconst 4, 1) := by decide +kernel
theorem dX7_numberAt_16 : decode cX7_numberAt 16 = .ok (.if_icmp .lt 5, 3) := by decide +kernel
theorem dX7_numberAt_19 : decode cX7_numberAt 19 = .ok (.iconst (-1), 1) := by decide +kernel
theorem dX7_numberAt_20 : decode cX7_numberAt 20 = .ok (.ireturn, 1) := by decide +kernel
theorem dX7_numberAt_21 : decode cX7_numberAt 21 = .ok (.aload_n 0, 1) := by decide +kernel
theorem dX7_numberAt_22 : decode cX7_numberAt 22 = .ok (.getfield 28, 3) := by decide +kernel
theorem dX7_numberAt_25 : decode cX7_numberAt 25 = .ok (.iload_n 1, 1) := by decide +kernel
theorem dX7_numberAt_26 : decode cX7_numberAt 26 = .ok (.aaload, 1) := by decide +kernel
theorem dX7_numberAt_27 : decode cX7_numberAt 27 = .ok (.iload_n 2, 1) := by decide +kernel
theorem dX7_numberAt_28 : decode cX7_numberAt 28 = .ok (.iaload, 1) := by decide +kernel
theorem dX7_numberAt_29 : decode cX7_numberAt 29 = .ok (.ireturn, 1) := by decide +kernel
theorem dX7_putNumber_0 : decode cX7_putNumber 0 = .ok (.iload_n 1, 1) := by decide +kernel
theorem dX7_putNumber_1 : decode cX7_putNumber 1 = .ok (.ifCond .lt 27, 3) := by decide +kernel
theorem dX7_putNumber_4 : decode cX7_putNumber 4 = .ok (.iload_n 1, 1) := by decide +kernel
theorem dX7_putNumber_5 : decode cX7_putNumber 5 = .ok (.bipush 9, 2) := by decide +kernel
theorem dX7_putNumber_7 : decode cX7_putNumber 7 = .ok (.if_icmp .ge 21, 3) := by decide +kernel
theorem dX7_putNumber_10 : decode cX7_putNumber 10 = .ok (.iload_n 2, 1) := by decide +kernel
theorem dX7_putNumber_11 : decode cX7_putNumber 11 = .ok (.ifCond .lt 17, 3) := by decide +kernel
theorem dX7_putNumber_14 : decode cX7_putNumber 14 = .ok (.iload_n 2, 1) := by decide +kernel
theorem dX7_putNumber_15 : decode cX7_putNumber 15 = .ok (.iconst 4, 1) := by decide +kernel
theorem dX7_putNumber_16 : decode cX7_putNumber 16 = .ok (.if_icmp .ge 12, 3) := by decide +kernel
theorem dX7_putNumber_19 : decode cX7_putNumber 19 = .ok (.aload_n 0, 1) := by decide +kernel
theorem dX7_putNumber_20 : decode cX7_putNumber 20 = .ok (.getfield 28, 3) := by decide +kernel
theorem dX7_putNumber_23 : decode cX7_putNumber 23 = .ok (.iload_n 1, 1) := by decide +kernel
theorem dX7_putNumber_24 : decode cX7_putNumber 24 = .ok (.aaload, 1) := by decide +kernel
theorem dX7_putNumber_25 : decode cX7_putNumber 25 = .ok (.iload_n 2, 1) := by decide +kernel
theorem dX7_putNumber_26 : decode cX7_putNumber 26 = .ok (.iload_n 3, 1) := by decide +kernel
theorem dX7_putNumber_27 : decode cX7_putNumber 27 = .ok (.iastore, 1) := by decide +kernel
theorem dX7_putNumber_28 : decode cX7_putNumber 28 = .ok (.return_, 1) := by decide +kernel
theorem dX7_findFault_0 : decode cX7_findFault 0 = .ok (.aload_n 0, 1) := by decide +kernel
theorem dX7_findFault_1 : decode cX7_findFault 1 = .ok (.iconst 0, 1) := by decide +kernel
theorem dX7_findFault_2 : decode cX7_findFault 2 = .ok (.putfield 19, 3) := by decide +kernel
theorem dX7_findFault_5 : decode cX7_findFault 5 = .ok (.aload_n 0, 1) := by decide +kernel
theorem dX7_findFault_6 : decode cX7_findFault 6 = .ok (.iconst 0, 1) := by decide +kernel
theorem dX7_findFault_7 : decode cX7_findFault 7 = .ok (.putfield 31, 3) := by decide +kernel
theorem dX7_findFault_10 : decode cX7_findFault 10 = .ok (.iconst 0, 1) := by decide +kernel
theorem dX7_findFault_11 : decode cX7_findFault 11 = .ok (.istore_n 1, 1) := by decide +kernel
theorem dX7_findFault_12 : decode cX7_findFault 12 = .ok (.iload_n 1, 1) := by decide +kernel
theorem dX7_findFault_13 : decode cX7_findFault 13 = .ok (.bipush 9, 2) := by decide +kernel
theorem dX7_findFault_15 : decode cX7_findFault 15 = .ok (.if_icmp .ge 69, 3) := by decide +kernel
theorem dX7_findFault_18 : decode cX7_findFault 18 = .ok (.aload_n 0, 1) := by decide +kernel
theorem dX7_findFault_19 : decode cX7_findFault 19 = .ok (.iload_n 1, 1) := by decide +kernel
theorem dX7_findFault_20 : decode cX7_findFault 20 = .ok (.invokevirtual 34, 3) := by decide +kernel
theorem dX7_findFault_23 : decode cX7_findFault 23 = .ok (.ifCond .ne 8, 3) := by decide +kernel
theorem dX7_findFault_26 : decode cX7_findFault 26 = .ok (.aload_n 0, 1) := by decide +kernel
theorem dX7_findFault_27 : decode cX7_findFault 27 = .ok (.getfield 19, 3) := by decide +kernel
theorem dX7_findFault_30 : decode cX7_findFault 30 = .ok (.ireturn, 1) := by decide +kernel
theorem dX7_findFault_31 : decode cX7_findFault 31 = .ok (.aload_n 0, 1) := by decide +kernel
theorem dX7_findFault_32 : decode cX7_findFault 32 = .ok (.dup, 1) := by decide +kernel
theorem dX7_findFault_33 : decode cX7_findFault 33 = .ok (.getfield 31, 3) := by decide +kernel
theorem dX7_findFault_36 : decode cX7_findFault 36 = .ok (.iconst 1, 1) := by decide +kernel
theorem dX7_findFault_37 : decode cX7_findFault 37 = .ok (.iadd, 1) := by decide +kernel
theorem dX7_findFault_38 : decode cX7_findFault 38 = .ok (.putfield 31, 3) := by decide +kernel
theorem dX7_findFault_41 : decode cX7_findFault 41 = .ok (.aload_n 0, 1) := by decide +kernel
theorem dX7_findFault_42 : decode cX7_findFault 42 = .ok (.getfield 19, 3) := by decide +kernel
theorem dX7_findFault_45 : decode cX7_findFault 45 = .ok (.aload_n 0, 1) := by decide +kernel
theorem dX7_findFault_46 : decode cX7_findFault 46 = .ok (.getfield 15, 3) := by decide +kernel
theorem dX7_findFault_49 : decode cX7_findFault 49 = .ok (.if_icmp .lt 5, 3) := by decide +kernel
theorem dX7_findFault_52 : decode cX7_findFault 52 = .ok (.iconst (-1), 1) := by decide +kernel
theorem dX7_findFault_53 : decode cX7_findFault 53 = .ok (.ireturn, 1) := by decide +kernel
theorem dX7_findFault_54 : decode cX7_findFault 54 = .ok (.aload_n 0, 1) := by decide +kernel
theorem dX7_findFault_55 : decode cX7_findFault 55 = .ok (.bipush 59, 2) := by decide +kernel
theorem dX7_findFault_57 : decode cX7_findFault 57 = .ok (.invokevirtual 38, 3) := by decide +kernel
theorem dX7_findFault_60 : decode cX7_findFault 60 = .ok (.ifCond .ne 8, 3) := by decide +kernel
theorem dX7_findFault_63 : decode cX7_findFault 63 = .ok (.aload_n 0, 1) := by decide +kernel
theorem dX7_findFault_64 : decode cX7_findFault 64 = .ok (.getfield 19, 3) := by decide +kernel
theorem dX7_findFault_67 : decode cX7_findFault 67 = .ok (.ireturn, 1) := by decide +kernel
theorem dX7_findFault_68 : decode cX7_findFault 68 = .ok (.aload_n 0, 1) := by decide +kernel
theorem dX7_findFault_69 : decode cX7_findFault 69 = .ok (.dup, 1) := by decide +kernel
theorem dX7_findFault_70 : decode cX7_findFault 70 = .ok (.getfield 19, 3) := by decide +kernel
theorem dX7_findFault_73 : decode cX7_findFault 73 = .ok (.iconst 1, 1) := by decide +kernel
theorem dX7_findFault_74 : decode cX7_findFault 74 = .ok (.iadd, 1) := by decide +kernel
theorem dX7_findFault_75 : decode cX7_findFault 75 = .ok (.putfield 19, 3) := by decide +kernel
theorem dX7_findFault_78 : decode cX7_findFault 78 = .ok (.iinc 1 1, 3) := by decide +kernel
theorem dX7_findFault_81 : decode cX7_findFault 81 = .ok (.goto (-69), 3) := by decide +kernel
theorem dX7_findFault_84 : decode cX7_findFault 84 = .ok (.aload_n 0, 1) := by decide +kernel
theorem dX7_findFault_85 : decode cX7_findFault 85 = .ok (.getfield 19, 3) := by decide +kernel
theorem dX7_findFault_88 : decode cX7_findFault 88 = .ok (.ireturn, 1) := by decide +kernel
theorem dX7_readOrder_0 : decode cX7_readOrder 0 = .ok (.aload_n 0, 1) := by decide +kernel
theorem dX7_readOrder_1 : decode cX7_readOrder 1 = .ok (.getfield 19, 3) := by decide +kernel
theorem dX7_readOrder_4 : decode cX7_readOrder 4 = .ok (.istore_n 2, 1) := by decide +kernel
theorem dX7_readOrder_5 : decode cX7_readOrder 5 = .ok (.aload_n 0, 1) := by decide +kernel
theorem dX7_readOrder_6 : decode cX7_readOrder 6 = .ok (.getfield 19, 3) := by decide +kernel
theorem dX7_readOrder_9 : decode cX7_readOrder 9 = .ok (.istore_n 3, 1) := by decide +kernel
theorem dX7_readOrder_10 : decode cX7_readOrder 10 = .ok (.iconst 0, 1) := by decide +kernel
theorem dX7_readOrder_11 : decode cX7_readOrder 11 = .ok (.istore 4, 2) := by decide +kernel
theorem dX7_readOrder_13 : decode cX7_readOrder 13 = .ok (.iload 4, 2) := by decide +kernel
theorem dX7_readOrder_15 : decode cX7_readOrder 15 = .ok (.bipush 8, 2) := by decide +kernel
theorem dX7_readOrder_17 : decode cX7_readOrder 17 = .ok (.if_icmp .ge 45, 3) := by decide +kernel
theorem dX7_readOrder_20 : decode cX7_readOrder 20 = .ok (.aload_n 0, 1) := by decide +kernel
theorem dX7_readOrder_21 : decode cX7_readOrder 21 = .ok (.iload_n 2, 1) := by decide +kernel
theorem dX7_readOrder_22 : decode cX7_readOrder 22 = .ok (.putfield 19, 3) := by decide +kernel
theorem dX7_readOrder_25 : decode cX7_readOrder 25 = .ok (.aload_n 0, 1) := by decide +kernel
theorem dX7_readOrder_26 : decode cX7_readOrder 26 = .ok (.iload 4, 2) := by decide +kernel
theorem dX7_readOrder_28 : decode cX7_readOrder 28 = .ok (.invokestatic 42, 3) := by decide +kernel
theorem dX7_readOrder_31 : decode cX7_readOrder 31 = .ok (.iload_n 1, 1) := by decide +kernel
theorem dX7_readOrder_32 : decode cX7_readOrder 32 = .ok (.invokevirtual 46, 3) := by decide +kernel
theorem dX7_readOrder_35 : decode cX7_readOrder 35 = .ok (.ifCond .eq 12, 3) := by decide +kernel
theorem dX7_readOrder_38 : decode cX7_readOrder 38 = .ok (.aload_n 0, 1) := by decide +kernel
theorem dX7_readOrder_39 : decode cX7_readOrder 39 = .ok (.iload_n 1, 1) := by decide +kernel
theorem dX7_readOrder_40 : decode cX7_readOrder 40 = .ok (.iload 4, 2) := by decide +kernel
theorem dX7_readOrder_42 : decode cX7_readOrder 42 = .ok (.invokevirtual 50, 3) := by decide +kernel
theorem dX7_readOrder_45 : decode cX7_readOrder 45 = .ok (.iconst 1, 1) := by decide +kernel
theorem dX7_readOrder_46 : decode cX7_readOrder 46 = .ok (.ireturn, 1) := by decide +kernel
theorem dX7_readOrder_47 : decode cX7_readOrder 47 = .ok (.iload_n 3, 1) := by decide +kernel
theorem dX7_readOrder_48 : decode cX7_readOrder 48 = .ok (.aload_n 0, 1) := by decide +kernel
theorem dX7_readOrder_49 : decode cX7_readOrder 49 = .ok (.getfield 19, 3) := by decide +kernel
theorem dX7_readOrder_52 : decode cX7_readOrder 52 = .ok (.invokestatic 54, 3) := by decide +kernel
theorem dX7_readOrder_55 : decode cX7_readOrder 55 = .ok (.istore_n 3, 1) := by decide +kernel
theorem dX7_readOrder_56 : decode cX7_readOrder 56 = .ok (.iinc 4 1, 3) := by decide +kernel
theorem dX7_readOrder_59 : decode cX7_readOrder 59 = .ok (.goto (-46), 3) := by decide +kernel
theorem dX7_readOrder_62 : decode cX7_readOrder 62 = .ok (.aload_n 0, 1) := by decide +kernel
theorem dX7_readOrder_63 : decode cX7_readOrder 63 = .ok (.iload_n 3, 1) := by decide +kernel
theorem dX7_readOrder_64 : decode cX7_readOrder 64 = .ok (.putfield 19, 3) := by decide +kernel
theorem dX7_readOrder_67 : decode cX7_readOrder 67 = .ok (.iconst 0, 1) := by decide +kernel
theorem dX7_readOrder_68 : decode cX7_readOrder 68 = .ok (.ireturn, 1) := by decide +kernel
theorem dX7_formOf_0 : decode cX7_formOf 0 = .ok (.iload_n 0, 1) := by decide +kernel
theorem dX7_formOf_1 : decode cX7_formOf 1 = .ok (.tableswitch 64 0 6 #[43, 46, 49, 52, 55, 58, 61], 43) := by decide +kernel
theorem dX7_formOf_44 : decode cX7_formOf 44 = .ok (.ldc 60, 2) := by decide +kernel
theorem dX7_formOf_46 : decode cX7_formOf 46 = .ok (.areturn, 1) := by decide +kernel
theorem dX7_formOf_47 : decode cX7_formOf 47 = .ok (.ldc 62, 2) := by decide +kernel
theorem dX7_formOf_49 : decode cX7_formOf 49 = .ok (.areturn, 1) := by decide +kernel
theorem dX7_formOf_50 : decode cX7_formOf 50 = .ok (.ldc 64, 2) := by decide +kernel
theorem dX7_formOf_52 : decode cX7_formOf 52 = .ok (.areturn, 1) := by decide +kernel
theorem dX7_formOf_53 : decode cX7_formOf 53 = .ok (.ldc 66, 2) := by decide +kernel
theorem dX7_formOf_55 : decode cX7_formOf 55 = .ok (.areturn, 1) := by decide +kernel
theorem dX7_formOf_56 : decode cX7_formOf 56 = .ok (.ldc 68, 2) := by decide +kernel
theorem dX7_formOf_58 : decode cX7_formOf 58 = .ok (.areturn, 1) := by decide +kernel
theorem dX7_formOf_59 : decode cX7_formOf 59 = .ok (.ldc 70, 2) := by decide +kernel
theorem dX7_formOf_61 : decode cX7_formOf 61 = .ok (.areturn, 1) := by decide +kernel
theorem dX7_formOf_62 : decode cX7_formOf 62 = .ok (.ldc 72, 2) := by decide +kernel
theorem dX7_formOf_64 : decode cX7_formOf 64 = .ok (.areturn, 1) := by decide +kernel
theorem dX7_formOf_65 : decode cX7_formOf 65 = .ok (.ldc 74, 2) := by decide +kernel
theorem dX7_formOf_67 : decode cX7_formOf 67 = .ok (.areturn, 1) := by decide +kernel
theorem dX7_readForm_0 : decode cX7_readForm 0 = .ok (.iconst 0, 1) := by decide +kernel
theorem dX7_readForm_1 : decode cX7_readForm 1 = .ok (.istore_n 3, 1) := by decide +kernel
theorem dX7_readForm_2 : decode cX7_readForm 2 = .ok (.iconst 0, 1) := by decide +kernel
theorem dX7_readForm_3 : decode cX7_readForm 3 = .ok (.istore 4, 2) := by decide +kernel
theorem dX7_readForm_5 : decode cX7_readForm 5 = .ok (.iload 4, 2) := by decide +kernel
theorem dX7_readForm_7 : decode cX7_readForm 7 = .ok (.aload_n 1, 1) := by decide +kernel
theorem dX7_readForm_8 : decode cX7_readForm 8 = .ok (.invokevirtual 76, 3) := by decide +kernel
theorem dX7_readForm_11 : decode cX7_readForm 11 = .ok (.if_icmp .ge 92, 3) := by decide +kernel
theorem dX7_readForm_14 : decode cX7_readForm 14 = .ok (.aload_n 1, 1) := by decide +kernel
theorem dX7_readForm_15 : decode cX7_readForm 15 = .ok (.iload 4, 2) := by decide +kernel
theorem dX7_readForm_17 : decode cX7_readForm 17 = .ok (.invokevirtual 81, 3) := by decide +kernel
theorem dX7_readForm_20 : decode cX7_readForm 20 = .ok (.istore 5, 2) := by decide +kernel
theorem dX7_readForm_22 : decode cX7_readForm 22 = .ok (.iload 5, 2) := by decide +kernel
theorem dX7_readForm_24 : decode cX7_readForm 24 = .ok (.bipush 68, 2) := by decide +kernel
theorem dX7_readForm_26 : decode cX7_readForm 26 = .ok (.if_icmp .eq 10, 3) := by decide +kernel
theorem dX7_readForm_29 : decode cX7_readForm 29 = .ok (.iload 5, 2) := by decide +kernel
theorem dX7_readForm_31 : decode cX7_readForm 31 = .ok (.bipush 78, 2) := by decide +kernel
theorem dX7_readForm_33 : decode cX7_readForm 33 = .ok (.if_icmp .ne 40, 3) := by decide +kernel
theorem dX7_readForm_36 : decode cX7_readForm 36 = .ok (.aload_n 0, 1) := by decide +kernel
theorem dX7_readForm_37 : decode cX7_readForm 37 = .ok (.invokevirtual 85, 3) := by decide +kernel
theorem dX7_readForm_40 : decode cX7_readForm 40 = .ok (.ifCond .ne 5, 3) := by decide +kernel
theorem dX7_readForm_43 : decode cX7_readForm 43 = .ok (.iconst 0, 1) := by decide +kernel
theorem dX7_readForm_44 : decode cX7_readForm 44 = .ok (.ireturn, 1) := by decide +kernel
theorem dX7_readForm_45 : decode cX7_readForm 45 = .ok (.aload_n 0, 1) := by decide +kernel
theorem dX7_readForm_46 : decode cX7_readForm 46 = .ok (.iload_n 2, 1) := by decide +kernel
theorem dX7_readForm_47 : decode cX7_readForm 47 = .ok (.iload_n 3, 1) := by decide +kernel
theorem dX7_readForm_48 : decode cX7_readForm 48 = .ok (.aload_n 0, 1) := by decide +kernel
theorem dX7_readForm_49 : decode cX7_readForm 49 = .ok (.iload 5, 2) := by decide +kernel
theorem dX7_readForm_51 : decode cX7_readForm 51 = .ok (.bipush 78, 2) := by decide +kernel
theorem dX7_readForm_53 : decode cX7_readForm 53 = .ok (.if_icmp .ne 7, 3) := by decide +kernel
theorem dX7_readForm_56 : decode cX7_readForm 56 = .ok (.iconst 1, 1) := by decide +kernel
theorem dX7_readForm_57 : decode cX7_readForm 57 = .ok (.goto 4, 3) := by decide +kernel
theorem dX7_readForm_60 : decode cX7_readForm 60 = .ok (.iconst 0, 1) := by decide +kernel
theorem dX7_readForm_61 : decode cX7_readForm 61 = .ok (.invokevirtual 89, 3) := by decide +kernel
theorem dX7_readForm_64 : decode cX7_readForm 64 = .ok (.invokevirtual 93, 3) := by decide +kernel
theorem dX7_readForm_67 : decode cX7_readForm 67 = .ok (.iinc 3 1, 3) := by decide +kernel
theorem dX7_readForm_70 : decode cX7_readForm 70 = .ok (.goto 27, 3) := by decide +kernel
theorem dX7_readForm_73 : decode cX7_readForm 73 = .ok (.aload_n 0, 1) := by decide +kernel
theorem dX7_readForm_74 : decode cX7_readForm 74 = .ok (.iload 5, 2) := by decide +kernel
theorem dX7_readForm_76 : decode cX7_readForm 76 = .ok (.invokevirtual 38, 3) := by decide +kernel
theorem dX7_readForm_79 : decode cX7_readForm 79 = .ok (.ifCond .eq 16, 3) := by decide +kernel
theorem dX7_readForm_82 : decode cX7_readForm 82 = .ok (.aload_n 0, 1) := by decide +kernel
theorem dX7_readForm_83 : decode cX7_readForm 83 = .ok (.dup, 1) := by decide +kernel
theorem dX7_readForm_84 : decode cX7_readForm 84 = .ok (.getfield 19, 3) := by decide +kernel
theorem dX7_readForm_87 : decode cX7_readForm 87 = .ok (.iconst 1, 1) := by decide +kernel
theorem dX7_readForm_88 : decode cX7_readForm 88 = .ok (.iadd, 1) := by decide +kernel
theorem dX7_readForm_89 : decode cX7_readForm 89 = .ok (.putfield 19, 3) := by decide +kernel
theorem dX7_readForm_92 : decode cX7_readForm 92 = .ok (.goto 5, 3) := by decide +kernel
theorem dX7_readForm_95 : decode cX7_readForm 95 = .ok (.iconst 0, 1) := by decide +kernel
theorem dX7_readForm_96 : decode cX7_readForm 96 = .ok (.ireturn, 1) := by decide +kernel
theorem dX7_readForm_97 : decode cX7_readForm 97 = .ok (.iinc 4 1, 3) := by decide +kernel
theorem dX7_readForm_100 : decode cX7_readForm 100 = .ok (.goto (-95), 3) := by decide +kernel
theorem dX7_readForm_103 : decode cX7_readForm 103 = .ok (.iconst 1, 1) := by decide +kernel
theorem dX7_readForm_104 : decode cX7_readForm 104 = .ok (.ireturn, 1) := by decide +kernel
theorem dX7_readNumber_0 : decode cX7_readNumber 0 = .ok (.iconst 0, 1) := by decide +kernel
theorem dX7_readNumber_1 : decode cX7_readNumber 1 = .ok (.istore_n 2, 1) := by decide +kernel
theorem dX7_readNumber_2 : decode cX7_readNumber 2 = .ok (.iload_n 1, 1) := by decide +kernel
theorem dX7_readNumber_3 : decode cX7_readNumber 3 = .ok (.ifCond .eq 7, 3) := by decide +kernel
theorem dX7_readNumber_6 : decode cX7_readNumber 6 = .ok (.iconst 2, 1) := by decide +kernel
theorem dX7_readNumber_7 : decode cX7_readNumber 7 = .ok (.goto 4, 3) := by decide +kernel
theorem dX7_readNumber_10 : decode cX7_readNumber 10 = .ok (.iconst 1, 1) := by decide +kernel
theorem dX7_readNumber_11 : decode cX7_readNumber 11 = .ok (.istore_n 3, 1) := by decide +kernel
theorem dX7_readNumber_12 : decode cX7_readNumber 12 = .ok (.iconst 0, 1) := by decide +kernel
theorem dX7_readNumber_13 : decode cX7_readNumber 13 = .ok (.istore 4, 2) := by decide +kernel
theorem dX7_readNumber_15 : decode cX7_readNumber 15 = .ok (.iload 4, 2) := by decide +kernel
theorem dX7_readNumber_17 : decode cX7_readNumber 17 = .ok (.iload_n 3, 1) := by decide +kernel
theorem dX7_readNumber_18 : decode cX7_readNumber 18 = .ok (.if_icmp .ge 44, 3) := by decide +kernel
theorem dX7_readNumber_21 : decode cX7_readNumber 21 = .ok (.aload_n 0, 1) := by decide +kernel
theorem dX7_readNumber_22 : decode cX7_readNumber 22 = .ok (.invokevirtual 85, 3) := by decide +kernel
theorem dX7_readNumber_25 : decode cX7_readNumber 25 = .ok (.ifCond .eq 37, 3) := by decide +kernel
theorem dX7_readNumber_28 : decode cX7_readNumber 28 = .ok (.bipush 10, 2) := by decide +kernel
theorem dX7_readNumber_30 : decode cX7_readNumber 30 = .ok (.iload_n 2, 1) := by decide +kernel
theorem dX7_readNumber_31 : decode cX7_readNumber 31 = .ok (.imul, 1) := by decide +kernel
theorem dX7_readNumber_32 : decode cX7_readNumber 32 = .ok (.aload_n 0, 1) := by decide +kernel
theorem dX7_readNumber_33 : decode cX7_readNumber 33 = .ok (.getfield 9, 3) := by decide +kernel
theorem dX7_readNumber_36 : decode cX7_readNumber 36 = .ok (.aload_n 0, 1) := by decide +kernel
theorem dX7_readNumber_37 : decode cX7_readNumber 37 = .ok (.getfield 19, 3) := by decide +kernel
theorem dX7_readNumber_40 : decode cX7_readNumber 40 = .ok (.caload, 1) := by decide +kernel
theorem dX7_readNumber_41 : decode cX7_readNumber 41 = .ok (.bipush 48, 2) := by decide +kernel
theorem dX7_readNumber_43 : decode cX7_readNumber 43 = .ok (.isub, 1) := by decide +kernel
theorem dX7_readNumber_44 : decode cX7_readNumber 44 = .ok (.iadd, 1) := by decide +kernel
theorem dX7_readNumber_45 : decode cX7_readNumber 45 = .ok (.istore_n 2, 1) := by decide +kernel
theorem dX7_readNumber_46 : decode cX7_readNumber 46 = .ok (.aload_n 0, 1) := by decide +kernel
theorem dX7_readNumber_47 : decode cX7_readNumber 47 = .ok (.dup, 1) := by decide +kernel
theorem dX7_readNumber_48 : decode cX7_readNumber 48 = .ok (.getfield 19, 3) := by decide +kernel
theorem dX7_readNumber_51 : decode cX7_readNumber 51 = .ok (.iconst 1, 1) := by decide +kernel
theorem dX7_readNumber_52 : decode cX7_readNumber 52 = .ok (.iadd, 1) := by decide +kernel
theorem dX7_readNumber_53 : decode cX7_readNumber 53 = .ok (.putfield 19, 3) := by decide +kernel
theorem dX7_readNumber_56 : decode cX7_readNumber 56 = .ok (.iinc 4 1, 3) := by decide +kernel
theorem dX7_readNumber_59 : decode cX7_readNumber 59 = .ok (.goto (-44), 3) := by decide +kernel
theorem dX7_readNumber_62 : decode cX7_readNumber 62 = .ok (.iload_n 2, 1) := by decide +kernel
theorem dX7_readNumber_63 : decode cX7_readNumber 63 = .ok (.ireturn, 1) := by decide +kernel
theorem dX7_isInText_0 : decode cX7_isInText 0 = .ok (.aload_n 0, 1) := by decide +kernel
theorem dX7_isInText_1 : decode cX7_isInText 1 = .ok (.getfield 19, 3) := by decide +kernel
theorem dX7_isInText_4 : decode cX7_isInText 4 = .ok (.ifCond .lt 27, 3) := by decide +kernel
theorem dX7_isInText_7 : decode cX7_isInText 7 = .ok (.aload_n 0, 1) := by decide +kernel
theorem dX7_isInText_8 : decode cX7_isInText 8 = .ok (.getfield 19, 3) := by decide +kernel
theorem dX7_isInText_11 : decode cX7_isInText 11 = .ok (.aload_n 0, 1) := by decide +kernel
theorem dX7_isInText_12 : decode cX7_isInText 12 = .ok (.getfield 15, 3) := by decide +kernel
theorem dX7_isInText_15 : decode cX7_isInText 15 = .ok (.if_icmp .ge 16, 3) := by decide +kernel
theorem dX7_isInText_18 : decode cX7_isInText 18 = .ok (.aload_n 0, 1) := by decide +kernel
theorem dX7_isInText_19 : decode cX7_isInText 19 = .ok (.getfield 19, 3) := by decide +kernel
theorem dX7_isInText_22 : decode cX7_isInText 22 = .ok (.bipush 60, 2) := by decide +kernel
theorem dX7_isInText_24 : decode cX7_isInText 24 = .ok (.if_icmp .ge 7, 3) := by decide +kernel
theorem dX7_isInText_27 : decode cX7_isInText 27 = .ok (.iconst 1, 1) := by decide +kernel
theorem dX7_isInText_28 : decode cX7_isInText 28 = .ok (.goto 4, 3) := by decide +kernel
theorem dX7_isInText_31 : decode cX7_isInText 31 = .ok (.iconst 0, 1) := by decide +kernel
theorem dX7_isInText_32 : decode cX7_isInText 32 = .ok (.ireturn, 1) := by decide +kernel
theorem dX7_isNext_0 : decode cX7_isNext 0 = .ok (.aload_n 0, 1) := by decide +kernel
theorem dX7_isNext_1 : decode cX7_isNext 1 = .ok (.invokevirtual 97, 3) := by decide +kernel
theorem dX7_isNext_4 : decode cX7_isNext 4 = .ok (.ifCond .eq 20, 3) := by decide +kernel
theorem dX7_isNext_7 : decode cX7_isNext 7 = .ok (.aload_n 0, 1) := by decide +kernel
theorem dX7_isNext_8 : decode cX7_isNext 8 = .ok (.getfield 9, 3) := by decide +kernel
theorem dX7_isNext_11 : decode cX7_isNext 11 = .ok (.aload_n 0, 1) := by decide +kernel
theorem dX7_isNext_12 : decode cX7_isNext 12 = .ok (.getfield 19, 3) := by decide +kernel
theorem dX7_isNext_15 : decode cX7_isNext 15 = .ok (.caload, 1) := by decide +kernel
theorem dX7_isNext_16 : decode cX7_isNext 16 = .ok (.iload_n 1, 1) := by decide +kernel
theorem dX7_isNext_17 : decode cX7_isNext 17 = .ok (.if_icmp .ne 7, 3) := by decide +kernel
theorem dX7_isNext_20 : decode cX7_isNext 20 = .ok (.iconst 1, 1) := by decide +kernel
theorem dX7_isNext_21 : decode cX7_isNext 21 = .ok (.goto 4, 3) := by decide +kernel
theorem dX7_isNext_24 : decode cX7_isNext 24 = .ok (.iconst 0, 1) := by decide +kernel
theorem dX7_isNext_25 : decode cX7_isNext 25 = .ok (.ireturn, 1) := by decide +kernel
theorem dX7_isDigitNext_0 : decode cX7_isDigitNext 0 = .ok (.aload_n 0, 1) := by decide +kernel
theorem dX7_isDigitNext_1 : decode cX7_isDigitNext 1 = .ok (.invokevirtual 97, 3) := by decide +kernel
theorem dX7_isDigitNext_4 : decode cX7_isDigitNext 4 = .ok (.ifCond .eq 35, 3) := by decide +kernel
theorem dX7_isDigitNext_7 : decode cX7_isDigitNext 7 = .ok (.aload_n 0, 1) := by decide +kernel
end
section
theorem dX7_isDigitNext_8 : decode cX7_isDigitNext 8 = .ok (.getfield 9, 3) := by decide +kernel
theorem dX7_isDigitNext_11 : decode cX7_isDigitNext 11 = .ok (.aload_n 0, 1) := by decide +kernel
theorem dX7_isDigitNext_12 : decode cX7_isDigitNext 12 = .ok (.getfield 19, 3) := by decide +kernel
theorem dX7_isDigitNext_15 : decode cX7_isDigitNext 15 = .ok (.caload, 1) := by decide +kernel
theorem dX7_isDigitNext_16 : decode cX7_isDigitNext 16 = .ok (.bipush 48, 2) := by decide +kernel
theorem dX7_isDigitNext_18 : decode cX7_isDigitNext 18 = .ok (.if_icmp .lt 21, 3) := by decide +kernel
theorem dX7_isDigitNext_21 : decode cX7_isDigitNext 21 = .ok (.aload_n 0, 1) := by decide +kernel
theorem dX7_isDigitNext_22 : decode cX7_isDigitNext 22 = .ok (.getfield 9, 3) := by decide +kernel
theorem dX7_isDigitNext_25 : decode cX7_isDigitNext 25 = .ok (.aload_n 0, 1) := by decide +kernel
theorem dX7_isDigitNext_26 : decode cX7_isDigitNext 26 = .ok (.getfield 19, 3) := by decide +kernel
theorem dX7_isDigitNext_29 : decode cX7_isDigitNext 29 = .ok (.caload, 1) := by decide +kernel
theorem dX7_isDigitNext_30 : decode cX7_isDigitNext 30 = .ok (.bipush 57, 2) := by decide +kernel
theorem dX7_isDigitNext_32 : decode cX7_isDigitNext 32 = .ok (.if_icmp .gt 7, 3) := by decide +kernel
theorem dX7_isDigitNext_35 : decode cX7_isDigitNext 35 = .ok (.iconst 1, 1) := by decide +kernel
theorem dX7_isDigitNext_36 : decode cX7_isDigitNext 36 = .ok (.goto 4, 3) := by decide +kernel
theorem dX7_isDigitNext_39 : decode cX7_isDigitNext 39 = .ok (.iconst 0, 1) := by decide +kernel
theorem dX7_isDigitNext_40 : decode cX7_isDigitNext 40 = .ok (.ireturn, 1) := by decide +kernel
theorem dX8_init_0 : decode cX8_init 0 = .ok (.aload_n 0, 1) := by decide +kernel
theorem dX8_init_1 : decode cX8_init 1 = .ok (.invokespecial 3, 3) := by decide +kernel
theorem dX8_init_4 : decode cX8_init 4 = .ok (.aload_n 0, 1) := by decide +kernel
theorem dX8_init_5 : decode cX8_init 5 = .ok (.iconst 3, 1) := by decide +kernel
theorem dX8_init_6 : decode cX8_init 6 = .ok (.anewarray 9, 3) := by decide +kernel
theorem dX8_init_9 : decode cX8_init 9 = .ok (.putfield 11, 3) := by decide +kernel
theorem dX8_init_12 : decode cX8_init 12 = .ok (.aload_n 0, 1) := by decide +kernel
theorem dX8_init_13 : decode cX8_init 13 = .ok (.iconst 4, 1) := by decide +kernel
theorem dX8_init_14 : decode cX8_init 14 = .ok (.anewarray 17, 3) := by decide +kernel
theorem dX8_init_17 : decode cX8_init 17 = .ok (.putfield 19, 3) := by decide +kernel
theorem dX8_init_20 : decode cX8_init 20 = .ok (.aload_n 0, 1) := by decide +kernel
theorem dX8_init_21 : decode cX8_init 21 = .ok (.bipush 6, 2) := by decide +kernel
theorem dX8_init_23 : decode cX8_init 23 = .ok (.anewarray 23, 3) := by decide +kernel
theorem dX8_init_26 : decode cX8_init 26 = .ok (.putfield 25, 3) := by decide +kernel
theorem dX8_init_29 : decode cX8_init 29 = .ok (.aload_n 0, 1) := by decide +kernel
theorem dX8_init_30 : decode cX8_init 30 = .ok (.iconst 0, 1) := by decide +kernel
theorem dX8_init_31 : decode cX8_init 31 = .ok (.putfield 29, 3) := by decide +kernel
theorem dX8_init_34 : decode cX8_init 34 = .ok (.aload_n 0, 1) := by decide +kernel
theorem dX8_init_35 : decode cX8_init 35 = .ok (.iconst 0, 1) := by decide +kernel
theorem dX8_init_36 : decode cX8_init 36 = .ok (.putfield 33, 3) := by decide +kernel
theorem dX8_init_39 : decode cX8_init 39 = .ok (.aload_n 0, 1) := by decide +kernel
theorem dX8_init_40 : decode cX8_init 40 = .ok (.iconst 0, 1) := by decide +kernel
theorem dX8_init_41 : decode cX8_init 41 = .ok (.putfield 36, 3) := by decide +kernel
theorem dX8_init_44 : decode cX8_init 44 = .ok (.aload_n 0, 1) := by decide +kernel
theorem dX8_init_45 : decode cX8_init 45 = .ok (.iconst 0, 1) := by decide +kernel
theorem dX8_init_46 : decode cX8_init 46 = .ok (.putfield 39, 3) := by decide +kernel
theorem dX8_init_49 : decode cX8_init 49 = .ok (.aload_n 0, 1) := by decide +kernel
theorem dX8_init_50 : decode cX8_init 50 = .ok (.iconst 0, 1) := by decide +kernel
theorem dX8_init_51 : decode cX8_init 51 = .ok (.putfield 42, 3) := by decide +kernel
theorem dX8_init_54 : decode cX8_init 54 = .ok (.aload_n 0, 1) := by decide +kernel
theorem dX8_init_55 : decode cX8_init 55 = .ok (.iconst 0, 1) := by decide +kernel
theorem dX8_init_56 : decode cX8_init 56 = .ok (.putfield 45, 3) := by decide +kernel
theorem dX8_init_59 : decode cX8_init 59 = .ok (.iconst 0, 1) := by decide +kernel
theorem dX8_init_60 : decode cX8_init 60 = .ok (.istore_n 1, 1) := by decide +kernel
theorem dX8_init_61 : decode cX8_init 61 = .ok (.iload_n 1, 1) := by decide +kernel
theorem dX8_init_62 : decode cX8_init 62 = .ok (.iconst 3, 1) := by decide +kernel
theorem dX8_init_63 : decode cX8_init 63 = .ok (.if_icmp .ge 22, 3) := by decide +kernel
theorem dX8_init_66 : decode cX8_init 66 = .ok (.aload_n 0, 1) := by decide +kernel
theorem dX8_init_67 : decode cX8_init 67 = .ok (.getfield 11, 3) := by decide +kernel
theorem dX8_init_70 : decode cX8_init 70 = .ok (.iload_n 1, 1) := by decide +kernel
theorem dX8_init_71 : decode cX8_init 71 = .ok (.new 9, 3) := by decide +kernel
theorem dX8_init_74 : decode cX8_init 74 = .ok (.dup, 1) := by decide +kernel
theorem dX8_init_75 : decode cX8_init 75 = .ok (.invokespecial 48, 3) := by decide +kernel
theorem dX8_init_78 : decode cX8_init 78 = .ok (.aastore, 1) := by decide +kernel
theorem dX8_init_79 : decode cX8_init 79 = .ok (.iinc 1 1, 3) := by decide +kernel
theorem dX8_init_82 : decode cX8_init 82 = .ok (.goto (-21), 3) := by decide +kernel
theorem dX8_init_85 : decode cX8_init 85 = .ok (.iconst 0, 1) := by decide +kernel
theorem dX8_init_86 : decode cX8_init 86 = .ok (.istore_n 1, 1) := by decide +kernel
theorem dX8_init_87 : decode cX8_init 87 = .ok (.iload_n 1, 1) := by decide +kernel
theorem dX8_init_88 : decode cX8_init 88 = .ok (.iconst 4, 1) := by decide +kernel
theorem dX8_init_89 : decode cX8_init 89 = .ok (.if_icmp .ge 22, 3) := by decide +kernel
theorem dX8_init_92 : decode cX8_init 92 = .ok (.aload_n 0, 1) := by decide +kernel
theorem dX8_init_93 : decode cX8_init 93 = .ok (.getfield 19, 3) := by decide +kernel
theorem dX8_init_96 : decode cX8_init 96 = .ok (.iload_n 1, 1) := by decide +kernel
theorem dX8_init_97 : decode cX8_init 97 = .ok (.new 17, 3) := by decide +kernel
theorem dX8_init_100 : decode cX8_init 100 = .ok (.dup, 1) := by decide +kernel
theorem dX8_init_101 : decode cX8_init 101 = .ok (.invokespecial 49, 3) := by decide +kernel
theorem dX8_init_104 : decode cX8_init 104 = .ok (.aastore, 1) := by decide +kernel
theorem dX8_init_105 : decode cX8_init 105 = .ok (.iinc 1 1, 3) := by decide +kernel
theorem dX8_init_108 : decode cX8_init 108 = .ok (.goto (-21), 3) := by decide +kernel
theorem dX8_init_111 : decode cX8_init 111 = .ok (.iconst 0, 1) := by decide +kernel
theorem dX8_init_112 : decode cX8_init 112 = .ok (.istore_n 1, 1) := by decide +kernel
theorem dX8_init_113 : decode cX8_init 113 = .ok (.iload_n 1, 1) := by decide +kernel
theorem dX8_init_114 : decode cX8_init 114 = .ok (.bipush 6, 2) := by decide +kernel
theorem dX8_init_116 : decode cX8_init 116 = .ok (.if_icmp .ge 22, 3) := by decide +kernel
theorem dX8_init_119 : decode cX8_init 119 = .ok (.aload_n 0, 1) := by decide +kernel
theorem dX8_init_120 : decode cX8_init 120 = .ok (.getfield 25, 3) := by decide +kernel
theorem dX8_init_123 : decode cX8_init 123 = .ok (.iload_n 1, 1) := by decide +kernel
theorem dX8_init_124 : decode cX8_init 124 = .ok (.new 23, 3) := by decide +kernel
theorem dX8_init_127 : decode cX8_init 127 = .ok (.dup, 1) := by decide +kernel
theorem dX8_init_128 : decode cX8_init 128 = .ok (.invokespecial 50, 3) := by decide +kernel
theorem dX8_init_131 : decode cX8_init 131 = .ok (.aastore, 1) := by decide +kernel
theorem dX8_init_132 : decode cX8_init 132 = .ok (.iinc 1 1, 3) := by decide +kernel
theorem dX8_init_135 : decode cX8_init 135 = .ok (.goto (-22), 3) := by decide +kernel
theorem dX8_init_138 : decode cX8_init 138 = .ok (.return_, 1) := by decide +kernel
theorem dX8_copyFrom_0 : decode cX8_copyFrom 0 = .ok (.iconst 0, 1) := by decide +kernel
theorem dX8_copyFrom_1 : decode cX8_copyFrom 1 = .ok (.istore_n 2, 1) := by decide +kernel
theorem dX8_copyFrom_2 : decode cX8_copyFrom 2 = .ok (.iload_n 2, 1) := by decide +kernel
theorem dX8_copyFrom_3 : decode cX8_copyFrom 3 = .ok (.iconst 3, 1) := by decide +kernel
theorem dX8_copyFrom_4 : decode cX8_copyFrom 4 = .ok (.if_icmp .ge 24, 3) := by decide +kernel
theorem dX8_copyFrom_7 : decode cX8_copyFrom 7 = .ok (.aload_n 0, 1) := by decide +kernel
theorem dX8_copyFrom_8 : decode cX8_copyFrom 8 = .ok (.getfield 11, 3) := by decide +kernel
theorem dX8_copyFrom_11 : decode cX8_copyFrom 11 = .ok (.iload_n 2, 1) := by decide +kernel
theorem dX8_copyFrom_12 : decode cX8_copyFrom 12 = .ok (.aaload, 1) := by decide +kernel
theorem dX8_copyFrom_13 : decode cX8_copyFrom 13 = .ok (.aload_n 1, 1) := by decide +kernel
theorem dX8_copyFrom_14 : decode cX8_copyFrom 14 = .ok (.getfield 11, 3) := by decide +kernel
theorem dX8_copyFrom_17 : decode cX8_copyFrom 17 = .ok (.iload_n 2, 1) := by decide +kernel
theorem dX8_copyFrom_18 : decode cX8_copyFrom 18 = .ok (.aaload, 1) := by decide +kernel
theorem dX8_copyFrom_19 : decode cX8_copyFrom 19 = .ok (.invokevirtual 51, 3) := by decide +kernel
theorem dX8_copyFrom_22 : decode cX8_copyFrom 22 = .ok (.iinc 2 1, 3) := by decide +kernel
theorem dX8_copyFrom_25 : decode cX8_copyFrom 25 = .ok (.goto (-23), 3) := by decide +kernel
theorem dX8_copyFrom_28 : decode cX8_copyFrom 28 = .ok (.iconst 0, 1) := by decide +kernel
theorem dX8_copyFrom_29 : decode cX8_copyFrom 29 = .ok (.istore_n 2, 1) := by decide +kernel
theorem dX8_copyFrom_30 : decode cX8_copyFrom 30 = .ok (.iload_n 2, 1) := by decide +kernel
theorem dX8_copyFrom_31 : decode cX8_copyFrom 31 = .ok (.iconst 4, 1) := by decide +kernel
theorem dX8_copyFrom_32 : decode cX8_copyFrom 32 = .ok (.if_icmp .ge 24, 3) := by decide +kernel
theorem dX8_copyFrom_35 : decode cX8_copyFrom 35 = .ok (.aload_n 0, 1) := by decide +kernel
theorem dX8_copyFrom_36 : decode cX8_copyFrom 36 = .ok (.getfield 19, 3) := by decide +kernel
theorem dX8_copyFrom_39 : decode cX8_copyFrom 39 = .ok (.iload_n 2, 1) := by decide +kernel
theorem dX8_copyFrom_40 : decode cX8_copyFrom 40 = .ok (.aaload, 1) := by decide +kernel
theorem dX8_copyFrom_41 : decode cX8_copyFrom 41 = .ok (.aload_n 1, 1) := by decide +kernel
theorem dX8_copyFrom_42 : decode cX8_copyFrom 42 = .ok (.getfield 19, 3) := by decide +kernel
theorem dX8_copyFrom_45 : decode cX8_copyFrom 45 = .ok (.iload_n 2, 1) := by decide +kernel
theorem dX8_copyFrom_46 : decode cX8_copyFrom 46 = .ok (.aaload, 1) := by decide +kernel
theorem dX8_copyFrom_47 : decode cX8_copyFrom 47 = .ok (.invokevirtual 55, 3) := by decide +kernel
theorem dX8_copyFrom_50 : decode cX8_copyFrom 50 = .ok (.iinc 2 1, 3) := by decide +kernel
theorem dX8_copyFrom_53 : decode cX8_copyFrom 53 = .ok (.goto (-23), 3) := by decide +kernel
theorem dX8_copyFrom_56 : decode cX8_copyFrom 56 = .ok (.iconst 0, 1) := by decide +kernel
theorem dX8_copyFrom_57 : decode cX8_copyFrom 57 = .ok (.istore_n 2, 1) := by decide +kernel
theorem dX8_copyFrom_58 : decode cX8_copyFrom 58 = .ok (.iload_n 2, 1) := by decide +kernel
theorem dX8_copyFrom_59 : decode cX8_copyFrom 59 = .ok (.bipush 6, 2) := by decide +kernel
theorem dX8_copyFrom_61 : decode cX8_copyFrom 61 = .ok (.if_icmp .ge 24, 3) := by decide +kernel
theorem dX8_copyFrom_64 : decode cX8_copyFrom 64 = .ok (.aload_n 0, 1) := by decide +kernel
theorem dX8_copyFrom_65 : decode cX8_copyFrom 65 = .ok (.getfield 25, 3) := by decide +kernel
theorem dX8_copyFrom_68 : decode cX8_copyFrom 68 = .ok (.iload_n 2, 1) := by decide +kernel
theorem dX8_copyFrom_69 : decode cX8_copyFrom 69 = .ok (.aaload, 1) := by decide +kernel
theorem dX8_copyFrom_70 : decode cX8_copyFrom 70 = .ok (.aload_n 1, 1) := by decide +kernel
theorem dX8_copyFrom_71 : decode cX8_copyFrom 71 = .ok (.getfield 25, 3) := by decide +kernel
theorem dX8_copyFrom_74 : decode cX8_copyFrom 74 = .ok (.iload_n 2, 1) := by decide +kernel
theorem dX8_copyFrom_75 : decode cX8_copyFrom 75 = .ok (.aaload, 1) := by decide +kernel
theorem dX8_copyFrom_76 : decode cX8_copyFrom 76 = .ok (.invokevirtual 58, 3) := by decide +kernel
theorem dX8_copyFrom_79 : decode cX8_copyFrom 79 = .ok (.iinc 2 1, 3) := by decide +kernel
theorem dX8_copyFrom_82 : decode cX8_copyFrom 82 = .ok (.goto (-24), 3) := by decide +kernel
theorem dX8_copyFrom_85 : decode cX8_copyFrom 85 = .ok (.aload_n 0, 1) := by decide +kernel
theorem dX8_copyFrom_86 : decode cX8_copyFrom 86 = .ok (.aload_n 1, 1) := by decide +kernel
theorem dX8_copyFrom_87 : decode cX8_copyFrom 87 = .ok (.getfield 29, 3) := by decide +kernel
theorem dX8_copyFrom_90 : decode cX8_copyFrom 90 = .ok (.putfield 29, 3) := by decide +kernel
theorem dX8_copyFrom_93 : decode cX8_copyFrom 93 = .ok (.aload_n 0, 1) := by decide +kernel
theorem dX8_copyFrom_94 : decode cX8_copyFrom 94 = .ok (.aload_n 1, 1) := by decide +kernel
theorem dX8_copyFrom_95 : decode cX8_copyFrom 95 = .ok (.getfield 33, 3) := by decide +kernel
theorem dX8_copyFrom_98 : decode cX8_copyFrom 98 = .ok (.putfield 33, 3) := by decide +kernel
theorem dX8_copyFrom_101 : decode cX8_copyFrom 101 = .ok (.aload_n 0, 1) := by decide +kernel
theorem dX8_copyFrom_102 : decode cX8_copyFrom 102 = .ok (.aload_n 1, 1) := by decide +kernel
theorem dX8_copyFrom_103 : decode cX8_copyFrom 103 = .ok (.getfield 36, 3) := by decide +kernel
theorem dX8_copyFrom_106 : decode cX8_copyFrom 106 = .ok (.putfield 36, 3) := by decide +kernel
theorem dX8_copyFrom_109 : decode cX8_copyFrom 109 = .ok (.aload_n 0, 1) := by decide +kernel
theorem dX8_copyFrom_110 : decode cX8_copyFrom 110 = .ok (.aload_n 1, 1) := by decide +kernel
theorem dX8_copyFrom_111 : decode cX8_copyFrom 111 = .ok (.getfield 39, 3) := by decide +kernel
theorem dX8_copyFrom_114 : decode cX8_copyFrom 114 = .ok (.putfield 39, 3) := by decide +kernel
theorem dX8_copyFrom_117 : decode cX8_copyFrom 117 = .ok (.aload_n 0, 1) := by decide +kernel
theorem dX8_copyFrom_118 : decode cX8_copyFrom 118 = .ok (.aload_n 1, 1) := by decide +kernel
theorem dX8_copyFrom_119 : decode cX8_copyFrom 119 = .ok (.getfield 42, 3) := by decide +kernel
theorem dX8_copyFrom_122 : decode cX8_copyFrom 122 = .ok (.putfield 42, 3) := by decide +kernel
theorem dX8_copyFrom_125 : decode cX8_copyFrom 125 = .ok (.aload_n 0, 1) := by decide +kernel
theorem dX8_copyFrom_126 : decode cX8_copyFrom 126 = .ok (.aload_n 1, 1) := by decide +kernel
theorem dX8_copyFrom_127 : decode cX8_copyFrom 127 = .ok (.getfield 45, 3) := by decide +kernel
theorem dX8_copyFrom_130 : decode cX8_copyFrom 130 = .ok (.putfield 45, 3) := by decide +kernel
theorem dX8_copyFrom_133 : decode cX8_copyFrom 133 = .ok (.return_, 1) := by decide +kernel
theorem dX8_netNumbered_0 : decode cX8_netNumbered 0 = .ok (.aload_n 0, 1) := by decide +kernel
theorem dX8_netNumbered_1 : decode cX8_netNumbered 1 = .ok (.getfield 11, 3) := by decide +kernel
theorem dX8_netNumbered_4 : decode cX8_netNumbered 4 = .ok (.iload_n 1, 1) := by decide +kernel
theorem dX8_netNumbered_5 : decode cX8_netNumbered 5 = .ok (.invokestatic 61, 3) := by decide +kernel
theorem dX8_netNumbered_8 : decode cX8_netNumbered 8 = .ok (.ifCond .eq 7, 3) := by decide +kernel
theorem dX8_netNumbered_11 : decode cX8_netNumbered 11 = .ok (.iload_n 1, 1) := by decide +kernel
theorem dX8_netNumbered_12 : decode cX8_netNumbered 12 = .ok (.goto 4, 3) := by decide +kernel
theorem dX8_netNumbered_15 : decode cX8_netNumbered 15 = .ok (.iconst 0, 1) := by decide +kernel
theorem dX8_netNumbered_16 : decode cX8_netNumbered 16 = .ok (.aaload, 1) := by decide +kernel
theorem dX8_netNumbered_17 : decode cX8_netNumbered 17 = .ok (.areturn, 1) := by decide +kernel
theorem dX8_editorNumbered_0 : decode cX8_editorNumbered 0 = .ok (.aload_n 0, 1) := by decide +kernel
theorem dX8_editorNumbered_1 : decode cX8_editorNumbered 1 = .ok (.getfield 19, 3) := by decide +kernel
theorem dX8_editorNumbered_4 : decode cX8_editorNumbered 4 = .ok (.iload_n 1, 1) := by decide +kernel
theorem dX8_editorNumbered_5 : decode cX8_editorNumbered 5 = .ok (.ifCond .lt 12, 3) := by decide +kernel
theorem dX8_editorNumbered_8 : decode cX8_editorNumbered 8 = .ok (.iload_n 1, 1) := by decide +kernel
theorem dX8_editorNumbered_9 : decode cX8_editorNumbered 9 = .ok (.iconst 4, 1) := by decide +kernel
theorem dX8_editorNumbered_10 : decode cX8_editorNumbered 10 = .ok (.if_icmp .ge 7, 3) := by decide +kernel
theorem dX8_editorNumbered_13 : decode cX8_editorNumbered 13 = .ok (.iload_n 1, 1) := by decide +kernel
theorem dX8_editorNumbered_14 : decode cX8_editorNumbered 14 = .ok (.goto 4, 3) := by decide +kernel
theorem dX8_editorNumbered_17 : decode cX8_editorNumbered 17 = .ok (.iconst 0, 1) := by decide +kernel
theorem dX8_editorNumbered_18 : decode cX8_editorNumbered 18 = .ok (.aaload, 1) := by decide +kernel
theorem dX8_editorNumbered_19 : decode cX8_editorNumbered 19 = .ok (.areturn, 1) := by decide +kernel
theorem dX8_noteNumbered_0 : decode cX8_noteNumbered 0 = .ok (.aload_n 0, 1) := by decide +kernel
theorem dX8_noteNumbered_1 : decode cX8_noteNumbered 1 = .ok (.getfield 25, 3) := by decide +kernel
theorem dX8_noteNumbered_4 : decode cX8_noteNumbered 4 = .ok (.iload_n 1, 1) := by decide +kernel
theorem dX8_noteNumbered_5 : decode cX8_noteNumbered 5 = .ok (.ifCond .lt 13, 3) := by decide +kernel
theorem dX8_noteNumbered_8 : decode cX8_noteNumbered 8 = .ok (.iload_n 1, 1) := by decide +kernel
theorem dX8_noteNumbered_9 : decode cX8_noteNumbered 9 = .ok (.bipush 6, 2) := by decide +kernel
theorem dX8_noteNumbered_11 : decode cX8_noteNumbered 11 = .ok (.if_icmp .ge 7, 3) := by decide +kernel
theorem dX8_noteNumbered_14 : decode cX8_noteNumbered 14 = .ok (.iload_n 1, 1) := by decide +kernel
theorem dX8_noteNumbered_15 : decode cX8_noteNumbered 15 = .ok (.goto 4, 3) := by decide +kernel
theorem dX8_noteNumbered_18 : decode cX8_noteNumbered 18 = .ok (.iconst 0, 1) := by decide +kernel
theorem dX8_noteNumbered_19 : decode cX8_noteNumbered 19 = .ok (.aaload, 1) := by decide +kernel
theorem dX8_noteNumbered_20 : decode cX8_noteNumbered 20 = .ok (.areturn, 1) := by decide +kernel
theorem dX8_hasEditor_0 : decode cX8_hasEditor 0 = .ok (.iload_n 1, 1) := by decide +kernel
theorem dX8_hasEditor_1 : decode cX8_hasEditor 1 = .ok (.ifCond .lt 15, 3) := by decide +kernel
theorem dX8_hasEditor_4 : decode cX8_hasEditor 4 = .ok (.iload_n 1, 1) := by decide +kernel
theorem dX8_hasEditor_5 : decode cX8_hasEditor 5 = .ok (.aload_n 0, 1) := by decide +kernel
theorem dX8_hasEditor_6 : decode cX8_hasEditor 6 = .ok (.getfield 29, 3) := by decide +kernel
theorem dX8_hasEditor_9 : decode cX8_hasEditor 9 = .ok (.if_icmp .ge 7, 3) := by decide +kernel
theorem dX8_hasEditor_12 : decode cX8_hasEditor 12 = .ok (.iconst 1, 1) := by decide +kernel
theorem dX8_hasEditor_13 : decode cX8_hasEditor 13 = .ok (.goto 4, 3) := by decide +kernel
theorem dX8_hasEditor_16 : decode cX8_hasEditor 16 = .ok (.iconst 0, 1) := by decide +kernel
theorem dX8_hasEditor_17 : decode cX8_hasEditor 17 = .ok (.ireturn, 1) := by decide +kernel
theorem dX8_hasNote_0 : decode cX8_hasNote 0 = .ok (.iload_n 1, 1) := by decide +kernel
theorem dX8_hasNote_1 : decode cX8_hasNote 1 = .ok (.ifCond .lt 15, 3) := by decide +kernel
theorem dX8_hasNote_4 : decode cX8_hasNote 4 = .ok (.iload_n 1, 1) := by decide +kernel
theorem dX8_hasNote_5 : decode cX8_hasNote 5 = .ok (.aload_n 0, 1) := by decide +kernel
theorem dX8_hasNote_6 : decode cX8_hasNote 6 = .ok (.getfield 33, 3) := by decide +kernel
theorem dX8_hasNote_9 : decode cX8_hasNote 9 = .ok (.if_icmp .ge 7, 3) := by decide +kernel
theorem dX8_hasNote_12 : decode cX8_hasNote 12 = .ok (.iconst 1, 1) := by decide +kernel
theorem dX8_hasNote_13 : decode cX8_hasNote 13 = .ok (.goto 4, 3) := by decide +kernel
theorem dX8_hasNote_16 : decode cX8_hasNote 16 = .ok (.iconst 0, 1) := by decide +kernel
theorem dX8_hasNote_17 : decode cX8_hasNote 17 = .ok (.ireturn, 1) := by decide +kernel
theorem dX8_tearString_0 : decode cX8_tearString 0 = .ok (.aload_n 0, 1) := by decide +kernel
theorem dX8_tearString_1 : decode cX8_tearString 1 = .ok (.iload_n 1, 1) := by decide +kernel
theorem dX8_tearString_2 : decode cX8_tearString 2 = .ok (.invokevirtual 65, 3) := by decide +kernel
theorem dX8_tearString_5 : decode cX8_tearString 5 = .ok (.iload_n 2, 1) := by decide +kernel
theorem dX8_tearString_6 : decode cX8_tearString 6 = .ok (.iload_n 3, 1) := by decide +kernel
theorem dX8_tearString_7 : decode cX8_tearString 7 = .ok (.iconst 1, 1) := by decide +kernel
theorem dX8_tearString_8 : decode cX8_tearString 8 = .ok (.invokevirtual 69, 3) := by decide +kernel
theorem dX8_tearString_11 : decode cX8_tearString 11 = .ok (.aload_n 0, 1) := by decide +kernel
theorem dX8_tearString_12 : decode cX8_tearString 12 = .ok (.dup, 1) := by decide +kernel
theorem dX8_tearString_13 : decode cX8_tearString 13 = .ok (.getfield 39, 3) := by decide +kernel
theorem dX8_tearString_16 : decode cX8_tearString 16 = .ok (.iconst 1, 1) := by decide +kernel
theorem dX8_tearString_17 : decode cX8_tearString 17 = .ok (.iadd, 1) := by decide +kernel
theorem dX8_tearString_18 : decode cX8_tearString 18 = .ok (.putfield 39, 3) := by decide +kernel
theorem dX8_tearString_21 : decode cX8_tearString 21 = .ok (.return_, 1) := by decide +kernel
theorem dX8_mendString_0 : decode cX8_mendString 0 = .ok (.iload_n 2, 1) := by decide +kernel
theorem dX8_mendString_1 : decode cX8_mendString 1 = .ok (.iload_n 3, 1) := by decide +kernel
theorem dX8_mendString_2 : decode cX8_mendString 2 = .ok (.invokestatic 73, 3) := by decide +kernel
theorem dX8_mendString_5 : decode cX8_mendString 5 = .ok (.istore 5, 2) := by decide +kernel
theorem dX8_mendString_7 : decode cX8_mendString 7 = .ok (.aload_n 0, 1) := by decide +kernel
theorem dX8_mendString_8 : decode cX8_mendString 8 = .ok (.iload_n 1, 1) := by decide +kernel
theorem dX8_mendString_9 : decode cX8_mendString 9 = .ok (.invokevirtual 65, 3) := by decide +kernel
theorem dX8_mendString_12 : decode cX8_mendString 12 = .ok (.iload_n 2, 1) := by decide +kernel
theorem dX8_mendString_13 : decode cX8_mendString 13 = .ok (.iload_n 3, 1) := by decide +kernel
theorem dX8_mendString_14 : decode cX8_mendString 14 = .ok (.iconst 0, 1) := by decide +kernel
theorem dX8_mendString_15 : decode cX8_mendString 15 = .ok (.invokevirtual 69, 3) := by decide +kernel
theorem dX8_mendString_18 : decode cX8_mendString 18 = .ok (.aload_n 0, 1) := by decide +kernel
theorem dX8_mendString_19 : decode cX8_mendString 19 = .ok (.iload 4, 2) := by decide +kernel
theorem dX8_mendString_21 : decode cX8_mendString 21 = .ok (.invokevirtual 77, 3) := by decide +kernel
theorem dX8_mendString_24 : decode cX8_mendString 24 = .ok (.dup, 1) := by decide +kernel
theorem dX8_mendString_25 : decode cX8_mendString 25 = .ok (.getfield 81, 3) := by decide +kernel
theorem dX8_mendString_28 : decode cX8_mendString 28 = .ok (.iload 5, 2) := by decide +kernel
theorem dX8_mendString_30 : decode cX8_mendString 30 = .ok (.isub, 1) := by decide +kernel
theorem dX8_mendString_31 : decode cX8_mendString 31 = .ok (.putfield 81, 3) := by decide +kernel
theorem dX8_mendString_34 : decode cX8_mendString 34 = .ok (.aload_n 0, 1) := by decide +kernel
theorem dX8_mendString_35 : decode cX8_mendString 35 = .ok (.iload 4, 2) := by decide +kernel
theorem dX8_mendString_37 : decode cX8_mendString 37 = .ok (.invokevirtual 77, 3) := by decide +kernel
theorem dX8_mendString_40 : decode cX8_mendString 40 = .ok (.dup, 1) := by decide +kernel
theorem dX8_mendString_41 : decode cX8_mendString 41 = .ok (.getfield 84, 3) := by decide +kernel
theorem dX8_mendString_44 : decode cX8_mendString 44 = .ok (.iconst 1, 1) := by decide +kernel
theorem dX8_mendString_45 : decode cX8_mendString 45 = .ok (.iadd, 1) := by decide +kernel
theorem dX8_mendString_46 : decode cX8_mendString 46 = .ok (.putfield 84, 3) := by decide +kernel
theorem dX8_mendString_49 : decode cX8_mendString 49 = .ok (.aload_n 0, 1) := by decide +kernel
theorem dX8_mendString_50 : decode cX8_mendString 50 = .ok (.dup, 1) := by decide +kernel
theorem dX8_mendString_51 : decode cX8_mendString 51 = .ok (.getfield 42, 3) := by decide +kernel
theorem dX8_mendString_54 : decode cX8_mendString 54 = .ok (.iconst 1, 1) := by decide +kernel
theorem dX8_mendString_55 : decode cX8_mendString 55 = .ok (.iadd, 1) := by decide +kernel
theorem dX8_mendString_56 : decode cX8_mendString 56 = .ok (.putfield 42, 3) := by decide +kernel
theorem dX8_mendString_59 : decode cX8_mendString 59 = .ok (.aload_n 0, 1) := by decide +kernel
theorem dX8_mendString_60 : decode cX8_mendString 60 = .ok (.dup, 1) := by decide +kernel
theorem dX8_mendString_61 : decode cX8_mendString 61 = .ok (.getfield 45, 3) := by decide +kernel
theorem dX8_mendString_64 : decode cX8_mendString 64 = .ok (.iload 5, 2) := by decide +kernel
theorem dX8_mendString_66 : decode cX8_mendString 66 = .ok (.iadd, 1) := by decide +kernel
theorem dX8_mendString_67 : decode cX8_mendString 67 = .ok (.putfield 45, 3) := by decide +kernel
theorem dX8_mendString_70 : decode cX8_mendString 70 = .ok (.return_, 1) := by decide +kernel
theorem dX8_addEditor_0 : decode cX8_addEditor 0 = .ok (.aload_n 0, 1) := by decide +kernel
theorem dX8_addEditor_1 : decode cX8_addEditor 1 = .ok (.aload_n 0, 1) := by decide +kernel
theorem dX8_addEditor_2 : decode cX8_addEditor 2 = .ok (.getfield 29, 3) := by decide +kernel
theorem dX8_addEditor_5 : decode cX8_addEditor 5 = .ok (.invokevirtual 77, 3) := by decide +kernel
theorem dX8_addEditor_8 : decode cX8_addEditor 8 = .ok (.iload_n 1, 1) := by decide +kernel
theorem dX8_addEditor_9 : decode cX8_addEditor 9 = .ok (.putfield 81, 3) := by decide +kernel
theorem dX8_addEditor_12 : decode cX8_addEditor 12 = .ok (.aload_n 0, 1) := by decide +kernel
theorem dX8_addEditor_13 : decode cX8_addEditor 13 = .ok (.aload_n 0, 1) := by decide +kernel
theorem dX8_addEditor_14 : decode cX8_addEditor 14 = .ok (.getfield 29, 3) := by decide +kernel
theorem dX8_addEditor_17 : decode cX8_addEditor 17 = .ok (.invokevirtual 77, 3) := by decide +kernel
theorem dX8_addEditor_20 : decode cX8_addEditor 20 = .ok (.iconst 0, 1) := by decide +kernel
theorem dX8_addEditor_21 : decode cX8_addEditor 21 = .ok (.putfield 84, 3) := by decide +kernel
theorem dX8_addEditor_24 : decode cX8_addEditor 24 = .ok (.aload_n 0, 1) := by decide +kernel
theorem dX8_addEditor_25 : decode cX8_addEditor 25 = .ok (.dup, 1) := by decide +kernel
theorem dX8_addEditor_26 : decode cX8_addEditor 26 = .ok (.getfield 29, 3) := by decide +kernel
theorem dX8_addEditor_29 : decode cX8_addEditor 29 = .ok (.iconst 1, 1) := by decide +kernel
theorem dX8_addEditor_30 : decode cX8_addEditor 30 = .ok (.iadd, 1) := by decide +kernel
theorem dX8_addEditor_31 : decode cX8_addEditor 31 = .ok (.putfield 29, 3) := by decide +kernel
theorem dX8_addEditor_34 : decode cX8_addEditor 34 = .ok (.return_, 1) := by decide +kernel
theorem dX8_addNote_0 : decode cX8_addNote 0 = .ok (.aload_n 0, 1) := by decide +kernel
theorem dX8_addNote_1 : decode cX8_addNote 1 = .ok (.iload_n 1, 1) := by decide +kernel
theorem dX8_addNote_2 : decode cX8_addNote 2 = .ok (.invokevirtual 65, 3) := by decide +kernel
theorem dX8_addNote_5 : decode cX8_addNote 5 = .ok (.astore_n 3, 1) := by decide +kernel
theorem dX8_addNote_6 : decode cX8_addNote 6 = .ok (.aload_n 3, 1) := by decide +kernel
theorem dX8_addNote_7 : decode cX8_addNote 7 = .ok (.iload_n 2, 1) := by decide +kernel
theorem dX8_addNote_8 : decode cX8_addNote 8 = .ok (.invokevirtual 87, 3) := by decide +kernel
theorem dX8_addNote_11 : decode cX8_addNote 11 = .ok (.istore 4, 2) := by decide +kernel
theorem dX8_addNote_13 : decode cX8_addNote 13 = .ok (.aload_n 0, 1) := by decide +kernel
theorem dX8_addNote_14 : decode cX8_addNote 14 = .ok (.aload_n 0, 1) := by decide +kernel
theorem dX8_addNote_15 : decode cX8_addNote 15 = .ok (.getfield 33, 3) := by decide +kernel
theorem dX8_addNote_18 : decode cX8_addNote 18 = .ok (.invokevirtual 91, 3) := by decide +kernel
theorem dX8_addNote_21 : decode cX8_addNote 21 = .ok (.astore 5, 2) := by decide +kernel
theorem dX8_addNote_23 : decode cX8_addNote 23 = .ok (.aload 5, 2) := by decide +kernel
theorem dX8_addNote_25 : decode cX8_addNote 25 = .ok (.iload_n 1, 1) := by decide +kernel
theorem dX8_addNote_26 : decode cX8_addNote 26 = .ok (.putfield 95, 3) := by decide +kernel
theorem dX8_addNote_29 : decode cX8_addNote 29 = .ok (.aload 5, 2) := by decide +kernel
theorem dX8_addNote_31 : decode cX8_addNote 31 = .ok (.aload_n 3, 1) := by decide +kernel
theorem dX8_addNote_32 : decode cX8_addNote 32 = .ok (.getfield 98, 3) := by decide +kernel
theorem dX8_addNote_35 : decode cX8_addNote 35 = .ok (.iload 4, 2) := by decide +kernel
theorem dX8_addNote_37 : decode cX8_addNote 37 = .ok (.iand, 1) := by decide +kernel
theorem dX8_addNote_38 : decode cX8_addNote 38 = .ok (.putfield 101, 3) := by decide +kernel
theorem dX8_addNote_41 : decode cX8_addNote 41 = .ok (.aload 5, 2) := by decide +kernel
theorem dX8_addNote_43 : decode cX8_addNote 43 = .ok (.aload_n 3, 1) := by decide +kernel
theorem dX8_addNote_44 : decode cX8_addNote 44 = .ok (.getfield 102, 3) := by decide +kernel
theorem dX8_addNote_47 : decode cX8_addNote 47 = .ok (.iload 4, 2) := by decide +kernel
theorem dX8_addNote_49 : decode cX8_addNote 49 = .ok (.iand, 1) := by decide +kernel
theorem dX8_addNote_50 : decode cX8_addNote 50 = .ok (.putfield 105, 3) := by decide +kernel
theorem dX8_addNote_53 : decode cX8_addNote 53 = .ok (.aload_n 0, 1) := by decide +kernel
theorem dX8_addNote_54 : decode cX8_addNote 54 = .ok (.dup, 1) := by decide +kernel
theorem dX8_addNote_55 : decode cX8_addNote 55 = .ok (.getfield 33, 3) := by decide +kernel
theorem dX8_addNote_58 : decode cX8_addNote 58 = .ok (.iconst 1, 1) := by decide +kernel
theorem dX8_addNote_59 : decode cX8_addNote 59 = .ok (.iadd, 1) := by decide +kernel
theorem dX8_addNote_60 : decode cX8_addNote 60 = .ok (.putfield 33, 3) := by decide +kernel
theorem dX8_addNote_63 : decode cX8_addNote 63 = .ok (.return_, 1) := by decide +kernel
theorem dX8_removeNote_0 : decode cX8_removeNote 0 = .ok (.iload_n 1, 1) := by decide +kernel
theorem dX8_removeNote_1 : decode cX8_removeNote 1 = .ok (.istore_n 2, 1) := by decide +kernel
theorem dX8_removeNote_2 : decode cX8_removeNote 2 = .ok (.iload_n 2, 1) := by decide +kernel
theorem dX8_removeNote_3 : decode cX8_removeNote 3 = .ok (.aload_n 0, 1) := by decide +kernel
theorem dX8_removeNote_4 : decode cX8_removeNote 4 = .ok (.getfield 33, 3) := by decide +kernel
theorem dX8_removeNote_7 : decode cX8_removeNote 7 = .ok (.iconst 1, 1) := by decide +kernel
theorem dX8_removeNote_8 : decode cX8_removeNote 8 = .ok (.isub, 1) := by decide +kernel
theorem dX8_removeNote_9 : decode cX8_removeNote 9 = .ok (.if_icmp .ge 24, 3) := by decide +kernel
theorem dX8_removeNote_12 : decode cX8_removeNote 12 = .ok (.aload_n 0, 1) := by decide +kernel
theorem dX8_removeNote_13 : decode cX8_removeNote 13 = .ok (.iload_n 2, 1) := by decide +kernel
theorem dX8_removeNote_14 : decode cX8_removeNote 14 = .ok (.invokevirtual 91, 3) := by decide +kernel
theorem dX8_removeNote_17 : decode cX8_removeNote 17 = .ok (.aload_n 0, 1) := by decide +kernel
theorem dX8_removeNote_18 : decode cX8_removeNote 18 = .ok (.iload_n 2, 1) := by decide +kernel
theorem dX8_removeNote_19 : decode cX8_removeNote 19 = .ok (.iconst 1, 1) := by decide +kernel
theorem dX8_removeNote_20 : decode cX8_removeNote 20 = .ok (.iadd, 1) := by decide +kernel
theorem dX8_removeNote_21 : decode cX8_removeNote 21 = .ok (.invokevirtual 91, 3) := by decide +kernel
theorem dX8_removeNote_24 : decode cX8_removeNote 24 = .ok (.invokevirtual 58, 3) := by decide +kernel
theorem dX8_removeNote_27 : decode cX8_removeNote 27 = .ok (.iinc 2 1, 3) := by decide +kernel
theorem dX8_removeNote_30 : decode cX8_removeNote 30 = .ok (.goto (-28), 3) := by decide +kernel
theorem dX8_removeNote_33 : decode cX8_removeNote 33 = .ok (.aload_n 0, 1) := by decide +kernel
theorem dX8_removeNote_34 : decode cX8_removeNote 34 = .ok (.dup, 1) := by decide +kernel
theorem dX8_removeNote_35 : decode cX8_removeNote 35 = .ok (.getfield 33, 3) := by decide +kernel
theorem dX8_removeNote_38 : decode cX8_removeNote 38 = .ok (.iconst 1, 1) := by decide +kernel
theorem dX8_removeNote_39 : decode cX8_removeNote 39 = .ok (.isub, 1) := by decide +kernel
theorem dX8_removeNote_40 : decode cX8_removeNote 40 = .ok (.putfield 33, 3) := by decide +kernel
theorem dX8_removeNote_43 : decode cX8_removeNote 43 = .ok (.return_, 1) := by decide +kernel
theorem dX8_lowestNoteOf_0 : decode cX8_lowestNoteOf 0 = .ok (.iconst 0, 1) := by decide +kernel
theorem dX8_lowestNoteOf_1 : decode cX8_lowestNoteOf 1 = .ok (.istore_n 3, 1) := by decide +kernel
theorem dX8_lowestNoteOf_2 : decode cX8_lowestNoteOf 2 = .ok (.iload_n 3, 1) := by decide +kernel
theorem dX8_lowestNoteOf_3 : decode cX8_lowestNoteOf 3 = .ok (.aload_n 0, 1) := by decide +kernel
theorem dX8_lowestNoteOf_4 : decode cX8_lowestNoteOf 4 = .ok (.getfield 33, 3) := by decide +kernel
theorem dX8_lowestNoteOf_7 : decode cX8_lowestNoteOf 7 = .ok (.if_icmp .ge 41, 3) := by decide +kernel
theorem dX8_lowestNoteOf_10 : decode cX8_lowestNoteOf 10 = .ok (.aload_n 0, 1) := by decide +kernel
theorem dX8_lowestNoteOf_11 : decode cX8_lowestNoteOf 11 = .ok (.iload_n 3, 1) := by decide +kernel
theorem dX8_lowestNoteOf_12 : decode cX8_lowestNoteOf 12 = .ok (.invokevirtual 91, 3) := by decide +kernel
theorem dX8_lowestNoteOf_15 : decode cX8_lowestNoteOf 15 = .ok (.astore 4, 2) := by decide +kernel
theorem dX8_lowestNoteOf_17 : decode cX8_lowestNoteOf 17 = .ok (.aload 4, 2) := by decide +kernel
theorem dX8_lowestNoteOf_19 : decode cX8_lowestNoteOf 19 = .ok (.getfield 95, 3) := by decide +kernel
theorem dX8_lowestNoteOf_22 : decode cX8_lowestNoteOf 22 = .ok (.iload_n 1, 1) := by decide +kernel
theorem dX8_lowestNoteOf_23 : decode cX8_lowestNoteOf 23 = .ok (.if_icmp .ne 19, 3) := by decide +kernel
theorem dX8_lowestNoteOf_26 : decode cX8_lowestNoteOf 26 = .ok (.aload 4, 2) := by decide +kernel
theorem dX8_lowestNoteOf_28 : decode cX8_lowestNoteOf 28 = .ok (.aload_n 0, 1) := by decide +kernel
theorem dX8_lowestNoteOf_29 : decode cX8_lowestNoteOf 29 = .ok (.iload_n 1, 1) := by decide +kernel
theorem dX8_lowestNoteOf_30 : decode cX8_lowestNoteOf 30 = .ok (.invokevirtual 65, 3) := by decide +kernel
theorem dX8_lowestNoteOf_33 : decode cX8_lowestNoteOf 33 = .ok (.iload_n 2, 1) := by decide +kernel
theorem dX8_lowestNoteOf_34 : decode cX8_lowestNoteOf 34 = .ok (.invokevirtual 106, 3) := by decide +kernel
theorem dX8_lowestNoteOf_37 : decode cX8_lowestNoteOf 37 = .ok (.ifCond .eq 5, 3) := by decide +kernel
theorem dX8_lowestNoteOf_40 : decode cX8_lowestNoteOf 40 = .ok (.iload_n 3, 1) := by decide +kernel
theorem dX8_lowestNoteOf_41 : decode cX8_lowestNoteOf 41 = .ok (.ireturn, 1) := by decide +kernel
theorem dX8_lowestNoteOf_42 : decode cX8_lowestNoteOf 42 = .ok (.iinc 3 1, 3) := by decide +kernel
theorem dX8_lowestNoteOf_45 : decode cX8_lowestNoteOf 45 = .ok (.goto (-43), 3) := by decide +kernel
theorem dX8_lowestNoteOf_48 : decode cX8_lowestNoteOf 48 = .ok (.iconst (-1), 1) := by decide +kernel
theorem dX8_lowestNoteOf_49 : decode cX8_lowestNoteOf 49 = .ok (.ireturn, 1) := by decide +kernel
theorem dX8_readsAsNoted_0 : decode cX8_readsAsNoted 0 = .ok (.aload_n 0, 1) := by decide +kernel
theorem dX8_readsAsNoted_1 : decode cX8_readsAsNoted 1 = .ok (.aload_n 1, 1) := by decide +kernel
theorem dX8_readsAsNoted_2 : decode cX8_readsAsNoted 2 = .ok (.getfield 95, 3) := by decide +kernel
theorem dX8_readsAsNoted_5 : decode cX8_readsAsNoted 5 = .ok (.invokevirtual 65, 3) := by decide +kernel
theorem dX8_readsAsNoted_8 : decode cX8_readsAsNoted 8 = .ok (.astore_n 2, 1) := by decide +kernel
theorem dX8_readsAsNoted_9 : decode cX8_readsAsNoted 9 = .ok (.aload_n 1, 1) := by decide +kernel
theorem dX8_readsAsNoted_10 : decode cX8_readsAsNoted 10 = .ok (.aload_n 2, 1) := by decide +kernel
theorem dX8_readsAsNoted_11 : decode cX8_readsAsNoted 11 = .ok (.aload_n 2, 1) := by decide +kernel
theorem dX8_readsAsNoted_12 : decode cX8_readsAsNoted 12 = .ok (.aload_n 1, 1) := by decide +kernel
theorem dX8_readsAsNoted_13 : decode cX8_readsAsNoted 13 = .ok (.invokevirtual 110, 3) := by decide +kernel
theorem dX8_readsAsNoted_16 : decode cX8_readsAsNoted 16 = .ok (.invokestatic 114, 3) := by decide +kernel
theorem dX8_readsAsNoted_19 : decode cX8_readsAsNoted 19 = .ok (.invokevirtual 87, 3) := by decide +kernel
theorem dX8_readsAsNoted_22 : decode cX8_readsAsNoted 22 = .ok (.invokevirtual 106, 3) := by decide +kernel
theorem dX8_readsAsNoted_25 : decode cX8_readsAsNoted 25 = .ok (.ireturn, 1) := by decide +kernel
theorem dX8_canBeMended_0 : decode cX8_canBeMended 0 = .ok (.aload_n 0, 1) := by decide +kernel
theorem dX8_canBeMended_1 : decode cX8_canBeMended 1 = .ok (.aload_n 1, 1) := by decide +kernel
theorem dX8_canBeMended_2 : decode cX8_canBeMended 2 = .ok (.getfield 95, 3) := by decide +kernel
theorem dX8_canBeMended_5 : decode cX8_canBeMended 5 = .ok (.invokevirtual 65, 3) := by decide +kernel
theorem dX8_canBeMended_8 : decode cX8_canBeMended 8 = .ok (.astore_n 2, 1) := by decide +kernel
theorem dX8_canBeMended_9 : decode cX8_canBeMended 9 = .ok (.aload_n 1, 1) := by decide +kernel
theorem dX8_canBeMended_10 : decode cX8_canBeMended 10 = .ok (.aload_n 2, 1) := by decide +kernel
theorem dX8_canBeMended_11 : decode cX8_canBeMended 11 = .ok (.aload_n 1, 1) := by decide +kernel
theorem dX8_canBeMended_12 : decode cX8_canBeMended 12 = .ok (.invokevirtual 110, 3) := by decide +kernel
theorem dX8_canBeMended_15 : decode cX8_canBeMended 15 = .ok (.invokevirtual 106, 3) := by decide +kernel
theorem dX8_canBeMended_18 : decode cX8_canBeMended 18 = .ok (.ifCond .eq 18, 3) := by decide +kernel
theorem dX8_canBeMended_21 : decode cX8_canBeMended 21 = .ok (.aload_n 2, 1) := by decide +kernel
theorem dX8_canBeMended_22 : decode cX8_canBeMended 22 = .ok (.aload_n 1, 1) := by decide +kernel
theorem dX8_canBeMended_23 : decode cX8_canBeMended 23 = .ok (.invokevirtual 110, 3) := by decide +kernel
theorem dX8_canBeMended_26 : decode cX8_canBeMended 26 = .ok (.invokevirtual 117, 3) := by decide +kernel
theorem dX8_canBeMended_29 : decode cX8_canBeMended 29 = .ok (.ifCond .ne 7, 3) := by decide +kernel
theorem dX8_canBeMended_32 : decode cX8_canBeMended 32 = .ok (.iconst 1, 1) := by decide +kernel
theorem dX8_canBeMended_33 : decode cX8_canBeMended 33 = .ok (.goto 4, 3) := by decide +kernel
theorem dX8_canBeMended_36 : decode cX8_canBeMended 36 = .ok (.iconst 0, 1) := by decide +kernel
theorem dX8_canBeMended_37 : decode cX8_canBeMended 37 = .ok (.ireturn, 1) := by decide +kernel
theorem dX8_leastByStrings_0 : decode cX8_leastByStrings 0 = .ok (.aload_n 0, 1) := by decide +kernel
theorem dX8_leastByStrings_1 : decode cX8_leastByStrings 1 = .ok (.aload_n 1, 1) := by decide +kernel
theorem dX8_leastByStrings_2 : decode cX8_leastByStrings 2 = .ok (.getfield 95, 3) := by decide +kernel
theorem dX8_leastByStrings_5 : decode cX8_leastByStrings 5 = .ok (.invokevirtual 65, 3) := by decide +kernel
theorem dX8_leastByStrings_8 : decode cX8_leastByStrings 8 = .ok (.aload_n 1, 1) := by decide +kernel
theorem dX8_leastByStrings_9 : decode cX8_leastByStrings 9 = .ok (.invokevirtual 110, 3) := by decide +kernel
theorem dX8_leastByStrings_12 : decode cX8_leastByStrings 12 = .ok (.aload_n 2, 1) := by decide +kernel
theorem dX8_leastByStrings_13 : decode cX8_leastByStrings 13 = .ok (.invokevirtual 120, 3) := by decide +kernel
theorem dX8_leastByStrings_16 : decode cX8_leastByStrings 16 = .ok (.ireturn, 1) := by decide +kernel
theorem dX8_leastByPlaces_0 : decode cX8_leastByPlaces 0 = .ok (.aload_n 0, 1) := by decide +kernel
theorem dX8_leastByPlaces_1 : decode cX8_leastByPlaces 1 = .ok (.aload_n 1, 1) := by decide +kernel
theorem dX8_leastByPlaces_2 : decode cX8_leastByPlaces 2 = .ok (.getfield 95, 3) := by decide +kernel
theorem dX8_leastByPlaces_5 : decode cX8_leastByPlaces 5 = .ok (.invokevirtual 65, 3) := by decide +kernel
theorem dX8_leastByPlaces_8 : decode cX8_leastByPlaces 8 = .ok (.aload_n 1, 1) := by decide +kernel
theorem dX8_leastByPlaces_9 : decode cX8_leastByPlaces 9 = .ok (.invokevirtual 110, 3) := by decide +kernel
theorem dX8_leastByPlaces_12 : decode cX8_leastByPlaces 12 = .ok (.invokevirtual 124, 3) := by decide +kernel
theorem dX8_leastByPlaces_15 : decode cX8_leastByPlaces 15 = .ok (.ireturn, 1) := by decide +kernel
theorem dX8_linesUnderWater_0 : decode cX8_linesUnderWater 0 = .ok (.aload_n 0, 1) := by decide +kernel
theorem dX8_linesUnderWater_1 : decode cX8_linesUnderWater 1 = .ok (.getfield 36, 3) := by decide +kernel
theorem dX8_linesUnderWater_4 : decode cX8_linesUnderWater 4 = .ok (.aload_n 0, 1) := by decide +kernel
theorem dX8_linesUnderWater_5 : decode cX8_linesUnderWater 5 = .ok (.iload_n 1, 1) := by decide +kernel
theorem dX8_linesUnderWater_6 : decode cX8_linesUnderWater 6 = .ok (.invokevirtual 65, 3) := by decide +kernel
theorem dX8_linesUnderWater_9 : decode cX8_linesUnderWater 9 = .ok (.getfield 127, 3) := by decide +kernel
theorem dX8_linesUnderWater_12 : decode cX8_linesUnderWater 12 = .ok (.iadd, 1) := by decide +kernel
theorem dX8_linesUnderWater_13 : decode cX8_linesUnderWater 13 = .ok (.iconst 4, 1) := by decide +kernel
theorem dX8_linesUnderWater_14 : decode cX8_linesUnderWater 14 = .ok (.invokestatic 130, 3) := by decide +kernel
theorem dX8_linesUnderWater_17 : decode cX8_linesUnderWater 17 = .ok (.ireturn, 1) := by decide +kernel
theorem dX8_dryPlaces_0 : decode cX8_dryPlaces 0 = .ok (.iconst 1, 1) := by decide +kernel
theorem dX8_dryPlaces_1 : decode cX8_dryPlaces 1 = .ok (.iconst 4, 1) := by decide +kernel
theorem dX8_dryPlaces_2 : decode cX8_dryPlaces 2 = .ok (.aload_n 0, 1) := by decide +kernel
theorem dX8_dryPlaces_3 : decode cX8_dryPlaces 3 = .ok (.iload_n 1, 1) := by decide +kernel
theorem dX8_dryPlaces_4 : decode cX8_dryPlaces 4 = .ok (.invokevirtual 135, 3) := by decide +kernel
theorem dX8_dryPlaces_7 : decode cX8_dryPlaces 7 = .ok (.isub, 1) := by decide +kernel
theorem dX8_dryPlaces_8 : decode cX8_dryPlaces 8 = .ok (.bipush 6, 2) := by decide +kernel
theorem dX8_dryPlaces_10 : decode cX8_dryPlaces 10 = .ok (.imul, 1) := by decide +kernel
theorem dX8_dryPlaces_11 : decode cX8_dryPlaces 11 = .ok (.ishl, 1) := by decide +kernel
theorem dX8_dryPlaces_12 : decode cX8_dryPlaces 12 = .ok (.iconst 1, 1) := by decide +kernel
theorem dX8_dryPlaces_13 : decode cX8_dryPlaces 13 = .ok (.isub, 1) := by decide +kernel
theorem dX8_dryPlaces_14 : decode cX8_dryPlaces 14 = .ok (.ireturn, 1) := by decide +kernel
theorem dX8_countKnots_0 : decode cX8_countKnots 0 = .ok (.iconst 0, 1) := by decide +kernel
theorem dX8_countKnots_1 : decode cX8_countKnots 1 = .ok (.istore_n 1, 1) := by decide +kernel
theorem dX8_countKnots_2 : decode cX8_countKnots 2 = .ok (.iconst 0, 1) := by decide +kernel
theorem dX8_countKnots_3 : decode cX8_countKnots 3 = .ok (.istore_n 2, 1) := by decide +kernel
theorem dX8_countKnots_4 : decode cX8_countKnots 4 = .ok (.iload_n 2, 1) := by decide +kernel
theorem dX8_countKnots_5 : decode cX8_countKnots 5 = .ok (.iconst 3, 1) := by decide +kernel
theorem dX8_countKnots_6 : decode cX8_countKnots 6 = .ok (.if_icmp .ge 23, 3) := by decide +kernel
theorem dX8_countKnots_9 : decode cX8_countKnots 9 = .ok (.iload_n 1, 1) := by decide +kernel
theorem dX8_countKnots_10 : decode cX8_countKnots 10 = .ok (.aload_n 0, 1) := by decide +kernel
theorem dX8_countKnots_11 : decode cX8_countKnots 11 = .ok (.iload_n 2, 1) := by decide +kernel
theorem dX8_countKnots_12 : decode cX8_countKnots 12 = .ok (.invokevirtual 65, 3) := by decide +kernel
theorem dX8_countKnots_15 : decode cX8_countKnots 15 = .ok (.invokevirtual 138, 3) := by decide +kernel
theorem dX8_countKnots_18 : decode cX8_countKnots 18 = .ok (.invokestatic 141, 3) := by decide +kernel
theorem dX8_countKnots_21 : decode cX8_countKnots 21 = .ok (.iadd, 1) := by decide +kernel
theorem dX8_countKnots_22 : decode cX8_countKnots 22 = .ok (.istore_n 1, 1) := by decide +kernel
theorem dX8_countKnots_23 : decode cX8_countKnots 23 = .ok (.iinc 2 1, 3) := by decide +kernel
theorem dX8_countKnots_26 : decode cX8_countKnots 26 = .ok (.goto (-22), 3) := by decide +kernel
theorem dX8_countKnots_29 : decode cX8_countKnots 29 = .ok (.iload_n 1, 1) := by decide +kernel
theorem dX8_countKnots_30 : decode cX8_countKnots 30 = .ok (.ireturn, 1) := by decide +kernel
theorem dX8_countReadable_0 : decode cX8_countReadable 0 = .ok (.iconst 0, 1) := by decide +kernel
theorem dX8_countReadable_1 : decode cX8_countReadable 1 = .ok (.istore_n 1, 1) := by decide +kernel
theorem dX8_countReadable_2 : decode cX8_countReadable 2 = .ok (.iconst 0, 1) := by decide +kernel
theorem dX8_countReadable_3 : decode cX8_countReadable 3 = .ok (.istore_n 2, 1) := by decide +kernel
theorem dX8_countReadable_4 : decode cX8_countReadable 4 = .ok (.iload_n 2, 1) := by decide +kernel
theorem dX8_countReadable_5 : decode cX8_countReadable 5 = .ok (.iconst 3, 1) := by decide +kernel
theorem dX8_countReadable_6 : decode cX8_countReadable 6 = .ok (.if_icmp .ge 29, 3) := by decide +kernel
theorem dX8_countReadable_9 : decode cX8_countReadable 9 = .ok (.iload_n 1, 1) := by decide +kernel
theorem dX8_countReadable_10 : decode cX8_countReadable 10 = .ok (.aload_n 0, 1) := by decide +kernel
theorem dX8_countReadable_11 : decode cX8_countReadable 11 = .ok (.iload_n 2, 1) := by decide +kernel
theorem dX8_countReadable_12 : decode cX8_countReadable 12 = .ok (.invokevirtual 65, 3) := by decide +kernel
theorem dX8_countReadable_15 : decode cX8_countReadable 15 = .ok (.invokevirtual 138, 3) := by decide +kernel
theorem dX8_countReadable_18 : decode cX8_countReadable 18 = .ok (.aload_n 0, 1) := by decide +kernel
theorem dX8_countReadable_19 : decode cX8_countReadable 19 = .ok (.iload_n 2, 1) := by decide +kernel
theorem dX8_countReadable_20 : decode cX8_countReadable 20 = .ok (.invokevirtual 146, 3) := by decide +kernel
theorem dX8_countReadable_23 : decode cX8_countReadable 23 = .ok (.iand, 1) := by decide +kernel
theorem dX8_countReadable_24 : decode cX8_countReadable 24 = .ok (.invokestatic 141, 3) := by decide +kernel
theorem dX8_countReadable_27 : decode cX8_countReadable 27 = .ok (.iadd, 1) := by decide +kernel
theorem dX8_countReadable_28 : decode cX8_countReadable 28 = .ok (.istore_n 1, 1) := by decide +kernel
theorem dX8_countReadable_29 : decode cX8_countReadable 29 = .ok (.iinc 2 1, 3) := by decide +kernel
theorem dX8_countReadable_32 : decode cX8_countReadable 32 = .ok (.goto (-28), 3) := by decide +kernel
theorem dX8_countReadable_35 : decode cX8_countReadable 35 = .ok (.iload_n 1, 1) := by decide +kernel
theorem dX8_countReadable_36 : decode cX8_countReadable 36 = .ok (.ireturn, 1) := by decide +kernel
theorem dX8_countAllChapters_0 : decode cX8_countAllChapters 0 = .ok (.iconst 0, 1) := by decide +kernel
theorem dX8_countAllChapters_1 : decode cX8_countAllChapters 1 = .ok (.istore_n 1, 1) := by decide +kernel
theorem dX8_countAllChapters_2 : decode cX8_countAllChapters 2 = .ok (.iconst 0, 1) := by decide +kernel
theorem dX8_countAllChapters_3 : decode cX8_countAllChapters 3 = .ok (.istore_n 2, 1) := by decide +kernel
theorem dX8_countAllChapters_4 : decode cX8_countAllChapters 4 = .ok (.iload_n 2, 1) := by decide +kernel
theorem dX8_countAllChapters_5 : decode cX8_countAllChapters 5 = .ok (.iconst 3, 1) := by decide +kernel
theorem dX8_countAllChapters_6 : decode cX8_countAllChapters 6 = .ok (.if_icmp .ge 20, 3) := by decide +kernel
theorem dX8_countAllChapters_9 : decode cX8_countAllChapters 9 = .ok (.iload_n 1, 1) := by decide +kernel
theorem dX8_countAllChapters_10 : decode cX8_countAllChapters 10 = .ok (.aload_n 0, 1) := by decide +kernel
theorem dX8_countAllChapters_11 : decode cX8_countAllChapters 11 = .ok (.iload_n 2, 1) := by decide +kernel
theorem dX8_countAllChapters_12 : decode cX8_countAllChapters 12 = .ok (.invokevirtual 65, 3) := by decide +kernel
theorem dX8_countAllChapters_15 : decode cX8_countAllChapters 15 = .ok (.invokevirtual 149, 3) := by decide +kernel
theorem dX8_countAllChapters_18 : decode cX8_countAllChapters 18 = .ok (.iadd, 1) := by decide +kernel
theorem dX8_countAllChapters_19 : decode cX8_countAllChapters 19 = .ok (.istore_n 1, 1) := by decide +kernel
theorem dX8_countAllChapters_20 : decode cX8_countAllChapters 20 = .ok (.iinc 2 1, 3) := by decide +kernel
theorem dX8_countAllChapters_23 : decode cX8_countAllChapters 23 = .ok (.goto (-19), 3) := by decide +kernel
theorem dX8_countAllChapters_26 : decode cX8_countAllChapters 26 = .ok (.iload_n 1, 1) := by decide +kernel
theorem dX8_countAllChapters_27 : decode cX8_countAllChapters 27 = .ok (.ireturn, 1) := by decide +kernel
theorem dX8_countTorn_0 : decode cX8_countTorn 0 = .ok (.iconst 0, 1) := by decide +kernel
theorem dX8_countTorn_1 : decode cX8_countTorn 1 = .ok (.istore_n 1, 1) := by decide +kernel
theorem dX8_countTorn_2 : decode cX8_countTorn 2 = .ok (.iconst 0, 1) := by decide +kernel
theorem dX8_countTorn_3 : decode cX8_countTorn 3 = .ok (.istore_n 2, 1) := by decide +kernel
theorem dX8_countTorn_4 : decode cX8_countTorn 4 = .ok (.iload_n 2, 1) := by decide +kernel
theorem dX8_countTorn_5 : decode cX8_countTorn 5 = .ok (.iconst 3, 1) := by decide +kernel
theorem dX8_countTorn_6 : decode cX8_countTorn 6 = .ok (.if_icmp .ge 20, 3) := by decide +kernel
theorem dX8_countTorn_9 : decode cX8_countTorn 9 = .ok (.iload_n 1, 1) := by decide +kernel
theorem dX8_countTorn_10 : decode cX8_countTorn 10 = .ok (.aload_n 0, 1) := by decide +kernel
theorem dX8_countTorn_11 : decode cX8_countTorn 11 = .ok (.iload_n 2, 1) := by decide +kernel
theorem dX8_countTorn_12 : decode cX8_countTorn 12 = .ok (.invokevirtual 65, 3) := by decide +kernel
theorem dX8_countTorn_15 : decode cX8_countTorn 15 = .ok (.invokevirtual 152, 3) := by decide +kernel
theorem dX8_countTorn_18 : decode cX8_countTorn 18 = .ok (.iadd, 1) := by decide +kernel
theorem dX8_countTorn_19 : decode cX8_countTorn 19 = .ok (.istore_n 1, 1) := by decide +kernel
theorem dX8_countTorn_20 : decode cX8_countTorn 20 = .ok (.iinc 2 1, 3) := by decide +kernel
theorem dX8_countTorn_23 : decode cX8_countTorn 23 = .ok (.goto (-19), 3) := by decide +kernel
theorem dX8_countTorn_26 : decode cX8_countTorn 26 = .ok (.iload_n 1, 1) := by decide +kernel
theorem dX8_countTorn_27 : decode cX8_countTorn 27 = .ok (.ireturn, 1) := by decide +kernel
theorem dX8_sumTwine_0 : decode cX8_sumTwine 0 = .ok (.iconst 0, 1) := by decide +kernel
theorem dX8_sumTwine_1 : decode cX8_sumTwine 1 = .ok (.istore_n 1, 1) := by decide +kernel
theorem dX8_sumTwine_2 : decode cX8_sumTwine 2 = .ok (.iconst 0, 1) := by decide +kernel
theorem dX8_sumTwine_3 : decode cX8_sumTwine 3 = .ok (.istore_n 2, 1) := by decide +kernel
theorem dX8_sumTwine_4 : decode cX8_sumTwine 4 = .ok (.iload_n 2, 1) := by decide +kernel
theorem dX8_sumTwine_5 : decode cX8_sumTwine 5 = .ok (.aload_n 0, 1) := by decide +kernel
theorem dX8_sumTwine_6 : decode cX8_sumTwine 6 = .ok (.getfield 29, 3) := by decide +kernel
theorem dX8_sumTwine_9 : decode cX8_sumTwine 9 = .ok (.if_icmp .ge 20, 3) := by decide +kernel
theorem dX8_sumTwine_12 : decode cX8_sumTwine 12 = .ok (.iload_n 1, 1) := by decide +kernel
theorem dX8_sumTwine_13 : decode cX8_sumTwine 13 = .ok (.aload_n 0, 1) := by decide +kernel
theorem dX8_sumTwine_14 : decode cX8_sumTwine 14 = .ok (.iload_n 2, 1) := by decide +kernel
theorem dX8_sumTwine_15 : decode cX8_sumTwine 15 = .ok (.invokevirtual 77, 3) := by decide +kernel
theorem dX8_sumTwine_18 : decode cX8_sumTwine 18 = .ok (.getfield 81, 3) := by decide +kernel
theorem dX8_sumTwine_21 : decode cX8_sumTwine 21 = .ok (.iadd, 1) := by decide +kernel
theorem dX8_sumTwine_22 : decode cX8_sumTwine 22 = .ok (.istore_n 1, 1) := by decide +kernel
theorem dX8_sumTwine_23 : decode cX8_sumTwine 23 = .ok (.iinc 2 1, 3) := by decide +kernel
theorem dX8_sumTwine_26 : decode cX8_sumTwine 26 = .ok (.goto (-22), 3) := by decide +kernel
theorem dX8_sumTwine_29 : decode cX8_sumTwine 29 = .ok (.iload_n 1, 1) := by decide +kernel
theorem dX8_sumTwine_30 : decode cX8_sumTwine 30 = .ok (.ireturn, 1) := by decide +kernel
theorem dX8_countAsNoted_0 : decode cX8_countAsNoted 0 = .ok (.iconst 0, 1) := by decide +kernel
theorem dX8_countAsNoted_1 : decode cX8_countAsNoted 1 = .ok (.istore_n 1, 1) := by decide +kernel
theorem dX8_countAsNoted_2 : decode cX8_countAsNoted 2 = .ok (.iconst 0, 1) := by decide +kernel
theorem dX8_countAsNoted_3 : decode cX8_countAsNoted 3 = .ok (.istore_n 2, 1) := by decide +kernel
theorem dX8_countAsNoted_4 : decode cX8_countAsNoted 4 = .ok (.iload_n 2, 1) := by decide +kernel
theorem dX8_countAsNoted_5 : decode cX8_countAsNoted 5 = .ok (.aload_n 0, 1) := by decide +kernel
theorem dX8_countAsNoted_6 : decode cX8_countAsNoted 6 = .ok (.getfield 33, 3) := by decide +kernel
theorem dX8_countAsNoted_9 : decode cX8_countAsNoted 9 = .ok (.if_icmp .ge 29, 3) := by decide +kernel
theorem dX8_countAsNoted_12 : decode cX8_countAsNoted 12 = .ok (.iload_n 1, 1) := by decide +kernel
theorem dX8_countAsNoted_13 : decode cX8_countAsNoted 13 = .ok (.aload_n 0, 1) := by decide +kernel
theorem dX8_countAsNoted_14 : decode cX8_countAsNoted 14 = .ok (.aload_n 0, 1) := by decide +kernel
theorem dX8_countAsNoted_15 : decode cX8_countAsNoted 15 = .ok (.iload_n 2, 1) := by decide +kernel
theorem dX8_countAsNoted_16 : decode cX8_countAsNoted 16 = .ok (.invokevirtual 91, 3) := by decide +kernel
theorem dX8_countAsNoted_19 : decode cX8_countAsNoted 19 = .ok (.invokevirtual 155, 3) := by decide +kernel
theorem dX8_countAsNoted_22 : decode cX8_countAsNoted 22 = .ok (.ifCond .eq 7, 3) := by decide +kernel
theorem dX8_countAsNoted_25 : decode cX8_countAsNoted 25 = .ok (.iconst 1, 1) := by decide +kernel
theorem dX8_countAsNoted_26 : decode cX8_countAsNoted 26 = .ok (.goto 4, 3) := by decide +kernel
theorem dX8_countAsNoted_29 : decode cX8_countAsNoted 29 = .ok (.iconst 0, 1) := by decide +kernel
theorem dX8_countAsNoted_30 : decode cX8_countAsNoted 30 = .ok (.iadd, 1) := by decide +kernel
theorem dX8_countAsNoted_31 : decode cX8_countAsNoted 31 = .ok (.istore_n 1, 1) := by decide +kernel
theorem dX8_countAsNoted_32 : decode cX8_countAsNoted 32 = .ok (.iinc 2 1, 3) := by decide +kernel
theorem dX8_countAsNoted_35 : decode cX8_countAsNoted 35 = .ok (.goto (-31), 3) := by decide +kernel
theorem dX8_countAsNoted_38 : decode cX8_countAsNoted 38 = .ok (.iload_n 1, 1) := by decide +kernel
theorem dX8_countAsNoted_39 : decode cX8_countAsNoted 39 = .ok (.ireturn, 1) := by decide +kernel
theorem dX8_areChaptersToldAlike_0 : decode cX8_areChaptersToldAlike 0 = .ok (.iconst 0, 1) := by decide +kernel
theorem dX8_areChaptersToldAlike_1 : decode cX8_areChaptersToldAlike 1 = .ok (.istore_n 2, 1) := by decide +kernel
theorem dX8_areChaptersToldAlike_2 : decode cX8_areChaptersToldAlike 2 = .ok (.iconst 0, 1) := by decide +kernel
theorem dX8_areChaptersToldAlike_3 : decode cX8_areChaptersToldAlike 3 = .ok (.istore_n 3, 1) := by decide +kernel
theorem dX8_areChaptersToldAlike_4 : decode cX8_areChaptersToldAlike 4 = .ok (.iload_n 3, 1) := by decide +kernel
theorem dX8_areChaptersToldAlike_5 : decode cX8_areChaptersToldAlike 5 = .ok (.iconst 3, 1) := by decide +kernel
theorem dX8_areChaptersToldAlike_6 : decode cX8_areChaptersToldAlike 6 = .ok (.if_icmp .ge 21, 3) := by decide +kernel
theorem dX8_areChaptersToldAlike_9 : decode cX8_areChaptersToldAlike 9 = .ok (.iload_n 2, 1) := by decide +kernel
theorem dX8_areChaptersToldAlike_10 : decode cX8_areChaptersToldAlike 10 = .ok (.aload_n 0, 1) := by decide +kernel
theorem dX8_areChaptersToldAlike_11 : decode cX8_areChaptersToldAlike 11 = .ok (.iload_n 3, 1) := by decide +kernel
theorem dX8_areChaptersToldAlike_12 : decode cX8_areChaptersToldAlike 12 = .ok (.invokevirtual 65, 3) := by decide +kernel
theorem dX8_areChaptersToldAlike_15 : decode cX8_areChaptersToldAlike 15 = .ok (.aload_n 1, 1) := by decide +kernel
theorem dX8_areChaptersToldAlike_16 : decode cX8_areChaptersToldAlike 16 = .ok (.invokevirtual 159, 3) := by decide +kernel
theorem dX8_areChaptersToldAlike_19 : decode cX8_areChaptersToldAlike 19 = .ok (.iadd, 1) := by decide +kernel
theorem dX8_areChaptersToldAlike_20 : decode cX8_areChaptersToldAlike 20 = .ok (.istore_n 2, 1) := by decide +kernel
theorem dX8_areChaptersToldAlike_21 : decode cX8_areChaptersToldAlike 21 = .ok (.iinc 3 1, 3) := by decide +kernel
theorem dX8_areChaptersToldAlike_24 : decode cX8_areChaptersToldAlike 24 = .ok (.goto (-20), 3) := by decide +kernel
theorem dX8_areChaptersToldAlike_27 : decode cX8_areChaptersToldAlike 27 = .ok (.iload_n 2, 1) := by decide +kernel
theorem dX8_areChaptersToldAlike_28 : decode cX8_areChaptersToldAlike 28 = .ok (.aload_n 0, 1) := by decide +kernel
theorem dX8_areChaptersToldAlike_29 : decode cX8_areChaptersToldAlike 29 = .ok (.invokevirtual 163, 3) := by decide +kernel
theorem dX8_areChaptersToldAlike_32 : decode cX8_areChaptersToldAlike 32 = .ok (.if_icmp .ne 7, 3) := by decide +kernel
theorem dX8_areChaptersToldAlike_35 : decode cX8_areChaptersToldAlike 35 = .ok (.iconst 1, 1) := by decide +kernel
theorem dX8_areChaptersToldAlike_36 : decode cX8_areChaptersToldAlike 36 = .ok (.goto 4, 3) := by decide +kernel
theorem dX8_areChaptersToldAlike_39 : decode cX8_areChaptersToldAlike 39 = .ok (.iconst 0, 1) := by decide +kernel
theorem dX8_areChaptersToldAlike_40 : decode cX8_areChaptersToldAlike 40 = .ok (.ireturn, 1) := by decide +kernel
theorem dX8_areNotesToldAlike_0 : decode cX8_areNotesToldAlike 0 = .ok (.iconst 0, 1) := by decide +kernel
theorem dX8_areNotesToldAlike_1 : decode cX8_areNotesToldAlike 1 = .ok (.istore_n 2, 1) := by decide +kernel
theorem dX8_areNotesToldAlike_2 : decode cX8_areNotesToldAlike 2 = .ok (.iload_n 2, 1) := by decide +kernel
theorem dX8_areNotesToldAlike_3 : decode cX8_areNotesToldAlike 3 = .ok (.aload_n 0, 1) := by decide +kernel
theorem dX8_areNotesToldAlike_4 : decode cX8_areNotesToldAlike 4 = .ok (.getfield 33, 3) := by decide +kernel
theorem dX8_areNotesToldAlike_7 : decode cX8_areNotesToldAlike 7 = .ok (.if_icmp .ge 39, 3) := by decide +kernel
theorem dX8_areNotesToldAlike_10 : decode cX8_areNotesToldAlike 10 = .ok (.aload_n 0, 1) := by decide +kernel
theorem dX8_areNotesToldAlike_11 : decode cX8_areNotesToldAlike 11 = .ok (.iload_n 2, 1) := by decide +kernel
theorem dX8_areNotesToldAlike_12 : decode cX8_areNotesToldAlike 12 = .ok (.invokevirtual 91, 3) := by decide +kernel
theorem dX8_areNotesToldAlike_15 : decode cX8_areNotesToldAlike 15 = .ok (.astore_n 3, 1) := by decide +kernel
theorem dX8_areNotesToldAlike_16 : decode cX8_areNotesToldAlike 16 = .ok (.aload_n 0, 1) := by decide +kernel
theorem dX8_areNotesToldAlike_17 : decode cX8_areNotesToldAlike 17 = .ok (.aload_n 3, 1) := by decide +kernel
theorem dX8_areNotesToldAlike_18 : decode cX8_areNotesToldAlike 18 = .ok (.invokevirtual 166, 3) := by decide +kernel
theorem dX8_areNotesToldAlike_21 : decode cX8_areNotesToldAlike 21 = .ok (.ifCond .eq 19, 3) := by decide +kernel
theorem dX8_areNotesToldAlike_24 : decode cX8_areNotesToldAlike 24 = .ok (.aload_n 0, 1) := by decide +kernel
theorem dX8_areNotesToldAlike_25 : decode cX8_areNotesToldAlike 25 = .ok (.aload_n 3, 1) := by decide +kernel
theorem dX8_areNotesToldAlike_26 : decode cX8_areNotesToldAlike 26 = .ok (.aload_n 1, 1) := by decide +kernel
theorem dX8_areNotesToldAlike_27 : decode cX8_areNotesToldAlike 27 = .ok (.invokevirtual 169, 3) := by decide +kernel
theorem dX8_areNotesToldAlike_30 : decode cX8_areNotesToldAlike 30 = .ok (.aload_n 0, 1) := by decide +kernel
theorem dX8_areNotesToldAlike_31 : decode cX8_areNotesToldAlike 31 = .ok (.aload_n 3, 1) := by decide +kernel
theorem dX8_areNotesToldAlike_32 : decode cX8_areNotesToldAlike 32 = .ok (.invokevirtual 172, 3) := by decide +kernel
theorem dX8_areNotesToldAlike_35 : decode cX8_areNotesToldAlike 35 = .ok (.if_icmp .eq 5, 3) := by decide +kernel
theorem dX8_areNotesToldAlike_38 : decode cX8_areNotesToldAlike 38 = .ok (.iconst 0, 1) := by decide +kernel
theorem dX8_areNotesToldAlike_39 : decode cX8_areNotesToldAlike 39 = .ok (.ireturn, 1) := by decide +kernel
theorem dX8_areNotesToldAlike_40 : decode cX8_areNotesToldAlike 40 = .ok (.iinc 2 1, 3) := by decide +kernel
theorem dX8_areNotesToldAlike_43 : decode cX8_areNotesToldAlike 43 = .ok (.goto (-41), 3) := by decide +kernel
theorem dX8_areNotesToldAlike_46 : decode cX8_areNotesToldAlike 46 = .ok (.iconst 1, 1) := by decide +kernel
theorem dX8_areNotesToldAlike_47 : decode cX8_areNotesToldAlike 47 = .ok (.ireturn, 1) := by decide +kernel
theorem dX9_init_0 : decode cX9_init 0 = .ok (.aload_n 0, 1) := by decide +kernel
theorem dX9_init_1 : decode cX9_init 1 = .ok (.invokespecial 3, 3) := by decide +kernel
theorem dX9_init_4 : decode cX9_init 4 = .ok (.aload_n 0, 1) := by decide +kernel
theorem dX9_init_5 : decode cX9_init 5 = .ok (.new 9, 3) := by decide +kernel
theorem dX9_init_8 : decode cX9_init 8 = .ok (.dup, 1) := by decide +kernel
theorem dX9_init_9 : decode cX9_init 9 = .ok (.invokespecial 11, 3) := by decide +kernel
theorem dX9_init_12 : decode cX9_init 12 = .ok (.putfield 12, 3) := by decide +kernel
theorem dX9_init_15 : decode cX9_init 15 = .ok (.aload_n 0, 1) := by decide +kernel
theorem dX9_init_16 : decode cX9_init 16 = .ok (.new 9, 3) := by decide +kernel
theorem dX9_init_19 : decode cX9_init 19 = .ok (.dup, 1) := by decide +kernel
theorem dX9_init_20 : decode cX9_init 20 = .ok (.invokespecial 11, 3) := by decide +kernel
theorem dX9_init_23 : decode cX9_init 23 = .ok (.putfield 16, 3) := by decide +kernel
theorem dX9_init_26 : decode cX9_init 26 = .ok (.aload_n 0, 1) := by decide +kernel
theorem dX9_init_27 : decode cX9_init 27 = .ok (.new 9, 3) := by decide +kernel
theorem dX9_init_30 : decode cX9_init 30 = .ok (.dup, 1) := by decide +kernel
theorem dX9_init_31 : decode cX9_init 31 = .ok (.invokespecial 11, 3) := by decide +kernel
theorem dX9_init_34 : decode cX9_init 34 = .ok (.putfield 19, 3) := by decide +kernel
theorem dX9_init_37 : decode cX9_init 37 = .ok (.aload_n 0, 1) := by decide +kernel
theorem dX9_init_38 : decode cX9_init 38 = .ok (.iconst 0, 1) := by decide +kernel
theorem dX9_init_39 : decode cX9_init 39 = .ok (.putfield 22, 3) := by decide +kernel
theorem dX9_init_42 : decode cX9_init 42 = .ok (.aload_n 0, 1) := by decide +kernel
theorem dX9_init_43 : decode cX9_init 43 = .ok (.new 26, 3) := by decide +kernel
theorem dX9_init_46 : decode cX9_init 46 = .ok (.dup, 1) := by decide +kernel
theorem dX9_init_47 : decode cX9_init 47 = .ok (.invokespecial 28, 3) := by decide +kernel
theorem dX9_init_50 : decode cX9_init 50 = .ok (.putfield 29, 3) := by decide +kernel
theorem dX9_init_53 : decode cX9_init 53 = .ok (.aload_n 0, 1) := by decide +kernel
theorem dX9_init_54 : decode cX9_init 54 = .ok (.new 33, 3) := by decide +kernel
theorem dX9_init_57 : decode cX9_init 57 = .ok (.dup, 1) := by decide +kernel
theorem dX9_init_58 : decode cX9_init 58 = .ok (.invokespecial 35, 3) := by decide +kernel
theorem dX9_init_61 : decode cX9_init 61 = .ok (.putfield 36, 3) := by decide +kernel
theorem dX9_init_64 : decode cX9_init 64 = .ok (.aload_n 0, 1) := by decide +kernel
theorem dX9_init_65 : decode cX9_init 65 = .ok (.new 40, 3) := by decide +kernel
theorem dX9_init_68 : decode cX9_init 68 = .ok (.dup, 1) := by decide +kernel
theorem dX9_init_69 : decode cX9_init 69 = .ok (.invokespecial 42, 3) := by decide +kernel
theorem dX9_init_72 : decode cX9_init 72 = .ok (.putfield 43, 3) := by decide +kernel
theorem dX9_init_75 : decode cX9_init 75 = .ok (.aload_n 0, 1) := by decide +kernel
theorem dX9_init_76 : decode cX9_init 76 = .ok (.new 47, 3) := by decide +kernel
theorem dX9_init_79 : decode cX9_init 79 = .ok (.dup, 1) := by decide +kernel
theorem dX9_init_80 : decode cX9_init 80 = .ok (.invokespecial 49, 3) := by decide +kernel
theorem dX9_init_83 : decode cX9_init 83 = .ok (.putfield 50, 3) := by decide +kernel
theorem dX9_init_86 : decode cX9_init 86 = .ok (.aload_n 0, 1) := by decide +kernel
theorem dX9_init_87 : decode cX9_init 87 = .ok (.new 54, 3) := by decide +kernel
theorem dX9_init_90 : decode cX9_init 90 = .ok (.dup, 1) := by decide +kernel
theorem dX9_init_91 : decode cX9_init 91 = .ok (.invokespecial 56, 3) := by decide +kernel
theorem dX9_init_94 : decode cX9_init 94 = .ok (.putfield 57, 3) := by decide +kernel
theorem dX9_init_97 : decode cX9_init 97 = .ok (.aload_n 0, 1) := by decide +kernel
theorem dX9_init_98 : decode cX9_init 98 = .ok (.iconst 0, 1) := by decide +kernel
theorem dX9_init_99 : decode cX9_init 99 = .ok (.putfield 61, 3) := by decide +kernel
theorem dX9_init_102 : decode cX9_init 102 = .ok (.aload_n 0, 1) := by decide +kernel
theorem dX9_init_103 : decode cX9_init 103 = .ok (.iconst (-1), 1) := by decide +kernel
theorem dX9_init_104 : decode cX9_init 104 = .ok (.putfield 65, 3) := by decide +kernel
theorem dX9_init_107 : decode cX9_init 107 = .ok (.return_, 1) := by decide +kernel
theorem dX9_knot_0 : decode cX9_knot 0 = .ok (.aload_n 0, 1) := by decide +kernel
theorem dX9_knot_1 : decode cX9_knot 1 = .ok (.aload_n 0, 1) := by decide +kernel
theorem dX9_knot_2 : decode cX9_knot 2 = .ok (.iload_n 1, 1) := by decide +kernel
theorem dX9_knot_3 : decode cX9_knot 3 = .ok (.iload_n 2, 1) := by decide +kernel
theorem dX9_knot_4 : decode cX9_knot 4 = .ok (.iload_n 3, 1) := by decide +kernel
theorem dX9_knot_5 : decode cX9_knot 5 = .ok (.invokevirtual 68, 3) := by decide +kernel
theorem dX9_knot_8 : decode cX9_knot 8 = .ok (.invokevirtual 72, 3) := by decide +kernel
theorem dX9_knot_11 : decode cX9_knot 11 = .ok (.ifCond .eq 13, 3) := by decide +kernel
theorem dX9_knot_14 : decode cX9_knot 14 = .ok (.new 76, 3) := by decide +kernel
theorem dX9_knot_17 : decode cX9_knot 17 = .ok (.dup, 1) := by decide +kernel
theorem dX9_knot_18 : decode cX9_knot 18 = .ok (.ldc 78, 2) := by decide +kernel
theorem dX9_knot_20 : decode cX9_knot 20 = .ok (.invokespecial 80, 3) := by decide +kernel
theorem dX9_knot_23 : decode cX9_knot 23 = .ok (.athrow, 1) := by decide +kernel
theorem dX9_knot_24 : decode cX9_knot 24 = .ok (.aload_n 0, 1) := by decide +kernel
theorem dX9_knot_25 : decode cX9_knot 25 = .ok (.getfield 29, 3) := by decide +kernel
theorem dX9_knot_28 : decode cX9_knot 28 = .ok (.aload_n 0, 1) := by decide +kernel
theorem dX9_knot_29 : decode cX9_knot 29 = .ok (.getfield 12, 3) := by decide +kernel
theorem dX9_knot_32 : decode cX9_knot 32 = .ok (.invokevirtual 83, 3) := by decide +kernel
theorem dX9_knot_35 : decode cX9_knot 35 = .ok (.aload_n 0, 1) := by decide +kernel
theorem dX9_knot_36 : decode cX9_knot 36 = .ok (.getfield 12, 3) := by decide +kernel
theorem dX9_knot_39 : decode cX9_knot 39 = .ok (.iload_n 1, 1) := by decide +kernel
theorem dX9_knot_40 : decode cX9_knot 40 = .ok (.invokevirtual 87, 3) := by decide +kernel
theorem dX9_knot_43 : decode cX9_knot 43 = .ok (.iload_n 2, 1) := by decide +kernel
theorem dX9_knot_44 : decode cX9_knot 44 = .ok (.invokevirtual 91, 3) := by decide +kernel
theorem dX9_knot_47 : decode cX9_knot 47 = .ok (.istore 4, 2) := by decide +kernel
theorem dX9_knot_49 : decode cX9_knot 49 = .ok (.aload_n 0, 1) := by decide +kernel
theorem dX9_knot_50 : decode cX9_knot 50 = .ok (.getfield 12, 3) := by decide +kernel
theorem dX9_knot_53 : decode cX9_knot 53 = .ok (.iload_n 1, 1) := by decide +kernel
theorem dX9_knot_54 : decode cX9_knot 54 = .ok (.invokevirtual 87, 3) := by decide +kernel
theorem dX9_knot_57 : decode cX9_knot 57 = .ok (.iload_n 2, 1) := by decide +kernel
theorem dX9_knot_58 : decode cX9_knot 58 = .ok (.iload_n 3, 1) := by decide +kernel
theorem dX9_knot_59 : decode cX9_knot 59 = .ok (.invokevirtual 97, 3) := by decide +kernel
theorem dX9_knot_62 : decode cX9_knot 62 = .ok (.iload 4, 2) := by decide +kernel
theorem dX9_knot_64 : decode cX9_knot 64 = .ok (.ireturn, 1) := by decide +kernel
theorem dX9_tear_0 : decode cX9_tear 0 = .ok (.aload_n 0, 1) := by decide +kernel
theorem dX9_tear_1 : decode cX9_tear 1 = .ok (.aload_n 0, 1) := by decide +kernel
theorem dX9_tear_2 : decode cX9_tear 2 = .ok (.iload_n 1, 1) := by decide +kernel
theorem dX9_tear_3 : decode cX9_tear 3 = .ok (.iload_n 2, 1) := by decide +kernel
theorem dX9_tear_4 : decode cX9_tear 4 = .ok (.iload_n 3, 1) := by decide +kernel
theorem dX9_tear_5 : decode cX9_tear 5 = .ok (.invokevirtual 101, 3) := by decide +kernel
theorem dX9_tear_8 : decode cX9_tear 8 = .ok (.invokevirtual 72, 3) := by decide +kernel
theorem dX9_tear_11 : decode cX9_tear 11 = .ok (.ifCond .eq 13, 3) := by decide +kernel
theorem dX9_tear_14 : decode cX9_tear 14 = .ok (.new 76, 3) := by decide +kernel
theorem dX9_tear_17 : decode cX9_tear 17 = .ok (.dup, 1) := by decide +kernel
theorem dX9_tear_18 : decode cX9_tear 18 = .ok (.ldc 104, 2) := by decide +kernel
theorem dX9_tear_20 : decode cX9_tear 20 = .ok (.invokespecial 80, 3) := by decide +kernel
theorem dX9_tear_23 : decode cX9_tear 23 = .ok (.athrow, 1) := by decide +kernel
theorem dX9_tear_24 : decode cX9_tear 24 = .ok (.aload_n 0, 1) := by decide +kernel
theorem dX9_tear_25 : decode cX9_tear 25 = .ok (.getfield 29, 3) := by decide +kernel
theorem dX9_tear_28 : decode cX9_tear 28 = .ok (.aload_n 0, 1) := by decide +kernel
theorem dX9_tear_29 : decode cX9_tear 29 = .ok (.getfield 12, 3) := by decide +kernel
theorem dX9_tear_32 : decode cX9_tear 32 = .ok (.invokevirtual 83, 3) := by decide +kernel
theorem dX9_tear_35 : decode cX9_tear 35 = .ok (.aload_n 0, 1) := by decide +kernel
theorem dX9_tear_36 : decode cX9_tear 36 = .ok (.getfield 12, 3) := by decide +kernel
theorem dX9_tear_39 : decode cX9_tear 39 = .ok (.iload_n 1, 1) := by decide +kernel
theorem dX9_tear_40 : decode cX9_tear 40 = .ok (.iload_n 2, 1) := by decide +kernel
theorem dX9_tear_41 : decode cX9_tear 41 = .ok (.iload_n 3, 1) := by decide +kernel
theorem dX9_tear_42 : decode cX9_tear 42 = .ok (.invokevirtual 106, 3) := by decide +kernel
theorem dX9_tear_45 : decode cX9_tear 45 = .ok (.aload_n 0, 1) := by decide +kernel
theorem dX9_tear_46 : decode cX9_tear 46 = .ok (.getfield 12, 3) := by decide +kernel
theorem dX9_tear_49 : decode cX9_tear 49 = .ok (.iload_n 1, 1) := by decide +kernel
theorem dX9_tear_50 : decode cX9_tear 50 = .ok (.invokevirtual 87, 3) := by decide +kernel
theorem dX9_tear_53 : decode cX9_tear 53 = .ok (.invokevirtual 110, 3) := by decide +kernel
theorem dX9_tear_56 : decode cX9_tear 56 = .ok (.ireturn, 1) := by decide +kernel
theorem dX9_mend_0 : decode cX9_mend 0 = .ok (.aload_n 0, 1) := by decide +kernel
theorem dX9_mend_1 : decode cX9_mend 1 = .ok (.aload_n 0, 1) := by decide +kernel
theorem dX9_mend_2 : decode cX9_mend 2 = .ok (.iload_n 1, 1) := by decide +kernel
theorem dX9_mend_3 : decode cX9_mend 3 = .ok (.iload_n 2, 1) := by decide +kernel
theorem dX9_mend_4 : decode cX9_mend 4 = .ok (.iload_n 3, 1) := by decide +kernel
theorem dX9_mend_5 : decode cX9_mend 5 = .ok (.iload 4, 2) := by decide +kernel
theorem dX9_mend_7 : decode cX9_mend 7 = .ok (.invokevirtual 114, 3) := by decide +kernel
theorem dX9_mend_10 : decode cX9_mend 10 = .ok (.invokevirtual 72, 3) := by decide +kernel
theorem dX9_mend_13 : decode cX9_mend 13 = .ok (.ifCond .eq 13, 3) := by decide +kernel
theorem dX9_mend_16 : decode cX9_mend 16 = .ok (.new 76, 3) := by decide +kernel
theorem dX9_mend_19 : decode cX9_mend 19 = .ok (.dup, 1) := by decide +kernel
theorem dX9_mend_20 : decode cX9_mend 20 = .ok (.ldc 118, 2) := by decide +kernel
theorem dX9_mend_22 : decode cX9_mend 22 = .ok (.invokespecial 80, 3) := by decide +kernel
theorem dX9_mend_25 : decode cX9_mend 25 = .ok (.athrow, 1) := by decide +kernel
theorem dX9_mend_26 : decode cX9_mend 26 = .ok (.aload_n 0, 1) := by decide +kernel
theorem dX9_mend_27 : decode cX9_mend 27 = .ok (.getfield 29, 3) := by decide +kernel
theorem dX9_mend_30 : decode cX9_mend 30 = .ok (.aload_n 0, 1) := by decide +kernel
theorem dX9_mend_31 : decode cX9_mend 31 = .ok (.getfield 12, 3) := by decide +kernel
theorem dX9_mend_34 : decode cX9_mend 34 = .ok (.invokevirtual 83, 3) := by decide +kernel
theorem dX9_mend_37 : decode cX9_mend 37 = .ok (.aload_n 0, 1) := by decide +kernel
theorem dX9_mend_38 : decode cX9_mend 38 = .ok (.getfield 12, 3) := by decide +kernel
theorem dX9_mend_41 : decode cX9_mend 41 = .ok (.iload_n 1, 1) := by decide +kernel
theorem dX9_mend_42 : decode cX9_mend 42 = .ok (.iload_n 2, 1) := by decide +kernel
theorem dX9_mend_43 : decode cX9_mend 43 = .ok (.iload_n 3, 1) := by decide +kernel
theorem dX9_mend_44 : decode cX9_mend 44 = .ok (.iload 4, 2) := by decide +kernel
theorem dX9_mend_46 : decode cX9_mend 46 = .ok (.invokevirtual 120, 3) := by decide +kernel
theorem dX9_mend_49 : decode cX9_mend 49 = .ok (.aload_n 0, 1) := by decide +kernel
theorem dX9_mend_50 : decode cX9_mend 50 = .ok (.getfield 12, 3) := by decide +kernel
theorem dX9_mend_53 : decode cX9_mend 53 = .ok (.iload 4, 2) := by decide +kernel
theorem dX9_mend_55 : decode cX9_mend 55 = .ok (.invokevirtual 124, 3) := by decide +kernel
theorem dX9_mend_58 : decode cX9_mend 58 = .ok (.getfield 128, 3) := by decide +kernel
theorem dX9_mend_61 : decode cX9_mend 61 = .ok (.ireturn, 1) := by decide +kernel
theorem dX9_editor_0 : decode cX9_editor 0 = .ok (.aload_n 0, 1) := by decide +kernel
theorem dX9_editor_1 : decode cX9_editor 1 = .ok (.aload_n 0, 1) := by decide +kernel
theorem dX9_editor_2 : decode cX9_editor 2 = .ok (.iload_n 1, 1) := by decide +kernel
theorem dX9_editor_3 : decode cX9_editor 3 = .ok (.invokevirtual 133, 3) := by decide +kernel
theorem dX9_editor_6 : decode cX9_editor 6 = .ok (.invokevirtual 72, 3) := by decide +kernel
theorem dX9_editor_9 : decode cX9_editor 9 = .ok (.ifCond .eq 13, 3) := by decide +kernel
theorem dX9_editor_12 : decode cX9_editor 12 = .ok (.new 76, 3) := by decide +kernel
theorem dX9_editor_15 : decode cX9_editor 15 = .ok (.dup, 1) := by decide +kernel
theorem dX9_editor_16 : decode cX9_editor 16 = .ok (.ldc 136, 2) := by decide +kernel
theorem dX9_editor_18 : decode cX9_editor 18 = .ok (.invokespecial 80, 3) := by decide +kernel
theorem dX9_editor_21 : decode cX9_editor 21 = .ok (.athrow, 1) := by decide +kernel
theorem dX9_editor_22 : decode cX9_editor 22 = .ok (.aload_n 0, 1) := by decide +kernel
theorem dX9_editor_23 : decode cX9_editor 23 = .ok (.getfield 29, 3) := by decide +kernel
theorem dX9_editor_26 : decode cX9_editor 26 = .ok (.aload_n 0, 1) := by decide +kernel
theorem dX9_editor_27 : decode cX9_editor 27 = .ok (.getfield 12, 3) := by decide +kernel
theorem dX9_editor_30 : decode cX9_editor 30 = .ok (.invokevirtual 83, 3) := by decide +kernel
theorem dX9_editor_33 : decode cX9_editor 33 = .ok (.aload_n 0, 1) := by decide +kernel
theorem dX9_editor_34 : decode cX9_editor 34 = .ok (.getfield 12, 3) := by decide +kernel
theorem dX9_editor_37 : decode cX9_editor 37 = .ok (.iload_n 1, 1) := by decide +kernel
theorem dX9_editor_38 : decode cX9_editor 38 = .ok (.invokevirtual 138, 3) := by decide +kernel
theorem dX9_editor_41 : decode cX9_editor 41 = .ok (.aload_n 0, 1) := by decide +kernel
theorem dX9_editor_42 : decode cX9_editor 42 = .ok (.getfield 12, 3) := by decide +kernel
theorem dX9_editor_45 : decode cX9_editor 45 = .ok (.getfield 142, 3) := by decide +kernel
theorem dX9_editor_48 : decode cX9_editor 48 = .ok (.iconst 1, 1) := by decide +kernel
theorem dX9_editor_49 : decode cX9_editor 49 = .ok (.isub, 1) := by decide +kernel
theorem dX9_editor_50 : decode cX9_editor 50 = .ok (.ireturn, 1) := by decide +kernel
theorem dX9_tide_0 : decode cX9_tide 0 = .ok (.aload_n 0, 1) := by decide +kernel
theorem dX9_tide_1 : decode cX9_tide 1 = .ok (.aload_n 0, 1) := by decide +kernel
theorem dX9_tide_2 : decode cX9_tide 2 = .ok (.iload_n 1, 1) := by decide +kernel
theorem dX9_tide_3 : decode cX9_tide 3 = .ok (.invokevirtual 145, 3) := by decide +kernel
theorem dX9_tide_6 : decode cX9_tide 6 = .ok (.invokevirtual 72, 3) := by decide +kernel
theorem dX9_tide_9 : decode cX9_tide 9 = .ok (.ifCond .eq 13, 3) := by decide +kernel
theorem dX9_tide_12 : decode cX9_tide 12 = .ok (.new 76, 3) := by decide +kernel
theorem dX9_tide_15 : decode cX9_tide 15 = .ok (.dup, 1) := by decide +kernel
theorem dX9_tide_16 : decode cX9_tide 16 = .ok (.ldc 148, 2) := by decide +kernel
theorem dX9_tide_18 : decode cX9_tide 18 = .ok (.invokespecial 80, 3) := by decide +kernel
theorem dX9_tide_21 : decode cX9_tide 21 = .ok (.athrow, 1) := by decide +kernel
theorem dX9_tide_22 : decode cX9_tide 22 = .ok (.aload_n 0, 1) := by decide +kernel
theorem dX9_tide_23 : decode cX9_tide 23 = .ok (.getfield 29, 3) := by decide +kernel
theorem dX9_tide_26 : decode cX9_tide 26 = .ok (.aload_n 0, 1) := by decide +kernel
theorem dX9_tide_27 : decode cX9_tide 27 = .ok (.getfield 12, 3) := by decide +kernel
theorem dX9_tide_30 : decode cX9_tide 30 = .ok (.invokevirtual 83, 3) := by decide +kernel
theorem dX9_tide_33 : decode cX9_tide 33 = .ok (.aload_n 0, 1) := by decide +kernel
theorem dX9_tide_34 : decode cX9_tide 34 = .ok (.getfield 12, 3) := by decide +kernel
theorem dX9_tide_37 : decode cX9_tide 37 = .ok (.iload_n 1, 1) := by decide +kernel
theorem dX9_tide_38 : decode cX9_tide 38 = .ok (.putfield 150, 3) := by decide +kernel
theorem dX9_tide_41 : decode cX9_tide 41 = .ok (.aload_n 0, 1) := by decide +kernel
theorem dX9_tide_42 : decode cX9_tide 42 = .ok (.getfield 12, 3) := by decide +kernel
theorem dX9_tide_45 : decode cX9_tide 45 = .ok (.invokevirtual 153, 3) := by decide +kernel
theorem dX9_tide_48 : decode cX9_tide 48 = .ok (.ireturn, 1) := by decide +kernel
theorem dX9_sink_0 : decode cX9_sink 0 = .ok (.aload_n 0, 1) := by decide +kernel
theorem dX9_sink_1 : decode cX9_sink 1 = .ok (.aload_n 0, 1) := by decide +kernel
theorem dX9_sink_2 : decode cX9_sink 2 = .ok (.iload_n 1, 1) := by decide +kernel
theorem dX9_sink_3 : decode cX9_sink 3 = .ok (.iload_n 2, 1) := by decide +kernel
theorem dX9_sink_4 : decode cX9_sink 4 = .ok (.invokevirtual 156, 3) := by decide +kernel
theorem dX9_sink_7 : decode cX9_sink 7 = .ok (.invokevirtual 72, 3) := by decide +kernel
theorem dX9_sink_10 : decode cX9_sink 10 = .ok (.ifCond .eq 13, 3) := by decide +kernel
theorem dX9_sink_13 : decode cX9_sink 13 = .ok (.new 76, 3) := by decide +kernel
theorem dX9_sink_16 : decode cX9_sink 16 = .ok (.dup, 1) := by decide +kernel
theorem dX9_sink_17 : decode cX9_sink 17 = .ok (.ldc 160, 2) := by decide +kernel
theorem dX9_sink_19 : decode cX9_sink 19 = .ok (.invokespecial 80, 3) := by decide +kernel
theorem dX9_sink_22 : decode cX9_sink 22 = .ok (.athrow, 1) := by decide +kernel
theorem dX9_sink_23 : decode cX9_sink 23 = .ok (.aload_n 0, 1) := by decide +kernel
theorem dX9_sink_24 : decode cX9_sink 24 = .ok (.getfield 29, 3) := by decide +kernel
theorem dX9_sink_27 : decode cX9_sink 27 = .ok (.aload_n 0, 1) := by decide +kernel
theorem dX9_sink_28 : decode cX9_sink 28 = .ok (.getfield 12, 3) := by decide +kernel
theorem dX9_sink_31 : decode cX9_sink 31 = .ok (.invokevirtual 83, 3) := by decide +kernel
theorem dX9_sink_34 : decode cX9_sink 34 = .ok (.aload_n 0, 1) := by decide +kernel
theorem dX9_sink_35 : decode cX9_sink 35 = .ok (.getfield 12, 3) := by decide +kernel
theorem dX9_sink_38 : decode cX9_sink 38 = .ok (.iload_n 1, 1) := by decide +kernel
theorem dX9_sink_39 : decode cX9_sink 39 = .ok (.invokevirtual 87, 3) := by decide +kernel
theorem dX9_sink_42 : decode cX9_sink 42 = .ok (.iload_n 2, 1) := by decide +kernel
theorem dX9_sink_43 : decode cX9_sink 43 = .ok (.putfield 162, 3) := by decide +kernel
theorem dX9_sink_46 : decode cX9_sink 46 = .ok (.aload_n 0, 1) := by decide +kernel
theorem dX9_sink_47 : decode cX9_sink 47 = .ok (.getfield 12, 3) := by decide +kernel
theorem dX9_sink_50 : decode cX9_sink 50 = .ok (.iload_n 1, 1) := by decide +kernel
theorem dX9_sink_51 : decode cX9_sink 51 = .ok (.invokevirtual 165, 3) := by decide +kernel
theorem dX9_sink_54 : decode cX9_sink 54 = .ok (.ireturn, 1) := by decide +kernel
theorem dX9_note_0 : decode cX9_note 0 = .ok (.aload_n 0, 1) := by decide +kernel
theorem dX9_note_1 : decode cX9_note 1 = .ok (.aload_n 0, 1) := by decide +kernel
theorem dX9_note_2 : decode cX9_note 2 = .ok (.iload_n 1, 1) := by decide +kernel
theorem dX9_note_3 : decode cX9_note 3 = .ok (.iload_n 2, 1) := by decide +kernel
theorem dX9_note_4 : decode cX9_note 4 = .ok (.invokevirtual 168, 3) := by decide +kernel
theorem dX9_note_7 : decode cX9_note 7 = .ok (.invokevirtual 72, 3) := by decide +kernel
theorem dX9_note_10 : decode cX9_note 10 = .ok (.ifCond .eq 13, 3) := by decide +kernel
theorem dX9_note_13 : decode cX9_note 13 = .ok (.new 76, 3) := by decide +kernel
theorem dX9_note_16 : decode cX9_note 16 = .ok (.dup, 1) := by decide +kernel
theorem dX9_note_17 : decode cX9_note 17 = .ok (.ldc 171, 2) := by decide +kernel
theorem dX9_note_19 : decode cX9_note 19 = .ok (.invokespecial 80, 3) := by decide +kernel
theorem dX9_note_22 : decode cX9_note 22 = .ok (.athrow, 1) := by decide +kernel
theorem dX9_note_23 : decode cX9_note 23 = .ok (.aload_n 0, 1) := by decide +kernel
theorem dX9_note_24 : decode cX9_note 24 = .ok (.getfield 29, 3) := by decide +kernel
theorem dX9_note_27 : decode cX9_note 27 = .ok (.aload_n 0, 1) := by decide +kernel
theorem dX9_note_28 : decode cX9_note 28 = .ok (.getfield 12, 3) := by decide +kernel
theorem dX9_note_31 : decode cX9_note 31 = .ok (.invokevirtual 83, 3) := by decide +kernel
theorem dX9_note_34 : decode cX9_note 34 = .ok (.aload_n 0, 1) := by decide +kernel
theorem dX9_note_35 : decode cX9_note 35 = .ok (.getfield 12, 3) := by decide +kernel
theorem dX9_note_38 : decode cX9_note 38 = .ok (.iload_n 1, 1) := by decide +kernel
theorem dX9_note_39 : decode cX9_note 39 = .ok (.iload_n 2, 1) := by decide +kernel
theorem dX9_note_40 : decode cX9_note 40 = .ok (.invokevirtual 173, 3) := by decide +kernel
theorem dX9_note_43 : decode cX9_note 43 = .ok (.aload_n 0, 1) := by decide +kernel
theorem dX9_note_44 : decode cX9_note 44 = .ok (.getfield 12, 3) := by decide +kernel
theorem dX9_note_47 : decode cX9_note 47 = .ok (.getfield 176, 3) := by decide +kernel
theorem dX9_note_50 : decode cX9_note 50 = .ok (.iconst 1, 1) := by decide +kernel
theorem dX9_note_51 : decode cX9_note 51 = .ok (.isub, 1) := by decide +kernel
theorem dX9_note_52 : decode cX9_note 52 = .ok (.ireturn, 1) := by decide +kernel
theorem dX9_drop_0 : decode cX9_drop 0 = .ok (.aload_n 0, 1) := by decide +kernel
theorem dX9_drop_1 : decode cX9_drop 1 = .ok (.aload_n 0, 1) := by decide +kernel
theorem dX9_drop_2 : decode cX9_drop 2 = .ok (.iload_n 1, 1) := by decide +kernel
theorem dX9_drop_3 : decode cX9_drop 3 = .ok (.invokevirtual 179, 3) := by decide +kernel
theorem dX9_drop_6 : decode cX9_drop 6 = .ok (.invokevirtual 72, 3) := by decide +kernel
theorem dX9_drop_9 : decode cX9_drop 9 = .ok (.ifCond .eq 13, 3) := by decide +kernel
theorem dX9_drop_12 : decode cX9_drop 12 = .ok (.new 76, 3) := by decide +kernel
theorem dX9_drop_15 : decode cX9_drop 15 = .ok (.dup, 1) := by decide +kernel
theorem dX9_drop_16 : decode cX9_drop 16 = .ok (.ldc 182, 2) := by decide +kernel
theorem dX9_drop_18 : decode cX9_drop 18 = .ok (.invokespecial 80, 3) := by decide +kernel
theorem dX9_drop_21 : decode cX9_drop 21 = .ok (.athrow, 1) := by decide +kernel
theorem dX9_drop_22 : decode cX9_drop 22 = .ok (.aload_n 0, 1) := by decide +kernel
theorem dX9_drop_23 : decode cX9_drop 23 = .ok (.getfield 29, 3) := by decide +kernel
theorem dX9_drop_26 : decode cX9_drop 26 = .ok (.aload_n 0, 1) := by decide +kernel
theorem dX9_drop_27 : decode cX9_drop 27 = .ok (.getfield 12, 3) := by decide +kernel
theorem dX9_drop_30 : decode cX9_drop 30 = .ok (.invokevirtual 83, 3) := by decide +kernel
theorem dX9_drop_33 : decode cX9_drop 33 = .ok (.aload_n 0, 1) := by decide +kernel
theorem dX9_drop_34 : decode cX9_drop 34 = .ok (.getfield 12, 3) := by decide +kernel
theorem dX9_drop_37 : decode cX9_drop 37 = .ok (.iload_n 1, 1) := by decide +kernel
theorem dX9_drop_38 : decode cX9_drop 38 = .ok (.invokevirtual 184, 3) := by decide +kernel
theorem dX9_drop_41 : decode cX9_drop 41 = .ok (.aload_n 0, 1) := by decide +kernel
theorem dX9_drop_42 : decode cX9_drop 42 = .ok (.getfield 12, 3) := by decide +kernel
theorem dX9_drop_45 : decode cX9_drop 45 = .ok (.getfield 176, 3) := by decide +kernel
theorem dX9_drop_48 : decode cX9_drop 48 = .ok (.ireturn, 1) := by decide +kernel
theorem dX9_kindOf_0 : decode cX9_kindOf 0 = .ok (.iload_n 1, 1) := by decide +kernel
theorem dX9_kindOf_1 : decode cX9_kindOf 1 = .ok (.invokestatic 187, 3) := by decide +kernel
theorem dX9_kindOf_4 : decode cX9_kindOf 4 = .ok (.ifCond .eq 10, 3) := by decide +kernel
theorem dX9_kindOf_7 : decode cX9_kindOf 7 = .ok (.iload_n 2, 1) := by decide +kernel
theorem dX9_kindOf_8 : decode cX9_kindOf 8 = .ok (.invokestatic 190, 3) := by decide +kernel
theorem dX9_kindOf_11 : decode cX9_kindOf 11 = .ok (.ifCond .ne 13, 3) := by decide +kernel
theorem dX9_kindOf_14 : decode cX9_kindOf 14 = .ok (.new 193, 3) := by decide +kernel
theorem dX9_kindOf_17 : decode cX9_kindOf 17 = .ok (.dup, 1) := by decide +kernel
theorem dX9_kindOf_18 : decode cX9_kindOf 18 = .ok (.ldc 195, 2) := by decide +kernel
theorem dX9_kindOf_20 : decode cX9_kindOf 20 = .ok (.invokespecial 197, 3) := by decide +kernel
theorem dX9_kindOf_23 : decode cX9_kindOf 23 = .ok (.athrow, 1) := by decide +kernel
theorem dX9_kindOf_24 : decode cX9_kindOf 24 = .ok (.aload_n 0, 1) := by decide +kernel
theorem dX9_kindOf_25 : decode cX9_kindOf 25 = .ok (.getfield 12, 3) := by decide +kernel
theorem dX9_kindOf_28 : decode cX9_kindOf 28 = .ok (.iload_n 1, 1) := by decide +kernel
theorem dX9_kindOf_29 : decode cX9_kindOf 29 = .ok (.invokevirtual 87, 3) := by decide +kernel
theorem dX9_kindOf_32 : decode cX9_kindOf 32 = .ok (.iload_n 2, 1) := by decide +kernel
theorem dX9_kindOf_33 : decode cX9_kindOf 33 = .ok (.invokevirtual 91, 3) := by decide +kernel
theorem dX9_kindOf_36 : decode cX9_kindOf 36 = .ok (.ireturn, 1) := by decide +kernel
theorem dX9_isTorn_0 : decode cX9_isTorn 0 = .ok (.iload_n 1, 1) := by decide +kernel
theorem dX9_isTorn_1 : decode cX9_isTorn 1 = .ok (.invokestatic 187, 3) := by decide +kernel
theorem dX9_isTorn_4 : decode cX9_isTorn 4 = .ok (.ifCond .eq 17, 3) := by decide +kernel
theorem dX9_isTorn_7 : decode cX9_isTorn 7 = .ok (.iload_n 2, 1) := by decide +kernel
theorem dX9_isTorn_8 : decode cX9_isTorn 8 = .ok (.invokestatic 190, 3) := by decide +kernel
theorem dX9_isTorn_11 : decode cX9_isTorn 11 = .ok (.ifCond .eq 10, 3) := by decide +kernel
theorem dX9_isTorn_14 : decode cX9_isTorn 14 = .ok (.iload_n 3, 1) := by decide +kernel
theorem dX9_isTorn_15 : decode cX9_isTorn 15 = .ok (.invokestatic 190, 3) := by decide +kernel
theorem dX9_isTorn_18 : decode cX9_isTorn 18 = .ok (.ifCond .ne 13, 3) := by decide +kernel
theorem dX9_isTorn_21 : decode cX9_isTorn 21 = .ok (.new 193, 3) := by decide +kernel
theorem dX9_isTorn_24 : decode cX9_isTorn 24 = .ok (.dup, 1) := by decide +kernel
theorem dX9_isTorn_25 : decode cX9_isTorn 25 = .ok (.ldc 195, 2) := by decide +kernel
theorem dX9_isTorn_27 : decode cX9_isTorn 27 = .ok (.invokespecial 197, 3) := by decide +kernel
theorem dX9_isTorn_30 : decode cX9_isTorn 30 = .ok (.athrow, 1) := by decide +kernel
theorem dX9_isTorn_31 : decode cX9_isTorn 31 = .ok (.iload_n 2, 1) := by decide +kernel
theorem dX9_isTorn_32 : decode cX9_isTorn 32 = .ok (.iload_n 3, 1) := by decide +kernel
theorem dX9_isTorn_33 : decode cX9_isTorn 33 = .ok (.invokestatic 198, 3) := by decide +kernel
theorem dX9_isTorn_36 : decode cX9_isTorn 36 = .ok (.ifCond .ne 13, 3) := by decide +kernel
theorem dX9_isTorn_39 : decode cX9_isTorn 39 = .ok (.new 202, 3) := by decide +kernel
theorem dX9_isTorn_42 : decode cX9_isTorn 42 = .ok (.dup, 1) := by decide +kernel
theorem dX9_isTorn_43 : decode cX9_isTorn 43 = .ok (.ldc 204, 2) := by decide +kernel
theorem dX9_isTorn_45 : decode cX9_isTorn 45 = .ok (.invokespecial 206, 3) := by decide +kernel
theorem dX9_isTorn_48 : decode cX9_isTorn 48 = .ok (.athrow, 1) := by decide +kernel
theorem dX9_isTorn_49 : decode cX9_isTorn 49 = .ok (.aload_n 0, 1) := by decide +kernel
theorem dX9_isTorn_50 : decode cX9_isTorn 50 = .ok (.getfield 12, 3) := by decide +kernel
theorem dX9_isTorn_53 : decode cX9_isTorn 53 = .ok (.iload_n 1, 1) := by decide +kernel
theorem dX9_isTorn_54 : decode cX9_isTorn 54 = .ok (.invokevirtual 87, 3) := by decide +kernel
theorem dX9_isTorn_57 : decode cX9_isTorn 57 = .ok (.iload_n 2, 1) := by decide +kernel
theorem dX9_isTorn_58 : decode cX9_isTorn 58 = .ok (.iload_n 3, 1) := by decide +kernel
theorem dX9_isTorn_59 : decode cX9_isTorn 59 = .ok (.invokevirtual 207, 3) := by decide +kernel
theorem dX9_isTorn_62 : decode cX9_isTorn 62 = .ok (.ireturn, 1) := by decide +kernel
theorem dX9_netOf_0 : decode cX9_netOf 0 = .ok (.iload_n 1, 1) := by decide +kernel
theorem dX9_netOf_1 : decode cX9_netOf 1 = .ok (.invokestatic 187, 3) := by decide +kernel
theorem dX9_netOf_4 : decode cX9_netOf 4 = .ok (.ifCond .ne 13, 3) := by decide +kernel
theorem dX9_netOf_7 : decode cX9_netOf 7 = .ok (.new 193, 3) := by decide +kernel
theorem dX9_netOf_10 : decode cX9_netOf 10 = .ok (.dup, 1) := by decide +kernel
theorem dX9_netOf_11 : decode cX9_netOf 11 = .ok (.ldc 210, 2) := by decide +kernel
theorem dX9_netOf_13 : decode cX9_netOf 13 = .ok (.invokespecial 197, 3) := by decide +kernel
theorem dX9_netOf_16 : decode cX9_netOf 16 = .ok (.athrow, 1) := by decide +kernel
theorem dX9_netOf_17 : decode cX9_netOf 17 = .ok (.aload_n 0, 1) := by decide +kernel
theorem dX9_netOf_18 : decode cX9_netOf 18 = .ok (.getfield 12, 3) := by decide +kernel
theorem dX9_netOf_21 : decode cX9_netOf 21 = .ok (.iload_n 1, 1) := by decide +kernel
theorem dX9_netOf_22 : decode cX9_netOf 22 = .ok (.invokevirtual 87, 3) := by decide +kernel
theorem dX9_netOf_25 : decode cX9_netOf 25 = .ok (.astore_n 3, 1) := by decide +kernel
theorem dX9_netOf_26 : decode cX9_netOf 26 = .ok (.iload_n 2, 1) := by decide +kernel
theorem dX9_netOf_27 : decode cX9_netOf 27 = .ok (.tableswitch 102 0 6 #[41, 49, 66, 71, 76, 85, 97], 41) := by decide +kernel
theorem dX9_netOf_68 : decode cX9_netOf 68 = .ok (.aload_n 3, 1) := by decide +kernel
theorem dX9_netOf_69 : decode cX9_netOf 69 = .ok (.invokevirtual 212, 3) := by decide +kernel
theorem dX9_netOf_72 : decode cX9_netOf 72 = .ok (.invokestatic 215, 3) := by decide +kernel
theorem dX9_netOf_75 : decode cX9_netOf 75 = .ok (.ireturn, 1) := by decide +kernel
theorem dX9_netOf_76 : decode cX9_netOf 76 = .ok (.aload_n 3, 1) := by decide +kernel
theorem dX9_netOf_77 : decode cX9_netOf 77 = .ok (.invokevirtual 212, 3) := by decide +kernel
theorem dX9_netOf_80 : decode cX9_netOf 80 = .ok (.aload_n 0, 1) := by decide +kernel
theorem dX9_netOf_81 : decode cX9_netOf 81 = .ok (.getfield 12, 3) := by decide +kernel
theorem dX9_netOf_84 : decode cX9_netOf 84 = .ok (.iload_n 1, 1) := by decide +kernel
theorem dX9_netOf_85 : decode cX9_netOf 85 = .ok (.invokevirtual 220, 3) := by decide +kernel
theorem dX9_netOf_88 : decode cX9_netOf 88 = .ok (.iand, 1) := by decide +kernel
theorem dX9_netOf_89 : decode cX9_netOf 89 = .ok (.invokestatic 215, 3) := by decide +kernel
theorem dX9_netOf_92 : decode cX9_netOf 92 = .ok (.ireturn, 1) := by decide +kernel
theorem dX9_netOf_93 : decode cX9_netOf 93 = .ok (.aload_n 3, 1) := by decide +kernel
theorem dX9_netOf_94 : decode cX9_netOf 94 = .ok (.invokevirtual 223, 3) := by decide +kernel
theorem dX9_netOf_97 : decode cX9_netOf 97 = .ok (.ireturn, 1) := by decide +kernel
theorem dX9_netOf_98 : decode cX9_netOf 98 = .ok (.aload_n 3, 1) := by decide +kernel
theorem dX9_netOf_99 : decode cX9_netOf 99 = .ok (.getfield 162, 3) := by decide +kernel
theorem dX9_netOf_102 : decode cX9_netOf 102 = .ok (.ireturn, 1) := by decide +kernel
theorem dX9_netOf_103 : decode cX9_netOf 103 = .ok (.aload_n 0, 1) := by decide +kernel
theorem dX9_netOf_104 : decode cX9_netOf 104 = .ok (.getfield 12, 3) := by decide +kernel
theorem dX9_netOf_107 : decode cX9_netOf 107 = .ok (.iload_n 1, 1) := by decide +kernel
theorem dX9_netOf_108 : decode cX9_netOf 108 = .ok (.invokevirtual 165, 3) := by decide +kernel
theorem dX9_netOf_111 : decode cX9_netOf 111 = .ok (.ireturn, 1) := by decide +kernel
theorem dX9_netOf_112 : decode cX9_netOf 112 = .ok (.aload_n 3, 1) := by decide +kernel
theorem dX9_netOf_113 : decode cX9_netOf 113 = .ok (.aload_n 3, 1) := by decide +kernel
theorem dX9_netOf_114 : decode cX9_netOf 114 = .ok (.invokevirtual 212, 3) := by decide +kernel
theorem dX9_netOf_117 : decode cX9_netOf 117 = .ok (.invokevirtual 226, 3) := by decide +kernel
theorem dX9_netOf_120 : decode cX9_netOf 120 = .ok (.invokestatic 215, 3) := by decide +kernel
theorem dX9_netOf_123 : decode cX9_netOf 123 = .ok (.ireturn, 1) := by decide +kernel
theorem dX9_netOf_124 : decode cX9_netOf 124 = .ok (.aload_n 3, 1) := by decide +kernel
theorem dX9_netOf_125 : decode cX9_netOf 125 = .ok (.invokevirtual 229, 3) := by decide +kernel
theorem dX9_netOf_128 : decode cX9_netOf 128 = .ok (.ireturn, 1) := by decide +kernel
theorem dX9_netOf_129 : decode cX9_netOf 129 = .ok (.new 232, 3) := by decide +kernel
theorem dX9_netOf_132 : decode cX9_netOf 132 = .ok (.dup, 1) := by decide +kernel
theorem dX9_netOf_133 : decode cX9_netOf 133 = .ok (.ldc 234, 2) := by decide +kernel
theorem dX9_netOf_135 : decode cX9_netOf 135 = .ok (.invokespecial 236, 3) := by decide +kernel
theorem dX9_netOf_138 : decode cX9_netOf 138 = .ok (.athrow, 1) := by decide +kernel
theorem dX9_chapters_0 : decode cX9_chapters 0 = .ok (.iload_n 1, 1) := by decide +kernel
theorem dX9_chapters_1 : decode cX9_chapters 1 = .ok (.invokestatic 187, 3) := by decide +kernel
theorem dX9_chapters_4 : decode cX9_chapters 4 = .ok (.ifCond .ne 13, 3) := by decide +kernel
theorem dX9_chapters_7 : decode cX9_chapters 7 = .ok (.new 193, 3) := by decide +kernel
theorem dX9_chapters_10 : decode cX9_chapters 10 = .ok (.dup, 1) := by decide +kernel
theorem dX9_chapters_11 : decode cX9_chapters 11 = .ok (.ldc 210, 2) := by decide +kernel
theorem dX9_chapters_13 : decode cX9_chapters 13 = .ok (.invokespecial 197, 3) := by decide +kernel
theorem dX9_chapters_16 : decode cX9_chapters 16 = .ok (.athrow, 1) := by decide +kernel
theorem dX9_chapters_17 : decode cX9_chapters 17 = .ok (.aload_n 0, 1) := by decide +kernel
theorem dX9_chapters_18 : decode cX9_chapters 18 = .ok (.getfield 12, 3) := by decide +kernel
theorem dX9_chapters_21 : decode cX9_chapters 21 = .ok (.iload_n 1, 1) := by decide +kernel
theorem dX9_chapters_22 : decode cX9_chapters 22 = .ok (.invokevirtual 87, 3) := by decide +kernel
theorem dX9_chapters_25 : decode cX9_chapters 25 = .ok (.invokevirtual 110, 3) := by decide +kernel
theorem dX9_chapters_28 : decode cX9_chapters 28 = .ok (.ireturn, 1) := by decide +kernel
theorem dX9_chaptersAgain_0 : decode cX9_chaptersAgain 0 = .ok (.iload_n 1, 1) := by decide +kernel
theorem dX9_chaptersAgain_1 : decode cX9_chaptersAgain 1 = .ok (.invokestatic 187, 3) := by decide +kernel
theorem dX9_chaptersAgain_4 : decode cX9_chaptersAgain 4 = .ok (.ifCond .ne 13, 3) := by decide +kernel
theorem dX9_chaptersAgain_7 : decode cX9_chaptersAgain 7 = .ok (.new 193, 3) := by decide +kernel
theorem dX9_chaptersAgain_10 : decode cX9_chaptersAgain 10 = .ok (.dup, 1) := by decide +kernel
theorem dX9_chaptersAgain_11 : decode cX9_chaptersAgain 11 = .ok (.ldc 210, 2) := by decide +kernel
theorem dX9_chaptersAgain_13 : decode cX9_chaptersAgain 13 = .ok (.invokespecial 197, 3) := by decide +kernel
theorem dX9_chaptersAgain_16 : decode cX9_chaptersAgain 16 = .ok (.athrow, 1) := by decide +kernel
theorem dX9_chaptersAgain_17 : decode cX9_chaptersAgain 17 = .ok (.aload_n 0, 1) := by decide +kernel
theorem dX9_chaptersAgain_18 : decode cX9_chaptersAgain 18 = .ok (.getfield 12, 3) := by decide +kernel
theorem dX9_chaptersAgain_21 : decode cX9_chaptersAgain 21 = .ok (.iload_n 1, 1) := by decide +kernel
theorem dX9_chaptersAgain_22 : decode cX9_chaptersAgain 22 = .ok (.invokevirtual 87, 3) := by decide +kernel
theorem dX9_chaptersAgain_25 : decode cX9_chaptersAgain 25 = .ok (.aload_n 0, 1) := by decide +kernel
theorem dX9_chaptersAgain_26 : decode cX9_chaptersAgain 26 = .ok (.getfield 36, 3) := by decide +kernel
theorem dX9_chaptersAgain_29 : decode cX9_chaptersAgain 29 = .ok (.invokevirtual 237, 3) := by decide +kernel
theorem dX9_chaptersAgain_32 : decode cX9_chaptersAgain 32 = .ok (.ireturn, 1) := by decide +kernel
theorem dX9_chapterOf_0 : decode cX9_chapterOf 0 = .ok (.iload_n 1, 1) := by decide +kernel
theorem dX9_chapterOf_1 : decode cX9_chapterOf 1 = .ok (.invokestatic 187, 3) := by decide +kernel
theorem dX9_chapterOf_4 : decode cX9_chapterOf 4 = .ok (.ifCond .eq 10, 3) := by decide +kernel
theorem dX9_chapterOf_7 : decode cX9_chapterOf 7 = .ok (.iload_n 2, 1) := by decide +kernel
theorem dX9_chapterOf_8 : decode cX9_chapterOf 8 = .ok (.invokestatic 190, 3) := by decide +kernel
theorem dX9_chapterOf_11 : decode cX9_chapterOf 11 = .ok (.ifCond .ne 13, 3) := by decide +kernel
theorem dX9_chapterOf_14 : decode cX9_chapterOf 14 = .ok (.new 193, 3) := by decide +kernel
theorem dX9_chapterOf_17 : decode cX9_chapterOf 17 = .ok (.dup, 1) := by decide +kernel
theorem dX9_chapterOf_18 : decode cX9_chapterOf 18 = .ok (.ldc 195, 2) := by decide +kernel
theorem dX9_chapterOf_20 : decode cX9_chapterOf 20 = .ok (.invokespecial 197, 3) := by decide +kernel
theorem dX9_chapterOf_23 : decode cX9_chapterOf 23 = .ok (.athrow, 1) := by decide +kernel
theorem dX9_chapterOf_24 : decode cX9_chapterOf 24 = .ok (.iload_n 3, 1) := by decide +kernel
theorem dX9_chapterOf_25 : decode cX9_chapterOf 25 = .ok (.ifCond .lt 8, 3) := by decide +kernel
theorem dX9_chapterOf_28 : decode cX9_chapterOf 28 = .ok (.iload_n 3, 1) := by decide +kernel
theorem dX9_chapterOf_29 : decode cX9_chapterOf 29 = .ok (.iconst 3, 1) := by decide +kernel
theorem dX9_chapterOf_30 : decode cX9_chapterOf 30 = .ok (.if_icmp .le 13, 3) := by decide +kernel
theorem dX9_chapterOf_33 : decode cX9_chapterOf 33 = .ok (.new 232, 3) := by decide +kernel
theorem dX9_chapterOf_36 : decode cX9_chapterOf 36 = .ok (.dup, 1) := by decide +kernel
theorem dX9_chapterOf_37 : decode cX9_chapterOf 37 = .ok (.ldc 234, 2) := by decide +kernel
theorem dX9_chapterOf_39 : decode cX9_chapterOf 39 = .ok (.invokespecial 236, 3) := by decide +kernel
theorem dX9_chapterOf_42 : decode cX9_chapterOf 42 = .ok (.athrow, 1) := by decide +kernel
theorem dX9_chapterOf_43 : decode cX9_chapterOf 43 = .ok (.aload_n 0, 1) := by decide +kernel
theorem dX9_chapterOf_44 : decode cX9_chapterOf 44 = .ok (.getfield 12, 3) := by decide +kernel
theorem dX9_chapterOf_47 : decode cX9_chapterOf 47 = .ok (.iload_n 1, 1) := by decide +kernel
theorem dX9_chapterOf_48 : decode cX9_chapterOf 48 = .ok (.invokevirtual 87, 3) := by decide +kernel
theorem dX9_chapterOf_51 : decode cX9_chapterOf 51 = .ok (.iload_n 2, 1) := by decide +kernel
theorem dX9_chapterOf_52 : decode cX9_chapterOf 52 = .ok (.invokevirtual 241, 3) := by decide +kernel
theorem dX9_chapterOf_55 : decode cX9_chapterOf 55 = .ok (.istore 4, 2) := by decide +kernel
theorem dX9_chapterOf_57 : decode cX9_chapterOf 57 = .ok (.iload 4, 2) := by decide +kernel
theorem dX9_chapterOf_59 : decode cX9_chapterOf 59 = .ok (.ifCond .ne 13, 3) := by decide +kernel
theorem dX9_chapterOf_62 : decode cX9_chapterOf 62 = .ok (.new 202, 3) := by decide +kernel
theorem dX9_chapterOf_65 : decode cX9_chapterOf 65 = .ok (.dup, 1) := by decide +kernel
theorem dX9_chapterOf_66 : decode cX9_chapterOf 66 = .ok (.ldc 244, 2) := by decide +kernel
theorem dX9_chapterOf_68 : decode cX9_chapterOf 68 = .ok (.invokespecial 206, 3) := by decide +kernel
theorem dX9_chapterOf_71 : decode cX9_chapterOf 71 = .ok (.athrow, 1) := by decide +kernel
theorem dX9_chapterOf_72 : decode cX9_chapterOf 72 = .ok (.iload_n 3, 1) := by decide +kernel
theorem dX9_chapterOf_73 : decode cX9_chapterOf 73 = .ok (.tableswitch 54 0 2 #[27, 33, 39], 27) := by decide +kernel
theorem dX9_chapterOf_100 : decode cX9_chapterOf 100 = .ok (.iload 4, 2) := by decide +kernel
theorem dX9_chapterOf_102 : decode cX9_chapterOf 102 = .ok (.invokestatic 246, 3) := by decide +kernel
theorem dX9_chapterOf_105 : decode cX9_chapterOf 105 = .ok (.ireturn, 1) := by decide +kernel
theorem dX9_chapterOf_106 : decode cX9_chapterOf 106 = .ok (.iload 4, 2) := by decide +kernel
theorem dX9_chapterOf_108 : decode cX9_chapterOf 108 = .ok (.invokestatic 215, 3) := by decide +kernel
theorem dX9_chapterOf_111 : decode cX9_chapterOf 111 = .ok (.ireturn, 1) := by decide +kernel
theorem dX9_chapterOf_112 : decode cX9_chapterOf 112 = .ok (.iload 4, 2) := by decide +kernel
theorem dX9_chapterOf_114 : decode cX9_chapterOf 114 = .ok (.aload_n 0, 1) := by decide +kernel
theorem dX9_chapterOf_115 : decode cX9_chapterOf 115 = .ok (.getfield 12, 3) := by decide +kernel
theorem dX9_chapterOf_118 : decode cX9_chapterOf 118 = .ok (.iload_n 1, 1) := by decide +kernel
theorem dX9_chapterOf_119 : decode cX9_chapterOf 119 = .ok (.invokevirtual 220, 3) := by decide +kernel
theorem dX9_chapterOf_122 : decode cX9_chapterOf 122 = .ok (.iand, 1) := by decide +kernel
theorem dX9_chapterOf_123 : decode cX9_chapterOf 123 = .ok (.invokestatic 215, 3) := by decide +kernel
theorem dX9_chapterOf_126 : decode cX9_chapterOf 126 = .ok (.ireturn, 1) := by decide +kernel
theorem dX9_chapterOf_127 : decode cX9_chapterOf 127 = .ok (.aload_n 0, 1) := by decide +kernel
theorem dX9_chapterOf_128 : decode cX9_chapterOf 128 = .ok (.getfield 12, 3) := by decide +kernel
theorem dX9_chapterOf_131 : decode cX9_chapterOf 131 = .ok (.iload_n 1, 1) := by decide +kernel
theorem dX9_chapterOf_132 : decode cX9_chapterOf 132 = .ok (.invokevirtual 87, 3) := by decide +kernel
theorem dX9_chapterOf_135 : decode cX9_chapterOf 135 = .ok (.iload 4, 2) := by decide +kernel
theorem dX9_chapterOf_137 : decode cX9_chapterOf 137 = .ok (.invokevirtual 249, 3) := by decide +kernel
theorem dX9_chapterOf_140 : decode cX9_chapterOf 140 = .ok (.ireturn, 1) := by decide +kernel
theorem dX9_noteOf_0 : decode cX9_noteOf 0 = .ok (.aload_n 0, 1) := by decide +kernel
theorem dX9_noteOf_1 : decode cX9_noteOf 1 = .ok (.getfield 12, 3) := by decide +kernel
theorem dX9_noteOf_4 : decode cX9_noteOf 4 = .ok (.iload_n 1, 1) := by decide +kernel
theorem dX9_noteOf_5 : decode cX9_noteOf 5 = .ok (.invokevirtual 252, 3) := by decide +kernel
theorem dX9_noteOf_8 : decode cX9_noteOf 8 = .ok (.ifCond .ne 13, 3) := by decide +kernel
theorem dX9_noteOf_11 : decode cX9_noteOf 11 = .ok (.new 193, 3) := by decide +kernel
theorem dX9_noteOf_14 : decode cX9_noteOf 14 = .ok (.dup, 1) := by decide +kernel
theorem dX9_noteOf_15 : decode cX9_noteOf 15 = .ok (.ldc 255, 2) := by decide +kernel
theorem dX9_noteOf_17 : decode cX9_noteOf 17 = .ok (.invokespecial 197, 3) := by decide +kernel
theorem dX9_noteOf_20 : decode cX9_noteOf 20 = .ok (.athrow, 1) := by decide +kernel
theorem dX9_noteOf_21 : decode cX9_noteOf 21 = .ok (.aload_n 0, 1) := by decide +kernel
theorem dX9_noteOf_22 : decode cX9_noteOf 22 = .ok (.getfield 12, 3) := by decide +kernel
theorem dX9_noteOf_25 : decode cX9_noteOf 25 = .ok (.iload_n 1, 1) := by decide +kernel
theorem dX9_noteOf_26 : decode cX9_noteOf 26 = .ok (.invokevirtual 257, 3) := by decide +kernel
theorem dX9_noteOf_29 : decode cX9_noteOf 29 = .ok (.astore_n 3, 1) := by decide +kernel
theorem dX9_noteOf_30 : decode cX9_noteOf 30 = .ok (.iload_n 2, 1) := by decide +kernel
theorem dX9_noteOf_31 : decode cX9_noteOf 31 = .ok (.tableswitch 67 0 3 #[29, 34, 42, 50], 29) := by decide +kernel
theorem dX9_noteOf_60 : decode cX9_noteOf 60 = .ok (.aload_n 3, 1) := by decide +kernel
theorem dX9_noteOf_61 : decode cX9_noteOf 61 = .ok (.getfield 261, 3) := by decide +kernel
theorem dX9_noteOf_64 : decode cX9_noteOf 64 = .ok (.ireturn, 1) := by decide +kernel
theorem dX9_noteOf_65 : decode cX9_noteOf 65 = .ok (.aload_n 3, 1) := by decide +kernel
theorem dX9_noteOf_66 : decode cX9_noteOf 66 = .ok (.invokevirtual 266, 3) := by decide +kernel
theorem dX9_noteOf_69 : decode cX9_noteOf 69 = .ok (.invokestatic 246, 3) := by decide +kernel
theorem dX9_noteOf_72 : decode cX9_noteOf 72 = .ok (.ireturn, 1) := by decide +kernel
theorem dX9_noteOf_73 : decode cX9_noteOf 73 = .ok (.aload_n 3, 1) := by decide +kernel
theorem dX9_noteOf_74 : decode cX9_noteOf 74 = .ok (.invokevirtual 266, 3) := by decide +kernel
theorem dX9_noteOf_77 : decode cX9_noteOf 77 = .ok (.invokestatic 215, 3) := by decide +kernel
theorem dX9_noteOf_80 : decode cX9_noteOf 80 = .ok (.ireturn, 1) := by decide +kernel
theorem dX9_noteOf_81 : decode cX9_noteOf 81 = .ok (.aload_n 0, 1) := by decide +kernel
theorem dX9_noteOf_82 : decode cX9_noteOf 82 = .ok (.getfield 12, 3) := by decide +kernel
theorem dX9_noteOf_85 : decode cX9_noteOf 85 = .ok (.aload_n 3, 1) := by decide +kernel
theorem dX9_noteOf_86 : decode cX9_noteOf 86 = .ok (.invokevirtual 269, 3) := by decide +kernel
theorem dX9_noteOf_89 : decode cX9_noteOf 89 = .ok (.ifCond .eq 7, 3) := by decide +kernel
theorem dX9_noteOf_92 : decode cX9_noteOf 92 = .ok (.iconst 1, 1) := by decide +kernel
theorem dX9_noteOf_93 : decode cX9_noteOf 93 = .ok (.goto 4, 3) := by decide +kernel
theorem dX9_noteOf_96 : decode cX9_noteOf 96 = .ok (.iconst 0, 1) := by decide +kernel
theorem dX9_noteOf_97 : decode cX9_noteOf 97 = .ok (.ireturn, 1) := by decide +kernel
theorem dX9_noteOf_98 : decode cX9_noteOf 98 = .ok (.new 232, 3) := by decide +kernel
theorem dX9_noteOf_101 : decode cX9_noteOf 101 = .ok (.dup, 1) := by decide +kernel
theorem dX9_noteOf_102 : decode cX9_noteOf 102 = .ok (.ldc 234, 2) := by decide +kernel
theorem dX9_noteOf_104 : decode cX9_noteOf 104 = .ok (.invokespecial 236, 3) := by decide +kernel
theorem dX9_noteOf_107 : decode cX9_noteOf 107 = .ok (.athrow, 1) := by decide +kernel
theorem dX9_least_0 : decode cX9_least 0 = .ok (.aload_n 0, 1) := by decide +kernel
theorem dX9_least_1 : decode cX9_least 1 = .ok (.getfield 12, 3) := by decide +kernel
theorem dX9_least_4 : decode cX9_least 4 = .ok (.iload_n 1, 1) := by decide +kernel
theorem dX9_least_5 : decode cX9_least 5 = .ok (.invokevirtual 252, 3) := by decide +kernel
theorem dX9_least_8 : decode cX9_least 8 = .ok (.ifCond .ne 13, 3) := by decide +kernel
theorem dX9_least_11 : decode cX9_least 11 = .ok (.new 193, 3) := by decide +kernel
theorem dX9_least_14 : decode cX9_least 14 = .ok (.dup, 1) := by decide +kernel
theorem dX9_least_15 : decode cX9_least 15 = .ok (.ldc 255, 2) := by decide +kernel
theorem dX9_least_17 : decode cX9_least 17 = .ok (.invokespecial 197, 3) := by decide +kernel
theorem dX9_least_20 : decode cX9_least 20 = .ok (.athrow, 1) := by decide +kernel
theorem dX9_least_21 : decode cX9_least 21 = .ok (.aload_n 0, 1) := by decide +kernel
theorem dX9_least_22 : decode cX9_least 22 = .ok (.getfield 12, 3) := by decide +kernel
theorem dX9_least_25 : decode cX9_least 25 = .ok (.iload_n 1, 1) := by decide +kernel
theorem dX9_least_26 : decode cX9_least 26 = .ok (.invokevirtual 257, 3) := by decide +kernel
theorem dX9_least_29 : decode cX9_least 29 = .ok (.astore_n 2, 1) := by decide +kernel
theorem dX9_least_30 : decode cX9_least 30 = .ok (.aload_n 0, 1) := by decide +kernel
theorem dX9_least_31 : decode cX9_least 31 = .ok (.getfield 12, 3) := by decide +kernel
theorem dX9_least_34 : decode cX9_least 34 = .ok (.aload_n 2, 1) := by decide +kernel
theorem dX9_least_35 : decode cX9_least 35 = .ok (.invokevirtual 273, 3) := by decide +kernel
theorem dX9_least_38 : decode cX9_least 38 = .ok (.ifCond .ne 14, 3) := by decide +kernel
theorem dX9_least_41 : decode cX9_least 41 = .ok (.new 202, 3) := by decide +kernel
theorem dX9_least_44 : decode cX9_least 44 = .ok (.dup, 1) := by decide +kernel
theorem dX9_least_45 : decode cX9_least 45 = .ok (.ldc_w 276, 3) := by decide +kernel
theorem dX9_least_48 : decode cX9_least 48 = .ok (.invokespecial 206, 3) := by decide +kernel
theorem dX9_least_51 : decode cX9_least 51 = .ok (.athrow, 1) := by decide +kernel
theorem dX9_least_52 : decode cX9_least 52 = .ok (.aload_n 0, 1) := by decide +kernel
theorem dX9_least_53 : decode cX9_least 53 = .ok (.getfield 12, 3) := by decide +kernel
theorem dX9_least_56 : decode cX9_least 56 = .ok (.aload_n 2, 1) := by decide +kernel
theorem dX9_least_57 : decode cX9_least 57 = .ok (.aload_n 0, 1) := by decide +kernel
theorem dX9_least_58 : decode cX9_least 58 = .ok (.getfield 36, 3) := by decide +kernel
theorem dX9_least_61 : decode cX9_least 61 = .ok (.invokevirtual 278, 3) := by decide +kernel
theorem dX9_least_64 : decode cX9_least 64 = .ok (.ireturn, 1) := by decide +kernel
theorem dX9_leastAgain_0 : decode cX9_leastAgain 0 = .ok (.aload_n 0, 1) := by decide +kernel
theorem dX9_leastAgain_1 : decode cX9_leastAgain 1 = .ok (.getfield 12, 3) := by decide +kernel
theorem dX9_leastAgain_4 : decode cX9_leastAgain 4 = .ok (.iload_n 1, 1) := by decide +kernel
theorem dX9_leastAgain_5 : decode cX9_leastAgain 5 = .ok (.invokevirtual 252, 3) := by decide +kernel
theorem dX9_leastAgain_8 : decode cX9_leastAgain 8 = .ok (.ifCond .ne 13, 3) := by decide +kernel
theorem dX9_leastAgain_11 : decode cX9_leastAgain 11 = .ok (.new 193, 3) := by decide +kernel
theorem dX9_leastAgain_14 : decode cX9_leastAgain 14 = .ok (.dup, 1) := by decide +kernel
theorem dX9_leastAgain_15 : decode cX9_leastAgain 15 = .ok (.ldc 255, 2) := by decide +kernel
theorem dX9_leastAgain_17 : decode cX9_leastAgain 17 = .ok (.invokespecial 197, 3) := by decide +kernel
theorem dX9_leastAgain_20 : decode cX9_leastAgain 20 = .ok (.athrow, 1) := by decide +kernel
theorem dX9_leastAgain_21 : decode cX9_leastAgain 21 = .ok (.aload_n 0, 1) := by decide +kernel
theorem dX9_leastAgain_22 : decode cX9_leastAgain 22 = .ok (.getfield 12, 3) := by decide +kernel
theorem dX9_leastAgain_25 : decode cX9_leastAgain 25 = .ok (.iload_n 1, 1) := by decide +kernel
theorem dX9_leastAgain_26 : decode cX9_leastAgain 26 = .ok (.invokevirtual 257, 3) := by decide +kernel
theorem dX9_leastAgain_29 : decode cX9_leastAgain 29 = .ok (.astore_n 2, 1) := by decide +kernel
theorem dX9_leastAgain_30 : decode cX9_leastAgain 30 = .ok (.aload_n 0, 1) := by decide +kernel
theorem dX9_leastAgain_31 : decode cX9_leastAgain 31 = .ok (.getfield 12, 3) := by decide +kernel
theorem dX9_leastAgain_34 : decode cX9_leastAgain 34 = .ok (.aload_n 2, 1) := by decide +kernel
theorem dX9_leastAgain_35 : decode cX9_leastAgain 35 = .ok (.invokevirtual 273, 3) := by decide +kernel
theorem dX9_leastAgain_38 : decode cX9_leastAgain 38 = .ok (.ifCond .ne 14, 3) := by decide +kernel
theorem dX9_leastAgain_41 : decode cX9_leastAgain 41 = .ok (.new 202, 3) := by decide +kernel
theorem dX9_leastAgain_44 : decode cX9_leastAgain 44 = .ok (.dup, 1) := by decide +kernel
theorem dX9_leastAgain_45 : decode cX9_leastAgain 45 = .ok (.ldc_w 276, 3) := by decide +kernel
theorem dX9_leastAgain_48 : decode cX9_leastAgain 48 = .ok (.invokespecial 206, 3) := by decide +kernel
theorem dX9_leastAgain_51 : decode cX9_leastAgain 51 = .ok (.athrow, 1) := by decide +kernel
theorem dX9_leastAgain_52 : decode cX9_leastAgain 52 = .ok (.aload_n 0, 1) := by decide +kernel
theorem dX9_leastAgain_53 : decode cX9_leastAgain 53 = .ok (.getfield 12, 3) := by decide +kernel
theorem dX9_leastAgain_56 : decode cX9_leastAgain 56 = .ok (.aload_n 2, 1) := by decide +kernel
theorem dX9_leastAgain_57 : decode cX9_leastAgain 57 = .ok (.invokevirtual 282, 3) := by decide +kernel
theorem dX9_leastAgain_60 : decode cX9_leastAgain 60 = .ok (.ireturn, 1) := by decide +kernel
theorem dX9_bestMend_0 : decode cX9_bestMend 0 = .ok (.iload_n 1, 1) := by decide +kernel
theorem dX9_bestMend_1 : decode cX9_bestMend 1 = .ok (.invokestatic 187, 3) := by decide +kernel
theorem dX9_bestMend_4 : decode cX9_bestMend 4 = .ok (.ifCond .ne 13, 3) := by decide +kernel
theorem dX9_bestMend_7 : decode cX9_bestMend 7 = .ok (.new 193, 3) := by decide +kernel
theorem dX9_bestMend_10 : decode cX9_bestMend 10 = .ok (.dup, 1) := by decide +kernel
theorem dX9_bestMend_11 : decode cX9_bestMend 11 = .ok (.ldc 210, 2) := by decide +kernel
theorem dX9_bestMend_13 : decode cX9_bestMend 13 = .ok (.invokespecial 197, 3) := by decide +kernel
theorem dX9_bestMend_16 : decode cX9_bestMend 16 = .ok (.athrow, 1) := by decide +kernel
theorem dX9_bestMend_17 : decode cX9_bestMend 17 = .ok (.aload_n 0, 1) := by decide +kernel
theorem dX9_bestMend_18 : decode cX9_bestMend 18 = .ok (.getfield 12, 3) := by decide +kernel
theorem dX9_bestMend_21 : decode cX9_bestMend 21 = .ok (.iload_n 1, 1) := by decide +kernel
theorem dX9_bestMend_22 : decode cX9_bestMend 22 = .ok (.invokevirtual 87, 3) := by decide +kernel
theorem dX9_bestMend_25 : decode cX9_bestMend 25 = .ok (.iload_n 2, 1) := by decide +kernel
theorem dX9_bestMend_26 : decode cX9_bestMend 26 = .ok (.invokevirtual 286, 3) := by decide +kernel
theorem dX9_bestMend_29 : decode cX9_bestMend 29 = .ok (.istore_n 3, 1) := by decide +kernel
theorem dX9_bestMend_30 : decode cX9_bestMend 30 = .ok (.iload_n 3, 1) := by decide +kernel
theorem dX9_bestMend_31 : decode cX9_bestMend 31 = .ok (.iconst (-1), 1) := by decide +kernel
theorem dX9_bestMend_32 : decode cX9_bestMend 32 = .ok (.if_icmp .ne 14, 3) := by decide +kernel
theorem dX9_bestMend_35 : decode cX9_bestMend 35 = .ok (.new 202, 3) := by decide +kernel
theorem dX9_bestMend_38 : decode cX9_bestMend 38 = .ok (.dup, 1) := by decide +kernel
theorem dX9_bestMend_39 : decode cX9_bestMend 39 = .ok (.ldc_w 290, 3) := by decide +kernel
theorem dX9_bestMend_42 : decode cX9_bestMend 42 = .ok (.invokespecial 206, 3) := by decide +kernel
theorem dX9_bestMend_45 : decode cX9_bestMend 45 = .ok (.athrow, 1) := by decide +kernel
theorem dX9_bestMend_46 : decode cX9_bestMend 46 = .ok (.iload_n 3, 1) := by decide +kernel
theorem dX9_bestMend_47 : decode cX9_bestMend 47 = .ok (.ireturn, 1) := by decide +kernel
theorem dX9_ranked_0 : decode cX9_ranked 0 = .ok (.iload_n 1, 1) := by decide +kernel
theorem dX9_ranked_1 : decode cX9_ranked 1 = .ok (.invokestatic 187, 3) := by decide +kernel
theorem dX9_ranked_4 : decode cX9_ranked 4 = .ok (.ifCond .ne 13, 3) := by decide +kernel
theorem dX9_ranked_7 : decode cX9_ranked 7 = .ok (.new 193, 3) := by decide +kernel
theorem dX9_ranked_10 : decode cX9_ranked 10 = .ok (.dup, 1) := by decide +kernel
theorem dX9_ranked_11 : decode cX9_ranked 11 = .ok (.ldc 210, 2) := by decide +kernel
theorem dX9_ranked_13 : decode cX9_ranked 13 = .ok (.invokespecial 197, 3) := by decide +kernel
theorem dX9_ranked_16 : decode cX9_ranked 16 = .ok (.athrow, 1) := by decide +kernel
theorem dX9_ranked_17 : decode cX9_ranked 17 = .ok (.aload_n 0, 1) := by decide +kernel
theorem dX9_ranked_18 : decode cX9_ranked 18 = .ok (.getfield 12, 3) := by decide +kernel
theorem dX9_ranked_21 : decode cX9_ranked 21 = .ok (.iload_n 1, 1) := by decide +kernel
theorem dX9_ranked_22 : decode cX9_ranked 22 = .ok (.invokevirtual 87, 3) := by decide +kernel
theorem dX9_ranked_25 : decode cX9_ranked 25 = .ok (.iload_n 2, 1) := by decide +kernel
theorem dX9_ranked_26 : decode cX9_ranked 26 = .ok (.invokevirtual 292, 3) := by decide +kernel
theorem dX9_ranked_29 : decode cX9_ranked 29 = .ok (.istore_n 3, 1) := by decide +kernel
theorem dX9_ranked_30 : decode cX9_ranked 30 = .ok (.iload_n 3, 1) := by decide +kernel
theorem dX9_ranked_31 : decode cX9_ranked 31 = .ok (.ifCond .ne 14, 3) := by decide +kernel
theorem dX9_ranked_34 : decode cX9_ranked 34 = .ok (.new 202, 3) := by decide +kernel
theorem dX9_ranked_37 : decode cX9_ranked 37 = .ok (.dup, 1) := by decide +kernel
theorem dX9_ranked_38 : decode cX9_ranked 38 = .ok (.ldc_w 295, 3) := by decide +kernel
theorem dX9_ranked_41 : decode cX9_ranked 41 = .ok (.invokespecial 206, 3) := by decide +kernel
theorem dX9_ranked_44 : decode cX9_ranked 44 = .ok (.athrow, 1) := by decide +kernel
theorem dX9_ranked_45 : decode cX9_ranked 45 = .ok (.iload_n 3, 1) := by decide +kernel
theorem dX9_ranked_46 : decode cX9_ranked 46 = .ok (.invokestatic 246, 3) := by decide +kernel
theorem dX9_ranked_49 : decode cX9_ranked 49 = .ok (.ireturn, 1) := by decide +kernel
theorem dX9_editorOf_0 : decode cX9_editorOf 0 = .ok (.aload_n 0, 1) := by decide +kernel
theorem dX9_editorOf_1 : decode cX9_editorOf 1 = .ok (.getfield 12, 3) := by decide +kernel
theorem dX9_editorOf_4 : decode cX9_editorOf 4 = .ok (.iload_n 1, 1) := by decide +kernel
theorem dX9_editorOf_5 : decode cX9_editorOf 5 = .ok (.invokevirtual 297, 3) := by decide +kernel
theorem dX9_editorOf_8 : decode cX9_editorOf 8 = .ok (.ifCond .ne 14, 3) := by decide +kernel
theorem dX9_editorOf_11 : decode cX9_editorOf 11 = .ok (.new 193, 3) := by decide +kernel
theorem dX9_editorOf_14 : decode cX9_editorOf 14 = .ok (.dup, 1) := by decide +kernel
theorem dX9_editorOf_15 : decode cX9_editorOf 15 = .ok (.ldc_w 300, 3) := by decide +kernel
theorem dX9_editorOf_18 : decode cX9_editorOf 18 = .ok (.invokespecial 197, 3) := by decide +kernel
theorem dX9_editorOf_21 : decode cX9_editorOf 21 = .ok (.athrow, 1) := by decide +kernel
theorem dX9_editorOf_22 : decode cX9_editorOf 22 = .ok (.iload_n 2, 1) := by decide +kernel
theorem dX9_editorOf_23 : decode cX9_editorOf 23 = .ok (.lookupswitch 49 #[(0, 25), (1, 37)], 25) := by decide +kernel
theorem dX9_editorOf_48 : decode cX9_editorOf 48 = .ok (.aload_n 0, 1) := by decide +kernel
theorem dX9_editorOf_49 : decode cX9_editorOf 49 = .ok (.getfield 12, 3) := by decide +kernel
theorem dX9_editorOf_52 : decode cX9_editorOf 52 = .ok (.iload_n 1, 1) := by decide +kernel
theorem dX9_editorOf_53 : decode cX9_editorOf 53 = .ok (.invokevirtual 124, 3) := by decide +kernel
theorem dX9_editorOf_56 : decode cX9_editorOf 56 = .ok (.getfield 128, 3) := by decide +kernel
theorem dX9_editorOf_59 : decode cX9_editorOf 59 = .ok (.ireturn, 1) := by decide +kernel
theorem dX9_editorOf_60 : decode cX9_editorOf 60 = .ok (.aload_n 0, 1) := by decide +kernel
theorem dX9_editorOf_61 : decode cX9_editorOf 61 = .ok (.getfield 12, 3) := by decide +kernel
theorem dX9_editorOf_64 : decode cX9_editorOf 64 = .ok (.iload_n 1, 1) := by decide +kernel
theorem dX9_editorOf_65 : decode cX9_editorOf 65 = .ok (.invokevirtual 124, 3) := by decide +kernel
theorem dX9_editorOf_68 : decode cX9_editorOf 68 = .ok (.getfield 302, 3) := by decide +kernel
theorem dX9_editorOf_71 : decode cX9_editorOf 71 = .ok (.ireturn, 1) := by decide +kernel
theorem dX9_editorOf_72 : decode cX9_editorOf 72 = .ok (.new 232, 3) := by decide +kernel
theorem dX9_editorOf_75 : decode cX9_editorOf 75 = .ok (.dup, 1) := by decide +kernel
end
section
theorem dX9_editorOf_76 : decode cX9_editorOf 76 = .ok (.ldc 234, 2) := by decide +kernel
theorem dX9_editorOf_78 : decode cX9_editorOf 78 = .ok (.invokespecial 236, 3) := by decide +kernel
theorem dX9_editorOf_81 : decode cX9_editorOf 81 = .ok (.athrow, 1) := by decide +kernel
theorem dX9_feed_0 : decode cX9_feed 0 = .ok (.aload_n 0, 1) := by decide +kernel
theorem dX9_feed_1 : decode cX9_feed 1 = .ok (.getfield 43, 3) := by decide +kernel
theorem dX9_feed_4 : decode cX9_feed 4 = .ok (.invokevirtual 305, 3) := by decide +kernel
theorem dX9_feed_7 : decode cX9_feed 7 = .ok (.ifCond .eq 14, 3) := by decide +kernel
theorem dX9_feed_10 : decode cX9_feed 10 = .ok (.new 309, 3) := by decide +kernel
theorem dX9_feed_13 : decode cX9_feed 13 = .ok (.dup, 1) := by decide +kernel
theorem dX9_feed_14 : decode cX9_feed 14 = .ok (.ldc_w 311, 3) := by decide +kernel
theorem dX9_feed_17 : decode cX9_feed 17 = .ok (.invokespecial 313, 3) := by decide +kernel
theorem dX9_feed_20 : decode cX9_feed 20 = .ok (.athrow, 1) := by decide +kernel
theorem dX9_feed_21 : decode cX9_feed 21 = .ok (.aload_n 0, 1) := by decide +kernel
theorem dX9_feed_22 : decode cX9_feed 22 = .ok (.getfield 43, 3) := by decide +kernel
theorem dX9_feed_25 : decode cX9_feed 25 = .ok (.iload_n 1, 1) := by decide +kernel
theorem dX9_feed_26 : decode cX9_feed 26 = .ok (.invokevirtual 314, 3) := by decide +kernel
theorem dX9_feed_29 : decode cX9_feed 29 = .ok (.aload_n 0, 1) := by decide +kernel
theorem dX9_feed_30 : decode cX9_feed 30 = .ok (.getfield 43, 3) := by decide +kernel
theorem dX9_feed_33 : decode cX9_feed 33 = .ok (.getfield 318, 3) := by decide +kernel
theorem dX9_feed_36 : decode cX9_feed 36 = .ok (.ireturn, 1) := by decide +kernel
theorem dX9_run_0 : decode cX9_run 0 = .ok (.aload_n 0, 1) := by decide +kernel
theorem dX9_run_1 : decode cX9_run 1 = .ok (.getfield 43, 3) := by decide +kernel
theorem dX9_run_4 : decode cX9_run 4 = .ok (.invokevirtual 321, 3) := by decide +kernel
theorem dX9_run_7 : decode cX9_run 7 = .ok (.istore_n 1, 1) := by decide +kernel
theorem dX9_run_8 : decode cX9_run 8 = .ok (.aload_n 0, 1) := by decide +kernel
theorem dX9_run_9 : decode cX9_run 9 = .ok (.getfield 43, 3) := by decide +kernel
theorem dX9_run_12 : decode cX9_run 12 = .ok (.invokevirtual 324, 3) := by decide +kernel
theorem dX9_run_15 : decode cX9_run 15 = .ok (.iload_n 1, 1) := by decide +kernel
theorem dX9_run_16 : decode cX9_run 16 = .ok (.iconst (-1), 1) := by decide +kernel
theorem dX9_run_17 : decode cX9_run 17 = .ok (.if_icmp .eq 19, 3) := by decide +kernel
theorem dX9_run_20 : decode cX9_run 20 = .ok (.aload_n 0, 1) := by decide +kernel
theorem dX9_run_21 : decode cX9_run 21 = .ok (.iload_n 1, 1) := by decide +kernel
theorem dX9_run_22 : decode cX9_run 22 = .ok (.putfield 65, 3) := by decide +kernel
theorem dX9_run_25 : decode cX9_run 25 = .ok (.new 232, 3) := by decide +kernel
theorem dX9_run_28 : decode cX9_run 28 = .ok (.dup, 1) := by decide +kernel
theorem dX9_run_29 : decode cX9_run 29 = .ok (.ldc_w 327, 3) := by decide +kernel
theorem dX9_run_32 : decode cX9_run 32 = .ok (.invokespecial 236, 3) := by decide +kernel
theorem dX9_run_35 : decode cX9_run 35 = .ok (.athrow, 1) := by decide +kernel
theorem dX9_run_36 : decode cX9_run 36 = .ok (.aload_n 0, 1) := by decide +kernel
theorem dX9_run_37 : decode cX9_run 37 = .ok (.getfield 16, 3) := by decide +kernel
theorem dX9_run_40 : decode cX9_run 40 = .ok (.aload_n 0, 1) := by decide +kernel
theorem dX9_run_41 : decode cX9_run 41 = .ok (.getfield 12, 3) := by decide +kernel
theorem dX9_run_44 : decode cX9_run 44 = .ok (.invokevirtual 329, 3) := by decide +kernel
theorem dX9_run_47 : decode cX9_run 47 = .ok (.iconst 0, 1) := by decide +kernel
theorem dX9_run_48 : decode cX9_run 48 = .ok (.istore_n 2, 1) := by decide +kernel
theorem dX9_run_49 : decode cX9_run 49 = .ok (.iload_n 2, 1) := by decide +kernel
theorem dX9_run_50 : decode cX9_run 50 = .ok (.aload_n 0, 1) := by decide +kernel
theorem dX9_run_51 : decode cX9_run 51 = .ok (.getfield 43, 3) := by decide +kernel
theorem dX9_run_54 : decode cX9_run 54 = .ok (.getfield 332, 3) := by decide +kernel
theorem dX9_run_57 : decode cX9_run 57 = .ok (.if_icmp .ge 59, 3) := by decide +kernel
theorem dX9_run_60 : decode cX9_run 60 = .ok (.aload_n 0, 1) := by decide +kernel
theorem dX9_run_61 : decode cX9_run 61 = .ok (.iload_n 2, 1) := by decide +kernel
theorem dX9_run_62 : decode cX9_run 62 = .ok (.invokevirtual 335, 3) := by decide +kernel
theorem dX9_run_65 : decode cX9_run 65 = .ok (.istore_n 3, 1) := by decide +kernel
theorem dX9_run_66 : decode cX9_run 66 = .ok (.iload_n 3, 1) := by decide +kernel
theorem dX9_run_67 : decode cX9_run 67 = .ok (.ifCond .eq 38, 3) := by decide +kernel
theorem dX9_run_70 : decode cX9_run 70 = .ok (.aload_n 0, 1) := by decide +kernel
theorem dX9_run_71 : decode cX9_run 71 = .ok (.getfield 12, 3) := by decide +kernel
theorem dX9_run_74 : decode cX9_run 74 = .ok (.aload_n 0, 1) := by decide +kernel
theorem dX9_run_75 : decode cX9_run 75 = .ok (.getfield 16, 3) := by decide +kernel
theorem dX9_run_78 : decode cX9_run 78 = .ok (.invokevirtual 329, 3) := by decide +kernel
theorem dX9_run_81 : decode cX9_run 81 = .ok (.aload_n 0, 1) := by decide +kernel
theorem dX9_run_82 : decode cX9_run 82 = .ok (.getfield 57, 3) := by decide +kernel
theorem dX9_run_85 : decode cX9_run 85 = .ok (.iload_n 2, 1) := by decide +kernel
theorem dX9_run_86 : decode cX9_run 86 = .ok (.iload_n 3, 1) := by decide +kernel
theorem dX9_run_87 : decode cX9_run 87 = .ok (.aload_n 0, 1) := by decide +kernel
theorem dX9_run_88 : decode cX9_run 88 = .ok (.getfield 61, 3) := by decide +kernel
theorem dX9_run_91 : decode cX9_run 91 = .ok (.invokevirtual 338, 3) := by decide +kernel
theorem dX9_run_94 : decode cX9_run 94 = .ok (.new 76, 3) := by decide +kernel
theorem dX9_run_97 : decode cX9_run 97 = .ok (.dup, 1) := by decide +kernel
theorem dX9_run_98 : decode cX9_run 98 = .ok (.ldc_w 341, 3) := by decide +kernel
theorem dX9_run_101 : decode cX9_run 101 = .ok (.invokespecial 80, 3) := by decide +kernel
theorem dX9_run_104 : decode cX9_run 104 = .ok (.athrow, 1) := by decide +kernel
theorem dX9_run_105 : decode cX9_run 105 = .ok (.aload_n 0, 1) := by decide +kernel
theorem dX9_run_106 : decode cX9_run 106 = .ok (.iload_n 2, 1) := by decide +kernel
theorem dX9_run_107 : decode cX9_run 107 = .ok (.invokevirtual 343, 3) := by decide +kernel
theorem dX9_run_110 : decode cX9_run 110 = .ok (.iinc 2 1, 3) := by decide +kernel
theorem dX9_run_113 : decode cX9_run 113 = .ok (.goto (-64), 3) := by decide +kernel
theorem dX9_run_116 : decode cX9_run 116 = .ok (.aload_n 0, 1) := by decide +kernel
theorem dX9_run_117 : decode cX9_run 117 = .ok (.getfield 29, 3) := by decide +kernel
theorem dX9_run_120 : decode cX9_run 120 = .ok (.aload_n 0, 1) := by decide +kernel
theorem dX9_run_121 : decode cX9_run 121 = .ok (.getfield 16, 3) := by decide +kernel
theorem dX9_run_124 : decode cX9_run 124 = .ok (.invokevirtual 83, 3) := by decide +kernel
theorem dX9_run_127 : decode cX9_run 127 = .ok (.aload_n 0, 1) := by decide +kernel
theorem dX9_run_128 : decode cX9_run 128 = .ok (.getfield 43, 3) := by decide +kernel
theorem dX9_run_131 : decode cX9_run 131 = .ok (.getfield 332, 3) := by decide +kernel
theorem dX9_run_134 : decode cX9_run 134 = .ok (.ireturn, 1) := by decide +kernel
theorem dX9_line_0 : decode cX9_line 0 = .ok (.iload_n 1, 1) := by decide +kernel
theorem dX9_line_1 : decode cX9_line 1 = .ok (.invokestatic 187, 3) := by decide +kernel
theorem dX9_line_4 : decode cX9_line 4 = .ok (.ifCond .eq 12, 3) := by decide +kernel
theorem dX9_line_7 : decode cX9_line 7 = .ok (.iload_n 2, 1) := by decide +kernel
theorem dX9_line_8 : decode cX9_line 8 = .ok (.ifCond .lt 8, 3) := by decide +kernel
theorem dX9_line_11 : decode cX9_line 11 = .ok (.iload_n 2, 1) := by decide +kernel
theorem dX9_line_12 : decode cX9_line 12 = .ok (.iconst 4, 1) := by decide +kernel
theorem dX9_line_13 : decode cX9_line 13 = .ok (.if_icmp .lt 14, 3) := by decide +kernel
theorem dX9_line_16 : decode cX9_line 16 = .ok (.new 193, 3) := by decide +kernel
theorem dX9_line_19 : decode cX9_line 19 = .ok (.dup, 1) := by decide +kernel
theorem dX9_line_20 : decode cX9_line 20 = .ok (.ldc_w 364, 3) := by decide +kernel
theorem dX9_line_23 : decode cX9_line 23 = .ok (.invokespecial 197, 3) := by decide +kernel
theorem dX9_line_26 : decode cX9_line 26 = .ok (.athrow, 1) := by decide +kernel
theorem dX9_line_27 : decode cX9_line 27 = .ok (.aload_n 0, 1) := by decide +kernel
theorem dX9_line_28 : decode cX9_line 28 = .ok (.getfield 50, 3) := by decide +kernel
theorem dX9_line_31 : decode cX9_line 31 = .ok (.invokevirtual 366, 3) := by decide +kernel
theorem dX9_line_34 : decode cX9_line 34 = .ok (.iload_n 2, 1) := by decide +kernel
theorem dX9_line_35 : decode cX9_line 35 = .ok (.iconst 4, 1) := by decide +kernel
theorem dX9_line_36 : decode cX9_line 36 = .ok (.aload_n 0, 1) := by decide +kernel
theorem dX9_line_37 : decode cX9_line 37 = .ok (.getfield 12, 3) := by decide +kernel
theorem dX9_line_40 : decode cX9_line 40 = .ok (.iload_n 1, 1) := by decide +kernel
theorem dX9_line_41 : decode cX9_line 41 = .ok (.invokevirtual 165, 3) := by decide +kernel
theorem dX9_line_44 : decode cX9_line 44 = .ok (.isub, 1) := by decide +kernel
theorem dX9_line_45 : decode cX9_line 45 = .ok (.if_icmp .lt 12, 3) := by decide +kernel
theorem dX9_line_48 : decode cX9_line 48 = .ok (.aload_n 0, 1) := by decide +kernel
theorem dX9_line_49 : decode cX9_line 49 = .ok (.getfield 50, 3) := by decide +kernel
theorem dX9_line_52 : decode cX9_line 52 = .ok (.bipush 126, 2) := by decide +kernel
theorem dX9_line_54 : decode cX9_line 54 = .ok (.invokevirtual 367, 3) := by decide +kernel
theorem dX9_line_57 : decode cX9_line 57 = .ok (.aload_n 0, 1) := by decide +kernel
theorem dX9_line_58 : decode cX9_line 58 = .ok (.getfield 12, 3) := by decide +kernel
theorem dX9_line_61 : decode cX9_line 61 = .ok (.iload_n 1, 1) := by decide +kernel
theorem dX9_line_62 : decode cX9_line 62 = .ok (.invokevirtual 87, 3) := by decide +kernel
theorem dX9_line_65 : decode cX9_line 65 = .ok (.iload_n 2, 1) := by decide +kernel
theorem dX9_line_66 : decode cX9_line 66 = .ok (.aload_n 0, 1) := by decide +kernel
theorem dX9_line_67 : decode cX9_line 67 = .ok (.getfield 50, 3) := by decide +kernel
theorem dX9_line_70 : decode cX9_line 70 = .ok (.invokevirtual 368, 3) := by decide +kernel
theorem dX9_line_73 : decode cX9_line 73 = .ok (.aload_n 0, 1) := by decide +kernel
theorem dX9_line_74 : decode cX9_line 74 = .ok (.getfield 50, 3) := by decide +kernel
theorem dX9_line_77 : decode cX9_line 77 = .ok (.getfield 372, 3) := by decide +kernel
theorem dX9_line_80 : decode cX9_line 80 = .ok (.ireturn, 1) := by decide +kernel
theorem dX9_chapterLine_0 : decode cX9_chapterLine 0 = .ok (.iload_n 1, 1) := by decide +kernel
theorem dX9_chapterLine_1 : decode cX9_chapterLine 1 = .ok (.invokestatic 187, 3) := by decide +kernel
theorem dX9_chapterLine_4 : decode cX9_chapterLine 4 = .ok (.ifCond .eq 10, 3) := by decide +kernel
theorem dX9_chapterLine_7 : decode cX9_chapterLine 7 = .ok (.iload_n 2, 1) := by decide +kernel
theorem dX9_chapterLine_8 : decode cX9_chapterLine 8 = .ok (.invokestatic 190, 3) := by decide +kernel
theorem dX9_chapterLine_11 : decode cX9_chapterLine 11 = .ok (.ifCond .ne 13, 3) := by decide +kernel
theorem dX9_chapterLine_14 : decode cX9_chapterLine 14 = .ok (.new 193, 3) := by decide +kernel
theorem dX9_chapterLine_17 : decode cX9_chapterLine 17 = .ok (.dup, 1) := by decide +kernel
theorem dX9_chapterLine_18 : decode cX9_chapterLine 18 = .ok (.ldc 195, 2) := by decide +kernel
theorem dX9_chapterLine_20 : decode cX9_chapterLine 20 = .ok (.invokespecial 197, 3) := by decide +kernel
theorem dX9_chapterLine_23 : decode cX9_chapterLine 23 = .ok (.athrow, 1) := by decide +kernel
theorem dX9_chapterLine_24 : decode cX9_chapterLine 24 = .ok (.aload_n 0, 1) := by decide +kernel
theorem dX9_chapterLine_25 : decode cX9_chapterLine 25 = .ok (.getfield 12, 3) := by decide +kernel
theorem dX9_chapterLine_28 : decode cX9_chapterLine 28 = .ok (.iload_n 1, 1) := by decide +kernel
theorem dX9_chapterLine_29 : decode cX9_chapterLine 29 = .ok (.invokevirtual 87, 3) := by decide +kernel
theorem dX9_chapterLine_32 : decode cX9_chapterLine 32 = .ok (.astore_n 3, 1) := by decide +kernel
theorem dX9_chapterLine_33 : decode cX9_chapterLine 33 = .ok (.aload_n 3, 1) := by decide +kernel
theorem dX9_chapterLine_34 : decode cX9_chapterLine 34 = .ok (.iload_n 2, 1) := by decide +kernel
theorem dX9_chapterLine_35 : decode cX9_chapterLine 35 = .ok (.invokevirtual 241, 3) := by decide +kernel
theorem dX9_chapterLine_38 : decode cX9_chapterLine 38 = .ok (.istore 4, 2) := by decide +kernel
theorem dX9_chapterLine_40 : decode cX9_chapterLine 40 = .ok (.iload 4, 2) := by decide +kernel
theorem dX9_chapterLine_42 : decode cX9_chapterLine 42 = .ok (.ifCond .ne 13, 3) := by decide +kernel
theorem dX9_chapterLine_45 : decode cX9_chapterLine 45 = .ok (.new 202, 3) := by decide +kernel
theorem dX9_chapterLine_48 : decode cX9_chapterLine 48 = .ok (.dup, 1) := by decide +kernel
theorem dX9_chapterLine_49 : decode cX9_chapterLine 49 = .ok (.ldc 244, 2) := by decide +kernel
theorem dX9_chapterLine_51 : decode cX9_chapterLine 51 = .ok (.invokespecial 206, 3) := by decide +kernel
theorem dX9_chapterLine_54 : decode cX9_chapterLine 54 = .ok (.athrow, 1) := by decide +kernel
theorem dX9_chapterLine_55 : decode cX9_chapterLine 55 = .ok (.aload_n 0, 1) := by decide +kernel
theorem dX9_chapterLine_56 : decode cX9_chapterLine 56 = .ok (.getfield 50, 3) := by decide +kernel
theorem dX9_chapterLine_59 : decode cX9_chapterLine 59 = .ok (.invokevirtual 366, 3) := by decide +kernel
theorem dX9_chapterLine_62 : decode cX9_chapterLine 62 = .ok (.aload_n 0, 1) := by decide +kernel
theorem dX9_chapterLine_63 : decode cX9_chapterLine 63 = .ok (.getfield 50, 3) := by decide +kernel
theorem dX9_chapterLine_66 : decode cX9_chapterLine 66 = .ok (.aload_n 3, 1) := by decide +kernel
theorem dX9_chapterLine_67 : decode cX9_chapterLine 67 = .ok (.getfield 373, 3) := by decide +kernel
theorem dX9_chapterLine_70 : decode cX9_chapterLine 70 = .ok (.iload 4, 2) := by decide +kernel
theorem dX9_chapterLine_72 : decode cX9_chapterLine 72 = .ok (.iand, 1) := by decide +kernel
theorem dX9_chapterLine_73 : decode cX9_chapterLine 73 = .ok (.aload_n 3, 1) := by decide +kernel
theorem dX9_chapterLine_74 : decode cX9_chapterLine 74 = .ok (.getfield 376, 3) := by decide +kernel
theorem dX9_chapterLine_77 : decode cX9_chapterLine 77 = .ok (.iload 4, 2) := by decide +kernel
theorem dX9_chapterLine_79 : decode cX9_chapterLine 79 = .ok (.iand, 1) := by decide +kernel
theorem dX9_chapterLine_80 : decode cX9_chapterLine 80 = .ok (.invokevirtual 379, 3) := by decide +kernel
theorem dX9_chapterLine_83 : decode cX9_chapterLine 83 = .ok (.aload_n 0, 1) := by decide +kernel
theorem dX9_chapterLine_84 : decode cX9_chapterLine 84 = .ok (.getfield 50, 3) := by decide +kernel
theorem dX9_chapterLine_87 : decode cX9_chapterLine 87 = .ok (.getfield 372, 3) := by decide +kernel
theorem dX9_chapterLine_90 : decode cX9_chapterLine 90 = .ok (.ireturn, 1) := by decide +kernel
theorem dX9_noteLine_0 : decode cX9_noteLine 0 = .ok (.aload_n 0, 1) := by decide +kernel
theorem dX9_noteLine_1 : decode cX9_noteLine 1 = .ok (.getfield 12, 3) := by decide +kernel
theorem dX9_noteLine_4 : decode cX9_noteLine 4 = .ok (.iload_n 1, 1) := by decide +kernel
theorem dX9_noteLine_5 : decode cX9_noteLine 5 = .ok (.invokevirtual 252, 3) := by decide +kernel
theorem dX9_noteLine_8 : decode cX9_noteLine 8 = .ok (.ifCond .ne 13, 3) := by decide +kernel
theorem dX9_noteLine_11 : decode cX9_noteLine 11 = .ok (.new 193, 3) := by decide +kernel
theorem dX9_noteLine_14 : decode cX9_noteLine 14 = .ok (.dup, 1) := by decide +kernel
theorem dX9_noteLine_15 : decode cX9_noteLine 15 = .ok (.ldc 255, 2) := by decide +kernel
theorem dX9_noteLine_17 : decode cX9_noteLine 17 = .ok (.invokespecial 197, 3) := by decide +kernel
theorem dX9_noteLine_20 : decode cX9_noteLine 20 = .ok (.athrow, 1) := by decide +kernel
theorem dX9_noteLine_21 : decode cX9_noteLine 21 = .ok (.aload_n 0, 1) := by decide +kernel
theorem dX9_noteLine_22 : decode cX9_noteLine 22 = .ok (.getfield 12, 3) := by decide +kernel
theorem dX9_noteLine_25 : decode cX9_noteLine 25 = .ok (.iload_n 1, 1) := by decide +kernel
theorem dX9_noteLine_26 : decode cX9_noteLine 26 = .ok (.invokevirtual 257, 3) := by decide +kernel
theorem dX9_noteLine_29 : decode cX9_noteLine 29 = .ok (.astore_n 2, 1) := by decide +kernel
theorem dX9_noteLine_30 : decode cX9_noteLine 30 = .ok (.aload_n 0, 1) := by decide +kernel
theorem dX9_noteLine_31 : decode cX9_noteLine 31 = .ok (.getfield 50, 3) := by decide +kernel
theorem dX9_noteLine_34 : decode cX9_noteLine 34 = .ok (.invokevirtual 366, 3) := by decide +kernel
theorem dX9_noteLine_37 : decode cX9_noteLine 37 = .ok (.aload_n 0, 1) := by decide +kernel
theorem dX9_noteLine_38 : decode cX9_noteLine 38 = .ok (.getfield 50, 3) := by decide +kernel
theorem dX9_noteLine_41 : decode cX9_noteLine 41 = .ok (.aload_n 2, 1) := by decide +kernel
theorem dX9_noteLine_42 : decode cX9_noteLine 42 = .ok (.getfield 382, 3) := by decide +kernel
theorem dX9_noteLine_45 : decode cX9_noteLine 45 = .ok (.aload_n 2, 1) := by decide +kernel
theorem dX9_noteLine_46 : decode cX9_noteLine 46 = .ok (.getfield 383, 3) := by decide +kernel
theorem dX9_noteLine_49 : decode cX9_noteLine 49 = .ok (.invokevirtual 379, 3) := by decide +kernel
theorem dX9_noteLine_52 : decode cX9_noteLine 52 = .ok (.aload_n 0, 1) := by decide +kernel
theorem dX9_noteLine_53 : decode cX9_noteLine 53 = .ok (.getfield 12, 3) := by decide +kernel
theorem dX9_noteLine_56 : decode cX9_noteLine 56 = .ok (.aload_n 2, 1) := by decide +kernel
theorem dX9_noteLine_57 : decode cX9_noteLine 57 = .ok (.invokevirtual 269, 3) := by decide +kernel
theorem dX9_noteLine_60 : decode cX9_noteLine 60 = .ok (.ifCond .ne 12, 3) := by decide +kernel
theorem dX9_noteLine_63 : decode cX9_noteLine 63 = .ok (.aload_n 0, 1) := by decide +kernel
theorem dX9_noteLine_64 : decode cX9_noteLine 64 = .ok (.getfield 50, 3) := by decide +kernel
theorem dX9_noteLine_67 : decode cX9_noteLine 67 = .ok (.bipush 33, 2) := by decide +kernel
theorem dX9_noteLine_69 : decode cX9_noteLine 69 = .ok (.invokevirtual 367, 3) := by decide +kernel
theorem dX9_noteLine_72 : decode cX9_noteLine 72 = .ok (.aload_n 0, 1) := by decide +kernel
theorem dX9_noteLine_73 : decode cX9_noteLine 73 = .ok (.getfield 50, 3) := by decide +kernel
theorem dX9_noteLine_76 : decode cX9_noteLine 76 = .ok (.getfield 372, 3) := by decide +kernel
theorem dX9_noteLine_79 : decode cX9_noteLine 79 = .ok (.ireturn, 1) := by decide +kernel
theorem dX9_meanKnots_0 : decode cX9_meanKnots 0 = .ok (.aload_n 0, 1) := by decide +kernel
theorem dX9_meanKnots_1 : decode cX9_meanKnots 1 = .ok (.getfield 12, 3) := by decide +kernel
theorem dX9_meanKnots_4 : decode cX9_meanKnots 4 = .ok (.invokevirtual 393, 3) := by decide +kernel
theorem dX9_meanKnots_7 : decode cX9_meanKnots 7 = .ok (.istore_n 1, 1) := by decide +kernel
theorem dX9_meanKnots_8 : decode cX9_meanKnots 8 = .ok (.iload_n 1, 1) := by decide +kernel
theorem dX9_meanKnots_9 : decode cX9_meanKnots 9 = .ok (.ifCond .ne 14, 3) := by decide +kernel
theorem dX9_meanKnots_12 : decode cX9_meanKnots 12 = .ok (.new 396, 3) := by decide +kernel
theorem dX9_meanKnots_15 : decode cX9_meanKnots 15 = .ok (.dup, 1) := by decide +kernel
theorem dX9_meanKnots_16 : decode cX9_meanKnots 16 = .ok (.ldc_w 398, 3) := by decide +kernel
theorem dX9_meanKnots_19 : decode cX9_meanKnots 19 = .ok (.invokespecial 400, 3) := by decide +kernel
theorem dX9_meanKnots_22 : decode cX9_meanKnots 22 = .ok (.athrow, 1) := by decide +kernel
theorem dX9_meanKnots_23 : decode cX9_meanKnots 23 = .ok (.aload_n 0, 1) := by decide +kernel
theorem dX9_meanKnots_24 : decode cX9_meanKnots 24 = .ok (.getfield 12, 3) := by decide +kernel
theorem dX9_meanKnots_27 : decode cX9_meanKnots 27 = .ok (.invokevirtual 401, 3) := by decide +kernel
theorem dX9_meanKnots_30 : decode cX9_meanKnots 30 = .ok (.i2d, 1) := by decide +kernel
theorem dX9_meanKnots_31 : decode cX9_meanKnots 31 = .ok (.iload_n 1, 1) := by decide +kernel
theorem dX9_meanKnots_32 : decode cX9_meanKnots 32 = .ok (.i2d, 1) := by decide +kernel
theorem dX9_meanKnots_33 : decode cX9_meanKnots 33 = .ok (.ddiv, 1) := by decide +kernel
theorem dX9_meanKnots_34 : decode cX9_meanKnots 34 = .ok (.dreturn, 1) := by decide +kernel
theorem dX9_readShare_0 : decode cX9_readShare 0 = .ok (.aload_n 0, 1) := by decide +kernel
theorem dX9_readShare_1 : decode cX9_readShare 1 = .ok (.getfield 12, 3) := by decide +kernel
theorem dX9_readShare_4 : decode cX9_readShare 4 = .ok (.invokevirtual 401, 3) := by decide +kernel
theorem dX9_readShare_7 : decode cX9_readShare 7 = .ok (.istore_n 1, 1) := by decide +kernel
theorem dX9_readShare_8 : decode cX9_readShare 8 = .ok (.iload_n 1, 1) := by decide +kernel
theorem dX9_readShare_9 : decode cX9_readShare 9 = .ok (.ifCond .ne 14, 3) := by decide +kernel
theorem dX9_readShare_12 : decode cX9_readShare 12 = .ok (.new 396, 3) := by decide +kernel
theorem dX9_readShare_15 : decode cX9_readShare 15 = .ok (.dup, 1) := by decide +kernel
theorem dX9_readShare_16 : decode cX9_readShare 16 = .ok (.ldc_w 404, 3) := by decide +kernel
theorem dX9_readShare_19 : decode cX9_readShare 19 = .ok (.invokespecial 400, 3) := by decide +kernel
theorem dX9_readShare_22 : decode cX9_readShare 22 = .ok (.athrow, 1) := by decide +kernel
theorem dX9_readShare_23 : decode cX9_readShare 23 = .ok (.aload_n 0, 1) := by decide +kernel
theorem dX9_readShare_24 : decode cX9_readShare 24 = .ok (.getfield 12, 3) := by decide +kernel
theorem dX9_readShare_27 : decode cX9_readShare 27 = .ok (.invokevirtual 153, 3) := by decide +kernel
theorem dX9_readShare_30 : decode cX9_readShare 30 = .ok (.i2f, 1) := by decide +kernel
theorem dX9_readShare_31 : decode cX9_readShare 31 = .ok (.iload_n 1, 1) := by decide +kernel
theorem dX9_readShare_32 : decode cX9_readShare 32 = .ok (.i2f, 1) := by decide +kernel
theorem dX9_readShare_33 : decode cX9_readShare 33 = .ok (.fdiv, 1) := by decide +kernel
theorem dX9_readShare_34 : decode cX9_readShare 34 = .ok (.freturn, 1) := by decide +kernel
theorem dX9_account_0 : decode cX9_account 0 = .ok (.iload_n 1, 1) := by decide +kernel
theorem dX9_account_1 : decode cX9_account 1 = .ok (.tableswitch 171 0 12 #[67, 75, 83, 91, 99, 107, 115, 123, 131, 139, 147, 155, 163], 67) := by decide +kernel
theorem dX9_account_68 : decode cX9_account 68 = .ok (.aload_n 0, 1) := by decide +kernel
theorem dX9_account_69 : decode cX9_account 69 = .ok (.getfield 12, 3) := by decide +kernel
theorem dX9_account_72 : decode cX9_account 72 = .ok (.invokevirtual 401, 3) := by decide +kernel
theorem dX9_account_75 : decode cX9_account 75 = .ok (.ireturn, 1) := by decide +kernel
theorem dX9_account_76 : decode cX9_account 76 = .ok (.aload_n 0, 1) := by decide +kernel
theorem dX9_account_77 : decode cX9_account 77 = .ok (.getfield 12, 3) := by decide +kernel
theorem dX9_account_80 : decode cX9_account 80 = .ok (.invokevirtual 393, 3) := by decide +kernel
theorem dX9_account_83 : decode cX9_account 83 = .ok (.ireturn, 1) := by decide +kernel
theorem dX9_account_84 : decode cX9_account 84 = .ok (.aload_n 0, 1) := by decide +kernel
theorem dX9_account_85 : decode cX9_account 85 = .ok (.getfield 12, 3) := by decide +kernel
theorem dX9_account_88 : decode cX9_account 88 = .ok (.invokevirtual 406, 3) := by decide +kernel
theorem dX9_account_91 : decode cX9_account 91 = .ok (.ireturn, 1) := by decide +kernel
theorem dX9_account_92 : decode cX9_account 92 = .ok (.aload_n 0, 1) := by decide +kernel
theorem dX9_account_93 : decode cX9_account 93 = .ok (.getfield 12, 3) := by decide +kernel
theorem dX9_account_96 : decode cX9_account 96 = .ok (.getfield 142, 3) := by decide +kernel
theorem dX9_account_99 : decode cX9_account 99 = .ok (.ireturn, 1) := by decide +kernel
theorem dX9_account_100 : decode cX9_account 100 = .ok (.aload_n 0, 1) := by decide +kernel
theorem dX9_account_101 : decode cX9_account 101 = .ok (.getfield 12, 3) := by decide +kernel
theorem dX9_account_104 : decode cX9_account 104 = .ok (.invokevirtual 407, 3) := by decide +kernel
theorem dX9_account_107 : decode cX9_account 107 = .ok (.ireturn, 1) := by decide +kernel
theorem dX9_account_108 : decode cX9_account 108 = .ok (.aload_n 0, 1) := by decide +kernel
theorem dX9_account_109 : decode cX9_account 109 = .ok (.getfield 12, 3) := by decide +kernel
theorem dX9_account_112 : decode cX9_account 112 = .ok (.getfield 176, 3) := by decide +kernel
theorem dX9_account_115 : decode cX9_account 115 = .ok (.ireturn, 1) := by decide +kernel
theorem dX9_account_116 : decode cX9_account 116 = .ok (.aload_n 0, 1) := by decide +kernel
theorem dX9_account_117 : decode cX9_account 117 = .ok (.getfield 12, 3) := by decide +kernel
theorem dX9_account_120 : decode cX9_account 120 = .ok (.invokevirtual 410, 3) := by decide +kernel
theorem dX9_account_123 : decode cX9_account 123 = .ok (.ireturn, 1) := by decide +kernel
theorem dX9_account_124 : decode cX9_account 124 = .ok (.aload_n 0, 1) := by decide +kernel
theorem dX9_account_125 : decode cX9_account 125 = .ok (.getfield 12, 3) := by decide +kernel
theorem dX9_account_128 : decode cX9_account 128 = .ok (.getfield 150, 3) := by decide +kernel
theorem dX9_account_131 : decode cX9_account 131 = .ok (.ireturn, 1) := by decide +kernel
theorem dX9_account_132 : decode cX9_account 132 = .ok (.aload_n 0, 1) := by decide +kernel
theorem dX9_account_133 : decode cX9_account 133 = .ok (.getfield 12, 3) := by decide +kernel
theorem dX9_account_136 : decode cX9_account 136 = .ok (.getfield 413, 3) := by decide +kernel
theorem dX9_account_139 : decode cX9_account 139 = .ok (.ireturn, 1) := by decide +kernel
theorem dX9_account_140 : decode cX9_account 140 = .ok (.aload_n 0, 1) := by decide +kernel
theorem dX9_account_141 : decode cX9_account 141 = .ok (.getfield 12, 3) := by decide +kernel
theorem dX9_account_144 : decode cX9_account 144 = .ok (.getfield 416, 3) := by decide +kernel
theorem dX9_account_147 : decode cX9_account 147 = .ok (.ireturn, 1) := by decide +kernel
theorem dX9_account_148 : decode cX9_account 148 = .ok (.aload_n 0, 1) := by decide +kernel
theorem dX9_account_149 : decode cX9_account 149 = .ok (.getfield 12, 3) := by decide +kernel
theorem dX9_account_152 : decode cX9_account 152 = .ok (.getfield 419, 3) := by decide +kernel
theorem dX9_account_155 : decode cX9_account 155 = .ok (.ireturn, 1) := by decide +kernel
theorem dX9_account_156 : decode cX9_account 156 = .ok (.aload_n 0, 1) := by decide +kernel
theorem dX9_account_157 : decode cX9_account 157 = .ok (.getfield 43, 3) := by decide +kernel
theorem dX9_account_160 : decode cX9_account 160 = .ok (.getfield 318, 3) := by decide +kernel
theorem dX9_account_163 : decode cX9_account 163 = .ok (.ireturn, 1) := by decide +kernel
theorem dX9_account_164 : decode cX9_account 164 = .ok (.aload_n 0, 1) := by decide +kernel
theorem dX9_account_165 : decode cX9_account 165 = .ok (.getfield 29, 3) := by decide +kernel
theorem dX9_account_168 : decode cX9_account 168 = .ok (.getfield 422, 3) := by decide +kernel
theorem dX9_account_171 : decode cX9_account 171 = .ok (.ireturn, 1) := by decide +kernel
theorem dX9_account_172 : decode cX9_account 172 = .ok (.new 232, 3) := by decide +kernel
theorem dX9_account_175 : decode cX9_account 175 = .ok (.dup, 1) := by decide +kernel
theorem dX9_account_176 : decode cX9_account 176 = .ok (.ldc 234, 2) := by decide +kernel
theorem dX9_account_178 : decode cX9_account 178 = .ok (.invokespecial 236, 3) := by decide +kernel
theorem dX9_account_181 : decode cX9_account 181 = .ok (.athrow, 1) := by decide +kernel
theorem dX9_isBalanced_0 : decode cX9_isBalanced 0 = .ok (.aload_n 0, 1) := by decide +kernel
theorem dX9_isBalanced_1 : decode cX9_isBalanced 1 = .ok (.getfield 12, 3) := by decide +kernel
theorem dX9_isBalanced_4 : decode cX9_isBalanced 4 = .ok (.aload_n 0, 1) := by decide +kernel
theorem dX9_isBalanced_5 : decode cX9_isBalanced 5 = .ok (.getfield 36, 3) := by decide +kernel
theorem dX9_isBalanced_8 : decode cX9_isBalanced 8 = .ok (.invokevirtual 425, 3) := by decide +kernel
theorem dX9_isBalanced_11 : decode cX9_isBalanced 11 = .ok (.ifCond .eq 46, 3) := by decide +kernel
theorem dX9_isBalanced_14 : decode cX9_isBalanced 14 = .ok (.aload_n 0, 1) := by decide +kernel
theorem dX9_isBalanced_15 : decode cX9_isBalanced 15 = .ok (.getfield 12, 3) := by decide +kernel
theorem dX9_isBalanced_18 : decode cX9_isBalanced 18 = .ok (.aload_n 0, 1) := by decide +kernel
theorem dX9_isBalanced_19 : decode cX9_isBalanced 19 = .ok (.getfield 36, 3) := by decide +kernel
theorem dX9_isBalanced_22 : decode cX9_isBalanced 22 = .ok (.invokevirtual 429, 3) := by decide +kernel
theorem dX9_isBalanced_25 : decode cX9_isBalanced 25 = .ok (.ifCond .eq 32, 3) := by decide +kernel
theorem dX9_isBalanced_28 : decode cX9_isBalanced 28 = .ok (.aload_n 0, 1) := by decide +kernel
theorem dX9_isBalanced_29 : decode cX9_isBalanced 29 = .ok (.getfield 12, 3) := by decide +kernel
theorem dX9_isBalanced_32 : decode cX9_isBalanced 32 = .ok (.getfield 413, 3) := by decide +kernel
theorem dX9_isBalanced_35 : decode cX9_isBalanced 35 = .ok (.aload_n 0, 1) := by decide +kernel
theorem dX9_isBalanced_36 : decode cX9_isBalanced 36 = .ok (.getfield 12, 3) := by decide +kernel
theorem dX9_isBalanced_39 : decode cX9_isBalanced 39 = .ok (.invokevirtual 406, 3) := by decide +kernel
theorem dX9_isBalanced_42 : decode cX9_isBalanced 42 = .ok (.aload_n 0, 1) := by decide +kernel
theorem dX9_isBalanced_43 : decode cX9_isBalanced 43 = .ok (.getfield 12, 3) := by decide +kernel
theorem dX9_isBalanced_46 : decode cX9_isBalanced 46 = .ok (.getfield 416, 3) := by decide +kernel
theorem dX9_isBalanced_49 : decode cX9_isBalanced 49 = .ok (.iadd, 1) := by decide +kernel
theorem dX9_isBalanced_50 : decode cX9_isBalanced 50 = .ok (.if_icmp .ne 7, 3) := by decide +kernel
theorem dX9_isBalanced_53 : decode cX9_isBalanced 53 = .ok (.iconst 1, 1) := by decide +kernel
theorem dX9_isBalanced_54 : decode cX9_isBalanced 54 = .ok (.goto 4, 3) := by decide +kernel
theorem dX9_isBalanced_57 : decode cX9_isBalanced 57 = .ok (.iconst 0, 1) := by decide +kernel
theorem dX9_isBalanced_58 : decode cX9_isBalanced 58 = .ok (.ireturn, 1) := by decide +kernel
theorem dX9_undo_0 : decode cX9_undo 0 = .ok (.aload_n 0, 1) := by decide +kernel
theorem dX9_undo_1 : decode cX9_undo 1 = .ok (.getfield 29, 3) := by decide +kernel
theorem dX9_undo_4 : decode cX9_undo 4 = .ok (.getfield 422, 3) := by decide +kernel
theorem dX9_undo_7 : decode cX9_undo 7 = .ok (.ifCond .ne 14, 3) := by decide +kernel
theorem dX9_undo_10 : decode cX9_undo 10 = .ok (.new 309, 3) := by decide +kernel
theorem dX9_undo_13 : decode cX9_undo 13 = .ok (.dup, 1) := by decide +kernel
theorem dX9_undo_14 : decode cX9_undo 14 = .ok (.ldc_w 432, 3) := by decide +kernel
theorem dX9_undo_17 : decode cX9_undo 17 = .ok (.invokespecial 313, 3) := by decide +kernel
theorem dX9_undo_20 : decode cX9_undo 20 = .ok (.athrow, 1) := by decide +kernel
theorem dX9_undo_21 : decode cX9_undo 21 = .ok (.aload_n 0, 1) := by decide +kernel
theorem dX9_undo_22 : decode cX9_undo 22 = .ok (.getfield 29, 3) := by decide +kernel
theorem dX9_undo_25 : decode cX9_undo 25 = .ok (.aload_n 0, 1) := by decide +kernel
theorem dX9_undo_26 : decode cX9_undo 26 = .ok (.getfield 12, 3) := by decide +kernel
theorem dX9_undo_29 : decode cX9_undo 29 = .ok (.invokevirtual 434, 3) := by decide +kernel
theorem dX9_undo_32 : decode cX9_undo 32 = .ok (.aload_n 0, 1) := by decide +kernel
theorem dX9_undo_33 : decode cX9_undo 33 = .ok (.getfield 29, 3) := by decide +kernel
theorem dX9_undo_36 : decode cX9_undo 36 = .ok (.getfield 422, 3) := by decide +kernel
theorem dX9_undo_39 : decode cX9_undo 39 = .ok (.ireturn, 1) := by decide +kernel
theorem dX9_save_0 : decode cX9_save 0 = .ok (.aload_n 0, 1) := by decide +kernel
theorem dX9_save_1 : decode cX9_save 1 = .ok (.getfield 19, 3) := by decide +kernel
theorem dX9_save_4 : decode cX9_save 4 = .ok (.aload_n 0, 1) := by decide +kernel
theorem dX9_save_5 : decode cX9_save 5 = .ok (.getfield 12, 3) := by decide +kernel
theorem dX9_save_8 : decode cX9_save 8 = .ok (.invokevirtual 329, 3) := by decide +kernel
theorem dX9_save_11 : decode cX9_save 11 = .ok (.aload_n 0, 1) := by decide +kernel
theorem dX9_save_12 : decode cX9_save 12 = .ok (.iconst 1, 1) := by decide +kernel
theorem dX9_save_13 : decode cX9_save 13 = .ok (.putfield 22, 3) := by decide +kernel
theorem dX9_save_16 : decode cX9_save 16 = .ok (.aload_n 0, 1) := by decide +kernel
theorem dX9_save_17 : decode cX9_save 17 = .ok (.getfield 19, 3) := by decide +kernel
theorem dX9_save_20 : decode cX9_save 20 = .ok (.getfield 176, 3) := by decide +kernel
theorem dX9_save_23 : decode cX9_save 23 = .ok (.ireturn, 1) := by decide +kernel
theorem dX9_restore_0 : decode cX9_restore 0 = .ok (.aload_n 0, 1) := by decide +kernel
theorem dX9_restore_1 : decode cX9_restore 1 = .ok (.getfield 22, 3) := by decide +kernel
theorem dX9_restore_4 : decode cX9_restore 4 = .ok (.ifCond .ne 14, 3) := by decide +kernel
theorem dX9_restore_7 : decode cX9_restore 7 = .ok (.new 309, 3) := by decide +kernel
theorem dX9_restore_10 : decode cX9_restore 10 = .ok (.dup, 1) := by decide +kernel
theorem dX9_restore_11 : decode cX9_restore 11 = .ok (.ldc_w 437, 3) := by decide +kernel
theorem dX9_restore_14 : decode cX9_restore 14 = .ok (.invokespecial 313, 3) := by decide +kernel
theorem dX9_restore_17 : decode cX9_restore 17 = .ok (.athrow, 1) := by decide +kernel
theorem dX9_restore_18 : decode cX9_restore 18 = .ok (.aload_n 0, 1) := by decide +kernel
theorem dX9_restore_19 : decode cX9_restore 19 = .ok (.getfield 12, 3) := by decide +kernel
theorem dX9_restore_22 : decode cX9_restore 22 = .ok (.aload_n 0, 1) := by decide +kernel
theorem dX9_restore_23 : decode cX9_restore 23 = .ok (.getfield 19, 3) := by decide +kernel
theorem dX9_restore_26 : decode cX9_restore 26 = .ok (.invokevirtual 329, 3) := by decide +kernel
theorem dX9_restore_29 : decode cX9_restore 29 = .ok (.aload_n 0, 1) := by decide +kernel
theorem dX9_restore_30 : decode cX9_restore 30 = .ok (.getfield 29, 3) := by decide +kernel
theorem dX9_restore_33 : decode cX9_restore 33 = .ok (.invokevirtual 439, 3) := by decide +kernel
theorem dX9_restore_36 : decode cX9_restore 36 = .ok (.aload_n 0, 1) := by decide +kernel
theorem dX9_restore_37 : decode cX9_restore 37 = .ok (.getfield 12, 3) := by decide +kernel
theorem dX9_restore_40 : decode cX9_restore 40 = .ok (.getfield 176, 3) := by decide +kernel
theorem dX9_restore_43 : decode cX9_restore 43 = .ok (.ireturn, 1) := by decide +kernel
theorem dX9_keepsReason_0 : decode cX9_keepsReason 0 = .ok (.iload_n 1, 1) := by decide +kernel
theorem dX9_keepsReason_1 : decode cX9_keepsReason 1 = .ok (.ifCond .ne 5, 3) := by decide +kernel
theorem dX9_keepsReason_4 : decode cX9_keepsReason 4 = .ok (.iconst 0, 1) := by decide +kernel
theorem dX9_keepsReason_5 : decode cX9_keepsReason 5 = .ok (.ireturn, 1) := by decide +kernel
theorem dX9_keepsReason_6 : decode cX9_keepsReason 6 = .ok (.aload_n 0, 1) := by decide +kernel
theorem dX9_keepsReason_7 : decode cX9_keepsReason 7 = .ok (.getfield 57, 3) := by decide +kernel
theorem dX9_keepsReason_10 : decode cX9_keepsReason 10 = .ok (.iload_n 1, 1) := by decide +kernel
theorem dX9_keepsReason_11 : decode cX9_keepsReason 11 = .ok (.aload_n 0, 1) := by decide +kernel
theorem dX9_keepsReason_12 : decode cX9_keepsReason 12 = .ok (.getfield 61, 3) := by decide +kernel
theorem dX9_keepsReason_15 : decode cX9_keepsReason 15 = .ok (.invokevirtual 440, 3) := by decide +kernel
theorem dX9_keepsReason_18 : decode cX9_keepsReason 18 = .ok (.iconst 1, 1) := by decide +kernel
theorem dX9_keepsReason_19 : decode cX9_keepsReason 19 = .ok (.ireturn, 1) := by decide +kernel
theorem dX9_found_0 : decode cX9_found 0 = .ok (.aload_n 0, 1) := by decide +kernel
theorem dX9_found_1 : decode cX9_found 1 = .ok (.iload_n 2, 1) := by decide +kernel
theorem dX9_found_2 : decode cX9_found 2 = .ok (.putfield 61, 3) := by decide +kernel
theorem dX9_found_5 : decode cX9_found 5 = .ok (.iload_n 1, 1) := by decide +kernel
theorem dX9_found_6 : decode cX9_found 6 = .ok (.ireturn, 1) := by decide +kernel
theorem dX9_reasonAgainstKnot_0 : decode cX9_reasonAgainstKnot 0 = .ok (.iload_n 1, 1) := by decide +kernel
theorem dX9_reasonAgainstKnot_1 : decode cX9_reasonAgainstKnot 1 = .ok (.invokestatic 187, 3) := by decide +kernel
theorem dX9_reasonAgainstKnot_4 : decode cX9_reasonAgainstKnot 4 = .ok (.ifCond .ne 10, 3) := by decide +kernel
theorem dX9_reasonAgainstKnot_7 : decode cX9_reasonAgainstKnot 7 = .ok (.aload_n 0, 1) := by decide +kernel
theorem dX9_reasonAgainstKnot_8 : decode cX9_reasonAgainstKnot 8 = .ok (.iconst 2, 1) := by decide +kernel
theorem dX9_reasonAgainstKnot_9 : decode cX9_reasonAgainstKnot 9 = .ok (.iload_n 1, 1) := by decide +kernel
theorem dX9_reasonAgainstKnot_10 : decode cX9_reasonAgainstKnot 10 = .ok (.invokevirtual 443, 3) := by decide +kernel
theorem dX9_reasonAgainstKnot_13 : decode cX9_reasonAgainstKnot 13 = .ok (.ireturn, 1) := by decide +kernel
theorem dX9_reasonAgainstKnot_14 : decode cX9_reasonAgainstKnot 14 = .ok (.iload_n 2, 1) := by decide +kernel
theorem dX9_reasonAgainstKnot_15 : decode cX9_reasonAgainstKnot 15 = .ok (.invokestatic 190, 3) := by decide +kernel
theorem dX9_reasonAgainstKnot_18 : decode cX9_reasonAgainstKnot 18 = .ok (.ifCond .ne 10, 3) := by decide +kernel
theorem dX9_reasonAgainstKnot_21 : decode cX9_reasonAgainstKnot 21 = .ok (.aload_n 0, 1) := by decide +kernel
theorem dX9_reasonAgainstKnot_22 : decode cX9_reasonAgainstKnot 22 = .ok (.iconst 2, 1) := by decide +kernel
theorem dX9_reasonAgainstKnot_23 : decode cX9_reasonAgainstKnot 23 = .ok (.iload_n 2, 1) := by decide +kernel
theorem dX9_reasonAgainstKnot_24 : decode cX9_reasonAgainstKnot 24 = .ok (.invokevirtual 443, 3) := by decide +kernel
theorem dX9_reasonAgainstKnot_27 : decode cX9_reasonAgainstKnot 27 = .ok (.ireturn, 1) := by decide +kernel
theorem dX9_reasonAgainstKnot_28 : decode cX9_reasonAgainstKnot 28 = .ok (.iload_n 3, 1) := by decide +kernel
theorem dX9_reasonAgainstKnot_29 : decode cX9_reasonAgainstKnot 29 = .ok (.ifCond .lt 8, 3) := by decide +kernel
theorem dX9_reasonAgainstKnot_32 : decode cX9_reasonAgainstKnot 32 = .ok (.iload_n 3, 1) := by decide +kernel
theorem dX9_reasonAgainstKnot_33 : decode cX9_reasonAgainstKnot 33 = .ok (.iconst 3, 1) := by decide +kernel
theorem dX9_reasonAgainstKnot_34 : decode cX9_reasonAgainstKnot 34 = .ok (.if_icmp .le 10, 3) := by decide +kernel
theorem dX9_reasonAgainstKnot_37 : decode cX9_reasonAgainstKnot 37 = .ok (.aload_n 0, 1) := by decide +kernel
theorem dX9_reasonAgainstKnot_38 : decode cX9_reasonAgainstKnot 38 = .ok (.iconst 3, 1) := by decide +kernel
theorem dX9_reasonAgainstKnot_39 : decode cX9_reasonAgainstKnot 39 = .ok (.iload_n 3, 1) := by decide +kernel
theorem dX9_reasonAgainstKnot_40 : decode cX9_reasonAgainstKnot 40 = .ok (.invokevirtual 443, 3) := by decide +kernel
theorem dX9_reasonAgainstKnot_43 : decode cX9_reasonAgainstKnot 43 = .ok (.ireturn, 1) := by decide +kernel
theorem dX9_reasonAgainstKnot_44 : decode cX9_reasonAgainstKnot 44 = .ok (.aload_n 0, 1) := by decide +kernel
theorem dX9_reasonAgainstKnot_45 : decode cX9_reasonAgainstKnot 45 = .ok (.getfield 12, 3) := by decide +kernel
theorem dX9_reasonAgainstKnot_48 : decode cX9_reasonAgainstKnot 48 = .ok (.iload_n 1, 1) := by decide +kernel
theorem dX9_reasonAgainstKnot_49 : decode cX9_reasonAgainstKnot 49 = .ok (.invokevirtual 87, 3) := by decide +kernel
theorem dX9_reasonAgainstKnot_52 : decode cX9_reasonAgainstKnot 52 = .ok (.iload_n 2, 1) := by decide +kernel
theorem dX9_reasonAgainstKnot_53 : decode cX9_reasonAgainstKnot 53 = .ok (.invokevirtual 91, 3) := by decide +kernel
theorem dX9_reasonAgainstKnot_56 : decode cX9_reasonAgainstKnot 56 = .ok (.iload_n 3, 1) := by decide +kernel
theorem dX9_reasonAgainstKnot_57 : decode cX9_reasonAgainstKnot 57 = .ok (.if_icmp .ne 10, 3) := by decide +kernel
theorem dX9_reasonAgainstKnot_60 : decode cX9_reasonAgainstKnot 60 = .ok (.aload_n 0, 1) := by decide +kernel
theorem dX9_reasonAgainstKnot_61 : decode cX9_reasonAgainstKnot 61 = .ok (.iconst 4, 1) := by decide +kernel
theorem dX9_reasonAgainstKnot_62 : decode cX9_reasonAgainstKnot 62 = .ok (.iload_n 3, 1) := by decide +kernel
theorem dX9_reasonAgainstKnot_63 : decode cX9_reasonAgainstKnot 63 = .ok (.invokevirtual 443, 3) := by decide +kernel
theorem dX9_reasonAgainstKnot_66 : decode cX9_reasonAgainstKnot 66 = .ok (.ireturn, 1) := by decide +kernel
theorem dX9_reasonAgainstKnot_67 : decode cX9_reasonAgainstKnot 67 = .ok (.iconst 0, 1) := by decide +kernel
theorem dX9_reasonAgainstKnot_68 : decode cX9_reasonAgainstKnot 68 = .ok (.ireturn, 1) := by decide +kernel
theorem dX9_reasonAgainstEnds_0 : decode cX9_reasonAgainstEnds 0 = .ok (.iload_n 1, 1) := by decide +kernel
theorem dX9_reasonAgainstEnds_1 : decode cX9_reasonAgainstEnds 1 = .ok (.invokestatic 187, 3) := by decide +kernel
theorem dX9_reasonAgainstEnds_4 : decode cX9_reasonAgainstEnds 4 = .ok (.ifCond .ne 10, 3) := by decide +kernel
theorem dX9_reasonAgainstEnds_7 : decode cX9_reasonAgainstEnds 7 = .ok (.aload_n 0, 1) := by decide +kernel
theorem dX9_reasonAgainstEnds_8 : decode cX9_reasonAgainstEnds 8 = .ok (.iconst 2, 1) := by decide +kernel
theorem dX9_reasonAgainstEnds_9 : decode cX9_reasonAgainstEnds 9 = .ok (.iload_n 1, 1) := by decide +kernel
theorem dX9_reasonAgainstEnds_10 : decode cX9_reasonAgainstEnds 10 = .ok (.invokevirtual 443, 3) := by decide +kernel
theorem dX9_reasonAgainstEnds_13 : decode cX9_reasonAgainstEnds 13 = .ok (.ireturn, 1) := by decide +kernel
theorem dX9_reasonAgainstEnds_14 : decode cX9_reasonAgainstEnds 14 = .ok (.iload_n 2, 1) := by decide +kernel
theorem dX9_reasonAgainstEnds_15 : decode cX9_reasonAgainstEnds 15 = .ok (.invokestatic 190, 3) := by decide +kernel
theorem dX9_reasonAgainstEnds_18 : decode cX9_reasonAgainstEnds 18 = .ok (.ifCond .ne 10, 3) := by decide +kernel
theorem dX9_reasonAgainstEnds_21 : decode cX9_reasonAgainstEnds 21 = .ok (.aload_n 0, 1) := by decide +kernel
theorem dX9_reasonAgainstEnds_22 : decode cX9_reasonAgainstEnds 22 = .ok (.iconst 2, 1) := by decide +kernel
theorem dX9_reasonAgainstEnds_23 : decode cX9_reasonAgainstEnds 23 = .ok (.iload_n 2, 1) := by decide +kernel
theorem dX9_reasonAgainstEnds_24 : decode cX9_reasonAgainstEnds 24 = .ok (.invokevirtual 443, 3) := by decide +kernel
theorem dX9_reasonAgainstEnds_27 : decode cX9_reasonAgainstEnds 27 = .ok (.ireturn, 1) := by decide +kernel
theorem dX9_reasonAgainstEnds_28 : decode cX9_reasonAgainstEnds 28 = .ok (.iload_n 3, 1) := by decide +kernel
theorem dX9_reasonAgainstEnds_29 : decode cX9_reasonAgainstEnds 29 = .ok (.invokestatic 190, 3) := by decide +kernel
theorem dX9_reasonAgainstEnds_32 : decode cX9_reasonAgainstEnds 32 = .ok (.ifCond .ne 10, 3) := by decide +kernel
theorem dX9_reasonAgainstEnds_35 : decode cX9_reasonAgainstEnds 35 = .ok (.aload_n 0, 1) := by decide +kernel
theorem dX9_reasonAgainstEnds_36 : decode cX9_reasonAgainstEnds 36 = .ok (.iconst 2, 1) := by decide +kernel
theorem dX9_reasonAgainstEnds_37 : decode cX9_reasonAgainstEnds 37 = .ok (.iload_n 3, 1) := by decide +kernel
theorem dX9_reasonAgainstEnds_38 : decode cX9_reasonAgainstEnds 38 = .ok (.invokevirtual 443, 3) := by decide +kernel
theorem dX9_reasonAgainstEnds_41 : decode cX9_reasonAgainstEnds 41 = .ok (.ireturn, 1) := by decide +kernel
theorem dX9_reasonAgainstEnds_42 : decode cX9_reasonAgainstEnds 42 = .ok (.iconst 0, 1) := by decide +kernel
theorem dX9_reasonAgainstEnds_43 : decode cX9_reasonAgainstEnds 43 = .ok (.ireturn, 1) := by decide +kernel
theorem dX9_reasonAgainstString_0 : decode cX9_reasonAgainstString 0 = .ok (.iload_n 2, 1) := by decide +kernel
theorem dX9_reasonAgainstString_1 : decode cX9_reasonAgainstString 1 = .ok (.iload_n 3, 1) := by decide +kernel
theorem dX9_reasonAgainstString_2 : decode cX9_reasonAgainstString 2 = .ok (.invokestatic 198, 3) := by decide +kernel
theorem dX9_reasonAgainstString_5 : decode cX9_reasonAgainstString 5 = .ok (.ifCond .ne 10, 3) := by decide +kernel
theorem dX9_reasonAgainstString_8 : decode cX9_reasonAgainstString 8 = .ok (.aload_n 0, 1) := by decide +kernel
theorem dX9_reasonAgainstString_9 : decode cX9_reasonAgainstString 9 = .ok (.iconst 5, 1) := by decide +kernel
theorem dX9_reasonAgainstString_10 : decode cX9_reasonAgainstString 10 = .ok (.iload_n 3, 1) := by decide +kernel
theorem dX9_reasonAgainstString_11 : decode cX9_reasonAgainstString 11 = .ok (.invokevirtual 443, 3) := by decide +kernel
theorem dX9_reasonAgainstString_14 : decode cX9_reasonAgainstString 14 = .ok (.ireturn, 1) := by decide +kernel
theorem dX9_reasonAgainstString_15 : decode cX9_reasonAgainstString 15 = .ok (.aload_n 0, 1) := by decide +kernel
theorem dX9_reasonAgainstString_16 : decode cX9_reasonAgainstString 16 = .ok (.getfield 12, 3) := by decide +kernel
theorem dX9_reasonAgainstString_19 : decode cX9_reasonAgainstString 19 = .ok (.iload_n 1, 1) := by decide +kernel
theorem dX9_reasonAgainstString_20 : decode cX9_reasonAgainstString 20 = .ok (.invokevirtual 87, 3) := by decide +kernel
theorem dX9_reasonAgainstString_23 : decode cX9_reasonAgainstString 23 = .ok (.iload_n 2, 1) := by decide +kernel
theorem dX9_reasonAgainstString_24 : decode cX9_reasonAgainstString 24 = .ok (.iload_n 3, 1) := by decide +kernel
theorem dX9_reasonAgainstString_25 : decode cX9_reasonAgainstString 25 = .ok (.invokevirtual 207, 3) := by decide +kernel
theorem dX9_reasonAgainstString_28 : decode cX9_reasonAgainstString 28 = .ok (.iload 4, 2) := by decide +kernel
theorem dX9_reasonAgainstString_30 : decode cX9_reasonAgainstString 30 = .ok (.if_icmp .eq 14, 3) := by decide +kernel
theorem dX9_reasonAgainstString_33 : decode cX9_reasonAgainstString 33 = .ok (.aload_n 0, 1) := by decide +kernel
theorem dX9_reasonAgainstString_34 : decode cX9_reasonAgainstString 34 = .ok (.iconst 4, 1) := by decide +kernel
theorem dX9_reasonAgainstString_35 : decode cX9_reasonAgainstString 35 = .ok (.iload_n 2, 1) := by decide +kernel
theorem dX9_reasonAgainstString_36 : decode cX9_reasonAgainstString 36 = .ok (.iload_n 3, 1) := by decide +kernel
theorem dX9_reasonAgainstString_37 : decode cX9_reasonAgainstString 37 = .ok (.invokestatic 446, 3) := by decide +kernel
theorem dX9_reasonAgainstString_40 : decode cX9_reasonAgainstString 40 = .ok (.invokevirtual 443, 3) := by decide +kernel
theorem dX9_reasonAgainstString_43 : decode cX9_reasonAgainstString 43 = .ok (.ireturn, 1) := by decide +kernel
theorem dX9_reasonAgainstString_44 : decode cX9_reasonAgainstString 44 = .ok (.iconst 0, 1) := by decide +kernel
theorem dX9_reasonAgainstString_45 : decode cX9_reasonAgainstString 45 = .ok (.ireturn, 1) := by decide +kernel
theorem dX9_reasonAgainstTear_0 : decode cX9_reasonAgainstTear 0 = .ok (.aload_n 0, 1) := by decide +kernel
theorem dX9_reasonAgainstTear_1 : decode cX9_reasonAgainstTear 1 = .ok (.iload_n 1, 1) := by decide +kernel
theorem dX9_reasonAgainstTear_2 : decode cX9_reasonAgainstTear 2 = .ok (.iload_n 2, 1) := by decide +kernel
theorem dX9_reasonAgainstTear_3 : decode cX9_reasonAgainstTear 3 = .ok (.iload_n 3, 1) := by decide +kernel
theorem dX9_reasonAgainstTear_4 : decode cX9_reasonAgainstTear 4 = .ok (.invokevirtual 451, 3) := by decide +kernel
theorem dX9_reasonAgainstTear_7 : decode cX9_reasonAgainstTear 7 = .ok (.istore 4, 2) := by decide +kernel
theorem dX9_reasonAgainstTear_9 : decode cX9_reasonAgainstTear 9 = .ok (.iload 4, 2) := by decide +kernel
theorem dX9_reasonAgainstTear_11 : decode cX9_reasonAgainstTear 11 = .ok (.ifCond .ne 14, 3) := by decide +kernel
theorem dX9_reasonAgainstTear_14 : decode cX9_reasonAgainstTear 14 = .ok (.aload_n 0, 1) := by decide +kernel
theorem dX9_reasonAgainstTear_15 : decode cX9_reasonAgainstTear 15 = .ok (.iload_n 1, 1) := by decide +kernel
theorem dX9_reasonAgainstTear_16 : decode cX9_reasonAgainstTear 16 = .ok (.iload_n 2, 1) := by decide +kernel
theorem dX9_reasonAgainstTear_17 : decode cX9_reasonAgainstTear 17 = .ok (.iload_n 3, 1) := by decide +kernel
theorem dX9_reasonAgainstTear_18 : decode cX9_reasonAgainstTear 18 = .ok (.iconst 0, 1) := by decide +kernel
theorem dX9_reasonAgainstTear_19 : decode cX9_reasonAgainstTear 19 = .ok (.invokevirtual 454, 3) := by decide +kernel
theorem dX9_reasonAgainstTear_22 : decode cX9_reasonAgainstTear 22 = .ok (.goto 5, 3) := by decide +kernel
theorem dX9_reasonAgainstTear_25 : decode cX9_reasonAgainstTear 25 = .ok (.iload 4, 2) := by decide +kernel
theorem dX9_reasonAgainstTear_27 : decode cX9_reasonAgainstTear 27 = .ok (.ireturn, 1) := by decide +kernel
theorem dX9_reasonAgainstMend_0 : decode cX9_reasonAgainstMend 0 = .ok (.aload_n 0, 1) := by decide +kernel
theorem dX9_reasonAgainstMend_1 : decode cX9_reasonAgainstMend 1 = .ok (.iload_n 1, 1) := by decide +kernel
theorem dX9_reasonAgainstMend_2 : decode cX9_reasonAgainstMend 2 = .ok (.iload_n 2, 1) := by decide +kernel
theorem dX9_reasonAgainstMend_3 : decode cX9_reasonAgainstMend 3 = .ok (.iload_n 3, 1) := by decide +kernel
theorem dX9_reasonAgainstMend_4 : decode cX9_reasonAgainstMend 4 = .ok (.invokevirtual 451, 3) := by decide +kernel
theorem dX9_reasonAgainstMend_7 : decode cX9_reasonAgainstMend 7 = .ok (.istore 5, 2) := by decide +kernel
theorem dX9_reasonAgainstMend_9 : decode cX9_reasonAgainstMend 9 = .ok (.iload 5, 2) := by decide +kernel
theorem dX9_reasonAgainstMend_11 : decode cX9_reasonAgainstMend 11 = .ok (.ifCond .eq 6, 3) := by decide +kernel
theorem dX9_reasonAgainstMend_14 : decode cX9_reasonAgainstMend 14 = .ok (.iload 5, 2) := by decide +kernel
theorem dX9_reasonAgainstMend_16 : decode cX9_reasonAgainstMend 16 = .ok (.ireturn, 1) := by decide +kernel
theorem dX9_reasonAgainstMend_17 : decode cX9_reasonAgainstMend 17 = .ok (.aload_n 0, 1) := by decide +kernel
theorem dX9_reasonAgainstMend_18 : decode cX9_reasonAgainstMend 18 = .ok (.getfield 12, 3) := by decide +kernel
theorem dX9_reasonAgainstMend_21 : decode cX9_reasonAgainstMend 21 = .ok (.iload 4, 2) := by decide +kernel
theorem dX9_reasonAgainstMend_23 : decode cX9_reasonAgainstMend 23 = .ok (.invokevirtual 297, 3) := by decide +kernel
theorem dX9_reasonAgainstMend_26 : decode cX9_reasonAgainstMend 26 = .ok (.ifCond .ne 11, 3) := by decide +kernel
theorem dX9_reasonAgainstMend_29 : decode cX9_reasonAgainstMend 29 = .ok (.aload_n 0, 1) := by decide +kernel
theorem dX9_reasonAgainstMend_30 : decode cX9_reasonAgainstMend 30 = .ok (.iconst 2, 1) := by decide +kernel
theorem dX9_reasonAgainstMend_31 : decode cX9_reasonAgainstMend 31 = .ok (.iload 4, 2) := by decide +kernel
theorem dX9_reasonAgainstMend_33 : decode cX9_reasonAgainstMend 33 = .ok (.invokevirtual 443, 3) := by decide +kernel
theorem dX9_reasonAgainstMend_36 : decode cX9_reasonAgainstMend 36 = .ok (.ireturn, 1) := by decide +kernel
theorem dX9_reasonAgainstMend_37 : decode cX9_reasonAgainstMend 37 = .ok (.aload_n 0, 1) := by decide +kernel
theorem dX9_reasonAgainstMend_38 : decode cX9_reasonAgainstMend 38 = .ok (.iload_n 1, 1) := by decide +kernel
theorem dX9_reasonAgainstMend_39 : decode cX9_reasonAgainstMend 39 = .ok (.iload_n 2, 1) := by decide +kernel
theorem dX9_reasonAgainstMend_40 : decode cX9_reasonAgainstMend 40 = .ok (.iload_n 3, 1) := by decide +kernel
theorem dX9_reasonAgainstMend_41 : decode cX9_reasonAgainstMend 41 = .ok (.iconst 1, 1) := by decide +kernel
theorem dX9_reasonAgainstMend_42 : decode cX9_reasonAgainstMend 42 = .ok (.invokevirtual 454, 3) := by decide +kernel
theorem dX9_reasonAgainstMend_45 : decode cX9_reasonAgainstMend 45 = .ok (.istore 5, 2) := by decide +kernel
theorem dX9_reasonAgainstMend_47 : decode cX9_reasonAgainstMend 47 = .ok (.iload 5, 2) := by decide +kernel
theorem dX9_reasonAgainstMend_49 : decode cX9_reasonAgainstMend 49 = .ok (.ifCond .eq 6, 3) := by decide +kernel
theorem dX9_reasonAgainstMend_52 : decode cX9_reasonAgainstMend 52 = .ok (.iload 5, 2) := by decide +kernel
theorem dX9_reasonAgainstMend_54 : decode cX9_reasonAgainstMend 54 = .ok (.ireturn, 1) := by decide +kernel
theorem dX9_reasonAgainstMend_55 : decode cX9_reasonAgainstMend 55 = .ok (.aload_n 0, 1) := by decide +kernel
theorem dX9_reasonAgainstMend_56 : decode cX9_reasonAgainstMend 56 = .ok (.getfield 12, 3) := by decide +kernel
theorem dX9_reasonAgainstMend_59 : decode cX9_reasonAgainstMend 59 = .ok (.iload 4, 2) := by decide +kernel
theorem dX9_reasonAgainstMend_61 : decode cX9_reasonAgainstMend 61 = .ok (.invokevirtual 124, 3) := by decide +kernel
theorem dX9_reasonAgainstMend_64 : decode cX9_reasonAgainstMend 64 = .ok (.getfield 128, 3) := by decide +kernel
theorem dX9_reasonAgainstMend_67 : decode cX9_reasonAgainstMend 67 = .ok (.istore 6, 2) := by decide +kernel
theorem dX9_reasonAgainstMend_69 : decode cX9_reasonAgainstMend 69 = .ok (.iload 6, 2) := by decide +kernel
theorem dX9_reasonAgainstMend_71 : decode cX9_reasonAgainstMend 71 = .ok (.iload_n 2, 1) := by decide +kernel
theorem dX9_reasonAgainstMend_72 : decode cX9_reasonAgainstMend 72 = .ok (.iload_n 3, 1) := by decide +kernel
theorem dX9_reasonAgainstMend_73 : decode cX9_reasonAgainstMend 73 = .ok (.invokestatic 458, 3) := by decide +kernel
theorem dX9_reasonAgainstMend_76 : decode cX9_reasonAgainstMend 76 = .ok (.if_icmp .ge 14, 3) := by decide +kernel
theorem dX9_reasonAgainstMend_79 : decode cX9_reasonAgainstMend 79 = .ok (.aload_n 0, 1) := by decide +kernel
theorem dX9_reasonAgainstMend_80 : decode cX9_reasonAgainstMend 80 = .ok (.bipush 6, 2) := by decide +kernel
theorem dX9_reasonAgainstMend_82 : decode cX9_reasonAgainstMend 82 = .ok (.iload 6, 2) := by decide +kernel
theorem dX9_reasonAgainstMend_84 : decode cX9_reasonAgainstMend 84 = .ok (.invokevirtual 443, 3) := by decide +kernel
theorem dX9_reasonAgainstMend_87 : decode cX9_reasonAgainstMend 87 = .ok (.goto 4, 3) := by decide +kernel
theorem dX9_reasonAgainstMend_90 : decode cX9_reasonAgainstMend 90 = .ok (.iconst 0, 1) := by decide +kernel
theorem dX9_reasonAgainstMend_91 : decode cX9_reasonAgainstMend 91 = .ok (.ireturn, 1) := by decide +kernel
theorem dX9_reasonAgainstEditor_0 : decode cX9_reasonAgainstEditor 0 = .ok (.iload_n 1, 1) := by decide +kernel
theorem dX9_reasonAgainstEditor_1 : decode cX9_reasonAgainstEditor 1 = .ok (.ifCond .lt 9, 3) := by decide +kernel
theorem dX9_reasonAgainstEditor_4 : decode cX9_reasonAgainstEditor 4 = .ok (.iload_n 1, 1) := by decide +kernel
theorem dX9_reasonAgainstEditor_5 : decode cX9_reasonAgainstEditor 5 = .ok (.bipush 99, 2) := by decide +kernel
theorem dX9_reasonAgainstEditor_7 : decode cX9_reasonAgainstEditor 7 = .ok (.if_icmp .le 10, 3) := by decide +kernel
theorem dX9_reasonAgainstEditor_10 : decode cX9_reasonAgainstEditor 10 = .ok (.aload_n 0, 1) := by decide +kernel
theorem dX9_reasonAgainstEditor_11 : decode cX9_reasonAgainstEditor 11 = .ok (.iconst 3, 1) := by decide +kernel
theorem dX9_reasonAgainstEditor_12 : decode cX9_reasonAgainstEditor 12 = .ok (.iload_n 1, 1) := by decide +kernel
theorem dX9_reasonAgainstEditor_13 : decode cX9_reasonAgainstEditor 13 = .ok (.invokevirtual 443, 3) := by decide +kernel
theorem dX9_reasonAgainstEditor_16 : decode cX9_reasonAgainstEditor 16 = .ok (.ireturn, 1) := by decide +kernel
theorem dX9_reasonAgainstEditor_17 : decode cX9_reasonAgainstEditor 17 = .ok (.aload_n 0, 1) := by decide +kernel
theorem dX9_reasonAgainstEditor_18 : decode cX9_reasonAgainstEditor 18 = .ok (.getfield 12, 3) := by decide +kernel
theorem dX9_reasonAgainstEditor_21 : decode cX9_reasonAgainstEditor 21 = .ok (.getfield 142, 3) := by decide +kernel
theorem dX9_reasonAgainstEditor_24 : decode cX9_reasonAgainstEditor 24 = .ok (.iconst 4, 1) := by decide +kernel
theorem dX9_reasonAgainstEditor_25 : decode cX9_reasonAgainstEditor 25 = .ok (.if_icmp .lt 18, 3) := by decide +kernel
theorem dX9_reasonAgainstEditor_28 : decode cX9_reasonAgainstEditor 28 = .ok (.aload_n 0, 1) := by decide +kernel
theorem dX9_reasonAgainstEditor_29 : decode cX9_reasonAgainstEditor 29 = .ok (.iconst 1, 1) := by decide +kernel
theorem dX9_reasonAgainstEditor_30 : decode cX9_reasonAgainstEditor 30 = .ok (.aload_n 0, 1) := by decide +kernel
theorem dX9_reasonAgainstEditor_31 : decode cX9_reasonAgainstEditor 31 = .ok (.getfield 12, 3) := by decide +kernel
theorem dX9_reasonAgainstEditor_34 : decode cX9_reasonAgainstEditor 34 = .ok (.getfield 142, 3) := by decide +kernel
theorem dX9_reasonAgainstEditor_37 : decode cX9_reasonAgainstEditor 37 = .ok (.invokevirtual 443, 3) := by decide +kernel
theorem dX9_reasonAgainstEditor_40 : decode cX9_reasonAgainstEditor 40 = .ok (.goto 4, 3) := by decide +kernel
theorem dX9_reasonAgainstEditor_43 : decode cX9_reasonAgainstEditor 43 = .ok (.iconst 0, 1) := by decide +kernel
theorem dX9_reasonAgainstEditor_44 : decode cX9_reasonAgainstEditor 44 = .ok (.ireturn, 1) := by decide +kernel
theorem dX9_reasonAgainstTide_0 : decode cX9_reasonAgainstTide 0 = .ok (.iload_n 1, 1) := by decide +kernel
theorem dX9_reasonAgainstTide_1 : decode cX9_reasonAgainstTide 1 = .ok (.ifCond .lt 8, 3) := by decide +kernel
theorem dX9_reasonAgainstTide_4 : decode cX9_reasonAgainstTide 4 = .ok (.iload_n 1, 1) := by decide +kernel
theorem dX9_reasonAgainstTide_5 : decode cX9_reasonAgainstTide 5 = .ok (.iconst 4, 1) := by decide +kernel
theorem dX9_reasonAgainstTide_6 : decode cX9_reasonAgainstTide 6 = .ok (.if_icmp .le 10, 3) := by decide +kernel
theorem dX9_reasonAgainstTide_9 : decode cX9_reasonAgainstTide 9 = .ok (.aload_n 0, 1) := by decide +kernel
theorem dX9_reasonAgainstTide_10 : decode cX9_reasonAgainstTide 10 = .ok (.iconst 3, 1) := by decide +kernel
theorem dX9_reasonAgainstTide_11 : decode cX9_reasonAgainstTide 11 = .ok (.iload_n 1, 1) := by decide +kernel
theorem dX9_reasonAgainstTide_12 : decode cX9_reasonAgainstTide 12 = .ok (.invokevirtual 443, 3) := by decide +kernel
theorem dX9_reasonAgainstTide_15 : decode cX9_reasonAgainstTide 15 = .ok (.ireturn, 1) := by decide +kernel
theorem dX9_reasonAgainstTide_16 : decode cX9_reasonAgainstTide 16 = .ok (.aload_n 0, 1) := by decide +kernel
theorem dX9_reasonAgainstTide_17 : decode cX9_reasonAgainstTide 17 = .ok (.getfield 12, 3) := by decide +kernel
theorem dX9_reasonAgainstTide_20 : decode cX9_reasonAgainstTide 20 = .ok (.getfield 150, 3) := by decide +kernel
theorem dX9_reasonAgainstTide_23 : decode cX9_reasonAgainstTide 23 = .ok (.iload_n 1, 1) := by decide +kernel
theorem dX9_reasonAgainstTide_24 : decode cX9_reasonAgainstTide 24 = .ok (.if_icmp .ne 12, 3) := by decide +kernel
theorem dX9_reasonAgainstTide_27 : decode cX9_reasonAgainstTide 27 = .ok (.aload_n 0, 1) := by decide +kernel
theorem dX9_reasonAgainstTide_28 : decode cX9_reasonAgainstTide 28 = .ok (.iconst 4, 1) := by decide +kernel
theorem dX9_reasonAgainstTide_29 : decode cX9_reasonAgainstTide 29 = .ok (.iload_n 1, 1) := by decide +kernel
theorem dX9_reasonAgainstTide_30 : decode cX9_reasonAgainstTide 30 = .ok (.invokevirtual 443, 3) := by decide +kernel
theorem dX9_reasonAgainstTide_33 : decode cX9_reasonAgainstTide 33 = .ok (.goto 4, 3) := by decide +kernel
theorem dX9_reasonAgainstTide_36 : decode cX9_reasonAgainstTide 36 = .ok (.iconst 0, 1) := by decide +kernel
theorem dX9_reasonAgainstTide_37 : decode cX9_reasonAgainstTide 37 = .ok (.ireturn, 1) := by decide +kernel
theorem dX9_reasonAgainstSink_0 : decode cX9_reasonAgainstSink 0 = .ok (.iload_n 1, 1) := by decide +kernel
theorem dX9_reasonAgainstSink_1 : decode cX9_reasonAgainstSink 1 = .ok (.invokestatic 187, 3) := by decide +kernel
theorem dX9_reasonAgainstSink_4 : decode cX9_reasonAgainstSink 4 = .ok (.ifCond .ne 10, 3) := by decide +kernel
theorem dX9_reasonAgainstSink_7 : decode cX9_reasonAgainstSink 7 = .ok (.aload_n 0, 1) := by decide +kernel
theorem dX9_reasonAgainstSink_8 : decode cX9_reasonAgainstSink 8 = .ok (.iconst 2, 1) := by decide +kernel
theorem dX9_reasonAgainstSink_9 : decode cX9_reasonAgainstSink 9 = .ok (.iload_n 1, 1) := by decide +kernel
theorem dX9_reasonAgainstSink_10 : decode cX9_reasonAgainstSink 10 = .ok (.invokevirtual 443, 3) := by decide +kernel
theorem dX9_reasonAgainstSink_13 : decode cX9_reasonAgainstSink 13 = .ok (.ireturn, 1) := by decide +kernel
theorem dX9_reasonAgainstSink_14 : decode cX9_reasonAgainstSink 14 = .ok (.iload_n 2, 1) := by decide +kernel
theorem dX9_reasonAgainstSink_15 : decode cX9_reasonAgainstSink 15 = .ok (.ifCond .lt 8, 3) := by decide +kernel
theorem dX9_reasonAgainstSink_18 : decode cX9_reasonAgainstSink 18 = .ok (.iload_n 2, 1) := by decide +kernel
theorem dX9_reasonAgainstSink_19 : decode cX9_reasonAgainstSink 19 = .ok (.iconst 4, 1) := by decide +kernel
theorem dX9_reasonAgainstSink_20 : decode cX9_reasonAgainstSink 20 = .ok (.if_icmp .le 10, 3) := by decide +kernel
theorem dX9_reasonAgainstSink_23 : decode cX9_reasonAgainstSink 23 = .ok (.aload_n 0, 1) := by decide +kernel
theorem dX9_reasonAgainstSink_24 : decode cX9_reasonAgainstSink 24 = .ok (.iconst 3, 1) := by decide +kernel
theorem dX9_reasonAgainstSink_25 : decode cX9_reasonAgainstSink 25 = .ok (.iload_n 2, 1) := by decide +kernel
theorem dX9_reasonAgainstSink_26 : decode cX9_reasonAgainstSink 26 = .ok (.invokevirtual 443, 3) := by decide +kernel
theorem dX9_reasonAgainstSink_29 : decode cX9_reasonAgainstSink 29 = .ok (.ireturn, 1) := by decide +kernel
theorem dX9_reasonAgainstSink_30 : decode cX9_reasonAgainstSink 30 = .ok (.aload_n 0, 1) := by decide +kernel
theorem dX9_reasonAgainstSink_31 : decode cX9_reasonAgainstSink 31 = .ok (.getfield 12, 3) := by decide +kernel
theorem dX9_reasonAgainstSink_34 : decode cX9_reasonAgainstSink 34 = .ok (.iload_n 1, 1) := by decide +kernel
theorem dX9_reasonAgainstSink_35 : decode cX9_reasonAgainstSink 35 = .ok (.invokevirtual 87, 3) := by decide +kernel
theorem dX9_reasonAgainstSink_38 : decode cX9_reasonAgainstSink 38 = .ok (.getfield 162, 3) := by decide +kernel
theorem dX9_reasonAgainstSink_41 : decode cX9_reasonAgainstSink 41 = .ok (.iload_n 2, 1) := by decide +kernel
theorem dX9_reasonAgainstSink_42 : decode cX9_reasonAgainstSink 42 = .ok (.if_icmp .ne 7, 3) := by decide +kernel
theorem dX9_reasonAgainstSink_45 : decode cX9_reasonAgainstSink 45 = .ok (.iconst 1, 1) := by decide +kernel
theorem dX9_reasonAgainstSink_46 : decode cX9_reasonAgainstSink 46 = .ok (.goto 4, 3) := by decide +kernel
theorem dX9_reasonAgainstSink_49 : decode cX9_reasonAgainstSink 49 = .ok (.iconst 0, 1) := by decide +kernel
theorem dX9_reasonAgainstSink_50 : decode cX9_reasonAgainstSink 50 = .ok (.istore_n 3, 1) := by decide +kernel
theorem dX9_reasonAgainstSink_51 : decode cX9_reasonAgainstSink 51 = .ok (.iload_n 3, 1) := by decide +kernel
theorem dX9_reasonAgainstSink_52 : decode cX9_reasonAgainstSink 52 = .ok (.ifCond .eq 12, 3) := by decide +kernel
theorem dX9_reasonAgainstSink_55 : decode cX9_reasonAgainstSink 55 = .ok (.aload_n 0, 1) := by decide +kernel
theorem dX9_reasonAgainstSink_56 : decode cX9_reasonAgainstSink 56 = .ok (.iconst 4, 1) := by decide +kernel
theorem dX9_reasonAgainstSink_57 : decode cX9_reasonAgainstSink 57 = .ok (.iload_n 2, 1) := by decide +kernel
theorem dX9_reasonAgainstSink_58 : decode cX9_reasonAgainstSink 58 = .ok (.invokevirtual 443, 3) := by decide +kernel
theorem dX9_reasonAgainstSink_61 : decode cX9_reasonAgainstSink 61 = .ok (.goto 4, 3) := by decide +kernel
theorem dX9_reasonAgainstSink_64 : decode cX9_reasonAgainstSink 64 = .ok (.iconst 0, 1) := by decide +kernel
theorem dX9_reasonAgainstSink_65 : decode cX9_reasonAgainstSink 65 = .ok (.ireturn, 1) := by decide +kernel
theorem dX9_reasonAgainstNote_0 : decode cX9_reasonAgainstNote 0 = .ok (.iload_n 1, 1) := by decide +kernel
theorem dX9_reasonAgainstNote_1 : decode cX9_reasonAgainstNote 1 = .ok (.invokestatic 187, 3) := by decide +kernel
theorem dX9_reasonAgainstNote_4 : decode cX9_reasonAgainstNote 4 = .ok (.ifCond .ne 10, 3) := by decide +kernel
theorem dX9_reasonAgainstNote_7 : decode cX9_reasonAgainstNote 7 = .ok (.aload_n 0, 1) := by decide +kernel
theorem dX9_reasonAgainstNote_8 : decode cX9_reasonAgainstNote 8 = .ok (.iconst 2, 1) := by decide +kernel
theorem dX9_reasonAgainstNote_9 : decode cX9_reasonAgainstNote 9 = .ok (.iload_n 1, 1) := by decide +kernel
theorem dX9_reasonAgainstNote_10 : decode cX9_reasonAgainstNote 10 = .ok (.invokevirtual 443, 3) := by decide +kernel
theorem dX9_reasonAgainstNote_13 : decode cX9_reasonAgainstNote 13 = .ok (.ireturn, 1) := by decide +kernel
theorem dX9_reasonAgainstNote_14 : decode cX9_reasonAgainstNote 14 = .ok (.iload_n 2, 1) := by decide +kernel
theorem dX9_reasonAgainstNote_15 : decode cX9_reasonAgainstNote 15 = .ok (.invokestatic 190, 3) := by decide +kernel
theorem dX9_reasonAgainstNote_18 : decode cX9_reasonAgainstNote 18 = .ok (.ifCond .ne 10, 3) := by decide +kernel
theorem dX9_reasonAgainstNote_21 : decode cX9_reasonAgainstNote 21 = .ok (.aload_n 0, 1) := by decide +kernel
theorem dX9_reasonAgainstNote_22 : decode cX9_reasonAgainstNote 22 = .ok (.iconst 2, 1) := by decide +kernel
theorem dX9_reasonAgainstNote_23 : decode cX9_reasonAgainstNote 23 = .ok (.iload_n 2, 1) := by decide +kernel
theorem dX9_reasonAgainstNote_24 : decode cX9_reasonAgainstNote 24 = .ok (.invokevirtual 443, 3) := by decide +kernel
theorem dX9_reasonAgainstNote_27 : decode cX9_reasonAgainstNote 27 = .ok (.ireturn, 1) := by decide +kernel
theorem dX9_reasonAgainstNote_28 : decode cX9_reasonAgainstNote 28 = .ok (.aload_n 0, 1) := by decide +kernel
theorem dX9_reasonAgainstNote_29 : decode cX9_reasonAgainstNote 29 = .ok (.getfield 12, 3) := by decide +kernel
theorem dX9_reasonAgainstNote_32 : decode cX9_reasonAgainstNote 32 = .ok (.iload_n 1, 1) := by decide +kernel
theorem dX9_reasonAgainstNote_33 : decode cX9_reasonAgainstNote 33 = .ok (.invokevirtual 87, 3) := by decide +kernel
theorem dX9_reasonAgainstNote_36 : decode cX9_reasonAgainstNote 36 = .ok (.iload_n 2, 1) := by decide +kernel
theorem dX9_reasonAgainstNote_37 : decode cX9_reasonAgainstNote 37 = .ok (.invokevirtual 241, 3) := by decide +kernel
theorem dX9_reasonAgainstNote_40 : decode cX9_reasonAgainstNote 40 = .ok (.istore_n 3, 1) := by decide +kernel
theorem dX9_reasonAgainstNote_41 : decode cX9_reasonAgainstNote 41 = .ok (.iload_n 3, 1) := by decide +kernel
theorem dX9_reasonAgainstNote_42 : decode cX9_reasonAgainstNote 42 = .ok (.ifCond .ne 11, 3) := by decide +kernel
theorem dX9_reasonAgainstNote_45 : decode cX9_reasonAgainstNote 45 = .ok (.aload_n 0, 1) := by decide +kernel
theorem dX9_reasonAgainstNote_46 : decode cX9_reasonAgainstNote 46 = .ok (.bipush 7, 2) := by decide +kernel
theorem dX9_reasonAgainstNote_48 : decode cX9_reasonAgainstNote 48 = .ok (.iload_n 2, 1) := by decide +kernel
theorem dX9_reasonAgainstNote_49 : decode cX9_reasonAgainstNote 49 = .ok (.invokevirtual 443, 3) := by decide +kernel
theorem dX9_reasonAgainstNote_52 : decode cX9_reasonAgainstNote 52 = .ok (.ireturn, 1) := by decide +kernel
theorem dX9_reasonAgainstNote_53 : decode cX9_reasonAgainstNote 53 = .ok (.aload_n 0, 1) := by decide +kernel
theorem dX9_reasonAgainstNote_54 : decode cX9_reasonAgainstNote 54 = .ok (.getfield 12, 3) := by decide +kernel
theorem dX9_reasonAgainstNote_57 : decode cX9_reasonAgainstNote 57 = .ok (.iload_n 1, 1) := by decide +kernel
theorem dX9_reasonAgainstNote_58 : decode cX9_reasonAgainstNote 58 = .ok (.iload_n 3, 1) := by decide +kernel
theorem dX9_reasonAgainstNote_59 : decode cX9_reasonAgainstNote 59 = .ok (.invokevirtual 461, 3) := by decide +kernel
theorem dX9_reasonAgainstNote_62 : decode cX9_reasonAgainstNote 62 = .ok (.istore 4, 2) := by decide +kernel
theorem dX9_reasonAgainstNote_64 : decode cX9_reasonAgainstNote 64 = .ok (.iload 4, 2) := by decide +kernel
theorem dX9_reasonAgainstNote_66 : decode cX9_reasonAgainstNote 66 = .ok (.iconst (-1), 1) := by decide +kernel
theorem dX9_reasonAgainstNote_67 : decode cX9_reasonAgainstNote 67 = .ok (.if_icmp .eq 12, 3) := by decide +kernel
theorem dX9_reasonAgainstNote_70 : decode cX9_reasonAgainstNote 70 = .ok (.aload_n 0, 1) := by decide +kernel
theorem dX9_reasonAgainstNote_71 : decode cX9_reasonAgainstNote 71 = .ok (.bipush 8, 2) := by decide +kernel
theorem dX9_reasonAgainstNote_73 : decode cX9_reasonAgainstNote 73 = .ok (.iload 4, 2) := by decide +kernel
theorem dX9_reasonAgainstNote_75 : decode cX9_reasonAgainstNote 75 = .ok (.invokevirtual 443, 3) := by decide +kernel
theorem dX9_reasonAgainstNote_78 : decode cX9_reasonAgainstNote 78 = .ok (.ireturn, 1) := by decide +kernel
theorem dX9_reasonAgainstNote_79 : decode cX9_reasonAgainstNote 79 = .ok (.aload_n 0, 1) := by decide +kernel
theorem dX9_reasonAgainstNote_80 : decode cX9_reasonAgainstNote 80 = .ok (.getfield 12, 3) := by decide +kernel
theorem dX9_reasonAgainstNote_83 : decode cX9_reasonAgainstNote 83 = .ok (.getfield 176, 3) := by decide +kernel
theorem dX9_reasonAgainstNote_86 : decode cX9_reasonAgainstNote 86 = .ok (.bipush 6, 2) := by decide +kernel
theorem dX9_reasonAgainstNote_88 : decode cX9_reasonAgainstNote 88 = .ok (.if_icmp .lt 18, 3) := by decide +kernel
theorem dX9_reasonAgainstNote_91 : decode cX9_reasonAgainstNote 91 = .ok (.aload_n 0, 1) := by decide +kernel
theorem dX9_reasonAgainstNote_92 : decode cX9_reasonAgainstNote 92 = .ok (.iconst 1, 1) := by decide +kernel
theorem dX9_reasonAgainstNote_93 : decode cX9_reasonAgainstNote 93 = .ok (.aload_n 0, 1) := by decide +kernel
theorem dX9_reasonAgainstNote_94 : decode cX9_reasonAgainstNote 94 = .ok (.getfield 12, 3) := by decide +kernel
theorem dX9_reasonAgainstNote_97 : decode cX9_reasonAgainstNote 97 = .ok (.getfield 176, 3) := by decide +kernel
theorem dX9_reasonAgainstNote_100 : decode cX9_reasonAgainstNote 100 = .ok (.invokevirtual 443, 3) := by decide +kernel
theorem dX9_reasonAgainstNote_103 : decode cX9_reasonAgainstNote 103 = .ok (.goto 4, 3) := by decide +kernel
theorem dX9_reasonAgainstNote_106 : decode cX9_reasonAgainstNote 106 = .ok (.iconst 0, 1) := by decide +kernel
theorem dX9_reasonAgainstNote_107 : decode cX9_reasonAgainstNote 107 = .ok (.ireturn, 1) := by decide +kernel
theorem dX9_reasonAgainstDrop_0 : decode cX9_reasonAgainstDrop 0 = .ok (.aload_n 0, 1) := by decide +kernel
theorem dX9_reasonAgainstDrop_1 : decode cX9_reasonAgainstDrop 1 = .ok (.getfield 12, 3) := by decide +kernel
theorem dX9_reasonAgainstDrop_4 : decode cX9_reasonAgainstDrop 4 = .ok (.iload_n 1, 1) := by decide +kernel
theorem dX9_reasonAgainstDrop_5 : decode cX9_reasonAgainstDrop 5 = .ok (.invokevirtual 252, 3) := by decide +kernel
theorem dX9_reasonAgainstDrop_8 : decode cX9_reasonAgainstDrop 8 = .ok (.ifCond .eq 7, 3) := by decide +kernel
theorem dX9_reasonAgainstDrop_11 : decode cX9_reasonAgainstDrop 11 = .ok (.iconst 0, 1) := by decide +kernel
theorem dX9_reasonAgainstDrop_12 : decode cX9_reasonAgainstDrop 12 = .ok (.goto 9, 3) := by decide +kernel
theorem dX9_reasonAgainstDrop_15 : decode cX9_reasonAgainstDrop 15 = .ok (.aload_n 0, 1) := by decide +kernel
theorem dX9_reasonAgainstDrop_16 : decode cX9_reasonAgainstDrop 16 = .ok (.iconst 2, 1) := by decide +kernel
theorem dX9_reasonAgainstDrop_17 : decode cX9_reasonAgainstDrop 17 = .ok (.iload_n 1, 1) := by decide +kernel
theorem dX9_reasonAgainstDrop_18 : decode cX9_reasonAgainstDrop 18 = .ok (.invokevirtual 443, 3) := by decide +kernel
theorem dX9_reasonAgainstDrop_21 : decode cX9_reasonAgainstDrop 21 = .ok (.ireturn, 1) := by decide +kernel
theorem dX9_reasonAgainstOrder_0 : decode cX9_reasonAgainstOrder 0 = .ok (.aload_n 0, 1) := by decide +kernel
theorem dX9_reasonAgainstOrder_1 : decode cX9_reasonAgainstOrder 1 = .ok (.getfield 43, 3) := by decide +kernel
theorem dX9_reasonAgainstOrder_4 : decode cX9_reasonAgainstOrder 4 = .ok (.iload_n 1, 1) := by decide +kernel
theorem dX9_reasonAgainstOrder_5 : decode cX9_reasonAgainstOrder 5 = .ok (.iconst 0, 1) := by decide +kernel
theorem dX9_reasonAgainstOrder_6 : decode cX9_reasonAgainstOrder 6 = .ok (.invokevirtual 464, 3) := by decide +kernel
theorem dX9_reasonAgainstOrder_9 : decode cX9_reasonAgainstOrder 9 = .ok (.istore_n 2, 1) := by decide +kernel
theorem dX9_reasonAgainstOrder_10 : decode cX9_reasonAgainstOrder 10 = .ok (.aload_n 0, 1) := by decide +kernel
theorem dX9_reasonAgainstOrder_11 : decode cX9_reasonAgainstOrder 11 = .ok (.getfield 43, 3) := by decide +kernel
theorem dX9_reasonAgainstOrder_14 : decode cX9_reasonAgainstOrder 14 = .ok (.iload_n 1, 1) := by decide +kernel
theorem dX9_reasonAgainstOrder_15 : decode cX9_reasonAgainstOrder 15 = .ok (.iconst 1, 1) := by decide +kernel
theorem dX9_reasonAgainstOrder_16 : decode cX9_reasonAgainstOrder 16 = .ok (.invokevirtual 464, 3) := by decide +kernel
theorem dX9_reasonAgainstOrder_19 : decode cX9_reasonAgainstOrder 19 = .ok (.istore_n 3, 1) := by decide +kernel
theorem dX9_reasonAgainstOrder_20 : decode cX9_reasonAgainstOrder 20 = .ok (.aload_n 0, 1) := by decide +kernel
theorem dX9_reasonAgainstOrder_21 : decode cX9_reasonAgainstOrder 21 = .ok (.getfield 43, 3) := by decide +kernel
theorem dX9_reasonAgainstOrder_24 : decode cX9_reasonAgainstOrder 24 = .ok (.iload_n 1, 1) := by decide +kernel
theorem dX9_reasonAgainstOrder_25 : decode cX9_reasonAgainstOrder 25 = .ok (.iconst 2, 1) := by decide +kernel
theorem dX9_reasonAgainstOrder_26 : decode cX9_reasonAgainstOrder 26 = .ok (.invokevirtual 464, 3) := by decide +kernel
theorem dX9_reasonAgainstOrder_29 : decode cX9_reasonAgainstOrder 29 = .ok (.istore 4, 2) := by decide +kernel
theorem dX9_reasonAgainstOrder_31 : decode cX9_reasonAgainstOrder 31 = .ok (.aload_n 0, 1) := by decide +kernel
theorem dX9_reasonAgainstOrder_32 : decode cX9_reasonAgainstOrder 32 = .ok (.getfield 43, 3) := by decide +kernel
theorem dX9_reasonAgainstOrder_35 : decode cX9_reasonAgainstOrder 35 = .ok (.iload_n 1, 1) := by decide +kernel
theorem dX9_reasonAgainstOrder_36 : decode cX9_reasonAgainstOrder 36 = .ok (.invokevirtual 467, 3) := by decide +kernel
theorem dX9_reasonAgainstOrder_39 : decode cX9_reasonAgainstOrder 39 = .ok (.tableswitch 103 0 6 #[41, 50, 59, 77, 83, 89, 96], 41) := by decide +kernel
theorem dX9_reasonAgainstOrder_80 : decode cX9_reasonAgainstOrder 80 = .ok (.aload_n 0, 1) := by decide +kernel
theorem dX9_reasonAgainstOrder_81 : decode cX9_reasonAgainstOrder 81 = .ok (.iload_n 2, 1) := by decide +kernel
theorem dX9_reasonAgainstOrder_82 : decode cX9_reasonAgainstOrder 82 = .ok (.iload_n 3, 1) := by decide +kernel
theorem dX9_reasonAgainstOrder_83 : decode cX9_reasonAgainstOrder 83 = .ok (.iload 4, 2) := by decide +kernel
theorem dX9_reasonAgainstOrder_85 : decode cX9_reasonAgainstOrder 85 = .ok (.invokevirtual 68, 3) := by decide +kernel
theorem dX9_reasonAgainstOrder_88 : decode cX9_reasonAgainstOrder 88 = .ok (.ireturn, 1) := by decide +kernel
theorem dX9_reasonAgainstOrder_89 : decode cX9_reasonAgainstOrder 89 = .ok (.aload_n 0, 1) := by decide +kernel
theorem dX9_reasonAgainstOrder_90 : decode cX9_reasonAgainstOrder 90 = .ok (.iload_n 2, 1) := by decide +kernel
theorem dX9_reasonAgainstOrder_91 : decode cX9_reasonAgainstOrder 91 = .ok (.iload_n 3, 1) := by decide +kernel
theorem dX9_reasonAgainstOrder_92 : decode cX9_reasonAgainstOrder 92 = .ok (.iload 4, 2) := by decide +kernel
theorem dX9_reasonAgainstOrder_94 : decode cX9_reasonAgainstOrder 94 = .ok (.invokevirtual 101, 3) := by decide +kernel
theorem dX9_reasonAgainstOrder_97 : decode cX9_reasonAgainstOrder 97 = .ok (.ireturn, 1) := by decide +kernel
theorem dX9_reasonAgainstOrder_98 : decode cX9_reasonAgainstOrder 98 = .ok (.aload_n 0, 1) := by decide +kernel
theorem dX9_reasonAgainstOrder_99 : decode cX9_reasonAgainstOrder 99 = .ok (.iload_n 2, 1) := by decide +kernel
theorem dX9_reasonAgainstOrder_100 : decode cX9_reasonAgainstOrder 100 = .ok (.iload_n 3, 1) := by decide +kernel
theorem dX9_reasonAgainstOrder_101 : decode cX9_reasonAgainstOrder 101 = .ok (.iload 4, 2) := by decide +kernel
theorem dX9_reasonAgainstOrder_103 : decode cX9_reasonAgainstOrder 103 = .ok (.aload_n 0, 1) := by decide +kernel
theorem dX9_reasonAgainstOrder_104 : decode cX9_reasonAgainstOrder 104 = .ok (.getfield 43, 3) := by decide +kernel
theorem dX9_reasonAgainstOrder_107 : decode cX9_reasonAgainstOrder 107 = .ok (.iload_n 1, 1) := by decide +kernel
theorem dX9_reasonAgainstOrder_108 : decode cX9_reasonAgainstOrder 108 = .ok (.iconst 3, 1) := by decide +kernel
theorem dX9_reasonAgainstOrder_109 : decode cX9_reasonAgainstOrder 109 = .ok (.invokevirtual 464, 3) := by decide +kernel
theorem dX9_reasonAgainstOrder_112 : decode cX9_reasonAgainstOrder 112 = .ok (.invokevirtual 114, 3) := by decide +kernel
theorem dX9_reasonAgainstOrder_115 : decode cX9_reasonAgainstOrder 115 = .ok (.ireturn, 1) := by decide +kernel
theorem dX9_reasonAgainstOrder_116 : decode cX9_reasonAgainstOrder 116 = .ok (.aload_n 0, 1) := by decide +kernel
theorem dX9_reasonAgainstOrder_117 : decode cX9_reasonAgainstOrder 117 = .ok (.iload_n 2, 1) := by decide +kernel
theorem dX9_reasonAgainstOrder_118 : decode cX9_reasonAgainstOrder 118 = .ok (.invokevirtual 133, 3) := by decide +kernel
theorem dX9_reasonAgainstOrder_121 : decode cX9_reasonAgainstOrder 121 = .ok (.ireturn, 1) := by decide +kernel
theorem dX9_reasonAgainstOrder_122 : decode cX9_reasonAgainstOrder 122 = .ok (.aload_n 0, 1) := by decide +kernel
theorem dX9_reasonAgainstOrder_123 : decode cX9_reasonAgainstOrder 123 = .ok (.iload_n 2, 1) := by decide +kernel
theorem dX9_reasonAgainstOrder_124 : decode cX9_reasonAgainstOrder 124 = .ok (.invokevirtual 145, 3) := by decide +kernel
theorem dX9_reasonAgainstOrder_127 : decode cX9_reasonAgainstOrder 127 = .ok (.ireturn, 1) := by decide +kernel
theorem dX9_reasonAgainstOrder_128 : decode cX9_reasonAgainstOrder 128 = .ok (.aload_n 0, 1) := by decide +kernel
theorem dX9_reasonAgainstOrder_129 : decode cX9_reasonAgainstOrder 129 = .ok (.iload_n 2, 1) := by decide +kernel
theorem dX9_reasonAgainstOrder_130 : decode cX9_reasonAgainstOrder 130 = .ok (.iload_n 3, 1) := by decide +kernel
theorem dX9_reasonAgainstOrder_131 : decode cX9_reasonAgainstOrder 131 = .ok (.invokevirtual 156, 3) := by decide +kernel
theorem dX9_reasonAgainstOrder_134 : decode cX9_reasonAgainstOrder 134 = .ok (.ireturn, 1) := by decide +kernel
theorem dX9_reasonAgainstOrder_135 : decode cX9_reasonAgainstOrder 135 = .ok (.aload_n 0, 1) := by decide +kernel
theorem dX9_reasonAgainstOrder_136 : decode cX9_reasonAgainstOrder 136 = .ok (.iload_n 2, 1) := by decide +kernel
theorem dX9_reasonAgainstOrder_137 : decode cX9_reasonAgainstOrder 137 = .ok (.iload_n 3, 1) := by decide +kernel
theorem dX9_reasonAgainstOrder_138 : decode cX9_reasonAgainstOrder 138 = .ok (.invokevirtual 168, 3) := by decide +kernel
theorem dX9_reasonAgainstOrder_141 : decode cX9_reasonAgainstOrder 141 = .ok (.ireturn, 1) := by decide +kernel
theorem dX9_reasonAgainstOrder_142 : decode cX9_reasonAgainstOrder 142 = .ok (.aload_n 0, 1) := by decide +kernel
theorem dX9_reasonAgainstOrder_143 : decode cX9_reasonAgainstOrder 143 = .ok (.iload_n 2, 1) := by decide +kernel
theorem dX9_reasonAgainstOrder_144 : decode cX9_reasonAgainstOrder 144 = .ok (.invokevirtual 179, 3) := by decide +kernel
theorem dX9_reasonAgainstOrder_147 : decode cX9_reasonAgainstOrder 147 = .ok (.ireturn, 1) := by decide +kernel
theorem dX9_doOrder_0 : decode cX9_doOrder 0 = .ok (.aload_n 0, 1) := by decide +kernel
theorem dX9_doOrder_1 : decode cX9_doOrder 1 = .ok (.getfield 43, 3) := by decide +kernel
theorem dX9_doOrder_4 : decode cX9_doOrder 4 = .ok (.iload_n 1, 1) := by decide +kernel
theorem dX9_doOrder_5 : decode cX9_doOrder 5 = .ok (.iconst 0, 1) := by decide +kernel
theorem dX9_doOrder_6 : decode cX9_doOrder 6 = .ok (.invokevirtual 464, 3) := by decide +kernel
theorem dX9_doOrder_9 : decode cX9_doOrder 9 = .ok (.istore_n 2, 1) := by decide +kernel
theorem dX9_doOrder_10 : decode cX9_doOrder 10 = .ok (.aload_n 0, 1) := by decide +kernel
theorem dX9_doOrder_11 : decode cX9_doOrder 11 = .ok (.getfield 43, 3) := by decide +kernel
theorem dX9_doOrder_14 : decode cX9_doOrder 14 = .ok (.iload_n 1, 1) := by decide +kernel
theorem dX9_doOrder_15 : decode cX9_doOrder 15 = .ok (.iconst 1, 1) := by decide +kernel
theorem dX9_doOrder_16 : decode cX9_doOrder 16 = .ok (.invokevirtual 464, 3) := by decide +kernel
theorem dX9_doOrder_19 : decode cX9_doOrder 19 = .ok (.istore_n 3, 1) := by decide +kernel
theorem dX9_doOrder_20 : decode cX9_doOrder 20 = .ok (.aload_n 0, 1) := by decide +kernel
theorem dX9_doOrder_21 : decode cX9_doOrder 21 = .ok (.getfield 43, 3) := by decide +kernel
theorem dX9_doOrder_24 : decode cX9_doOrder 24 = .ok (.iload_n 1, 1) := by decide +kernel
theorem dX9_doOrder_25 : decode cX9_doOrder 25 = .ok (.iconst 2, 1) := by decide +kernel
theorem dX9_doOrder_26 : decode cX9_doOrder 26 = .ok (.invokevirtual 464, 3) := by decide +kernel
theorem dX9_doOrder_29 : decode cX9_doOrder 29 = .ok (.istore 4, 2) := by decide +kernel
theorem dX9_doOrder_31 : decode cX9_doOrder 31 = .ok (.aload_n 0, 1) := by decide +kernel
theorem dX9_doOrder_32 : decode cX9_doOrder 32 = .ok (.getfield 43, 3) := by decide +kernel
theorem dX9_doOrder_35 : decode cX9_doOrder 35 = .ok (.iload_n 1, 1) := by decide +kernel
theorem dX9_doOrder_36 : decode cX9_doOrder 36 = .ok (.invokevirtual 467, 3) := by decide +kernel
theorem dX9_doOrder_39 : decode cX9_doOrder 39 = .ok (.tableswitch 144 0 6 #[41, 58, 72, 95, 106, 117, 132], 41) := by decide +kernel
theorem dX9_doOrder_80 : decode cX9_doOrder 80 = .ok (.aload_n 0, 1) := by decide +kernel
theorem dX9_doOrder_81 : decode cX9_doOrder 81 = .ok (.getfield 12, 3) := by decide +kernel
theorem dX9_doOrder_84 : decode cX9_doOrder 84 = .ok (.iload_n 2, 1) := by decide +kernel
theorem dX9_doOrder_85 : decode cX9_doOrder 85 = .ok (.invokevirtual 87, 3) := by decide +kernel
theorem dX9_doOrder_88 : decode cX9_doOrder 88 = .ok (.iload_n 3, 1) := by decide +kernel
theorem dX9_doOrder_89 : decode cX9_doOrder 89 = .ok (.iload 4, 2) := by decide +kernel
theorem dX9_doOrder_91 : decode cX9_doOrder 91 = .ok (.invokevirtual 97, 3) := by decide +kernel
theorem dX9_doOrder_94 : decode cX9_doOrder 94 = .ok (.goto 97, 3) := by decide +kernel
theorem dX9_doOrder_97 : decode cX9_doOrder 97 = .ok (.aload_n 0, 1) := by decide +kernel
theorem dX9_doOrder_98 : decode cX9_doOrder 98 = .ok (.getfield 12, 3) := by decide +kernel
theorem dX9_doOrder_101 : decode cX9_doOrder 101 = .ok (.iload_n 2, 1) := by decide +kernel
theorem dX9_doOrder_102 : decode cX9_doOrder 102 = .ok (.iload_n 3, 1) := by decide +kernel
theorem dX9_doOrder_103 : decode cX9_doOrder 103 = .ok (.iload 4, 2) := by decide +kernel
theorem dX9_doOrder_105 : decode cX9_doOrder 105 = .ok (.invokevirtual 106, 3) := by decide +kernel
theorem dX9_doOrder_108 : decode cX9_doOrder 108 = .ok (.goto 83, 3) := by decide +kernel
theorem dX9_doOrder_111 : decode cX9_doOrder 111 = .ok (.aload_n 0, 1) := by decide +kernel
theorem dX9_doOrder_112 : decode cX9_doOrder 112 = .ok (.getfield 12, 3) := by decide +kernel
theorem dX9_doOrder_115 : decode cX9_doOrder 115 = .ok (.iload_n 2, 1) := by decide +kernel
theorem dX9_doOrder_116 : decode cX9_doOrder 116 = .ok (.iload_n 3, 1) := by decide +kernel
theorem dX9_doOrder_117 : decode cX9_doOrder 117 = .ok (.iload 4, 2) := by decide +kernel
theorem dX9_doOrder_119 : decode cX9_doOrder 119 = .ok (.aload_n 0, 1) := by decide +kernel
theorem dX9_doOrder_120 : decode cX9_doOrder 120 = .ok (.getfield 43, 3) := by decide +kernel
theorem dX9_doOrder_123 : decode cX9_doOrder 123 = .ok (.iload_n 1, 1) := by decide +kernel
theorem dX9_doOrder_124 : decode cX9_doOrder 124 = .ok (.iconst 3, 1) := by decide +kernel
theorem dX9_doOrder_125 : decode cX9_doOrder 125 = .ok (.invokevirtual 464, 3) := by decide +kernel
theorem dX9_doOrder_128 : decode cX9_doOrder 128 = .ok (.invokevirtual 120, 3) := by decide +kernel
theorem dX9_doOrder_131 : decode cX9_doOrder 131 = .ok (.goto 60, 3) := by decide +kernel
theorem dX9_doOrder_134 : decode cX9_doOrder 134 = .ok (.aload_n 0, 1) := by decide +kernel
theorem dX9_doOrder_135 : decode cX9_doOrder 135 = .ok (.getfield 12, 3) := by decide +kernel
theorem dX9_doOrder_138 : decode cX9_doOrder 138 = .ok (.iload_n 2, 1) := by decide +kernel
theorem dX9_doOrder_139 : decode cX9_doOrder 139 = .ok (.invokevirtual 138, 3) := by decide +kernel
theorem dX9_doOrder_142 : decode cX9_doOrder 142 = .ok (.goto 49, 3) := by decide +kernel
theorem dX9_doOrder_145 : decode cX9_doOrder 145 = .ok (.aload_n 0, 1) := by decide +kernel
theorem dX9_doOrder_146 : decode cX9_doOrder 146 = .ok (.getfield 12, 3) := by decide +kernel
theorem dX9_doOrder_149 : decode cX9_doOrder 149 = .ok (.iload_n 2, 1) := by decide +kernel
theorem dX9_doOrder_150 : decode cX9_doOrder 150 = .ok (.putfield 150, 3) := by decide +kernel
theorem dX9_doOrder_153 : decode cX9_doOrder 153 = .ok (.goto 38, 3) := by decide +kernel
theorem dX9_doOrder_156 : decode cX9_doOrder 156 = .ok (.aload_n 0, 1) := by decide +kernel
theorem dX9_doOrder_157 : decode cX9_doOrder 157 = .ok (.getfield 12, 3) := by decide +kernel
theorem dX9_doOrder_160 : decode cX9_doOrder 160 = .ok (.iload_n 2, 1) := by decide +kernel
theorem dX9_doOrder_161 : decode cX9_doOrder 161 = .ok (.invokevirtual 87, 3) := by decide +kernel
theorem dX9_doOrder_164 : decode cX9_doOrder 164 = .ok (.iload_n 3, 1) := by decide +kernel
theorem dX9_doOrder_165 : decode cX9_doOrder 165 = .ok (.putfield 162, 3) := by decide +kernel
theorem dX9_doOrder_168 : decode cX9_doOrder 168 = .ok (.goto 23, 3) := by decide +kernel
theorem dX9_doOrder_171 : decode cX9_doOrder 171 = .ok (.aload_n 0, 1) := by decide +kernel
theorem dX9_doOrder_172 : decode cX9_doOrder 172 = .ok (.getfield 12, 3) := by decide +kernel
theorem dX9_doOrder_175 : decode cX9_doOrder 175 = .ok (.iload_n 2, 1) := by decide +kernel
theorem dX9_doOrder_176 : decode cX9_doOrder 176 = .ok (.iload_n 3, 1) := by decide +kernel
theorem dX9_doOrder_177 : decode cX9_doOrder 177 = .ok (.invokevirtual 173, 3) := by decide +kernel
theorem dX9_doOrder_180 : decode cX9_doOrder 180 = .ok (.goto 11, 3) := by decide +kernel
theorem dX9_doOrder_183 : decode cX9_doOrder 183 = .ok (.aload_n 0, 1) := by decide +kernel
theorem dX9_doOrder_184 : decode cX9_doOrder 184 = .ok (.getfield 12, 3) := by decide +kernel
theorem dX9_doOrder_187 : decode cX9_doOrder 187 = .ok (.iload_n 2, 1) := by decide +kernel
theorem dX9_doOrder_188 : decode cX9_doOrder 188 = .ok (.invokevirtual 184, 3) := by decide +kernel
theorem dX9_doOrder_191 : decode cX9_doOrder 191 = .ok (.return_, 1) := by decide +kernel
theorem dX9_isNet_0 : decode cX9_isNet 0 = .ok (.iload_n 0, 1) := by decide +kernel
theorem dX9_isNet_1 : decode cX9_isNet 1 = .ok (.ifCond .lt 12, 3) := by decide +kernel
theorem dX9_isNet_4 : decode cX9_isNet 4 = .ok (.iload_n 0, 1) := by decide +kernel
theorem dX9_isNet_5 : decode cX9_isNet 5 = .ok (.iconst 3, 1) := by decide +kernel
theorem dX9_isNet_6 : decode cX9_isNet 6 = .ok (.if_icmp .ge 7, 3) := by decide +kernel
theorem dX9_isNet_9 : decode cX9_isNet 9 = .ok (.iconst 1, 1) := by decide +kernel
theorem dX9_isNet_10 : decode cX9_isNet 10 = .ok (.goto 4, 3) := by decide +kernel
theorem dX9_isNet_13 : decode cX9_isNet 13 = .ok (.iconst 0, 1) := by decide +kernel
theorem dX9_isNet_14 : decode cX9_isNet 14 = .ok (.ireturn, 1) := by decide +kernel
theorem dX9_isPlace_0 : decode cX9_isPlace 0 = .ok (.iload_n 0, 1) := by decide +kernel
theorem dX9_isPlace_1 : decode cX9_isPlace 1 = .ok (.ifCond .lt 13, 3) := by decide +kernel
theorem dX9_isPlace_4 : decode cX9_isPlace 4 = .ok (.iload_n 0, 1) := by decide +kernel
theorem dX9_isPlace_5 : decode cX9_isPlace 5 = .ok (.bipush 24, 2) := by decide +kernel
theorem dX9_isPlace_7 : decode cX9_isPlace 7 = .ok (.if_icmp .ge 7, 3) := by decide +kernel
theorem dX9_isPlace_10 : decode cX9_isPlace 10 = .ok (.iconst 1, 1) := by decide +kernel
theorem dX9_isPlace_11 : decode cX9_isPlace 11 = .ok (.goto 4, 3) := by decide +kernel
theorem dX9_isPlace_14 : decode cX9_isPlace 14 = .ok (.iconst 0, 1) := by decide +kernel
theorem dX9_isPlace_15 : decode cX9_isPlace 15 = .ok (.ireturn, 1) := by decide +kernel
theorem dX9_areBeside_0 : decode cX9_areBeside 0 = .ok (.iload_n 0, 1) := by decide +kernel
theorem dX9_areBeside_1 : decode cX9_areBeside 1 = .ok (.invokestatic 190, 3) := by decide +kernel
theorem dX9_areBeside_4 : decode cX9_areBeside 4 = .ok (.ifCond .eq 10, 3) := by decide +kernel
theorem dX9_areBeside_7 : decode cX9_areBeside 7 = .ok (.iload_n 1, 1) := by decide +kernel
theorem dX9_areBeside_8 : decode cX9_areBeside 8 = .ok (.invokestatic 190, 3) := by decide +kernel
theorem dX9_areBeside_11 : decode cX9_areBeside 11 = .ok (.ifCond .ne 5, 3) := by decide +kernel
theorem dX9_areBeside_14 : decode cX9_areBeside 14 = .ok (.iconst 0, 1) := by decide +kernel
theorem dX9_areBeside_15 : decode cX9_areBeside 15 = .ok (.ireturn, 1) := by decide +kernel
theorem dX9_areBeside_16 : decode cX9_areBeside 16 = .ok (.iload_n 0, 1) := by decide +kernel
theorem dX9_areBeside_17 : decode cX9_areBeside 17 = .ok (.iload_n 1, 1) := by decide +kernel
theorem dX9_areBeside_18 : decode cX9_areBeside 18 = .ok (.invokestatic 470, 3) := by decide +kernel
theorem dX9_areBeside_21 : decode cX9_areBeside 21 = .ok (.istore_n 2, 1) := by decide +kernel
theorem dX9_areBeside_22 : decode cX9_areBeside 22 = .ok (.iload_n 0, 1) := by decide +kernel
theorem dX9_areBeside_23 : decode cX9_areBeside 23 = .ok (.iload_n 1, 1) := by decide +kernel
theorem dX9_areBeside_24 : decode cX9_areBeside 24 = .ok (.invokestatic 446, 3) := by decide +kernel
theorem dX9_areBeside_27 : decode cX9_areBeside 27 = .ok (.iload_n 2, 1) := by decide +kernel
theorem dX9_areBeside_28 : decode cX9_areBeside 28 = .ok (.isub, 1) := by decide +kernel
theorem dX9_areBeside_29 : decode cX9_areBeside 29 = .ok (.istore_n 3, 1) := by decide +kernel
theorem dX9_areBeside_30 : decode cX9_areBeside 30 = .ok (.iload_n 3, 1) := by decide +kernel
theorem dX9_areBeside_31 : decode cX9_areBeside 31 = .ok (.iconst 1, 1) := by decide +kernel
theorem dX9_areBeside_32 : decode cX9_areBeside 32 = .ok (.if_icmp .ne 13, 3) := by decide +kernel
theorem dX9_areBeside_35 : decode cX9_areBeside 35 = .ok (.ldc_w 473, 3) := by decide +kernel
theorem dX9_areBeside_38 : decode cX9_areBeside 38 = .ok (.iload_n 2, 1) := by decide +kernel
theorem dX9_areBeside_39 : decode cX9_areBeside 39 = .ok (.invokestatic 474, 3) := by decide +kernel
theorem dX9_areBeside_42 : decode cX9_areBeside 42 = .ok (.ifCond .ne 9, 3) := by decide +kernel
theorem dX9_areBeside_45 : decode cX9_areBeside 45 = .ok (.iload_n 3, 1) := by decide +kernel
theorem dX9_areBeside_46 : decode cX9_areBeside 46 = .ok (.bipush 6, 2) := by decide +kernel
theorem dX9_areBeside_48 : decode cX9_areBeside 48 = .ok (.if_icmp .ne 7, 3) := by decide +kernel
theorem dX9_areBeside_51 : decode cX9_areBeside 51 = .ok (.iconst 1, 1) := by decide +kernel
theorem dX9_areBeside_52 : decode cX9_areBeside 52 = .ok (.goto 4, 3) := by decide +kernel
theorem dX9_areBeside_55 : decode cX9_areBeside 55 = .ok (.iconst 0, 1) := by decide +kernel
theorem dX9_areBeside_56 : decode cX9_areBeside 56 = .ok (.ireturn, 1) := by decide +kernel
theorem dX9_isAcross_0 : decode cX9_isAcross 0 = .ok (.iload_n 0, 1) := by decide +kernel
theorem dX9_isAcross_1 : decode cX9_isAcross 1 = .ok (.iload_n 1, 1) := by decide +kernel
theorem dX9_isAcross_2 : decode cX9_isAcross 2 = .ok (.invokestatic 446, 3) := by decide +kernel
theorem dX9_isAcross_5 : decode cX9_isAcross 5 = .ok (.iload_n 0, 1) := by decide +kernel
theorem dX9_isAcross_6 : decode cX9_isAcross 6 = .ok (.iload_n 1, 1) := by decide +kernel
theorem dX9_isAcross_7 : decode cX9_isAcross 7 = .ok (.invokestatic 470, 3) := by decide +kernel
theorem dX9_isAcross_10 : decode cX9_isAcross 10 = .ok (.isub, 1) := by decide +kernel
theorem dX9_isAcross_11 : decode cX9_isAcross 11 = .ok (.iconst 1, 1) := by decide +kernel
theorem dX9_isAcross_12 : decode cX9_isAcross 12 = .ok (.if_icmp .ne 7, 3) := by decide +kernel
theorem dX9_isAcross_15 : decode cX9_isAcross 15 = .ok (.iconst 1, 1) := by decide +kernel
theorem dX9_isAcross_16 : decode cX9_isAcross 16 = .ok (.goto 4, 3) := by decide +kernel
theorem dX9_isAcross_19 : decode cX9_isAcross 19 = .ok (.iconst 0, 1) := by decide +kernel
theorem dX9_isAcross_20 : decode cX9_isAcross 20 = .ok (.ireturn, 1) := by decide +kernel
theorem dX9_twineFor_0 : decode cX9_twineFor 0 = .ok (.iload_n 0, 1) := by decide +kernel
theorem dX9_twineFor_1 : decode cX9_twineFor 1 = .ok (.iload_n 1, 1) := by decide +kernel
theorem dX9_twineFor_2 : decode cX9_twineFor 2 = .ok (.invokestatic 477, 3) := by decide +kernel
theorem dX9_twineFor_5 : decode cX9_twineFor 5 = .ok (.ifCond .eq 7, 3) := by decide +kernel
theorem dX9_twineFor_8 : decode cX9_twineFor 8 = .ok (.iconst 1, 1) := by decide +kernel
theorem dX9_twineFor_9 : decode cX9_twineFor 9 = .ok (.goto 4, 3) := by decide +kernel
theorem dX9_twineFor_12 : decode cX9_twineFor 12 = .ok (.iconst 2, 1) := by decide +kernel
theorem dX9_twineFor_13 : decode cX9_twineFor 13 = .ok (.ireturn, 1) := by decide +kernel
theorem dX9_isIn_0 : decode cX9_isIn 0 = .ok (.iload_n 0, 1) := by decide +kernel
theorem dX9_isIn_1 : decode cX9_isIn 1 = .ok (.iload_n 1, 1) := by decide +kernel
theorem dX9_isIn_2 : decode cX9_isIn 2 = .ok (.ishr, 1) := by decide +kernel
theorem dX9_isIn_3 : decode cX9_isIn 3 = .ok (.iconst 1, 1) := by decide +kernel
theorem dX9_isIn_4 : decode cX9_isIn 4 = .ok (.iand, 1) := by decide +kernel
theorem dX9_isIn_5 : decode cX9_isIn 5 = .ok (.ifCond .eq 7, 3) := by decide +kernel
theorem dX9_isIn_8 : decode cX9_isIn 8 = .ok (.iconst 1, 1) := by decide +kernel
theorem dX9_isIn_9 : decode cX9_isIn 9 = .ok (.goto 4, 3) := by decide +kernel
theorem dX9_isIn_12 : decode cX9_isIn 12 = .ok (.iconst 0, 1) := by decide +kernel
theorem dX9_isIn_13 : decode cX9_isIn 13 = .ok (.ireturn, 1) := by decide +kernel
theorem dX9_with_0 : decode cX9_with 0 = .ok (.iload_n 2, 1) := by decide +kernel
theorem dX9_with_1 : decode cX9_with 1 = .ok (.ifCond .eq 11, 3) := by decide +kernel
theorem dX9_with_4 : decode cX9_with 4 = .ok (.iload_n 0, 1) := by decide +kernel
theorem dX9_with_5 : decode cX9_with 5 = .ok (.iconst 1, 1) := by decide +kernel
theorem dX9_with_6 : decode cX9_with 6 = .ok (.iload_n 1, 1) := by decide +kernel
theorem dX9_with_7 : decode cX9_with 7 = .ok (.ishl, 1) := by decide +kernel
theorem dX9_with_8 : decode cX9_with 8 = .ok (.ior, 1) := by decide +kernel
theorem dX9_with_9 : decode cX9_with 9 = .ok (.goto 10, 3) := by decide +kernel
theorem dX9_with_12 : decode cX9_with 12 = .ok (.iload_n 0, 1) := by decide +kernel
theorem dX9_with_13 : decode cX9_with 13 = .ok (.iconst 1, 1) := by decide +kernel
theorem dX9_with_14 : decode cX9_with 14 = .ok (.iload_n 1, 1) := by decide +kernel
theorem dX9_with_15 : decode cX9_with 15 = .ok (.ishl, 1) := by decide +kernel
theorem dX9_with_16 : decode cX9_with 16 = .ok (.iconst (-1), 1) := by decide +kernel
theorem dX9_with_17 : decode cX9_with 17 = .ok (.ixor, 1) := by decide +kernel
theorem dX9_with_18 : decode cX9_with 18 = .ok (.iand, 1) := by decide +kernel
theorem dX9_with_19 : decode cX9_with 19 = .ok (.ireturn, 1) := by decide +kernel
theorem dX9_lowestPlace_0 : decode cX9_lowestPlace 0 = .ok (.iload_n 0, 1) := by decide +kernel
theorem dX9_lowestPlace_1 : decode cX9_lowestPlace 1 = .ok (.iload_n 0, 1) := by decide +kernel
theorem dX9_lowestPlace_2 : decode cX9_lowestPlace 2 = .ok (.ineg, 1) := by decide +kernel
theorem dX9_lowestPlace_3 : decode cX9_lowestPlace 3 = .ok (.iand, 1) := by decide +kernel
theorem dX9_lowestPlace_4 : decode cX9_lowestPlace 4 = .ok (.iconst 1, 1) := by decide +kernel
theorem dX9_lowestPlace_5 : decode cX9_lowestPlace 5 = .ok (.isub, 1) := by decide +kernel
theorem dX9_lowestPlace_6 : decode cX9_lowestPlace 6 = .ok (.invokestatic 215, 3) := by decide +kernel
theorem dX9_lowestPlace_9 : decode cX9_lowestPlace 9 = .ok (.ireturn, 1) := by decide +kernel
theorem dX9_beside_0 : decode cX9_beside 0 = .ok (.iload_n 0, 1) := by decide +kernel
theorem dX9_beside_1 : decode cX9_beside 1 = .ok (.iload_n 1, 1) := by decide +kernel
theorem dX9_beside_2 : decode cX9_beside 2 = .ok (.iand, 1) := by decide +kernel
theorem dX9_beside_3 : decode cX9_beside 3 = .ok (.iconst 1, 1) := by decide +kernel
theorem dX9_beside_4 : decode cX9_beside 4 = .ok (.ishl, 1) := by decide +kernel
theorem dX9_beside_5 : decode cX9_beside 5 = .ok (.iload_n 0, 1) := by decide +kernel
theorem dX9_beside_6 : decode cX9_beside 6 = .ok (.iconst 1, 1) := by decide +kernel
theorem dX9_beside_7 : decode cX9_beside 7 = .ok (.ishr, 1) := by decide +kernel
theorem dX9_beside_8 : decode cX9_beside 8 = .ok (.iload_n 1, 1) := by decide +kernel
theorem dX9_beside_9 : decode cX9_beside 9 = .ok (.iand, 1) := by decide +kernel
theorem dX9_beside_10 : decode cX9_beside 10 = .ok (.ior, 1) := by decide +kernel
theorem dX9_beside_11 : decode cX9_beside 11 = .ok (.iload_n 0, 1) := by decide +kernel
theorem dX9_beside_12 : decode cX9_beside 12 = .ok (.iload_n 2, 1) := by decide +kernel
theorem dX9_beside_13 : decode cX9_beside 13 = .ok (.iand, 1) := by decide +kernel
theorem dX9_beside_14 : decode cX9_beside 14 = .ok (.bipush 6, 2) := by decide +kernel
theorem dX9_beside_16 : decode cX9_beside 16 = .ok (.ishl, 1) := by decide +kernel
theorem dX9_beside_17 : decode cX9_beside 17 = .ok (.ior, 1) := by decide +kernel
theorem dX9_beside_18 : decode cX9_beside 18 = .ok (.iload_n 0, 1) := by decide +kernel
theorem dX9_beside_19 : decode cX9_beside 19 = .ok (.bipush 6, 2) := by decide +kernel
theorem dX9_beside_21 : decode cX9_beside 21 = .ok (.ishr, 1) := by decide +kernel
theorem dX9_beside_22 : decode cX9_beside 22 = .ok (.iload_n 2, 1) := by decide +kernel
theorem dX9_beside_23 : decode cX9_beside 23 = .ok (.iand, 1) := by decide +kernel
theorem dX9_beside_24 : decode cX9_beside 24 = .ok (.ior, 1) := by decide +kernel
theorem dX9_beside_25 : decode cX9_beside 25 = .ok (.ireturn, 1) := by decide +kernel
theorem dX9_within_0 : decode cX9_within 0 = .ok (.iload_n 0, 1) := by decide +kernel
theorem dX9_within_1 : decode cX9_within 1 = .ok (.iload_n 0, 1) := by decide +kernel
theorem dX9_within_2 : decode cX9_within 2 = .ok (.iload_n 2, 1) := by decide +kernel
theorem dX9_within_3 : decode cX9_within 3 = .ok (.ishr, 1) := by decide +kernel
theorem dX9_within_4 : decode cX9_within 4 = .ok (.iand, 1) := by decide +kernel
theorem dX9_within_5 : decode cX9_within 5 = .ok (.iload_n 1, 1) := by decide +kernel
theorem dX9_within_6 : decode cX9_within 6 = .ok (.iand, 1) := by decide +kernel
theorem dX9_within_7 : decode cX9_within 7 = .ok (.ireturn, 1) := by decide +kernel
theorem dX9_letterOf_0 : decode cX9_letterOf 0 = .ok (.bipush 97, 2) := by decide +kernel
theorem dX9_letterOf_2 : decode cX9_letterOf 2 = .ok (.iload_n 0, 1) := by decide +kernel
theorem dX9_letterOf_3 : decode cX9_letterOf 3 = .ok (.iadd, 1) := by decide +kernel
theorem dX9_letterOf_4 : decode cX9_letterOf 4 = .ok (.iconst 1, 1) := by decide +kernel
theorem dX9_letterOf_5 : decode cX9_letterOf 5 = .ok (.isub, 1) := by decide +kernel
theorem dX9_letterOf_6 : decode cX9_letterOf 6 = .ok (.i2c, 1) := by decide +kernel
theorem dX9_letterOf_7 : decode cX9_letterOf 7 = .ok (.ireturn, 1) := by decide +kernel
theorem dJ5_init_d00df_0 : decode cJ5_init_d00df 0 = .ok (.aload_n 0, 1) := by decide +kernel
theorem dJ5_init_d00df_1 : decode cJ5_init_d00df 1 = .ok (.invokespecial 3, 3) := by decide +kernel
theorem dJ5_init_d00df_4 : decode cJ5_init_d00df 4 = .ok (.getstatic 18, 3) := by decide +kernel
theorem dJ5_init_d00df_7 : decode cJ5_init_d00df 7 = .ok (.ifCond .eq 18, 3) := by decide +kernel
theorem dJ5_init_d00df_10 : decode cJ5_init_d00df 10 = .ok (.aload_n 0, 1) := by decide +kernel
theorem dJ5_init_d00df_11 : decode cJ5_init_d00df 11 = .ok (.iload_n 1, 1) := by decide +kernel
theorem dJ5_init_d00df_12 : decode cJ5_init_d00df 12 = .ok (.newarray .byte, 2) := by decide +kernel
theorem dJ5_init_d00df_14 : decode cJ5_init_d00df 14 = .ok (.putfield 15, 3) := by decide +kernel
theorem dJ5_init_d00df_17 : decode cJ5_init_d00df 17 = .ok (.aload_n 0, 1) := by decide +kernel
theorem dJ5_init_d00df_18 : decode cJ5_init_d00df 18 = .ok (.iconst 0, 1) := by decide +kernel
theorem dJ5_init_d00df_19 : decode cJ5_init_d00df 19 = .ok (.putfield 22, 3) := by decide +kernel
theorem dJ5_init_d00df_22 : decode cJ5_init_d00df 22 = .ok (.goto 16, 3) := by decide +kernel
theorem dJ5_init_d00df_25 : decode cJ5_init_d00df 25 = .ok (.aload_n 0, 1) := by decide +kernel
theorem dJ5_init_d00df_26 : decode cJ5_init_d00df 26 = .ok (.iload_n 1, 1) := by decide +kernel
theorem dJ5_init_d00df_27 : decode cJ5_init_d00df 27 = .ok (.invokestatic 26, 3) := by decide +kernel
theorem dJ5_init_d00df_30 : decode cJ5_init_d00df 30 = .ok (.putfield 15, 3) := by decide +kernel
theorem dJ5_init_d00df_33 : decode cJ5_init_d00df 33 = .ok (.aload_n 0, 1) := by decide +kernel
theorem dJ5_init_d00df_34 : decode cJ5_init_d00df 34 = .ok (.iconst 1, 1) := by decide +kernel
theorem dJ5_init_d00df_35 : decode cJ5_init_d00df 35 = .ok (.putfield 22, 3) := by decide +kernel
theorem dJ5_init_d00df_38 : decode cJ5_init_d00df 38 = .ok (.return_, 1) := by decide +kernel
theorem dJ5_length_8abf5_0 : decode cJ5_length_8abf5 0 = .ok (.aload_n 0, 1) := by decide +kernel
theorem dJ5_length_8abf5_1 : decode cJ5_length_8abf5 1 = .ok (.getfield 79, 3) := by decide +kernel
theorem dJ5_length_8abf5_4 : decode cJ5_length_8abf5 4 = .ok (.ireturn, 1) := by decide +kernel
theorem dJ5_ensureCapacityInternal_d00df_0 : decode cJ5_ensureCapacityInternal_d00df 0 = .ok (.aload_n 0, 1) := by decide +kernel
theorem dJ5_ensureCapacityInternal_d00df_1 : decode cJ5_ensureCapacityInternal_d00df 1 = .ok (.getfield 15, 3) := by decide +kernel
theorem dJ5_ensureCapacityInternal_d00df_4 : decode cJ5_ensureCapacityInternal_d00df 4 = .ok (.arraylength, 1) := by decide +kernel
theorem dJ5_ensureCapacityInternal_d00df_5 : decode cJ5_ensureCapacityInternal_d00df 5 = .ok (.aload_n 0, 1) := by decide +kernel
theorem dJ5_ensureCapacityInternal_d00df_6 : decode cJ5_ensureCapacityInternal_d00df 6 = .ok (.getfield 22, 3) := by decide +kernel
theorem dJ5_ensureCapacityInternal_d00df_9 : decode cJ5_ensureCapacityInternal_d00df 9 = .ok (.ishr, 1) := by decide +kernel
theorem dJ5_ensureCapacityInternal_d00df_10 : decode cJ5_ensureCapacityInternal_d00df 10 = .ok (.istore_n 2, 1) := by decide +kernel
theorem dJ5_ensureCapacityInternal_d00df_11 : decode cJ5_ensureCapacityInternal_d00df 11 = .ok (.iload_n 1, 1) := by decide +kernel
theorem dJ5_ensureCapacityInternal_d00df_12 : decode cJ5_ensureCapacityInternal_d00df 12 = .ok (.iload_n 2, 1) := by decide +kernel
theorem dJ5_ensureCapacityInternal_d00df_13 : decode cJ5_ensureCapacityInternal_d00df 13 = .ok (.isub, 1) := by decide +kernel
theorem dJ5_ensureCapacityInternal_d00df_14 : decode cJ5_ensureCapacityInternal_d00df 14 = .ok (.ifCond .le 24, 3) := by decide +kernel
theorem dJ5_ensureCapacityInternal_d00df_17 : decode cJ5_ensureCapacityInternal_d00df 17 = .ok (.aload_n 0, 1) := by decide +kernel
theorem dJ5_ensureCapacityInternal_d00df_18 : decode cJ5_ensureCapacityInternal_d00df 18 = .ok (.aload_n 0, 1) := by decide +kernel
theorem dJ5_ensureCapacityInternal_d00df_19 : decode cJ5_ensureCapacityInternal_d00df 19 = .ok (.getfield 15, 3) := by decide +kernel
theorem dJ5_ensureCapacityInternal_d00df_22 : decode cJ5_ensureCapacityInternal_d00df 22 = .ok (.aload_n 0, 1) := by decide +kernel
theorem dJ5_ensureCapacityInternal_d00df_23 : decode cJ5_ensureCapacityInternal_d00df 23 = .ok (.iload_n 1, 1) := by decide +kernel
theorem dJ5_ensureCapacityInternal_d00df_24 : decode cJ5_ensureCapacityInternal_d00df 24 = .ok (.invokevirtual 104, 3) := by decide +kernel
theorem dJ5_ensureCapacityInternal_d00df_27 : decode cJ5_ensureCapacityInternal_d00df 27 = .ok (.aload_n 0, 1) := by decide +kernel
theorem dJ5_ensureCapacityInternal_d00df_28 : decode cJ5_ensureCapacityInternal_d00df 28 = .ok (.getfield 22, 3) := by decide +kernel
theorem dJ5_ensureCapacityInternal_d00df_31 : decode cJ5_ensureCapacityInternal_d00df 31 = .ok (.ishl, 1) := by decide +kernel
theorem dJ5_ensureCapacityInternal_d00df_32 : decode cJ5_ensureCapacityInternal_d00df 32 = .ok (.invokestatic 108, 3) := by decide +kernel
theorem dJ5_ensureCapacityInternal_d00df_35 : decode cJ5_ensureCapacityInternal_d00df 35 = .ok (.putfield 15, 3) := by decide +kernel
theorem dJ5_ensureCapacityInternal_d00df_38 : decode cJ5_ensureCapacityInternal_d00df 38 = .ok (.return_, 1) := by decide +kernel
theorem dJ5_newCapacity_0f7a4_0 : decode cJ5_newCapacity_0f7a4 0 = .ok (.aload_n 0, 1) := by decide +kernel
theorem dJ5_newCapacity_0f7a4_1 : decode cJ5_newCapacity_0f7a4 1 = .ok (.getfield 15, 3) := by decide +kernel
theorem dJ5_newCapacity_0f7a4_4 : decode cJ5_newCapacity_0f7a4 4 = .ok (.arraylength, 1) := by decide +kernel
theorem dJ5_newCapacity_0f7a4_5 : decode cJ5_newCapacity_0f7a4 5 = .ok (.istore_n 2, 1) := by decide +kernel
theorem dJ5_newCapacity_0f7a4_6 : decode cJ5_newCapacity_0f7a4 6 = .ok (.iload_n 1, 1) := by decide +kernel
theorem dJ5_newCapacity_0f7a4_7 : decode cJ5_newCapacity_0f7a4 7 = .ok (.aload_n 0, 1) := by decide +kernel
theorem dJ5_newCapacity_0f7a4_8 : decode cJ5_newCapacity_0f7a4 8 = .ok (.getfield 22, 3) := by decide +kernel
theorem dJ5_newCapacity_0f7a4_11 : decode cJ5_newCapacity_0f7a4 11 = .ok (.ishl, 1) := by decide +kernel
theorem dJ5_newCapacity_0f7a4_12 : decode cJ5_newCapacity_0f7a4 12 = .ok (.istore_n 3, 1) := by decide +kernel
theorem dJ5_newCapacity_0f7a4_13 : decode cJ5_newCapacity_0f7a4 13 = .ok (.iload_n 3, 1) := by decide +kernel
theorem dJ5_newCapacity_0f7a4_14 : decode cJ5_newCapacity_0f7a4 14 = .ok (.iload_n 2, 1) := by decide +kernel
theorem dJ5_newCapacity_0f7a4_15 : decode cJ5_newCapacity_0f7a4 15 = .ok (.isub, 1) := by decide +kernel
theorem dJ5_newCapacity_0f7a4_16 : decode cJ5_newCapacity_0f7a4 16 = .ok (.istore 4, 2) := by decide +kernel
theorem dJ5_newCapacity_0f7a4_18 : decode cJ5_newCapacity_0f7a4 18 = .ok (.iload_n 2, 1) := by decide +kernel
theorem dJ5_newCapacity_0f7a4_19 : decode cJ5_newCapacity_0f7a4 19 = .ok (.iload 4, 2) := by decide +kernel
theorem dJ5_newCapacity_0f7a4_21 : decode cJ5_newCapacity_0f7a4 21 = .ok (.iload_n 2, 1) := by decide +kernel
theorem dJ5_newCapacity_0f7a4_22 : decode cJ5_newCapacity_0f7a4 22 = .ok (.iconst 2, 1) := by decide +kernel
theorem dJ5_newCapacity_0f7a4_23 : decode cJ5_newCapacity_0f7a4 23 = .ok (.aload_n 0, 1) := by decide +kernel
theorem dJ5_newCapacity_0f7a4_24 : decode cJ5_newCapacity_0f7a4 24 = .ok (.getfield 22, 3) := by decide +kernel
theorem dJ5_newCapacity_0f7a4_27 : decode cJ5_newCapacity_0f7a4 27 = .ok (.ishl, 1) := by decide +kernel
theorem dJ5_newCapacity_0f7a4_28 : decode cJ5_newCapacity_0f7a4 28 = .ok (.iadd, 1) := by decide +kernel
theorem dJ5_newCapacity_0f7a4_29 : decode cJ5_newCapacity_0f7a4 29 = .ok (.invokestatic 114, 3) := by decide +kernel
theorem dJ5_newCapacity_0f7a4_32 : decode cJ5_newCapacity_0f7a4 32 = .ok (.istore 5, 2) := by decide +kernel
theorem dJ5_newCapacity_0f7a4_34 : decode cJ5_newCapacity_0f7a4 34 = .ok (.iload 5, 2) := by decide +kernel
theorem dJ5_newCapacity_0f7a4_36 : decode cJ5_newCapacity_0f7a4 36 = .ok (.ldc 39, 2) := by decide +kernel
theorem dJ5_newCapacity_0f7a4_38 : decode cJ5_newCapacity_0f7a4 38 = .ok (.if_icmp .ne 13, 3) := by decide +kernel
theorem dJ5_newCapacity_0f7a4_41 : decode cJ5_newCapacity_0f7a4 41 = .ok (.new 120, 3) := by decide +kernel
theorem dJ5_newCapacity_0f7a4_44 : decode cJ5_newCapacity_0f7a4 44 = .ok (.dup, 1) := by decide +kernel
theorem dJ5_newCapacity_0f7a4_45 : decode cJ5_newCapacity_0f7a4 45 = .ok (.ldc 122, 2) := by decide +kernel
theorem dJ5_newCapacity_0f7a4_47 : decode cJ5_newCapacity_0f7a4 47 = .ok (.invokespecial 124, 3) := by decide +kernel
theorem dJ5_newCapacity_0f7a4_50 : decode cJ5_newCapacity_0f7a4 50 = .ok (.athrow, 1) := by decide +kernel
theorem dJ5_newCapacity_0f7a4_51 : decode cJ5_newCapacity_0f7a4 51 = .ok (.iload 5, 2) := by decide +kernel
theorem dJ5_newCapacity_0f7a4_53 : decode cJ5_newCapacity_0f7a4 53 = .ok (.aload_n 0, 1) := by decide +kernel
theorem dJ5_newCapacity_0f7a4_54 : decode cJ5_newCapacity_0f7a4 54 = .ok (.getfield 22, 3) := by decide +kernel
theorem dJ5_newCapacity_0f7a4_57 : decode cJ5_newCapacity_0f7a4 57 = .ok (.ishr, 1) := by decide +kernel
theorem dJ5_newCapacity_0f7a4_58 : decode cJ5_newCapacity_0f7a4 58 = .ok (.ireturn, 1) := by decide +kernel
theorem dJ5_inflate_da8c8_0 : decode cJ5_inflate_da8c8 0 = .ok (.aload_n 0, 1) := by decide +kernel
theorem dJ5_inflate_da8c8_1 : decode cJ5_inflate_da8c8 1 = .ok (.invokevirtual 83, 3) := by decide +kernel
theorem dJ5_inflate_da8c8_4 : decode cJ5_inflate_da8c8 4 = .ok (.ifCond .ne 4, 3) := by decide +kernel
theorem dJ5_inflate_da8c8_7 : decode cJ5_inflate_da8c8 7 = .ok (.return_, 1) := by decide +kernel
theorem dJ5_inflate_da8c8_8 : decode cJ5_inflate_da8c8 8 = .ok (.aload_n 0, 1) := by decide +kernel
theorem dJ5_inflate_da8c8_9 : decode cJ5_inflate_da8c8 9 = .ok (.getfield 15, 3) := by decide +kernel
theorem dJ5_inflate_da8c8_12 : decode cJ5_inflate_da8c8 12 = .ok (.arraylength, 1) := by decide +kernel
theorem dJ5_inflate_da8c8_13 : decode cJ5_inflate_da8c8 13 = .ok (.invokestatic 26, 3) := by decide +kernel
theorem dJ5_inflate_da8c8_16 : decode cJ5_inflate_da8c8 16 = .ok (.astore_n 1, 1) := by decide +kernel
theorem dJ5_inflate_da8c8_17 : decode cJ5_inflate_da8c8 17 = .ok (.aload_n 0, 1) := by decide +kernel
theorem dJ5_inflate_da8c8_18 : decode cJ5_inflate_da8c8 18 = .ok (.getfield 15, 3) := by decide +kernel
theorem dJ5_inflate_da8c8_21 : decode cJ5_inflate_da8c8 21 = .ok (.iconst 0, 1) := by decide +kernel
theorem dJ5_inflate_da8c8_22 : decode cJ5_inflate_da8c8 22 = .ok (.aload_n 1, 1) := by decide +kernel
theorem dJ5_inflate_da8c8_23 : decode cJ5_inflate_da8c8 23 = .ok (.iconst 0, 1) := by decide +kernel
theorem dJ5_inflate_da8c8_24 : decode cJ5_inflate_da8c8 24 = .ok (.aload_n 0, 1) := by decide +kernel
theorem dJ5_inflate_da8c8_25 : decode cJ5_inflate_da8c8 25 = .ok (.getfield 79, 3) := by decide +kernel
theorem dJ5_inflate_da8c8_28 : decode cJ5_inflate_da8c8 28 = .ok (.invokestatic 125, 3) := by decide +kernel
theorem dJ5_inflate_da8c8_31 : decode cJ5_inflate_da8c8 31 = .ok (.aload_n 0, 1) := by decide +kernel
theorem dJ5_inflate_da8c8_32 : decode cJ5_inflate_da8c8 32 = .ok (.aload_n 1, 1) := by decide +kernel
theorem dJ5_inflate_da8c8_33 : decode cJ5_inflate_da8c8 33 = .ok (.putfield 15, 3) := by decide +kernel
theorem dJ5_inflate_da8c8_36 : decode cJ5_inflate_da8c8 36 = .ok (.aload_n 0, 1) := by decide +kernel
theorem dJ5_inflate_da8c8_37 : decode cJ5_inflate_da8c8 37 = .ok (.iconst 1, 1) := by decide +kernel
theorem dJ5_inflate_da8c8_38 : decode cJ5_inflate_da8c8 38 = .ok (.putfield 22, 3) := by decide +kernel
theorem dJ5_inflate_da8c8_41 : decode cJ5_inflate_da8c8 41 = .ok (.return_, 1) := by decide +kernel
theorem dJ5_append_cf1ce_0 : decode cJ5_append_cf1ce 0 = .ok (.aload_n 1, 1) := by decide +kernel
theorem dJ5_append_cf1ce_1 : decode cJ5_append_cf1ce 1 = .ok (.ifnonnull 8, 3) := by decide +kernel
theorem dJ5_append_cf1ce_4 : decode cJ5_append_cf1ce 4 = .ok (.aload_n 0, 1) := by decide +kernel
theorem dJ5_append_cf1ce_5 : decode cJ5_append_cf1ce 5 = .ok (.invokevirtual 204, 3) := by decide +kernel
theorem dJ5_append_cf1ce_8 : decode cJ5_append_cf1ce 8 = .ok (.areturn, 1) := by decide +kernel
theorem dJ5_append_cf1ce_9 : decode cJ5_append_cf1ce 9 = .ok (.aload_n 1, 1) := by decide +kernel
theorem dJ5_append_cf1ce_10 : decode cJ5_append_cf1ce 10 = .ok (.invokevirtual 32, 3) := by decide +kernel
theorem dJ5_append_cf1ce_13 : decode cJ5_append_cf1ce 13 = .ok (.istore_n 2, 1) := by decide +kernel
theorem dJ5_append_cf1ce_14 : decode cJ5_append_cf1ce 14 = .ok (.aload_n 0, 1) := by decide +kernel
theorem dJ5_append_cf1ce_15 : decode cJ5_append_cf1ce 15 = .ok (.aload_n 0, 1) := by decide +kernel
theorem dJ5_append_cf1ce_16 : decode cJ5_append_cf1ce 16 = .ok (.getfield 79, 3) := by decide +kernel
theorem dJ5_append_cf1ce_19 : decode cJ5_append_cf1ce 19 = .ok (.iload_n 2, 1) := by decide +kernel
theorem dJ5_append_cf1ce_20 : decode cJ5_append_cf1ce 20 = .ok (.iadd, 1) := by decide +kernel
theorem dJ5_append_cf1ce_21 : decode cJ5_append_cf1ce 21 = .ok (.invokevirtual 100, 3) := by decide +kernel
theorem dJ5_append_cf1ce_24 : decode cJ5_append_cf1ce 24 = .ok (.aload_n 0, 1) := by decide +kernel
theorem dJ5_append_cf1ce_25 : decode cJ5_append_cf1ce 25 = .ok (.aload_n 0, 1) := by decide +kernel
theorem dJ5_append_cf1ce_26 : decode cJ5_append_cf1ce 26 = .ok (.getfield 79, 3) := by decide +kernel
theorem dJ5_append_cf1ce_29 : decode cJ5_append_cf1ce 29 = .ok (.aload_n 1, 1) := by decide +kernel
theorem dJ5_append_cf1ce_30 : decode cJ5_append_cf1ce 30 = .ok (.invokevirtual 208, 3) := by decide +kernel
theorem dJ5_append_cf1ce_33 : decode cJ5_append_cf1ce 33 = .ok (.aload_n 0, 1) := by decide +kernel
theorem dJ5_append_cf1ce_34 : decode cJ5_append_cf1ce 34 = .ok (.dup, 1) := by decide +kernel
theorem dJ5_append_cf1ce_35 : decode cJ5_append_cf1ce 35 = .ok (.getfield 79, 3) := by decide +kernel
theorem dJ5_append_cf1ce_38 : decode cJ5_append_cf1ce 38 = .ok (.iload_n 2, 1) := by decide +kernel
theorem dJ5_append_cf1ce_39 : decode cJ5_append_cf1ce 39 = .ok (.iadd, 1) := by decide +kernel
theorem dJ5_append_cf1ce_40 : decode cJ5_append_cf1ce 40 = .ok (.putfield 79, 3) := by decide +kernel
theorem dJ5_append_cf1ce_43 : decode cJ5_append_cf1ce 43 = .ok (.aload_n 0, 1) := by decide +kernel
theorem dJ5_append_cf1ce_44 : decode cJ5_append_cf1ce 44 = .ok (.areturn, 1) := by decide +kernel
theorem dJ5_appendNull_278bc_0 : decode cJ5_appendNull_278bc 0 = .ok (.aload_n 0, 1) := by decide +kernel
theorem dJ5_appendNull_278bc_1 : decode cJ5_appendNull_278bc 1 = .ok (.aload_n 0, 1) := by decide +kernel
theorem dJ5_appendNull_278bc_2 : decode cJ5_appendNull_278bc 2 = .ok (.getfield 79, 3) := by decide +kernel
theorem dJ5_appendNull_278bc_5 : decode cJ5_appendNull_278bc 5 = .ok (.iconst 4, 1) := by decide +kernel
theorem dJ5_appendNull_278bc_6 : decode cJ5_appendNull_278bc 6 = .ok (.iadd, 1) := by decide +kernel
theorem dJ5_appendNull_278bc_7 : decode cJ5_appendNull_278bc 7 = .ok (.invokevirtual 100, 3) := by decide +kernel
theorem dJ5_appendNull_278bc_10 : decode cJ5_appendNull_278bc 10 = .ok (.aload_n 0, 1) := by decide +kernel
theorem dJ5_appendNull_278bc_11 : decode cJ5_appendNull_278bc 11 = .ok (.getfield 79, 3) := by decide +kernel
theorem dJ5_appendNull_278bc_14 : decode cJ5_appendNull_278bc 14 = .ok (.istore_n 1, 1) := by decide +kernel
theorem dJ5_appendNull_278bc_15 : decode cJ5_appendNull_278bc 15 = .ok (.aload_n 0, 1) := by decide +kernel
theorem dJ5_appendNull_278bc_16 : decode cJ5_appendNull_278bc 16 = .ok (.getfield 15, 3) := by decide +kernel
theorem dJ5_appendNull_278bc_19 : decode cJ5_appendNull_278bc 19 = .ok (.astore_n 2, 1) := by decide +kernel
theorem dJ5_appendNull_278bc_20 : decode cJ5_appendNull_278bc 20 = .ok (.aload_n 0, 1) := by decide +kernel
theorem dJ5_appendNull_278bc_21 : decode cJ5_appendNull_278bc 21 = .ok (.invokevirtual 83, 3) := by decide +kernel
theorem dJ5_appendNull_278bc_24 : decode cJ5_appendNull_278bc 24 = .ok (.ifCond .eq 38, 3) := by decide +kernel
theorem dJ5_appendNull_278bc_27 : decode cJ5_appendNull_278bc 27 = .ok (.aload_n 2, 1) := by decide +kernel
theorem dJ5_appendNull_278bc_28 : decode cJ5_appendNull_278bc 28 = .ok (.iload_n 1, 1) := by decide +kernel
theorem dJ5_appendNull_278bc_29 : decode cJ5_appendNull_278bc 29 = .ok (.iinc 1 1, 3) := by decide +kernel
theorem dJ5_appendNull_278bc_32 : decode cJ5_appendNull_278bc 32 = .ok (.bipush 110, 2) := by decide +kernel
theorem dJ5_appendNull_278bc_34 : decode cJ5_appendNull_278bc 34 = .ok (.bastore, 1) := by decide +kernel
theorem dJ5_appendNull_278bc_35 : decode cJ5_appendNull_278bc 35 = .ok (.aload_n 2, 1) := by decide +kernel
theorem dJ5_appendNull_278bc_36 : decode cJ5_appendNull_278bc 36 = .ok (.iload_n 1, 1) := by decide +kernel
theorem dJ5_appendNull_278bc_37 : decode cJ5_appendNull_278bc 37 = .ok (.iinc 1 1, 3) := by decide +kernel
theorem dJ5_appendNull_278bc_40 : decode cJ5_appendNull_278bc 40 = .ok (.bipush 117, 2) := by decide +kernel
theorem dJ5_appendNull_278bc_42 : decode cJ5_appendNull_278bc 42 = .ok (.bastore, 1) := by decide +kernel
theorem dJ5_appendNull_278bc_43 : decode cJ5_appendNull_278bc 43 = .ok (.aload_n 2, 1) := by decide +kernel
theorem dJ5_appendNull_278bc_44 : decode cJ5_appendNull_278bc 44 = .ok (.iload_n 1, 1) := by decide +kernel
theorem dJ5_appendNull_278bc_45 : decode cJ5_appendNull_278bc 45 = .ok (.iinc 1 1, 3) := by decide +kernel
theorem dJ5_appendNull_278bc_48 : decode cJ5_appendNull_278bc 48 = .ok (.bipush 108, 2) := by decide +kernel
theorem dJ5_appendNull_278bc_50 : decode cJ5_appendNull_278bc 50 = .ok (.bastore, 1) := by decide +kernel
theorem dJ5_appendNull_278bc_51 : decode cJ5_appendNull_278bc 51 = .ok (.aload_n 2, 1) := by decide +kernel
theorem dJ5_appendNull_278bc_52 : decode cJ5_appendNull_278bc 52 = .ok (.iload_n 1, 1) := by decide +kernel
theorem dJ5_appendNull_278bc_53 : decode cJ5_appendNull_278bc 53 = .ok (.iinc 1 1, 3) := by decide +kernel
theorem dJ5_appendNull_278bc_56 : decode cJ5_appendNull_278bc 56 = .ok (.bipush 108, 2) := by decide +kernel
theorem dJ5_appendNull_278bc_58 : decode cJ5_appendNull_278bc 58 = .ok (.bastore, 1) := by decide +kernel
theorem dJ5_appendNull_278bc_59 : decode cJ5_appendNull_278bc 59 = .ok (.goto 17, 3) := by decide +kernel
theorem dJ5_appendNull_278bc_62 : decode cJ5_appendNull_278bc 62 = .ok (.aload_n 2, 1) := by decide +kernel
theorem dJ5_appendNull_278bc_63 : decode cJ5_appendNull_278bc 63 = .ok (.iload_n 1, 1) := by decide +kernel
theorem dJ5_appendNull_278bc_64 : decode cJ5_appendNull_278bc 64 = .ok (.bipush 110, 2) := by decide +kernel
theorem dJ5_appendNull_278bc_66 : decode cJ5_appendNull_278bc 66 = .ok (.bipush 117, 2) := by decide +kernel
theorem dJ5_appendNull_278bc_68 : decode cJ5_appendNull_278bc 68 = .ok (.bipush 108, 2) := by decide +kernel
theorem dJ5_appendNull_278bc_70 : decode cJ5_appendNull_278bc 70 = .ok (.bipush 108, 2) := by decide +kernel
theorem dJ5_appendNull_278bc_72 : decode cJ5_appendNull_278bc 72 = .ok (.invokestatic 226, 3) := by decide +kernel
theorem dJ5_appendNull_278bc_75 : decode cJ5_appendNull_278bc 75 = .ok (.istore_n 1, 1) := by decide +kernel
theorem dJ5_appendNull_278bc_76 : decode cJ5_appendNull_278bc 76 = .ok (.aload_n 0, 1) := by decide +kernel
theorem dJ5_appendNull_278bc_77 : decode cJ5_appendNull_278bc 77 = .ok (.iload_n 1, 1) := by decide +kernel
theorem dJ5_appendNull_278bc_78 : decode cJ5_appendNull_278bc 78 = .ok (.putfield 79, 3) := by decide +kernel
theorem dJ5_appendNull_278bc_81 : decode cJ5_appendNull_278bc 81 = .ok (.aload_n 0, 1) := by decide +kernel
theorem dJ5_appendNull_278bc_82 : decode cJ5_appendNull_278bc 82 = .ok (.areturn, 1) := by decide +kernel
theorem dJ5_append_c97b9_0 : decode cJ5_append_c97b9 0 = .ok (.aload_n 0, 1) := by decide +kernel
theorem dJ5_append_c97b9_1 : decode cJ5_append_c97b9 1 = .ok (.getfield 79, 3) := by decide +kernel
theorem dJ5_append_c97b9_4 : decode cJ5_append_c97b9 4 = .ok (.istore_n 2, 1) := by decide +kernel
theorem dJ5_append_c97b9_5 : decode cJ5_append_c97b9 5 = .ok (.iload_n 2, 1) := by decide +kernel
theorem dJ5_append_c97b9_6 : decode cJ5_append_c97b9 6 = .ok (.iload_n 1, 1) := by decide +kernel
theorem dJ5_append_c97b9_7 : decode cJ5_append_c97b9 7 = .ok (.invokestatic 245, 3) := by decide +kernel
theorem dJ5_append_c97b9_10 : decode cJ5_append_c97b9 10 = .ok (.iadd, 1) := by decide +kernel
theorem dJ5_append_c97b9_11 : decode cJ5_append_c97b9 11 = .ok (.istore_n 3, 1) := by decide +kernel
theorem dJ5_append_c97b9_12 : decode cJ5_append_c97b9 12 = .ok (.aload_n 0, 1) := by decide +kernel
theorem dJ5_append_c97b9_13 : decode cJ5_append_c97b9 13 = .ok (.iload_n 3, 1) := by decide +kernel
theorem dJ5_append_c97b9_14 : decode cJ5_append_c97b9 14 = .ok (.invokevirtual 100, 3) := by decide +kernel
theorem dJ5_append_c97b9_17 : decode cJ5_append_c97b9 17 = .ok (.aload_n 0, 1) := by decide +kernel
theorem dJ5_append_c97b9_18 : decode cJ5_append_c97b9 18 = .ok (.invokevirtual 83, 3) := by decide +kernel
theorem dJ5_append_c97b9_21 : decode cJ5_append_c97b9 21 = .ok (.ifCond .eq 16, 3) := by decide +kernel
theorem dJ5_append_c97b9_24 : decode cJ5_append_c97b9 24 = .ok (.iload_n 1, 1) := by decide +kernel
theorem dJ5_append_c97b9_25 : decode cJ5_append_c97b9 25 = .ok (.iload_n 3, 1) := by decide +kernel
theorem dJ5_append_c97b9_26 : decode cJ5_append_c97b9 26 = .ok (.aload_n 0, 1) := by decide +kernel
theorem dJ5_append_c97b9_27 : decode cJ5_append_c97b9 27 = .ok (.getfield 15, 3) := by decide +kernel
theorem dJ5_append_c97b9_30 : decode cJ5_append_c97b9 30 = .ok (.invokestatic 248, 3) := by decide +kernel
theorem dJ5_append_c97b9_33 : decode cJ5_append_c97b9 33 = .ok (.pop, 1) := by decide +kernel
theorem dJ5_append_c97b9_34 : decode cJ5_append_c97b9 34 = .ok (.goto 14, 3) := by decide +kernel
theorem dJ5_append_c97b9_37 : decode cJ5_append_c97b9 37 = .ok (.iload_n 1, 1) := by decide +kernel
theorem dJ5_append_c97b9_38 : decode cJ5_append_c97b9 38 = .ok (.iload_n 2, 1) := by decide +kernel
theorem dJ5_append_c97b9_39 : decode cJ5_append_c97b9 39 = .ok (.iload_n 3, 1) := by decide +kernel
theorem dJ5_append_c97b9_40 : decode cJ5_append_c97b9 40 = .ok (.aload_n 0, 1) := by decide +kernel
theorem dJ5_append_c97b9_41 : decode cJ5_append_c97b9 41 = .ok (.getfield 15, 3) := by decide +kernel
theorem dJ5_append_c97b9_44 : decode cJ5_append_c97b9 44 = .ok (.invokestatic 251, 3) := by decide +kernel
theorem dJ5_append_c97b9_47 : decode cJ5_append_c97b9 47 = .ok (.pop, 1) := by decide +kernel
theorem dJ5_append_c97b9_48 : decode cJ5_append_c97b9 48 = .ok (.aload_n 0, 1) := by decide +kernel
theorem dJ5_append_c97b9_49 : decode cJ5_append_c97b9 49 = .ok (.iload_n 3, 1) := by decide +kernel
theorem dJ5_append_c97b9_50 : decode cJ5_append_c97b9 50 = .ok (.putfield 79, 3) := by decide +kernel
theorem dJ5_append_c97b9_53 : decode cJ5_append_c97b9 53 = .ok (.aload_n 0, 1) := by decide +kernel
theorem dJ5_append_c97b9_54 : decode cJ5_append_c97b9 54 = .ok (.areturn, 1) := by decide +kernel
theorem dJ5_getValue_6d5f1_0 : decode cJ5_getValue_6d5f1 0 = .ok (.aload_n 0, 1) := by decide +kernel
theorem dJ5_getValue_6d5f1_1 : decode cJ5_getValue_6d5f1 1 = .ok (.getfield 15, 3) := by decide +kernel
theorem dJ5_getValue_6d5f1_4 : decode cJ5_getValue_6d5f1 4 = .ok (.areturn, 1) := by decide +kernel
theorem dJ5_isLatin1_aae02_0 : decode cJ5_isLatin1_aae02 0 = .ok (.getstatic 18, 3) := by decide +kernel
theorem dJ5_isLatin1_aae02_3 : decode cJ5_isLatin1_aae02 3 = .ok (.ifCond .eq 14, 3) := by decide +kernel
theorem dJ5_isLatin1_aae02_6 : decode cJ5_isLatin1_aae02 6 = .ok (.aload_n 0, 1) := by decide +kernel
theorem dJ5_isLatin1_aae02_7 : decode cJ5_isLatin1_aae02 7 = .ok (.getfield 22, 3) := by decide +kernel
theorem dJ5_isLatin1_aae02_10 : decode cJ5_isLatin1_aae02 10 = .ok (.ifCond .ne 7, 3) := by decide +kernel
theorem dJ5_isLatin1_aae02_13 : decode cJ5_isLatin1_aae02 13 = .ok (.iconst 1, 1) := by decide +kernel
theorem dJ5_isLatin1_aae02_14 : decode cJ5_isLatin1_aae02 14 = .ok (.goto 4, 3) := by decide +kernel
theorem dJ5_isLatin1_aae02_17 : decode cJ5_isLatin1_aae02 17 = .ok (.iconst 0, 1) := by decide +kernel
theorem dJ5_isLatin1_aae02_18 : decode cJ5_isLatin1_aae02 18 = .ok (.ireturn, 1) := by decide +kernel
theorem dJ5_inflateIfNeededFor_a7421_0 : decode cJ5_inflateIfNeededFor_a7421 0 = .ok (.getstatic 18, 3) := by decide +kernel
theorem dJ5_inflateIfNeededFor_a7421_3 : decode cJ5_inflateIfNeededFor_a7421 3 = .ok (.ifCond .eq 18, 3) := by decide +kernel
theorem dJ5_inflateIfNeededFor_a7421_6 : decode cJ5_inflateIfNeededFor_a7421 6 = .ok (.aload_n 0, 1) := by decide +kernel
theorem dJ5_inflateIfNeededFor_a7421_7 : decode cJ5_inflateIfNeededFor_a7421 7 = .ok (.getfield 22, 3) := by decide +kernel
theorem dJ5_inflateIfNeededFor_a7421_10 : decode cJ5_inflateIfNeededFor_a7421 10 = .ok (.aload_n 1, 1) := by decide +kernel
theorem dJ5_inflateIfNeededFor_a7421_11 : decode cJ5_inflateIfNeededFor_a7421 11 = .ok (.invokevirtual 40, 3) := by decide +kernel
theorem dJ5_inflateIfNeededFor_a7421_14 : decode cJ5_inflateIfNeededFor_a7421 14 = .ok (.if_icmp .eq 7, 3) := by decide +kernel
theorem dJ5_inflateIfNeededFor_a7421_17 : decode cJ5_inflateIfNeededFor_a7421 17 = .ok (.aload_n 0, 1) := by decide +kernel
theorem dJ5_inflateIfNeededFor_a7421_18 : decode cJ5_inflateIfNeededFor_a7421 18 = .ok (.invokevirtual 195, 3) := by decide +kernel
theorem dJ5_inflateIfNeededFor_a7421_21 : decode cJ5_inflateIfNeededFor_a7421 21 = .ok (.return_, 1) := by decide +kernel
theorem dJ5_putStringAt_47b60_0 : decode cJ5_putStringAt_47b60 0 = .ok (.aload_n 0, 1) := by decide +kernel
theorem dJ5_putStringAt_47b60_1 : decode cJ5_putStringAt_47b60 1 = .ok (.aload_n 2, 1) := by decide +kernel
theorem dJ5_putStringAt_47b60_2 : decode cJ5_putStringAt_47b60 2 = .ok (.invokevirtual 397, 3) := by decide +kernel
theorem dJ5_putStringAt_47b60_5 : decode cJ5_putStringAt_47b60 5 = .ok (.aload_n 2, 1) := by decide +kernel
theorem dJ5_putStringAt_47b60_6 : decode cJ5_putStringAt_47b60 6 = .ok (.aload_n 0, 1) := by decide +kernel
theorem dJ5_putStringAt_47b60_7 : decode cJ5_putStringAt_47b60 7 = .ok (.getfield 15, 3) := by decide +kernel
theorem dJ5_putStringAt_47b60_10 : decode cJ5_putStringAt_47b60 10 = .ok (.iload_n 1, 1) := by decide +kernel
theorem dJ5_putStringAt_47b60_11 : decode cJ5_putStringAt_47b60 11 = .ok (.aload_n 0, 1) := by decide +kernel
theorem dJ5_putStringAt_47b60_12 : decode cJ5_putStringAt_47b60 12 = .ok (.getfield 22, 3) := by decide +kernel
theorem dJ5_putStringAt_47b60_15 : decode cJ5_putStringAt_47b60 15 = .ok (.invokevirtual 399, 3) := by decide +kernel
theorem dJ5_putStringAt_47b60_18 : decode cJ5_putStringAt_47b60 18 = .ok (.return_, 1) := by decide +kernel
theorem dJx00060_init_a7421_0 : decode cJx00060_init_a7421 0 = .ok (.aload_n 0, 1) := by decide +kernel
theorem dJx00060_init_a7421_1 : decode cJx00060_init_a7421 1 = .ok (.aload_n 1, 1) := by decide +kernel
theorem dJx00060_init_a7421_2 : decode cJx00060_init_a7421 2 = .ok (.invokespecial 7, 3) := by decide +kernel
theorem dJx00060_init_a7421_5 : decode cJx00060_init_a7421 5 = .ok (.return_, 1) := by decide +kernel
theorem dJ6_getChars_ba4f3_0 : decode cJ6_getChars_ba4f3 0 = .ok (.iload_n 1, 1) := by decide +kernel
theorem dJ6_getChars_ba4f3_1 : decode cJ6_getChars_ba4f3 1 = .ok (.istore 5, 2) := by decide +kernel
theorem dJ6_getChars_ba4f3_3 : decode cJ6_getChars_ba4f3 3 = .ok (.iload_n 0, 1) := by decide +kernel
theorem dJ6_getChars_ba4f3_4 : decode cJ6_getChars_ba4f3 4 = .ok (.ifCond .ge 7, 3) := by decide +kernel
theorem dJ6_getChars_ba4f3_7 : decode cJ6_getChars_ba4f3 7 = .ok (.iconst 1, 1) := by decide +kernel
theorem dJ6_getChars_ba4f3_8 : decode cJ6_getChars_ba4f3 8 = .ok (.goto 4, 3) := by decide +kernel
theorem dJ6_getChars_ba4f3_11 : decode cJ6_getChars_ba4f3 11 = .ok (.iconst 0, 1) := by decide +kernel
theorem dJ6_getChars_ba4f3_12 : decode cJ6_getChars_ba4f3 12 = .ok (.istore 6, 2) := by decide +kernel
theorem dJ6_getChars_ba4f3_14 : decode cJ6_getChars_ba4f3 14 = .ok (.iload 6, 2) := by decide +kernel
theorem dJ6_getChars_ba4f3_16 : decode cJ6_getChars_ba4f3 16 = .ok (.ifCond .ne 6, 3) := by decide +kernel
theorem dJ6_getChars_ba4f3_19 : decode cJ6_getChars_ba4f3 19 = .ok (.iload_n 0, 1) := by decide +kernel
theorem dJ6_getChars_ba4f3_20 : decode cJ6_getChars_ba4f3 20 = .ok (.ineg, 1) := by decide +kernel
theorem dJ6_getChars_ba4f3_21 : decode cJ6_getChars_ba4f3 21 = .ok (.istore_n 0, 1) := by decide +kernel
theorem dJ6_getChars_ba4f3_22 : decode cJ6_getChars_ba4f3 22 = .ok (.iload_n 0, 1) := by decide +kernel
theorem dJ6_getChars_ba4f3_23 : decode cJ6_getChars_ba4f3 23 = .ok (.bipush (-100), 2) := by decide +kernel
theorem dJ6_getChars_ba4f3_25 : decode cJ6_getChars_ba4f3 25 = .ok (.if_icmp .gt 47, 3) := by decide +kernel
theorem dJ6_getChars_ba4f3_28 : decode cJ6_getChars_ba4f3 28 = .ok (.iload_n 0, 1) := by decide +kernel
theorem dJ6_getChars_ba4f3_29 : decode cJ6_getChars_ba4f3 29 = .ok (.bipush 100, 2) := by decide +kernel
end
section
theorem dJ6_getChars_ba4f3_31 : decode cJ6_getChars_ba4f3 31 = .ok (.idiv, 1) := by decide +kernel
theorem dJ6_getChars_ba4f3_32 : decode cJ6_getChars_ba4f3 32 = .ok (.istore_n 3, 1) := by decide +kernel
theorem dJ6_getChars_ba4f3_33 : decode cJ6_getChars_ba4f3 33 = .ok (.iload_n 3, 1) := by decide +kernel
theorem dJ6_getChars_ba4f3_34 : decode cJ6_getChars_ba4f3 34 = .ok (.bipush 100, 2) := by decide +kernel
theorem dJ6_getChars_ba4f3_36 : decode cJ6_getChars_ba4f3 36 = .ok (.imul, 1) := by decide +kernel
theorem dJ6_getChars_ba4f3_37 : decode cJ6_getChars_ba4f3 37 = .ok (.iload_n 0, 1) := by decide +kernel
theorem dJ6_getChars_ba4f3_38 : decode cJ6_getChars_ba4f3 38 = .ok (.isub, 1) := by decide +kernel
theorem dJ6_getChars_ba4f3_39 : decode cJ6_getChars_ba4f3 39 = .ok (.istore 4, 2) := by decide +kernel
theorem dJ6_getChars_ba4f3_41 : decode cJ6_getChars_ba4f3 41 = .ok (.iload_n 3, 1) := by decide +kernel
theorem dJ6_getChars_ba4f3_42 : decode cJ6_getChars_ba4f3 42 = .ok (.istore_n 0, 1) := by decide +kernel
theorem dJ6_getChars_ba4f3_43 : decode cJ6_getChars_ba4f3 43 = .ok (.aload_n 2, 1) := by decide +kernel
theorem dJ6_getChars_ba4f3_44 : decode cJ6_getChars_ba4f3 44 = .ok (.iinc 5 (-1), 3) := by decide +kernel
theorem dJ6_getChars_ba4f3_47 : decode cJ6_getChars_ba4f3 47 = .ok (.iload 5, 2) := by decide +kernel
theorem dJ6_getChars_ba4f3_49 : decode cJ6_getChars_ba4f3 49 = .ok (.getstatic 83, 3) := by decide +kernel
theorem dJ6_getChars_ba4f3_52 : decode cJ6_getChars_ba4f3 52 = .ok (.iload 4, 2) := by decide +kernel
theorem dJ6_getChars_ba4f3_54 : decode cJ6_getChars_ba4f3 54 = .ok (.baload, 1) := by decide +kernel
theorem dJ6_getChars_ba4f3_55 : decode cJ6_getChars_ba4f3 55 = .ok (.bastore, 1) := by decide +kernel
theorem dJ6_getChars_ba4f3_56 : decode cJ6_getChars_ba4f3 56 = .ok (.aload_n 2, 1) := by decide +kernel
theorem dJ6_getChars_ba4f3_57 : decode cJ6_getChars_ba4f3 57 = .ok (.iinc 5 (-1), 3) := by decide +kernel
theorem dJ6_getChars_ba4f3_60 : decode cJ6_getChars_ba4f3 60 = .ok (.iload 5, 2) := by decide +kernel
theorem dJ6_getChars_ba4f3_62 : decode cJ6_getChars_ba4f3 62 = .ok (.getstatic 87, 3) := by decide +kernel
theorem dJ6_getChars_ba4f3_65 : decode cJ6_getChars_ba4f3 65 = .ok (.iload 4, 2) := by decide +kernel
theorem dJ6_getChars_ba4f3_67 : decode cJ6_getChars_ba4f3 67 = .ok (.baload, 1) := by decide +kernel
theorem dJ6_getChars_ba4f3_68 : decode cJ6_getChars_ba4f3 68 = .ok (.bastore, 1) := by decide +kernel
theorem dJ6_getChars_ba4f3_69 : decode cJ6_getChars_ba4f3 69 = .ok (.goto (-47), 3) := by decide +kernel
theorem dJ6_getChars_ba4f3_72 : decode cJ6_getChars_ba4f3 72 = .ok (.aload_n 2, 1) := by decide +kernel
theorem dJ6_getChars_ba4f3_73 : decode cJ6_getChars_ba4f3 73 = .ok (.iinc 5 (-1), 3) := by decide +kernel
theorem dJ6_getChars_ba4f3_76 : decode cJ6_getChars_ba4f3 76 = .ok (.iload 5, 2) := by decide +kernel
theorem dJ6_getChars_ba4f3_78 : decode cJ6_getChars_ba4f3 78 = .ok (.getstatic 83, 3) := by decide +kernel
theorem dJ6_getChars_ba4f3_81 : decode cJ6_getChars_ba4f3 81 = .ok (.iload_n 0, 1) := by decide +kernel
theorem dJ6_getChars_ba4f3_82 : decode cJ6_getChars_ba4f3 82 = .ok (.ineg, 1) := by decide +kernel
theorem dJ6_getChars_ba4f3_83 : decode cJ6_getChars_ba4f3 83 = .ok (.baload, 1) := by decide +kernel
theorem dJ6_getChars_ba4f3_84 : decode cJ6_getChars_ba4f3 84 = .ok (.bastore, 1) := by decide +kernel
theorem dJ6_getChars_ba4f3_85 : decode cJ6_getChars_ba4f3 85 = .ok (.iload_n 0, 1) := by decide +kernel
theorem dJ6_getChars_ba4f3_86 : decode cJ6_getChars_ba4f3 86 = .ok (.bipush (-9), 2) := by decide +kernel
theorem dJ6_getChars_ba4f3_88 : decode cJ6_getChars_ba4f3 88 = .ok (.if_icmp .ge 16, 3) := by decide +kernel
theorem dJ6_getChars_ba4f3_91 : decode cJ6_getChars_ba4f3 91 = .ok (.aload_n 2, 1) := by decide +kernel
theorem dJ6_getChars_ba4f3_92 : decode cJ6_getChars_ba4f3 92 = .ok (.iinc 5 (-1), 3) := by decide +kernel
theorem dJ6_getChars_ba4f3_95 : decode cJ6_getChars_ba4f3 95 = .ok (.iload 5, 2) := by decide +kernel
theorem dJ6_getChars_ba4f3_97 : decode cJ6_getChars_ba4f3 97 = .ok (.getstatic 87, 3) := by decide +kernel
theorem dJ6_getChars_ba4f3_100 : decode cJ6_getChars_ba4f3 100 = .ok (.iload_n 0, 1) := by decide +kernel
theorem dJ6_getChars_ba4f3_101 : decode cJ6_getChars_ba4f3 101 = .ok (.ineg, 1) := by decide +kernel
theorem dJ6_getChars_ba4f3_102 : decode cJ6_getChars_ba4f3 102 = .ok (.baload, 1) := by decide +kernel
theorem dJ6_getChars_ba4f3_103 : decode cJ6_getChars_ba4f3 103 = .ok (.bastore, 1) := by decide +kernel
theorem dJ6_getChars_ba4f3_104 : decode cJ6_getChars_ba4f3 104 = .ok (.iload 6, 2) := by decide +kernel
theorem dJ6_getChars_ba4f3_106 : decode cJ6_getChars_ba4f3 106 = .ok (.ifCond .eq 12, 3) := by decide +kernel
theorem dJ6_getChars_ba4f3_109 : decode cJ6_getChars_ba4f3 109 = .ok (.aload_n 2, 1) := by decide +kernel
theorem dJ6_getChars_ba4f3_110 : decode cJ6_getChars_ba4f3 110 = .ok (.iinc 5 (-1), 3) := by decide +kernel
theorem dJ6_getChars_ba4f3_113 : decode cJ6_getChars_ba4f3 113 = .ok (.iload 5, 2) := by decide +kernel
theorem dJ6_getChars_ba4f3_115 : decode cJ6_getChars_ba4f3 115 = .ok (.bipush 45, 2) := by decide +kernel
theorem dJ6_getChars_ba4f3_117 : decode cJ6_getChars_ba4f3 117 = .ok (.bastore, 1) := by decide +kernel
theorem dJ6_getChars_ba4f3_118 : decode cJ6_getChars_ba4f3 118 = .ok (.iload 5, 2) := by decide +kernel
theorem dJ6_getChars_ba4f3_120 : decode cJ6_getChars_ba4f3 120 = .ok (.ireturn, 1) := by decide +kernel
theorem dJ6_stringSize_0f7a4_0 : decode cJ6_stringSize_0f7a4 0 = .ok (.iconst 1, 1) := by decide +kernel
theorem dJ6_stringSize_0f7a4_1 : decode cJ6_stringSize_0f7a4 1 = .ok (.istore_n 1, 1) := by decide +kernel
theorem dJ6_stringSize_0f7a4_2 : decode cJ6_stringSize_0f7a4 2 = .ok (.iload_n 0, 1) := by decide +kernel
theorem dJ6_stringSize_0f7a4_3 : decode cJ6_stringSize_0f7a4 3 = .ok (.ifCond .lt 8, 3) := by decide +kernel
theorem dJ6_stringSize_0f7a4_6 : decode cJ6_stringSize_0f7a4 6 = .ok (.iconst 0, 1) := by decide +kernel
theorem dJ6_stringSize_0f7a4_7 : decode cJ6_stringSize_0f7a4 7 = .ok (.istore_n 1, 1) := by decide +kernel
theorem dJ6_stringSize_0f7a4_8 : decode cJ6_stringSize_0f7a4 8 = .ok (.iload_n 0, 1) := by decide +kernel
theorem dJ6_stringSize_0f7a4_9 : decode cJ6_stringSize_0f7a4 9 = .ok (.ineg, 1) := by decide +kernel
theorem dJ6_stringSize_0f7a4_10 : decode cJ6_stringSize_0f7a4 10 = .ok (.istore_n 0, 1) := by decide +kernel
theorem dJ6_stringSize_0f7a4_11 : decode cJ6_stringSize_0f7a4 11 = .ok (.bipush (-10), 2) := by decide +kernel
theorem dJ6_stringSize_0f7a4_13 : decode cJ6_stringSize_0f7a4 13 = .ok (.istore_n 2, 1) := by decide +kernel
theorem dJ6_stringSize_0f7a4_14 : decode cJ6_stringSize_0f7a4 14 = .ok (.iconst 1, 1) := by decide +kernel
theorem dJ6_stringSize_0f7a4_15 : decode cJ6_stringSize_0f7a4 15 = .ok (.istore_n 3, 1) := by decide +kernel
theorem dJ6_stringSize_0f7a4_16 : decode cJ6_stringSize_0f7a4 16 = .ok (.iload_n 3, 1) := by decide +kernel
theorem dJ6_stringSize_0f7a4_17 : decode cJ6_stringSize_0f7a4 17 = .ok (.bipush 10, 2) := by decide +kernel
theorem dJ6_stringSize_0f7a4_19 : decode cJ6_stringSize_0f7a4 19 = .ok (.if_icmp .ge 23, 3) := by decide +kernel
theorem dJ6_stringSize_0f7a4_22 : decode cJ6_stringSize_0f7a4 22 = .ok (.iload_n 0, 1) := by decide +kernel
theorem dJ6_stringSize_0f7a4_23 : decode cJ6_stringSize_0f7a4 23 = .ok (.iload_n 2, 1) := by decide +kernel
theorem dJ6_stringSize_0f7a4_24 : decode cJ6_stringSize_0f7a4 24 = .ok (.if_icmp .le 7, 3) := by decide +kernel
theorem dJ6_stringSize_0f7a4_27 : decode cJ6_stringSize_0f7a4 27 = .ok (.iload_n 3, 1) := by decide +kernel
theorem dJ6_stringSize_0f7a4_28 : decode cJ6_stringSize_0f7a4 28 = .ok (.iload_n 1, 1) := by decide +kernel
theorem dJ6_stringSize_0f7a4_29 : decode cJ6_stringSize_0f7a4 29 = .ok (.iadd, 1) := by decide +kernel
theorem dJ6_stringSize_0f7a4_30 : decode cJ6_stringSize_0f7a4 30 = .ok (.ireturn, 1) := by decide +kernel
theorem dJ6_stringSize_0f7a4_31 : decode cJ6_stringSize_0f7a4 31 = .ok (.bipush 10, 2) := by decide +kernel
theorem dJ6_stringSize_0f7a4_33 : decode cJ6_stringSize_0f7a4 33 = .ok (.iload_n 2, 1) := by decide +kernel
theorem dJ6_stringSize_0f7a4_34 : decode cJ6_stringSize_0f7a4 34 = .ok (.imul, 1) := by decide +kernel
theorem dJ6_stringSize_0f7a4_35 : decode cJ6_stringSize_0f7a4 35 = .ok (.istore_n 2, 1) := by decide +kernel
theorem dJ6_stringSize_0f7a4_36 : decode cJ6_stringSize_0f7a4 36 = .ok (.iinc 3 1, 3) := by decide +kernel
theorem dJ6_stringSize_0f7a4_39 : decode cJ6_stringSize_0f7a4 39 = .ok (.goto (-23), 3) := by decide +kernel
theorem dJ6_stringSize_0f7a4_42 : decode cJ6_stringSize_0f7a4 42 = .ok (.bipush 10, 2) := by decide +kernel
theorem dJ6_stringSize_0f7a4_44 : decode cJ6_stringSize_0f7a4 44 = .ok (.iload_n 1, 1) := by decide +kernel
theorem dJ6_stringSize_0f7a4_45 : decode cJ6_stringSize_0f7a4 45 = .ok (.iadd, 1) := by decide +kernel
theorem dJ6_stringSize_0f7a4_46 : decode cJ6_stringSize_0f7a4 46 = .ok (.ireturn, 1) := by decide +kernel
theorem dJ6_bitCount_0f7a4_0 : decode cJ6_bitCount_0f7a4 0 = .ok (.iload_n 0, 1) := by decide +kernel
theorem dJ6_bitCount_0f7a4_1 : decode cJ6_bitCount_0f7a4 1 = .ok (.iload_n 0, 1) := by decide +kernel
theorem dJ6_bitCount_0f7a4_2 : decode cJ6_bitCount_0f7a4 2 = .ok (.iconst 1, 1) := by decide +kernel
theorem dJ6_bitCount_0f7a4_3 : decode cJ6_bitCount_0f7a4 3 = .ok (.iushr, 1) := by decide +kernel
theorem dJ6_bitCount_0f7a4_4 : decode cJ6_bitCount_0f7a4 4 = .ok (.ldc_w 265, 3) := by decide +kernel
theorem dJ6_bitCount_0f7a4_7 : decode cJ6_bitCount_0f7a4 7 = .ok (.iand, 1) := by decide +kernel
theorem dJ6_bitCount_0f7a4_8 : decode cJ6_bitCount_0f7a4 8 = .ok (.isub, 1) := by decide +kernel
theorem dJ6_bitCount_0f7a4_9 : decode cJ6_bitCount_0f7a4 9 = .ok (.istore_n 0, 1) := by decide +kernel
theorem dJ6_bitCount_0f7a4_10 : decode cJ6_bitCount_0f7a4 10 = .ok (.iload_n 0, 1) := by decide +kernel
theorem dJ6_bitCount_0f7a4_11 : decode cJ6_bitCount_0f7a4 11 = .ok (.ldc_w 266, 3) := by decide +kernel
theorem dJ6_bitCount_0f7a4_14 : decode cJ6_bitCount_0f7a4 14 = .ok (.iand, 1) := by decide +kernel
theorem dJ6_bitCount_0f7a4_15 : decode cJ6_bitCount_0f7a4 15 = .ok (.iload_n 0, 1) := by decide +kernel
theorem dJ6_bitCount_0f7a4_16 : decode cJ6_bitCount_0f7a4 16 = .ok (.iconst 2, 1) := by decide +kernel
theorem dJ6_bitCount_0f7a4_17 : decode cJ6_bitCount_0f7a4 17 = .ok (.iushr, 1) := by decide +kernel
theorem dJ6_bitCount_0f7a4_18 : decode cJ6_bitCount_0f7a4 18 = .ok (.ldc_w 266, 3) := by decide +kernel
theorem dJ6_bitCount_0f7a4_21 : decode cJ6_bitCount_0f7a4 21 = .ok (.iand, 1) := by decide +kernel
theorem dJ6_bitCount_0f7a4_22 : decode cJ6_bitCount_0f7a4 22 = .ok (.iadd, 1) := by decide +kernel
theorem dJ6_bitCount_0f7a4_23 : decode cJ6_bitCount_0f7a4 23 = .ok (.istore_n 0, 1) := by decide +kernel
theorem dJ6_bitCount_0f7a4_24 : decode cJ6_bitCount_0f7a4 24 = .ok (.iload_n 0, 1) := by decide +kernel
theorem dJ6_bitCount_0f7a4_25 : decode cJ6_bitCount_0f7a4 25 = .ok (.iload_n 0, 1) := by decide +kernel
theorem dJ6_bitCount_0f7a4_26 : decode cJ6_bitCount_0f7a4 26 = .ok (.iconst 4, 1) := by decide +kernel
theorem dJ6_bitCount_0f7a4_27 : decode cJ6_bitCount_0f7a4 27 = .ok (.iushr, 1) := by decide +kernel
theorem dJ6_bitCount_0f7a4_28 : decode cJ6_bitCount_0f7a4 28 = .ok (.iadd, 1) := by decide +kernel
theorem dJ6_bitCount_0f7a4_29 : decode cJ6_bitCount_0f7a4 29 = .ok (.ldc_w 267, 3) := by decide +kernel
theorem dJ6_bitCount_0f7a4_32 : decode cJ6_bitCount_0f7a4 32 = .ok (.iand, 1) := by decide +kernel
theorem dJ6_bitCount_0f7a4_33 : decode cJ6_bitCount_0f7a4 33 = .ok (.istore_n 0, 1) := by decide +kernel
theorem dJ6_bitCount_0f7a4_34 : decode cJ6_bitCount_0f7a4 34 = .ok (.iload_n 0, 1) := by decide +kernel
theorem dJ6_bitCount_0f7a4_35 : decode cJ6_bitCount_0f7a4 35 = .ok (.iload_n 0, 1) := by decide +kernel
theorem dJ6_bitCount_0f7a4_36 : decode cJ6_bitCount_0f7a4 36 = .ok (.bipush 8, 2) := by decide +kernel
theorem dJ6_bitCount_0f7a4_38 : decode cJ6_bitCount_0f7a4 38 = .ok (.iushr, 1) := by decide +kernel
theorem dJ6_bitCount_0f7a4_39 : decode cJ6_bitCount_0f7a4 39 = .ok (.iadd, 1) := by decide +kernel
theorem dJ6_bitCount_0f7a4_40 : decode cJ6_bitCount_0f7a4 40 = .ok (.istore_n 0, 1) := by decide +kernel
theorem dJ6_bitCount_0f7a4_41 : decode cJ6_bitCount_0f7a4 41 = .ok (.iload_n 0, 1) := by decide +kernel
theorem dJ6_bitCount_0f7a4_42 : decode cJ6_bitCount_0f7a4 42 = .ok (.iload_n 0, 1) := by decide +kernel
theorem dJ6_bitCount_0f7a4_43 : decode cJ6_bitCount_0f7a4 43 = .ok (.bipush 16, 2) := by decide +kernel
theorem dJ6_bitCount_0f7a4_45 : decode cJ6_bitCount_0f7a4 45 = .ok (.iushr, 1) := by decide +kernel
theorem dJ6_bitCount_0f7a4_46 : decode cJ6_bitCount_0f7a4 46 = .ok (.iadd, 1) := by decide +kernel
theorem dJ6_bitCount_0f7a4_47 : decode cJ6_bitCount_0f7a4 47 = .ok (.istore_n 0, 1) := by decide +kernel
theorem dJ6_bitCount_0f7a4_48 : decode cJ6_bitCount_0f7a4 48 = .ok (.iload_n 0, 1) := by decide +kernel
theorem dJ6_bitCount_0f7a4_49 : decode cJ6_bitCount_0f7a4 49 = .ok (.bipush 63, 2) := by decide +kernel
theorem dJ6_bitCount_0f7a4_51 : decode cJ6_bitCount_0f7a4 51 = .ok (.iand, 1) := by decide +kernel
theorem dJ6_bitCount_0f7a4_52 : decode cJ6_bitCount_0f7a4 52 = .ok (.ireturn, 1) := by decide +kernel
theorem dJ9_floorMod_7cf53_0 : decode cJ9_floorMod_7cf53 0 = .ok (.iload_n 0, 1) := by decide +kernel
theorem dJ9_floorMod_7cf53_1 : decode cJ9_floorMod_7cf53 1 = .ok (.iload_n 1, 1) := by decide +kernel
theorem dJ9_floorMod_7cf53_2 : decode cJ9_floorMod_7cf53 2 = .ok (.irem, 1) := by decide +kernel
theorem dJ9_floorMod_7cf53_3 : decode cJ9_floorMod_7cf53 3 = .ok (.istore_n 2, 1) := by decide +kernel
theorem dJ9_floorMod_7cf53_4 : decode cJ9_floorMod_7cf53 4 = .ok (.iload_n 0, 1) := by decide +kernel
theorem dJ9_floorMod_7cf53_5 : decode cJ9_floorMod_7cf53 5 = .ok (.iload_n 1, 1) := by decide +kernel
theorem dJ9_floorMod_7cf53_6 : decode cJ9_floorMod_7cf53 6 = .ok (.ixor, 1) := by decide +kernel
theorem dJ9_floorMod_7cf53_7 : decode cJ9_floorMod_7cf53 7 = .ok (.ifCond .ge 11, 3) := by decide +kernel
theorem dJ9_floorMod_7cf53_10 : decode cJ9_floorMod_7cf53 10 = .ok (.iload_n 2, 1) := by decide +kernel
theorem dJ9_floorMod_7cf53_11 : decode cJ9_floorMod_7cf53 11 = .ok (.ifCond .eq 7, 3) := by decide +kernel
theorem dJ9_floorMod_7cf53_14 : decode cJ9_floorMod_7cf53 14 = .ok (.iload_n 2, 1) := by decide +kernel
theorem dJ9_floorMod_7cf53_15 : decode cJ9_floorMod_7cf53 15 = .ok (.iload_n 1, 1) := by decide +kernel
theorem dJ9_floorMod_7cf53_16 : decode cJ9_floorMod_7cf53 16 = .ok (.iadd, 1) := by decide +kernel
theorem dJ9_floorMod_7cf53_17 : decode cJ9_floorMod_7cf53 17 = .ok (.ireturn, 1) := by decide +kernel
theorem dJ9_floorMod_7cf53_18 : decode cJ9_floorMod_7cf53 18 = .ok (.iload_n 2, 1) := by decide +kernel
theorem dJ9_floorMod_7cf53_19 : decode cJ9_floorMod_7cf53 19 = .ok (.ireturn, 1) := by decide +kernel
theorem dJ9_max_7cf53_0 : decode cJ9_max_7cf53 0 = .ok (.iload_n 0, 1) := by decide +kernel
theorem dJ9_max_7cf53_1 : decode cJ9_max_7cf53 1 = .ok (.iload_n 1, 1) := by decide +kernel
theorem dJ9_max_7cf53_2 : decode cJ9_max_7cf53 2 = .ok (.if_icmp .lt 7, 3) := by decide +kernel
theorem dJ9_max_7cf53_5 : decode cJ9_max_7cf53 5 = .ok (.iload_n 0, 1) := by decide +kernel
theorem dJ9_max_7cf53_6 : decode cJ9_max_7cf53 6 = .ok (.goto 4, 3) := by decide +kernel
theorem dJ9_max_7cf53_9 : decode cJ9_max_7cf53 9 = .ok (.iload_n 1, 1) := by decide +kernel
theorem dJ9_max_7cf53_10 : decode cJ9_max_7cf53 10 = .ok (.ireturn, 1) := by decide +kernel
theorem dJ9_min_7cf53_0 : decode cJ9_min_7cf53 0 = .ok (.iload_n 0, 1) := by decide +kernel
theorem dJ9_min_7cf53_1 : decode cJ9_min_7cf53 1 = .ok (.iload_n 1, 1) := by decide +kernel
theorem dJ9_min_7cf53_2 : decode cJ9_min_7cf53 2 = .ok (.if_icmp .gt 7, 3) := by decide +kernel
theorem dJ9_min_7cf53_5 : decode cJ9_min_7cf53 5 = .ok (.iload_n 0, 1) := by decide +kernel
theorem dJ9_min_7cf53_6 : decode cJ9_min_7cf53 6 = .ok (.goto 4, 3) := by decide +kernel
theorem dJ9_min_7cf53_9 : decode cJ9_min_7cf53 9 = .ok (.iload_n 1, 1) := by decide +kernel
theorem dJ9_min_7cf53_10 : decode cJ9_min_7cf53 10 = .ok (.ireturn, 1) := by decide +kernel
theorem dJ0_init_81219_0 : decode cJ0_init_81219 0 = .ok (.aload_n 0, 1) := by decide +kernel
theorem dJ0_init_81219_1 : decode cJ0_init_81219 1 = .ok (.aload_n 1, 1) := by decide +kernel
theorem dJ0_init_81219_2 : decode cJ0_init_81219 2 = .ok (.aconst_null, 1) := by decide +kernel
theorem dJ0_init_81219_3 : decode cJ0_init_81219 3 = .ok (.invokespecial 489, 3) := by decide +kernel
theorem dJ0_init_81219_6 : decode cJ0_init_81219 6 = .ok (.return_, 1) := by decide +kernel
theorem dJ0_length_8abf5_0 : decode cJ0_length_8abf5 0 = .ok (.aload_n 0, 1) := by decide +kernel
theorem dJ0_length_8abf5_1 : decode cJ0_length_8abf5 1 = .ok (.getfield 9, 3) := by decide +kernel
theorem dJ0_length_8abf5_4 : decode cJ0_length_8abf5 4 = .ok (.arraylength, 1) := by decide +kernel
theorem dJ0_length_8abf5_5 : decode cJ0_length_8abf5 5 = .ok (.aload_n 0, 1) := by decide +kernel
theorem dJ0_length_8abf5_6 : decode cJ0_length_8abf5 6 = .ok (.invokevirtual 335, 3) := by decide +kernel
theorem dJ0_length_8abf5_9 : decode cJ0_length_8abf5 9 = .ok (.ishr, 1) := by decide +kernel
theorem dJ0_length_8abf5_10 : decode cJ0_length_8abf5 10 = .ok (.ireturn, 1) := by decide +kernel
theorem dJ0_charAt_5068e_0 : decode cJ0_charAt_5068e 0 = .ok (.aload_n 0, 1) := by decide +kernel
theorem dJ0_charAt_5068e_1 : decode cJ0_charAt_5068e 1 = .ok (.invokevirtual 492, 3) := by decide +kernel
theorem dJ0_charAt_5068e_4 : decode cJ0_charAt_5068e 4 = .ok (.ifCond .eq 12, 3) := by decide +kernel
theorem dJ0_charAt_5068e_7 : decode cJ0_charAt_5068e 7 = .ok (.aload_n 0, 1) := by decide +kernel
theorem dJ0_charAt_5068e_8 : decode cJ0_charAt_5068e 8 = .ok (.getfield 9, 3) := by decide +kernel
theorem dJ0_charAt_5068e_11 : decode cJ0_charAt_5068e 11 = .ok (.iload_n 1, 1) := by decide +kernel
theorem dJ0_charAt_5068e_12 : decode cJ0_charAt_5068e 12 = .ok (.invokestatic 495, 3) := by decide +kernel
theorem dJ0_charAt_5068e_15 : decode cJ0_charAt_5068e 15 = .ok (.ireturn, 1) := by decide +kernel
theorem dJ0_charAt_5068e_16 : decode cJ0_charAt_5068e 16 = .ok (.aload_n 0, 1) := by decide +kernel
theorem dJ0_charAt_5068e_17 : decode cJ0_charAt_5068e 17 = .ok (.getfield 9, 3) := by decide +kernel
theorem dJ0_charAt_5068e_20 : decode cJ0_charAt_5068e 20 = .ok (.iload_n 1, 1) := by decide +kernel
theorem dJ0_charAt_5068e_21 : decode cJ0_charAt_5068e 21 = .ok (.invokestatic 498, 3) := by decide +kernel
theorem dJ0_charAt_5068e_24 : decode cJ0_charAt_5068e 24 = .ok (.ireturn, 1) := by decide +kernel
theorem dJ0_getBytes_840e7_0 : decode cJ0_getBytes_840e7 0 = .ok (.aload_n 0, 1) := by decide +kernel
theorem dJ0_getBytes_840e7_1 : decode cJ0_getBytes_840e7 1 = .ok (.invokevirtual 335, 3) := by decide +kernel
theorem dJ0_getBytes_840e7_4 : decode cJ0_getBytes_840e7 4 = .ok (.iload_n 3, 1) := by decide +kernel
theorem dJ0_getBytes_840e7_5 : decode cJ0_getBytes_840e7 5 = .ok (.if_icmp .ne 23, 3) := by decide +kernel
theorem dJ0_getBytes_840e7_8 : decode cJ0_getBytes_840e7 8 = .ok (.aload_n 0, 1) := by decide +kernel
theorem dJ0_getBytes_840e7_9 : decode cJ0_getBytes_840e7 9 = .ok (.getfield 9, 3) := by decide +kernel
theorem dJ0_getBytes_840e7_12 : decode cJ0_getBytes_840e7 12 = .ok (.iconst 0, 1) := by decide +kernel
theorem dJ0_getBytes_840e7_13 : decode cJ0_getBytes_840e7 13 = .ok (.aload_n 1, 1) := by decide +kernel
theorem dJ0_getBytes_840e7_14 : decode cJ0_getBytes_840e7 14 = .ok (.iload_n 2, 1) := by decide +kernel
theorem dJ0_getBytes_840e7_15 : decode cJ0_getBytes_840e7 15 = .ok (.iload_n 3, 1) := by decide +kernel
theorem dJ0_getBytes_840e7_16 : decode cJ0_getBytes_840e7 16 = .ok (.ishl, 1) := by decide +kernel
theorem dJ0_getBytes_840e7_17 : decode cJ0_getBytes_840e7 17 = .ok (.aload_n 0, 1) := by decide +kernel
theorem dJ0_getBytes_840e7_18 : decode cJ0_getBytes_840e7 18 = .ok (.getfield 9, 3) := by decide +kernel
theorem dJ0_getBytes_840e7_21 : decode cJ0_getBytes_840e7 21 = .ok (.arraylength, 1) := by decide +kernel
theorem dJ0_getBytes_840e7_22 : decode cJ0_getBytes_840e7 22 = .ok (.invokestatic 212, 3) := by decide +kernel
theorem dJ0_getBytes_840e7_25 : decode cJ0_getBytes_840e7 25 = .ok (.goto 18, 3) := by decide +kernel
theorem dJ0_getBytes_840e7_28 : decode cJ0_getBytes_840e7 28 = .ok (.aload_n 0, 1) := by decide +kernel
theorem dJ0_getBytes_840e7_29 : decode cJ0_getBytes_840e7 29 = .ok (.getfield 9, 3) := by decide +kernel
theorem dJ0_getBytes_840e7_32 : decode cJ0_getBytes_840e7 32 = .ok (.iconst 0, 1) := by decide +kernel
theorem dJ0_getBytes_840e7_33 : decode cJ0_getBytes_840e7 33 = .ok (.aload_n 1, 1) := by decide +kernel
theorem dJ0_getBytes_840e7_34 : decode cJ0_getBytes_840e7 34 = .ok (.iload_n 2, 1) := by decide +kernel
theorem dJ0_getBytes_840e7_35 : decode cJ0_getBytes_840e7 35 = .ok (.aload_n 0, 1) := by decide +kernel
theorem dJ0_getBytes_840e7_36 : decode cJ0_getBytes_840e7 36 = .ok (.getfield 9, 3) := by decide +kernel
theorem dJ0_getBytes_840e7_39 : decode cJ0_getBytes_840e7 39 = .ok (.arraylength, 1) := by decide +kernel
theorem dJ0_getBytes_840e7_40 : decode cJ0_getBytes_840e7 40 = .ok (.invokestatic 106, 3) := by decide +kernel
theorem dJ0_getBytes_840e7_43 : decode cJ0_getBytes_840e7 43 = .ok (.return_, 1) := by decide +kernel
theorem dJ0_init_db425_0 : decode cJ0_init_db425 0 = .ok (.aload_n 0, 1) := by decide +kernel
theorem dJ0_init_db425_1 : decode cJ0_init_db425 1 = .ok (.invokespecial 1, 3) := by decide +kernel
theorem dJ0_init_db425_4 : decode cJ0_init_db425 4 = .ok (.aload_n 1, 1) := by decide +kernel
theorem dJ0_init_db425_5 : decode cJ0_init_db425 5 = .ok (.invokevirtual 552, 3) := by decide +kernel
theorem dJ0_init_db425_8 : decode cJ0_init_db425 8 = .ok (.astore_n 3, 1) := by decide +kernel
theorem dJ0_init_db425_9 : decode cJ0_init_db425 9 = .ok (.aload_n 1, 1) := by decide +kernel
theorem dJ0_init_db425_10 : decode cJ0_init_db425 10 = .ok (.invokevirtual 549, 3) := by decide +kernel
theorem dJ0_init_db425_13 : decode cJ0_init_db425 13 = .ok (.istore 4, 2) := by decide +kernel
theorem dJ0_init_db425_15 : decode cJ0_init_db425 15 = .ok (.aload_n 1, 1) := by decide +kernel
theorem dJ0_init_db425_16 : decode cJ0_init_db425 16 = .ok (.invokevirtual 1047, 3) := by decide +kernel
theorem dJ0_init_db425_19 : decode cJ0_init_db425 19 = .ok (.ifCond .eq 22, 3) := by decide +kernel
theorem dJ0_init_db425_22 : decode cJ0_init_db425 22 = .ok (.aload_n 0, 1) := by decide +kernel
theorem dJ0_init_db425_23 : decode cJ0_init_db425 23 = .ok (.iconst 0, 1) := by decide +kernel
theorem dJ0_init_db425_24 : decode cJ0_init_db425 24 = .ok (.putfield 15, 3) := by decide +kernel
theorem dJ0_init_db425_27 : decode cJ0_init_db425 27 = .ok (.aload_n 0, 1) := by decide +kernel
theorem dJ0_init_db425_28 : decode cJ0_init_db425 28 = .ok (.aload_n 3, 1) := by decide +kernel
theorem dJ0_init_db425_29 : decode cJ0_init_db425 29 = .ok (.iconst 0, 1) := by decide +kernel
theorem dJ0_init_db425_30 : decode cJ0_init_db425 30 = .ok (.iload 4, 2) := by decide +kernel
theorem dJ0_init_db425_32 : decode cJ0_init_db425 32 = .ok (.invokestatic 54, 3) := by decide +kernel
theorem dJ0_init_db425_35 : decode cJ0_init_db425 35 = .ok (.putfield 9, 3) := by decide +kernel
theorem dJ0_init_db425_38 : decode cJ0_init_db425 38 = .ok (.goto 59, 3) := by decide +kernel
theorem dJ0_init_db425_41 : decode cJ0_init_db425 41 = .ok (.getstatic 38, 3) := by decide +kernel
theorem dJ0_init_db425_44 : decode cJ0_init_db425 44 = .ok (.ifCond .eq 35, 3) := by decide +kernel
theorem dJ0_init_db425_47 : decode cJ0_init_db425 47 = .ok (.aload_n 1, 1) := by decide +kernel
theorem dJ0_init_db425_48 : decode cJ0_init_db425 48 = .ok (.getfield 1048, 3) := by decide +kernel
theorem dJ0_init_db425_51 : decode cJ0_init_db425 51 = .ok (.ifCond .eq 28, 3) := by decide +kernel
theorem dJ0_init_db425_54 : decode cJ0_init_db425 54 = .ok (.aload_n 0, 1) := by decide +kernel
theorem dJ0_init_db425_55 : decode cJ0_init_db425 55 = .ok (.aload_n 3, 1) := by decide +kernel
theorem dJ0_init_db425_56 : decode cJ0_init_db425 56 = .ok (.iconst 0, 1) := by decide +kernel
theorem dJ0_init_db425_57 : decode cJ0_init_db425 57 = .ok (.iload 4, 2) := by decide +kernel
theorem dJ0_init_db425_59 : decode cJ0_init_db425 59 = .ok (.invokestatic 1051, 3) := by decide +kernel
theorem dJ0_init_db425_62 : decode cJ0_init_db425 62 = .ok (.putfield 9, 3) := by decide +kernel
theorem dJ0_init_db425_65 : decode cJ0_init_db425 65 = .ok (.aload_n 0, 1) := by decide +kernel
theorem dJ0_init_db425_66 : decode cJ0_init_db425 66 = .ok (.aload_n 0, 1) := by decide +kernel
theorem dJ0_init_db425_67 : decode cJ0_init_db425 67 = .ok (.getfield 9, 3) := by decide +kernel
theorem dJ0_init_db425_70 : decode cJ0_init_db425 70 = .ok (.iload 4, 2) := by decide +kernel
theorem dJ0_init_db425_72 : decode cJ0_init_db425 72 = .ok (.invokestatic 47, 3) := by decide +kernel
theorem dJ0_init_db425_75 : decode cJ0_init_db425 75 = .ok (.putfield 15, 3) := by decide +kernel
theorem dJ0_init_db425_78 : decode cJ0_init_db425 78 = .ok (.return_, 1) := by decide +kernel
theorem dJ0_init_db425_79 : decode cJ0_init_db425 79 = .ok (.aload_n 0, 1) := by decide +kernel
theorem dJ0_init_db425_80 : decode cJ0_init_db425 80 = .ok (.iconst 1, 1) := by decide +kernel
theorem dJ0_init_db425_81 : decode cJ0_init_db425 81 = .ok (.putfield 15, 3) := by decide +kernel
theorem dJ0_init_db425_84 : decode cJ0_init_db425 84 = .ok (.aload_n 0, 1) := by decide +kernel
theorem dJ0_init_db425_85 : decode cJ0_init_db425 85 = .ok (.aload_n 3, 1) := by decide +kernel
theorem dJ0_init_db425_86 : decode cJ0_init_db425 86 = .ok (.iconst 0, 1) := by decide +kernel
theorem dJ0_init_db425_87 : decode cJ0_init_db425 87 = .ok (.iload 4, 2) := by decide +kernel
theorem dJ0_init_db425_89 : decode cJ0_init_db425 89 = .ok (.iconst 1, 1) := by decide +kernel
theorem dJ0_init_db425_90 : decode cJ0_init_db425 90 = .ok (.ishl, 1) := by decide +kernel
theorem dJ0_init_db425_91 : decode cJ0_init_db425 91 = .ok (.invokestatic 54, 3) := by decide +kernel
theorem dJ0_init_db425_94 : decode cJ0_init_db425 94 = .ok (.putfield 9, 3) := by decide +kernel
theorem dJ0_init_db425_97 : decode cJ0_init_db425 97 = .ok (.return_, 1) := by decide +kernel
theorem dJ0_coder_7d493_0 : decode cJ0_coder_7d493 0 = .ok (.getstatic 38, 3) := by decide +kernel
theorem dJ0_coder_7d493_3 : decode cJ0_coder_7d493 3 = .ok (.ifCond .eq 10, 3) := by decide +kernel
theorem dJ0_coder_7d493_6 : decode cJ0_coder_7d493 6 = .ok (.aload_n 0, 1) := by decide +kernel
theorem dJ0_coder_7d493_7 : decode cJ0_coder_7d493 7 = .ok (.getfield 15, 3) := by decide +kernel
theorem dJ0_coder_7d493_10 : decode cJ0_coder_7d493 10 = .ok (.goto 4, 3) := by decide +kernel
theorem dJ0_coder_7d493_13 : decode cJ0_coder_7d493 13 = .ok (.iconst 1, 1) := by decide +kernel
theorem dJ0_coder_7d493_14 : decode cJ0_coder_7d493 14 = .ok (.ireturn, 1) := by decide +kernel
theorem dJ0_isLatin1_aae02_0 : decode cJ0_isLatin1_aae02 0 = .ok (.getstatic 38, 3) := by decide +kernel
theorem dJ0_isLatin1_aae02_3 : decode cJ0_isLatin1_aae02 3 = .ok (.ifCond .eq 14, 3) := by decide +kernel
theorem dJ0_isLatin1_aae02_6 : decode cJ0_isLatin1_aae02 6 = .ok (.aload_n 0, 1) := by decide +kernel
theorem dJ0_isLatin1_aae02_7 : decode cJ0_isLatin1_aae02 7 = .ok (.getfield 15, 3) := by decide +kernel
theorem dJ0_isLatin1_aae02_10 : decode cJ0_isLatin1_aae02 10 = .ok (.ifCond .ne 7, 3) := by decide +kernel
theorem dJ0_isLatin1_aae02_13 : decode cJ0_isLatin1_aae02 13 = .ok (.iconst 1, 1) := by decide +kernel
theorem dJ0_isLatin1_aae02_14 : decode cJ0_isLatin1_aae02 14 = .ok (.goto 4, 3) := by decide +kernel
theorem dJ0_isLatin1_aae02_17 : decode cJ0_isLatin1_aae02 17 = .ok (.iconst 0, 1) := by decide +kernel
theorem dJ0_isLatin1_aae02_18 : decode cJ0_isLatin1_aae02 18 = .ok (.ireturn, 1) := by decide +kernel
theorem dJ0_checkIndex_df160_0 : decode cJ0_checkIndex_df160 0 = .ok (.iload_n 0, 1) := by decide +kernel
theorem dJ0_checkIndex_df160_1 : decode cJ0_checkIndex_df160 1 = .ok (.iload_n 1, 1) := by decide +kernel
theorem dJ0_checkIndex_df160_2 : decode cJ0_checkIndex_df160 2 = .ok (.getstatic 1053, 3) := by decide +kernel
theorem dJ0_checkIndex_df160_5 : decode cJ0_checkIndex_df160 5 = .ok (.invokestatic 1059, 3) := by decide +kernel
theorem dJ0_checkIndex_df160_8 : decode cJ0_checkIndex_df160 8 = .ok (.pop, 1) := by decide +kernel
theorem dJ0_checkIndex_df160_9 : decode cJ0_checkIndex_df160 9 = .ok (.return_, 1) := by decide +kernel
theorem dJ0_checkBoundsOffCount_cabcc_0 : decode cJ0_checkBoundsOffCount_cabcc 0 = .ok (.iload_n 0, 1) := by decide +kernel
theorem dJ0_checkBoundsOffCount_cabcc_1 : decode cJ0_checkBoundsOffCount_cabcc 1 = .ok (.iload_n 1, 1) := by decide +kernel
theorem dJ0_checkBoundsOffCount_cabcc_2 : decode cJ0_checkBoundsOffCount_cabcc 2 = .ok (.iload_n 2, 1) := by decide +kernel
theorem dJ0_checkBoundsOffCount_cabcc_3 : decode cJ0_checkBoundsOffCount_cabcc 3 = .ok (.getstatic 1053, 3) := by decide +kernel
theorem dJ0_checkBoundsOffCount_cabcc_6 : decode cJ0_checkBoundsOffCount_cabcc 6 = .ok (.invokestatic 1065, 3) := by decide +kernel
theorem dJ0_checkBoundsOffCount_cabcc_9 : decode cJ0_checkBoundsOffCount_cabcc 9 = .ok (.ireturn, 1) := by decide +kernel
theorem dJ0_checkBoundsBeginEnd_23922_0 : decode cJ0_checkBoundsBeginEnd_23922 0 = .ok (.iload_n 0, 1) := by decide +kernel
theorem dJ0_checkBoundsBeginEnd_23922_1 : decode cJ0_checkBoundsBeginEnd_23922 1 = .ok (.iload_n 1, 1) := by decide +kernel
theorem dJ0_checkBoundsBeginEnd_23922_2 : decode cJ0_checkBoundsBeginEnd_23922 2 = .ok (.iload_n 2, 1) := by decide +kernel
theorem dJ0_checkBoundsBeginEnd_23922_3 : decode cJ0_checkBoundsBeginEnd_23922 3 = .ok (.getstatic 1053, 3) := by decide +kernel
theorem dJ0_checkBoundsBeginEnd_23922_6 : decode cJ0_checkBoundsBeginEnd_23922 6 = .ok (.invokestatic 1062, 3) := by decide +kernel
theorem dJ0_checkBoundsBeginEnd_23922_9 : decode cJ0_checkBoundsBeginEnd_23922 9 = .ok (.pop, 1) := by decide +kernel
theorem dJ0_checkBoundsBeginEnd_23922_10 : decode cJ0_checkBoundsBeginEnd_23922 10 = .ok (.return_, 1) := by decide +kernel
theorem dJ4_init_da8c8_0 : decode cJ4_init_da8c8 0 = .ok (.aload_n 0, 1) := by decide +kernel
theorem dJ4_init_da8c8_1 : decode cJ4_init_da8c8 1 = .ok (.bipush 16, 2) := by decide +kernel
theorem dJ4_init_da8c8_3 : decode cJ4_init_da8c8 3 = .ok (.invokespecial 1, 3) := by decide +kernel
theorem dJ4_init_da8c8_6 : decode cJ4_init_da8c8 6 = .ok (.return_, 1) := by decide +kernel
theorem dJ4_append_15ec4_0 : decode cJ4_append_15ec4 0 = .ok (.aload_n 0, 1) := by decide +kernel
theorem dJ4_append_15ec4_1 : decode cJ4_append_15ec4 1 = .ok (.aload_n 1, 1) := by decide +kernel
theorem dJ4_append_15ec4_2 : decode cJ4_append_15ec4 2 = .ok (.invokespecial 29, 3) := by decide +kernel
theorem dJ4_append_15ec4_5 : decode cJ4_append_15ec4 5 = .ok (.pop, 1) := by decide +kernel
theorem dJ4_append_15ec4_6 : decode cJ4_append_15ec4 6 = .ok (.aload_n 0, 1) := by decide +kernel
theorem dJ4_append_15ec4_7 : decode cJ4_append_15ec4 7 = .ok (.areturn, 1) := by decide +kernel
theorem dJ4_append_bf812_0 : decode cJ4_append_bf812 0 = .ok (.aload_n 0, 1) := by decide +kernel
theorem dJ4_append_bf812_1 : decode cJ4_append_bf812 1 = .ok (.iload_n 1, 1) := by decide +kernel
theorem dJ4_append_bf812_2 : decode cJ4_append_bf812 2 = .ok (.invokespecial 53, 3) := by decide +kernel
theorem dJ4_append_bf812_5 : decode cJ4_append_bf812 5 = .ok (.pop, 1) := by decide +kernel
theorem dJ4_append_bf812_6 : decode cJ4_append_bf812 6 = .ok (.aload_n 0, 1) := by decide +kernel
theorem dJ4_append_bf812_7 : decode cJ4_append_bf812 7 = .ok (.areturn, 1) := by decide +kernel
theorem dJ4_toString_0e30d_0 : decode cJ4_toString_0e30d 0 = .ok (.new 18, 3) := by decide +kernel
theorem dJ4_toString_0e30d_3 : decode cJ4_toString_0e30d 3 = .ok (.dup, 1) := by decide +kernel
theorem dJ4_toString_0e30d_4 : decode cJ4_toString_0e30d 4 = .ok (.aload_n 0, 1) := by decide +kernel
theorem dJ4_toString_0e30d_5 : decode cJ4_toString_0e30d 5 = .ok (.invokespecial 137, 3) := by decide +kernel
theorem dJ4_toString_0e30d_8 : decode cJ4_toString_0e30d 8 = .ok (.areturn, 1) := by decide +kernel
theorem dJ4_length_8abf5_0 : decode cJ4_length_8abf5 0 = .ok (.aload_n 0, 1) := by decide +kernel
theorem dJ4_length_8abf5_1 : decode cJ4_length_8abf5 1 = .ok (.invokespecial 343, 3) := by decide +kernel
theorem dJ4_length_8abf5_4 : decode cJ4_length_8abf5 4 = .ok (.ireturn, 1) := by decide +kernel
theorem dJ1_charAt_3b067_0 : decode cJ1_charAt_3b067 0 = .ok (.iload_n 1, 1) := by decide +kernel
theorem dJ1_charAt_3b067_1 : decode cJ1_charAt_3b067 1 = .ok (.aload_n 0, 1) := by decide +kernel
theorem dJ1_charAt_3b067_2 : decode cJ1_charAt_3b067 2 = .ok (.arraylength, 1) := by decide +kernel
theorem dJ1_charAt_3b067_3 : decode cJ1_charAt_3b067 3 = .ok (.invokestatic 9, 3) := by decide +kernel
theorem dJ1_charAt_3b067_6 : decode cJ1_charAt_3b067 6 = .ok (.aload_n 0, 1) := by decide +kernel
theorem dJ1_charAt_3b067_7 : decode cJ1_charAt_3b067 7 = .ok (.iload_n 1, 1) := by decide +kernel
theorem dJ1_charAt_3b067_8 : decode cJ1_charAt_3b067 8 = .ok (.baload, 1) := by decide +kernel
theorem dJ1_charAt_3b067_9 : decode cJ1_charAt_3b067 9 = .ok (.sipush 255, 3) := by decide +kernel
theorem dJ1_charAt_3b067_12 : decode cJ1_charAt_3b067 12 = .ok (.iand, 1) := by decide +kernel
theorem dJ1_charAt_3b067_13 : decode cJ1_charAt_3b067 13 = .ok (.i2c, 1) := by decide +kernel
theorem dJ1_charAt_3b067_14 : decode cJ1_charAt_3b067 14 = .ok (.ireturn, 1) := by decide +kernel
theorem dJ1_inflate_0e8fd_0 : decode cJ1_inflate_0e8fd 0 = .ok (.aload_n 0, 1) := by decide +kernel
theorem dJ1_inflate_0e8fd_1 : decode cJ1_inflate_0e8fd 1 = .ok (.iload_n 1, 1) := by decide +kernel
theorem dJ1_inflate_0e8fd_2 : decode cJ1_inflate_0e8fd 2 = .ok (.aload_n 2, 1) := by decide +kernel
theorem dJ1_inflate_0e8fd_3 : decode cJ1_inflate_0e8fd 3 = .ok (.iload_n 3, 1) := by decide +kernel
theorem dJ1_inflate_0e8fd_4 : decode cJ1_inflate_0e8fd 4 = .ok (.iload 4, 2) := by decide +kernel
theorem dJ1_inflate_0e8fd_6 : decode cJ1_inflate_0e8fd 6 = .ok (.invokestatic 240, 3) := by decide +kernel
theorem dJ1_inflate_0e8fd_9 : decode cJ1_inflate_0e8fd 9 = .ok (.return_, 1) := by decide +kernel
theorem dJ2_newBytesFor_77867_0 : decode cJ2_newBytesFor_77867 0 = .ok (.iload_n 0, 1) := by decide +kernel
theorem dJ2_newBytesFor_77867_1 : decode cJ2_newBytesFor_77867 1 = .ok (.invokestatic 11, 3) := by decide +kernel
theorem dJ2_newBytesFor_77867_4 : decode cJ2_newBytesFor_77867 4 = .ok (.newarray .byte, 2) := by decide +kernel
theorem dJ2_newBytesFor_77867_6 : decode cJ2_newBytesFor_77867 6 = .ok (.areturn, 1) := by decide +kernel
theorem dJ2_newBytesLength_0f7a4_0 : decode cJ2_newBytesLength_0f7a4 0 = .ok (.iload_n 0, 1) := by decide +kernel
theorem dJ2_newBytesLength_0f7a4_1 : decode cJ2_newBytesLength_0f7a4 1 = .ok (.ifCond .ge 11, 3) := by decide +kernel
theorem dJ2_newBytesLength_0f7a4_4 : decode cJ2_newBytesLength_0f7a4 4 = .ok (.new 17, 3) := by decide +kernel
theorem dJ2_newBytesLength_0f7a4_7 : decode cJ2_newBytesLength_0f7a4 7 = .ok (.dup, 1) := by decide +kernel
theorem dJ2_newBytesLength_0f7a4_8 : decode cJ2_newBytesLength_0f7a4 8 = .ok (.invokespecial 19, 3) := by decide +kernel
theorem dJ2_newBytesLength_0f7a4_11 : decode cJ2_newBytesLength_0f7a4 11 = .ok (.athrow, 1) := by decide +kernel
theorem dJ2_newBytesLength_0f7a4_12 : decode cJ2_newBytesLength_0f7a4 12 = .ok (.iload_n 0, 1) := by decide +kernel
theorem dJ2_newBytesLength_0f7a4_13 : decode cJ2_newBytesLength_0f7a4 13 = .ok (.ldc 20, 2) := by decide +kernel
theorem dJ2_newBytesLength_0f7a4_15 : decode cJ2_newBytesLength_0f7a4 15 = .ok (.if_icmp .lt 40, 3) := by decide +kernel
theorem dJ2_newBytesLength_0f7a4_18 : decode cJ2_newBytesLength_0f7a4 18 = .ok (.new 21, 3) := by decide +kernel
theorem dJ2_newBytesLength_0f7a4_21 : decode cJ2_newBytesLength_0f7a4 21 = .ok (.dup, 1) := by decide +kernel
theorem dJ2_newBytesLength_0f7a4_22 : decode cJ2_newBytesLength_0f7a4 22 = .ok (.new 23, 3) := by decide +kernel
theorem dJ2_newBytesLength_0f7a4_25 : decode cJ2_newBytesLength_0f7a4 25 = .ok (.dup, 1) := by decide +kernel
theorem dJ2_newBytesLength_0f7a4_26 : decode cJ2_newBytesLength_0f7a4 26 = .ok (.invokespecial 25, 3) := by decide +kernel
theorem dJ2_newBytesLength_0f7a4_29 : decode cJ2_newBytesLength_0f7a4 29 = .ok (.ldc 26, 2) := by decide +kernel
theorem dJ2_newBytesLength_0f7a4_31 : decode cJ2_newBytesLength_0f7a4 31 = .ok (.invokevirtual 28, 3) := by decide +kernel
theorem dJ2_newBytesLength_0f7a4_34 : decode cJ2_newBytesLength_0f7a4 34 = .ok (.iload_n 0, 1) := by decide +kernel
theorem dJ2_newBytesLength_0f7a4_35 : decode cJ2_newBytesLength_0f7a4 35 = .ok (.invokevirtual 32, 3) := by decide +kernel
theorem dJ2_newBytesLength_0f7a4_38 : decode cJ2_newBytesLength_0f7a4 38 = .ok (.ldc 35, 2) := by decide +kernel
theorem dJ2_newBytesLength_0f7a4_40 : decode cJ2_newBytesLength_0f7a4 40 = .ok (.invokevirtual 28, 3) := by decide +kernel
theorem dJ2_newBytesLength_0f7a4_43 : decode cJ2_newBytesLength_0f7a4 43 = .ok (.ldc 20, 2) := by decide +kernel
theorem dJ2_newBytesLength_0f7a4_45 : decode cJ2_newBytesLength_0f7a4 45 = .ok (.invokevirtual 32, 3) := by decide +kernel
theorem dJ2_newBytesLength_0f7a4_48 : decode cJ2_newBytesLength_0f7a4 48 = .ok (.invokevirtual 37, 3) := by decide +kernel
theorem dJ2_newBytesLength_0f7a4_51 : decode cJ2_newBytesLength_0f7a4 51 = .ok (.invokespecial 41, 3) := by decide +kernel
theorem dJ2_newBytesLength_0f7a4_54 : decode cJ2_newBytesLength_0f7a4 54 = .ok (.athrow, 1) := by decide +kernel
theorem dJ2_newBytesLength_0f7a4_55 : decode cJ2_newBytesLength_0f7a4 55 = .ok (.iload_n 0, 1) := by decide +kernel
theorem dJ2_newBytesLength_0f7a4_56 : decode cJ2_newBytesLength_0f7a4 56 = .ok (.iconst 1, 1) := by decide +kernel
theorem dJ2_newBytesLength_0f7a4_57 : decode cJ2_newBytesLength_0f7a4 57 = .ok (.ishl, 1) := by decide +kernel
theorem dJ2_newBytesLength_0f7a4_58 : decode cJ2_newBytesLength_0f7a4 58 = .ok (.ireturn, 1) := by decide +kernel
theorem dJ2_putChar_b72d1_0 : decode cJ2_putChar_b72d1 0 = .ok (.getstatic 44, 3) := by decide +kernel
theorem dJ2_putChar_b72d1_3 : decode cJ2_putChar_b72d1 3 = .ok (.ifCond .ne 25, 3) := by decide +kernel
theorem dJ2_putChar_b72d1_6 : decode cJ2_putChar_b72d1 6 = .ok (.iload_n 1, 1) := by decide +kernel
theorem dJ2_putChar_b72d1_7 : decode cJ2_putChar_b72d1 7 = .ok (.ifCond .lt 11, 3) := by decide +kernel
theorem dJ2_putChar_b72d1_10 : decode cJ2_putChar_b72d1 10 = .ok (.iload_n 1, 1) := by decide +kernel
theorem dJ2_putChar_b72d1_11 : decode cJ2_putChar_b72d1 11 = .ok (.aload_n 0, 1) := by decide +kernel
theorem dJ2_putChar_b72d1_12 : decode cJ2_putChar_b72d1 12 = .ok (.invokestatic 48, 3) := by decide +kernel
theorem dJ2_putChar_b72d1_15 : decode cJ2_putChar_b72d1 15 = .ok (.if_icmp .lt 13, 3) := by decide +kernel
theorem dJ2_putChar_b72d1_18 : decode cJ2_putChar_b72d1 18 = .ok (.new 52, 3) := by decide +kernel
theorem dJ2_putChar_b72d1_21 : decode cJ2_putChar_b72d1 21 = .ok (.dup, 1) := by decide +kernel
theorem dJ2_putChar_b72d1_22 : decode cJ2_putChar_b72d1 22 = .ok (.ldc 54, 2) := by decide +kernel
theorem dJ2_putChar_b72d1_24 : decode cJ2_putChar_b72d1 24 = .ok (.invokespecial 56, 3) := by decide +kernel
theorem dJ2_putChar_b72d1_27 : decode cJ2_putChar_b72d1 27 = .ok (.athrow, 1) := by decide +kernel
theorem dJ2_putChar_b72d1_28 : decode cJ2_putChar_b72d1 28 = .ok (.iload_n 1, 1) := by decide +kernel
theorem dJ2_putChar_b72d1_29 : decode cJ2_putChar_b72d1 29 = .ok (.iconst 1, 1) := by decide +kernel
theorem dJ2_putChar_b72d1_30 : decode cJ2_putChar_b72d1 30 = .ok (.ishl, 1) := by decide +kernel
theorem dJ2_putChar_b72d1_31 : decode cJ2_putChar_b72d1 31 = .ok (.istore_n 1, 1) := by decide +kernel
theorem dJ2_putChar_b72d1_32 : decode cJ2_putChar_b72d1 32 = .ok (.aload_n 0, 1) := by decide +kernel
theorem dJ2_putChar_b72d1_33 : decode cJ2_putChar_b72d1 33 = .ok (.iload_n 1, 1) := by decide +kernel
theorem dJ2_putChar_b72d1_34 : decode cJ2_putChar_b72d1 34 = .ok (.iinc 1 1, 3) := by decide +kernel
theorem dJ2_putChar_b72d1_37 : decode cJ2_putChar_b72d1 37 = .ok (.iload_n 2, 1) := by decide +kernel
theorem dJ2_putChar_b72d1_38 : decode cJ2_putChar_b72d1 38 = .ok (.getstatic 59, 3) := by decide +kernel
theorem dJ2_putChar_b72d1_41 : decode cJ2_putChar_b72d1 41 = .ok (.ishr, 1) := by decide +kernel
theorem dJ2_putChar_b72d1_42 : decode cJ2_putChar_b72d1 42 = .ok (.i2b, 1) := by decide +kernel
theorem dJ2_putChar_b72d1_43 : decode cJ2_putChar_b72d1 43 = .ok (.bastore, 1) := by decide +kernel
theorem dJ2_putChar_b72d1_44 : decode cJ2_putChar_b72d1 44 = .ok (.aload_n 0, 1) := by decide +kernel
theorem dJ2_putChar_b72d1_45 : decode cJ2_putChar_b72d1 45 = .ok (.iload_n 1, 1) := by decide +kernel
theorem dJ2_putChar_b72d1_46 : decode cJ2_putChar_b72d1 46 = .ok (.iload_n 2, 1) := by decide +kernel
theorem dJ2_putChar_b72d1_47 : decode cJ2_putChar_b72d1 47 = .ok (.getstatic 63, 3) := by decide +kernel
theorem dJ2_putChar_b72d1_50 : decode cJ2_putChar_b72d1 50 = .ok (.ishr, 1) := by decide +kernel
theorem dJ2_putChar_b72d1_51 : decode cJ2_putChar_b72d1 51 = .ok (.i2b, 1) := by decide +kernel
theorem dJ2_putChar_b72d1_52 : decode cJ2_putChar_b72d1 52 = .ok (.bastore, 1) := by decide +kernel
theorem dJ2_putChar_b72d1_53 : decode cJ2_putChar_b72d1 53 = .ok (.return_, 1) := by decide +kernel
theorem dJ2_getChar_3b067_0 : decode cJ2_getChar_3b067 0 = .ok (.getstatic 44, 3) := by decide +kernel
theorem dJ2_getChar_3b067_3 : decode cJ2_getChar_3b067 3 = .ok (.ifCond .ne 25, 3) := by decide +kernel
theorem dJ2_getChar_3b067_6 : decode cJ2_getChar_3b067 6 = .ok (.iload_n 1, 1) := by decide +kernel
theorem dJ2_getChar_3b067_7 : decode cJ2_getChar_3b067 7 = .ok (.ifCond .lt 11, 3) := by decide +kernel
theorem dJ2_getChar_3b067_10 : decode cJ2_getChar_3b067 10 = .ok (.iload_n 1, 1) := by decide +kernel
theorem dJ2_getChar_3b067_11 : decode cJ2_getChar_3b067 11 = .ok (.aload_n 0, 1) := by decide +kernel
theorem dJ2_getChar_3b067_12 : decode cJ2_getChar_3b067 12 = .ok (.invokestatic 48, 3) := by decide +kernel
theorem dJ2_getChar_3b067_15 : decode cJ2_getChar_3b067 15 = .ok (.if_icmp .lt 13, 3) := by decide +kernel
theorem dJ2_getChar_3b067_18 : decode cJ2_getChar_3b067 18 = .ok (.new 52, 3) := by decide +kernel
theorem dJ2_getChar_3b067_21 : decode cJ2_getChar_3b067 21 = .ok (.dup, 1) := by decide +kernel
theorem dJ2_getChar_3b067_22 : decode cJ2_getChar_3b067 22 = .ok (.ldc 54, 2) := by decide +kernel
theorem dJ2_getChar_3b067_24 : decode cJ2_getChar_3b067 24 = .ok (.invokespecial 56, 3) := by decide +kernel
theorem dJ2_getChar_3b067_27 : decode cJ2_getChar_3b067 27 = .ok (.athrow, 1) := by decide +kernel
theorem dJ2_getChar_3b067_28 : decode cJ2_getChar_3b067 28 = .ok (.iload_n 1, 1) := by decide +kernel
theorem dJ2_getChar_3b067_29 : decode cJ2_getChar_3b067 29 = .ok (.iconst 1, 1) := by decide +kernel
theorem dJ2_getChar_3b067_30 : decode cJ2_getChar_3b067 30 = .ok (.ishl, 1) := by decide +kernel
theorem dJ2_getChar_3b067_31 : decode cJ2_getChar_3b067 31 = .ok (.istore_n 1, 1) := by decide +kernel
theorem dJ2_getChar_3b067_32 : decode cJ2_getChar_3b067 32 = .ok (.aload_n 0, 1) := by decide +kernel
theorem dJ2_getChar_3b067_33 : decode cJ2_getChar_3b067 33 = .ok (.iload_n 1, 1) := by decide +kernel
theorem dJ2_getChar_3b067_34 : decode cJ2_getChar_3b067 34 = .ok (.iinc 1 1, 3) := by decide +kernel
theorem dJ2_getChar_3b067_37 : decode cJ2_getChar_3b067 37 = .ok (.baload, 1) := by decide +kernel
theorem dJ2_getChar_3b067_38 : decode cJ2_getChar_3b067 38 = .ok (.sipush 255, 3) := by decide +kernel
theorem dJ2_getChar_3b067_41 : decode cJ2_getChar_3b067 41 = .ok (.iand, 1) := by decide +kernel
theorem dJ2_getChar_3b067_42 : decode cJ2_getChar_3b067 42 = .ok (.getstatic 59, 3) := by decide +kernel
theorem dJ2_getChar_3b067_45 : decode cJ2_getChar_3b067 45 = .ok (.ishl, 1) := by decide +kernel
theorem dJ2_getChar_3b067_46 : decode cJ2_getChar_3b067 46 = .ok (.aload_n 0, 1) := by decide +kernel
theorem dJ2_getChar_3b067_47 : decode cJ2_getChar_3b067 47 = .ok (.iload_n 1, 1) := by decide +kernel
theorem dJ2_getChar_3b067_48 : decode cJ2_getChar_3b067 48 = .ok (.baload, 1) := by decide +kernel
theorem dJ2_getChar_3b067_49 : decode cJ2_getChar_3b067 49 = .ok (.sipush 255, 3) := by decide +kernel
theorem dJ2_getChar_3b067_52 : decode cJ2_getChar_3b067 52 = .ok (.iand, 1) := by decide +kernel
theorem dJ2_getChar_3b067_53 : decode cJ2_getChar_3b067 53 = .ok (.getstatic 63, 3) := by decide +kernel
theorem dJ2_getChar_3b067_56 : decode cJ2_getChar_3b067 56 = .ok (.ishl, 1) := by decide +kernel
theorem dJ2_getChar_3b067_57 : decode cJ2_getChar_3b067 57 = .ok (.ior, 1) := by decide +kernel
theorem dJ2_getChar_3b067_58 : decode cJ2_getChar_3b067 58 = .ok (.i2c, 1) := by decide +kernel
theorem dJ2_getChar_3b067_59 : decode cJ2_getChar_3b067 59 = .ok (.ireturn, 1) := by decide +kernel
theorem dJ2_length_9d52b_0 : decode cJ2_length_9d52b 0 = .ok (.aload_n 0, 1) := by decide +kernel
theorem dJ2_length_9d52b_1 : decode cJ2_length_9d52b 1 = .ok (.arraylength, 1) := by decide +kernel
theorem dJ2_length_9d52b_2 : decode cJ2_length_9d52b 2 = .ok (.iconst 1, 1) := by decide +kernel
theorem dJ2_length_9d52b_3 : decode cJ2_length_9d52b 3 = .ok (.ishr, 1) := by decide +kernel
theorem dJ2_length_9d52b_4 : decode cJ2_length_9d52b 4 = .ok (.ireturn, 1) := by decide +kernel
theorem dJ2_coderFromArrayLen_85cad_0 : decode cJ2_coderFromArrayLen_85cad 0 = .ok (.iload_n 1, 1) := by decide +kernel
theorem dJ2_coderFromArrayLen_85cad_1 : decode cJ2_coderFromArrayLen_85cad 1 = .ok (.aload_n 0, 1) := by decide +kernel
theorem dJ2_coderFromArrayLen_85cad_2 : decode cJ2_coderFromArrayLen_85cad 2 = .ok (.arraylength, 1) := by decide +kernel
theorem dJ2_coderFromArrayLen_85cad_3 : decode cJ2_coderFromArrayLen_85cad 3 = .ok (.isub, 1) := by decide +kernel
theorem dJ2_coderFromArrayLen_85cad_4 : decode cJ2_coderFromArrayLen_85cad 4 = .ok (.bipush 31, 2) := by decide +kernel
theorem dJ2_coderFromArrayLen_85cad_6 : decode cJ2_coderFromArrayLen_85cad 6 = .ok (.iushr, 1) := by decide +kernel
theorem dJ2_coderFromArrayLen_85cad_7 : decode cJ2_coderFromArrayLen_85cad 7 = .ok (.i2b, 1) := by decide +kernel
theorem dJ2_coderFromArrayLen_85cad_8 : decode cJ2_coderFromArrayLen_85cad 8 = .ok (.ireturn, 1) := by decide +kernel
theorem dJ2_compress_39247_0 : decode cJ2_compress_39247 0 = .ok (.iload_n 2, 1) := by decide +kernel
theorem dJ2_compress_39247_1 : decode cJ2_compress_39247 1 = .ok (.newarray .byte, 2) := by decide +kernel
theorem dJ2_compress_39247_3 : decode cJ2_compress_39247 3 = .ok (.astore_n 3, 1) := by decide +kernel
theorem dJ2_compress_39247_4 : decode cJ2_compress_39247 4 = .ok (.aload_n 0, 1) := by decide +kernel
theorem dJ2_compress_39247_5 : decode cJ2_compress_39247 5 = .ok (.iload_n 1, 1) := by decide +kernel
theorem dJ2_compress_39247_6 : decode cJ2_compress_39247 6 = .ok (.aload_n 3, 1) := by decide +kernel
theorem dJ2_compress_39247_7 : decode cJ2_compress_39247 7 = .ok (.iconst 0, 1) := by decide +kernel
theorem dJ2_compress_39247_8 : decode cJ2_compress_39247 8 = .ok (.iload_n 2, 1) := by decide +kernel
theorem dJ2_compress_39247_9 : decode cJ2_compress_39247 9 = .ok (.invokestatic 123, 3) := by decide +kernel
theorem dJ2_compress_39247_12 : decode cJ2_compress_39247 12 = .ok (.istore 4, 2) := by decide +kernel
theorem dJ2_compress_39247_14 : decode cJ2_compress_39247 14 = .ok (.iload 4, 2) := by decide +kernel
theorem dJ2_compress_39247_16 : decode cJ2_compress_39247 16 = .ok (.iload_n 2, 1) := by decide +kernel
theorem dJ2_compress_39247_17 : decode cJ2_compress_39247 17 = .ok (.if_icmp .eq 47, 3) := by decide +kernel
theorem dJ2_compress_39247_20 : decode cJ2_compress_39247 20 = .ok (.aload_n 0, 1) := by decide +kernel
theorem dJ2_compress_39247_21 : decode cJ2_compress_39247 21 = .ok (.iload_n 1, 1) := by decide +kernel
theorem dJ2_compress_39247_22 : decode cJ2_compress_39247 22 = .ok (.iconst 1, 1) := by decide +kernel
theorem dJ2_compress_39247_23 : decode cJ2_compress_39247 23 = .ok (.ishl, 1) := by decide +kernel
theorem dJ2_compress_39247_24 : decode cJ2_compress_39247 24 = .ok (.iload_n 1, 1) := by decide +kernel
theorem dJ2_compress_39247_25 : decode cJ2_compress_39247 25 = .ok (.iload_n 2, 1) := by decide +kernel
theorem dJ2_compress_39247_26 : decode cJ2_compress_39247 26 = .ok (.iadd, 1) := by decide +kernel
theorem dJ2_compress_39247_27 : decode cJ2_compress_39247 27 = .ok (.invokestatic 11, 3) := by decide +kernel
theorem dJ2_compress_39247_30 : decode cJ2_compress_39247 30 = .ok (.invokestatic 126, 3) := by decide +kernel
theorem dJ2_compress_39247_33 : decode cJ2_compress_39247 33 = .ok (.astore 5, 2) := by decide +kernel
theorem dJ2_compress_39247_35 : decode cJ2_compress_39247 35 = .ok (.aload 5, 2) := by decide +kernel
theorem dJ2_compress_39247_37 : decode cJ2_compress_39247 37 = .ok (.iload 4, 2) := by decide +kernel
theorem dJ2_compress_39247_39 : decode cJ2_compress_39247 39 = .ok (.invokestatic 71, 3) := by decide +kernel
theorem dJ2_compress_39247_42 : decode cJ2_compress_39247 42 = .ok (.sipush 255, 3) := by decide +kernel
theorem dJ2_compress_39247_45 : decode cJ2_compress_39247 45 = .ok (.if_icmp .gt 16, 3) := by decide +kernel
theorem dJ2_compress_39247_48 : decode cJ2_compress_39247 48 = .ok (.aload 5, 2) := by decide +kernel
theorem dJ2_compress_39247_50 : decode cJ2_compress_39247 50 = .ok (.iconst 0, 1) := by decide +kernel
theorem dJ2_compress_39247_51 : decode cJ2_compress_39247 51 = .ok (.aload_n 3, 1) := by decide +kernel
theorem dJ2_compress_39247_52 : decode cJ2_compress_39247 52 = .ok (.iconst 0, 1) := by decide +kernel
theorem dJ2_compress_39247_53 : decode cJ2_compress_39247 53 = .ok (.iload_n 2, 1) := by decide +kernel
theorem dJ2_compress_39247_54 : decode cJ2_compress_39247 54 = .ok (.invokestatic 123, 3) := by decide +kernel
theorem dJ2_compress_39247_57 : decode cJ2_compress_39247 57 = .ok (.iload_n 2, 1) := by decide +kernel
theorem dJ2_compress_39247_58 : decode cJ2_compress_39247 58 = .ok (.if_icmp .eq 6, 3) := by decide +kernel
theorem dJ2_compress_39247_61 : decode cJ2_compress_39247 61 = .ok (.aload 5, 2) := by decide +kernel
theorem dJ2_compress_39247_63 : decode cJ2_compress_39247 63 = .ok (.areturn, 1) := by decide +kernel
theorem dJ2_compress_39247_64 : decode cJ2_compress_39247 64 = .ok (.aload_n 3, 1) := by decide +kernel
theorem dJ2_compress_39247_65 : decode cJ2_compress_39247 65 = .ok (.areturn, 1) := by decide +kernel
theorem dJ2_compress_5af95_0 : decode cJ2_compress_5af95 0 = .ok (.iload_n 1, 1) := by decide +kernel
theorem dJ2_compress_5af95_1 : decode cJ2_compress_5af95 1 = .ok (.iload 4, 2) := by decide +kernel
theorem dJ2_compress_5af95_3 : decode cJ2_compress_5af95 3 = .ok (.aload_n 0, 1) := by decide +kernel
theorem dJ2_compress_5af95_4 : decode cJ2_compress_5af95 4 = .ok (.invokestatic 173, 3) := by decide +kernel
theorem dJ2_compress_5af95_7 : decode cJ2_compress_5af95 7 = .ok (.iconst 0, 1) := by decide +kernel
theorem dJ2_compress_5af95_8 : decode cJ2_compress_5af95 8 = .ok (.istore 5, 2) := by decide +kernel
theorem dJ2_compress_5af95_10 : decode cJ2_compress_5af95 10 = .ok (.iload 5, 2) := by decide +kernel
theorem dJ2_compress_5af95_12 : decode cJ2_compress_5af95 12 = .ok (.iload 4, 2) := by decide +kernel
theorem dJ2_compress_5af95_14 : decode cJ2_compress_5af95 14 = .ok (.if_icmp .ge 39, 3) := by decide +kernel
theorem dJ2_compress_5af95_17 : decode cJ2_compress_5af95 17 = .ok (.aload_n 0, 1) := by decide +kernel
theorem dJ2_compress_5af95_18 : decode cJ2_compress_5af95 18 = .ok (.iload_n 1, 1) := by decide +kernel
theorem dJ2_compress_5af95_19 : decode cJ2_compress_5af95 19 = .ok (.invokestatic 71, 3) := by decide +kernel
theorem dJ2_compress_5af95_22 : decode cJ2_compress_5af95 22 = .ok (.istore 6, 2) := by decide +kernel
theorem dJ2_compress_5af95_24 : decode cJ2_compress_5af95 24 = .ok (.iload 6, 2) := by decide +kernel
theorem dJ2_compress_5af95_26 : decode cJ2_compress_5af95 26 = .ok (.sipush 255, 3) := by decide +kernel
theorem dJ2_compress_5af95_29 : decode cJ2_compress_5af95 29 = .ok (.if_icmp .le 6, 3) := by decide +kernel
theorem dJ2_compress_5af95_32 : decode cJ2_compress_5af95 32 = .ok (.iload 5, 2) := by decide +kernel
theorem dJ2_compress_5af95_34 : decode cJ2_compress_5af95 34 = .ok (.ireturn, 1) := by decide +kernel
theorem dJ2_compress_5af95_35 : decode cJ2_compress_5af95 35 = .ok (.aload_n 2, 1) := by decide +kernel
theorem dJ2_compress_5af95_36 : decode cJ2_compress_5af95 36 = .ok (.iload_n 3, 1) := by decide +kernel
theorem dJ2_compress_5af95_37 : decode cJ2_compress_5af95 37 = .ok (.iload 6, 2) := by decide +kernel
theorem dJ2_compress_5af95_39 : decode cJ2_compress_5af95 39 = .ok (.i2b, 1) := by decide +kernel
theorem dJ2_compress_5af95_40 : decode cJ2_compress_5af95 40 = .ok (.bastore, 1) := by decide +kernel
theorem dJ2_compress_5af95_41 : decode cJ2_compress_5af95 41 = .ok (.iinc 1 1, 3) := by decide +kernel
theorem dJ2_compress_5af95_44 : decode cJ2_compress_5af95 44 = .ok (.iinc 3 1, 3) := by decide +kernel
theorem dJ2_compress_5af95_47 : decode cJ2_compress_5af95 47 = .ok (.iinc 5 1, 3) := by decide +kernel
theorem dJ2_compress_5af95_50 : decode cJ2_compress_5af95 50 = .ok (.goto (-40), 3) := by decide +kernel
theorem dJ2_compress_5af95_53 : decode cJ2_compress_5af95 53 = .ok (.iload 4, 2) := by decide +kernel
theorem dJ2_compress_5af95_55 : decode cJ2_compress_5af95 55 = .ok (.ireturn, 1) := by decide +kernel
theorem dJ2_getChars_46870_0 : decode cJ2_getChars_46870 0 = .ok (.iload_n 1, 1) := by decide +kernel
theorem dJ2_getChars_46870_1 : decode cJ2_getChars_46870 1 = .ok (.iload_n 2, 1) := by decide +kernel
theorem dJ2_getChars_46870_2 : decode cJ2_getChars_46870 2 = .ok (.aload_n 3, 1) := by decide +kernel
theorem dJ2_getChars_46870_3 : decode cJ2_getChars_46870 3 = .ok (.invokestatic 96, 3) := by decide +kernel
theorem dJ2_getChars_46870_6 : decode cJ2_getChars_46870 6 = .ok (.iload_n 0, 1) := by decide +kernel
theorem dJ2_getChars_46870_7 : decode cJ2_getChars_46870 7 = .ok (.iload_n 2, 1) := by decide +kernel
theorem dJ2_getChars_46870_8 : decode cJ2_getChars_46870 8 = .ok (.aload_n 3, 1) := by decide +kernel
theorem dJ2_getChars_46870_9 : decode cJ2_getChars_46870 9 = .ok (.invokestatic 393, 3) := by decide +kernel
theorem dJ2_getChars_46870_12 : decode cJ2_getChars_46870 12 = .ok (.istore 4, 2) := by decide +kernel
theorem dJ2_getChars_46870_14 : decode cJ2_getChars_46870 14 = .ok (.getstatic 44, 3) := by decide +kernel
theorem dJ2_getChars_46870_17 : decode cJ2_getChars_46870 17 = .ok (.ifCond .ne 17, 3) := by decide +kernel
theorem dJ2_getChars_46870_20 : decode cJ2_getChars_46870 20 = .ok (.iload_n 1, 1) := by decide +kernel
theorem dJ2_getChars_46870_21 : decode cJ2_getChars_46870 21 = .ok (.iload 4, 2) := by decide +kernel
theorem dJ2_getChars_46870_23 : decode cJ2_getChars_46870 23 = .ok (.if_icmp .eq 11, 3) := by decide +kernel
theorem dJ2_getChars_46870_26 : decode cJ2_getChars_46870 26 = .ok (.new 52, 3) := by decide +kernel
theorem dJ2_getChars_46870_29 : decode cJ2_getChars_46870 29 = .ok (.dup, 1) := by decide +kernel
theorem dJ2_getChars_46870_30 : decode cJ2_getChars_46870 30 = .ok (.invokespecial 66, 3) := by decide +kernel
theorem dJ2_getChars_46870_33 : decode cJ2_getChars_46870 33 = .ok (.athrow, 1) := by decide +kernel
theorem dJ2_getChars_46870_34 : decode cJ2_getChars_46870 34 = .ok (.iload 4, 2) := by decide +kernel
theorem dJ2_getChars_46870_36 : decode cJ2_getChars_46870 36 = .ok (.ireturn, 1) := by decide +kernel
theorem dJ2_putCharsAt_cd4e5_0 : decode cJ2_putCharsAt_cd4e5 0 = .ok (.iload_n 1, 1) := by decide +kernel
theorem dJ2_putCharsAt_cd4e5_1 : decode cJ2_putCharsAt_cd4e5 1 = .ok (.iconst 4, 1) := by decide +kernel
theorem dJ2_putCharsAt_cd4e5_2 : decode cJ2_putCharsAt_cd4e5 2 = .ok (.iadd, 1) := by decide +kernel
theorem dJ2_putCharsAt_cd4e5_3 : decode cJ2_putCharsAt_cd4e5 3 = .ok (.istore 6, 2) := by decide +kernel
theorem dJ2_putCharsAt_cd4e5_5 : decode cJ2_putCharsAt_cd4e5 5 = .ok (.iload_n 1, 1) := by decide +kernel
theorem dJ2_putCharsAt_cd4e5_6 : decode cJ2_putCharsAt_cd4e5 6 = .ok (.iload 6, 2) := by decide +kernel
theorem dJ2_putCharsAt_cd4e5_8 : decode cJ2_putCharsAt_cd4e5 8 = .ok (.aload_n 0, 1) := by decide +kernel
theorem dJ2_putCharsAt_cd4e5_9 : decode cJ2_putCharsAt_cd4e5 9 = .ok (.invokestatic 96, 3) := by decide +kernel
theorem dJ2_putCharsAt_cd4e5_12 : decode cJ2_putCharsAt_cd4e5 12 = .ok (.aload_n 0, 1) := by decide +kernel
theorem dJ2_putCharsAt_cd4e5_13 : decode cJ2_putCharsAt_cd4e5 13 = .ok (.iload_n 1, 1) := by decide +kernel
theorem dJ2_putCharsAt_cd4e5_14 : decode cJ2_putCharsAt_cd4e5 14 = .ok (.iinc 1 1, 3) := by decide +kernel
theorem dJ2_putCharsAt_cd4e5_17 : decode cJ2_putCharsAt_cd4e5 17 = .ok (.iload_n 2, 1) := by decide +kernel
theorem dJ2_putCharsAt_cd4e5_18 : decode cJ2_putCharsAt_cd4e5 18 = .ok (.invokestatic 111, 3) := by decide +kernel
theorem dJ2_putCharsAt_cd4e5_21 : decode cJ2_putCharsAt_cd4e5 21 = .ok (.aload_n 0, 1) := by decide +kernel
theorem dJ2_putCharsAt_cd4e5_22 : decode cJ2_putCharsAt_cd4e5 22 = .ok (.iload_n 1, 1) := by decide +kernel
theorem dJ2_putCharsAt_cd4e5_23 : decode cJ2_putCharsAt_cd4e5 23 = .ok (.iinc 1 1, 3) := by decide +kernel
theorem dJ2_putCharsAt_cd4e5_26 : decode cJ2_putCharsAt_cd4e5 26 = .ok (.iload_n 3, 1) := by decide +kernel
theorem dJ2_putCharsAt_cd4e5_27 : decode cJ2_putCharsAt_cd4e5 27 = .ok (.invokestatic 111, 3) := by decide +kernel
theorem dJ2_putCharsAt_cd4e5_30 : decode cJ2_putCharsAt_cd4e5 30 = .ok (.aload_n 0, 1) := by decide +kernel
theorem dJ2_putCharsAt_cd4e5_31 : decode cJ2_putCharsAt_cd4e5 31 = .ok (.iload_n 1, 1) := by decide +kernel
theorem dJ2_putCharsAt_cd4e5_32 : decode cJ2_putCharsAt_cd4e5 32 = .ok (.iinc 1 1, 3) := by decide +kernel
theorem dJ2_putCharsAt_cd4e5_35 : decode cJ2_putCharsAt_cd4e5 35 = .ok (.iload 4, 2) := by decide +kernel
theorem dJ2_putCharsAt_cd4e5_37 : decode cJ2_putCharsAt_cd4e5 37 = .ok (.invokestatic 111, 3) := by decide +kernel
theorem dJ2_putCharsAt_cd4e5_40 : decode cJ2_putCharsAt_cd4e5 40 = .ok (.aload_n 0, 1) := by decide +kernel
theorem dJ2_putCharsAt_cd4e5_41 : decode cJ2_putCharsAt_cd4e5 41 = .ok (.iload_n 1, 1) := by decide +kernel
theorem dJ2_putCharsAt_cd4e5_42 : decode cJ2_putCharsAt_cd4e5 42 = .ok (.iinc 1 1, 3) := by decide +kernel
theorem dJ2_putCharsAt_cd4e5_45 : decode cJ2_putCharsAt_cd4e5 45 = .ok (.iload 5, 2) := by decide +kernel
theorem dJ2_putCharsAt_cd4e5_47 : decode cJ2_putCharsAt_cd4e5 47 = .ok (.invokestatic 111, 3) := by decide +kernel
theorem dJ2_putCharsAt_cd4e5_50 : decode cJ2_putCharsAt_cd4e5 50 = .ok (.getstatic 44, 3) := by decide +kernel
theorem dJ2_putCharsAt_cd4e5_53 : decode cJ2_putCharsAt_cd4e5 53 = .ok (.ifCond .ne 17, 3) := by decide +kernel
theorem dJ2_putCharsAt_cd4e5_56 : decode cJ2_putCharsAt_cd4e5 56 = .ok (.iload_n 1, 1) := by decide +kernel
theorem dJ2_putCharsAt_cd4e5_57 : decode cJ2_putCharsAt_cd4e5 57 = .ok (.iload 6, 2) := by decide +kernel
theorem dJ2_putCharsAt_cd4e5_59 : decode cJ2_putCharsAt_cd4e5 59 = .ok (.if_icmp .eq 11, 3) := by decide +kernel
theorem dJ2_putCharsAt_cd4e5_62 : decode cJ2_putCharsAt_cd4e5 62 = .ok (.new 52, 3) := by decide +kernel
theorem dJ2_putCharsAt_cd4e5_65 : decode cJ2_putCharsAt_cd4e5 65 = .ok (.dup, 1) := by decide +kernel
theorem dJ2_putCharsAt_cd4e5_66 : decode cJ2_putCharsAt_cd4e5 66 = .ok (.invokespecial 66, 3) := by decide +kernel
theorem dJ2_putCharsAt_cd4e5_69 : decode cJ2_putCharsAt_cd4e5 69 = .ok (.athrow, 1) := by decide +kernel
theorem dJ2_putCharsAt_cd4e5_70 : decode cJ2_putCharsAt_cd4e5 70 = .ok (.iload 6, 2) := by decide +kernel
theorem dJ2_putCharsAt_cd4e5_72 : decode cJ2_putCharsAt_cd4e5 72 = .ok (.ireturn, 1) := by decide +kernel
theorem dJ2_charAt_3b067_0 : decode cJ2_charAt_3b067 0 = .ok (.iload_n 1, 1) := by decide +kernel
theorem dJ2_charAt_3b067_1 : decode cJ2_charAt_3b067 1 = .ok (.aload_n 0, 1) := by decide +kernel
theorem dJ2_charAt_3b067_2 : decode cJ2_charAt_3b067 2 = .ok (.invokestatic 67, 3) := by decide +kernel
theorem dJ2_charAt_3b067_5 : decode cJ2_charAt_3b067 5 = .ok (.aload_n 0, 1) := by decide +kernel
theorem dJ2_charAt_3b067_6 : decode cJ2_charAt_3b067 6 = .ok (.iload_n 1, 1) := by decide +kernel
theorem dJ2_charAt_3b067_7 : decode cJ2_charAt_3b067 7 = .ok (.invokestatic 71, 3) := by decide +kernel
theorem dJ2_charAt_3b067_10 : decode cJ2_charAt_3b067 10 = .ok (.ireturn, 1) := by decide +kernel
theorem dJ2_inflate_0e8fd_0 : decode cJ2_inflate_0e8fd 0 = .ok (.iload_n 3, 1) := by decide +kernel
theorem dJ2_inflate_0e8fd_1 : decode cJ2_inflate_0e8fd 1 = .ok (.iload 4, 2) := by decide +kernel
theorem dJ2_inflate_0e8fd_3 : decode cJ2_inflate_0e8fd 3 = .ok (.aload_n 2, 1) := by decide +kernel
theorem dJ2_inflate_0e8fd_4 : decode cJ2_inflate_0e8fd 4 = .ok (.invokestatic 173, 3) := by decide +kernel
theorem dJ2_inflate_0e8fd_7 : decode cJ2_inflate_0e8fd 7 = .ok (.iconst 0, 1) := by decide +kernel
theorem dJ2_inflate_0e8fd_8 : decode cJ2_inflate_0e8fd 8 = .ok (.istore 5, 2) := by decide +kernel
theorem dJ2_inflate_0e8fd_10 : decode cJ2_inflate_0e8fd 10 = .ok (.iload 5, 2) := by decide +kernel
theorem dJ2_inflate_0e8fd_12 : decode cJ2_inflate_0e8fd 12 = .ok (.iload 4, 2) := by decide +kernel
theorem dJ2_inflate_0e8fd_14 : decode cJ2_inflate_0e8fd 14 = .ok (.if_icmp .ge 27, 3) := by decide +kernel
theorem dJ2_inflate_0e8fd_17 : decode cJ2_inflate_0e8fd 17 = .ok (.aload_n 2, 1) := by decide +kernel
theorem dJ2_inflate_0e8fd_18 : decode cJ2_inflate_0e8fd 18 = .ok (.iload_n 3, 1) := by decide +kernel
theorem dJ2_inflate_0e8fd_19 : decode cJ2_inflate_0e8fd 19 = .ok (.iinc 3 1, 3) := by decide +kernel
theorem dJ2_inflate_0e8fd_22 : decode cJ2_inflate_0e8fd 22 = .ok (.aload_n 0, 1) := by decide +kernel
theorem dJ2_inflate_0e8fd_23 : decode cJ2_inflate_0e8fd 23 = .ok (.iload_n 1, 1) := by decide +kernel
theorem dJ2_inflate_0e8fd_24 : decode cJ2_inflate_0e8fd 24 = .ok (.iinc 1 1, 3) := by decide +kernel
theorem dJ2_inflate_0e8fd_27 : decode cJ2_inflate_0e8fd 27 = .ok (.baload, 1) := by decide +kernel
theorem dJ2_inflate_0e8fd_28 : decode cJ2_inflate_0e8fd 28 = .ok (.sipush 255, 3) := by decide +kernel
theorem dJ2_inflate_0e8fd_31 : decode cJ2_inflate_0e8fd 31 = .ok (.iand, 1) := by decide +kernel
theorem dJ2_inflate_0e8fd_32 : decode cJ2_inflate_0e8fd 32 = .ok (.invokestatic 111, 3) := by decide +kernel
theorem dJ2_inflate_0e8fd_35 : decode cJ2_inflate_0e8fd 35 = .ok (.iinc 5 1, 3) := by decide +kernel
theorem dJ2_inflate_0e8fd_38 : decode cJ2_inflate_0e8fd 38 = .ok (.goto (-28), 3) := by decide +kernel
theorem dJ2_inflate_0e8fd_41 : decode cJ2_inflate_0e8fd 41 = .ok (.return_, 1) := by decide +kernel
theorem dJ2_getChars_ba4f3_0 : decode cJ2_getChars_ba4f3 0 = .ok (.iload_n 1, 1) := by decide +kernel
theorem dJ2_getChars_ba4f3_1 : decode cJ2_getChars_ba4f3 1 = .ok (.istore 5, 2) := by decide +kernel
theorem dJ2_getChars_ba4f3_3 : decode cJ2_getChars_ba4f3 3 = .ok (.iload_n 0, 1) := by decide +kernel
theorem dJ2_getChars_ba4f3_4 : decode cJ2_getChars_ba4f3 4 = .ok (.ifCond .ge 7, 3) := by decide +kernel
theorem dJ2_getChars_ba4f3_7 : decode cJ2_getChars_ba4f3 7 = .ok (.iconst 1, 1) := by decide +kernel
theorem dJ2_getChars_ba4f3_8 : decode cJ2_getChars_ba4f3 8 = .ok (.goto 4, 3) := by decide +kernel
theorem dJ2_getChars_ba4f3_11 : decode cJ2_getChars_ba4f3 11 = .ok (.iconst 0, 1) := by decide +kernel
theorem dJ2_getChars_ba4f3_12 : decode cJ2_getChars_ba4f3 12 = .ok (.istore 6, 2) := by decide +kernel
theorem dJ2_getChars_ba4f3_14 : decode cJ2_getChars_ba4f3 14 = .ok (.iload 6, 2) := by decide +kernel
theorem dJ2_getChars_ba4f3_16 : decode cJ2_getChars_ba4f3 16 = .ok (.ifCond .ne 6, 3) := by decide +kernel
theorem dJ2_getChars_ba4f3_19 : decode cJ2_getChars_ba4f3 19 = .ok (.iload_n 0, 1) := by decide +kernel
theorem dJ2_getChars_ba4f3_20 : decode cJ2_getChars_ba4f3 20 = .ok (.ineg, 1) := by decide +kernel
theorem dJ2_getChars_ba4f3_21 : decode cJ2_getChars_ba4f3 21 = .ok (.istore_n 0, 1) := by decide +kernel
theorem dJ2_getChars_ba4f3_22 : decode cJ2_getChars_ba4f3 22 = .ok (.iload_n 0, 1) := by decide +kernel
theorem dJ2_getChars_ba4f3_23 : decode cJ2_getChars_ba4f3 23 = .ok (.bipush (-100), 2) := by decide +kernel
theorem dJ2_getChars_ba4f3_25 : decode cJ2_getChars_ba4f3 25 = .ok (.if_icmp .gt 51, 3) := by decide +kernel
theorem dJ2_getChars_ba4f3_28 : decode cJ2_getChars_ba4f3 28 = .ok (.iload_n 0, 1) := by decide +kernel
theorem dJ2_getChars_ba4f3_29 : decode cJ2_getChars_ba4f3 29 = .ok (.bipush 100, 2) := by decide +kernel
theorem dJ2_getChars_ba4f3_31 : decode cJ2_getChars_ba4f3 31 = .ok (.idiv, 1) := by decide +kernel
theorem dJ2_getChars_ba4f3_32 : decode cJ2_getChars_ba4f3 32 = .ok (.istore_n 3, 1) := by decide +kernel
theorem dJ2_getChars_ba4f3_33 : decode cJ2_getChars_ba4f3 33 = .ok (.iload_n 3, 1) := by decide +kernel
theorem dJ2_getChars_ba4f3_34 : decode cJ2_getChars_ba4f3 34 = .ok (.bipush 100, 2) := by decide +kernel
theorem dJ2_getChars_ba4f3_36 : decode cJ2_getChars_ba4f3 36 = .ok (.imul, 1) := by decide +kernel
theorem dJ2_getChars_ba4f3_37 : decode cJ2_getChars_ba4f3 37 = .ok (.iload_n 0, 1) := by decide +kernel
theorem dJ2_getChars_ba4f3_38 : decode cJ2_getChars_ba4f3 38 = .ok (.isub, 1) := by decide +kernel
theorem dJ2_getChars_ba4f3_39 : decode cJ2_getChars_ba4f3 39 = .ok (.istore 4, 2) := by decide +kernel
theorem dJ2_getChars_ba4f3_41 : decode cJ2_getChars_ba4f3 41 = .ok (.iload_n 3, 1) := by decide +kernel
theorem dJ2_getChars_ba4f3_42 : decode cJ2_getChars_ba4f3 42 = .ok (.istore_n 0, 1) := by decide +kernel
theorem dJ2_getChars_ba4f3_43 : decode cJ2_getChars_ba4f3 43 = .ok (.aload_n 2, 1) := by decide +kernel
theorem dJ2_getChars_ba4f3_44 : decode cJ2_getChars_ba4f3 44 = .ok (.iinc 5 (-1), 3) := by decide +kernel
theorem dJ2_getChars_ba4f3_47 : decode cJ2_getChars_ba4f3 47 = .ok (.iload 5, 2) := by decide +kernel
theorem dJ2_getChars_ba4f3_49 : decode cJ2_getChars_ba4f3 49 = .ok (.getstatic 403, 3) := by decide +kernel
theorem dJ2_getChars_ba4f3_52 : decode cJ2_getChars_ba4f3 52 = .ok (.iload 4, 2) := by decide +kernel
theorem dJ2_getChars_ba4f3_54 : decode cJ2_getChars_ba4f3 54 = .ok (.baload, 1) := by decide +kernel
theorem dJ2_getChars_ba4f3_55 : decode cJ2_getChars_ba4f3 55 = .ok (.invokestatic 111, 3) := by decide +kernel
theorem dJ2_getChars_ba4f3_58 : decode cJ2_getChars_ba4f3 58 = .ok (.aload_n 2, 1) := by decide +kernel
theorem dJ2_getChars_ba4f3_59 : decode cJ2_getChars_ba4f3 59 = .ok (.iinc 5 (-1), 3) := by decide +kernel
theorem dJ2_getChars_ba4f3_62 : decode cJ2_getChars_ba4f3 62 = .ok (.iload 5, 2) := by decide +kernel
theorem dJ2_getChars_ba4f3_64 : decode cJ2_getChars_ba4f3 64 = .ok (.getstatic 407, 3) := by decide +kernel
theorem dJ2_getChars_ba4f3_67 : decode cJ2_getChars_ba4f3 67 = .ok (.iload 4, 2) := by decide +kernel
theorem dJ2_getChars_ba4f3_69 : decode cJ2_getChars_ba4f3 69 = .ok (.baload, 1) := by decide +kernel
theorem dJ2_getChars_ba4f3_70 : decode cJ2_getChars_ba4f3 70 = .ok (.invokestatic 111, 3) := by decide +kernel
theorem dJ2_getChars_ba4f3_73 : decode cJ2_getChars_ba4f3 73 = .ok (.goto (-51), 3) := by decide +kernel
theorem dJ2_getChars_ba4f3_76 : decode cJ2_getChars_ba4f3 76 = .ok (.aload_n 2, 1) := by decide +kernel
theorem dJ2_getChars_ba4f3_77 : decode cJ2_getChars_ba4f3 77 = .ok (.iinc 5 (-1), 3) := by decide +kernel
theorem dJ2_getChars_ba4f3_80 : decode cJ2_getChars_ba4f3 80 = .ok (.iload 5, 2) := by decide +kernel
theorem dJ2_getChars_ba4f3_82 : decode cJ2_getChars_ba4f3 82 = .ok (.getstatic 403, 3) := by decide +kernel
theorem dJ2_getChars_ba4f3_85 : decode cJ2_getChars_ba4f3 85 = .ok (.iload_n 0, 1) := by decide +kernel
theorem dJ2_getChars_ba4f3_86 : decode cJ2_getChars_ba4f3 86 = .ok (.ineg, 1) := by decide +kernel
theorem dJ2_getChars_ba4f3_87 : decode cJ2_getChars_ba4f3 87 = .ok (.baload, 1) := by decide +kernel
theorem dJ2_getChars_ba4f3_88 : decode cJ2_getChars_ba4f3 88 = .ok (.invokestatic 111, 3) := by decide +kernel
theorem dJ2_getChars_ba4f3_91 : decode cJ2_getChars_ba4f3 91 = .ok (.iload_n 0, 1) := by decide +kernel
theorem dJ2_getChars_ba4f3_92 : decode cJ2_getChars_ba4f3 92 = .ok (.bipush (-9), 2) := by decide +kernel
theorem dJ2_getChars_ba4f3_94 : decode cJ2_getChars_ba4f3 94 = .ok (.if_icmp .ge 18, 3) := by decide +kernel
theorem dJ2_getChars_ba4f3_97 : decode cJ2_getChars_ba4f3 97 = .ok (.aload_n 2, 1) := by decide +kernel
theorem dJ2_getChars_ba4f3_98 : decode cJ2_getChars_ba4f3 98 = .ok (.iinc 5 (-1), 3) := by decide +kernel
theorem dJ2_getChars_ba4f3_101 : decode cJ2_getChars_ba4f3 101 = .ok (.iload 5, 2) := by decide +kernel
theorem dJ2_getChars_ba4f3_103 : decode cJ2_getChars_ba4f3 103 = .ok (.getstatic 407, 3) := by decide +kernel
theorem dJ2_getChars_ba4f3_106 : decode cJ2_getChars_ba4f3 106 = .ok (.iload_n 0, 1) := by decide +kernel
theorem dJ2_getChars_ba4f3_107 : decode cJ2_getChars_ba4f3 107 = .ok (.ineg, 1) := by decide +kernel
theorem dJ2_getChars_ba4f3_108 : decode cJ2_getChars_ba4f3 108 = .ok (.baload, 1) := by decide +kernel
theorem dJ2_getChars_ba4f3_109 : decode cJ2_getChars_ba4f3 109 = .ok (.invokestatic 111, 3) := by decide +kernel
theorem dJ2_getChars_ba4f3_112 : decode cJ2_getChars_ba4f3 112 = .ok (.iload 6, 2) := by decide +kernel
theorem dJ2_getChars_ba4f3_114 : decode cJ2_getChars_ba4f3 114 = .ok (.ifCond .eq 14, 3) := by decide +kernel
theorem dJ2_getChars_ba4f3_117 : decode cJ2_getChars_ba4f3 117 = .ok (.aload_n 2, 1) := by decide +kernel
theorem dJ2_getChars_ba4f3_118 : decode cJ2_getChars_ba4f3 118 = .ok (.iinc 5 (-1), 3) := by decide +kernel
theorem dJ2_getChars_ba4f3_121 : decode cJ2_getChars_ba4f3 121 = .ok (.iload 5, 2) := by decide +kernel
theorem dJ2_getChars_ba4f3_123 : decode cJ2_getChars_ba4f3 123 = .ok (.bipush 45, 2) := by decide +kernel
theorem dJ2_getChars_ba4f3_125 : decode cJ2_getChars_ba4f3 125 = .ok (.invokestatic 111, 3) := by decide +kernel
theorem dJ2_getChars_ba4f3_128 : decode cJ2_getChars_ba4f3 128 = .ok (.iload 5, 2) := by decide +kernel
theorem dJ2_getChars_ba4f3_130 : decode cJ2_getChars_ba4f3 130 = .ok (.ireturn, 1) := by decide +kernel
theorem dJ2_checkIndex_2214a_0 : decode cJ2_checkIndex_2214a 0 = .ok (.iload_n 0, 1) := by decide +kernel
theorem dJ2_checkIndex_2214a_1 : decode cJ2_checkIndex_2214a 1 = .ok (.aload_n 1, 1) := by decide +kernel
theorem dJ2_checkIndex_2214a_2 : decode cJ2_checkIndex_2214a 2 = .ok (.invokestatic 48, 3) := by decide +kernel
theorem dJ2_checkIndex_2214a_5 : decode cJ2_checkIndex_2214a 5 = .ok (.invokestatic 414, 3) := by decide +kernel
theorem dJ2_checkIndex_2214a_8 : decode cJ2_checkIndex_2214a 8 = .ok (.return_, 1) := by decide +kernel
theorem dJ2_checkBoundsBeginEnd_d044e_0 : decode cJ2_checkBoundsBeginEnd_d044e 0 = .ok (.iload_n 0, 1) := by decide +kernel
theorem dJ2_checkBoundsBeginEnd_d044e_1 : decode cJ2_checkBoundsBeginEnd_d044e 1 = .ok (.iload_n 1, 1) := by decide +kernel
theorem dJ2_checkBoundsBeginEnd_d044e_2 : decode cJ2_checkBoundsBeginEnd_d044e 2 = .ok (.aload_n 2, 1) := by decide +kernel
theorem dJ2_checkBoundsBeginEnd_d044e_3 : decode cJ2_checkBoundsBeginEnd_d044e 3 = .ok (.invokestatic 48, 3) := by decide +kernel
theorem dJ2_checkBoundsBeginEnd_d044e_6 : decode cJ2_checkBoundsBeginEnd_d044e 6 = .ok (.invokestatic 241, 3) := by decide +kernel
theorem dJ2_checkBoundsBeginEnd_d044e_9 : decode cJ2_checkBoundsBeginEnd_d044e 9 = .ok (.return_, 1) := by decide +kernel
theorem dJ2_checkBoundsOffCount_d044e_0 : decode cJ2_checkBoundsOffCount_d044e 0 = .ok (.iload_n 0, 1) := by decide +kernel
theorem dJ2_checkBoundsOffCount_d044e_1 : decode cJ2_checkBoundsOffCount_d044e 1 = .ok (.iload_n 1, 1) := by decide +kernel
theorem dJ2_checkBoundsOffCount_d044e_2 : decode cJ2_checkBoundsOffCount_d044e 2 = .ok (.aload_n 2, 1) := by decide +kernel
theorem dJ2_checkBoundsOffCount_d044e_3 : decode cJ2_checkBoundsOffCount_d044e 3 = .ok (.invokestatic 48, 3) := by decide +kernel
theorem dJ2_checkBoundsOffCount_d044e_6 : decode cJ2_checkBoundsOffCount_d044e 6 = .ok (.invokestatic 419, 3) := by decide +kernel
theorem dJ2_checkBoundsOffCount_d044e_9 : decode cJ2_checkBoundsOffCount_d044e 9 = .ok (.pop, 1) := by decide +kernel
theorem dJ2_checkBoundsOffCount_d044e_10 : decode cJ2_checkBoundsOffCount_d044e 10 = .ok (.return_, 1) := by decide +kernel
theorem dJ7_copyOf_9075b_0 : decode cJ7_copyOf_9075b 0 = .ok (.iload_n 1, 1) := by decide +kernel
theorem dJ7_copyOf_9075b_1 : decode cJ7_copyOf_9075b 1 = .ok (.aload_n 0, 1) := by decide +kernel
theorem dJ7_copyOf_9075b_2 : decode cJ7_copyOf_9075b 2 = .ok (.arraylength, 1) := by decide +kernel
theorem dJ7_copyOf_9075b_3 : decode cJ7_copyOf_9075b 3 = .ok (.if_icmp .ne 11, 3) := by decide +kernel
theorem dJ7_copyOf_9075b_6 : decode cJ7_copyOf_9075b 6 = .ok (.aload_n 0, 1) := by decide +kernel
theorem dJ7_copyOf_9075b_7 : decode cJ7_copyOf_9075b 7 = .ok (.invokevirtual 310, 3) := by decide +kernel
theorem dJ7_copyOf_9075b_10 : decode cJ7_copyOf_9075b 10 = .ok (.checkcast 311, 3) := by decide +kernel
theorem dJ7_copyOf_9075b_13 : decode cJ7_copyOf_9075b 13 = .ok (.areturn, 1) := by decide +kernel
theorem dJ7_copyOf_9075b_14 : decode cJ7_copyOf_9075b 14 = .ok (.iload_n 1, 1) := by decide +kernel
theorem dJ7_copyOf_9075b_15 : decode cJ7_copyOf_9075b 15 = .ok (.newarray .byte, 2) := by decide +kernel
theorem dJ7_copyOf_9075b_17 : decode cJ7_copyOf_9075b 17 = .ok (.astore_n 2, 1) := by decide +kernel
theorem dJ7_copyOf_9075b_18 : decode cJ7_copyOf_9075b 18 = .ok (.aload_n 0, 1) := by decide +kernel
theorem dJ7_copyOf_9075b_19 : decode cJ7_copyOf_9075b 19 = .ok (.iconst 0, 1) := by decide +kernel
theorem dJ7_copyOf_9075b_20 : decode cJ7_copyOf_9075b 20 = .ok (.aload_n 2, 1) := by decide +kernel
theorem dJ7_copyOf_9075b_21 : decode cJ7_copyOf_9075b 21 = .ok (.iconst 0, 1) := by decide +kernel
theorem dJ7_copyOf_9075b_22 : decode cJ7_copyOf_9075b 22 = .ok (.aload_n 0, 1) := by decide +kernel
theorem dJ7_copyOf_9075b_23 : decode cJ7_copyOf_9075b 23 = .ok (.arraylength, 1) := by decide +kernel
theorem dJ7_copyOf_9075b_24 : decode cJ7_copyOf_9075b 24 = .ok (.iload_n 1, 1) := by decide +kernel
theorem dJ7_copyOf_9075b_25 : decode cJ7_copyOf_9075b 25 = .ok (.invokestatic 304, 3) := by decide +kernel
theorem dJ7_copyOf_9075b_28 : decode cJ7_copyOf_9075b 28 = .ok (.invokestatic 150, 3) := by decide +kernel
theorem dJ7_copyOf_9075b_31 : decode cJ7_copyOf_9075b 31 = .ok (.aload_n 2, 1) := by decide +kernel
theorem dJ7_copyOf_9075b_32 : decode cJ7_copyOf_9075b 32 = .ok (.areturn, 1) := by decide +kernel
theorem dJ7_checkLength_df160_0 : decode cJ7_checkLength_df160 0 = .ok (.iload_n 1, 1) := by decide +kernel
theorem dJ7_checkLength_df160_1 : decode cJ7_checkLength_df160 1 = .ok (.iload_n 0, 1) := by decide +kernel
theorem dJ7_checkLength_df160_2 : decode cJ7_checkLength_df160 2 = .ok (.if_icmp .ge 35, 3) := by decide +kernel
theorem dJ7_checkLength_df160_5 : decode cJ7_checkLength_df160 5 = .ok (.new 43, 3) := by decide +kernel
theorem dJ7_checkLength_df160_8 : decode cJ7_checkLength_df160 8 = .ok (.dup, 1) := by decide +kernel
theorem dJ7_checkLength_df160_9 : decode cJ7_checkLength_df160 9 = .ok (.new 45, 3) := by decide +kernel
theorem dJ7_checkLength_df160_12 : decode cJ7_checkLength_df160 12 = .ok (.dup, 1) := by decide +kernel
theorem dJ7_checkLength_df160_13 : decode cJ7_checkLength_df160 13 = .ok (.invokespecial 47, 3) := by decide +kernel
theorem dJ7_checkLength_df160_16 : decode cJ7_checkLength_df160 16 = .ok (.iload_n 0, 1) := by decide +kernel
theorem dJ7_checkLength_df160_17 : decode cJ7_checkLength_df160 17 = .ok (.invokevirtual 54, 3) := by decide +kernel
theorem dJ7_checkLength_df160_20 : decode cJ7_checkLength_df160 20 = .ok (.ldc_w 337, 3) := by decide +kernel
theorem dJ7_checkLength_df160_23 : decode cJ7_checkLength_df160 23 = .ok (.invokevirtual 50, 3) := by decide +kernel
theorem dJ7_checkLength_df160_26 : decode cJ7_checkLength_df160 26 = .ok (.iload_n 1, 1) := by decide +kernel
theorem dJ7_checkLength_df160_27 : decode cJ7_checkLength_df160 27 = .ok (.invokevirtual 54, 3) := by decide +kernel
theorem dJ7_checkLength_df160_30 : decode cJ7_checkLength_df160 30 = .ok (.invokevirtual 61, 3) := by decide +kernel
theorem dJ7_checkLength_df160_33 : decode cJ7_checkLength_df160 33 = .ok (.invokespecial 65, 3) := by decide +kernel
theorem dJ7_checkLength_df160_36 : decode cJ7_checkLength_df160 36 = .ok (.athrow, 1) := by decide +kernel
theorem dJ7_checkLength_df160_37 : decode cJ7_checkLength_df160 37 = .ok (.return_, 1) := by decide +kernel
theorem dJ7_copyOfRange_39247_0 : decode cJ7_copyOfRange_39247 0 = .ok (.iload_n 1, 1) := by decide +kernel
theorem dJ7_copyOfRange_39247_1 : decode cJ7_copyOfRange_39247 1 = .ok (.ifCond .ne 9, 3) := by decide +kernel
theorem dJ7_copyOfRange_39247_4 : decode cJ7_copyOfRange_39247 4 = .ok (.iload_n 2, 1) := by decide +kernel
theorem dJ7_copyOfRange_39247_5 : decode cJ7_copyOfRange_39247 5 = .ok (.aload_n 0, 1) := by decide +kernel
theorem dJ7_copyOfRange_39247_6 : decode cJ7_copyOfRange_39247 6 = .ok (.arraylength, 1) := by decide +kernel
theorem dJ7_copyOfRange_39247_7 : decode cJ7_copyOfRange_39247 7 = .ok (.if_icmp .eq 10, 3) := by decide +kernel
theorem dJ7_copyOfRange_39247_10 : decode cJ7_copyOfRange_39247 10 = .ok (.aload_n 0, 1) := by decide +kernel
theorem dJ7_copyOfRange_39247_11 : decode cJ7_copyOfRange_39247 11 = .ok (.iload_n 1, 1) := by decide +kernel
theorem dJ7_copyOfRange_39247_12 : decode cJ7_copyOfRange_39247 12 = .ok (.iload_n 2, 1) := by decide +kernel
theorem dJ7_copyOfRange_39247_13 : decode cJ7_copyOfRange_39247 13 = .ok (.invokestatic 339, 3) := by decide +kernel
theorem dJ7_copyOfRange_39247_16 : decode cJ7_copyOfRange_39247 16 = .ok (.areturn, 1) := by decide +kernel
theorem dJ7_copyOfRange_39247_17 : decode cJ7_copyOfRange_39247 17 = .ok (.aload_n 0, 1) := by decide +kernel
theorem dJ7_copyOfRange_39247_18 : decode cJ7_copyOfRange_39247 18 = .ok (.invokevirtual 310, 3) := by decide +kernel
theorem dJ7_copyOfRange_39247_21 : decode cJ7_copyOfRange_39247 21 = .ok (.checkcast 311, 3) := by decide +kernel
theorem dJ7_copyOfRange_39247_24 : decode cJ7_copyOfRange_39247 24 = .ok (.areturn, 1) := by decide +kernel
theorem dJ7_copyOfRangeByte_39247_0 : decode cJ7_copyOfRangeByte_39247 0 = .ok (.iload_n 1, 1) := by decide +kernel
theorem dJ7_copyOfRangeByte_39247_1 : decode cJ7_copyOfRangeByte_39247 1 = .ok (.iload_n 2, 1) := by decide +kernel
theorem dJ7_copyOfRangeByte_39247_2 : decode cJ7_copyOfRangeByte_39247 2 = .ok (.invokestatic 343, 3) := by decide +kernel
theorem dJ7_copyOfRangeByte_39247_5 : decode cJ7_copyOfRangeByte_39247 5 = .ok (.iload_n 2, 1) := by decide +kernel
theorem dJ7_copyOfRangeByte_39247_6 : decode cJ7_copyOfRangeByte_39247 6 = .ok (.iload_n 1, 1) := by decide +kernel
theorem dJ7_copyOfRangeByte_39247_7 : decode cJ7_copyOfRangeByte_39247 7 = .ok (.isub, 1) := by decide +kernel
theorem dJ7_copyOfRangeByte_39247_8 : decode cJ7_copyOfRangeByte_39247 8 = .ok (.istore_n 3, 1) := by decide +kernel
theorem dJ7_copyOfRangeByte_39247_9 : decode cJ7_copyOfRangeByte_39247 9 = .ok (.iload_n 3, 1) := by decide +kernel
theorem dJ7_copyOfRangeByte_39247_10 : decode cJ7_copyOfRangeByte_39247 10 = .ok (.newarray .byte, 2) := by decide +kernel
theorem dJ7_copyOfRangeByte_39247_12 : decode cJ7_copyOfRangeByte_39247 12 = .ok (.astore 4, 2) := by decide +kernel
theorem dJ7_copyOfRangeByte_39247_14 : decode cJ7_copyOfRangeByte_39247 14 = .ok (.aload_n 0, 1) := by decide +kernel
theorem dJ7_copyOfRangeByte_39247_15 : decode cJ7_copyOfRangeByte_39247 15 = .ok (.iload_n 1, 1) := by decide +kernel
theorem dJ7_copyOfRangeByte_39247_16 : decode cJ7_copyOfRangeByte_39247 16 = .ok (.aload 4, 2) := by decide +kernel
theorem dJ7_copyOfRangeByte_39247_18 : decode cJ7_copyOfRangeByte_39247 18 = .ok (.iconst 0, 1) := by decide +kernel
theorem dJ7_copyOfRangeByte_39247_19 : decode cJ7_copyOfRangeByte_39247 19 = .ok (.aload_n 0, 1) := by decide +kernel
theorem dJ7_copyOfRangeByte_39247_20 : decode cJ7_copyOfRangeByte_39247 20 = .ok (.arraylength, 1) := by decide +kernel
theorem dJ7_copyOfRangeByte_39247_21 : decode cJ7_copyOfRangeByte_39247 21 = .ok (.iload_n 1, 1) := by decide +kernel
theorem dJ7_copyOfRangeByte_39247_22 : decode cJ7_copyOfRangeByte_39247 22 = .ok (.isub, 1) := by decide +kernel
theorem dJ7_copyOfRangeByte_39247_23 : decode cJ7_copyOfRangeByte_39247 23 = .ok (.iload_n 3, 1) := by decide +kernel
theorem dJ7_copyOfRangeByte_39247_24 : decode cJ7_copyOfRangeByte_39247 24 = .ok (.invokestatic 304, 3) := by decide +kernel
theorem dJ7_copyOfRangeByte_39247_27 : decode cJ7_copyOfRangeByte_39247 27 = .ok (.invokestatic 150, 3) := by decide +kernel
theorem dJ7_copyOfRangeByte_39247_30 : decode cJ7_copyOfRangeByte_39247 30 = .ok (.aload 4, 2) := by decide +kernel
theorem dJ7_copyOfRangeByte_39247_32 : decode cJ7_copyOfRangeByte_39247 32 = .ok (.areturn, 1) := by decide +kernel
theorem dJ8_newLength_cabcc_0 : decode cJ8_newLength_cabcc 0 = .ok (.iload_n 0, 1) := by decide +kernel
theorem dJ8_newLength_cabcc_1 : decode cJ8_newLength_cabcc 1 = .ok (.iload_n 1, 1) := by decide +kernel
theorem dJ8_newLength_cabcc_2 : decode cJ8_newLength_cabcc 2 = .ok (.iload_n 2, 1) := by decide +kernel
theorem dJ8_newLength_cabcc_3 : decode cJ8_newLength_cabcc 3 = .ok (.invokestatic 194, 3) := by decide +kernel
theorem dJ8_newLength_cabcc_6 : decode cJ8_newLength_cabcc 6 = .ok (.iadd, 1) := by decide +kernel
theorem dJ8_newLength_cabcc_7 : decode cJ8_newLength_cabcc 7 = .ok (.istore_n 3, 1) := by decide +kernel
theorem dJ8_newLength_cabcc_8 : decode cJ8_newLength_cabcc 8 = .ok (.iconst 0, 1) := by decide +kernel
theorem dJ8_newLength_cabcc_9 : decode cJ8_newLength_cabcc 9 = .ok (.iload_n 3, 1) := by decide +kernel
theorem dJ8_newLength_cabcc_10 : decode cJ8_newLength_cabcc 10 = .ok (.if_icmp .ge 11, 3) := by decide +kernel
theorem dJ8_newLength_cabcc_13 : decode cJ8_newLength_cabcc 13 = .ok (.iload_n 3, 1) := by decide +kernel
theorem dJ8_newLength_cabcc_14 : decode cJ8_newLength_cabcc 14 = .ok (.ldc 200, 2) := by decide +kernel
theorem dJ8_newLength_cabcc_16 : decode cJ8_newLength_cabcc 16 = .ok (.if_icmp .gt 5, 3) := by decide +kernel
theorem dJ8_newLength_cabcc_19 : decode cJ8_newLength_cabcc 19 = .ok (.iload_n 3, 1) := by decide +kernel
theorem dJ8_newLength_cabcc_20 : decode cJ8_newLength_cabcc 20 = .ok (.ireturn, 1) := by decide +kernel
theorem dJ8_newLength_cabcc_21 : decode cJ8_newLength_cabcc 21 = .ok (.iload_n 0, 1) := by decide +kernel
theorem dJ8_newLength_cabcc_22 : decode cJ8_newLength_cabcc 22 = .ok (.iload_n 1, 1) := by decide +kernel
theorem dJ8_newLength_cabcc_23 : decode cJ8_newLength_cabcc 23 = .ok (.invokestatic 201, 3) := by decide +kernel
theorem dJ8_newLength_cabcc_26 : decode cJ8_newLength_cabcc 26 = .ok (.ireturn, 1) := by decide +kernel
theorem dJ8_hugeLength_7cf53_0 : decode cJ8_hugeLength_7cf53 0 = .ok (.iload_n 0, 1) := by decide +kernel
theorem dJ8_hugeLength_7cf53_1 : decode cJ8_hugeLength_7cf53 1 = .ok (.iload_n 1, 1) := by decide +kernel
theorem dJ8_hugeLength_7cf53_2 : decode cJ8_hugeLength_7cf53 2 = .ok (.iadd, 1) := by decide +kernel
theorem dJ8_hugeLength_7cf53_3 : decode cJ8_hugeLength_7cf53 3 = .ok (.istore_n 2, 1) := by decide +kernel
theorem dJ8_hugeLength_7cf53_4 : decode cJ8_hugeLength_7cf53 4 = .ok (.iload_n 2, 1) := by decide +kernel
theorem dJ8_hugeLength_7cf53_5 : decode cJ8_hugeLength_7cf53 5 = .ok (.ifCond .ge 44, 3) := by decide +kernel
theorem dJ8_hugeLength_7cf53_8 : decode cJ8_hugeLength_7cf53 8 = .ok (.new 204, 3) := by decide +kernel
theorem dJ8_hugeLength_7cf53_11 : decode cJ8_hugeLength_7cf53 11 = .ok (.dup, 1) := by decide +kernel
theorem dJ8_hugeLength_7cf53_12 : decode cJ8_hugeLength_7cf53 12 = .ok (.new 89, 3) := by decide +kernel
theorem dJ8_hugeLength_7cf53_15 : decode cJ8_hugeLength_7cf53 15 = .ok (.dup, 1) := by decide +kernel
theorem dJ8_hugeLength_7cf53_16 : decode cJ8_hugeLength_7cf53 16 = .ok (.invokespecial 91, 3) := by decide +kernel
theorem dJ8_hugeLength_7cf53_19 : decode cJ8_hugeLength_7cf53 19 = .ok (.ldc 206, 2) := by decide +kernel
theorem dJ8_hugeLength_7cf53_21 : decode cJ8_hugeLength_7cf53 21 = .ok (.invokevirtual 94, 3) := by decide +kernel
theorem dJ8_hugeLength_7cf53_24 : decode cJ8_hugeLength_7cf53 24 = .ok (.iload_n 0, 1) := by decide +kernel
theorem dJ8_hugeLength_7cf53_25 : decode cJ8_hugeLength_7cf53 25 = .ok (.invokevirtual 98, 3) := by decide +kernel
theorem dJ8_hugeLength_7cf53_28 : decode cJ8_hugeLength_7cf53 28 = .ok (.ldc 208, 2) := by decide +kernel
theorem dJ8_hugeLength_7cf53_30 : decode cJ8_hugeLength_7cf53 30 = .ok (.invokevirtual 94, 3) := by decide +kernel
theorem dJ8_hugeLength_7cf53_33 : decode cJ8_hugeLength_7cf53 33 = .ok (.iload_n 1, 1) := by decide +kernel
theorem dJ8_hugeLength_7cf53_34 : decode cJ8_hugeLength_7cf53 34 = .ok (.invokevirtual 98, 3) := by decide +kernel
theorem dJ8_hugeLength_7cf53_37 : decode cJ8_hugeLength_7cf53 37 = .ok (.ldc 210, 2) := by decide +kernel
theorem dJ8_hugeLength_7cf53_39 : decode cJ8_hugeLength_7cf53 39 = .ok (.invokevirtual 94, 3) := by decide +kernel
theorem dJ8_hugeLength_7cf53_42 : decode cJ8_hugeLength_7cf53 42 = .ok (.invokevirtual 101, 3) := by decide +kernel
theorem dJ8_hugeLength_7cf53_45 : decode cJ8_hugeLength_7cf53 45 = .ok (.invokespecial 212, 3) := by decide +kernel
theorem dJ8_hugeLength_7cf53_48 : decode cJ8_hugeLength_7cf53 48 = .ok (.athrow, 1) := by decide +kernel
theorem dJ8_hugeLength_7cf53_49 : decode cJ8_hugeLength_7cf53 49 = .ok (.iload_n 2, 1) := by decide +kernel
theorem dJ8_hugeLength_7cf53_50 : decode cJ8_hugeLength_7cf53 50 = .ok (.ldc 200, 2) := by decide +kernel
theorem dJ8_hugeLength_7cf53_52 : decode cJ8_hugeLength_7cf53 52 = .ok (.if_icmp .gt 6, 3) := by decide +kernel
theorem dJ8_hugeLength_7cf53_55 : decode cJ8_hugeLength_7cf53 55 = .ok (.ldc 200, 2) := by decide +kernel
theorem dJ8_hugeLength_7cf53_57 : decode cJ8_hugeLength_7cf53 57 = .ok (.ireturn, 1) := by decide +kernel
theorem dJ8_hugeLength_7cf53_58 : decode cJ8_hugeLength_7cf53 58 = .ok (.iload_n 2, 1) := by decide +kernel
theorem dJ8_hugeLength_7cf53_59 : decode cJ8_hugeLength_7cf53 59 = .ok (.ireturn, 1) := by decide +kernel
theorem dJ3_checkIndex_8e157_0 : decode cJ3_checkIndex_8e157 0 = .ok (.iload_n 0, 1) := by decide +kernel
theorem dJ3_checkIndex_8e157_1 : decode cJ3_checkIndex_8e157 1 = .ok (.ifCond .lt 8, 3) := by decide +kernel
theorem dJ3_checkIndex_8e157_4 : decode cJ3_checkIndex_8e157 4 = .ok (.iload_n 0, 1) := by decide +kernel
theorem dJ3_checkIndex_8e157_5 : decode cJ3_checkIndex_8e157 5 = .ok (.iload_n 1, 1) := by decide +kernel
theorem dJ3_checkIndex_8e157_6 : decode cJ3_checkIndex_8e157 6 = .ok (.if_icmp .lt 10, 3) := by decide +kernel
theorem dJ3_checkIndex_8e157_9 : decode cJ3_checkIndex_8e157 9 = .ok (.aload_n 2, 1) := by decide +kernel
theorem dJ3_checkIndex_8e157_10 : decode cJ3_checkIndex_8e157 10 = .ok (.iload_n 0, 1) := by decide +kernel
theorem dJ3_checkIndex_8e157_11 : decode cJ3_checkIndex_8e157 11 = .ok (.iload_n 1, 1) := by decide +kernel
theorem dJ3_checkIndex_8e157_12 : decode cJ3_checkIndex_8e157 12 = .ok (.invokestatic 95, 3) := by decide +kernel
theorem dJ3_checkIndex_8e157_15 : decode cJ3_checkIndex_8e157 15 = .ok (.athrow, 1) := by decide +kernel
theorem dJ3_checkIndex_8e157_16 : decode cJ3_checkIndex_8e157 16 = .ok (.iload_n 0, 1) := by decide +kernel
theorem dJ3_checkIndex_8e157_17 : decode cJ3_checkIndex_8e157 17 = .ok (.ireturn, 1) := by decide +kernel
theorem dJ3_checkFromToIndex_8c36e_0 : decode cJ3_checkFromToIndex_8c36e 0 = .ok (.iload_n 0, 1) := by decide +kernel
theorem dJ3_checkFromToIndex_8c36e_1 : decode cJ3_checkFromToIndex_8c36e 1 = .ok (.ifCond .lt 13, 3) := by decide +kernel
theorem dJ3_checkFromToIndex_8c36e_4 : decode cJ3_checkFromToIndex_8c36e 4 = .ok (.iload_n 0, 1) := by decide +kernel
theorem dJ3_checkFromToIndex_8c36e_5 : decode cJ3_checkFromToIndex_8c36e 5 = .ok (.iload_n 1, 1) := by decide +kernel
theorem dJ3_checkFromToIndex_8c36e_6 : decode cJ3_checkFromToIndex_8c36e 6 = .ok (.if_icmp .gt 8, 3) := by decide +kernel
theorem dJ3_checkFromToIndex_8c36e_9 : decode cJ3_checkFromToIndex_8c36e 9 = .ok (.iload_n 1, 1) := by decide +kernel
theorem dJ3_checkFromToIndex_8c36e_10 : decode cJ3_checkFromToIndex_8c36e 10 = .ok (.iload_n 2, 1) := by decide +kernel
theorem dJ3_checkFromToIndex_8c36e_11 : decode cJ3_checkFromToIndex_8c36e 11 = .ok (.if_icmp .le 11, 3) := by decide +kernel
theorem dJ3_checkFromToIndex_8c36e_14 : decode cJ3_checkFromToIndex_8c36e 14 = .ok (.aload_n 3, 1) := by decide +kernel
theorem dJ3_checkFromToIndex_8c36e_15 : decode cJ3_checkFromToIndex_8c36e 15 = .ok (.iload_n 0, 1) := by decide +kernel
theorem dJ3_checkFromToIndex_8c36e_16 : decode cJ3_checkFromToIndex_8c36e 16 = .ok (.iload_n 1, 1) := by decide +kernel
theorem dJ3_checkFromToIndex_8c36e_17 : decode cJ3_checkFromToIndex_8c36e 17 = .ok (.iload_n 2, 1) := by decide +kernel
theorem dJ3_checkFromToIndex_8c36e_18 : decode cJ3_checkFromToIndex_8c36e 18 = .ok (.invokestatic 99, 3) := by decide +kernel
theorem dJ3_checkFromToIndex_8c36e_21 : decode cJ3_checkFromToIndex_8c36e 21 = .ok (.athrow, 1) := by decide +kernel
theorem dJ3_checkFromToIndex_8c36e_22 : decode cJ3_checkFromToIndex_8c36e 22 = .ok (.iload_n 0, 1) := by decide +kernel
theorem dJ3_checkFromToIndex_8c36e_23 : decode cJ3_checkFromToIndex_8c36e 23 = .ok (.ireturn, 1) := by decide +kernel
theorem dJ3_checkFromIndexSize_8c36e_0 : decode cJ3_checkFromIndexSize_8c36e 0 = .ok (.iload_n 2, 1) := by decide +kernel
theorem dJ3_checkFromIndexSize_8c36e_1 : decode cJ3_checkFromIndexSize_8c36e 1 = .ok (.iload_n 0, 1) := by decide +kernel
theorem dJ3_checkFromIndexSize_8c36e_2 : decode cJ3_checkFromIndexSize_8c36e 2 = .ok (.ior, 1) := by decide +kernel
theorem dJ3_checkFromIndexSize_8c36e_3 : decode cJ3_checkFromIndexSize_8c36e 3 = .ok (.iload_n 1, 1) := by decide +kernel
theorem dJ3_checkFromIndexSize_8c36e_4 : decode cJ3_checkFromIndexSize_8c36e 4 = .ok (.ior, 1) := by decide +kernel
theorem dJ3_checkFromIndexSize_8c36e_5 : decode cJ3_checkFromIndexSize_8c36e 5 = .ok (.ifCond .lt 10, 3) := by decide +kernel
theorem dJ3_checkFromIndexSize_8c36e_8 : decode cJ3_checkFromIndexSize_8c36e 8 = .ok (.iload_n 1, 1) := by decide +kernel
theorem dJ3_checkFromIndexSize_8c36e_9 : decode cJ3_checkFromIndexSize_8c36e 9 = .ok (.iload_n 2, 1) := by decide +kernel
theorem dJ3_checkFromIndexSize_8c36e_10 : decode cJ3_checkFromIndexSize_8c36e 10 = .ok (.iload_n 0, 1) := by decide +kernel
theorem dJ3_checkFromIndexSize_8c36e_11 : decode cJ3_checkFromIndexSize_8c36e 11 = .ok (.isub, 1) := by decide +kernel
theorem dJ3_checkFromIndexSize_8c36e_12 : decode cJ3_checkFromIndexSize_8c36e 12 = .ok (.if_icmp .le 11, 3) := by decide +kernel
theorem dJ3_checkFromIndexSize_8c36e_15 : decode cJ3_checkFromIndexSize_8c36e 15 = .ok (.aload_n 3, 1) := by decide +kernel
theorem dJ3_checkFromIndexSize_8c36e_16 : decode cJ3_checkFromIndexSize_8c36e 16 = .ok (.iload_n 0, 1) := by decide +kernel
theorem dJ3_checkFromIndexSize_8c36e_17 : decode cJ3_checkFromIndexSize_8c36e 17 = .ok (.iload_n 1, 1) := by decide +kernel
theorem dJ3_checkFromIndexSize_8c36e_18 : decode cJ3_checkFromIndexSize_8c36e 18 = .ok (.iload_n 2, 1) := by decide +kernel
theorem dJ3_checkFromIndexSize_8c36e_19 : decode cJ3_checkFromIndexSize_8c36e 19 = .ok (.invokestatic 103, 3) := by decide +kernel
theorem dJ3_checkFromIndexSize_8c36e_22 : decode cJ3_checkFromIndexSize_8c36e 22 = .ok (.athrow, 1) := by decide +kernel
theorem dJ3_checkFromIndexSize_8c36e_23 : decode cJ3_checkFromIndexSize_8c36e 23 = .ok (.iload_n 0, 1) := by decide +kernel
theorem dJ3_checkFromIndexSize_8c36e_24 : decode cJ3_checkFromIndexSize_8c36e 24 = .ok (.ireturn, 1) := by decide +kernel
theorem dL_cell_0 : decode cL_cell 0 = .ok (.iload_n 1, 1) := by decide +kernel
theorem dL_cell_1 : decode cL_cell 1 = .ok (.aload_n 0, 1) := by decide +kernel
theorem dL_cell_2 : decode cL_cell 2 = .ok (.arraylength, 1) := by decide +kernel
theorem dL_cell_3 : decode cL_cell 3 = .ok (.if_icmp .ge 9, 3) := by decide +kernel
theorem dL_cell_6 : decode cL_cell 6 = .ok (.aload_n 0, 1) := by decide +kernel
theorem dL_cell_7 : decode cL_cell 7 = .ok (.iload_n 1, 1) := by decide +kernel
theorem dL_cell_8 : decode cL_cell 8 = .ok (.iaload, 1) := by decide +kernel
theorem dL_cell_9 : decode cL_cell 9 = .ok (.goto 7, 3) := by decide +kernel
theorem dL_cell_12 : decode cL_cell 12 = .ok (.ldc 7, 2) := by decide +kernel
theorem dL_cell_14 : decode cL_cell 14 = .ok (.iload_n 1, 1) := by decide +kernel
theorem dL_cell_15 : decode cL_cell 15 = .ok (.imul, 1) := by decide +kernel
theorem dL_cell_16 : decode cL_cell 16 = .ok (.ireturn, 1) := by decide +kernel
theorem dL_pick_0 : decode cL_pick 0 = .ok (.aload_n 0, 1) := by decide +kernel
theorem dL_pick_1 : decode cL_pick 1 = .ok (.iload_n 1, 1) := by decide +kernel
theorem dL_pick_2 : decode cL_pick 2 = .ok (.invokestatic 8, 3) := by decide +kernel
theorem dL_pick_5 : decode cL_pick 5 = .ok (.iconst 1, 1) := by decide +kernel
theorem dL_pick_6 : decode cL_pick 6 = .ok (.iushr, 1) := by decide +kernel
theorem dL_pick_7 : decode cL_pick 7 = .ok (.iload_n 2, 1) := by decide +kernel
theorem dL_pick_8 : decode cL_pick 8 = .ok (.irem, 1) := by decide +kernel
theorem dL_pick_9 : decode cL_pick 9 = .ok (.ireturn, 1) := by decide +kernel
theorem dL_knot_0 : decode cL_knot 0 = .ok (.aload_n 0, 1) := by decide +kernel
theorem dL_knot_1 : decode cL_knot 1 = .ok (.iload_n 1, 1) := by decide +kernel
theorem dL_knot_2 : decode cL_knot 2 = .ok (.iload_n 2, 1) := by decide +kernel
theorem dL_knot_3 : decode cL_knot 3 = .ok (.iload_n 3, 1) := by decide +kernel
theorem dL_knot_4 : decode cL_knot 4 = .ok (.invokevirtual 14, 3) := by decide +kernel
theorem dL_knot_7 : decode cL_knot 7 = .ok (.ireturn, 1) := by decide +kernel
theorem dL_knot_8 : decode cL_knot 8 = .ok (.astore 4, 2) := by decide +kernel
theorem dL_knot_10 : decode cL_knot 10 = .ok (.bipush (-76), 2) := by decide +kernel
theorem dL_knot_12 : decode cL_knot 12 = .ok (.ireturn, 1) := by decide +kernel
theorem dL_tear_0 : decode cL_tear 0 = .ok (.aload_n 0, 1) := by decide +kernel
theorem dL_tear_1 : decode cL_tear 1 = .ok (.iload_n 1, 1) := by decide +kernel
theorem dL_tear_2 : decode cL_tear 2 = .ok (.iload_n 2, 1) := by decide +kernel
theorem dL_tear_3 : decode cL_tear 3 = .ok (.iload_n 3, 1) := by decide +kernel
theorem dL_tear_4 : decode cL_tear 4 = .ok (.invokevirtual 22, 3) := by decide +kernel
theorem dL_tear_7 : decode cL_tear 7 = .ok (.ireturn, 1) := by decide +kernel
theorem dL_tear_8 : decode cL_tear 8 = .ok (.astore 4, 2) := by decide +kernel
theorem dL_tear_10 : decode cL_tear 10 = .ok (.bipush (-76), 2) := by decide +kernel
theorem dL_tear_12 : decode cL_tear 12 = .ok (.ireturn, 1) := by decide +kernel
theorem dL_mend_0 : decode cL_mend 0 = .ok (.aload_n 0, 1) := by decide +kernel
theorem dL_mend_1 : decode cL_mend 1 = .ok (.iload_n 1, 1) := by decide +kernel
theorem dL_mend_2 : decode cL_mend 2 = .ok (.iload_n 2, 1) := by decide +kernel
theorem dL_mend_3 : decode cL_mend 3 = .ok (.iload_n 3, 1) := by decide +kernel
theorem dL_mend_4 : decode cL_mend 4 = .ok (.iload 4, 2) := by decide +kernel
theorem dL_mend_6 : decode cL_mend 6 = .ok (.invokevirtual 25, 3) := by decide +kernel
theorem dL_mend_9 : decode cL_mend 9 = .ok (.ireturn, 1) := by decide +kernel
theorem dL_mend_10 : decode cL_mend 10 = .ok (.astore 5, 2) := by decide +kernel
theorem dL_mend_12 : decode cL_mend 12 = .ok (.bipush (-76), 2) := by decide +kernel
theorem dL_mend_14 : decode cL_mend 14 = .ok (.ireturn, 1) := by decide +kernel
theorem dL_editor_0 : decode cL_editor 0 = .ok (.aload_n 0, 1) := by decide +kernel
theorem dL_editor_1 : decode cL_editor 1 = .ok (.iload_n 1, 1) := by decide +kernel
theorem dL_editor_2 : decode cL_editor 2 = .ok (.invokevirtual 29, 3) := by decide +kernel
theorem dL_editor_5 : decode cL_editor 5 = .ok (.ireturn, 1) := by decide +kernel
theorem dL_editor_6 : decode cL_editor 6 = .ok (.astore_n 2, 1) := by decide +kernel
theorem dL_editor_7 : decode cL_editor 7 = .ok (.bipush (-76), 2) := by decide +kernel
theorem dL_editor_9 : decode cL_editor 9 = .ok (.ireturn, 1) := by decide +kernel
theorem dL_tide_0 : decode cL_tide 0 = .ok (.aload_n 0, 1) := by decide +kernel
theorem dL_tide_1 : decode cL_tide 1 = .ok (.iload_n 1, 1) := by decide +kernel
theorem dL_tide_2 : decode cL_tide 2 = .ok (.invokevirtual 33, 3) := by decide +kernel
theorem dL_tide_5 : decode cL_tide 5 = .ok (.ireturn, 1) := by decide +kernel
theorem dL_tide_6 : decode cL_tide 6 = .ok (.astore_n 2, 1) := by decide +kernel
theorem dL_tide_7 : decode cL_tide 7 = .ok (.bipush (-76), 2) := by decide +kernel
theorem dL_tide_9 : decode cL_tide 9 = .ok (.ireturn, 1) := by decide +kernel
theorem dL_sink_0 : decode cL_sink 0 = .ok (.aload_n 0, 1) := by decide +kernel
theorem dL_sink_1 : decode cL_sink 1 = .ok (.iload_n 1, 1) := by decide +kernel
theorem dL_sink_2 : decode cL_sink 2 = .ok (.iload_n 2, 1) := by decide +kernel
theorem dL_sink_3 : decode cL_sink 3 = .ok (.invokevirtual 36, 3) := by decide +kernel
theorem dL_sink_6 : decode cL_sink 6 = .ok (.ireturn, 1) := by decide +kernel
theorem dL_sink_7 : decode cL_sink 7 = .ok (.astore_n 3, 1) := by decide +kernel
theorem dL_sink_8 : decode cL_sink 8 = .ok (.bipush (-76), 2) := by decide +kernel
theorem dL_sink_10 : decode cL_sink 10 = .ok (.ireturn, 1) := by decide +kernel
theorem dL_note_0 : decode cL_note 0 = .ok (.aload_n 0, 1) := by decide +kernel
theorem dL_note_1 : decode cL_note 1 = .ok (.iload_n 1, 1) := by decide +kernel
theorem dL_note_2 : decode cL_note 2 = .ok (.iload_n 2, 1) := by decide +kernel
theorem dL_note_3 : decode cL_note 3 = .ok (.invokevirtual 40, 3) := by decide +kernel
theorem dL_note_6 : decode cL_note 6 = .ok (.ireturn, 1) := by decide +kernel
theorem dL_note_7 : decode cL_note 7 = .ok (.astore_n 3, 1) := by decide +kernel
theorem dL_note_8 : decode cL_note 8 = .ok (.bipush (-76), 2) := by decide +kernel
theorem dL_note_10 : decode cL_note 10 = .ok (.ireturn, 1) := by decide +kernel
theorem dL_drop_0 : decode cL_drop 0 = .ok (.aload_n 0, 1) := by decide +kernel
theorem dL_drop_1 : decode cL_drop 1 = .ok (.iload_n 1, 1) := by decide +kernel
theorem dL_drop_2 : decode cL_drop 2 = .ok (.invokevirtual 43, 3) := by decide +kernel
theorem dL_drop_5 : decode cL_drop 5 = .ok (.ireturn, 1) := by decide +kernel
theorem dL_drop_6 : decode cL_drop 6 = .ok (.astore_n 2, 1) := by decide +kernel
theorem dL_drop_7 : decode cL_drop 7 = .ok (.bipush (-76), 2) := by decide +kernel
theorem dL_drop_9 : decode cL_drop 9 = .ok (.ireturn, 1) := by decide +kernel
theorem dL_kindOf_0 : decode cL_kindOf 0 = .ok (.aload_n 0, 1) := by decide +kernel
theorem dL_kindOf_1 : decode cL_kindOf 1 = .ok (.iload_n 1, 1) := by decide +kernel
theorem dL_kindOf_2 : decode cL_kindOf 2 = .ok (.iload_n 2, 1) := by decide +kernel
theorem dL_kindOf_3 : decode cL_kindOf 3 = .ok (.invokevirtual 46, 3) := by decide +kernel
theorem dL_kindOf_6 : decode cL_kindOf 6 = .ok (.ireturn, 1) := by decide +kernel
theorem dL_kindOf_7 : decode cL_kindOf 7 = .ok (.astore_n 3, 1) := by decide +kernel
theorem dL_kindOf_8 : decode cL_kindOf 8 = .ok (.bipush (-77), 2) := by decide +kernel
theorem dL_kindOf_10 : decode cL_kindOf 10 = .ok (.ireturn, 1) := by decide +kernel
theorem dL_torn_0 : decode cL_torn 0 = .ok (.aload_n 0, 1) := by decide +kernel
theorem dL_torn_1 : decode cL_torn 1 = .ok (.iload_n 1, 1) := by decide +kernel
theorem dL_torn_2 : decode cL_torn 2 = .ok (.iload_n 2, 1) := by decide +kernel
theorem dL_torn_3 : decode cL_torn 3 = .ok (.iload_n 3, 1) := by decide +kernel
theorem dL_torn_4 : decode cL_torn 4 = .ok (.invokevirtual 51, 3) := by decide +kernel
theorem dL_torn_7 : decode cL_torn 7 = .ok (.ifCond .eq 7, 3) := by decide +kernel
theorem dL_torn_10 : decode cL_torn 10 = .ok (.iconst 1, 1) := by decide +kernel
theorem dL_torn_11 : decode cL_torn 11 = .ok (.goto 4, 3) := by decide +kernel
theorem dL_torn_14 : decode cL_torn 14 = .ok (.iconst 0, 1) := by decide +kernel
theorem dL_torn_15 : decode cL_torn 15 = .ok (.ireturn, 1) := by decide +kernel
theorem dL_torn_16 : decode cL_torn 16 = .ok (.astore 4, 2) := by decide +kernel
theorem dL_torn_18 : decode cL_torn 18 = .ok (.bipush (-77), 2) := by decide +kernel
theorem dL_torn_20 : decode cL_torn 20 = .ok (.ireturn, 1) := by decide +kernel
theorem dL_torn_21 : decode cL_torn 21 = .ok (.astore 4, 2) := by decide +kernel
theorem dL_torn_23 : decode cL_torn 23 = .ok (.bipush (-75), 2) := by decide +kernel
theorem dL_torn_25 : decode cL_torn 25 = .ok (.ireturn, 1) := by decide +kernel
theorem dL_netOf_0 : decode cL_netOf 0 = .ok (.aload_n 0, 1) := by decide +kernel
theorem dL_netOf_1 : decode cL_netOf 1 = .ok (.iload_n 1, 1) := by decide +kernel
theorem dL_netOf_2 : decode cL_netOf 2 = .ok (.iload_n 2, 1) := by decide +kernel
theorem dL_netOf_3 : decode cL_netOf 3 = .ok (.invokevirtual 57, 3) := by decide +kernel
theorem dL_netOf_6 : decode cL_netOf 6 = .ok (.ireturn, 1) := by decide +kernel
theorem dL_netOf_7 : decode cL_netOf 7 = .ok (.astore_n 3, 1) := by decide +kernel
theorem dL_netOf_8 : decode cL_netOf 8 = .ok (.bipush (-77), 2) := by decide +kernel
theorem dL_netOf_10 : decode cL_netOf 10 = .ok (.ireturn, 1) := by decide +kernel
theorem dL_netOf_11 : decode cL_netOf 11 = .ok (.astore_n 3, 1) := by decide +kernel
theorem dL_netOf_12 : decode cL_netOf 12 = .ok (.bipush (-78), 2) := by decide +kernel
theorem dL_netOf_14 : decode cL_netOf 14 = .ok (.ireturn, 1) := by decide +kernel
theorem dL_chapters_0 : decode cL_chapters 0 = .ok (.aload_n 0, 1) := by decide +kernel
theorem dL_chapters_1 : decode cL_chapters 1 = .ok (.iload_n 1, 1) := by decide +kernel
theorem dL_chapters_2 : decode cL_chapters 2 = .ok (.invokevirtual 62, 3) := by decide +kernel
theorem dL_chapters_5 : decode cL_chapters 5 = .ok (.ireturn, 1) := by decide +kernel
theorem dL_chapters_6 : decode cL_chapters 6 = .ok (.astore_n 2, 1) := by decide +kernel
theorem dL_chapters_7 : decode cL_chapters 7 = .ok (.bipush (-77), 2) := by decide +kernel
theorem dL_chapters_9 : decode cL_chapters 9 = .ok (.ireturn, 1) := by decide +kernel
theorem dL_chaptersAgain_0 : decode cL_chaptersAgain 0 = .ok (.aload_n 0, 1) := by decide +kernel
theorem dL_chaptersAgain_1 : decode cL_chaptersAgain 1 = .ok (.iload_n 1, 1) := by decide +kernel
theorem dL_chaptersAgain_2 : decode cL_chaptersAgain 2 = .ok (.invokevirtual 65, 3) := by decide +kernel
theorem dL_chaptersAgain_5 : decode cL_chaptersAgain 5 = .ok (.ireturn, 1) := by decide +kernel
theorem dL_chaptersAgain_6 : decode cL_chaptersAgain 6 = .ok (.astore_n 2, 1) := by decide +kernel
theorem dL_chaptersAgain_7 : decode cL_chaptersAgain 7 = .ok (.bipush (-77), 2) := by decide +kernel
theorem dL_chaptersAgain_9 : decode cL_chaptersAgain 9 = .ok (.ireturn, 1) := by decide +kernel
theorem dL_chapterOf_0 : decode cL_chapterOf 0 = .ok (.aload_n 0, 1) := by decide +kernel
theorem dL_chapterOf_1 : decode cL_chapterOf 1 = .ok (.iload_n 1, 1) := by decide +kernel
theorem dL_chapterOf_2 : decode cL_chapterOf 2 = .ok (.iload_n 2, 1) := by decide +kernel
theorem dL_chapterOf_3 : decode cL_chapterOf 3 = .ok (.iload_n 3, 1) := by decide +kernel
theorem dL_chapterOf_4 : decode cL_chapterOf 4 = .ok (.invokevirtual 68, 3) := by decide +kernel
theorem dL_chapterOf_7 : decode cL_chapterOf 7 = .ok (.ireturn, 1) := by decide +kernel
theorem dL_chapterOf_8 : decode cL_chapterOf 8 = .ok (.astore 4, 2) := by decide +kernel
theorem dL_chapterOf_10 : decode cL_chapterOf 10 = .ok (.bipush (-77), 2) := by decide +kernel
theorem dL_chapterOf_12 : decode cL_chapterOf 12 = .ok (.ireturn, 1) := by decide +kernel
theorem dL_chapterOf_13 : decode cL_chapterOf 13 = .ok (.astore 4, 2) := by decide +kernel
theorem dL_chapterOf_15 : decode cL_chapterOf 15 = .ok (.bipush (-78), 2) := by decide +kernel
theorem dL_chapterOf_17 : decode cL_chapterOf 17 = .ok (.ireturn, 1) := by decide +kernel
theorem dL_chapterOf_18 : decode cL_chapterOf 18 = .ok (.astore 4, 2) := by decide +kernel
theorem dL_chapterOf_20 : decode cL_chapterOf 20 = .ok (.bipush (-75), 2) := by decide +kernel
theorem dL_chapterOf_22 : decode cL_chapterOf 22 = .ok (.ireturn, 1) := by decide +kernel
theorem dL_noteOf_0 : decode cL_noteOf 0 = .ok (.aload_n 0, 1) := by decide +kernel
theorem dL_noteOf_1 : decode cL_noteOf 1 = .ok (.iload_n 1, 1) := by decide +kernel
theorem dL_noteOf_2 : decode cL_noteOf 2 = .ok (.iload_n 2, 1) := by decide +kernel
theorem dL_noteOf_3 : decode cL_noteOf 3 = .ok (.invokevirtual 71, 3) := by decide +kernel
theorem dL_noteOf_6 : decode cL_noteOf 6 = .ok (.ireturn, 1) := by decide +kernel
theorem dL_noteOf_7 : decode cL_noteOf 7 = .ok (.astore_n 3, 1) := by decide +kernel
theorem dL_noteOf_8 : decode cL_noteOf 8 = .ok (.bipush (-77), 2) := by decide +kernel
theorem dL_noteOf_10 : decode cL_noteOf 10 = .ok (.ireturn, 1) := by decide +kernel
theorem dL_noteOf_11 : decode cL_noteOf 11 = .ok (.astore_n 3, 1) := by decide +kernel
theorem dL_noteOf_12 : decode cL_noteOf 12 = .ok (.bipush (-78), 2) := by decide +kernel
theorem dL_noteOf_14 : decode cL_noteOf 14 = .ok (.ireturn, 1) := by decide +kernel
theorem dL_least_0 : decode cL_least 0 = .ok (.aload_n 0, 1) := by decide +kernel
theorem dL_least_1 : decode cL_least 1 = .ok (.iload_n 1, 1) := by decide +kernel
theorem dL_least_2 : decode cL_least 2 = .ok (.invokevirtual 74, 3) := by decide +kernel
theorem dL_least_5 : decode cL_least 5 = .ok (.ireturn, 1) := by decide +kernel
theorem dL_least_6 : decode cL_least 6 = .ok (.astore_n 2, 1) := by decide +kernel
theorem dL_least_7 : decode cL_least 7 = .ok (.bipush (-77), 2) := by decide +kernel
theorem dL_least_9 : decode cL_least 9 = .ok (.ireturn, 1) := by decide +kernel
theorem dL_least_10 : decode cL_least 10 = .ok (.astore_n 2, 1) := by decide +kernel
theorem dL_least_11 : decode cL_least 11 = .ok (.bipush (-75), 2) := by decide +kernel
theorem dL_least_13 : decode cL_least 13 = .ok (.ireturn, 1) := by decide +kernel
theorem dL_leastAgain_0 : decode cL_leastAgain 0 = .ok (.aload_n 0, 1) := by decide +kernel
theorem dL_leastAgain_1 : decode cL_leastAgain 1 = .ok (.iload_n 1, 1) := by decide +kernel
theorem dL_leastAgain_2 : decode cL_leastAgain 2 = .ok (.invokevirtual 77, 3) := by decide +kernel
theorem dL_leastAgain_5 : decode cL_leastAgain 5 = .ok (.ireturn, 1) := by decide +kernel
theorem dL_leastAgain_6 : decode cL_leastAgain 6 = .ok (.astore_n 2, 1) := by decide +kernel
theorem dL_leastAgain_7 : decode cL_leastAgain 7 = .ok (.bipush (-77), 2) := by decide +kernel
theorem dL_leastAgain_9 : decode cL_leastAgain 9 = .ok (.ireturn, 1) := by decide +kernel
theorem dL_leastAgain_10 : decode cL_leastAgain 10 = .ok (.astore_n 2, 1) := by decide +kernel
theorem dL_leastAgain_11 : decode cL_leastAgain 11 = .ok (.bipush (-75), 2) := by decide +kernel
theorem dL_leastAgain_13 : decode cL_leastAgain 13 = .ok (.ireturn, 1) := by decide +kernel
theorem dL_bestMend_0 : decode cL_bestMend 0 = .ok (.aload_n 0, 1) := by decide +kernel
theorem dL_bestMend_1 : decode cL_bestMend 1 = .ok (.iload_n 1, 1) := by decide +kernel
theorem dL_bestMend_2 : decode cL_bestMend 2 = .ok (.iload_n 2, 1) := by decide +kernel
theorem dL_bestMend_3 : decode cL_bestMend 3 = .ok (.invokevirtual 80, 3) := by decide +kernel
theorem dL_bestMend_6 : decode cL_bestMend 6 = .ok (.ireturn, 1) := by decide +kernel
theorem dL_bestMend_7 : decode cL_bestMend 7 = .ok (.astore_n 3, 1) := by decide +kernel
theorem dL_bestMend_8 : decode cL_bestMend 8 = .ok (.bipush (-77), 2) := by decide +kernel
theorem dL_bestMend_10 : decode cL_bestMend 10 = .ok (.ireturn, 1) := by decide +kernel
theorem dL_bestMend_11 : decode cL_bestMend 11 = .ok (.astore_n 3, 1) := by decide +kernel
theorem dL_bestMend_12 : decode cL_bestMend 12 = .ok (.bipush (-75), 2) := by decide +kernel
theorem dL_bestMend_14 : decode cL_bestMend 14 = .ok (.ireturn, 1) := by decide +kernel
theorem dL_ranked_0 : decode cL_ranked 0 = .ok (.aload_n 0, 1) := by decide +kernel
theorem dL_ranked_1 : decode cL_ranked 1 = .ok (.iload_n 1, 1) := by decide +kernel
theorem dL_ranked_2 : decode cL_ranked 2 = .ok (.iload_n 2, 1) := by decide +kernel
theorem dL_ranked_3 : decode cL_ranked 3 = .ok (.invokevirtual 84, 3) := by decide +kernel
theorem dL_ranked_6 : decode cL_ranked 6 = .ok (.ireturn, 1) := by decide +kernel
theorem dL_ranked_7 : decode cL_ranked 7 = .ok (.astore_n 3, 1) := by decide +kernel
theorem dL_ranked_8 : decode cL_ranked 8 = .ok (.bipush (-77), 2) := by decide +kernel
theorem dL_ranked_10 : decode cL_ranked 10 = .ok (.ireturn, 1) := by decide +kernel
theorem dL_ranked_11 : decode cL_ranked 11 = .ok (.astore_n 3, 1) := by decide +kernel
theorem dL_ranked_12 : decode cL_ranked 12 = .ok (.bipush (-75), 2) := by decide +kernel
theorem dL_ranked_14 : decode cL_ranked 14 = .ok (.ireturn, 1) := by decide +kernel
theorem dL_editorOf_0 : decode cL_editorOf 0 = .ok (.aload_n 0, 1) := by decide +kernel
theorem dL_editorOf_1 : decode cL_editorOf 1 = .ok (.iload_n 1, 1) := by decide +kernel
theorem dL_editorOf_2 : decode cL_editorOf 2 = .ok (.iload_n 2, 1) := by decide +kernel
theorem dL_editorOf_3 : decode cL_editorOf 3 = .ok (.invokevirtual 87, 3) := by decide +kernel
theorem dL_editorOf_6 : decode cL_editorOf 6 = .ok (.ireturn, 1) := by decide +kernel
theorem dL_editorOf_7 : decode cL_editorOf 7 = .ok (.astore_n 3, 1) := by decide +kernel
theorem dL_editorOf_8 : decode cL_editorOf 8 = .ok (.bipush (-77), 2) := by decide +kernel
theorem dL_editorOf_10 : decode cL_editorOf 10 = .ok (.ireturn, 1) := by decide +kernel
theorem dL_editorOf_11 : decode cL_editorOf 11 = .ok (.astore_n 3, 1) := by decide +kernel
theorem dL_editorOf_12 : decode cL_editorOf 12 = .ok (.bipush (-78), 2) := by decide +kernel
theorem dL_editorOf_14 : decode cL_editorOf 14 = .ok (.ireturn, 1) := by decide +kernel
theorem dL_feed_0 : decode cL_feed 0 = .ok (.aload_n 0, 1) := by decide +kernel
theorem dL_feed_1 : decode cL_feed 1 = .ok (.iload_n 1, 1) := by decide +kernel
theorem dL_feed_2 : decode cL_feed 2 = .ok (.invokevirtual 90, 3) := by decide +kernel
theorem dL_feed_5 : decode cL_feed 5 = .ok (.ireturn, 1) := by decide +kernel
theorem dL_feed_6 : decode cL_feed 6 = .ok (.astore_n 2, 1) := by decide +kernel
theorem dL_feed_7 : decode cL_feed 7 = .ok (.bipush (-79), 2) := by decide +kernel
theorem dL_feed_9 : decode cL_feed 9 = .ok (.ireturn, 1) := by decide +kernel
theorem dL_run_0 : decode cL_run 0 = .ok (.aload_n 0, 1) := by decide +kernel
theorem dL_run_1 : decode cL_run 1 = .ok (.invokevirtual 96, 3) := by decide +kernel
theorem dL_run_4 : decode cL_run 4 = .ok (.ireturn, 1) := by decide +kernel
theorem dL_run_5 : decode cL_run 5 = .ok (.astore_n 1, 1) := by decide +kernel
theorem dL_run_6 : decode cL_run 6 = .ok (.bipush (-78), 2) := by decide +kernel
theorem dL_run_8 : decode cL_run 8 = .ok (.ireturn, 1) := by decide +kernel
theorem dL_run_9 : decode cL_run 9 = .ok (.astore_n 1, 1) := by decide +kernel
theorem dL_run_10 : decode cL_run 10 = .ok (.bipush (-76), 2) := by decide +kernel
theorem dL_run_12 : decode cL_run 12 = .ok (.ireturn, 1) := by decide +kernel
theorem dL_line_0 : decode cL_line 0 = .ok (.aload_n 0, 1) := by decide +kernel
theorem dL_line_1 : decode cL_line 1 = .ok (.iload_n 1, 1) := by decide +kernel
theorem dL_line_2 : decode cL_line 2 = .ok (.iload_n 2, 1) := by decide +kernel
theorem dL_line_3 : decode cL_line 3 = .ok (.invokevirtual 107, 3) := by decide +kernel
theorem dL_line_6 : decode cL_line 6 = .ok (.ireturn, 1) := by decide +kernel
theorem dL_line_7 : decode cL_line 7 = .ok (.astore_n 3, 1) := by decide +kernel
theorem dL_line_8 : decode cL_line 8 = .ok (.bipush (-77), 2) := by decide +kernel
theorem dL_line_10 : decode cL_line 10 = .ok (.ireturn, 1) := by decide +kernel
theorem dL_chapterLine_0 : decode cL_chapterLine 0 = .ok (.aload_n 0, 1) := by decide +kernel
theorem dL_chapterLine_1 : decode cL_chapterLine 1 = .ok (.iload_n 1, 1) := by decide +kernel
theorem dL_chapterLine_2 : decode cL_chapterLine 2 = .ok (.iload_n 2, 1) := by decide +kernel
theorem dL_chapterLine_3 : decode cL_chapterLine 3 = .ok (.invokevirtual 110, 3) := by decide +kernel
theorem dL_chapterLine_6 : decode cL_chapterLine 6 = .ok (.ireturn, 1) := by decide +kernel
theorem dL_chapterLine_7 : decode cL_chapterLine 7 = .ok (.astore_n 3, 1) := by decide +kernel
theorem dL_chapterLine_8 : decode cL_chapterLine 8 = .ok (.bipush (-77), 2) := by decide +kernel
theorem dL_chapterLine_10 : decode cL_chapterLine 10 = .ok (.ireturn, 1) := by decide +kernel
theorem dL_chapterLine_11 : decode cL_chapterLine 11 = .ok (.astore_n 3, 1) := by decide +kernel
theorem dL_chapterLine_12 : decode cL_chapterLine 12 = .ok (.bipush (-75), 2) := by decide +kernel
theorem dL_chapterLine_14 : decode cL_chapterLine 14 = .ok (.ireturn, 1) := by decide +kernel
theorem dL_noteLine_0 : decode cL_noteLine 0 = .ok (.aload_n 0, 1) := by decide +kernel
theorem dL_noteLine_1 : decode cL_noteLine 1 = .ok (.iload_n 1, 1) := by decide +kernel
theorem dL_noteLine_2 : decode cL_noteLine 2 = .ok (.invokevirtual 113, 3) := by decide +kernel
theorem dL_noteLine_5 : decode cL_noteLine 5 = .ok (.ireturn, 1) := by decide +kernel
theorem dL_noteLine_6 : decode cL_noteLine 6 = .ok (.astore_n 2, 1) := by decide +kernel
theorem dL_noteLine_7 : decode cL_noteLine 7 = .ok (.bipush (-77), 2) := by decide +kernel
theorem dL_noteLine_9 : decode cL_noteLine 9 = .ok (.ireturn, 1) := by decide +kernel
theorem dL_meanKnots_0 : decode cL_meanKnots 0 = .ok (.aload_n 0, 1) := by decide +kernel
theorem dL_meanKnots_1 : decode cL_meanKnots 1 = .ok (.invokevirtual 120, 3) := by decide +kernel
theorem dL_meanKnots_4 : decode cL_meanKnots 4 = .ok (.dreturn, 1) := by decide +kernel
theorem dL_meanKnots_5 : decode cL_meanKnots 5 = .ok (.astore_n 1, 1) := by decide +kernel
theorem dL_meanKnots_6 : decode cL_meanKnots 6 = .ok (.ldc2_w 126, 3) := by decide +kernel
theorem dL_meanKnots_9 : decode cL_meanKnots 9 = .ok (.dreturn, 1) := by decide +kernel
theorem dL_readShare_0 : decode cL_readShare 0 = .ok (.aload_n 0, 1) := by decide +kernel
theorem dL_readShare_1 : decode cL_readShare 1 = .ok (.invokevirtual 128, 3) := by decide +kernel
theorem dL_readShare_4 : decode cL_readShare 4 = .ok (.freturn, 1) := by decide +kernel
theorem dL_readShare_5 : decode cL_readShare 5 = .ok (.astore_n 1, 1) := by decide +kernel
theorem dL_readShare_6 : decode cL_readShare 6 = .ok (.ldc 132, 2) := by decide +kernel
theorem dL_readShare_8 : decode cL_readShare 8 = .ok (.freturn, 1) := by decide +kernel
theorem dL_account_0 : decode cL_account 0 = .ok (.aload_n 0, 1) := by decide +kernel
theorem dL_account_1 : decode cL_account 1 = .ok (.iload_n 1, 1) := by decide +kernel
theorem dL_account_2 : decode cL_account 2 = .ok (.invokevirtual 133, 3) := by decide +kernel
theorem dL_account_5 : decode cL_account 5 = .ok (.ireturn, 1) := by decide +kernel
theorem dL_account_6 : decode cL_account 6 = .ok (.astore_n 2, 1) := by decide +kernel
theorem dL_account_7 : decode cL_account 7 = .ok (.bipush (-78), 2) := by decide +kernel
theorem dL_account_9 : decode cL_account 9 = .ok (.ireturn, 1) := by decide +kernel
theorem dL_undo_0 : decode cL_undo 0 = .ok (.aload_n 0, 1) := by decide +kernel
theorem dL_undo_1 : decode cL_undo 1 = .ok (.invokevirtual 136, 3) := by decide +kernel
theorem dL_undo_4 : decode cL_undo 4 = .ok (.ireturn, 1) := by decide +kernel
theorem dL_undo_5 : decode cL_undo 5 = .ok (.astore_n 1, 1) := by decide +kernel
theorem dL_undo_6 : decode cL_undo 6 = .ok (.bipush (-79), 2) := by decide +kernel
theorem dL_undo_8 : decode cL_undo 8 = .ok (.ireturn, 1) := by decide +kernel
theorem dL_restore_0 : decode cL_restore 0 = .ok (.aload_n 0, 1) := by decide +kernel
theorem dL_restore_1 : decode cL_restore 1 = .ok (.invokevirtual 139, 3) := by decide +kernel
theorem dL_restore_4 : decode cL_restore 4 = .ok (.ireturn, 1) := by decide +kernel
theorem dL_restore_5 : decode cL_restore 5 = .ok (.astore_n 1, 1) := by decide +kernel
theorem dL_restore_6 : decode cL_restore 6 = .ok (.bipush (-79), 2) := by decide +kernel
theorem dL_restore_8 : decode cL_restore 8 = .ok (.ireturn, 1) := by decide +kernel
theorem dL_reads_0 : decode cL_reads 0 = .ok (.iconst 0, 1) := by decide +kernel
theorem dL_reads_1 : decode cL_reads 1 = .ok (.istore_n 2, 1) := by decide +kernel
theorem dL_reads_2 : decode cL_reads 2 = .ok (.iload_n 2, 1) := by decide +kernel
theorem dL_reads_3 : decode cL_reads 3 = .ok (.aload_n 1, 1) := by decide +kernel
theorem dL_reads_4 : decode cL_reads 4 = .ok (.invokevirtual 142, 3) := by decide +kernel
theorem dL_reads_7 : decode cL_reads 7 = .ok (.if_icmp .ge 19, 3) := by decide +kernel
theorem dL_reads_10 : decode cL_reads 10 = .ok (.aload_n 0, 1) := by decide +kernel
theorem dL_reads_11 : decode cL_reads 11 = .ok (.aload_n 1, 1) := by decide +kernel
theorem dL_reads_12 : decode cL_reads 12 = .ok (.iload_n 2, 1) := by decide +kernel
theorem dL_reads_13 : decode cL_reads 13 = .ok (.invokevirtual 147, 3) := by decide +kernel
theorem dL_reads_16 : decode cL_reads 16 = .ok (.invokestatic 150, 3) := by decide +kernel
theorem dL_reads_19 : decode cL_reads 19 = .ok (.istore_n 3, 1) := by decide +kernel
theorem dL_reads_20 : decode cL_reads 20 = .ok (.iinc 2 1, 3) := by decide +kernel
theorem dL_reads_23 : decode cL_reads 23 = .ok (.goto (-21), 3) := by decide +kernel
theorem dL_reads_26 : decode cL_reads 26 = .ok (.aload_n 0, 1) := by decide +kernel
theorem dL_reads_27 : decode cL_reads 27 = .ok (.invokestatic 153, 3) := by decide +kernel
theorem dL_reads_30 : decode cL_reads 30 = .ok (.ireturn, 1) := by decide +kernel
theorem dL_law_0 : decode cL_law 0 = .ok (.new 15, 3) := by decide +kernel
theorem dL_law_3 : decode cL_law 3 = .ok (.dup, 1) := by decide +kernel
theorem dL_law_4 : decode cL_law 4 = .ok (.invokespecial 162, 3) := by decide +kernel
theorem dL_law_7 : decode cL_law 7 = .ok (.astore_n 1, 1) := by decide +kernel
theorem dL_law_8 : decode cL_law 8 = .ok (.bipush 60, 2) := by decide +kernel
theorem dL_law_10 : decode cL_law 10 = .ok (.newarray .long, 2) := by decide +kernel
theorem dL_law_12 : decode cL_law 12 = .ok (.astore_n 2, 1) := by decide +kernel
theorem dL_law_13 : decode cL_law 13 = .ok (.iconst 0, 1) := by decide +kernel
theorem dL_law_14 : decode cL_law 14 = .ok (.istore_n 3, 1) := by decide +kernel
theorem dL_law_15 : decode cL_law 15 = .ok (.aload_n 2, 1) := by decide +kernel
theorem dL_law_16 : decode cL_law 16 = .ok (.iload_n 3, 1) := by decide +kernel
theorem dL_law_17 : decode cL_law 17 = .ok (.aload_n 1, 1) := by decide +kernel
theorem dL_law_18 : decode cL_law 18 = .ok (.invokestatic 163, 3) := by decide +kernel
theorem dL_law_21 : decode cL_law 21 = .ok (.lastore, 1) := by decide +kernel
theorem dL_law_22 : decode cL_law 22 = .ok (.iconst 0, 1) := by decide +kernel
theorem dL_law_23 : decode cL_law 23 = .ok (.istore 4, 2) := by decide +kernel
theorem dL_law_25 : decode cL_law 25 = .ok (.iconst 0, 1) := by decide +kernel
theorem dL_law_26 : decode cL_law 26 = .ok (.istore 5, 2) := by decide +kernel
theorem dL_law_28 : decode cL_law 28 = .ok (.iload 5, 2) := by decide +kernel
theorem dL_law_30 : decode cL_law 30 = .ok (.bipush 46, 2) := by decide +kernel
theorem dL_law_32 : decode cL_law 32 = .ok (.if_icmp .ge 333, 3) := by decide +kernel
theorem dL_law_35 : decode cL_law 35 = .ok (.aload_n 1, 1) := by decide +kernel
theorem dL_law_36 : decode cL_law 36 = .ok (.invokestatic 163, 3) := by decide +kernel
theorem dL_law_39 : decode cL_law 39 = .ok (.lstore 6, 2) := by decide +kernel
theorem dL_law_41 : decode cL_law 41 = .ok (.aload_n 1, 1) := by decide +kernel
theorem dL_law_42 : decode cL_law 42 = .ok (.bipush 12, 2) := by decide +kernel
theorem dL_law_44 : decode cL_law 44 = .ok (.invokestatic 167, 3) := by decide +kernel
theorem dL_law_47 : decode cL_law 47 = .ok (.istore 8, 2) := by decide +kernel
theorem dL_law_49 : decode cL_law 49 = .ok (.iload 5, 2) := by decide +kernel
theorem dL_law_51 : decode cL_law 51 = .ok (.bipush 7, 2) := by decide +kernel
theorem dL_law_53 : decode cL_law 53 = .ok (.if_icmp .ge 7, 3) := by decide +kernel
theorem dL_law_56 : decode cL_law 56 = .ok (.iconst 0, 1) := by decide +kernel
theorem dL_law_57 : decode cL_law 57 = .ok (.goto 23, 3) := by decide +kernel
theorem dL_law_60 : decode cL_law 60 = .ok (.iload 5, 2) := by decide +kernel
theorem dL_law_62 : decode cL_law 62 = .ok (.bipush 9, 2) := by decide +kernel
theorem dL_law_64 : decode cL_law 64 = .ok (.if_icmp .ge 8, 3) := by decide +kernel
theorem dL_law_67 : decode cL_law 67 = .ok (.bipush 16, 2) := by decide +kernel
theorem dL_law_69 : decode cL_law 69 = .ok (.goto 11, 3) := by decide +kernel
theorem dL_law_72 : decode cL_law 72 = .ok (.aload_n 0, 1) := by decide +kernel
theorem dL_law_73 : decode cL_law 73 = .ok (.iload 4, 2) := by decide +kernel
theorem dL_law_75 : decode cL_law 75 = .ok (.bipush 27, 2) := by decide +kernel
theorem dL_law_77 : decode cL_law 77 = .ok (.invokestatic 169, 3) := by decide +kernel
theorem dL_law_80 : decode cL_law 80 = .ok (.istore 9, 2) := by decide +kernel
theorem dL_law_82 : decode cL_law 82 = .ok (.aload_n 0, 1) := by decide +kernel
theorem dL_law_83 : decode cL_law 83 = .ok (.iload 4, 2) := by decide +kernel
theorem dL_law_85 : decode cL_law 85 = .ok (.iconst 2, 1) := by decide +kernel
theorem dL_law_86 : decode cL_law 86 = .ok (.iadd, 1) := by decide +kernel
theorem dL_law_87 : decode cL_law 87 = .ok (.bipush 9, 2) := by decide +kernel
theorem dL_law_89 : decode cL_law 89 = .ok (.invokestatic 169, 3) := by decide +kernel
theorem dL_law_92 : decode cL_law 92 = .ok (.ifCond .ne 7, 3) := by decide +kernel
theorem dL_law_95 : decode cL_law 95 = .ok (.iconst 1, 1) := by decide +kernel
theorem dL_law_96 : decode cL_law 96 = .ok (.goto 4, 3) := by decide +kernel
theorem dL_law_99 : decode cL_law 99 = .ok (.iconst 0, 1) := by decide +kernel
theorem dL_law_100 : decode cL_law 100 = .ok (.istore 10, 2) := by decide +kernel
theorem dL_law_102 : decode cL_law 102 = .ok (.aload_n 0, 1) := by decide +kernel
theorem dL_law_103 : decode cL_law 103 = .ok (.iload 4, 2) := by decide +kernel
theorem dL_law_105 : decode cL_law 105 = .ok (.iconst 3, 1) := by decide +kernel
theorem dL_law_106 : decode cL_law 106 = .ok (.iadd, 1) := by decide +kernel
theorem dL_law_107 : decode cL_law 107 = .ok (.bipush 24, 2) := by decide +kernel
theorem dL_law_109 : decode cL_law 109 = .ok (.invokestatic 169, 3) := by decide +kernel
theorem dL_law_112 : decode cL_law 112 = .ok (.istore 11, 2) := by decide +kernel
theorem dL_law_114 : decode cL_law 114 = .ok (.aload_n 1, 1) := by decide +kernel
theorem dL_law_115 : decode cL_law 115 = .ok (.iconst 4, 1) := by decide +kernel
theorem dL_law_116 : decode cL_law 116 = .ok (.invokestatic 167, 3) := by decide +kernel
theorem dL_law_119 : decode cL_law 119 = .ok (.istore 12, 2) := by decide +kernel
theorem dL_law_121 : decode cL_law 121 = .ok (.aload_n 1, 1) := by decide +kernel
theorem dL_law_122 : decode cL_law 122 = .ok (.iload 10, 2) := by decide +kernel
theorem dL_law_124 : decode cL_law 124 = .ok (.invokestatic 173, 3) := by decide +kernel
theorem dL_law_127 : decode cL_law 127 = .ok (.istore 13, 2) := by decide +kernel
theorem dL_law_129 : decode cL_law 129 = .ok (.aload_n 0, 1) := by decide +kernel
theorem dL_law_130 : decode cL_law 130 = .ok (.iload 4, 2) := by decide +kernel
theorem dL_law_132 : decode cL_law 132 = .ok (.iload 9, 2) := by decide +kernel
theorem dL_law_134 : decode cL_law 134 = .ok (.aload_n 1, 1) := by decide +kernel
theorem dL_law_135 : decode cL_law 135 = .ok (.iload 10, 2) := by decide +kernel
theorem dL_law_137 : decode cL_law 137 = .ok (.iload 11, 2) := by decide +kernel
theorem dL_law_139 : decode cL_law 139 = .ok (.invokestatic 175, 3) := by decide +kernel
theorem dL_law_142 : decode cL_law 142 = .ok (.istore 14, 2) := by decide +kernel
theorem dL_law_144 : decode cL_law 144 = .ok (.iload 9, 2) := by decide +kernel
theorem dL_law_146 : decode cL_law 146 = .ok (.bipush 12, 2) := by decide +kernel
theorem dL_law_148 : decode cL_law 148 = .ok (.if_icmp .le 21, 3) := by decide +kernel
theorem dL_law_151 : decode cL_law 151 = .ok (.iload 9, 2) := by decide +kernel
theorem dL_law_153 : decode cL_law 153 = .ok (.bipush 16, 2) := by decide +kernel
theorem dL_law_155 : decode cL_law 155 = .ok (.if_icmp .ge 14, 3) := by decide +kernel
theorem dL_law_158 : decode cL_law 158 = .ok (.iload 14, 2) := by decide +kernel
theorem dL_law_160 : decode cL_law 160 = .ok (.bipush (-70), 2) := by decide +kernel
theorem dL_law_162 : decode cL_law 162 = .ok (.if_icmp .le 7, 3) := by decide +kernel
theorem dL_law_165 : decode cL_law 165 = .ok (.iconst 1, 1) := by decide +kernel
theorem dL_law_166 : decode cL_law 166 = .ok (.goto 4, 3) := by decide +kernel
theorem dL_law_169 : decode cL_law 169 = .ok (.iconst 0, 1) := by decide +kernel
theorem dL_law_170 : decode cL_law 170 = .ok (.istore 15, 2) := by decide +kernel
theorem dL_law_172 : decode cL_law 172 = .ok (.iload 9, 2) := by decide +kernel
theorem dL_law_174 : decode cL_law 174 = .ok (.bipush 7, 2) := by decide +kernel
theorem dL_law_176 : decode cL_law 176 = .ok (.if_icmp .le 21, 3) := by decide +kernel
theorem dL_law_179 : decode cL_law 179 = .ok (.iload 9, 2) := by decide +kernel
theorem dL_law_181 : decode cL_law 181 = .ok (.bipush 13, 2) := by decide +kernel
theorem dL_law_183 : decode cL_law 183 = .ok (.if_icmp .ge 14, 3) := by decide +kernel
theorem dL_law_186 : decode cL_law 186 = .ok (.iload 14, 2) := by decide +kernel
theorem dL_law_188 : decode cL_law 188 = .ok (.bipush (-70), 2) := by decide +kernel
theorem dL_law_190 : decode cL_law 190 = .ok (.if_icmp .le 7, 3) := by decide +kernel
theorem dL_law_193 : decode cL_law 193 = .ok (.iconst 1, 1) := by decide +kernel
theorem dL_law_194 : decode cL_law 194 = .ok (.goto 4, 3) := by decide +kernel
end
section
theorem dL_law_197 : decode cL_law 197 = .ok (.iconst 0, 1) := by decide +kernel
theorem dL_law_198 : decode cL_law 198 = .ok (.istore 16, 2) := by decide +kernel
theorem dL_law_200 : decode cL_law 200 = .ok (.iload 15, 2) := by decide +kernel
theorem dL_law_202 : decode cL_law 202 = .ok (.ifCond .eq 37, 3) := by decide +kernel
theorem dL_law_205 : decode cL_law 205 = .ok (.aload_n 1, 1) := by decide +kernel
theorem dL_law_206 : decode cL_law 206 = .ok (.iconst 4, 1) := by decide +kernel
theorem dL_law_207 : decode cL_law 207 = .ok (.invokestatic 167, 3) := by decide +kernel
theorem dL_law_210 : decode cL_law 210 = .ok (.iload 12, 2) := by decide +kernel
theorem dL_law_212 : decode cL_law 212 = .ok (.if_icmp .ge 63, 3) := by decide +kernel
theorem dL_law_215 : decode cL_law 215 = .ok (.aload_n 1, 1) := by decide +kernel
theorem dL_law_216 : decode cL_law 216 = .ok (.iload 10, 2) := by decide +kernel
theorem dL_law_218 : decode cL_law 218 = .ok (.invokestatic 173, 3) := by decide +kernel
theorem dL_law_221 : decode cL_law 221 = .ok (.iload 13, 2) := by decide +kernel
theorem dL_law_223 : decode cL_law 223 = .ok (.iconst 1, 1) := by decide +kernel
theorem dL_law_224 : decode cL_law 224 = .ok (.isub, 1) := by decide +kernel
theorem dL_law_225 : decode cL_law 225 = .ok (.if_icmp .lt 50, 3) := by decide +kernel
theorem dL_law_228 : decode cL_law 228 = .ok (.aload_n 1, 1) := by decide +kernel
theorem dL_law_229 : decode cL_law 229 = .ok (.iload 10, 2) := by decide +kernel
theorem dL_law_231 : decode cL_law 231 = .ok (.invokestatic 173, 3) := by decide +kernel
theorem dL_law_234 : decode cL_law 234 = .ok (.iload 13, 2) := by decide +kernel
theorem dL_law_236 : decode cL_law 236 = .ok (.if_icmp .gt 39, 3) := by decide +kernel
theorem dL_law_239 : decode cL_law 239 = .ok (.iload 16, 2) := by decide +kernel
theorem dL_law_241 : decode cL_law 241 = .ok (.ifCond .eq 30, 3) := by decide +kernel
theorem dL_law_244 : decode cL_law 244 = .ok (.iload 14, 2) := by decide +kernel
theorem dL_law_246 : decode cL_law 246 = .ok (.aload_n 1, 1) := by decide +kernel
theorem dL_law_247 : decode cL_law 247 = .ok (.iload 10, 2) := by decide +kernel
theorem dL_law_249 : decode cL_law 249 = .ok (.invokestatic 173, 3) := by decide +kernel
theorem dL_law_252 : decode cL_law 252 = .ok (.if_icmp .ne 23, 3) := by decide +kernel
theorem dL_law_255 : decode cL_law 255 = .ok (.iload 14, 2) := by decide +kernel
theorem dL_law_257 : decode cL_law 257 = .ok (.iload 13, 2) := by decide +kernel
theorem dL_law_259 : decode cL_law 259 = .ok (.if_icmp .lt 16, 3) := by decide +kernel
theorem dL_law_262 : decode cL_law 262 = .ok (.iload 14, 2) := by decide +kernel
theorem dL_law_264 : decode cL_law 264 = .ok (.iload 13, 2) := by decide +kernel
theorem dL_law_266 : decode cL_law 266 = .ok (.iconst 1, 1) := by decide +kernel
theorem dL_law_267 : decode cL_law 267 = .ok (.iadd, 1) := by decide +kernel
theorem dL_law_268 : decode cL_law 268 = .ok (.if_icmp .gt 7, 3) := by decide +kernel
theorem dL_law_271 : decode cL_law 271 = .ok (.iconst 1, 1) := by decide +kernel
theorem dL_law_272 : decode cL_law 272 = .ok (.goto 4, 3) := by decide +kernel
theorem dL_law_275 : decode cL_law 275 = .ok (.iconst 0, 1) := by decide +kernel
theorem dL_law_276 : decode cL_law 276 = .ok (.istore 17, 2) := by decide +kernel
theorem dL_law_278 : decode cL_law 278 = .ok (.iinc 4 5, 3) := by decide +kernel
theorem dL_law_281 : decode cL_law 281 = .ok (.iload 17, 2) := by decide +kernel
theorem dL_law_283 : decode cL_law 283 = .ok (.ifCond .eq 25, 3) := by decide +kernel
theorem dL_law_286 : decode cL_law 286 = .ok (.aload_n 1, 1) := by decide +kernel
theorem dL_law_287 : decode cL_law 287 = .ok (.iload 5, 2) := by decide +kernel
theorem dL_law_289 : decode cL_law 289 = .ok (.iconst 4, 1) := by decide +kernel
theorem dL_law_290 : decode cL_law 290 = .ok (.irem, 1) := by decide +kernel
theorem dL_law_291 : decode cL_law 291 = .ok (.iconst 3, 1) := by decide +kernel
theorem dL_law_292 : decode cL_law 292 = .ok (.if_icmp .ne 7, 3) := by decide +kernel
theorem dL_law_295 : decode cL_law 295 = .ok (.iconst 2, 1) := by decide +kernel
theorem dL_law_296 : decode cL_law 296 = .ok (.goto 4, 3) := by decide +kernel
theorem dL_law_299 : decode cL_law 299 = .ok (.iconst 0, 1) := by decide +kernel
theorem dL_law_300 : decode cL_law 300 = .ok (.iload 11, 2) := by decide +kernel
theorem dL_law_302 : decode cL_law 302 = .ok (.invokestatic 179, 3) := by decide +kernel
theorem dL_law_305 : decode cL_law 305 = .ok (.ifCond .ne 5, 3) := by decide +kernel
theorem dL_law_308 : decode cL_law 308 = .ok (.iconst 0, 1) := by decide +kernel
theorem dL_law_309 : decode cL_law 309 = .ok (.ireturn, 1) := by decide +kernel
theorem dL_law_310 : decode cL_law 310 = .ok (.iload 14, 2) := by decide +kernel
theorem dL_law_312 : decode cL_law 312 = .ok (.bipush (-74), 2) := by decide +kernel
theorem dL_law_314 : decode cL_law 314 = .ok (.if_icmp .gt 35, 3) := by decide +kernel
theorem dL_law_317 : decode cL_law 317 = .ok (.aload_n 1, 1) := by decide +kernel
theorem dL_law_318 : decode cL_law 318 = .ok (.invokestatic 163, 3) := by decide +kernel
theorem dL_law_321 : decode cL_law 321 = .ok (.lload 6, 2) := by decide +kernel
theorem dL_law_323 : decode cL_law 323 = .ok (.lcmp, 1) := by decide +kernel
theorem dL_law_324 : decode cL_law 324 = .ok (.ifCond .ne 23, 3) := by decide +kernel
theorem dL_law_327 : decode cL_law 327 = .ok (.aload_n 1, 1) := by decide +kernel
theorem dL_law_328 : decode cL_law 328 = .ok (.bipush 12, 2) := by decide +kernel
theorem dL_law_330 : decode cL_law 330 = .ok (.invokestatic 167, 3) := by decide +kernel
theorem dL_law_333 : decode cL_law 333 = .ok (.iload 8, 2) := by decide +kernel
theorem dL_law_335 : decode cL_law 335 = .ok (.if_icmp .ne 12, 3) := by decide +kernel
theorem dL_law_338 : decode cL_law 338 = .ok (.aload_n 1, 1) := by decide +kernel
theorem dL_law_339 : decode cL_law 339 = .ok (.bipush 11, 2) := by decide +kernel
theorem dL_law_341 : decode cL_law 341 = .ok (.invokestatic 167, 3) := by decide +kernel
theorem dL_law_344 : decode cL_law 344 = .ok (.ifCond .eq 15, 3) := by decide +kernel
theorem dL_law_347 : decode cL_law 347 = .ok (.iconst 0, 1) := by decide +kernel
theorem dL_law_348 : decode cL_law 348 = .ok (.ireturn, 1) := by decide +kernel
theorem dL_law_349 : decode cL_law 349 = .ok (.iinc 3 1, 3) := by decide +kernel
theorem dL_law_352 : decode cL_law 352 = .ok (.aload_n 2, 1) := by decide +kernel
theorem dL_law_353 : decode cL_law 353 = .ok (.iload_n 3, 1) := by decide +kernel
theorem dL_law_354 : decode cL_law 354 = .ok (.aload_n 1, 1) := by decide +kernel
theorem dL_law_355 : decode cL_law 355 = .ok (.invokestatic 163, 3) := by decide +kernel
theorem dL_law_358 : decode cL_law 358 = .ok (.lastore, 1) := by decide +kernel
theorem dL_law_359 : decode cL_law 359 = .ok (.iinc 5 1, 3) := by decide +kernel
theorem dL_law_362 : decode cL_law 362 = .ok (.goto (-334), 3) := by decide +kernel
theorem dL_law_365 : decode cL_law 365 = .ok (.aload_n 1, 1) := by decide +kernel
theorem dL_law_366 : decode cL_law 366 = .ok (.aload_n 2, 1) := by decide +kernel
theorem dL_law_367 : decode cL_law 367 = .ok (.iload_n 3, 1) := by decide +kernel
theorem dL_law_368 : decode cL_law 368 = .ok (.invokestatic 183, 3) := by decide +kernel
theorem dL_law_371 : decode cL_law 371 = .ok (.ireturn, 1) := by decide +kernel
theorem dL_does_0 : decode cL_does 0 = .ok (.aload_n 0, 1) := by decide +kernel
theorem dL_does_1 : decode cL_does 1 = .ok (.iload_n 1, 1) := by decide +kernel
theorem dL_does_2 : decode cL_does 2 = .ok (.iconst 1, 1) := by decide +kernel
theorem dL_does_3 : decode cL_does 3 = .ok (.iadd, 1) := by decide +kernel
theorem dL_does_4 : decode cL_does 4 = .ok (.sipush 1000, 3) := by decide +kernel
theorem dL_does_7 : decode cL_does 7 = .ok (.invokestatic 169, 3) := by decide +kernel
theorem dL_does_10 : decode cL_does 10 = .ok (.istore 6, 2) := by decide +kernel
theorem dL_does_12 : decode cL_does 12 = .ok (.iload 6, 2) := by decide +kernel
theorem dL_does_14 : decode cL_does 14 = .ok (.iconst 5, 1) := by decide +kernel
theorem dL_does_15 : decode cL_does 15 = .ok (.irem, 1) := by decide +kernel
theorem dL_does_16 : decode cL_does 16 = .ok (.ifCond .ne 11, 3) := by decide +kernel
theorem dL_does_19 : decode cL_does 19 = .ok (.iload 6, 2) := by decide +kernel
theorem dL_does_21 : decode cL_does 21 = .ok (.bipush 25, 2) := by decide +kernel
theorem dL_does_23 : decode cL_does 23 = .ok (.irem, 1) := by decide +kernel
theorem dL_does_24 : decode cL_does 24 = .ok (.goto 25, 3) := by decide +kernel
theorem dL_does_27 : decode cL_does 27 = .ok (.iload 6, 2) := by decide +kernel
theorem dL_does_29 : decode cL_does 29 = .ok (.iconst 2, 1) := by decide +kernel
theorem dL_does_30 : decode cL_does 30 = .ok (.irem, 1) := by decide +kernel
theorem dL_does_31 : decode cL_does 31 = .ok (.ifCond .ne 10, 3) := by decide +kernel
theorem dL_does_34 : decode cL_does 34 = .ok (.iload 5, 2) := by decide +kernel
theorem dL_does_36 : decode cL_does 36 = .ok (.iconst 1, 1) := by decide +kernel
theorem dL_does_37 : decode cL_does 37 = .ok (.iadd, 1) := by decide +kernel
theorem dL_does_38 : decode cL_does 38 = .ok (.goto 11, 3) := by decide +kernel
theorem dL_does_41 : decode cL_does 41 = .ok (.iload 5, 2) := by decide +kernel
theorem dL_does_43 : decode cL_does 43 = .ok (.bipush 6, 2) := by decide +kernel
theorem dL_does_45 : decode cL_does 45 = .ok (.iadd, 1) := by decide +kernel
theorem dL_does_46 : decode cL_does 46 = .ok (.bipush 24, 2) := by decide +kernel
theorem dL_does_48 : decode cL_does 48 = .ok (.irem, 1) := by decide +kernel
theorem dL_does_49 : decode cL_does 49 = .ok (.istore 7, 2) := by decide +kernel
theorem dL_does_51 : decode cL_does 51 = .ok (.iload_n 2, 1) := by decide +kernel
theorem dL_does_52 : decode cL_does 52 = .ok (.tableswitch 228 0 23 #[112, 112, 112, 112, 112, 112, 112, 112, 151, 151, 151, 151, 151, 162, 162, 162, 177, 187, 197, 209, 209, 209, 209, 218], 112) := by decide +kernel
theorem dL_does_164 : decode cL_does 164 = .ok (.aload_n 3, 1) := by decide +kernel
theorem dL_does_165 : decode cL_does 165 = .ok (.iload 4, 2) := by decide +kernel
theorem dL_does_167 : decode cL_does 167 = .ok (.iload 5, 2) := by decide +kernel
theorem dL_does_169 : decode cL_does 169 = .ok (.iload 6, 2) := by decide +kernel
theorem dL_does_171 : decode cL_does 171 = .ok (.bipush 9, 2) := by decide +kernel
theorem dL_does_173 : decode cL_does 173 = .ok (.irem, 1) := by decide +kernel
theorem dL_does_174 : decode cL_does 174 = .ok (.ifCond .ne 7, 3) := by decide +kernel
theorem dL_does_177 : decode cL_does 177 = .ok (.iconst 0, 1) := by decide +kernel
theorem dL_does_178 : decode cL_does 178 = .ok (.goto 21, 3) := by decide +kernel
theorem dL_does_181 : decode cL_does 181 = .ok (.iload 6, 2) := by decide +kernel
theorem dL_does_183 : decode cL_does 183 = .ok (.bipush 17, 2) := by decide +kernel
theorem dL_does_185 : decode cL_does 185 = .ok (.irem, 1) := by decide +kernel
theorem dL_does_186 : decode cL_does 186 = .ok (.ifCond .ne 7, 3) := by decide +kernel
theorem dL_does_189 : decode cL_does 189 = .ok (.iconst 4, 1) := by decide +kernel
theorem dL_does_190 : decode cL_does 190 = .ok (.goto 9, 3) := by decide +kernel
theorem dL_does_193 : decode cL_does 193 = .ok (.iconst 1, 1) := by decide +kernel
theorem dL_does_194 : decode cL_does 194 = .ok (.iload 6, 2) := by decide +kernel
theorem dL_does_196 : decode cL_does 196 = .ok (.iconst 3, 1) := by decide +kernel
theorem dL_does_197 : decode cL_does 197 = .ok (.irem, 1) := by decide +kernel
theorem dL_does_198 : decode cL_does 198 = .ok (.iadd, 1) := by decide +kernel
theorem dL_does_199 : decode cL_does 199 = .ok (.invokestatic 187, 3) := by decide +kernel
theorem dL_does_202 : decode cL_does 202 = .ok (.ireturn, 1) := by decide +kernel
theorem dL_does_203 : decode cL_does 203 = .ok (.aload_n 3, 1) := by decide +kernel
theorem dL_does_204 : decode cL_does 204 = .ok (.iload 4, 2) := by decide +kernel
theorem dL_does_206 : decode cL_does 206 = .ok (.iload 5, 2) := by decide +kernel
theorem dL_does_208 : decode cL_does 208 = .ok (.iload 7, 2) := by decide +kernel
theorem dL_does_210 : decode cL_does 210 = .ok (.invokestatic 190, 3) := by decide +kernel
theorem dL_does_213 : decode cL_does 213 = .ok (.ireturn, 1) := by decide +kernel
theorem dL_does_214 : decode cL_does 214 = .ok (.aload_n 3, 1) := by decide +kernel
theorem dL_does_215 : decode cL_does 215 = .ok (.iload 4, 2) := by decide +kernel
theorem dL_does_217 : decode cL_does 217 = .ok (.iload 7, 2) := by decide +kernel
theorem dL_does_219 : decode cL_does 219 = .ok (.iload 5, 2) := by decide +kernel
theorem dL_does_221 : decode cL_does 221 = .ok (.iload 6, 2) := by decide +kernel
theorem dL_does_223 : decode cL_does 223 = .ok (.iconst 3, 1) := by decide +kernel
theorem dL_does_224 : decode cL_does 224 = .ok (.irem, 1) := by decide +kernel
theorem dL_does_225 : decode cL_does 225 = .ok (.invokestatic 192, 3) := by decide +kernel
theorem dL_does_228 : decode cL_does 228 = .ok (.ireturn, 1) := by decide +kernel
theorem dL_does_229 : decode cL_does 229 = .ok (.aload_n 3, 1) := by decide +kernel
theorem dL_does_230 : decode cL_does 230 = .ok (.iload 6, 2) := by decide +kernel
theorem dL_does_232 : decode cL_does 232 = .ok (.bipush 13, 2) := by decide +kernel
theorem dL_does_234 : decode cL_does 234 = .ok (.irem, 1) := by decide +kernel
theorem dL_does_235 : decode cL_does 235 = .ok (.invokestatic 195, 3) := by decide +kernel
theorem dL_does_238 : decode cL_does 238 = .ok (.ireturn, 1) := by decide +kernel
theorem dL_does_239 : decode cL_does 239 = .ok (.aload_n 3, 1) := by decide +kernel
theorem dL_does_240 : decode cL_does 240 = .ok (.iload 6, 2) := by decide +kernel
theorem dL_does_242 : decode cL_does 242 = .ok (.bipush 6, 2) := by decide +kernel
theorem dL_does_244 : decode cL_does 244 = .ok (.irem, 1) := by decide +kernel
theorem dL_does_245 : decode cL_does 245 = .ok (.invokestatic 197, 3) := by decide +kernel
theorem dL_does_248 : decode cL_does 248 = .ok (.ireturn, 1) := by decide +kernel
theorem dL_does_249 : decode cL_does 249 = .ok (.aload_n 3, 1) := by decide +kernel
theorem dL_does_250 : decode cL_does 250 = .ok (.iload 4, 2) := by decide +kernel
theorem dL_does_252 : decode cL_does 252 = .ok (.iload 6, 2) := by decide +kernel
theorem dL_does_254 : decode cL_does 254 = .ok (.bipush 6, 2) := by decide +kernel
theorem dL_does_256 : decode cL_does 256 = .ok (.irem, 1) := by decide +kernel
theorem dL_does_257 : decode cL_does 257 = .ok (.invokestatic 199, 3) := by decide +kernel
theorem dL_does_260 : decode cL_does 260 = .ok (.ireturn, 1) := by decide +kernel
theorem dL_does_261 : decode cL_does 261 = .ok (.aload_n 3, 1) := by decide +kernel
theorem dL_does_262 : decode cL_does 262 = .ok (.iload 4, 2) := by decide +kernel
theorem dL_does_264 : decode cL_does 264 = .ok (.iload 5, 2) := by decide +kernel
theorem dL_does_266 : decode cL_does 266 = .ok (.invokestatic 202, 3) := by decide +kernel
theorem dL_does_269 : decode cL_does 269 = .ok (.ireturn, 1) := by decide +kernel
theorem dL_does_270 : decode cL_does 270 = .ok (.aload_n 3, 1) := by decide +kernel
theorem dL_does_271 : decode cL_does 271 = .ok (.iload 6, 2) := by decide +kernel
theorem dL_does_273 : decode cL_does 273 = .ok (.bipush 7, 2) := by decide +kernel
theorem dL_does_275 : decode cL_does 275 = .ok (.irem, 1) := by decide +kernel
theorem dL_does_276 : decode cL_does 276 = .ok (.invokestatic 204, 3) := by decide +kernel
theorem dL_does_279 : decode cL_does 279 = .ok (.ireturn, 1) := by decide +kernel
theorem dL_does_280 : decode cL_does 280 = .ok (.aload_n 3, 1) := by decide +kernel
theorem dL_does_281 : decode cL_does 281 = .ok (.new 206, 3) := by decide +kernel
theorem dL_does_284 : decode cL_does 284 = .ok (.dup, 1) := by decide +kernel
theorem dL_does_285 : decode cL_does 285 = .ok (.invokespecial 208, 3) := by decide +kernel
theorem dL_does_288 : decode cL_does 288 = .ok (.ldc 209, 2) := by decide +kernel
theorem dL_does_290 : decode cL_does 290 = .ok (.invokevirtual 211, 3) := by decide +kernel
theorem dL_does_293 : decode cL_does 293 = .ok (.iload 4, 2) := by decide +kernel
theorem dL_does_295 : decode cL_does 295 = .ok (.invokevirtual 215, 3) := by decide +kernel
theorem dL_does_298 : decode cL_does 298 = .ok (.ldc 218, 2) := by decide +kernel
theorem dL_does_300 : decode cL_does 300 = .ok (.invokevirtual 211, 3) := by decide +kernel
theorem dL_does_303 : decode cL_does 303 = .ok (.iload 5, 2) := by decide +kernel
theorem dL_does_305 : decode cL_does 305 = .ok (.invokevirtual 215, 3) := by decide +kernel
theorem dL_does_308 : decode cL_does 308 = .ok (.ldc 220, 2) := by decide +kernel
theorem dL_does_310 : decode cL_does 310 = .ok (.invokevirtual 211, 3) := by decide +kernel
theorem dL_does_313 : decode cL_does 313 = .ok (.iload 6, 2) := by decide +kernel
theorem dL_does_315 : decode cL_does 315 = .ok (.iconst 4, 1) := by decide +kernel
theorem dL_does_316 : decode cL_does 316 = .ok (.irem, 1) := by decide +kernel
theorem dL_does_317 : decode cL_does 317 = .ok (.invokevirtual 215, 3) := by decide +kernel
theorem dL_does_320 : decode cL_does 320 = .ok (.iload 6, 2) := by decide +kernel
theorem dL_does_322 : decode cL_does 322 = .ok (.iconst 4, 1) := by decide +kernel
theorem dL_does_323 : decode cL_does 323 = .ok (.irem, 1) := by decide +kernel
theorem dL_does_324 : decode cL_does 324 = .ok (.ifCond .ne 28, 3) := by decide +kernel
theorem dL_does_327 : decode cL_does 327 = .ok (.new 206, 3) := by decide +kernel
theorem dL_does_330 : decode cL_does 330 = .ok (.dup, 1) := by decide +kernel
theorem dL_does_331 : decode cL_does 331 = .ok (.invokespecial 208, 3) := by decide +kernel
theorem dL_does_334 : decode cL_does 334 = .ok (.ldc 222, 2) := by decide +kernel
theorem dL_does_336 : decode cL_does 336 = .ok (.invokevirtual 211, 3) := by decide +kernel
theorem dL_does_339 : decode cL_does 339 = .ok (.iload 6, 2) := by decide +kernel
theorem dL_does_341 : decode cL_does 341 = .ok (.iconst 5, 1) := by decide +kernel
theorem dL_does_342 : decode cL_does 342 = .ok (.irem, 1) := by decide +kernel
theorem dL_does_343 : decode cL_does 343 = .ok (.invokevirtual 215, 3) := by decide +kernel
theorem dL_does_346 : decode cL_does 346 = .ok (.invokevirtual 224, 3) := by decide +kernel
theorem dL_does_349 : decode cL_does 349 = .ok (.goto 97, 3) := by decide +kernel
theorem dL_does_352 : decode cL_does 352 = .ok (.iload 6, 2) := by decide +kernel
theorem dL_does_354 : decode cL_does 354 = .ok (.iconst 4, 1) := by decide +kernel
theorem dL_does_355 : decode cL_does 355 = .ok (.irem, 1) := by decide +kernel
theorem dL_does_356 : decode cL_does 356 = .ok (.iconst 1, 1) := by decide +kernel
theorem dL_does_357 : decode cL_does 357 = .ok (.if_icmp .ne 36, 3) := by decide +kernel
theorem dL_does_360 : decode cL_does 360 = .ok (.new 206, 3) := by decide +kernel
theorem dL_does_363 : decode cL_does 363 = .ok (.dup, 1) := by decide +kernel
theorem dL_does_364 : decode cL_does 364 = .ok (.invokespecial 208, 3) := by decide +kernel
theorem dL_does_367 : decode cL_does 367 = .ok (.ldc 228, 2) := by decide +kernel
theorem dL_does_369 : decode cL_does 369 = .ok (.invokevirtual 211, 3) := by decide +kernel
theorem dL_does_372 : decode cL_does 372 = .ok (.iload 4, 2) := by decide +kernel
theorem dL_does_374 : decode cL_does 374 = .ok (.invokevirtual 215, 3) := by decide +kernel
theorem dL_does_377 : decode cL_does 377 = .ok (.ldc 218, 2) := by decide +kernel
theorem dL_does_379 : decode cL_does 379 = .ok (.invokevirtual 211, 3) := by decide +kernel
theorem dL_does_382 : decode cL_does 382 = .ok (.iload 5, 2) := by decide +kernel
theorem dL_does_384 : decode cL_does 384 = .ok (.invokevirtual 215, 3) := by decide +kernel
theorem dL_does_387 : decode cL_does 387 = .ok (.invokevirtual 224, 3) := by decide +kernel
theorem dL_does_390 : decode cL_does 390 = .ok (.goto 56, 3) := by decide +kernel
theorem dL_does_393 : decode cL_does 393 = .ok (.iload 6, 2) := by decide +kernel
theorem dL_does_395 : decode cL_does 395 = .ok (.iconst 4, 1) := by decide +kernel
theorem dL_does_396 : decode cL_does 396 = .ok (.irem, 1) := by decide +kernel
theorem dL_does_397 : decode cL_does 397 = .ok (.iconst 2, 1) := by decide +kernel
theorem dL_does_398 : decode cL_does 398 = .ok (.if_icmp .ne 46, 3) := by decide +kernel
theorem dL_does_401 : decode cL_does 401 = .ok (.new 206, 3) := by decide +kernel
theorem dL_does_404 : decode cL_does 404 = .ok (.dup, 1) := by decide +kernel
theorem dL_does_405 : decode cL_does 405 = .ok (.invokespecial 208, 3) := by decide +kernel
theorem dL_does_408 : decode cL_does 408 = .ok (.ldc 230, 2) := by decide +kernel
theorem dL_does_410 : decode cL_does 410 = .ok (.invokevirtual 211, 3) := by decide +kernel
theorem dL_does_413 : decode cL_does 413 = .ok (.iload 4, 2) := by decide +kernel
theorem dL_does_415 : decode cL_does 415 = .ok (.invokevirtual 215, 3) := by decide +kernel
theorem dL_does_418 : decode cL_does 418 = .ok (.ldc 218, 2) := by decide +kernel
theorem dL_does_420 : decode cL_does 420 = .ok (.invokevirtual 211, 3) := by decide +kernel
theorem dL_does_423 : decode cL_does 423 = .ok (.iload 5, 2) := by decide +kernel
theorem dL_does_425 : decode cL_does 425 = .ok (.invokevirtual 215, 3) := by decide +kernel
theorem dL_does_428 : decode cL_does 428 = .ok (.ldc 232, 2) := by decide +kernel
theorem dL_does_430 : decode cL_does 430 = .ok (.invokevirtual 211, 3) := by decide +kernel
theorem dL_does_433 : decode cL_does 433 = .ok (.iload 7, 2) := by decide +kernel
theorem dL_does_435 : decode cL_does 435 = .ok (.invokevirtual 215, 3) := by decide +kernel
theorem dL_does_438 : decode cL_does 438 = .ok (.invokevirtual 224, 3) := by decide +kernel
theorem dL_does_441 : decode cL_does 441 = .ok (.goto 5, 3) := by decide +kernel
theorem dL_does_444 : decode cL_does 444 = .ok (.ldc 234, 2) := by decide +kernel
theorem dL_does_446 : decode cL_does 446 = .ok (.invokevirtual 211, 3) := by decide +kernel
theorem dL_does_449 : decode cL_does 449 = .ok (.invokevirtual 224, 3) := by decide +kernel
theorem dL_does_452 : decode cL_does 452 = .ok (.invokestatic 236, 3) := by decide +kernel
theorem dL_does_455 : decode cL_does 455 = .ok (.ireturn, 1) := by decide +kernel
theorem dL_sum_0 : decode cL_sum 0 = .ok (.lconst 0, 1) := by decide +kernel
theorem dL_sum_1 : decode cL_sum 1 = .ok (.lstore_n 1, 1) := by decide +kernel
theorem dL_sum_2 : decode cL_sum 2 = .ok (.iconst 0, 1) := by decide +kernel
theorem dL_sum_3 : decode cL_sum 3 = .ok (.istore_n 3, 1) := by decide +kernel
theorem dL_sum_4 : decode cL_sum 4 = .ok (.iload_n 3, 1) := by decide +kernel
theorem dL_sum_5 : decode cL_sum 5 = .ok (.bipush 11, 2) := by decide +kernel
theorem dL_sum_7 : decode cL_sum 7 = .ok (.if_icmp .ge 22, 3) := by decide +kernel
theorem dL_sum_10 : decode cL_sum 10 = .ok (.ldc2_w 240, 3) := by decide +kernel
theorem dL_sum_13 : decode cL_sum 13 = .ok (.lload_n 1, 1) := by decide +kernel
theorem dL_sum_14 : decode cL_sum 14 = .ok (.lmul, 1) := by decide +kernel
theorem dL_sum_15 : decode cL_sum 15 = .ok (.aload_n 0, 1) := by decide +kernel
theorem dL_sum_16 : decode cL_sum 16 = .ok (.iload_n 3, 1) := by decide +kernel
theorem dL_sum_17 : decode cL_sum 17 = .ok (.invokestatic 167, 3) := by decide +kernel
theorem dL_sum_20 : decode cL_sum 20 = .ok (.i2l, 1) := by decide +kernel
theorem dL_sum_21 : decode cL_sum 21 = .ok (.ladd, 1) := by decide +kernel
theorem dL_sum_22 : decode cL_sum 22 = .ok (.lstore_n 1, 1) := by decide +kernel
theorem dL_sum_23 : decode cL_sum 23 = .ok (.iinc 3 1, 3) := by decide +kernel
theorem dL_sum_26 : decode cL_sum 26 = .ok (.goto (-22), 3) := by decide +kernel
theorem dL_sum_29 : decode cL_sum 29 = .ok (.iconst 0, 1) := by decide +kernel
theorem dL_sum_30 : decode cL_sum 30 = .ok (.istore_n 3, 1) := by decide +kernel
theorem dL_sum_31 : decode cL_sum 31 = .ok (.iload_n 3, 1) := by decide +kernel
theorem dL_sum_32 : decode cL_sum 32 = .ok (.iconst 3, 1) := by decide +kernel
theorem dL_sum_33 : decode cL_sum 33 = .ok (.if_icmp .ge 110, 3) := by decide +kernel
theorem dL_sum_36 : decode cL_sum 36 = .ok (.ldc2_w 240, 3) := by decide +kernel
theorem dL_sum_39 : decode cL_sum 39 = .ok (.lload_n 1, 1) := by decide +kernel
theorem dL_sum_40 : decode cL_sum 40 = .ok (.lmul, 1) := by decide +kernel
theorem dL_sum_41 : decode cL_sum 41 = .ok (.aload_n 0, 1) := by decide +kernel
theorem dL_sum_42 : decode cL_sum 42 = .ok (.iload_n 3, 1) := by decide +kernel
theorem dL_sum_43 : decode cL_sum 43 = .ok (.iconst 3, 1) := by decide +kernel
theorem dL_sum_44 : decode cL_sum 44 = .ok (.invokestatic 242, 3) := by decide +kernel
theorem dL_sum_47 : decode cL_sum 47 = .ok (.i2l, 1) := by decide +kernel
theorem dL_sum_48 : decode cL_sum 48 = .ok (.ladd, 1) := by decide +kernel
theorem dL_sum_49 : decode cL_sum 49 = .ok (.lstore_n 1, 1) := by decide +kernel
theorem dL_sum_50 : decode cL_sum 50 = .ok (.iconst 0, 1) := by decide +kernel
theorem dL_sum_51 : decode cL_sum 51 = .ok (.istore 4, 2) := by decide +kernel
theorem dL_sum_53 : decode cL_sum 53 = .ok (.iload 4, 2) := by decide +kernel
theorem dL_sum_55 : decode cL_sum 55 = .ok (.bipush 24, 2) := by decide +kernel
theorem dL_sum_57 : decode cL_sum 57 = .ok (.if_icmp .ge 80, 3) := by decide +kernel
theorem dL_sum_60 : decode cL_sum 60 = .ok (.ldc2_w 240, 3) := by decide +kernel
theorem dL_sum_63 : decode cL_sum 63 = .ok (.lload_n 1, 1) := by decide +kernel
theorem dL_sum_64 : decode cL_sum 64 = .ok (.lmul, 1) := by decide +kernel
theorem dL_sum_65 : decode cL_sum 65 = .ok (.aload_n 0, 1) := by decide +kernel
theorem dL_sum_66 : decode cL_sum 66 = .ok (.iload_n 3, 1) := by decide +kernel
theorem dL_sum_67 : decode cL_sum 67 = .ok (.iload 4, 2) := by decide +kernel
theorem dL_sum_69 : decode cL_sum 69 = .ok (.invokestatic 244, 3) := by decide +kernel
theorem dL_sum_72 : decode cL_sum 72 = .ok (.i2l, 1) := by decide +kernel
theorem dL_sum_73 : decode cL_sum 73 = .ok (.ladd, 1) := by decide +kernel
theorem dL_sum_74 : decode cL_sum 74 = .ok (.iload 4, 2) := by decide +kernel
theorem dL_sum_76 : decode cL_sum 76 = .ok (.bipush 6, 2) := by decide +kernel
theorem dL_sum_78 : decode cL_sum 78 = .ok (.irem, 1) := by decide +kernel
theorem dL_sum_79 : decode cL_sum 79 = .ok (.iconst 5, 1) := by decide +kernel
theorem dL_sum_80 : decode cL_sum 80 = .ok (.if_icmp .ne 7, 3) := by decide +kernel
theorem dL_sum_83 : decode cL_sum 83 = .ok (.iconst 0, 1) := by decide +kernel
theorem dL_sum_84 : decode cL_sum 84 = .ok (.goto 16, 3) := by decide +kernel
theorem dL_sum_87 : decode cL_sum 87 = .ok (.iconst 5, 1) := by decide +kernel
theorem dL_sum_88 : decode cL_sum 88 = .ok (.aload_n 0, 1) := by decide +kernel
theorem dL_sum_89 : decode cL_sum 89 = .ok (.iload_n 3, 1) := by decide +kernel
theorem dL_sum_90 : decode cL_sum 90 = .ok (.iload 4, 2) := by decide +kernel
theorem dL_sum_92 : decode cL_sum 92 = .ok (.iload 4, 2) := by decide +kernel
theorem dL_sum_94 : decode cL_sum 94 = .ok (.iconst 1, 1) := by decide +kernel
theorem dL_sum_95 : decode cL_sum 95 = .ok (.iadd, 1) := by decide +kernel
theorem dL_sum_96 : decode cL_sum 96 = .ok (.invokestatic 246, 3) := by decide +kernel
theorem dL_sum_99 : decode cL_sum 99 = .ok (.imul, 1) := by decide +kernel
theorem dL_sum_100 : decode cL_sum 100 = .ok (.i2l, 1) := by decide +kernel
theorem dL_sum_101 : decode cL_sum 101 = .ok (.ladd, 1) := by decide +kernel
theorem dL_sum_102 : decode cL_sum 102 = .ok (.iload 4, 2) := by decide +kernel
theorem dL_sum_104 : decode cL_sum 104 = .ok (.bipush 17, 2) := by decide +kernel
theorem dL_sum_106 : decode cL_sum 106 = .ok (.if_icmp .le 7, 3) := by decide +kernel
theorem dL_sum_109 : decode cL_sum 109 = .ok (.iconst 0, 1) := by decide +kernel
theorem dL_sum_110 : decode cL_sum 110 = .ok (.goto 18, 3) := by decide +kernel
theorem dL_sum_113 : decode cL_sum 113 = .ok (.bipush 11, 2) := by decide +kernel
theorem dL_sum_115 : decode cL_sum 115 = .ok (.aload_n 0, 1) := by decide +kernel
theorem dL_sum_116 : decode cL_sum 116 = .ok (.iload_n 3, 1) := by decide +kernel
theorem dL_sum_117 : decode cL_sum 117 = .ok (.iload 4, 2) := by decide +kernel
theorem dL_sum_119 : decode cL_sum 119 = .ok (.iload 4, 2) := by decide +kernel
theorem dL_sum_121 : decode cL_sum 121 = .ok (.bipush 6, 2) := by decide +kernel
theorem dL_sum_123 : decode cL_sum 123 = .ok (.iadd, 1) := by decide +kernel
theorem dL_sum_124 : decode cL_sum 124 = .ok (.invokestatic 246, 3) := by decide +kernel
theorem dL_sum_127 : decode cL_sum 127 = .ok (.imul, 1) := by decide +kernel
theorem dL_sum_128 : decode cL_sum 128 = .ok (.i2l, 1) := by decide +kernel
theorem dL_sum_129 : decode cL_sum 129 = .ok (.ladd, 1) := by decide +kernel
theorem dL_sum_130 : decode cL_sum 130 = .ok (.lstore_n 1, 1) := by decide +kernel
theorem dL_sum_131 : decode cL_sum 131 = .ok (.iinc 4 1, 3) := by decide +kernel
theorem dL_sum_134 : decode cL_sum 134 = .ok (.goto (-81), 3) := by decide +kernel
theorem dL_sum_137 : decode cL_sum 137 = .ok (.iinc 3 1, 3) := by decide +kernel
theorem dL_sum_140 : decode cL_sum 140 = .ok (.goto (-109), 3) := by decide +kernel
theorem dL_sum_143 : decode cL_sum 143 = .ok (.iconst 0, 1) := by decide +kernel
theorem dL_sum_144 : decode cL_sum 144 = .ok (.istore_n 3, 1) := by decide +kernel
theorem dL_sum_145 : decode cL_sum 145 = .ok (.iload_n 3, 1) := by decide +kernel
theorem dL_sum_146 : decode cL_sum 146 = .ok (.aload_n 0, 1) := by decide +kernel
theorem dL_sum_147 : decode cL_sum 147 = .ok (.iconst 5, 1) := by decide +kernel
theorem dL_sum_148 : decode cL_sum 148 = .ok (.invokestatic 167, 3) := by decide +kernel
theorem dL_sum_151 : decode cL_sum 151 = .ok (.if_icmp .ge 58, 3) := by decide +kernel
theorem dL_sum_154 : decode cL_sum 154 = .ok (.ldc2_w 240, 3) := by decide +kernel
theorem dL_sum_157 : decode cL_sum 157 = .ok (.lload_n 1, 1) := by decide +kernel
theorem dL_sum_158 : decode cL_sum 158 = .ok (.lmul, 1) := by decide +kernel
theorem dL_sum_159 : decode cL_sum 159 = .ok (.ldc2_w 249, 3) := by decide +kernel
theorem dL_sum_162 : decode cL_sum 162 = .ok (.aload_n 0, 1) := by decide +kernel
theorem dL_sum_163 : decode cL_sum 163 = .ok (.iload_n 3, 1) := by decide +kernel
theorem dL_sum_164 : decode cL_sum 164 = .ok (.iconst 0, 1) := by decide +kernel
theorem dL_sum_165 : decode cL_sum 165 = .ok (.invokestatic 251, 3) := by decide +kernel
theorem dL_sum_168 : decode cL_sum 168 = .ok (.i2l, 1) := by decide +kernel
theorem dL_sum_169 : decode cL_sum 169 = .ok (.lmul, 1) := by decide +kernel
theorem dL_sum_170 : decode cL_sum 170 = .ok (.ladd, 1) := by decide +kernel
theorem dL_sum_171 : decode cL_sum 171 = .ok (.ldc2_w 240, 3) := by decide +kernel
theorem dL_sum_174 : decode cL_sum 174 = .ok (.aload_n 0, 1) := by decide +kernel
theorem dL_sum_175 : decode cL_sum 175 = .ok (.iload_n 3, 1) := by decide +kernel
theorem dL_sum_176 : decode cL_sum 176 = .ok (.iconst 1, 1) := by decide +kernel
theorem dL_sum_177 : decode cL_sum 177 = .ok (.invokestatic 251, 3) := by decide +kernel
theorem dL_sum_180 : decode cL_sum 180 = .ok (.i2l, 1) := by decide +kernel
theorem dL_sum_181 : decode cL_sum 181 = .ok (.lmul, 1) := by decide +kernel
theorem dL_sum_182 : decode cL_sum 182 = .ok (.ladd, 1) := by decide +kernel
theorem dL_sum_183 : decode cL_sum 183 = .ok (.aload_n 0, 1) := by decide +kernel
theorem dL_sum_184 : decode cL_sum 184 = .ok (.iload_n 3, 1) := by decide +kernel
theorem dL_sum_185 : decode cL_sum 185 = .ok (.iconst 2, 1) := by decide +kernel
theorem dL_sum_186 : decode cL_sum 186 = .ok (.invokestatic 251, 3) := by decide +kernel
theorem dL_sum_189 : decode cL_sum 189 = .ok (.i2l, 1) := by decide +kernel
theorem dL_sum_190 : decode cL_sum 190 = .ok (.ladd, 1) := by decide +kernel
theorem dL_sum_191 : decode cL_sum 191 = .ok (.ldc2_w 253, 3) := by decide +kernel
theorem dL_sum_194 : decode cL_sum 194 = .ok (.aload_n 0, 1) := by decide +kernel
theorem dL_sum_195 : decode cL_sum 195 = .ok (.iload_n 3, 1) := by decide +kernel
theorem dL_sum_196 : decode cL_sum 196 = .ok (.invokestatic 255, 3) := by decide +kernel
theorem dL_sum_199 : decode cL_sum 199 = .ok (.i2l, 1) := by decide +kernel
theorem dL_sum_200 : decode cL_sum 200 = .ok (.lmul, 1) := by decide +kernel
theorem dL_sum_201 : decode cL_sum 201 = .ok (.ladd, 1) := by decide +kernel
theorem dL_sum_202 : decode cL_sum 202 = .ok (.lstore_n 1, 1) := by decide +kernel
theorem dL_sum_203 : decode cL_sum 203 = .ok (.iinc 3 1, 3) := by decide +kernel
theorem dL_sum_206 : decode cL_sum 206 = .ok (.goto (-61), 3) := by decide +kernel
theorem dL_sum_209 : decode cL_sum 209 = .ok (.iconst 0, 1) := by decide +kernel
theorem dL_sum_210 : decode cL_sum 210 = .ok (.istore_n 3, 1) := by decide +kernel
theorem dL_sum_211 : decode cL_sum 211 = .ok (.iload_n 3, 1) := by decide +kernel
theorem dL_sum_212 : decode cL_sum 212 = .ok (.aload_n 0, 1) := by decide +kernel
theorem dL_sum_213 : decode cL_sum 213 = .ok (.iconst 3, 1) := by decide +kernel
theorem dL_sum_214 : decode cL_sum 214 = .ok (.invokestatic 167, 3) := by decide +kernel
theorem dL_sum_217 : decode cL_sum 217 = .ok (.if_icmp .ge 35, 3) := by decide +kernel
theorem dL_sum_220 : decode cL_sum 220 = .ok (.ldc2_w 240, 3) := by decide +kernel
theorem dL_sum_223 : decode cL_sum 223 = .ok (.lload_n 1, 1) := by decide +kernel
theorem dL_sum_224 : decode cL_sum 224 = .ok (.lmul, 1) := by decide +kernel
theorem dL_sum_225 : decode cL_sum 225 = .ok (.ldc2_w 257, 3) := by decide +kernel
theorem dL_sum_228 : decode cL_sum 228 = .ok (.aload_n 0, 1) := by decide +kernel
theorem dL_sum_229 : decode cL_sum 229 = .ok (.iload_n 3, 1) := by decide +kernel
theorem dL_sum_230 : decode cL_sum 230 = .ok (.iconst 0, 1) := by decide +kernel
theorem dL_sum_231 : decode cL_sum 231 = .ok (.invokestatic 259, 3) := by decide +kernel
theorem dL_sum_234 : decode cL_sum 234 = .ok (.i2l, 1) := by decide +kernel
theorem dL_sum_235 : decode cL_sum 235 = .ok (.lmul, 1) := by decide +kernel
theorem dL_sum_236 : decode cL_sum 236 = .ok (.ladd, 1) := by decide +kernel
theorem dL_sum_237 : decode cL_sum 237 = .ok (.aload_n 0, 1) := by decide +kernel
theorem dL_sum_238 : decode cL_sum 238 = .ok (.iload_n 3, 1) := by decide +kernel
theorem dL_sum_239 : decode cL_sum 239 = .ok (.iconst 1, 1) := by decide +kernel
theorem dL_sum_240 : decode cL_sum 240 = .ok (.invokestatic 259, 3) := by decide +kernel
theorem dL_sum_243 : decode cL_sum 243 = .ok (.i2l, 1) := by decide +kernel
theorem dL_sum_244 : decode cL_sum 244 = .ok (.ladd, 1) := by decide +kernel
theorem dL_sum_245 : decode cL_sum 245 = .ok (.lstore_n 1, 1) := by decide +kernel
theorem dL_sum_246 : decode cL_sum 246 = .ok (.iinc 3 1, 3) := by decide +kernel
theorem dL_sum_249 : decode cL_sum 249 = .ok (.goto (-38), 3) := by decide +kernel
theorem dL_sum_252 : decode cL_sum 252 = .ok (.lload_n 1, 1) := by decide +kernel
theorem dL_sum_253 : decode cL_sum 253 = .ok (.lreturn, 1) := by decide +kernel
theorem dL_isNet_0 : decode cL_isNet 0 = .ok (.iconst 4, 1) := by decide +kernel
theorem dL_isNet_1 : decode cL_isNet 1 = .ok (.aload_n 0, 1) := by decide +kernel
theorem dL_isNet_2 : decode cL_isNet 2 = .ok (.bipush 7, 2) := by decide +kernel
theorem dL_isNet_4 : decode cL_isNet 4 = .ok (.invokestatic 167, 3) := by decide +kernel
theorem dL_isNet_7 : decode cL_isNet 7 = .ok (.aload_n 0, 1) := by decide +kernel
theorem dL_isNet_8 : decode cL_isNet 8 = .ok (.iload_n 1, 1) := by decide +kernel
theorem dL_isNet_9 : decode cL_isNet 9 = .ok (.iconst 3, 1) := by decide +kernel
theorem dL_isNet_10 : decode cL_isNet 10 = .ok (.invokestatic 242, 3) := by decide +kernel
theorem dL_isNet_13 : decode cL_isNet 13 = .ok (.iadd, 1) := by decide +kernel
theorem dL_isNet_14 : decode cL_isNet 14 = .ok (.invokestatic 261, 3) := by decide +kernel
theorem dL_isNet_17 : decode cL_isNet 17 = .ok (.istore_n 3, 1) := by decide +kernel
theorem dL_isNet_18 : decode cL_isNet 18 = .ok (.iconst 0, 1) := by decide +kernel
theorem dL_isNet_19 : decode cL_isNet 19 = .ok (.istore 4, 2) := by decide +kernel
theorem dL_isNet_21 : decode cL_isNet 21 = .ok (.iconst 0, 1) := by decide +kernel
theorem dL_isNet_22 : decode cL_isNet 22 = .ok (.istore 5, 2) := by decide +kernel
theorem dL_isNet_24 : decode cL_isNet 24 = .ok (.iconst 0, 1) := by decide +kernel
theorem dL_isNet_25 : decode cL_isNet 25 = .ok (.istore 6, 2) := by decide +kernel
theorem dL_isNet_27 : decode cL_isNet 27 = .ok (.iconst 0, 1) := by decide +kernel
theorem dL_isNet_28 : decode cL_isNet 28 = .ok (.istore 7, 2) := by decide +kernel
theorem dL_isNet_30 : decode cL_isNet 30 = .ok (.bipush 24, 2) := by decide +kernel
theorem dL_isNet_32 : decode cL_isNet 32 = .ok (.newarray .int, 2) := by decide +kernel
theorem dL_isNet_34 : decode cL_isNet 34 = .ok (.astore 8, 2) := by decide +kernel
theorem dL_isNet_36 : decode cL_isNet 36 = .ok (.iconst 0, 1) := by decide +kernel
theorem dL_isNet_37 : decode cL_isNet 37 = .ok (.istore 9, 2) := by decide +kernel
theorem dL_isNet_39 : decode cL_isNet 39 = .ok (.iload 9, 2) := by decide +kernel
theorem dL_isNet_41 : decode cL_isNet 41 = .ok (.bipush 24, 2) := by decide +kernel
theorem dL_isNet_43 : decode cL_isNet 43 = .ok (.if_icmp .ge 162, 3) := by decide +kernel
theorem dL_isNet_46 : decode cL_isNet 46 = .ok (.aload_n 0, 1) := by decide +kernel
theorem dL_isNet_47 : decode cL_isNet 47 = .ok (.iload_n 1, 1) := by decide +kernel
theorem dL_isNet_48 : decode cL_isNet 48 = .ok (.iload 9, 2) := by decide +kernel
theorem dL_isNet_50 : decode cL_isNet 50 = .ok (.invokestatic 244, 3) := by decide +kernel
theorem dL_isNet_53 : decode cL_isNet 53 = .ok (.ifCond .le 7, 3) := by decide +kernel
theorem dL_isNet_56 : decode cL_isNet 56 = .ok (.iconst 1, 1) := by decide +kernel
theorem dL_isNet_57 : decode cL_isNet 57 = .ok (.goto 4, 3) := by decide +kernel
theorem dL_isNet_60 : decode cL_isNet 60 = .ok (.iconst 0, 1) := by decide +kernel
theorem dL_isNet_61 : decode cL_isNet 61 = .ok (.istore 10, 2) := by decide +kernel
theorem dL_isNet_63 : decode cL_isNet 63 = .ok (.iload 4, 2) := by decide +kernel
theorem dL_isNet_65 : decode cL_isNet 65 = .ok (.iload 10, 2) := by decide +kernel
theorem dL_isNet_67 : decode cL_isNet 67 = .ok (.ifCond .eq 7, 3) := by decide +kernel
theorem dL_isNet_70 : decode cL_isNet 70 = .ok (.iconst 1, 1) := by decide +kernel
theorem dL_isNet_71 : decode cL_isNet 71 = .ok (.goto 4, 3) := by decide +kernel
theorem dL_isNet_74 : decode cL_isNet 74 = .ok (.iconst 0, 1) := by decide +kernel
theorem dL_isNet_75 : decode cL_isNet 75 = .ok (.iadd, 1) := by decide +kernel
theorem dL_isNet_76 : decode cL_isNet 76 = .ok (.istore 4, 2) := by decide +kernel
theorem dL_isNet_78 : decode cL_isNet 78 = .ok (.iload 5, 2) := by decide +kernel
theorem dL_isNet_80 : decode cL_isNet 80 = .ok (.iload 10, 2) := by decide +kernel
theorem dL_isNet_82 : decode cL_isNet 82 = .ok (.ifCond .eq 18, 3) := by decide +kernel
theorem dL_isNet_85 : decode cL_isNet 85 = .ok (.iload 9, 2) := by decide +kernel
theorem dL_isNet_87 : decode cL_isNet 87 = .ok (.bipush 6, 2) := by decide +kernel
theorem dL_isNet_89 : decode cL_isNet 89 = .ok (.idiv, 1) := by decide +kernel
theorem dL_isNet_90 : decode cL_isNet 90 = .ok (.iconst 4, 1) := by decide +kernel
theorem dL_isNet_91 : decode cL_isNet 91 = .ok (.iload_n 3, 1) := by decide +kernel
theorem dL_isNet_92 : decode cL_isNet 92 = .ok (.isub, 1) := by decide +kernel
theorem dL_isNet_93 : decode cL_isNet 93 = .ok (.if_icmp .ge 7, 3) := by decide +kernel
theorem dL_isNet_96 : decode cL_isNet 96 = .ok (.iconst 1, 1) := by decide +kernel
theorem dL_isNet_97 : decode cL_isNet 97 = .ok (.goto 4, 3) := by decide +kernel
theorem dL_isNet_100 : decode cL_isNet 100 = .ok (.iconst 0, 1) := by decide +kernel
theorem dL_isNet_101 : decode cL_isNet 101 = .ok (.iadd, 1) := by decide +kernel
theorem dL_isNet_102 : decode cL_isNet 102 = .ok (.istore 5, 2) := by decide +kernel
theorem dL_isNet_104 : decode cL_isNet 104 = .ok (.iload 9, 2) := by decide +kernel
theorem dL_isNet_106 : decode cL_isNet 106 = .ok (.bipush 6, 2) := by decide +kernel
theorem dL_isNet_108 : decode cL_isNet 108 = .ok (.irem, 1) := by decide +kernel
theorem dL_isNet_109 : decode cL_isNet 109 = .ok (.iconst 5, 1) := by decide +kernel
theorem dL_isNet_110 : decode cL_isNet 110 = .ok (.if_icmp .ne 7, 3) := by decide +kernel
theorem dL_isNet_113 : decode cL_isNet 113 = .ok (.iconst 0, 1) := by decide +kernel
theorem dL_isNet_114 : decode cL_isNet 114 = .ok (.goto 14, 3) := by decide +kernel
theorem dL_isNet_117 : decode cL_isNet 117 = .ok (.aload_n 0, 1) := by decide +kernel
theorem dL_isNet_118 : decode cL_isNet 118 = .ok (.iload_n 1, 1) := by decide +kernel
theorem dL_isNet_119 : decode cL_isNet 119 = .ok (.iload 9, 2) := by decide +kernel
theorem dL_isNet_121 : decode cL_isNet 121 = .ok (.iload 9, 2) := by decide +kernel
theorem dL_isNet_123 : decode cL_isNet 123 = .ok (.iconst 1, 1) := by decide +kernel
theorem dL_isNet_124 : decode cL_isNet 124 = .ok (.iadd, 1) := by decide +kernel
theorem dL_isNet_125 : decode cL_isNet 125 = .ok (.invokestatic 246, 3) := by decide +kernel
theorem dL_isNet_128 : decode cL_isNet 128 = .ok (.istore 11, 2) := by decide +kernel
theorem dL_isNet_130 : decode cL_isNet 130 = .ok (.iload 9, 2) := by decide +kernel
theorem dL_isNet_132 : decode cL_isNet 132 = .ok (.bipush 17, 2) := by decide +kernel
theorem dL_isNet_134 : decode cL_isNet 134 = .ok (.if_icmp .le 7, 3) := by decide +kernel
theorem dL_isNet_137 : decode cL_isNet 137 = .ok (.iconst 0, 1) := by decide +kernel
theorem dL_isNet_138 : decode cL_isNet 138 = .ok (.goto 15, 3) := by decide +kernel
theorem dL_isNet_141 : decode cL_isNet 141 = .ok (.aload_n 0, 1) := by decide +kernel
theorem dL_isNet_142 : decode cL_isNet 142 = .ok (.iload_n 1, 1) := by decide +kernel
theorem dL_isNet_143 : decode cL_isNet 143 = .ok (.iload 9, 2) := by decide +kernel
theorem dL_isNet_145 : decode cL_isNet 145 = .ok (.iload 9, 2) := by decide +kernel
theorem dL_isNet_147 : decode cL_isNet 147 = .ok (.bipush 6, 2) := by decide +kernel
theorem dL_isNet_149 : decode cL_isNet 149 = .ok (.iadd, 1) := by decide +kernel
theorem dL_isNet_150 : decode cL_isNet 150 = .ok (.invokestatic 246, 3) := by decide +kernel
theorem dL_isNet_153 : decode cL_isNet 153 = .ok (.istore 12, 2) := by decide +kernel
theorem dL_isNet_155 : decode cL_isNet 155 = .ok (.iload 6, 2) := by decide +kernel
theorem dL_isNet_157 : decode cL_isNet 157 = .ok (.iload 11, 2) := by decide +kernel
theorem dL_isNet_159 : decode cL_isNet 159 = .ok (.iload 12, 2) := by decide +kernel
theorem dL_isNet_161 : decode cL_isNet 161 = .ok (.iadd, 1) := by decide +kernel
theorem dL_isNet_162 : decode cL_isNet 162 = .ok (.iadd, 1) := by decide +kernel
theorem dL_isNet_163 : decode cL_isNet 163 = .ok (.istore 6, 2) := by decide +kernel
theorem dL_isNet_165 : decode cL_isNet 165 = .ok (.iload 7, 2) := by decide +kernel
theorem dL_isNet_167 : decode cL_isNet 167 = .ok (.iload 11, 2) := by decide +kernel
theorem dL_isNet_169 : decode cL_isNet 169 = .ok (.iconst 2, 1) := by decide +kernel
theorem dL_isNet_170 : decode cL_isNet 170 = .ok (.iload 12, 2) := by decide +kernel
theorem dL_isNet_172 : decode cL_isNet 172 = .ok (.imul, 1) := by decide +kernel
theorem dL_isNet_173 : decode cL_isNet 173 = .ok (.iadd, 1) := by decide +kernel
theorem dL_isNet_174 : decode cL_isNet 174 = .ok (.iadd, 1) := by decide +kernel
theorem dL_isNet_175 : decode cL_isNet 175 = .ok (.istore 7, 2) := by decide +kernel
theorem dL_isNet_177 : decode cL_isNet 177 = .ok (.aload 8, 2) := by decide +kernel
theorem dL_isNet_179 : decode cL_isNet 179 = .ok (.iload 9, 2) := by decide +kernel
theorem dL_isNet_181 : decode cL_isNet 181 = .ok (.iload 10, 2) := by decide +kernel
theorem dL_isNet_183 : decode cL_isNet 183 = .ok (.ifCond .eq 14, 3) := by decide +kernel
theorem dL_isNet_186 : decode cL_isNet 186 = .ok (.aload_n 0, 1) := by decide +kernel
theorem dL_isNet_187 : decode cL_isNet 187 = .ok (.iload_n 1, 1) := by decide +kernel
theorem dL_isNet_188 : decode cL_isNet 188 = .ok (.iload 9, 2) := by decide +kernel
theorem dL_isNet_190 : decode cL_isNet 190 = .ok (.iconst 0, 1) := by decide +kernel
theorem dL_isNet_191 : decode cL_isNet 191 = .ok (.invokestatic 266, 3) := by decide +kernel
theorem dL_isNet_194 : decode cL_isNet 194 = .ok (.goto 4, 3) := by decide +kernel
theorem dL_isNet_197 : decode cL_isNet 197 = .ok (.iconst (-1), 1) := by decide +kernel
theorem dL_isNet_198 : decode cL_isNet 198 = .ok (.iastore, 1) := by decide +kernel
theorem dL_isNet_199 : decode cL_isNet 199 = .ok (.iinc 9 1, 3) := by decide +kernel
theorem dL_isNet_202 : decode cL_isNet 202 = .ok (.goto (-163), 3) := by decide +kernel
theorem dL_isNet_205 : decode cL_isNet 205 = .ok (.iconst 0, 1) := by decide +kernel
theorem dL_isNet_206 : decode cL_isNet 206 = .ok (.istore 9, 2) := by decide +kernel
theorem dL_isNet_208 : decode cL_isNet 208 = .ok (.iconst 0, 1) := by decide +kernel
theorem dL_isNet_209 : decode cL_isNet 209 = .ok (.istore 10, 2) := by decide +kernel
theorem dL_isNet_211 : decode cL_isNet 211 = .ok (.iconst 0, 1) := by decide +kernel
theorem dL_isNet_212 : decode cL_isNet 212 = .ok (.istore 11, 2) := by decide +kernel
theorem dL_isNet_214 : decode cL_isNet 214 = .ok (.iload 11, 2) := by decide +kernel
theorem dL_isNet_216 : decode cL_isNet 216 = .ok (.bipush 24, 2) := by decide +kernel
theorem dL_isNet_218 : decode cL_isNet 218 = .ok (.if_icmp .ge 232, 3) := by decide +kernel
theorem dL_isNet_221 : decode cL_isNet 221 = .ok (.iload 11, 2) := by decide +kernel
theorem dL_isNet_223 : decode cL_isNet 223 = .ok (.bipush 6, 2) := by decide +kernel
theorem dL_isNet_225 : decode cL_isNet 225 = .ok (.irem, 1) := by decide +kernel
theorem dL_isNet_226 : decode cL_isNet 226 = .ok (.iconst 5, 1) := by decide +kernel
theorem dL_isNet_227 : decode cL_isNet 227 = .ok (.if_icmp .eq 39, 3) := by decide +kernel
theorem dL_isNet_230 : decode cL_isNet 230 = .ok (.aload_n 0, 1) := by decide +kernel
theorem dL_isNet_231 : decode cL_isNet 231 = .ok (.iload_n 1, 1) := by decide +kernel
theorem dL_isNet_232 : decode cL_isNet 232 = .ok (.iload 11, 2) := by decide +kernel
theorem dL_isNet_234 : decode cL_isNet 234 = .ok (.iload 11, 2) := by decide +kernel
theorem dL_isNet_236 : decode cL_isNet 236 = .ok (.iconst 1, 1) := by decide +kernel
theorem dL_isNet_237 : decode cL_isNet 237 = .ok (.iadd, 1) := by decide +kernel
theorem dL_isNet_238 : decode cL_isNet 238 = .ok (.invokestatic 246, 3) := by decide +kernel
theorem dL_isNet_241 : decode cL_isNet 241 = .ok (.ifCond .ne 25, 3) := by decide +kernel
theorem dL_isNet_244 : decode cL_isNet 244 = .ok (.aload 8, 2) := by decide +kernel
theorem dL_isNet_246 : decode cL_isNet 246 = .ok (.iload 11, 2) := by decide +kernel
theorem dL_isNet_248 : decode cL_isNet 248 = .ok (.iaload, 1) := by decide +kernel
theorem dL_isNet_249 : decode cL_isNet 249 = .ok (.ifCond .lt 17, 3) := by decide +kernel
theorem dL_isNet_252 : decode cL_isNet 252 = .ok (.aload 8, 2) := by decide +kernel
theorem dL_isNet_254 : decode cL_isNet 254 = .ok (.iload 11, 2) := by decide +kernel
theorem dL_isNet_256 : decode cL_isNet 256 = .ok (.iconst 1, 1) := by decide +kernel
theorem dL_isNet_257 : decode cL_isNet 257 = .ok (.iadd, 1) := by decide +kernel
theorem dL_isNet_258 : decode cL_isNet 258 = .ok (.iaload, 1) := by decide +kernel
theorem dL_isNet_259 : decode cL_isNet 259 = .ok (.ifCond .lt 7, 3) := by decide +kernel
theorem dL_isNet_262 : decode cL_isNet 262 = .ok (.iconst 1, 1) := by decide +kernel
theorem dL_isNet_263 : decode cL_isNet 263 = .ok (.goto 4, 3) := by decide +kernel
theorem dL_isNet_266 : decode cL_isNet 266 = .ok (.iconst 0, 1) := by decide +kernel
theorem dL_isNet_267 : decode cL_isNet 267 = .ok (.istore 12, 2) := by decide +kernel
theorem dL_isNet_269 : decode cL_isNet 269 = .ok (.iload 11, 2) := by decide +kernel
theorem dL_isNet_271 : decode cL_isNet 271 = .ok (.bipush 18, 2) := by decide +kernel
theorem dL_isNet_273 : decode cL_isNet 273 = .ok (.if_icmp .ge 41, 3) := by decide +kernel
theorem dL_isNet_276 : decode cL_isNet 276 = .ok (.aload_n 0, 1) := by decide +kernel
theorem dL_isNet_277 : decode cL_isNet 277 = .ok (.iload_n 1, 1) := by decide +kernel
theorem dL_isNet_278 : decode cL_isNet 278 = .ok (.iload 11, 2) := by decide +kernel
theorem dL_isNet_280 : decode cL_isNet 280 = .ok (.iload 11, 2) := by decide +kernel
theorem dL_isNet_282 : decode cL_isNet 282 = .ok (.bipush 6, 2) := by decide +kernel
theorem dL_isNet_284 : decode cL_isNet 284 = .ok (.iadd, 1) := by decide +kernel
theorem dL_isNet_285 : decode cL_isNet 285 = .ok (.invokestatic 246, 3) := by decide +kernel
theorem dL_isNet_288 : decode cL_isNet 288 = .ok (.ifCond .ne 26, 3) := by decide +kernel
theorem dL_isNet_291 : decode cL_isNet 291 = .ok (.aload 8, 2) := by decide +kernel
theorem dL_isNet_293 : decode cL_isNet 293 = .ok (.iload 11, 2) := by decide +kernel
theorem dL_isNet_295 : decode cL_isNet 295 = .ok (.iaload, 1) := by decide +kernel
theorem dL_isNet_296 : decode cL_isNet 296 = .ok (.ifCond .lt 18, 3) := by decide +kernel
theorem dL_isNet_299 : decode cL_isNet 299 = .ok (.aload 8, 2) := by decide +kernel
theorem dL_isNet_301 : decode cL_isNet 301 = .ok (.iload 11, 2) := by decide +kernel
theorem dL_isNet_303 : decode cL_isNet 303 = .ok (.bipush 6, 2) := by decide +kernel
theorem dL_isNet_305 : decode cL_isNet 305 = .ok (.iadd, 1) := by decide +kernel
theorem dL_isNet_306 : decode cL_isNet 306 = .ok (.iaload, 1) := by decide +kernel
theorem dL_isNet_307 : decode cL_isNet 307 = .ok (.ifCond .lt 7, 3) := by decide +kernel
theorem dL_isNet_310 : decode cL_isNet 310 = .ok (.iconst 1, 1) := by decide +kernel
theorem dL_isNet_311 : decode cL_isNet 311 = .ok (.goto 4, 3) := by decide +kernel
theorem dL_isNet_314 : decode cL_isNet 314 = .ok (.iconst 0, 1) := by decide +kernel
theorem dL_isNet_315 : decode cL_isNet 315 = .ok (.istore 13, 2) := by decide +kernel
theorem dL_isNet_317 : decode cL_isNet 317 = .ok (.iload 12, 2) := by decide +kernel
theorem dL_isNet_319 : decode cL_isNet 319 = .ok (.ifCond .eq 18, 3) := by decide +kernel
theorem dL_isNet_322 : decode cL_isNet 322 = .ok (.aload 8, 2) := by decide +kernel
theorem dL_isNet_324 : decode cL_isNet 324 = .ok (.iload 11, 2) := by decide +kernel
theorem dL_isNet_326 : decode cL_isNet 326 = .ok (.iaload, 1) := by decide +kernel
theorem dL_isNet_327 : decode cL_isNet 327 = .ok (.aload 8, 2) := by decide +kernel
theorem dL_isNet_329 : decode cL_isNet 329 = .ok (.iload 11, 2) := by decide +kernel
theorem dL_isNet_331 : decode cL_isNet 331 = .ok (.iconst 1, 1) := by decide +kernel
theorem dL_isNet_332 : decode cL_isNet 332 = .ok (.iadd, 1) := by decide +kernel
theorem dL_isNet_333 : decode cL_isNet 333 = .ok (.iaload, 1) := by decide +kernel
theorem dL_isNet_334 : decode cL_isNet 334 = .ok (.if_icmp .ne 58, 3) := by decide +kernel
theorem dL_isNet_337 : decode cL_isNet 337 = .ok (.iload 13, 2) := by decide +kernel
theorem dL_isNet_339 : decode cL_isNet 339 = .ok (.ifCond .eq 19, 3) := by decide +kernel
theorem dL_isNet_342 : decode cL_isNet 342 = .ok (.aload 8, 2) := by decide +kernel
theorem dL_isNet_344 : decode cL_isNet 344 = .ok (.iload 11, 2) := by decide +kernel
theorem dL_isNet_346 : decode cL_isNet 346 = .ok (.iaload, 1) := by decide +kernel
theorem dL_isNet_347 : decode cL_isNet 347 = .ok (.aload 8, 2) := by decide +kernel
theorem dL_isNet_349 : decode cL_isNet 349 = .ok (.iload 11, 2) := by decide +kernel
theorem dL_isNet_351 : decode cL_isNet 351 = .ok (.bipush 6, 2) := by decide +kernel
theorem dL_isNet_353 : decode cL_isNet 353 = .ok (.iadd, 1) := by decide +kernel
theorem dL_isNet_354 : decode cL_isNet 354 = .ok (.iaload, 1) := by decide +kernel
theorem dL_isNet_355 : decode cL_isNet 355 = .ok (.if_icmp .ne 37, 3) := by decide +kernel
theorem dL_isNet_358 : decode cL_isNet 358 = .ok (.aload 8, 2) := by decide +kernel
theorem dL_isNet_360 : decode cL_isNet 360 = .ok (.iload 11, 2) := by decide +kernel
theorem dL_isNet_362 : decode cL_isNet 362 = .ok (.iaload, 1) := by decide +kernel
theorem dL_isNet_363 : decode cL_isNet 363 = .ok (.iload 11, 2) := by decide +kernel
theorem dL_isNet_365 : decode cL_isNet 365 = .ok (.if_icmp .gt 27, 3) := by decide +kernel
theorem dL_isNet_368 : decode cL_isNet 368 = .ok (.aload 8, 2) := by decide +kernel
theorem dL_isNet_370 : decode cL_isNet 370 = .ok (.iload 11, 2) := by decide +kernel
theorem dL_isNet_372 : decode cL_isNet 372 = .ok (.iaload, 1) := by decide +kernel
theorem dL_isNet_373 : decode cL_isNet 373 = .ok (.ifCond .lt 21, 3) := by decide +kernel
theorem dL_isNet_376 : decode cL_isNet 376 = .ok (.aload 8, 2) := by decide +kernel
theorem dL_isNet_378 : decode cL_isNet 378 = .ok (.aload 8, 2) := by decide +kernel
theorem dL_isNet_380 : decode cL_isNet 380 = .ok (.iload 11, 2) := by decide +kernel
theorem dL_isNet_382 : decode cL_isNet 382 = .ok (.iaload, 1) := by decide +kernel
theorem dL_isNet_383 : decode cL_isNet 383 = .ok (.iaload, 1) := by decide +kernel
theorem dL_isNet_384 : decode cL_isNet 384 = .ok (.aload 8, 2) := by decide +kernel
theorem dL_isNet_386 : decode cL_isNet 386 = .ok (.iload 11, 2) := by decide +kernel
theorem dL_isNet_388 : decode cL_isNet 388 = .ok (.iaload, 1) := by decide +kernel
theorem dL_isNet_389 : decode cL_isNet 389 = .ok (.if_icmp .eq 5, 3) := by decide +kernel
theorem dL_isNet_392 : decode cL_isNet 392 = .ok (.iconst 0, 1) := by decide +kernel
theorem dL_isNet_393 : decode cL_isNet 393 = .ok (.ireturn, 1) := by decide +kernel
theorem dL_isNet_394 : decode cL_isNet 394 = .ok (.iload 9, 2) := by decide +kernel
theorem dL_isNet_396 : decode cL_isNet 396 = .ok (.aload 8, 2) := by decide +kernel
theorem dL_isNet_398 : decode cL_isNet 398 = .ok (.iload 11, 2) := by decide +kernel
theorem dL_isNet_400 : decode cL_isNet 400 = .ok (.iaload, 1) := by decide +kernel
theorem dL_isNet_401 : decode cL_isNet 401 = .ok (.iload 11, 2) := by decide +kernel
theorem dL_isNet_403 : decode cL_isNet 403 = .ok (.if_icmp .ne 7, 3) := by decide +kernel
theorem dL_isNet_406 : decode cL_isNet 406 = .ok (.iconst 1, 1) := by decide +kernel
theorem dL_isNet_407 : decode cL_isNet 407 = .ok (.goto 4, 3) := by decide +kernel
theorem dL_isNet_410 : decode cL_isNet 410 = .ok (.iconst 0, 1) := by decide +kernel
theorem dL_isNet_411 : decode cL_isNet 411 = .ok (.iadd, 1) := by decide +kernel
theorem dL_isNet_412 : decode cL_isNet 412 = .ok (.istore 9, 2) := by decide +kernel
theorem dL_isNet_414 : decode cL_isNet 414 = .ok (.aload 8, 2) := by decide +kernel
theorem dL_isNet_416 : decode cL_isNet 416 = .ok (.iload 11, 2) := by decide +kernel
theorem dL_isNet_418 : decode cL_isNet 418 = .ok (.iaload, 1) := by decide +kernel
theorem dL_isNet_419 : decode cL_isNet 419 = .ok (.iload 11, 2) := by decide +kernel
theorem dL_isNet_421 : decode cL_isNet 421 = .ok (.if_icmp .ne 19, 3) := by decide +kernel
theorem dL_isNet_424 : decode cL_isNet 424 = .ok (.iload 10, 2) := by decide +kernel
theorem dL_isNet_426 : decode cL_isNet 426 = .ok (.aload_n 0, 1) := by decide +kernel
theorem dL_isNet_427 : decode cL_isNet 427 = .ok (.iload_n 1, 1) := by decide +kernel
theorem dL_isNet_428 : decode cL_isNet 428 = .ok (.iload 11, 2) := by decide +kernel
theorem dL_isNet_430 : decode cL_isNet 430 = .ok (.iconst 1, 1) := by decide +kernel
theorem dL_isNet_431 : decode cL_isNet 431 = .ok (.invokestatic 266, 3) := by decide +kernel
theorem dL_isNet_434 : decode cL_isNet 434 = .ok (.invokestatic 268, 3) := by decide +kernel
theorem dL_isNet_437 : decode cL_isNet 437 = .ok (.goto 5, 3) := by decide +kernel
theorem dL_isNet_440 : decode cL_isNet 440 = .ok (.iload 10, 2) := by decide +kernel
theorem dL_isNet_442 : decode cL_isNet 442 = .ok (.istore 10, 2) := by decide +kernel
theorem dL_isNet_444 : decode cL_isNet 444 = .ok (.iinc 11 1, 3) := by decide +kernel
theorem dL_isNet_447 : decode cL_isNet 447 = .ok (.goto (-233), 3) := by decide +kernel
theorem dL_isNet_450 : decode cL_isNet 450 = .ok (.iconst 0, 1) := by decide +kernel
theorem dL_isNet_451 : decode cL_isNet 451 = .ok (.istore 11, 2) := by decide +kernel
theorem dL_isNet_453 : decode cL_isNet 453 = .ok (.iconst 0, 1) := by decide +kernel
theorem dL_isNet_454 : decode cL_isNet 454 = .ok (.istore 12, 2) := by decide +kernel
theorem dL_isNet_456 : decode cL_isNet 456 = .ok (.iconst 0, 1) := by decide +kernel
theorem dL_isNet_457 : decode cL_isNet 457 = .ok (.istore 13, 2) := by decide +kernel
theorem dL_isNet_459 : decode cL_isNet 459 = .ok (.iload 13, 2) := by decide +kernel
theorem dL_isNet_461 : decode cL_isNet 461 = .ok (.bipush 24, 2) := by decide +kernel
theorem dL_isNet_463 : decode cL_isNet 463 = .ok (.if_icmp .ge 76, 3) := by decide +kernel
theorem dL_isNet_466 : decode cL_isNet 466 = .ok (.aload 8, 2) := by decide +kernel
theorem dL_isNet_468 : decode cL_isNet 468 = .ok (.iload_n 2, 1) := by decide +kernel
theorem dL_isNet_469 : decode cL_isNet 469 = .ok (.iaload, 1) := by decide +kernel
theorem dL_isNet_470 : decode cL_isNet 470 = .ok (.ifCond .lt 19, 3) := by decide +kernel
theorem dL_isNet_473 : decode cL_isNet 473 = .ok (.aload 8, 2) := by decide +kernel
theorem dL_isNet_475 : decode cL_isNet 475 = .ok (.iload 13, 2) := by decide +kernel
theorem dL_isNet_477 : decode cL_isNet 477 = .ok (.iaload, 1) := by decide +kernel
theorem dL_isNet_478 : decode cL_isNet 478 = .ok (.aload 8, 2) := by decide +kernel
theorem dL_isNet_480 : decode cL_isNet 480 = .ok (.iload_n 2, 1) := by decide +kernel
theorem dL_isNet_481 : decode cL_isNet 481 = .ok (.iaload, 1) := by decide +kernel
theorem dL_isNet_482 : decode cL_isNet 482 = .ok (.if_icmp .ne 7, 3) := by decide +kernel
theorem dL_isNet_485 : decode cL_isNet 485 = .ok (.iconst 1, 1) := by decide +kernel
theorem dL_isNet_486 : decode cL_isNet 486 = .ok (.goto 4, 3) := by decide +kernel
theorem dL_isNet_489 : decode cL_isNet 489 = .ok (.iconst 0, 1) := by decide +kernel
theorem dL_isNet_490 : decode cL_isNet 490 = .ok (.istore 14, 2) := by decide +kernel
theorem dL_isNet_492 : decode cL_isNet 492 = .ok (.iload 11, 2) := by decide +kernel
theorem dL_isNet_494 : decode cL_isNet 494 = .ok (.iload 14, 2) := by decide +kernel
theorem dL_isNet_496 : decode cL_isNet 496 = .ok (.ifCond .eq 7, 3) := by decide +kernel
theorem dL_isNet_499 : decode cL_isNet 499 = .ok (.iconst 1, 1) := by decide +kernel
theorem dL_isNet_500 : decode cL_isNet 500 = .ok (.goto 4, 3) := by decide +kernel
theorem dL_isNet_503 : decode cL_isNet 503 = .ok (.iconst 0, 1) := by decide +kernel
theorem dL_isNet_504 : decode cL_isNet 504 = .ok (.iadd, 1) := by decide +kernel
theorem dL_isNet_505 : decode cL_isNet 505 = .ok (.istore 11, 2) := by decide +kernel
theorem dL_isNet_507 : decode cL_isNet 507 = .ok (.iload 12, 2) := by decide +kernel
theorem dL_isNet_509 : decode cL_isNet 509 = .ok (.iload 14, 2) := by decide +kernel
theorem dL_isNet_511 : decode cL_isNet 511 = .ok (.ifCond .eq 18, 3) := by decide +kernel
theorem dL_isNet_514 : decode cL_isNet 514 = .ok (.iload 13, 2) := by decide +kernel
theorem dL_isNet_516 : decode cL_isNet 516 = .ok (.bipush 6, 2) := by decide +kernel
theorem dL_isNet_518 : decode cL_isNet 518 = .ok (.idiv, 1) := by decide +kernel
theorem dL_isNet_519 : decode cL_isNet 519 = .ok (.iconst 4, 1) := by decide +kernel
theorem dL_isNet_520 : decode cL_isNet 520 = .ok (.iload_n 3, 1) := by decide +kernel
theorem dL_isNet_521 : decode cL_isNet 521 = .ok (.isub, 1) := by decide +kernel
theorem dL_isNet_522 : decode cL_isNet 522 = .ok (.if_icmp .ge 7, 3) := by decide +kernel
theorem dL_isNet_525 : decode cL_isNet 525 = .ok (.iconst 1, 1) := by decide +kernel
theorem dL_isNet_526 : decode cL_isNet 526 = .ok (.goto 4, 3) := by decide +kernel
theorem dL_isNet_529 : decode cL_isNet 529 = .ok (.iconst 0, 1) := by decide +kernel
theorem dL_isNet_530 : decode cL_isNet 530 = .ok (.iadd, 1) := by decide +kernel
theorem dL_isNet_531 : decode cL_isNet 531 = .ok (.istore 12, 2) := by decide +kernel
theorem dL_isNet_533 : decode cL_isNet 533 = .ok (.iinc 13 1, 3) := by decide +kernel
theorem dL_isNet_536 : decode cL_isNet 536 = .ok (.goto (-77), 3) := by decide +kernel
theorem dL_isNet_539 : decode cL_isNet 539 = .ok (.iload 11, 2) := by decide +kernel
theorem dL_isNet_541 : decode cL_isNet 541 = .ok (.ifCond .ne 34, 3) := by decide +kernel
theorem dL_isNet_544 : decode cL_isNet 544 = .ok (.aload_n 0, 1) := by decide +kernel
theorem dL_isNet_545 : decode cL_isNet 545 = .ok (.iload_n 1, 1) := by decide +kernel
theorem dL_isNet_546 : decode cL_isNet 546 = .ok (.iload_n 2, 1) := by decide +kernel
theorem dL_isNet_547 : decode cL_isNet 547 = .ok (.iconst 1, 1) := by decide +kernel
theorem dL_isNet_548 : decode cL_isNet 548 = .ok (.invokestatic 266, 3) := by decide +kernel
theorem dL_isNet_551 : decode cL_isNet 551 = .ok (.bipush (-75), 2) := by decide +kernel
theorem dL_isNet_553 : decode cL_isNet 553 = .ok (.if_icmp .ne 18, 3) := by decide +kernel
theorem dL_isNet_556 : decode cL_isNet 556 = .ok (.aload_n 0, 1) := by decide +kernel
theorem dL_isNet_557 : decode cL_isNet 557 = .ok (.iload_n 1, 1) := by decide +kernel
theorem dL_isNet_558 : decode cL_isNet 558 = .ok (.iload_n 2, 1) := by decide +kernel
theorem dL_isNet_559 : decode cL_isNet 559 = .ok (.invokestatic 271, 3) := by decide +kernel
theorem dL_isNet_562 : decode cL_isNet 562 = .ok (.bipush (-75), 2) := by decide +kernel
theorem dL_isNet_564 : decode cL_isNet 564 = .ok (.if_icmp .ne 7, 3) := by decide +kernel
theorem dL_isNet_567 : decode cL_isNet 567 = .ok (.iconst 1, 1) := by decide +kernel
theorem dL_isNet_568 : decode cL_isNet 568 = .ok (.goto 61, 3) := by decide +kernel
theorem dL_isNet_571 : decode cL_isNet 571 = .ok (.iconst 0, 1) := by decide +kernel
theorem dL_isNet_572 : decode cL_isNet 572 = .ok (.goto 57, 3) := by decide +kernel
theorem dL_isNet_575 : decode cL_isNet 575 = .ok (.aload_n 0, 1) := by decide +kernel
theorem dL_isNet_576 : decode cL_isNet 576 = .ok (.iload_n 1, 1) := by decide +kernel
theorem dL_isNet_577 : decode cL_isNet 577 = .ok (.iload_n 2, 1) := by decide +kernel
theorem dL_isNet_578 : decode cL_isNet 578 = .ok (.iconst 1, 1) := by decide +kernel
theorem dL_isNet_579 : decode cL_isNet 579 = .ok (.invokestatic 266, 3) := by decide +kernel
theorem dL_isNet_582 : decode cL_isNet 582 = .ok (.iload 11, 2) := by decide +kernel
theorem dL_isNet_584 : decode cL_isNet 584 = .ok (.if_icmp .ne 44, 3) := by decide +kernel
theorem dL_isNet_587 : decode cL_isNet 587 = .ok (.aload_n 0, 1) := by decide +kernel
theorem dL_isNet_588 : decode cL_isNet 588 = .ok (.iload_n 1, 1) := by decide +kernel
theorem dL_isNet_589 : decode cL_isNet 589 = .ok (.iload_n 2, 1) := by decide +kernel
theorem dL_isNet_590 : decode cL_isNet 590 = .ok (.iconst 2, 1) := by decide +kernel
theorem dL_isNet_591 : decode cL_isNet 591 = .ok (.invokestatic 266, 3) := by decide +kernel
theorem dL_isNet_594 : decode cL_isNet 594 = .ok (.iload 12, 2) := by decide +kernel
theorem dL_isNet_596 : decode cL_isNet 596 = .ok (.if_icmp .ne 32, 3) := by decide +kernel
theorem dL_isNet_599 : decode cL_isNet 599 = .ok (.aload_n 0, 1) := by decide +kernel
theorem dL_isNet_600 : decode cL_isNet 600 = .ok (.iload_n 1, 1) := by decide +kernel
theorem dL_isNet_601 : decode cL_isNet 601 = .ok (.iload_n 2, 1) := by decide +kernel
theorem dL_isNet_602 : decode cL_isNet 602 = .ok (.invokestatic 271, 3) := by decide +kernel
theorem dL_isNet_605 : decode cL_isNet 605 = .ok (.iload 11, 2) := by decide +kernel
theorem dL_isNet_607 : decode cL_isNet 607 = .ok (.if_icmp .ne 21, 3) := by decide +kernel
theorem dL_isNet_610 : decode cL_isNet 610 = .ok (.aload_n 0, 1) := by decide +kernel
theorem dL_isNet_611 : decode cL_isNet 611 = .ok (.iload_n 1, 1) := by decide +kernel
theorem dL_isNet_612 : decode cL_isNet 612 = .ok (.iload_n 2, 1) := by decide +kernel
theorem dL_isNet_613 : decode cL_isNet 613 = .ok (.iconst 3, 1) := by decide +kernel
theorem dL_isNet_614 : decode cL_isNet 614 = .ok (.invokestatic 266, 3) := by decide +kernel
theorem dL_isNet_617 : decode cL_isNet 617 = .ok (.iload 11, 2) := by decide +kernel
theorem dL_isNet_619 : decode cL_isNet 619 = .ok (.iconst 1, 1) := by decide +kernel
theorem dL_isNet_620 : decode cL_isNet 620 = .ok (.isub, 1) := by decide +kernel
theorem dL_isNet_621 : decode cL_isNet 621 = .ok (.if_icmp .lt 7, 3) := by decide +kernel
theorem dL_isNet_624 : decode cL_isNet 624 = .ok (.iconst 1, 1) := by decide +kernel
theorem dL_isNet_625 : decode cL_isNet 625 = .ok (.goto 4, 3) := by decide +kernel
theorem dL_isNet_628 : decode cL_isNet 628 = .ok (.iconst 0, 1) := by decide +kernel
theorem dL_isNet_629 : decode cL_isNet 629 = .ok (.istore 13, 2) := by decide +kernel
theorem dL_isNet_631 : decode cL_isNet 631 = .ok (.iconst 1, 1) := by decide +kernel
theorem dL_isNet_632 : decode cL_isNet 632 = .ok (.istore 14, 2) := by decide +kernel
theorem dL_isNet_634 : decode cL_isNet 634 = .ok (.iload 14, 2) := by decide +kernel
theorem dL_isNet_636 : decode cL_isNet 636 = .ok (.iload 9, 2) := by decide +kernel
theorem dL_isNet_638 : decode cL_isNet 638 = .ok (.if_icmp .ge 67, 3) := by decide +kernel
theorem dL_isNet_641 : decode cL_isNet 641 = .ok (.aload_n 0, 1) := by decide +kernel
theorem dL_isNet_642 : decode cL_isNet 642 = .ok (.iload_n 1, 1) := by decide +kernel
theorem dL_isNet_643 : decode cL_isNet 643 = .ok (.iload 14, 2) := by decide +kernel
theorem dL_isNet_645 : decode cL_isNet 645 = .ok (.iconst 1, 1) := by decide +kernel
theorem dL_isNet_646 : decode cL_isNet 646 = .ok (.isub, 1) := by decide +kernel
theorem dL_isNet_647 : decode cL_isNet 647 = .ok (.invokestatic 273, 3) := by decide +kernel
theorem dL_isNet_650 : decode cL_isNet 650 = .ok (.istore 15, 2) := by decide +kernel
theorem dL_isNet_652 : decode cL_isNet 652 = .ok (.aload_n 0, 1) := by decide +kernel
theorem dL_isNet_653 : decode cL_isNet 653 = .ok (.iload_n 1, 1) := by decide +kernel
theorem dL_isNet_654 : decode cL_isNet 654 = .ok (.iload 14, 2) := by decide +kernel
theorem dL_isNet_656 : decode cL_isNet 656 = .ok (.invokestatic 273, 3) := by decide +kernel
theorem dL_isNet_659 : decode cL_isNet 659 = .ok (.istore 16, 2) := by decide +kernel
theorem dL_isNet_661 : decode cL_isNet 661 = .ok (.aload_n 0, 1) := by decide +kernel
theorem dL_isNet_662 : decode cL_isNet 662 = .ok (.iload_n 1, 1) := by decide +kernel
theorem dL_isNet_663 : decode cL_isNet 663 = .ok (.iload 15, 2) := by decide +kernel
theorem dL_isNet_665 : decode cL_isNet 665 = .ok (.iconst 1, 1) := by decide +kernel
theorem dL_isNet_666 : decode cL_isNet 666 = .ok (.invokestatic 266, 3) := by decide +kernel
theorem dL_isNet_669 : decode cL_isNet 669 = .ok (.aload_n 0, 1) := by decide +kernel
theorem dL_isNet_670 : decode cL_isNet 670 = .ok (.iload_n 1, 1) := by decide +kernel
theorem dL_isNet_671 : decode cL_isNet 671 = .ok (.iload 16, 2) := by decide +kernel
theorem dL_isNet_673 : decode cL_isNet 673 = .ok (.iconst 1, 1) := by decide +kernel
theorem dL_isNet_674 : decode cL_isNet 674 = .ok (.invokestatic 266, 3) := by decide +kernel
theorem dL_isNet_677 : decode cL_isNet 677 = .ok (.isub, 1) := by decide +kernel
theorem dL_isNet_678 : decode cL_isNet 678 = .ok (.istore 17, 2) := by decide +kernel
theorem dL_isNet_680 : decode cL_isNet 680 = .ok (.iload 17, 2) := by decide +kernel
theorem dL_isNet_682 : decode cL_isNet 682 = .ok (.ifCond .lt 15, 3) := by decide +kernel
theorem dL_isNet_685 : decode cL_isNet 685 = .ok (.iload 17, 2) := by decide +kernel
theorem dL_isNet_687 : decode cL_isNet 687 = .ok (.ifCond .ne 12, 3) := by decide +kernel
theorem dL_isNet_690 : decode cL_isNet 690 = .ok (.iload 15, 2) := by decide +kernel
theorem dL_isNet_692 : decode cL_isNet 692 = .ok (.iload 16, 2) := by decide +kernel
theorem dL_isNet_694 : decode cL_isNet 694 = .ok (.if_icmp .le 5, 3) := by decide +kernel
theorem dL_isNet_697 : decode cL_isNet 697 = .ok (.iconst 0, 1) := by decide +kernel
theorem dL_isNet_698 : decode cL_isNet 698 = .ok (.ireturn, 1) := by decide +kernel
theorem dL_isNet_699 : decode cL_isNet 699 = .ok (.iinc 14 1, 3) := by decide +kernel
theorem dL_isNet_702 : decode cL_isNet 702 = .ok (.goto (-68), 3) := by decide +kernel
theorem dL_isNet_705 : decode cL_isNet 705 = .ok (.aload_n 0, 1) := by decide +kernel
theorem dL_isNet_706 : decode cL_isNet 706 = .ok (.iload_n 1, 1) := by decide +kernel
theorem dL_isNet_707 : decode cL_isNet 707 = .ok (.iconst 0, 1) := by decide +kernel
theorem dL_isNet_708 : decode cL_isNet 708 = .ok (.invokestatic 275, 3) := by decide +kernel
theorem dL_isNet_711 : decode cL_isNet 711 = .ok (.istore 14, 2) := by decide +kernel
theorem dL_isNet_713 : decode cL_isNet 713 = .ok (.aload_n 0, 1) := by decide +kernel
theorem dL_isNet_714 : decode cL_isNet 714 = .ok (.iload_n 1, 1) := by decide +kernel
theorem dL_isNet_715 : decode cL_isNet 715 = .ok (.iconst 1, 1) := by decide +kernel
theorem dL_isNet_716 : decode cL_isNet 716 = .ok (.invokestatic 275, 3) := by decide +kernel
theorem dL_isNet_719 : decode cL_isNet 719 = .ok (.istore 15, 2) := by decide +kernel
theorem dL_isNet_721 : decode cL_isNet 721 = .ok (.iload 14, 2) := by decide +kernel
theorem dL_isNet_723 : decode cL_isNet 723 = .ok (.bipush (-75), 2) := by decide +kernel
theorem dL_isNet_725 : decode cL_isNet 725 = .ok (.if_icmp .ne 18, 3) := by decide +kernel
theorem dL_isNet_728 : decode cL_isNet 728 = .ok (.iload 15, 2) := by decide +kernel
theorem dL_isNet_730 : decode cL_isNet 730 = .ok (.bipush (-75), 2) := by decide +kernel
theorem dL_isNet_732 : decode cL_isNet 732 = .ok (.if_icmp .ne 7, 3) := by decide +kernel
theorem dL_isNet_735 : decode cL_isNet 735 = .ok (.iconst 1, 1) := by decide +kernel
theorem dL_isNet_736 : decode cL_isNet 736 = .ok (.goto 54, 3) := by decide +kernel
theorem dL_isNet_739 : decode cL_isNet 739 = .ok (.iconst 0, 1) := by decide +kernel
theorem dL_isNet_740 : decode cL_isNet 740 = .ok (.goto 50, 3) := by decide +kernel
theorem dL_isNet_743 : decode cL_isNet 743 = .ok (.aload_n 0, 1) := by decide +kernel
theorem dL_isNet_744 : decode cL_isNet 744 = .ok (.iload_n 1, 1) := by decide +kernel
theorem dL_isNet_745 : decode cL_isNet 745 = .ok (.iload 14, 2) := by decide +kernel
theorem dL_isNet_747 : decode cL_isNet 747 = .ok (.iload 15, 2) := by decide +kernel
theorem dL_isNet_749 : decode cL_isNet 749 = .ok (.invokestatic 246, 3) := by decide +kernel
theorem dL_isNet_752 : decode cL_isNet 752 = .ok (.iconst 1, 1) := by decide +kernel
theorem dL_isNet_753 : decode cL_isNet 753 = .ok (.if_icmp .ne 36, 3) := by decide +kernel
theorem dL_isNet_756 : decode cL_isNet 756 = .ok (.aload 8, 2) := by decide +kernel
theorem dL_isNet_758 : decode cL_isNet 758 = .ok (.iload 14, 2) := by decide +kernel
theorem dL_isNet_760 : decode cL_isNet 760 = .ok (.iaload, 1) := by decide +kernel
theorem dL_isNet_761 : decode cL_isNet 761 = .ok (.ifCond .lt 28, 3) := by decide +kernel
theorem dL_isNet_764 : decode cL_isNet 764 = .ok (.aload 8, 2) := by decide +kernel
theorem dL_isNet_766 : decode cL_isNet 766 = .ok (.iload 15, 2) := by decide +kernel
theorem dL_isNet_768 : decode cL_isNet 768 = .ok (.iaload, 1) := by decide +kernel
theorem dL_isNet_769 : decode cL_isNet 769 = .ok (.ifCond .lt 20, 3) := by decide +kernel
theorem dL_isNet_772 : decode cL_isNet 772 = .ok (.aload 8, 2) := by decide +kernel
theorem dL_isNet_774 : decode cL_isNet 774 = .ok (.iload 14, 2) := by decide +kernel
theorem dL_isNet_776 : decode cL_isNet 776 = .ok (.iaload, 1) := by decide +kernel
theorem dL_isNet_777 : decode cL_isNet 777 = .ok (.aload 8, 2) := by decide +kernel
theorem dL_isNet_779 : decode cL_isNet 779 = .ok (.iload 15, 2) := by decide +kernel
theorem dL_isNet_781 : decode cL_isNet 781 = .ok (.iaload, 1) := by decide +kernel
theorem dL_isNet_782 : decode cL_isNet 782 = .ok (.if_icmp .eq 7, 3) := by decide +kernel
theorem dL_isNet_785 : decode cL_isNet 785 = .ok (.iconst 1, 1) := by decide +kernel
theorem dL_isNet_786 : decode cL_isNet 786 = .ok (.goto 4, 3) := by decide +kernel
theorem dL_isNet_789 : decode cL_isNet 789 = .ok (.iconst 0, 1) := by decide +kernel
theorem dL_isNet_790 : decode cL_isNet 790 = .ok (.istore 16, 2) := by decide +kernel
theorem dL_isNet_792 : decode cL_isNet 792 = .ok (.aload_n 0, 1) := by decide +kernel
theorem dL_isNet_793 : decode cL_isNet 793 = .ok (.iload_n 1, 1) := by decide +kernel
theorem dL_isNet_794 : decode cL_isNet 794 = .ok (.iconst 0, 1) := by decide +kernel
theorem dL_isNet_795 : decode cL_isNet 795 = .ok (.invokestatic 242, 3) := by decide +kernel
theorem dL_isNet_798 : decode cL_isNet 798 = .ok (.iload 4, 2) := by decide +kernel
theorem dL_isNet_800 : decode cL_isNet 800 = .ok (.if_icmp .ne 94, 3) := by decide +kernel
theorem dL_isNet_803 : decode cL_isNet 803 = .ok (.aload_n 0, 1) := by decide +kernel
theorem dL_isNet_804 : decode cL_isNet 804 = .ok (.iload_n 1, 1) := by decide +kernel
theorem dL_isNet_805 : decode cL_isNet 805 = .ok (.iconst 1, 1) := by decide +kernel
theorem dL_isNet_806 : decode cL_isNet 806 = .ok (.invokestatic 242, 3) := by decide +kernel
theorem dL_isNet_809 : decode cL_isNet 809 = .ok (.iload 5, 2) := by decide +kernel
theorem dL_isNet_811 : decode cL_isNet 811 = .ok (.if_icmp .ne 83, 3) := by decide +kernel
theorem dL_isNet_814 : decode cL_isNet 814 = .ok (.aload_n 0, 1) := by decide +kernel
theorem dL_isNet_815 : decode cL_isNet 815 = .ok (.iload_n 1, 1) := by decide +kernel
theorem dL_isNet_816 : decode cL_isNet 816 = .ok (.iconst 2, 1) := by decide +kernel
theorem dL_isNet_817 : decode cL_isNet 817 = .ok (.invokestatic 242, 3) := by decide +kernel
theorem dL_isNet_820 : decode cL_isNet 820 = .ok (.iload 6, 2) := by decide +kernel
theorem dL_isNet_822 : decode cL_isNet 822 = .ok (.if_icmp .ne 72, 3) := by decide +kernel
theorem dL_isNet_825 : decode cL_isNet 825 = .ok (.aload_n 0, 1) := by decide +kernel
theorem dL_isNet_826 : decode cL_isNet 826 = .ok (.iload_n 1, 1) := by decide +kernel
theorem dL_isNet_827 : decode cL_isNet 827 = .ok (.iconst 4, 1) := by decide +kernel
theorem dL_isNet_828 : decode cL_isNet 828 = .ok (.invokestatic 242, 3) := by decide +kernel
theorem dL_isNet_831 : decode cL_isNet 831 = .ok (.iload_n 3, 1) := by decide +kernel
theorem dL_isNet_832 : decode cL_isNet 832 = .ok (.if_icmp .ne 62, 3) := by decide +kernel
theorem dL_isNet_835 : decode cL_isNet 835 = .ok (.aload_n 0, 1) := by decide +kernel
theorem dL_isNet_836 : decode cL_isNet 836 = .ok (.iload_n 1, 1) := by decide +kernel
theorem dL_isNet_837 : decode cL_isNet 837 = .ok (.iconst 5, 1) := by decide +kernel
theorem dL_isNet_838 : decode cL_isNet 838 = .ok (.invokestatic 242, 3) := by decide +kernel
theorem dL_isNet_841 : decode cL_isNet 841 = .ok (.iload 10, 2) := by decide +kernel
theorem dL_isNet_843 : decode cL_isNet 843 = .ok (.if_icmp .ne 51, 3) := by decide +kernel
theorem dL_isNet_846 : decode cL_isNet 846 = .ok (.aload_n 0, 1) := by decide +kernel
theorem dL_isNet_847 : decode cL_isNet 847 = .ok (.iload_n 1, 1) := by decide +kernel
theorem dL_isNet_848 : decode cL_isNet 848 = .ok (.bipush 6, 2) := by decide +kernel
theorem dL_isNet_850 : decode cL_isNet 850 = .ok (.invokestatic 242, 3) := by decide +kernel
theorem dL_isNet_853 : decode cL_isNet 853 = .ok (.iload 7, 2) := by decide +kernel
theorem dL_isNet_855 : decode cL_isNet 855 = .ok (.if_icmp .ne 39, 3) := by decide +kernel
theorem dL_isNet_858 : decode cL_isNet 858 = .ok (.aload_n 0, 1) := by decide +kernel
theorem dL_isNet_859 : decode cL_isNet 859 = .ok (.iload_n 1, 1) := by decide +kernel
theorem dL_isNet_860 : decode cL_isNet 860 = .ok (.invokestatic 173, 3) := by decide +kernel
theorem dL_isNet_863 : decode cL_isNet 863 = .ok (.iload 9, 2) := by decide +kernel
theorem dL_isNet_865 : decode cL_isNet 865 = .ok (.if_icmp .ne 29, 3) := by decide +kernel
theorem dL_isNet_868 : decode cL_isNet 868 = .ok (.aload_n 0, 1) := by decide +kernel
theorem dL_isNet_869 : decode cL_isNet 869 = .ok (.iload_n 1, 1) := by decide +kernel
theorem dL_isNet_870 : decode cL_isNet 870 = .ok (.invokestatic 278, 3) := by decide +kernel
theorem dL_isNet_873 : decode cL_isNet 873 = .ok (.iload 9, 2) := by decide +kernel
theorem dL_isNet_875 : decode cL_isNet 875 = .ok (.if_icmp .ne 19, 3) := by decide +kernel
theorem dL_isNet_878 : decode cL_isNet 878 = .ok (.aload_n 0, 1) := by decide +kernel
theorem dL_isNet_879 : decode cL_isNet 879 = .ok (.iload_n 1, 1) := by decide +kernel
theorem dL_isNet_880 : decode cL_isNet 880 = .ok (.iload 9, 2) := by decide +kernel
theorem dL_isNet_882 : decode cL_isNet 882 = .ok (.invokestatic 273, 3) := by decide +kernel
theorem dL_isNet_885 : decode cL_isNet 885 = .ok (.bipush (-75), 2) := by decide +kernel
theorem dL_isNet_887 : decode cL_isNet 887 = .ok (.if_icmp .ne 7, 3) := by decide +kernel
theorem dL_isNet_890 : decode cL_isNet 890 = .ok (.iconst 1, 1) := by decide +kernel
theorem dL_isNet_891 : decode cL_isNet 891 = .ok (.goto 4, 3) := by decide +kernel
theorem dL_isNet_894 : decode cL_isNet 894 = .ok (.iconst 0, 1) := by decide +kernel
theorem dL_isNet_895 : decode cL_isNet 895 = .ok (.istore 17, 2) := by decide +kernel
theorem dL_isNet_897 : decode cL_isNet 897 = .ok (.iload 13, 2) := by decide +kernel
theorem dL_isNet_899 : decode cL_isNet 899 = .ok (.ifCond .eq 46, 3) := by decide +kernel
theorem dL_isNet_902 : decode cL_isNet 902 = .ok (.iload 16, 2) := by decide +kernel
theorem dL_isNet_904 : decode cL_isNet 904 = .ok (.ifCond .eq 41, 3) := by decide +kernel
theorem dL_isNet_907 : decode cL_isNet 907 = .ok (.iload 17, 2) := by decide +kernel
theorem dL_isNet_909 : decode cL_isNet 909 = .ok (.ifCond .eq 36, 3) := by decide +kernel
theorem dL_isNet_912 : decode cL_isNet 912 = .ok (.aload_n 0, 1) := by decide +kernel
theorem dL_isNet_913 : decode cL_isNet 913 = .ok (.iload_n 1, 1) := by decide +kernel
theorem dL_isNet_914 : decode cL_isNet 914 = .ok (.iload_n 2, 1) := by decide +kernel
theorem dL_isNet_915 : decode cL_isNet 915 = .ok (.bipush 6, 2) := by decide +kernel
theorem dL_isNet_917 : decode cL_isNet 917 = .ok (.idiv, 1) := by decide +kernel
theorem dL_isNet_918 : decode cL_isNet 918 = .ok (.invokestatic 280, 3) := by decide +kernel
theorem dL_isNet_921 : decode cL_isNet 921 = .ok (.iload_n 2, 1) := by decide +kernel
theorem dL_isNet_922 : decode cL_isNet 922 = .ok (.bipush 6, 2) := by decide +kernel
theorem dL_isNet_924 : decode cL_isNet 924 = .ok (.idiv, 1) := by decide +kernel
theorem dL_isNet_925 : decode cL_isNet 925 = .ok (.iconst 4, 1) := by decide +kernel
theorem dL_isNet_926 : decode cL_isNet 926 = .ok (.iload_n 3, 1) := by decide +kernel
theorem dL_isNet_927 : decode cL_isNet 927 = .ok (.isub, 1) := by decide +kernel
theorem dL_isNet_928 : decode cL_isNet 928 = .ok (.if_icmp .ge 8, 3) := by decide +kernel
theorem dL_isNet_931 : decode cL_isNet 931 = .ok (.bipush 11, 2) := by decide +kernel
theorem dL_isNet_933 : decode cL_isNet 933 = .ok (.goto 5, 3) := by decide +kernel
theorem dL_isNet_936 : decode cL_isNet 936 = .ok (.bipush 12, 2) := by decide +kernel
theorem dL_isNet_938 : decode cL_isNet 938 = .ok (.if_icmp .ne 7, 3) := by decide +kernel
theorem dL_isNet_941 : decode cL_isNet 941 = .ok (.iconst 1, 1) := by decide +kernel
theorem dL_isNet_942 : decode cL_isNet 942 = .ok (.goto 4, 3) := by decide +kernel
theorem dL_isNet_945 : decode cL_isNet 945 = .ok (.iconst 0, 1) := by decide +kernel
theorem dL_isNet_946 : decode cL_isNet 946 = .ok (.ireturn, 1) := by decide +kernel
theorem dL_isWhole_0 : decode cL_isWhole 0 = .ok (.iconst 0, 1) := by decide +kernel
theorem dL_isWhole_1 : decode cL_isWhole 1 = .ok (.istore_n 3, 1) := by decide +kernel
theorem dL_isWhole_2 : decode cL_isWhole 2 = .ok (.iload_n 3, 1) := by decide +kernel
theorem dL_isWhole_3 : decode cL_isWhole 3 = .ok (.iload_n 1, 1) := by decide +kernel
theorem dL_isWhole_4 : decode cL_isWhole 4 = .ok (.if_icmp .gt 20, 3) := by decide +kernel
theorem dL_isWhole_7 : decode cL_isWhole 7 = .ok (.aload_n 0, 1) := by decide +kernel
theorem dL_isWhole_8 : decode cL_isWhole 8 = .ok (.iload_n 3, 1) := by decide +kernel
theorem dL_isWhole_9 : decode cL_isWhole 9 = .ok (.iload_n 2, 1) := by decide +kernel
theorem dL_isWhole_10 : decode cL_isWhole 10 = .ok (.invokestatic 282, 3) := by decide +kernel
theorem dL_isWhole_13 : decode cL_isWhole 13 = .ok (.ifCond .ne 5, 3) := by decide +kernel
theorem dL_isWhole_16 : decode cL_isWhole 16 = .ok (.iconst 0, 1) := by decide +kernel
theorem dL_isWhole_17 : decode cL_isWhole 17 = .ok (.ireturn, 1) := by decide +kernel
theorem dL_isWhole_18 : decode cL_isWhole 18 = .ok (.iinc 3 1, 3) := by decide +kernel
theorem dL_isWhole_21 : decode cL_isWhole 21 = .ok (.goto (-19), 3) := by decide +kernel
theorem dL_isWhole_24 : decode cL_isWhole 24 = .ok (.iconst 0, 1) := by decide +kernel
theorem dL_isWhole_25 : decode cL_isWhole 25 = .ok (.istore_n 3, 1) := by decide +kernel
theorem dL_isWhole_26 : decode cL_isWhole 26 = .ok (.iconst 0, 1) := by decide +kernel
theorem dL_isWhole_27 : decode cL_isWhole 27 = .ok (.istore 4, 2) := by decide +kernel
theorem dL_isWhole_29 : decode cL_isWhole 29 = .ok (.iload 4, 2) := by decide +kernel
theorem dL_isWhole_31 : decode cL_isWhole 31 = .ok (.aload_n 0, 1) := by decide +kernel
theorem dL_isWhole_32 : decode cL_isWhole 32 = .ok (.iconst 5, 1) := by decide +kernel
theorem dL_isWhole_33 : decode cL_isWhole 33 = .ok (.invokestatic 167, 3) := by decide +kernel
theorem dL_isWhole_36 : decode cL_isWhole 36 = .ok (.if_icmp .ge 128, 3) := by decide +kernel
theorem dL_isWhole_39 : decode cL_isWhole 39 = .ok (.aload_n 0, 1) := by decide +kernel
theorem dL_isWhole_40 : decode cL_isWhole 40 = .ok (.iload 4, 2) := by decide +kernel
theorem dL_isWhole_42 : decode cL_isWhole 42 = .ok (.invokestatic 285, 3) := by decide +kernel
theorem dL_isWhole_45 : decode cL_isWhole 45 = .ok (.istore 5, 2) := by decide +kernel
theorem dL_isWhole_47 : decode cL_isWhole 47 = .ok (.aload_n 0, 1) := by decide +kernel
theorem dL_isWhole_48 : decode cL_isWhole 48 = .ok (.iload 4, 2) := by decide +kernel
theorem dL_isWhole_50 : decode cL_isWhole 50 = .ok (.iconst 3, 1) := by decide +kernel
theorem dL_isWhole_51 : decode cL_isWhole 51 = .ok (.invokestatic 251, 3) := by decide +kernel
theorem dL_isWhole_54 : decode cL_isWhole 54 = .ok (.istore 6, 2) := by decide +kernel
theorem dL_isWhole_56 : decode cL_isWhole 56 = .ok (.aload_n 0, 1) := by decide +kernel
theorem dL_isWhole_57 : decode cL_isWhole 57 = .ok (.iload 4, 2) := by decide +kernel
theorem dL_isWhole_59 : decode cL_isWhole 59 = .ok (.iconst 2, 1) := by decide +kernel
theorem dL_isWhole_60 : decode cL_isWhole 60 = .ok (.invokestatic 251, 3) := by decide +kernel
theorem dL_isWhole_63 : decode cL_isWhole 63 = .ok (.istore 7, 2) := by decide +kernel
theorem dL_isWhole_65 : decode cL_isWhole 65 = .ok (.iload 5, 2) := by decide +kernel
theorem dL_isWhole_67 : decode cL_isWhole 67 = .ok (.bipush (-75), 2) := by decide +kernel
theorem dL_isWhole_69 : decode cL_isWhole 69 = .ok (.if_icmp .eq 19, 3) := by decide +kernel
theorem dL_isWhole_72 : decode cL_isWhole 72 = .ok (.iload 5, 2) := by decide +kernel
theorem dL_isWhole_74 : decode cL_isWhole 74 = .ok (.ifCond .lt 18, 3) := by decide +kernel
theorem dL_isWhole_77 : decode cL_isWhole 77 = .ok (.iload 5, 2) := by decide +kernel
theorem dL_isWhole_79 : decode cL_isWhole 79 = .ok (.iconst 2, 1) := by decide +kernel
theorem dL_isWhole_80 : decode cL_isWhole 80 = .ok (.iload 7, 2) := by decide +kernel
theorem dL_isWhole_82 : decode cL_isWhole 82 = .ok (.iconst 1, 1) := by decide +kernel
theorem dL_isWhole_83 : decode cL_isWhole 83 = .ok (.isub, 1) := by decide +kernel
theorem dL_isWhole_84 : decode cL_isWhole 84 = .ok (.imul, 1) := by decide +kernel
theorem dL_isWhole_85 : decode cL_isWhole 85 = .ok (.if_icmp .gt 7, 3) := by decide +kernel
theorem dL_isWhole_88 : decode cL_isWhole 88 = .ok (.iconst 1, 1) := by decide +kernel
theorem dL_isWhole_89 : decode cL_isWhole 89 = .ok (.goto 4, 3) := by decide +kernel
theorem dL_isWhole_92 : decode cL_isWhole 92 = .ok (.iconst 0, 1) := by decide +kernel
theorem dL_isWhole_93 : decode cL_isWhole 93 = .ok (.istore 8, 2) := by decide +kernel
theorem dL_isWhole_95 : decode cL_isWhole 95 = .ok (.iload 8, 2) := by decide +kernel
theorem dL_isWhole_97 : decode cL_isWhole 97 = .ok (.ifCond .eq 54, 3) := by decide +kernel
theorem dL_isWhole_100 : decode cL_isWhole 100 = .ok (.aload_n 0, 1) := by decide +kernel
theorem dL_isWhole_101 : decode cL_isWhole 101 = .ok (.iload 4, 2) := by decide +kernel
theorem dL_isWhole_103 : decode cL_isWhole 103 = .ok (.invokestatic 287, 3) := by decide +kernel
theorem dL_isWhole_106 : decode cL_isWhole 106 = .ok (.iload 5, 2) := by decide +kernel
theorem dL_isWhole_108 : decode cL_isWhole 108 = .ok (.if_icmp .ne 43, 3) := by decide +kernel
theorem dL_isWhole_111 : decode cL_isWhole 111 = .ok (.iload 5, 2) := by decide +kernel
theorem dL_isWhole_113 : decode cL_isWhole 113 = .ok (.ifCond .ne 7, 3) := by decide +kernel
theorem dL_isWhole_116 : decode cL_isWhole 116 = .ok (.iconst 1, 1) := by decide +kernel
theorem dL_isWhole_117 : decode cL_isWhole 117 = .ok (.goto 4, 3) := by decide +kernel
theorem dL_isWhole_120 : decode cL_isWhole 120 = .ok (.iconst 0, 1) := by decide +kernel
theorem dL_isWhole_121 : decode cL_isWhole 121 = .ok (.iload 6, 2) := by decide +kernel
theorem dL_isWhole_123 : decode cL_isWhole 123 = .ok (.iconst 1, 1) := by decide +kernel
theorem dL_isWhole_124 : decode cL_isWhole 124 = .ok (.if_icmp .ne 7, 3) := by decide +kernel
theorem dL_isWhole_127 : decode cL_isWhole 127 = .ok (.iconst 1, 1) := by decide +kernel
theorem dL_isWhole_128 : decode cL_isWhole 128 = .ok (.goto 4, 3) := by decide +kernel
theorem dL_isWhole_131 : decode cL_isWhole 131 = .ok (.iconst 0, 1) := by decide +kernel
theorem dL_isWhole_132 : decode cL_isWhole 132 = .ok (.if_icmp .ne 19, 3) := by decide +kernel
theorem dL_isWhole_135 : decode cL_isWhole 135 = .ok (.aload_n 0, 1) := by decide +kernel
theorem dL_isWhole_136 : decode cL_isWhole 136 = .ok (.iload 4, 2) := by decide +kernel
theorem dL_isWhole_138 : decode cL_isWhole 138 = .ok (.invokestatic 255, 3) := by decide +kernel
theorem dL_isWhole_141 : decode cL_isWhole 141 = .ok (.iload 7, 2) := by decide +kernel
theorem dL_isWhole_143 : decode cL_isWhole 143 = .ok (.iconst 1, 1) := by decide +kernel
theorem dL_isWhole_144 : decode cL_isWhole 144 = .ok (.iadd, 1) := by decide +kernel
theorem dL_isWhole_145 : decode cL_isWhole 145 = .ok (.iload 6, 2) := by decide +kernel
theorem dL_isWhole_147 : decode cL_isWhole 147 = .ok (.isub, 1) := by decide +kernel
theorem dL_isWhole_148 : decode cL_isWhole 148 = .ok (.if_icmp .eq 5, 3) := by decide +kernel
theorem dL_isWhole_151 : decode cL_isWhole 151 = .ok (.iconst 0, 1) := by decide +kernel
theorem dL_isWhole_152 : decode cL_isWhole 152 = .ok (.ireturn, 1) := by decide +kernel
theorem dL_isWhole_153 : decode cL_isWhole 153 = .ok (.iload_n 3, 1) := by decide +kernel
theorem dL_isWhole_154 : decode cL_isWhole 154 = .ok (.iload 6, 2) := by decide +kernel
theorem dL_isWhole_156 : decode cL_isWhole 156 = .ok (.iadd, 1) := by decide +kernel
theorem dL_isWhole_157 : decode cL_isWhole 157 = .ok (.istore_n 3, 1) := by decide +kernel
theorem dL_isWhole_158 : decode cL_isWhole 158 = .ok (.iinc 4 1, 3) := by decide +kernel
theorem dL_isWhole_161 : decode cL_isWhole 161 = .ok (.goto (-132), 3) := by decide +kernel
theorem dL_isWhole_164 : decode cL_isWhole 164 = .ok (.iconst 0, 1) := by decide +kernel
theorem dL_isWhole_165 : decode cL_isWhole 165 = .ok (.istore 4, 2) := by decide +kernel
theorem dL_isWhole_167 : decode cL_isWhole 167 = .ok (.iconst 0, 1) := by decide +kernel
theorem dL_isWhole_168 : decode cL_isWhole 168 = .ok (.istore 5, 2) := by decide +kernel
theorem dL_isWhole_170 : decode cL_isWhole 170 = .ok (.iconst 0, 1) := by decide +kernel
theorem dL_isWhole_171 : decode cL_isWhole 171 = .ok (.istore 6, 2) := by decide +kernel
theorem dL_isWhole_173 : decode cL_isWhole 173 = .ok (.iload 6, 2) := by decide +kernel
theorem dL_isWhole_175 : decode cL_isWhole 175 = .ok (.aload_n 0, 1) := by decide +kernel
theorem dL_isWhole_176 : decode cL_isWhole 176 = .ok (.iconst 3, 1) := by decide +kernel
theorem dL_isWhole_177 : decode cL_isWhole 177 = .ok (.invokestatic 167, 3) := by decide +kernel
theorem dL_isWhole_180 : decode cL_isWhole 180 = .ok (.if_icmp .ge 33, 3) := by decide +kernel
theorem dL_isWhole_183 : decode cL_isWhole 183 = .ok (.iload 4, 2) := by decide +kernel
theorem dL_isWhole_185 : decode cL_isWhole 185 = .ok (.aload_n 0, 1) := by decide +kernel
theorem dL_isWhole_186 : decode cL_isWhole 186 = .ok (.iload 6, 2) := by decide +kernel
theorem dL_isWhole_188 : decode cL_isWhole 188 = .ok (.iconst 0, 1) := by decide +kernel
theorem dL_isWhole_189 : decode cL_isWhole 189 = .ok (.invokestatic 259, 3) := by decide +kernel
theorem dL_isWhole_192 : decode cL_isWhole 192 = .ok (.iadd, 1) := by decide +kernel
theorem dL_isWhole_193 : decode cL_isWhole 193 = .ok (.istore 4, 2) := by decide +kernel
theorem dL_isWhole_195 : decode cL_isWhole 195 = .ok (.iload 5, 2) := by decide +kernel
theorem dL_isWhole_197 : decode cL_isWhole 197 = .ok (.aload_n 0, 1) := by decide +kernel
theorem dL_isWhole_198 : decode cL_isWhole 198 = .ok (.iload 6, 2) := by decide +kernel
theorem dL_isWhole_200 : decode cL_isWhole 200 = .ok (.iconst 1, 1) := by decide +kernel
theorem dL_isWhole_201 : decode cL_isWhole 201 = .ok (.invokestatic 259, 3) := by decide +kernel
theorem dL_isWhole_204 : decode cL_isWhole 204 = .ok (.iadd, 1) := by decide +kernel
theorem dL_isWhole_205 : decode cL_isWhole 205 = .ok (.istore 5, 2) := by decide +kernel
theorem dL_isWhole_207 : decode cL_isWhole 207 = .ok (.iinc 6 1, 3) := by decide +kernel
theorem dL_isWhole_210 : decode cL_isWhole 210 = .ok (.goto (-37), 3) := by decide +kernel
theorem dL_isWhole_213 : decode cL_isWhole 213 = .ok (.aload_n 0, 1) := by decide +kernel
theorem dL_isWhole_214 : decode cL_isWhole 214 = .ok (.iconst 0, 1) := by decide +kernel
theorem dL_isWhole_215 : decode cL_isWhole 215 = .ok (.iconst 0, 1) := by decide +kernel
theorem dL_isWhole_216 : decode cL_isWhole 216 = .ok (.invokestatic 242, 3) := by decide +kernel
theorem dL_isWhole_219 : decode cL_isWhole 219 = .ok (.aload_n 0, 1) := by decide +kernel
theorem dL_isWhole_220 : decode cL_isWhole 220 = .ok (.iconst 1, 1) := by decide +kernel
theorem dL_isWhole_221 : decode cL_isWhole 221 = .ok (.iconst 0, 1) := by decide +kernel
theorem dL_isWhole_222 : decode cL_isWhole 222 = .ok (.invokestatic 242, 3) := by decide +kernel
theorem dL_isWhole_225 : decode cL_isWhole 225 = .ok (.iadd, 1) := by decide +kernel
theorem dL_isWhole_226 : decode cL_isWhole 226 = .ok (.aload_n 0, 1) := by decide +kernel
theorem dL_isWhole_227 : decode cL_isWhole 227 = .ok (.iconst 2, 1) := by decide +kernel
theorem dL_isWhole_228 : decode cL_isWhole 228 = .ok (.iconst 0, 1) := by decide +kernel
theorem dL_isWhole_229 : decode cL_isWhole 229 = .ok (.invokestatic 242, 3) := by decide +kernel
theorem dL_isWhole_232 : decode cL_isWhole 232 = .ok (.iadd, 1) := by decide +kernel
theorem dL_isWhole_233 : decode cL_isWhole 233 = .ok (.istore 6, 2) := by decide +kernel
theorem dL_isWhole_235 : decode cL_isWhole 235 = .ok (.aload_n 0, 1) := by decide +kernel
theorem dL_isWhole_236 : decode cL_isWhole 236 = .ok (.iconst 0, 1) := by decide +kernel
theorem dL_isWhole_237 : decode cL_isWhole 237 = .ok (.iconst 1, 1) := by decide +kernel
theorem dL_isWhole_238 : decode cL_isWhole 238 = .ok (.invokestatic 242, 3) := by decide +kernel
theorem dL_isWhole_241 : decode cL_isWhole 241 = .ok (.aload_n 0, 1) := by decide +kernel
theorem dL_isWhole_242 : decode cL_isWhole 242 = .ok (.iconst 1, 1) := by decide +kernel
theorem dL_isWhole_243 : decode cL_isWhole 243 = .ok (.iconst 1, 1) := by decide +kernel
theorem dL_isWhole_244 : decode cL_isWhole 244 = .ok (.invokestatic 242, 3) := by decide +kernel
theorem dL_isWhole_247 : decode cL_isWhole 247 = .ok (.iadd, 1) := by decide +kernel
theorem dL_isWhole_248 : decode cL_isWhole 248 = .ok (.aload_n 0, 1) := by decide +kernel
theorem dL_isWhole_249 : decode cL_isWhole 249 = .ok (.iconst 2, 1) := by decide +kernel
theorem dL_isWhole_250 : decode cL_isWhole 250 = .ok (.iconst 1, 1) := by decide +kernel
theorem dL_isWhole_251 : decode cL_isWhole 251 = .ok (.invokestatic 242, 3) := by decide +kernel
theorem dL_isWhole_254 : decode cL_isWhole 254 = .ok (.iadd, 1) := by decide +kernel
theorem dL_isWhole_255 : decode cL_isWhole 255 = .ok (.istore 7, 2) := by decide +kernel
theorem dL_isWhole_257 : decode cL_isWhole 257 = .ok (.aload_n 0, 1) := by decide +kernel
theorem dL_isWhole_258 : decode cL_isWhole 258 = .ok (.iconst 0, 1) := by decide +kernel
theorem dL_isWhole_259 : decode cL_isWhole 259 = .ok (.invokestatic 173, 3) := by decide +kernel
theorem dL_isWhole_262 : decode cL_isWhole 262 = .ok (.aload_n 0, 1) := by decide +kernel
theorem dL_isWhole_263 : decode cL_isWhole 263 = .ok (.iconst 1, 1) := by decide +kernel
theorem dL_isWhole_264 : decode cL_isWhole 264 = .ok (.invokestatic 173, 3) := by decide +kernel
theorem dL_isWhole_267 : decode cL_isWhole 267 = .ok (.iadd, 1) := by decide +kernel
theorem dL_isWhole_268 : decode cL_isWhole 268 = .ok (.aload_n 0, 1) := by decide +kernel
theorem dL_isWhole_269 : decode cL_isWhole 269 = .ok (.iconst 2, 1) := by decide +kernel
theorem dL_isWhole_270 : decode cL_isWhole 270 = .ok (.invokestatic 173, 3) := by decide +kernel
theorem dL_isWhole_273 : decode cL_isWhole 273 = .ok (.iadd, 1) := by decide +kernel
theorem dL_isWhole_274 : decode cL_isWhole 274 = .ok (.istore 8, 2) := by decide +kernel
theorem dL_isWhole_276 : decode cL_isWhole 276 = .ok (.aload_n 0, 1) := by decide +kernel
theorem dL_isWhole_277 : decode cL_isWhole 277 = .ok (.iconst 0, 1) := by decide +kernel
theorem dL_isWhole_278 : decode cL_isWhole 278 = .ok (.invokestatic 167, 3) := by decide +kernel
theorem dL_isWhole_281 : decode cL_isWhole 281 = .ok (.iload 6, 2) := by decide +kernel
theorem dL_isWhole_283 : decode cL_isWhole 283 = .ok (.if_icmp .ne 121, 3) := by decide +kernel
theorem dL_isWhole_286 : decode cL_isWhole 286 = .ok (.aload_n 0, 1) := by decide +kernel
theorem dL_isWhole_287 : decode cL_isWhole 287 = .ok (.iconst 1, 1) := by decide +kernel
theorem dL_isWhole_288 : decode cL_isWhole 288 = .ok (.invokestatic 167, 3) := by decide +kernel
theorem dL_isWhole_291 : decode cL_isWhole 291 = .ok (.iload 8, 2) := by decide +kernel
theorem dL_isWhole_293 : decode cL_isWhole 293 = .ok (.if_icmp .ne 111, 3) := by decide +kernel
theorem dL_isWhole_296 : decode cL_isWhole 296 = .ok (.aload_n 0, 1) := by decide +kernel
theorem dL_isWhole_297 : decode cL_isWhole 297 = .ok (.iconst 2, 1) := by decide +kernel
theorem dL_isWhole_298 : decode cL_isWhole 298 = .ok (.invokestatic 167, 3) := by decide +kernel
theorem dL_isWhole_301 : decode cL_isWhole 301 = .ok (.aload_n 0, 1) := by decide +kernel
theorem dL_isWhole_302 : decode cL_isWhole 302 = .ok (.iconst 0, 1) := by decide +kernel
theorem dL_isWhole_303 : decode cL_isWhole 303 = .ok (.iconst 2, 1) := by decide +kernel
theorem dL_isWhole_304 : decode cL_isWhole 304 = .ok (.invokestatic 242, 3) := by decide +kernel
theorem dL_isWhole_307 : decode cL_isWhole 307 = .ok (.aload_n 0, 1) := by decide +kernel
theorem dL_isWhole_308 : decode cL_isWhole 308 = .ok (.iconst 1, 1) := by decide +kernel
theorem dL_isWhole_309 : decode cL_isWhole 309 = .ok (.iconst 2, 1) := by decide +kernel
theorem dL_isWhole_310 : decode cL_isWhole 310 = .ok (.invokestatic 242, 3) := by decide +kernel
theorem dL_isWhole_313 : decode cL_isWhole 313 = .ok (.iadd, 1) := by decide +kernel
theorem dL_isWhole_314 : decode cL_isWhole 314 = .ok (.aload_n 0, 1) := by decide +kernel
theorem dL_isWhole_315 : decode cL_isWhole 315 = .ok (.iconst 2, 1) := by decide +kernel
theorem dL_isWhole_316 : decode cL_isWhole 316 = .ok (.iconst 2, 1) := by decide +kernel
theorem dL_isWhole_317 : decode cL_isWhole 317 = .ok (.invokestatic 242, 3) := by decide +kernel
theorem dL_isWhole_320 : decode cL_isWhole 320 = .ok (.iadd, 1) := by decide +kernel
theorem dL_isWhole_321 : decode cL_isWhole 321 = .ok (.if_icmp .ne 83, 3) := by decide +kernel
theorem dL_isWhole_324 : decode cL_isWhole 324 = .ok (.aload_n 0, 1) := by decide +kernel
theorem dL_isWhole_325 : decode cL_isWhole 325 = .ok (.iconst 2, 1) := by decide +kernel
theorem dL_isWhole_326 : decode cL_isWhole 326 = .ok (.invokestatic 167, 3) := by decide +kernel
theorem dL_isWhole_329 : decode cL_isWhole 329 = .ok (.aload_n 0, 1) := by decide +kernel
theorem dL_isWhole_330 : decode cL_isWhole 330 = .ok (.bipush 8, 2) := by decide +kernel
theorem dL_isWhole_332 : decode cL_isWhole 332 = .ok (.invokestatic 167, 3) := by decide +kernel
theorem dL_isWhole_335 : decode cL_isWhole 335 = .ok (.aload_n 0, 1) := by decide +kernel
theorem dL_isWhole_336 : decode cL_isWhole 336 = .ok (.bipush 9, 2) := by decide +kernel
theorem dL_isWhole_338 : decode cL_isWhole 338 = .ok (.invokestatic 167, 3) := by decide +kernel
theorem dL_isWhole_341 : decode cL_isWhole 341 = .ok (.isub, 1) := by decide +kernel
theorem dL_isWhole_342 : decode cL_isWhole 342 = .ok (.if_icmp .ne 62, 3) := by decide +kernel
theorem dL_isWhole_345 : decode cL_isWhole 345 = .ok (.aload_n 0, 1) := by decide +kernel
theorem dL_isWhole_346 : decode cL_isWhole 346 = .ok (.iconst 4, 1) := by decide +kernel
theorem dL_isWhole_347 : decode cL_isWhole 347 = .ok (.invokestatic 167, 3) := by decide +kernel
theorem dL_isWhole_350 : decode cL_isWhole 350 = .ok (.iload 4, 2) := by decide +kernel
theorem dL_isWhole_352 : decode cL_isWhole 352 = .ok (.if_icmp .ne 52, 3) := by decide +kernel
theorem dL_isWhole_355 : decode cL_isWhole 355 = .ok (.aload_n 0, 1) := by decide +kernel
theorem dL_isWhole_356 : decode cL_isWhole 356 = .ok (.bipush 9, 2) := by decide +kernel
theorem dL_isWhole_358 : decode cL_isWhole 358 = .ok (.invokestatic 167, 3) := by decide +kernel
theorem dL_isWhole_361 : decode cL_isWhole 361 = .ok (.iload 5, 2) := by decide +kernel
theorem dL_isWhole_363 : decode cL_isWhole 363 = .ok (.if_icmp .ne 41, 3) := by decide +kernel
theorem dL_isWhole_366 : decode cL_isWhole 366 = .ok (.aload_n 0, 1) := by decide +kernel
theorem dL_isWhole_367 : decode cL_isWhole 367 = .ok (.bipush 10, 2) := by decide +kernel
theorem dL_isWhole_369 : decode cL_isWhole 369 = .ok (.invokestatic 167, 3) := by decide +kernel
theorem dL_isWhole_372 : decode cL_isWhole 372 = .ok (.iload 5, 2) := by decide +kernel
theorem dL_isWhole_374 : decode cL_isWhole 374 = .ok (.if_icmp .lt 30, 3) := by decide +kernel
theorem dL_isWhole_377 : decode cL_isWhole 377 = .ok (.aload_n 0, 1) := by decide +kernel
theorem dL_isWhole_378 : decode cL_isWhole 378 = .ok (.bipush 10, 2) := by decide +kernel
theorem dL_isWhole_380 : decode cL_isWhole 380 = .ok (.invokestatic 167, 3) := by decide +kernel
theorem dL_isWhole_383 : decode cL_isWhole 383 = .ok (.iconst 2, 1) := by decide +kernel
theorem dL_isWhole_384 : decode cL_isWhole 384 = .ok (.iload 5, 2) := by decide +kernel
theorem dL_isWhole_386 : decode cL_isWhole 386 = .ok (.imul, 1) := by decide +kernel
theorem dL_isWhole_387 : decode cL_isWhole 387 = .ok (.if_icmp .gt 17, 3) := by decide +kernel
theorem dL_isWhole_390 : decode cL_isWhole 390 = .ok (.aload_n 0, 1) := by decide +kernel
theorem dL_isWhole_391 : decode cL_isWhole 391 = .ok (.bipush 6, 2) := by decide +kernel
theorem dL_isWhole_393 : decode cL_isWhole 393 = .ok (.invokestatic 167, 3) := by decide +kernel
theorem dL_isWhole_396 : decode cL_isWhole 396 = .ok (.iload_n 3, 1) := by decide +kernel
theorem dL_isWhole_397 : decode cL_isWhole 397 = .ok (.if_icmp .ne 7, 3) := by decide +kernel
theorem dL_isWhole_400 : decode cL_isWhole 400 = .ok (.iconst 1, 1) := by decide +kernel
theorem dL_isWhole_401 : decode cL_isWhole 401 = .ok (.goto 4, 3) := by decide +kernel
theorem dL_isWhole_404 : decode cL_isWhole 404 = .ok (.iconst 0, 1) := by decide +kernel
theorem dL_isWhole_405 : decode cL_isWhole 405 = .ok (.istore 9, 2) := by decide +kernel
theorem dL_isWhole_407 : decode cL_isWhole 407 = .ok (.aload_n 0, 1) := by decide +kernel
theorem dL_isWhole_408 : decode cL_isWhole 408 = .ok (.invokestatic 289, 3) := by decide +kernel
theorem dL_isWhole_411 : decode cL_isWhole 411 = .ok (.iload 8, 2) := by decide +kernel
theorem dL_isWhole_413 : decode cL_isWhole 413 = .ok (.ifCond .ne 9, 3) := by decide +kernel
theorem dL_isWhole_416 : decode cL_isWhole 416 = .ok (.ldc2_w 126, 3) := by decide +kernel
theorem dL_isWhole_419 : decode cL_isWhole 419 = .ok (.goto 10, 3) := by decide +kernel
theorem dL_isWhole_422 : decode cL_isWhole 422 = .ok (.iload 6, 2) := by decide +kernel
theorem dL_isWhole_424 : decode cL_isWhole 424 = .ok (.i2d, 1) := by decide +kernel
theorem dL_isWhole_425 : decode cL_isWhole 425 = .ok (.iload 8, 2) := by decide +kernel
theorem dL_isWhole_427 : decode cL_isWhole 427 = .ok (.i2d, 1) := by decide +kernel
theorem dL_isWhole_428 : decode cL_isWhole 428 = .ok (.ddiv, 1) := by decide +kernel
theorem dL_isWhole_429 : decode cL_isWhole 429 = .ok (.dcmp .l, 1) := by decide +kernel
theorem dL_isWhole_430 : decode cL_isWhole 430 = .ok (.ifCond .ne 32, 3) := by decide +kernel
theorem dL_isWhole_433 : decode cL_isWhole 433 = .ok (.aload_n 0, 1) := by decide +kernel
theorem dL_isWhole_434 : decode cL_isWhole 434 = .ok (.invokestatic 292, 3) := by decide +kernel
theorem dL_isWhole_437 : decode cL_isWhole 437 = .ok (.iload 6, 2) := by decide +kernel
theorem dL_isWhole_439 : decode cL_isWhole 439 = .ok (.ifCond .ne 8, 3) := by decide +kernel
theorem dL_isWhole_442 : decode cL_isWhole 442 = .ok (.ldc 132, 2) := by decide +kernel
theorem dL_isWhole_444 : decode cL_isWhole 444 = .ok (.goto 10, 3) := by decide +kernel
theorem dL_isWhole_447 : decode cL_isWhole 447 = .ok (.iload 7, 2) := by decide +kernel
theorem dL_isWhole_449 : decode cL_isWhole 449 = .ok (.i2f, 1) := by decide +kernel
theorem dL_isWhole_450 : decode cL_isWhole 450 = .ok (.iload 6, 2) := by decide +kernel
theorem dL_isWhole_452 : decode cL_isWhole 452 = .ok (.i2f, 1) := by decide +kernel
theorem dL_isWhole_453 : decode cL_isWhole 453 = .ok (.fdiv, 1) := by decide +kernel
theorem dL_isWhole_454 : decode cL_isWhole 454 = .ok (.fcmp .l, 1) := by decide +kernel
theorem dL_isWhole_455 : decode cL_isWhole 455 = .ok (.ifCond .ne 7, 3) := by decide +kernel
theorem dL_isWhole_458 : decode cL_isWhole 458 = .ok (.iconst 1, 1) := by decide +kernel
theorem dL_isWhole_459 : decode cL_isWhole 459 = .ok (.goto 4, 3) := by decide +kernel
theorem dL_isWhole_462 : decode cL_isWhole 462 = .ok (.iconst 0, 1) := by decide +kernel
theorem dL_isWhole_463 : decode cL_isWhole 463 = .ok (.istore 10, 2) := by decide +kernel
theorem dL_isWhole_465 : decode cL_isWhole 465 = .ok (.iload 9, 2) := by decide +kernel
theorem dL_isWhole_467 : decode cL_isWhole 467 = .ok (.ifCond .eq 19, 3) := by decide +kernel
theorem dL_isWhole_470 : decode cL_isWhole 470 = .ok (.iload 10, 2) := by decide +kernel
theorem dL_isWhole_472 : decode cL_isWhole 472 = .ok (.ifCond .eq 14, 3) := by decide +kernel
theorem dL_isWhole_475 : decode cL_isWhole 475 = .ok (.aload_n 0, 1) := by decide +kernel
theorem dL_isWhole_476 : decode cL_isWhole 476 = .ok (.invokevirtual 295, 3) := by decide +kernel
theorem dL_isWhole_479 : decode cL_isWhole 479 = .ok (.ifCond .eq 7, 3) := by decide +kernel
theorem dL_isWhole_482 : decode cL_isWhole 482 = .ok (.iconst 1, 1) := by decide +kernel
theorem dL_isWhole_483 : decode cL_isWhole 483 = .ok (.goto 4, 3) := by decide +kernel
theorem dL_isWhole_486 : decode cL_isWhole 486 = .ok (.iconst 0, 1) := by decide +kernel
theorem dL_isWhole_487 : decode cL_isWhole 487 = .ok (.ireturn, 1) := by decide +kernel
theorem dL_isKept_0 : decode cL_isKept 0 = .ok (.aload_n 0, 1) := by decide +kernel
theorem dL_isKept_1 : decode cL_isKept 1 = .ok (.iconst 5, 1) := by decide +kernel
theorem dL_isKept_2 : decode cL_isKept 2 = .ok (.invokestatic 167, 3) := by decide +kernel
theorem dL_isKept_5 : decode cL_isKept 5 = .ok (.istore_n 3, 1) := by decide +kernel
theorem dL_isKept_6 : decode cL_isKept 6 = .ok (.aload_n 0, 1) := by decide +kernel
theorem dL_isKept_7 : decode cL_isKept 7 = .ok (.invokevirtual 299, 3) := by decide +kernel
theorem dL_isKept_10 : decode cL_isKept 10 = .ok (.iload_n 3, 1) := by decide +kernel
theorem dL_isKept_11 : decode cL_isKept 11 = .ok (.if_icmp .ne 18, 3) := by decide +kernel
theorem dL_isKept_14 : decode cL_isKept 14 = .ok (.aload_n 0, 1) := by decide +kernel
theorem dL_isKept_15 : decode cL_isKept 15 = .ok (.bipush 12, 2) := by decide +kernel
theorem dL_isKept_17 : decode cL_isKept 17 = .ok (.invokestatic 167, 3) := by decide +kernel
theorem dL_isKept_20 : decode cL_isKept 20 = .ok (.bipush 8, 2) := by decide +kernel
theorem dL_isKept_22 : decode cL_isKept 22 = .ok (.iload_n 2, 1) := by decide +kernel
theorem dL_isKept_23 : decode cL_isKept 23 = .ok (.invokestatic 261, 3) := by decide +kernel
theorem dL_isKept_26 : decode cL_isKept 26 = .ok (.if_icmp .eq 5, 3) := by decide +kernel
theorem dL_isKept_29 : decode cL_isKept 29 = .ok (.iconst 0, 1) := by decide +kernel
theorem dL_isKept_30 : decode cL_isKept 30 = .ok (.ireturn, 1) := by decide +kernel
theorem dL_isKept_31 : decode cL_isKept 31 = .ok (.bipush 8, 2) := by decide +kernel
theorem dL_isKept_33 : decode cL_isKept 33 = .ok (.iload_n 2, 1) := by decide +kernel
theorem dL_isKept_34 : decode cL_isKept 34 = .ok (.invokestatic 261, 3) := by decide +kernel
theorem dL_isKept_37 : decode cL_isKept 37 = .ok (.istore 4, 2) := by decide +kernel
theorem dL_isKept_39 : decode cL_isKept 39 = .ok (.iload_n 2, 1) := by decide +kernel
theorem dL_isKept_40 : decode cL_isKept 40 = .ok (.iconst 1, 1) := by decide +kernel
theorem dL_isKept_41 : decode cL_isKept 41 = .ok (.isub, 1) := by decide +kernel
theorem dL_isKept_42 : decode cL_isKept 42 = .ok (.istore 5, 2) := by decide +kernel
theorem dL_isKept_44 : decode cL_isKept 44 = .ok (.iload 4, 2) := by decide +kernel
theorem dL_isKept_46 : decode cL_isKept 46 = .ok (.ifCond .le 35, 3) := by decide +kernel
theorem dL_isKept_49 : decode cL_isKept 49 = .ok (.iinc 4 (-1), 3) := by decide +kernel
theorem dL_isKept_52 : decode cL_isKept 52 = .ok (.aload_n 0, 1) := by decide +kernel
theorem dL_isKept_53 : decode cL_isKept 53 = .ok (.invokestatic 302, 3) := by decide +kernel
theorem dL_isKept_56 : decode cL_isKept 56 = .ok (.iload 4, 2) := by decide +kernel
theorem dL_isKept_58 : decode cL_isKept 58 = .ok (.if_icmp .ne 15, 3) := by decide +kernel
theorem dL_isKept_61 : decode cL_isKept 61 = .ok (.aload_n 0, 1) := by decide +kernel
theorem dL_isKept_62 : decode cL_isKept 62 = .ok (.invokestatic 163, 3) := by decide +kernel
theorem dL_isKept_65 : decode cL_isKept 65 = .ok (.aload_n 1, 1) := by decide +kernel
theorem dL_isKept_66 : decode cL_isKept 66 = .ok (.iload 5, 2) := by decide +kernel
theorem dL_isKept_68 : decode cL_isKept 68 = .ok (.laload, 1) := by decide +kernel
theorem dL_isKept_69 : decode cL_isKept 69 = .ok (.lcmp, 1) := by decide +kernel
theorem dL_isKept_70 : decode cL_isKept 70 = .ok (.ifCond .eq 5, 3) := by decide +kernel
theorem dL_isKept_73 : decode cL_isKept 73 = .ok (.iconst 0, 1) := by decide +kernel
theorem dL_isKept_74 : decode cL_isKept 74 = .ok (.ireturn, 1) := by decide +kernel
theorem dL_isKept_75 : decode cL_isKept 75 = .ok (.iinc 5 (-1), 3) := by decide +kernel
theorem dL_isKept_78 : decode cL_isKept 78 = .ok (.goto (-34), 3) := by decide +kernel
theorem dL_isKept_81 : decode cL_isKept 81 = .ok (.aload_n 0, 1) := by decide +kernel
theorem dL_isKept_82 : decode cL_isKept 82 = .ok (.invokestatic 302, 3) := by decide +kernel
theorem dL_isKept_85 : decode cL_isKept 85 = .ok (.bipush (-79), 2) := by decide +kernel
theorem dL_isKept_87 : decode cL_isKept 87 = .ok (.if_icmp .ne 35, 3) := by decide +kernel
theorem dL_isKept_90 : decode cL_isKept 90 = .ok (.aload_n 0, 1) := by decide +kernel
theorem dL_isKept_91 : decode cL_isKept 91 = .ok (.invokestatic 304, 3) := by decide +kernel
theorem dL_isKept_94 : decode cL_isKept 94 = .ok (.iload_n 3, 1) := by decide +kernel
theorem dL_isKept_95 : decode cL_isKept 95 = .ok (.if_icmp .ne 27, 3) := by decide +kernel
theorem dL_isKept_98 : decode cL_isKept 98 = .ok (.aload_n 0, 1) := by decide +kernel
theorem dL_isKept_99 : decode cL_isKept 99 = .ok (.invokestatic 163, 3) := by decide +kernel
theorem dL_isKept_102 : decode cL_isKept 102 = .ok (.aload_n 1, 1) := by decide +kernel
theorem dL_isKept_103 : decode cL_isKept 103 = .ok (.iload_n 2, 1) := by decide +kernel
theorem dL_isKept_104 : decode cL_isKept 104 = .ok (.laload, 1) := by decide +kernel
theorem dL_isKept_105 : decode cL_isKept 105 = .ok (.lcmp, 1) := by decide +kernel
theorem dL_isKept_106 : decode cL_isKept 106 = .ok (.ifCond .ne 16, 3) := by decide +kernel
theorem dL_isKept_109 : decode cL_isKept 109 = .ok (.aload_n 0, 1) := by decide +kernel
theorem dL_isKept_110 : decode cL_isKept 110 = .ok (.invokestatic 302, 3) := by decide +kernel
theorem dL_isKept_113 : decode cL_isKept 113 = .ok (.bipush (-79), 2) := by decide +kernel
theorem dL_isKept_115 : decode cL_isKept 115 = .ok (.if_icmp .ne 7, 3) := by decide +kernel
theorem dL_isKept_118 : decode cL_isKept 118 = .ok (.iconst 1, 1) := by decide +kernel
theorem dL_isKept_119 : decode cL_isKept 119 = .ok (.goto 4, 3) := by decide +kernel
theorem dL_isKept_122 : decode cL_isKept 122 = .ok (.iconst 0, 1) := by decide +kernel
theorem dL_isKept_123 : decode cL_isKept 123 = .ok (.ireturn, 1) := by decide +kernel
end
section
/-! ===== BEGIN words of one list among another's, by their places ===== -/
theorem goodIn_r {big : List Cond} (ws : List Cond) (ps : List Nat) (hp : ws = ps.filterMap (fun i => big[i]?)) (h : ws.all goodWord = true) : GoodIn big ws := by
  intro w hw
  have h1 := List.all_eq_true.mp h w hw
  rw [hp] at hw
  obtain ⟨i, -, hi⟩ := List.mem_filterMap.mp hw
  have hm : w ∈ big := by first | exact List.mem_of_getElem? hi | exact List.getElem?_mem hi
  exact ⟨hm, good_of_word h1⟩
theorem goodIn_app {big a b : List Cond} (ha : GoodIn big a) (hb : GoodIn big b) : GoodIn big (a ++ b) := fun w h => (List.mem_append.mp h).elim (ha w) (hb w)
theorem goodIn_ca {big a b : List Cond} {c : Cond} (ha : GoodIn big (c :: a)) (hb : GoodIn big b) : GoodIn big (c :: (a ++ b)) := fun w h => (List.mem_cons.mp h).elim (fun e => ha w (List.mem_cons.mpr (Or.inl e))) (fun h => (List.mem_append.mp h).elim (fun h => ha w (List.mem_cons.mpr (Or.inr h))) (hb w))
theorem goodIn_sub {big ws : List Cond} (hm : ∀ w ∈ ws, w ∈ big) (h : ws.all goodWord = true) : GoodIn big ws := fun w hw => ⟨hm w hw, good_of_word (List.all_eq_true.mp h w hw)⟩
/-! ===== END ===== -/
/-! ===== BEGIN exceptions that leave a method, and their catching by the caller (launches without stack traces) ===== -/
section VXA
/-! The laws vx_back, vx_callV, vx_callS, vx_callSW, vx_throw0, vx_throwS follow proofs of the library, with one case more: JvmDerived/Free/Laws.lean (Back.of_free), Shelf42/LK1.lean (callV, callS), Shelf/KitTraced.lean (throwNew0V, throwNewS). -/
/-- where a method has thrown q: the class by its name, the cell, what was written, the world -/
def vx_T (XC : String → State → State → Prop) (st : State) (q : Addr) (t : State) (mc ms : Nat) (free : Addr → Prop) : Prop :=
  ∃ (E : String) (ce : Cell) (L : List Loc), XC E st t ∧ t.heap[q]? = some ce ∧ ce.vm = .none ∧ st.vm.findClass E = some ce.cls ∧ st.WarmedH t.vm ∧ st.sameButNew ({ t with vm := st.vm } : State) L mc ms ∧ ∀ z ∈ L, free z.base
def vx_Q (Qc : Array Value → State → Outcome → State → Prop) (XC : String → State → State → Prop) (mc ms : Nat) (free : Addr → Prop) : Array Value → State → Outcome → State → Prop := fun a st o t =>
  (Qc a st o t ∧ ∃ L, FrameEnd st o t L mc ms ∧ ∀ q ∈ L, free q.base) ∨ ∃ q, o = .threw q ∧ vx_T XC st q t mc ms free
/-- a callee that returns or throws -/
def vx_Met (l : Launch) (y : MethodName) (ws : List Cond) (rm : Room) (Pc : Array Value → State → Prop) (Qc : Array Value → State → Outcome → State → Prop) (XC : String → State → State → Prop) (mc ms : Nat) (free : Addr → Prop) : Prop :=
  MetFree l y (headSpec ws rm) Pc (fun _ _ _ _ _ => True) (vx_Q Qc XC mc ms free)
def vx_Post (XC : String → State → State → Prop) (mc ms : Nat) (free : Addr → Prop) : Pt → Array Value → Addr → Pt → Prop := fun A a q B =>
  ∃ (g : JFrame) (mk : MethodId) (t : State) (L : List Loc) (E : String) (ce : Cell), B.U.heap = t.heap ∧ B.U.vm = t.vm ∧ XC E (A.U.calling g mk a) t ∧ t.heap[q]? = some ce ∧ ce.vm = .none ∧ A.U.vm.findClass E = some ce.cls ∧ B.locs = A.locs ++ L ∧ (∀ z ∈ L, free z.base) ∧ B.cells = A.cells + mc ∧ B.slots = A.slots + ms
def vx_Back (l : Launch) (R : Room) (p : Program) (e : Env) (below : List Frame) (s : State) (sargs : Array Value) (y : MethodName) (len W9 : Nat)
    (Pre : Pt → Array Value → Prop) (Post : Pt → Array Value → Option Value → Pt → Prop) (PostX : Pt → Array Value → Addr → Pt → Prop) : Prop :=
  ∀ (m : MethodId) (meth : Method) (c : Code) (A : Pt) (g : JFrame) (ig : Instr) (mk : MethodId) (a : Array Value),
    Stand p l e R s m sargs below meth c A.U A.locs A.cells A.slots → g.method = m → g.locals.size = c.maxLocals → decode c.code g.pc = .ok (ig, len) →
    2 * g.monitorRoom + (g.stack.map fun v => v.category).sum ≤ W9 → A.U.methodNamed? y = some mk → Pre A a →
    (∃ (v : Option Value) (B : Pt), Stand p l e R s m sargs below meth c B.U B.locs B.cells B.slots ∧ Post A a v B ∧
      Steps p.tables e below (doInvoke e (A.U.setTop g) [] mk a).1 (B.U.setTop { g with pc := g.pc + len, stack := v.toList ++ g.stack })) ∨
    (∃ (q : Addr) (B : Pt), Stand p l e R s m sargs below meth c B.U B.locs B.cells B.slots ∧ PostX A a q B ∧
      Steps p.tables e below (doInvoke e (A.U.setTop g) [] mk a).1 ((B.U.setTop g).pushFrame (.throwing q)))
section Payer
variable {l : Launch} {R : Room} {p : Program} {e : Env} {below : List Frame} {s : State} {sargs : Array Value} {y : MethodName} {len W9 : Nat}
theorem vx_back {ws : List Cond} {rm : Room} {Pc : Array Value → State → Prop} {Qc : Array Value → State → Outcome → State → Prop} {XC : String → State → State → Prop} {mc ms : Nat} {free : Addr → Prop} {bytes : ByteArray} {maxL : Nat} {ret : Option FieldType}
    (hM : vx_Met l y ws rm Pc Qc XC mc ms free) (hblind : FrameBlind Pc) (hrc : rm.cells = mc) (hrs : rm.slots = ms)
    (hframes : rm.frames + 1 ≤ R.frames) (hlocals : W9 + (maxL + 11) + rm.locals ≤ R.locals)
    (hws : ∀ w ∈ ws, ∀ a' U, s.WarmedH U.vm → w.before a' U = true) (hcode : Cond.code y bytes maxL ret ∈ ws) (hinit : ∀ a' U, s.WarmedH U.vm → (Cond.initialized y.cls).before a' U = true) :
    vx_Back l R p e below s sargs y len W9 (PreOf R mc ms Pc) (PostOf Qc mc ms free) (vx_Post XC mc ms free) := by
  intro m meth c A g ig mk a X hg hsize hdg hW hn hp
  have h1 : (headSpec ws rm).pre.before a A.U = true := atoms_intro fun w hw => hws w hw _ _ X.warmed
  have h2 : (Cond.code y bytes maxL ret).before a A.U = true := hws _ hcode _ _ X.warmed
  have h3 : (Cond.initialized y.cls).before a A.U = true := hinit _ _ X.warmed
  have h4 : A.cells + (headSpec ws rm).room.cells ≤ R.cells := by rw [show (headSpec ws rm).room.cells = mc from hrc]; exact hp.1
  have h5 : A.slots + (headSpec ws rm).room.slots ≤ R.slots := by rw [show (headSpec ws rm).room.slots = ms from hrs]; exact hp.2.1
  have hPc : Pc a (A.U.calling g mk a) := hblind _ _ _ _ hp.2.2
  obtain ⟨U, Ls, c0, s0⟩ := A
  dsimp only [Pt.U, Pt.locs, Pt.cells, Pt.slots] at h1 h2 h3 h4 h5 X hn hPc ⊢
  obtain ⟨methY, cY, hmY, hcY, -, hlY, -, -, -, -⟩ := Cond.code_spec hn h2
  obtain ⟨kY, hkY, -⟩ := className_of_methodNamed hn
  have hinitY : kY.init = .initialized := Cond.initialized_spec (findClass_of_methodNamed hn) hkY h3
  have h : At U g.method c below := by rw [hg]; exact X.here
  have hlocals9 : W9 + (maxL + 11) + (headSpec ws rm).room.locals ≤ R.locals := hlocals
  have happ : (headSpec ws rm).appliesLoose y e.platform (U.calling g mk a) = true :=
    Spec.appliesLoose_calling (g := g) h hdg hn hkY hinitY
      (X.room_calling (g := g) (R' := (headSpec ws rm).room) hsize hmY hcY hframes (by rw [hlY]; omega) h4 h5) h1
  obtain ⟨mid, hmid⟩ := h.above
  have hfr : (U.setTop g).frames = (.java g :: mid) ++ below := by rw [State.frames_setTop' g h.top, hmid]; rfl
  obtain ⟨o, s₂, hsteps, -, hend, hq⟩ := Steps.callFree hM p X.admits X.cas X.clock (acts := []) hfr happ hPc trivial
  have hq' : vx_Q Qc XC mc ms free a (U.calling g mk a) o s₂ := hq
  rw [State.frames_setTop' g h.top] at hend
  obtain ⟨g₀, hg0⟩ := Option.isSome_iff_exists.mp h.top
  obtain ⟨r, hr⟩ := State.topJava?_eq_some.mp hg0
  have hr' : (({ U with heap := s₂.heap, slotsUsed := s₂.slotsUsed } : State).setVm s₂.vm).frames = .java g₀ :: r := hr
  rcases hq' with ⟨hqc, L, hfe, hL⟩ | ⟨q, rfl, E, ce, L, hx, hce, hcv, hcl, hW₂, hsm, hL⟩
  · obtain ⟨⟨v, rfl⟩, hW₂, e2, q2, q3, q4, q5, q6⟩ := id hfe
    have e3 : s₂ = ({ (U.calling g mk a).setFrames s₂.frames with heap := s₂.heap, slotsUsed := s₂.slotsUsed } : State).setVm s₂.vm := by
      have : s₂ = ({ s₂ with vm := (U.calling g mk a).vm } : State).setVm s₂.vm := rfl
      rw [e2] at this
      exact this
    obtain ⟨c₂, i₂, len₂, hc₂, hd₂, hf₂⟩ := hend
    have hW' : U.WarmedH s₂.vm := hW₂
    have hcc : c₂ = c := by
      have h1 : s₂.code? g.method = U.code? g.method := by
        rw [State.code?_eq, State.code?_eq, hW'.alike.method?]
      exact Option.some.inj (hc₂.symm.trans (h1.trans h.code))
    subst hcc
    have hlen : len₂ = len := by rw [hdg] at hd₂; cases hd₂; rfl
    subst hlen
    have hs₂ : s₂ = (({ U with heap := s₂.heap, slotsUsed := s₂.slotsUsed } : State).setVm s₂.vm).setTop { g with pc := g.pc + len₂, stack := v.toList ++ g.stack } := by
      refine e3.trans ?_
      rw [hf₂, State.calling_eq h.top, State.setFrames_setFrames, State.setTop_of_frames _ hr', hr]
      rfl
    have hsame : U.sameButNew ({ U with heap := s₂.heap, slotsUsed := s₂.slotsUsed } : State) L mc ms := by
      refine ⟨?_, q2, q3, q4, q5, q6⟩
      obtain ⟨t, ht, -⟩ := State.frames_cons hr
      show ({ U with heap := s₂.heap, slotsUsed := s₂.slotsUsed } : State) = { U.setFrames U.frames with heap := s₂.heap, slotsUsed := s₂.slotsUsed }
      rw [State.setFrames_self ht]
    subst hg
    refine Or.inl ⟨v, ⟨(({ U with heap := s₂.heap, slotsUsed := s₂.slotsUsed } : State).setVm s₂.vm), Ls ++ L, c0 + mc, s0 + ms⟩,
      ⟨X.admits, X.cas, X.clock, X.frames, X.room, X.hears, X.method, X.code, (X.here.setHeapUsed s₂.heap s₂.slotsUsed).setVm hW'.alike, X.tail, State.WarmedH.trans X.warmed hW', X.limits, X.bytes, X.same.trans (hsame.setVm s.vm)⟩,
      ⟨g, mk, s₂, L, rfl, rfl, hqc, rfl, hL, rfl, rfl⟩, ?_⟩
    show Steps p.tables e below _ ((({ U with heap := s₂.heap, slotsUsed := s₂.slotsUsed } : State).setVm s₂.vm).setTop { g with pc := g.pc + len₂, stack := v.toList ++ g.stack })
    rw [← hs₂]
    exact hsteps
  · obtain ⟨e2, q2, q3, q4, q5, q6⟩ := id hsm
    have e3 : s₂ = ({ (U.calling g mk a).setFrames s₂.frames with heap := s₂.heap, slotsUsed := s₂.slotsUsed } : State).setVm s₂.vm := by
      have : s₂ = ({ s₂ with vm := (U.calling g mk a).vm } : State).setVm s₂.vm := rfl
      rw [e2] at this
      exact this
    have hf₂ : s₂.frames = .throwing q :: .java g :: U.frames.tail := hend
    have hW' : U.WarmedH s₂.vm := hW₂
    have hs₂ : s₂ = ((({ U with heap := s₂.heap, slotsUsed := s₂.slotsUsed } : State).setVm s₂.vm).setTop g).pushFrame (.throwing q) := by
      refine e3.trans ?_
      rw [hf₂, State.calling_eq h.top, State.setFrames_setFrames, State.pushFrame, State.frames_setTop _ hr', State.setTop_of_frames _ hr', State.setFrames_setFrames, hr]
      rfl
    have hsame : U.sameButNew ({ U with heap := s₂.heap, slotsUsed := s₂.slotsUsed } : State) L mc ms := by
      refine ⟨?_, q2, q3, q4, q5, q6⟩
      obtain ⟨t, ht, -⟩ := State.frames_cons hr
      show ({ U with heap := s₂.heap, slotsUsed := s₂.slotsUsed } : State) = { U.setFrames U.frames with heap := s₂.heap, slotsUsed := s₂.slotsUsed }
      rw [State.setFrames_self ht]
    subst hg
    refine Or.inr ⟨q, ⟨(({ U with heap := s₂.heap, slotsUsed := s₂.slotsUsed } : State).setVm s₂.vm), Ls ++ L, c0 + mc, s0 + ms⟩,
      ⟨X.admits, X.cas, X.clock, X.frames, X.room, X.hears, X.method, X.code, (X.here.setHeapUsed s₂.heap s₂.slotsUsed).setVm hW'.alike, X.tail, State.WarmedH.trans X.warmed hW', X.limits, X.bytes, X.same.trans (hsame.setVm s.vm)⟩,
      ⟨g, mk, s₂, L, E, ce, rfl, rfl, hx, hce, hcv, hcl, rfl, hL, rfl, rfl⟩, ?_⟩
    show Steps p.tables e below _ (((({ U with heap := s₂.heap, slotsUsed := s₂.slotsUsed } : State).setVm s₂.vm).setTop g).pushFrame (.throwing q))
    rw [← hs₂]
    exact hsteps
end Payer
section Calls
variable {p : Program} {l : Launch} {e : Env} {R : Room} {s : State} {m : MethodId} {args : Array Value} {below : List Frame} {meth : Method} {c : Code} {T : State} {locs : List Loc} {cells slots : Nat}
theorem vx_callV (X : Stand p l e R s m args below meth c T locs cells slots) (hexec : p.tables.exec = Jvm.exec) {own C : String} {index : Nat} {y : MethodName} {bytes : ByteArray} {maxL : Nat} {ret : Option FieldType}
    (hown : s.vm.findClass own = some m.cls) (hlink : (Cond.methodLink own index y).before args s = true) (hinst : (Cond.instanceMethod y).before args s = true) (hsel : (Cond.selects C y y).before args s = true)
    (hcode : (Cond.code y bytes maxL ret).before args s = true) (hy : y.cls ≠ "java/lang/invoke/MethodHandle" ∧ y.cls ≠ "java/lang/invoke/VarHandle")
    {W9 : Nat} {Pre : Pt → Array Value → Prop} {Post : Pt → Array Value → Option Value → Pt → Prop} {PostX : Pt → Array Value → Addr → Pt → Prop} (hK : vx_Back l R p e below s args y 3 W9 Pre Post PostX)
    {b : Addr} {cellB : Cell} (hcell : T.heap[b]? = some cellB) (hobj : cellB.vm.isStatics = false) (hcls : s.vm.findClass C = some cellB.cls)
    {g : JFrame} (hg : g.method = m) (hsize : g.locals.size = c.maxLocals) {argsL rest : List Value} (hlen : ∀ sig, parseMethodDescriptor y.desc = some sig → argsL.length = sig.parameters.length)
    (hstack : g.stack = argsL.reverse ++ .ref b :: rest) (hW : 2 * g.monitorRoom + (rest.map fun v => v.category).sum ≤ W9) (hdg : decode c.code g.pc = .ok (.invokevirtual index, 3))
    (hpre : ∀ vm₁, s.WarmedH vm₁ → Pre ⟨T.setVm vm₁, locs, cells, slots⟩ (Value.ref b :: argsL).toArray) :
    (∃ (v : Option Value) (vm₁ : Vm) (B : Pt), s.WarmedH vm₁ ∧ Stand p l e R s m args below meth c B.U B.locs B.cells B.slots ∧ Post ⟨T.setVm vm₁, locs, cells, slots⟩ (Value.ref b :: argsL).toArray v B ∧
      ∀ target, Steps p.tables e below (B.U.setTop { g with pc := g.pc + 3, stack := v.toList ++ rest }) target → Steps p.tables e below (T.setTop g) target) ∨
    (∃ (q : Addr) (vm₁ : Vm) (B : Pt), s.WarmedH vm₁ ∧ Stand p l e R s m args below meth c B.U B.locs B.cells B.slots ∧ PostX ⟨T.setVm vm₁, locs, cells, slots⟩ (Value.ref b :: argsL).toArray q B ∧
      Steps p.tables e below (T.setTop g) ((B.U.setTop { g with stack := rest }).pushFrame (.throwing q))) := by
  obtain ⟨mk, methM, hnamed, hmethM, hstM, habM⟩ := Cond.instanceMethod_spec hinst
  obtain ⟨methM', cM, hmethM', -, -, -, -, -, -, hsigM⟩ := Cond.code_spec hnamed hcode
  cases hmethM.symm.trans hmethM'
  obtain ⟨c2, r2, m2, q1, q2, q3, q4, kP, hkP, hkPi⟩ := Cond.selects_spec hsel
  cases hcls.symm.trans q1
  cases (State.methodFound?_of_named hnamed hy).symm.trans q2
  cases hnamed.symm.trans q3
  have hselP : selectMethod e.platform s.vm cellB.cls mk = .method mk := by rw [Launch.admits_selectMethod X.admits]; exact q4
  obtain ⟨vm₁, X₁, hstep₁⟩ := X.invokevirtual hexec hown hlink hnamed hmethM hstM hkP hkPi hy (a := b) (cell := cellB) hcell
    (fun z h => by rw [h] at hobj; cases hobj) hselP hmethM habM hkP hkPi (g := g) hg (argsL := argsL) (rest := rest) (hlen _ hsigM) hstack hdg
  rcases hK m meth c ⟨T.setVm vm₁, locs, cells, slots⟩ { g with stack := rest } (.invokevirtual index) mk (Value.ref b :: argsL).toArray X₁ hg hsize hdg hW (X₁.named hnamed) (hpre vm₁ X₁.warmed) with ⟨v, B, X', hpost, hsteps⟩ | ⟨q, B, X', hpost, hsteps⟩
  · exact Or.inl ⟨v, vm₁, B, X₁.warmed, X', hpost, fun target h => hstep₁ _ fun acts => by rw [doInvoke_state]; exact hsteps.trans h⟩
  · exact Or.inr ⟨q, vm₁, B, X₁.warmed, X', hpost, hstep₁ _ fun acts => by rw [doInvoke_state]; exact hsteps⟩
theorem vx_callS (X : Stand p l e R s m args below meth c T locs cells slots) (hexec : p.tables.exec = Jvm.exec) {own : String} {index : Nat} {y : MethodName} {bytes : ByteArray} {maxL : Nat} {ret : Option FieldType}
    (hown : s.vm.findClass own = some m.cls) (hlink : (Cond.methodLink own index y).before args s = true) (hstat : (Cond.static y).before args s = true) (hinit : (Cond.initialized y.cls).before args s = true)
    (hcode : (Cond.code y bytes maxL ret).before args s = true) (hy : y.cls ≠ "java/lang/invoke/MethodHandle" ∧ y.cls ≠ "java/lang/invoke/VarHandle")
    {W9 : Nat} {Pre : Pt → Array Value → Prop} {Post : Pt → Array Value → Option Value → Pt → Prop} {PostX : Pt → Array Value → Addr → Pt → Prop} (hK : vx_Back l R p e below s args y 3 W9 Pre Post PostX)
    {g : JFrame} (hg : g.method = m) (hsize : g.locals.size = c.maxLocals) {argsL rest : List Value} (hlen : ∀ sig, parseMethodDescriptor y.desc = some sig → argsL.length = sig.parameters.length)
    (hstack : g.stack = argsL.reverse ++ rest) (hW : 2 * g.monitorRoom + (rest.map fun v => v.category).sum ≤ W9) (hdg : decode c.code g.pc = .ok (.invokestatic index, 3))
    (hpre : ∀ vm₁, s.WarmedH vm₁ → Pre ⟨T.setVm vm₁, locs, cells, slots⟩ argsL.toArray) :
    (∃ (v : Option Value) (vm₁ : Vm) (B : Pt), s.WarmedH vm₁ ∧ Stand p l e R s m args below meth c B.U B.locs B.cells B.slots ∧ Post ⟨T.setVm vm₁, locs, cells, slots⟩ argsL.toArray v B ∧
      ∀ target, Steps p.tables e below (B.U.setTop { g with pc := g.pc + 3, stack := v.toList ++ rest }) target → Steps p.tables e below (T.setTop g) target) ∨
    (∃ (q : Addr) (vm₁ : Vm) (B : Pt), s.WarmedH vm₁ ∧ Stand p l e R s m args below meth c B.U B.locs B.cells B.slots ∧ PostX ⟨T.setVm vm₁, locs, cells, slots⟩ argsL.toArray q B ∧
      Steps p.tables e below (T.setTop g) ((B.U.setTop { g with stack := rest }).pushFrame (.throwing q))) := by
  obtain ⟨mk, hnamed⟩ := Cond.code_named hcode
  obtain ⟨methM, cM, hmethM, -, -, -, -, -, -, hsigM⟩ := Cond.code_spec hnamed hcode
  have hstatic : methM.isStatic = true := Cond.static_spec hnamed hmethM hstat
  obtain ⟨kP, hkP, -⟩ := className_of_methodNamed hnamed
  have hinitP : kP.init = .initialized := Cond.initialized_spec (findClass_of_methodNamed hnamed) hkP hinit
  obtain ⟨vm₁, X₁, hstep₁⟩ := X.invokestatic hexec hown hlink hnamed hmethM hstatic hkP hinitP hy (g := g) hg (argsL := argsL) (rest := rest) (hlen _ hsigM) hstack hdg
  rcases hK m meth c ⟨T.setVm vm₁, locs, cells, slots⟩ { g with stack := rest } (.invokestatic index) mk argsL.toArray X₁ hg hsize hdg hW (X₁.named hnamed) (hpre vm₁ X₁.warmed) with ⟨v, B, X', hpost, hsteps⟩ | ⟨q, B, X', hpost, hsteps⟩
  · exact Or.inl ⟨v, vm₁, B, X₁.warmed, X', hpost, fun target h => hstep₁ _ fun acts => by rw [doInvoke_state]; exact hsteps.trans h⟩
  · exact Or.inr ⟨q, vm₁, B, X₁.warmed, X', hpost, hstep₁ _ fun acts => by rw [doInvoke_state]; exact hsteps⟩
end Calls
theorem vx_cls {s : State} {T : State} {vm₁ : Vm} {E : String} {k : ClassId} (hW : s.WarmedH vm₁) (h : (T.setVm vm₁).vm.findClass E = some k) : s.vm.findClass E = some k := by
  have h1 : vm₁.findClass E = some k := h
  rw [hW.alike.findClass] at h1
  exact h1
/-- the method's frame g, with q thrown over it -/
def vx_W (p : Program) (l : Launch) (e : Env) (R : Room) (s : State) (m : MethodId) (args : Array Value) (below : List Frame) (meth : Method) (c : Code) (H : Heap) (locs : List Loc) (cells slots : Nat) (Q : State → Prop) (g : JFrame) (q : Addr) : Prop :=
  ∀ T : State, T.heap = H → Stand p l e R s m args below meth c T locs cells slots → ∃ t, Steps p.tables e below ((T.setTop g).pushFrame (.throwing q)) t ∧ Q t
def vx_Run (p : Program) (l : Launch) (e : Env) (R : Room) (s : State) (m : MethodId) (args : Array Value) (below : List Frame) (meth : Method) (c : Code) (H : Heap) (locs : List Loc) (cells slots mc ms : Nat) (g : JFrame) (rest : List Value) (Qa : State → Outcome → State → Prop) (XC : String → State → State → Prop) (free : Addr → Prop) : Prop :=
  ∀ T : State, T.heap = H → Stand p l e R s m args below meth c T locs cells slots →
    (∃ (v : Option Value) (st₀ t T' : State) (L : List Loc), st₀.heap = H ∧ Stand p l e R s m args below meth c T' (locs ++ L) (cells + mc) (slots + ms) ∧ (∀ q ∈ L, free q.base) ∧ T'.heap = t.heap ∧ T'.vm = t.vm ∧ Qa st₀ (.returned v) t ∧
      Goes p e below T g T' { g with pc := g.pc + 3, stack := v.toList ++ rest }) ∨
    (∃ (q : Addr) (st₀ t T' : State) (L : List Loc) (E : String) (ce : Cell), st₀.heap = H ∧ Stand p l e R s m args below meth c T' (locs ++ L) (cells + mc) (slots + ms) ∧ (∀ z ∈ L, free z.base) ∧ T'.heap = t.heap ∧ T'.vm = t.vm ∧ XC E st₀ t ∧ t.heap[q]? = some ce ∧ ce.vm = .none ∧ s.vm.findClass E = some ce.cls ∧
      Steps p.tables e below (T.setTop g) ((T'.setTop { g with stack := rest }).pushFrame (.throwing q)))
def vx_X {S : Type} (px : S → Prop) (B : String → S → State → Prop) (A : Nat → Prop) : String → State → State → Prop := fun E st t => ∃ u : S, px u ∧ B E u t ∧ va_F A st t
section Runs
variable {p : Program} {l : Launch} {e : Env} {R : Room} {s : State} {m : MethodId} {args : Array Value} {below : List Frame} {meth : Method} {c : Code} {H : Heap} {locs : List Loc} {cells slots : Nat}
variable {y : MethodName} {bytes cc : ByteArray} {maxL nL mc ms n index : Nat} {ret : Option FieldType} {ws : List Cond} {rm : Room} {Pc : Array Value → State → Prop} {Qc : Array Value → State → Outcome → State → Prop} {XC : String → State → State → Prop} {free : Addr → Prop} {Ts : List Cond} {own C : String} {b : Addr} {As rest : List Value} {g : JFrame}
theorem vx_callBack (cb : CallB R s args own index y bytes maxL ret ws rm mc ms n) (hM : vx_Met l y ws rm Pc Qc XC mc ms free) (hbl : FrameBlind Pc) : vx_Back l R p e below s args y 3 8 (PreOf R mc ms Pc) (PostOf Qc mc ms free) (vx_Post XC mc ms free) := by
  obtain ⟨hrc, hrs, hfr, hlo, hws, hcw, -, hini, -⟩ := cb
  exact vx_back (bytes := bytes) (maxL := maxL) (ret := ret) hM hbl hrc hrs hfr hlo hws hcw (fun a' U hW => word_at hW (Or.inl (by first | rfl | simp [Cond.onTables, Cond.keeps, Cond.steady])) hini)
theorem vx_runV (S : CallFix p m c cc nL s args Ts own) (hM : vx_Met l y ws rm Pc Qc XC mc ms free) (cw : CallW R s args own C index y bytes maxL ret ws rm mc ms n) (hp : PreV s H C b Pc As)
    (hg : g.method = m) (hn : As.length = n) (hsize : g.locals.size = nL) (hstack : g.stack = As.reverse ++ .ref b :: rest) (hW : 2 * g.monitorRoom + (rest.map fun v => v.category).sum ≤ 8) (hdg : decode cc g.pc = .ok (.invokevirtual index, 3)) (hf : cells + mc ≤ R.cells ∧ slots + ms ≤ R.slots) :
    vx_Run p l e R s m args below meth c H locs cells slots mc ms g rest (Qc (Value.ref b :: As).toArray) XC free := by
  have hK : vx_Back l R p e below s args y 3 8 (PreOf R mc ms Pc) (PostOf Qc mc ms free) (vx_Post XC mc ms free) := vx_callBack cw.1 hM hp.1
  obtain ⟨⟨-, -, -, -, -, -, hcode, -, hy, hlen, hl⟩, hin, hse⟩ := cw
  obtain ⟨hx, hb, hml, ho, -⟩ := S
  obtain ⟨-, ⟨cellB, hcB, hoB, hclB⟩, hPc⟩ := hp
  intro T hT X
  rcases vx_callV X hx (C := C) (bytes := bytes) (maxL := maxL) (ret := ret) ho hl hin hse hcode hy hK (by rw [hT]; exact hcB) hoB hclB hg (hsize.trans hml.symm) (argsL := As) (rest := rest) (fun sig h => hn.trans (hlen sig h)) hstack hW (by rw [hb]; exact hdg)
    (fun vm₁ hW₁ => ⟨hf.1, hf.2, hPc (T.setVm vm₁) hT hW₁⟩) with ⟨v, vm₁, ⟨U', l2, c2, s2⟩, hW₁, X', ⟨g', mk, t, L, e1, e2, hq, h1, hL, h2, h3⟩, st⟩ | ⟨q, vm₁, ⟨U', l2, c2, s2⟩, hW₁, X', ⟨g', mk, t, L, E, ce, e1, e2, hq, hce, hcv, hcl, h1, hL, h2, h3⟩, st⟩
  · dsimp only [Pt.U, Pt.locs, Pt.cells, Pt.slots] at X' e1 e2 h1 h2 h3 st
    subst h1; subst h2; subst h3
    exact Or.inl ⟨v, (T.setVm vm₁).calling g' mk (Value.ref b :: As).toArray, t, U', L, hT, X', hL, e1, e2, hq, st⟩
  · dsimp only [Pt.U, Pt.locs, Pt.cells, Pt.slots] at X' e1 e2 h1 h2 h3 st hcl
    subst h1; subst h2; subst h3
    exact Or.inr ⟨q, (T.setVm vm₁).calling g' mk (Value.ref b :: As).toArray, t, U', L, E, ce, hT, X', hL, e1, e2, hq, hce, hcv, vx_cls hW₁ hcl, st⟩
theorem vx_runS (S : CallFix p m c cc nL s args Ts own) (hM : vx_Met l y ws rm Pc Qc XC mc ms free) (cw : CallB R s args own index y bytes maxL ret ws rm mc ms n ∧ (Cond.static y).before args s = true) (hp : PreS s H Pc As)
    (hg : g.method = m) (hn : As.length = n) (hsize : g.locals.size = nL) (hstack : g.stack = As.reverse ++ rest) (hW : 2 * g.monitorRoom + (rest.map fun v => v.category).sum ≤ 8) (hdg : decode cc g.pc = .ok (.invokestatic index, 3)) (hf : cells + mc ≤ R.cells ∧ slots + ms ≤ R.slots) :
    vx_Run p l e R s m args below meth c H locs cells slots mc ms g rest (Qc As.toArray) XC free := by
  have hK : vx_Back l R p e below s args y 3 8 (PreOf R mc ms Pc) (PostOf Qc mc ms free) (vx_Post XC mc ms free) := vx_callBack cw.1 hM hp.1
  obtain ⟨⟨-, -, -, -, -, -, hcode, hini, hy, hlen, hl⟩, hstt⟩ := cw
  obtain ⟨hx, hb, hml, ho, -⟩ := S
  intro T hT X
  rcases vx_callS X hx (bytes := bytes) (maxL := maxL) (ret := ret) ho hl hstt hini hcode hy hK hg (hsize.trans hml.symm) (argsL := As) (rest := rest) (fun sig h => hn.trans (hlen sig h)) hstack hW (by rw [hb]; exact hdg)
    (fun vm₁ hW₁ => ⟨hf.1, hf.2, hp.2 (T.setVm vm₁) hT hW₁⟩) with ⟨v, vm₁, ⟨U', l2, c2, s2⟩, hW₁, X', ⟨g', mk, t, L, e1, e2, hq, h1, hL, h2, h3⟩, st⟩ | ⟨q, vm₁, ⟨U', l2, c2, s2⟩, hW₁, X', ⟨g', mk, t, L, E, ce, e1, e2, hq, hce, hcv, hcl, h1, hL, h2, h3⟩, st⟩
  · dsimp only [Pt.U, Pt.locs, Pt.cells, Pt.slots] at X' e1 e2 h1 h2 h3 st
    subst h1; subst h2; subst h3
    exact Or.inl ⟨v, (T.setVm vm₁).calling g' mk As.toArray, t, U', L, hT, X', hL, e1, e2, hq, st⟩
  · dsimp only [Pt.U, Pt.locs, Pt.cells, Pt.slots] at X' e1 e2 h1 h2 h3 st hcl
    subst h1; subst h2; subst h3
    exact Or.inr ⟨q, (T.setVm vm₁).calling g' mk As.toArray, t, U', L, E, ce, hT, X', hL, e1, e2, hq, hce, hcv, vx_cls hW₁ hcl, st⟩
end Runs
section Rows
variable {p : Program} {l : Launch} {e : Env} {R : Room} {s : State} {m : MethodId} {args : Array Value} {below : List Frame} {meth : Method} {c : Code} {H : Heap} {locs : List Loc} {cells slots : Nat} {Q : State → Prop}
variable {mc ms : Nat} {free : Addr → Prop} {A0 A1 : Nat → Prop} {H0 : Heap} {a : Array Value} {pc : Nat} {ls : Array Slot} {st0 rest : List Value}
theorem vx_keep {st₀ t T' : State} {L : List Loc} (h0 : st₀.heap = H) (e1 : T'.heap = t.heap) (hS : va_S A0 H0 H locs) (hA : ∀ q, q < H.size → A1 q → A0 q) (hf : ∀ q, free q → A0 q) (hL : ∀ q ∈ L, free q.base) (hF : va_F A1 st₀ t) :
    H.size ≤ T'.heap.size ∧ (∀ q : Nat, q < H.size → ¬ A1 q → T'.heap[q]? = H[q]?) ∧ va_S A0 H0 T'.heap (locs ++ L) := by
  obtain ⟨hz, hk⟩ := hF
  rw [h0] at hz hk
  exact ⟨by rw [e1]; exact hz, fun q h1 h2 => by rw [e1]; exact hk q h1 h2,
    ⟨Nat.le_trans hS.1 (by rw [e1]; exact hz), fun q h1 h2 => by rw [e1, hk q (Nat.lt_of_lt_of_le h1 hS.1) (fun z => h2 (hA q (Nat.lt_of_lt_of_le h1 hS.1) z))]; exact hS.2.1 q h1 h2, fun q hq => by
      rcases List.mem_append.mp hq with h | h
      · exact hS.2.2 q h
      · exact hf _ (hL q h)⟩⟩
theorem vx_calli {S SX : Type} {post : Int32 → S → Prop} {px : SX → Prop} {B : S → State → Prop} {BX : String → SX → State → Prop} {AX : Nat → Prop} (hr : vx_Run p l e R s m args below meth c H locs cells slots mc ms (F0 m pc ls st0) rest (va_Qi post B A1 a) (vx_X px BX AX) free) (hS : va_S A0 H0 H locs) (hA : ∀ q, q < H.size → A1 q → A0 q) (hf : ∀ q, free q → A0 q) (hAX : ∀ q, q < H.size → AX q → A0 q)
    (kx : ∀ (E : String) (ce : Cell) (q9 : Addr) (u : SX) (t : State) (H1 : Heap) (locs1 : List Loc), t.heap = H1 → s.vm.Alike t.vm → px u → BX E u t → H.size ≤ H1.size → (∀ q : Nat, q < H.size → ¬ AX q → H1[q]? = H[q]?) → va_S A0 H0 H1 locs1 → H1[q9]? = some ce → ce.vm = .none → s.vm.findClass E = some ce.cls → vx_W p l e R s m args below meth c H1 locs1 (cells + mc) (slots + ms) Q (F0 m pc ls rest) q9)
    (kk : ∀ (r : Int32) (u : S) (t : State) (H1 : Heap) (locs1 : List Loc), t.heap = H1 → s.vm.Alike t.vm → post r u → B u t → H.size ≤ H1.size → (∀ q : Nat, q < H.size → ¬ A1 q → H1[q]? = H[q]?) → va_S A0 H0 H1 locs1 → W p l e R s m args below meth c H1 locs1 (cells + mc) (slots + ms) Q (F0 m (pc + 3) ls (.int r :: rest))) : W p l e R s m args below meth c H locs cells slots Q (F0 m pc ls st0) := by
  intro T hT X
  rcases hr T hT X with ⟨v, st₀, t, T', L, h0, X', hL, e1, e2, ⟨⟨r, u, hv, hp, hb⟩, hF⟩, st⟩ | ⟨q, st₀, t, T', L, E, ce, h0, X', hL, e1, e2, ⟨u, hp, hb, hF⟩, hce, hcv, hcl, st⟩
  · cases hv
    obtain ⟨k1, k2, k3⟩ := vx_keep h0 e1 hS hA hf hL hF
    obtain ⟨t2, a1, b1⟩ := kk r u t T'.heap (locs ++ L) e1.symm (by rw [← e2]; exact X'.warmed.alike) hp hb k1 k2 k3 T' rfl X'
    exact ⟨t2, st t2 a1, b1⟩
  · obtain ⟨k1, k2, k3⟩ := vx_keep h0 e1 hS hAX hf hL hF
    obtain ⟨t2, a1, b1⟩ := kx E ce q u t T'.heap (locs ++ L) e1.symm (by rw [← e2]; exact X'.warmed.alike) hp hb k1 k2 k3 (by rw [e1]; exact hce) hcv hcl T' rfl X'
    exact ⟨t2, st.trans a1, b1⟩
theorem vx_calll {S SX : Type} {post : Int64 → S → Prop} {px : SX → Prop} {B : S → State → Prop} {BX : String → SX → State → Prop} {AX : Nat → Prop} (hr : vx_Run p l e R s m args below meth c H locs cells slots mc ms (F0 m pc ls st0) rest (va_Ql post B A1 a) (vx_X px BX AX) free) (hS : va_S A0 H0 H locs) (hA : ∀ q, q < H.size → A1 q → A0 q) (hf : ∀ q, free q → A0 q) (hAX : ∀ q, q < H.size → AX q → A0 q)
    (kx : ∀ (E : String) (ce : Cell) (q9 : Addr) (u : SX) (t : State) (H1 : Heap) (locs1 : List Loc), t.heap = H1 → s.vm.Alike t.vm → px u → BX E u t → H.size ≤ H1.size → (∀ q : Nat, q < H.size → ¬ AX q → H1[q]? = H[q]?) → va_S A0 H0 H1 locs1 → H1[q9]? = some ce → ce.vm = .none → s.vm.findClass E = some ce.cls → vx_W p l e R s m args below meth c H1 locs1 (cells + mc) (slots + ms) Q (F0 m pc ls rest) q9)
    (kk : ∀ (r : Int64) (u : S) (t : State) (H1 : Heap) (locs1 : List Loc), t.heap = H1 → s.vm.Alike t.vm → post r u → B u t → H.size ≤ H1.size → (∀ q : Nat, q < H.size → ¬ A1 q → H1[q]? = H[q]?) → va_S A0 H0 H1 locs1 → W p l e R s m args below meth c H1 locs1 (cells + mc) (slots + ms) Q (F0 m (pc + 3) ls (.long r :: rest))) : W p l e R s m args below meth c H locs cells slots Q (F0 m pc ls st0) := by
  intro T hT X
  rcases hr T hT X with ⟨v, st₀, t, T', L, h0, X', hL, e1, e2, ⟨⟨r, u, hv, hp, hb⟩, hF⟩, st⟩ | ⟨q, st₀, t, T', L, E, ce, h0, X', hL, e1, e2, ⟨u, hp, hb, hF⟩, hce, hcv, hcl, st⟩
  · cases hv
    obtain ⟨k1, k2, k3⟩ := vx_keep h0 e1 hS hA hf hL hF
    obtain ⟨t2, a1, b1⟩ := kk r u t T'.heap (locs ++ L) e1.symm (by rw [← e2]; exact X'.warmed.alike) hp hb k1 k2 k3 T' rfl X'
    exact ⟨t2, st t2 a1, b1⟩
  · obtain ⟨k1, k2, k3⟩ := vx_keep h0 e1 hS hAX hf hL hF
    obtain ⟨t2, a1, b1⟩ := kx E ce q u t T'.heap (locs ++ L) e1.symm (by rw [← e2]; exact X'.warmed.alike) hp hb k1 k2 k3 (by rw [e1]; exact hce) hcv hcl T' rfl X'
    exact ⟨t2, st.trans a1, b1⟩
theorem vx_callf {S SX : Type} {post : UInt32 → S → Prop} {px : SX → Prop} {B : S → State → Prop} {BX : String → SX → State → Prop} {AX : Nat → Prop} (hr : vx_Run p l e R s m args below meth c H locs cells slots mc ms (F0 m pc ls st0) rest (va_Qf post B A1 a) (vx_X px BX AX) free) (hS : va_S A0 H0 H locs) (hA : ∀ q, q < H.size → A1 q → A0 q) (hf : ∀ q, free q → A0 q) (hAX : ∀ q, q < H.size → AX q → A0 q)
    (kx : ∀ (E : String) (ce : Cell) (q9 : Addr) (u : SX) (t : State) (H1 : Heap) (locs1 : List Loc), t.heap = H1 → s.vm.Alike t.vm → px u → BX E u t → H.size ≤ H1.size → (∀ q : Nat, q < H.size → ¬ AX q → H1[q]? = H[q]?) → va_S A0 H0 H1 locs1 → H1[q9]? = some ce → ce.vm = .none → s.vm.findClass E = some ce.cls → vx_W p l e R s m args below meth c H1 locs1 (cells + mc) (slots + ms) Q (F0 m pc ls rest) q9)
    (kk : ∀ (r : UInt32) (u : S) (t : State) (H1 : Heap) (locs1 : List Loc), t.heap = H1 → s.vm.Alike t.vm → post r u → B u t → H.size ≤ H1.size → (∀ q : Nat, q < H.size → ¬ A1 q → H1[q]? = H[q]?) → va_S A0 H0 H1 locs1 → W p l e R s m args below meth c H1 locs1 (cells + mc) (slots + ms) Q (F0 m (pc + 3) ls (.float r :: rest))) : W p l e R s m args below meth c H locs cells slots Q (F0 m pc ls st0) := by
  intro T hT X
  rcases hr T hT X with ⟨v, st₀, t, T', L, h0, X', hL, e1, e2, ⟨⟨r, u, hv, hp, hb⟩, hF⟩, st⟩ | ⟨q, st₀, t, T', L, E, ce, h0, X', hL, e1, e2, ⟨u, hp, hb, hF⟩, hce, hcv, hcl, st⟩
  · cases hv
    obtain ⟨k1, k2, k3⟩ := vx_keep h0 e1 hS hA hf hL hF
    obtain ⟨t2, a1, b1⟩ := kk r u t T'.heap (locs ++ L) e1.symm (by rw [← e2]; exact X'.warmed.alike) hp hb k1 k2 k3 T' rfl X'
    exact ⟨t2, st t2 a1, b1⟩
  · obtain ⟨k1, k2, k3⟩ := vx_keep h0 e1 hS hAX hf hL hF
    obtain ⟨t2, a1, b1⟩ := kx E ce q u t T'.heap (locs ++ L) e1.symm (by rw [← e2]; exact X'.warmed.alike) hp hb k1 k2 k3 (by rw [e1]; exact hce) hcv hcl T' rfl X'
    exact ⟨t2, st.trans a1, b1⟩
theorem vx_calld {S SX : Type} {post : UInt64 → S → Prop} {px : SX → Prop} {B : S → State → Prop} {BX : String → SX → State → Prop} {AX : Nat → Prop} (hr : vx_Run p l e R s m args below meth c H locs cells slots mc ms (F0 m pc ls st0) rest (va_Qd post B A1 a) (vx_X px BX AX) free) (hS : va_S A0 H0 H locs) (hA : ∀ q, q < H.size → A1 q → A0 q) (hf : ∀ q, free q → A0 q) (hAX : ∀ q, q < H.size → AX q → A0 q)
    (kx : ∀ (E : String) (ce : Cell) (q9 : Addr) (u : SX) (t : State) (H1 : Heap) (locs1 : List Loc), t.heap = H1 → s.vm.Alike t.vm → px u → BX E u t → H.size ≤ H1.size → (∀ q : Nat, q < H.size → ¬ AX q → H1[q]? = H[q]?) → va_S A0 H0 H1 locs1 → H1[q9]? = some ce → ce.vm = .none → s.vm.findClass E = some ce.cls → vx_W p l e R s m args below meth c H1 locs1 (cells + mc) (slots + ms) Q (F0 m pc ls rest) q9)
    (kk : ∀ (r : UInt64) (u : S) (t : State) (H1 : Heap) (locs1 : List Loc), t.heap = H1 → s.vm.Alike t.vm → post r u → B u t → H.size ≤ H1.size → (∀ q : Nat, q < H.size → ¬ A1 q → H1[q]? = H[q]?) → va_S A0 H0 H1 locs1 → W p l e R s m args below meth c H1 locs1 (cells + mc) (slots + ms) Q (F0 m (pc + 3) ls (.double r :: rest))) : W p l e R s m args below meth c H locs cells slots Q (F0 m pc ls st0) := by
  intro T hT X
  rcases hr T hT X with ⟨v, st₀, t, T', L, h0, X', hL, e1, e2, ⟨⟨r, u, hv, hp, hb⟩, hF⟩, st⟩ | ⟨q, st₀, t, T', L, E, ce, h0, X', hL, e1, e2, ⟨u, hp, hb, hF⟩, hce, hcv, hcl, st⟩
  · cases hv
    obtain ⟨k1, k2, k3⟩ := vx_keep h0 e1 hS hA hf hL hF
    obtain ⟨t2, a1, b1⟩ := kk r u t T'.heap (locs ++ L) e1.symm (by rw [← e2]; exact X'.warmed.alike) hp hb k1 k2 k3 T' rfl X'
    exact ⟨t2, st t2 a1, b1⟩
  · obtain ⟨k1, k2, k3⟩ := vx_keep h0 e1 hS hAX hf hL hF
    obtain ⟨t2, a1, b1⟩ := kx E ce q u t T'.heap (locs ++ L) e1.symm (by rw [← e2]; exact X'.warmed.alike) hp hb k1 k2 k3 (by rw [e1]; exact hce) hcv hcl T' rfl X'
    exact ⟨t2, st.trans a1, b1⟩
theorem vx_callv {S SX : Type} {post : S → Prop} {px : SX → Prop} {B : S → State → Prop} {BX : String → SX → State → Prop} {AX : Nat → Prop} (hr : vx_Run p l e R s m args below meth c H locs cells slots mc ms (F0 m pc ls st0) rest (va_Qv post B A1 a) (vx_X px BX AX) free) (hS : va_S A0 H0 H locs) (hA : ∀ q, q < H.size → A1 q → A0 q) (hf : ∀ q, free q → A0 q) (hAX : ∀ q, q < H.size → AX q → A0 q)
    (kx : ∀ (E : String) (ce : Cell) (q9 : Addr) (u : SX) (t : State) (H1 : Heap) (locs1 : List Loc), t.heap = H1 → s.vm.Alike t.vm → px u → BX E u t → H.size ≤ H1.size → (∀ q : Nat, q < H.size → ¬ AX q → H1[q]? = H[q]?) → va_S A0 H0 H1 locs1 → H1[q9]? = some ce → ce.vm = .none → s.vm.findClass E = some ce.cls → vx_W p l e R s m args below meth c H1 locs1 (cells + mc) (slots + ms) Q (F0 m pc ls rest) q9)
    (kk : ∀ (u : S) (t : State) (H1 : Heap) (locs1 : List Loc), t.heap = H1 → s.vm.Alike t.vm → post u → B u t → H.size ≤ H1.size → (∀ q : Nat, q < H.size → ¬ A1 q → H1[q]? = H[q]?) → va_S A0 H0 H1 locs1 → W p l e R s m args below meth c H1 locs1 (cells + mc) (slots + ms) Q (F0 m (pc + 3) ls (rest))) : W p l e R s m args below meth c H locs cells slots Q (F0 m pc ls st0) := by
  intro T hT X
  rcases hr T hT X with ⟨v, st₀, t, T', L, h0, X', hL, e1, e2, ⟨⟨u, hv, hp, hb⟩, hF⟩, st⟩ | ⟨q, st₀, t, T', L, E, ce, h0, X', hL, e1, e2, ⟨u, hp, hb, hF⟩, hce, hcv, hcl, st⟩
  · cases hv
    obtain ⟨k1, k2, k3⟩ := vx_keep h0 e1 hS hA hf hL hF
    obtain ⟨t2, a1, b1⟩ := kk u t T'.heap (locs ++ L) e1.symm (by rw [← e2]; exact X'.warmed.alike) hp hb k1 k2 k3 T' rfl X'
    exact ⟨t2, st t2 a1, b1⟩
  · obtain ⟨k1, k2, k3⟩ := vx_keep h0 e1 hS hAX hf hL hF
    obtain ⟨t2, a1, b1⟩ := kx E ce q u t T'.heap (locs ++ L) e1.symm (by rw [← e2]; exact X'.warmed.alike) hp hb k1 k2 k3 (by rw [e1]; exact hce) hcv hcl T' rfl X'
    exact ⟨t2, st.trans a1, b1⟩
/-- caught by the row x of this method's table; the rows ahead don't take it -/
theorem vx_catch {own name : String} {E : String} {ce : Cell} {q : Addr} (hown : s.vm.findClass own = some m.cls) (pre : List ExceptionTableEntry) (x : ExceptionTableEntry) (suf : List ExceptionTableEntry) (hsplit : c.exceptionTable.toList = pre ++ x :: suf)
    (hpass : ∀ z ∈ pre, covers z pc = false ∨ (z.catchType ≠ 0 ∧ ∃ nm : String, (Cond.classLink own z.catchType nm).before args s = true ∧ va_Nc E nm s)) (hx : covers x pc = true) (h0 : x.catchType ≠ 0)
    (hlink : (Cond.classLink own x.catchType name).before args s = true) (hcast : (Cond.castable E name).before args s = true) (hcell : H[q]? = some ce) (hv : ce.vm = .none) (hcl : s.vm.findClass E = some ce.cls)
    (kk : W p l e R s m args below meth c H locs cells slots Q (F0 m x.handlerPc ls [.ref q])) : vx_W p l e R s m args below meth c H locs cells slots Q (F0 m pc ls rest) q := by
  intro T hT X
  have hpl : e.platform.magicAccessors = ({} : Platform).magicAccessors := by rw [X.admits.platform]
  obtain ⟨c3, c4, hc3, hc4, hasg⟩ := Cond.castable_spec hcast
  cases Option.some.inj (hc3.symm.trans hcl)
  obtain ⟨c5, hc5, hcl5⟩ := Cond.classLink_spec hown hlink e.platform hpl
  cases Option.some.inj (hc4.symm.trans hc5)
  obtain ⟨vm', X', st⟩ := X.thenCaughtThrough q (g := F0 m pc ls rest) rfl (Steps.refl _) (by rw [hT]; exact hcell) (by rw [hv]; rfl) (by obtain ⟨k9, h9, -⟩ := Vm.findClass_spec hcl; exact ⟨k9, h9⟩) pre x suf hsplit
    (fun z hz => by
      rcases hpass z hz with h | ⟨hz0, nm, hl1, hn1⟩
      · exact Or.inl h
      · obtain ⟨c6, hc6, hcl6⟩ := Cond.classLink_spec hown hl1 e.platform hpl
        obtain ⟨a8, b8, h1, h2, h3⟩ := hn1
        cases Option.some.inj (h1.symm.trans hcl)
        cases Option.some.inj (h2.symm.trans hc6)
        exact Or.inr ⟨hz0, _, hcl6, h3⟩) hx (Or.inr ⟨h0, c4, hcl5, hasg⟩)
  obtain ⟨t, a1, b1⟩ := kk (T.setVm vm') hT X'
  exact ⟨t, st.trans a1, b1⟩
end Rows
section Ends
variable {p : Program} {l : Launch} {e : Env} {R : Room} {s : State} {m : MethodId} {args : Array Value} {below : List Frame} {meth : Method} {c : Code} {H : Heap} {locs : List Loc} {cells slots : Nat} {Q : State → Prop}
variable {mc ms : Nat} {free : Addr → Prop} {A0 A1 : Nat → Prop} {H0 : Heap} {a : Array Value} {ls : Array Slot} {st0 rest : List Value}
variable {Qc : Array Value → State → Outcome → State → Prop} {XC : String → State → State → Prop}
/-- what a body that may throw owes at its end -/
def vx_MQ (below : List Frame) (Qc : Array Value → State → Outcome → State → Prop) (XC : String → State → State → Prop) (a : Array Value) (s : State) (mc ms : Nat) (free : Addr → Prop) : State → Prop := fun t =>
  ∃ o, t.status = .running ∧ Ended t below o ∧ vx_Q Qc XC mc ms free a s o t
theorem vx_ret {g : JFrame} {mc ms : Nat} (k : W p l e R s m args below meth c H locs cells slots (MQ below Qc args s mc ms free) g) : W p l e R s m args below meth c H locs cells slots (vx_MQ below Qc XC args s mc ms free) g := by
  intro T hT X
  obtain ⟨t, a1, o, b1, b2, b3, b4⟩ := k T hT X
  exact ⟨t, a1, o, b1, b2, Or.inl ⟨b3, b4⟩⟩
/-- not caught here: it goes on to the caller -/
theorem vx_widen {g : JFrame} {q : Addr} {k n : Nat} (h1 : cells ≤ k) (h2 : slots ≤ n) (kk : vx_W p l e R s m args below meth c H locs k n Q g q) : vx_W p l e R s m args below meth c H locs cells slots Q g q := fun T hT X => kk T hT (stand_widen X h1 h2)
theorem vx_out {pc : Nat} {E : String} {ce : Cell} {q : Addr} {mc ms : Nat} (hout : ∀ x ∈ c.exceptionTable.toList, covers x pc = false) (hlocks : meth.locks = false) (hcell : H[q]? = some ce) (hv : ce.vm = .none) (hcl : s.vm.findClass E = some ce.cls)
    (hx : ∀ t : State, t.heap = H → s.vm.Alike t.vm → XC E s t) (hf : ∀ z ∈ locs, free z.base) (hc : cells ≤ mc) (hs : slots ≤ ms) :
    vx_W p l e R s m args below meth c H locs cells slots (vx_MQ below Qc XC args s mc ms free) (F0 m pc ls rest) q := by
  intro T hT X
  obtain ⟨st1, hrun, hend, hW, hsm⟩ := X.leaveThrown q (g := F0 m pc ls rest) rfl rfl rfl hout hlocks
  have hcell9 : (T.setFrames (.throwing q :: below)).heap[q]? = some ce := by
    show T.heap[q]? = some ce
    rw [hT]; exact hcell
  exact ⟨_, st1, .threw q, hrun, hend, Or.inr ⟨q, rfl, E, ce, locs, hx _ hT hW.alike, hcell9, hv, hcl, hW, hsm.mono hc hs, hf⟩⟩
theorem vx_frame {U : State} {k n : Nat} (h : s.sameButNew ({ U with vm := s.vm } : State) locs k n) : s.heap.size ≤ U.heap.size ∧ ∀ q : Nat, q < s.heap.size → (∀ z ∈ locs, z.base ≠ q) → U.heap[q]? = s.heap[q]? := by
  obtain ⟨-, h2, -, -, -, h6⟩ := h
  refine ⟨h2, fun q hq hz => ?_⟩
  obtain ⟨c9, e1, e2, e3, e4⟩ := h6 q _ (Array.getElem?_eq_getElem hq)
  have hs : c9.slots = (s.heap[q]).slots := Array.ext_getElem? fun i => e4 i fun hm => hz _ hm rfl
  have h9 : c9 = s.heap[q] := by
    rw [hs] at e2
    exact e2
  have e5 : U.heap[q]? = some c9 := e1
  rw [e5, h9, Array.getElem?_eq_getElem hq]
/-- the words of a throw but the four that speak of the heap -/
def vx_no (w : Cond) : Bool := decide (w ≠ .isRef (.static Bundle.tN "UNASSIGNED_STACK" Bundle.steD)) && decide (w ≠ .isRef (.static Bundle.tN "SUPPRESSED_SENTINEL" Bundle.listD)) && decide (w ≠ .laysStatic Bundle.tN "UNASSIGNED_STACK" Bundle.steD) && decide (w ≠ .laysStatic Bundle.tN "SUPPRESSED_SENTINEL" Bundle.listD)
def vx_at0 (own : String) (ic : Nat) (X : String) (names : List String) : List Cond := (Bundle.ownAtoms0 own ic X names).filter vx_no
def vx_atS (own : String) (ic : Nat) (X : String) (names : List String) : List Cond := (Bundle.ownAtoms own ic X names).filter vx_no
/-- a word that the tables alone decide, or a good one -/
def vx_ot (w : Cond) : Bool := w.onTables || goodWord w
theorem vx_ot_at {args a' : Array Value} {s U : State} {w : Cond} (hW : s.WarmedH U.vm) (hvm : s.vm = U.vm) (hg : vx_ot w = true) (h : w.before args s = true) : w.before a' U = true := by
  simp only [vx_ot, Bool.or_eq_true] at hg
  rcases hg with hg | hg
  · exact va_tabs hg hvm h
  · exact word_at hW (good_of_word hg) h
/-- a list's words: the good ones out of the method's own list, the others by premises of their own -/
theorem vx_hat {args : Array Value} {s : State} {L B : List Cond} (h1 : ∀ w ∈ L.filter goodWord, w.before args s = true) (h2 : ∀ w ∈ L.filter (fun w => !goodWord w), w ∈ B) (h3 : ∀ w ∈ B, w.before args s = true) : ∀ w ∈ L, w.before args s = true := by
  intro w hw
  by_cases g : goodWord w = true
  · exact h1 w (List.mem_filter.mpr ⟨hw, g⟩)
  · refine h3 w (h2 w (List.mem_filter.mpr ⟨hw, ?_⟩))
    show (!goodWord w) = true
    cases hgw : goodWord w
    · rfl
    · exact absurd hgw g
theorem vx_c {args : Array Value} {s : State} {w : Cond} {B : List Cond} (h : w.before args s = true) (t : ∀ w ∈ B, w.before args s = true) : ∀ w' ∈ w :: B, w'.before args s = true := fun w' h' => (List.mem_cons.mp h').elim (fun e => by rw [e]; exact h) (t w')
theorem vx_n {args : Array Value} {s : State} : ∀ w ∈ ([] : List Cond), w.before args s = true := fun _ h => nomatch h
theorem vx_own {args : Array Value} {s : State} {L : List Cond} (h1 : ∀ w ∈ L.filter vx_no, w.before args s = true)
    (hU : (Cond.isRef (.static Bundle.tN "UNASSIGNED_STACK" Bundle.steD)).before args s = true) (hN : (Cond.isRef (.static Bundle.tN "SUPPRESSED_SENTINEL" Bundle.listD)).before args s = true)
    (lU : (Cond.laysStatic Bundle.tN "UNASSIGNED_STACK" Bundle.steD).before args s = true) (lN : (Cond.laysStatic Bundle.tN "SUPPRESSED_SENTINEL" Bundle.listD).before args s = true) : ∀ w ∈ L, w.before args s = true := by
  intro w hw
  by_cases e1 : w = .isRef (.static Bundle.tN "UNASSIGNED_STACK" Bundle.steD)
  · rw [e1]; exact hU
  · by_cases e2 : w = .isRef (.static Bundle.tN "SUPPRESSED_SENTINEL" Bundle.listD)
    · rw [e2]; exact hN
    · by_cases e3 : w = .laysStatic Bundle.tN "UNASSIGNED_STACK" Bundle.steD
      · rw [e3]; exact lU
      · by_cases e4 : w = .laysStatic Bundle.tN "SUPPRESSED_SENTINEL" Bundle.listD
        · rw [e4]; exact lN
        · exact h1 w (List.mem_filter.mpr ⟨hw, by unfold vx_no; rw [decide_eq_true e1, decide_eq_true e2, decide_eq_true e3, decide_eq_true e4]; rfl⟩)
/-- where a static field lies, its class's statics cell in H -/
def vx_L (C n d : String) (A : Nat → Prop) (U : State) (H : Heap) : Prop := ∃ (c : ClassId) (k : Class) (i : Nat) (f : Field) (a : Nat) (cell : Cell), U.vm.findClass C = some c ∧ U.fieldFound? C n d = some (c, k, i, f) ∧ f.isStatic = true ∧ k.statics = some a ∧ H[a]? = some cell ∧ cell.vm.isStatics = true ∧ cell.cls = c ∧ f.slot < cell.slots.size ∧ k.staticTypes[f.slot]? = some f.type ∧ ¬ A a
theorem vx_L.moved {C n d : String} {A : Nat → Prop} {u U : State} {H : Heap} (hvm : u.vm.Alike U.vm) (h : vx_L C n d A u H) : vx_L C n d A U H := by
  obtain ⟨c, k, i, f, a, cell, h1, h2, h3, h4, h5, h6, h7, h8, h9, h10⟩ := h
  obtain ⟨k', hi', he⟩ := State.fieldFound?_setVm hvm h2
  exact ⟨c, k', i, f, a, cell, by rw [hvm.findClass]; exact h1, hi', h3, by rw [he]; exact h4, h5, h6, h7, h8, by rw [he]; exact h9, h10⟩
theorem vx_L.kept {C n d : String} {A : Nat → Prop} {U : State} {H H1 : Heap} (h : vx_L C n d A U H) (hq : ∀ a : Nat, a < H.size → ¬ A a → H1[a]? = H[a]?) : vx_L C n d A U H1 := by
  obtain ⟨c, k, i, f, a, cell, h1, h2, h3, h4, h5, h6, h7, h8, h9, h10⟩ := h
  exact ⟨c, k, i, f, a, cell, h1, h2, h3, h4, by rw [hq a (Array.getElem?_eq_some_iff.mp h5).1 h10]; exact h5, h6, h7, h8, h9, h10⟩
theorem vx_L.narrow {C n d : String} {A B : Nat → Prop} {U : State} {H : Heap} (h : vx_L C n d A U H) (hAB : ∀ q, B q → A q) : vx_L C n d B U H := by
  obtain ⟨c, k, i, f, a, cell, h1, h2, h3, h4, h5, h6, h7, h8, h9, h10⟩ := h
  exact ⟨c, k, i, f, a, cell, h1, h2, h3, h4, h5, h6, h7, h8, h9, fun z => h10 (hAB _ z)⟩
theorem vx_L.word {C n d : String} {A : Nat → Prop} {s : State} {args : Array Value} (h : vx_L C n d A s s.heap) : (Cond.laysStatic C n d).before args s = true := by
  obtain ⟨c, k, i, f, a, cell, h1, h2, h3, h4, h5, h6, h7, h8, h9, -⟩ := h
  show (Cond.laysStatic C n d).holds args s none s [] = true
  exact Cond.laysStatic_of h1 h2 h3 h4 h5 h6 h7 h8 h9
/-- .. and what it holds: null or some reference -/
def vx_Zq (C n d : String) (A : Nat → Prop) (U : State) (H : Heap) : Prop := va_Zq C n d A U H ∧ vx_L C n d A U H
theorem vx_Zq.moved {C n d : String} {A : Nat → Prop} {u U : State} {H : Heap} (hvm : u.vm.Alike U.vm) (h : vx_Zq C n d A u H) : vx_Zq C n d A U H := ⟨va_Zq.moved hvm h.1, vx_L.moved hvm h.2⟩
theorem vx_Zq.kept {C n d : String} {A : Nat → Prop} {U : State} {H H1 : Heap} (h : vx_Zq C n d A U H) (hq : ∀ a : Nat, a < H.size → ¬ A a → H1[a]? = H[a]?) : vx_Zq C n d A U H1 := ⟨va_Zq.kept h.1 hq, vx_L.kept h.2 hq⟩
theorem vx_Zq.narrow {C n d : String} {A B : Nat → Prop} {U : State} {H : Heap} (h : vx_Zq C n d A U H) (hAB : ∀ q, B q → A q) : vx_Zq C n d B U H := ⟨va_Zq.narrow h.1 hAB, vx_L.narrow h.2 hAB⟩
theorem vx_Zqof {args : Array Value} {s : State} {C n d : String} {A : Nat → Prop} (hl : (Cond.laysStatic C n d).before args s = true) (hini : (Cond.initialized C).before args s = true) (h : (Cond.isRef (.static C n d)).before args s = true) (hA : ∀ a : Nat, a < s.heap.size → ¬ A a) : vx_Zq C n d A s s.heap := by
  refine ⟨va_Zqof hl hini h hA, ?_⟩
  obtain ⟨c, k, i, f, a, cell, h1, h2, h3, h4, h5, h6, h7, h8, h9⟩ := Cond.laysStatic_spec hl
  exact ⟨c, k, i, f, a, cell, h1, h2, h3, h4, h5, h6, h7, h8, h9, hA a (Array.getElem?_eq_some_iff.mp h5).1⟩
theorem vx_isRef {C n d : String} {v : Value} {A : Nat → Prop} {s : State} {args : Array Value} (h : va_Z C n d v A s s.heap) (hv : v.isRef = true) : (Cond.isRef (.static C n d)).before args s = true := by
  obtain ⟨cf, kf, fi, f, a, cell, h1, h2, h3, h4, h5, h6, h7, -⟩ := h
  have he : (Term.static C n d).eval args s none [] s = some v := by
    simp [Term.eval, State.fieldNamed?, h1, h2, h4, h5, h6, h7]
  simp only [Cond.before, Cond.holds, Cond.value, he]
  cases v <;> simp_all [Value.isRef]
theorem vx_isRefq {C n d : String} {A : Nat → Prop} {s : State} {args : Array Value} (h : va_Zq C n d A s s.heap) : (Cond.isRef (.static C n d)).before args s = true := by
  rcases h with h | ⟨t, h⟩
  · exact vx_isRef h rfl
  · exact vx_isRef h rfl
/-- the same frame, seen from here: as if the method were called anew in this heap -/
theorem vx_rebase {T : State} (X : Stand p l e R s m args below meth c T locs cells slots) {R' : Room} (hf : R'.frames ≤ R.frames) (hl : R'.locals ≤ R.locals) (hc : cells + R'.cells ≤ R.cells) (hs : slots + R'.slots ≤ R.slots) :
    Stand p l e R' ((T.setVm s.vm).setFrames (.invoking m args :: below)) m args below meth c T [] 0 0 := by
  have htop : (T.setVm s.vm).topJava?.isSome := X.here.top
  have hF : ((T.setVm s.vm).setFrames (.invoking m args :: below)).frames = .invoking m args :: below := State.frames_setFrames _ (State.cur_lt_of_top htop)
  obtain ⟨g₀, hg0⟩ := Option.isSome_iff_exists.mp htop
  obtain ⟨r, hr⟩ := State.topJava?_eq_some.mp hg0
  have hl9 : e.platform.stackLimits (T.setVm s.vm).me = e.platform.stackLimits s.me := X.limits
  have hb9 : (T.setVm s.vm).me.stackBytes = s.me.stackBytes := X.bytes
  refine ⟨X.admits, X.cas, X.clock, hF, ?_, X.hears, X.method, X.code, X.here, X.tail, X.warmed, ?_, ?_, ?_⟩
  · have h := X.room
    have hU : ((T.setVm s.vm).setFrames (.invoking m args :: below)).localsInUse = s.localsInUse := by
      rw [State.localsInUse_invoking hF (meth := meth) (c := c) X.method X.code, State.localsInUse_invoking X.frames X.method X.code]
    simp only [State.hasRoom, Bool.and_eq_true, decide_eq_true_eq] at h ⊢
    obtain ⟨⟨⟨⟨h1, h2, h3, h4, h5, h6⟩, h7⟩, h8⟩, h9⟩ := h
    rw [X.frames, List.length_cons] at h2 h3
    have q1 := X.heapSize
    have q2 := X.used
    simp only [hF, hU, List.length_cons, State.stackLimits_setFrames, State.stackBytes_setFrames, hl9, hb9]
    refine ⟨⟨⟨⟨by omega, by omega, by omega, by omega, by omega, h6⟩, ?_⟩, ?_⟩, X.book⟩
    · show T.heap.size + R'.cells ≤ e.platform.maxCells
      omega
    · show T.slotsUsed + R'.slots ≤ e.platform.maxSlots
      omega
  · rw [State.stackLimits_setFrames]; rfl
  · rw [State.stackBytes_setFrames]; rfl
  · refine ⟨?_, Nat.le_refl _, Nat.le_refl _, ?_, ?_, fun a c9 h9 => ⟨c9, h9, rfl, rfl, fun _ _ => rfl⟩⟩
    · obtain ⟨t, ht, -⟩ := State.frames_cons hr
      show T.setVm s.vm = { ((T.setVm s.vm).setFrames (.invoking m args :: below)).setFrames (T.setVm s.vm).frames with heap := T.heap, slotsUsed := T.slotsUsed }
      rw [State.setFrames_setFrames, State.setFrames_self ht]
      rfl
    · show T.slotsUsed = T.slotsUsed + ((T.heap.toList.drop T.heap.size).map (·.slots.size)).sum
      rw [List.drop_eq_nil_of_le (Nat.le_of_eq Array.length_toList)]
      rfl
    · show ((T.heap.toList.drop T.heap.size).map (·.slots.size)).sum ≤ 0
      rw [List.drop_eq_nil_of_le (Nat.le_of_eq Array.length_toList)]
      exact Nat.le_refl _
/-- 'throw new E()': new; dup; invokespecial; athrow -/
theorem vx_throw0 {cc : ByteArray} {pc : Nat} (hexec : p.tables.exec = Jvm.exec) (hb : c.code = cc) (hl : l.stackTraces = false) {own cls : String} {names : List String} {ik ic mc ms : Nat} {A : Nat → Prop}
    (hown : s.vm.findClass own = some m.cls) (hcls : Bundle.fit cls = true) (hnames : ∀ n ∈ names, Bundle.fit n = true)
    (hk : (Cond.classLink own ik cls).before args s = true) (hini : (Cond.initialized cls).before args s = true) (hat : ∀ w ∈ vx_at0 own ic cls names, w.before args s = true)
    (hgood : ∀ w ∈ Cond.classLink own ik cls :: Cond.initialized cls :: vx_at0 own ic cls names, vx_ot w = true)
    (hU : vx_Zq Bundle.tN "UNASSIGNED_STACK" Bundle.steD A s s.heap) (hN : vx_Zq Bundle.tN "SUPPRESSED_SENTINEL" Bundle.listD A s s.heap) (hS : va_S A s.heap H locs) (hsize : ls.size = c.maxLocals)
    (d0 : decode cc pc = .ok (.new ik, 3)) (d3 : decode cc (pc + 3) = .ok (.dup, 1)) (d4 : decode cc (pc + 4) = .ok (.invokespecial ic, 3)) (d7 : decode cc (pc + 7) = .ok (.athrow, 1))
    (hout : ∀ x ∈ c.exceptionTable.toList, covers x (pc + 7) = false)
    (hRframes : names.length + 3 < R.frames) (hRlocals : (rest.map fun v => v.category).sum + (13 * (names.length + 1) + 42) ≤ R.locals) (hRcells : cells + 1 ≤ R.cells) (hRslots : slots + 6 ≤ R.slots) (hlocks : meth.locks = false)
    (hx : ∀ t : State, s.vm.Alike t.vm → H.size ≤ t.heap.size → (∀ q : Nat, q < H.size → t.heap[q]? = H[q]?) → XC cls s t)
    (hf : ∀ z ∈ locs, free z.base) (hc : cells + 1 ≤ mc) (hs : slots + 6 ≤ ms) :
    W p l e R s m args below meth c H locs cells slots (vx_MQ below Qc XC args s mc ms free) (F0 m pc ls rest) := by
  intro T hT X
  have htr : e.platform.stackTraces = false := (show e.platform.stackTraces = l.stackTraces by rw [X.admits.platform]).trans hl
  have Y := vx_rebase X (R' := { frames := R.frames, locals := R.locals, cells := 1, slots := 6 }) (Nat.le_refl _) (Nat.le_refl _) hRcells hRslots
  obtain ⟨s', hA⟩ : ∃ z, z = (T.setVm s.vm).setFrames (.invoking m args :: below) := ⟨_, rfl⟩
  rw [← hA] at Y
  have hvm : s'.vm = s.vm := by rw [hA]; rfl
  have hhp : s'.heap = H := by rw [hA]; exact hT
  have hW0 : s.WarmedH s'.vm := by rw [hvm]; exact State.WarmedH.refl s
  have hat' : ∀ w ∈ vx_at0 own ic cls names, w.before args s' = true := fun w hw => vx_ot_at hW0 hvm.symm (hgood w (List.mem_cons_of_mem _ (List.mem_cons_of_mem _ hw))) (hat w hw)
  have hk' : (Cond.classLink own ik cls).before args s' = true := vx_ot_at hW0 hvm.symm (hgood _ List.mem_cons_self) hk
  have hini' : (Cond.initialized cls).before args s' = true := vx_ot_at hW0 hvm.symm (hgood _ (List.mem_cons_of_mem _ List.mem_cons_self)) hini
  have hU' : vx_Zq Bundle.tN "UNASSIGNED_STACK" Bundle.steD A s' s'.heap := by rw [hhp]; exact vx_Zq.moved hW0.alike (hU.kept hS.2.1)
  have hN' : vx_Zq Bundle.tN "SUPPRESSED_SENTINEL" Bundle.listD A s' s'.heap := by rw [hhp]; exact vx_Zq.moved hW0.alike (hN.kept hS.2.1)
  have h : ∀ w ∈ Bundle.ownAtoms0 own ic cls names, w.before args s' = true := vx_own hat' (vx_isRefq hU'.1) (vx_isRefq hN'.1) hU'.2.word hN'.2.word
  have hown' : s'.vm.findClass own = some m.cls := by rw [hvm]; exact hown
  have hins : (Cond.instantiable cls 6).before args s' = true := h _ (by simp [Bundle.ownAtoms0])
  obtain ⟨vm₁, cX, kX, hfX, hkX, -, -, X₁, st1⟩ := Y.newCold hexec (own := own) (C := cls) (index := ik) (n := 6) hown' hk' hins hini'
    (g := F0 m pc ls rest) rfl (by rw [hb]; exact d0) (Nat.le_refl _) (Nat.le_refl _)
  generalize hT1 : (T.setVm vm₁).pushCell { cls := cX, slots := kX.instanceTypes.map defaultValue, vm := .none } = T1 at X₁ st1
  have hcat : (Value.ref T.heap.size).category = 1 := rfl
  have hcellA : T1.heap[T.heap.size]? = some (freshCell cX kX) := by rw [← hT1]; exact State.heap_pushCell_size _ _
  have d3' : decode c.code (pc + 3) = .ok (.dup, 1) := by rw [hb]; exact d3
  obtain ⟨U, hsteps, hrun, hend, hW, hsame, ce, hce, hO⟩ := X₁.ctorThrow0 hexec htr (own := own) (cls := cls) (names := names) (ic := ic) hown' hcls hnames h (fun x hx => nomatch hx) hfX hkX hcellA (by rw [hhp, hT]; exact Nat.le_refl _)
    (g := { method := m, pc := pc + 4, locals := ls, stack := .ref T.heap.size :: .ref T.heap.size :: rest, locked := none }) rfl hsize rfl rfl (rest := rest) rfl
    (by rw [hb]; exact d4) (by rw [hb]; exact d7) hout hRframes (by simp only [List.map_cons, List.sum_cons, hcat]; omega) hlocks
  obtain ⟨f1, f2⟩ := vx_frame hsame
  rw [hhp] at f1 f2
  have hWs : s.WarmedH U.vm := State.WarmedH.trans hW0 hW
  have hcl : s.vm.findClass cls = some ce.cls := by
    have h9 := hO.cls
    rw [hvm] at h9
    exact h9
  have hall : s.sameButNew ({ U with vm := s.vm } : State) locs mc ms := by
    subst hA
    obtain ⟨e1, e2⟩ := hsame
    rw [State.setFrames_setFrames] at e1
    have h2 : (T.setVm s.vm).sameButNew ({ U with vm := s.vm } : State) [] (0 + 1) (0 + 6) := ⟨e1, e2⟩
    have h3 := X.same.trans h2
    rw [List.append_nil] at h3
    exact h3.mono hc hs
  refine ⟨U, ?_, .threw T.heap.size, hrun, hend, Or.inr ⟨T.heap.size, rfl, cls, ce, locs, hx U hWs.alike f1 (fun q hq => f2 q hq (fun z hz => nomatch hz)), hce, hO.vm, hcl, hWs, hall, hf⟩⟩
  refine st1 _ ?_
  show Steps p.tables e below (T1.setTop { method := m, pc := pc + 3, locals := ls, stack := .ref T.heap.size :: rest, locked := none }) _
  jvm_step X₁.here [X₁.here.top, hexec, d3', Value.category]
  exact hsteps
/-- 'throw new E("text")': new; dup; ldc; invokespecial; athrow -/
theorem vx_throwS {cc : ByteArray} {pc : Nat} (hexec : p.tables.exec = Jvm.exec) (hb : c.code = cc) (hl : l.stackTraces = false) {own cls text : String} {names : List String} {ik is ic mc ms sa : Nat} {A : Nat → Prop}
    (hown : s.vm.findClass own = some m.cls) (hcls : Bundle.fit cls = true) (hnames : ∀ n ∈ names, Bundle.fit n = true)
    (hk : (Cond.classLink own ik cls).before args s = true) (hini : (Cond.initialized cls).before args s = true) (hstr : vk_R own is text sa s) (hat : ∀ w ∈ vx_atS own ic cls names, w.before args s = true)
    (hgood : ∀ w ∈ Cond.classLink own ik cls :: Cond.initialized cls :: vx_atS own ic cls names, vx_ot w = true)
    (hU : vx_Zq Bundle.tN "UNASSIGNED_STACK" Bundle.steD A s s.heap) (hN : vx_Zq Bundle.tN "SUPPRESSED_SENTINEL" Bundle.listD A s s.heap) (hS : va_S A s.heap H locs) (hsize : ls.size = c.maxLocals)
    (d0 : decode cc pc = .ok (.new ik, 3)) (d3 : decode cc (pc + 3) = .ok (.dup, 1)) (d4 : decode cc (pc + 4) = .ok (.ldc is, 2)) (d6 : decode cc (pc + 6) = .ok (.invokespecial ic, 3)) (d9 : decode cc (pc + 9) = .ok (.athrow, 1))
    (hout : ∀ x ∈ c.exceptionTable.toList, covers x (pc + 9) = false)
    (hRframes : names.length + 3 < R.frames) (hRlocals : (rest.map fun v => v.category).sum + (13 * (names.length + 1) + 43) ≤ R.locals) (hRcells : cells + 1 ≤ R.cells) (hRslots : slots + 6 ≤ R.slots) (hlocks : meth.locks = false)
    (hx : ∀ t : State, s.vm.Alike t.vm → H.size ≤ t.heap.size → (∀ q : Nat, q < H.size → t.heap[q]? = H[q]?) → XC cls s t)
    (hf : ∀ z ∈ locs, free z.base) (hc : cells + 1 ≤ mc) (hs : slots + 6 ≤ ms) :
    W p l e R s m args below meth c H locs cells slots (vx_MQ below Qc XC args s mc ms free) (F0 m pc ls rest) := by
  intro T hT X
  have htr : e.platform.stackTraces = false := (show e.platform.stackTraces = l.stackTraces by rw [X.admits.platform]).trans hl
  have Y := vx_rebase X (R' := { frames := R.frames, locals := R.locals, cells := 1, slots := 6 }) (Nat.le_refl _) (Nat.le_refl _) hRcells hRslots
  obtain ⟨s', hA⟩ : ∃ z, z = (T.setVm s.vm).setFrames (.invoking m args :: below) := ⟨_, rfl⟩
  rw [← hA] at Y
  have hvm : s'.vm = s.vm := by rw [hA]; rfl
  have hhp : s'.heap = H := by rw [hA]; exact hT
  have hW0 : s.WarmedH s'.vm := by rw [hvm]; exact State.WarmedH.refl s
  have hat' : ∀ w ∈ vx_atS own ic cls names, w.before args s' = true := fun w hw => vx_ot_at hW0 hvm.symm (hgood w (List.mem_cons_of_mem _ (List.mem_cons_of_mem _ hw))) (hat w hw)
  have hk' : (Cond.classLink own ik cls).before args s' = true := vx_ot_at hW0 hvm.symm (hgood _ List.mem_cons_self) hk
  have hini' : (Cond.initialized cls).before args s' = true := vx_ot_at hW0 hvm.symm (hgood _ (List.mem_cons_of_mem _ List.mem_cons_self)) hini
  have hU' : vx_Zq Bundle.tN "UNASSIGNED_STACK" Bundle.steD A s' s'.heap := by rw [hhp]; exact vx_Zq.moved hW0.alike (hU.kept hS.2.1)
  have hN' : vx_Zq Bundle.tN "SUPPRESSED_SENTINEL" Bundle.listD A s' s'.heap := by rw [hhp]; exact vx_Zq.moved hW0.alike (hN.kept hS.2.1)
  have h : ∀ w ∈ Bundle.ownAtoms own ic cls names, w.before args s' = true := vx_own hat' (vx_isRefq hU'.1) (vx_isRefq hN'.1) hU'.2.word hN'.2.word
  have hown' : s'.vm.findClass own = some m.cls := by rw [hvm]; exact hown
  have hins : (Cond.instantiable cls 6).before args s' = true := h _ (by simp [Bundle.ownAtoms])
  obtain ⟨vm₁, cX, kX, hfX, hkX, -, -, X₁, st1⟩ := Y.newCold hexec (own := own) (C := cls) (index := ik) (n := 6) hown' hk' hins hini'
    (g := F0 m pc ls rest) rfl (by rw [hb]; exact d0) (Nat.le_refl _) (Nat.le_refl _)
  generalize hT1 : (T.setVm vm₁).pushCell { cls := cX, slots := kX.instanceTypes.map defaultValue, vm := .none } = T1 at X₁ st1
  have hcat : (Value.ref T.heap.size).category = 1 := rfl
  have hcellA : T1.heap[T.heap.size]? = some (freshCell cX kX) := by rw [← hT1]; exact State.heap_pushCell_size _ _
  have d3' : decode c.code (pc + 3) = .ok (.dup, 1) := by rw [hb]; exact d3
  have d4' : decode c.code (pc + 4) = .ok (.ldc is, 2) := by rw [hb]; exact d4
  have hstr' : vk_R own is text sa s' := vk_R.warm hW0 hstr
  obtain ⟨U, hsteps, hrun, hend, hW, hsame, ce, hce, hO⟩ := X₁.ctorThrowS hexec htr (own := own) (cls := cls) (names := names) (ic := ic) hown' hcls hnames h (fun x hx => nomatch hx) hfX hkX hcellA (by rw [hhp, hT]; exact Nat.le_refl _) (msg := .ref sa) rfl
    (g := { method := m, pc := pc + 6, locals := ls, stack := .ref sa :: .ref T.heap.size :: .ref T.heap.size :: rest, locked := none }) rfl hsize rfl rfl (rest := rest) rfl
    (by rw [hb]; exact d6) (by rw [hb]; exact d9) hout hRframes (by simp only [List.map_cons, List.sum_cons, hcat]; omega) hlocks
  obtain ⟨f1, f2⟩ := vx_frame hsame
  rw [hhp] at f1 f2
  have hWs : s.WarmedH U.vm := State.WarmedH.trans hW0 hW
  have hcl : s.vm.findClass cls = some ce.cls := by
    have h9 := hO.cls
    rw [hvm] at h9
    exact h9
  have hall : s.sameButNew ({ U with vm := s.vm } : State) locs mc ms := by
    subst hA
    obtain ⟨e1, e2⟩ := hsame
    rw [State.setFrames_setFrames] at e1
    have h2 : (T.setVm s.vm).sameButNew ({ U with vm := s.vm } : State) [] (0 + 1) (0 + 6) := ⟨e1, e2⟩
    have h3 := X.same.trans h2
    rw [List.append_nil] at h3
    exact h3.mono hc hs
  refine ⟨U, ?_, .threw T.heap.size, hrun, hend, Or.inr ⟨T.heap.size, rfl, cls, ce, locs, hx U hWs.alike f1 (fun q hq => f2 q hq (fun z hz => nomatch hz)), hce, hO.vm, hcl, hWs, hall, hf⟩⟩
  refine st1 _ ?_
  show Steps p.tables e below (T1.setTop { method := m, pc := pc + 3, locals := ls, stack := .ref T.heap.size :: rest, locked := none }) _
  jvm_step X₁.here [X₁.here.top, hexec, d3', Value.category]
  exact X₁.ldcString hexec (own := own) (text := text) (index := is) (a := sa) hown' hstr'.1 hstr'.2
    (g := { method := m, pc := pc + 4, locals := ls, stack := .ref T.heap.size :: .ref T.heap.size :: rest, locked := none }) rfl d4' _ hsteps
/-- 'throw new E("text")', the text by a wide index -/
theorem vx_throwSW {cc : ByteArray} {pc : Nat} (hexec : p.tables.exec = Jvm.exec) (hb : c.code = cc) (hl : l.stackTraces = false) {own cls text : String} {names : List String} {ik is ic mc ms sa : Nat} {A : Nat → Prop}
    (hown : s.vm.findClass own = some m.cls) (hcls : Bundle.fit cls = true) (hnames : ∀ n ∈ names, Bundle.fit n = true)
    (hk : (Cond.classLink own ik cls).before args s = true) (hini : (Cond.initialized cls).before args s = true) (hstr : vk_R own is text sa s) (hat : ∀ w ∈ vx_atS own ic cls names, w.before args s = true)
    (hgood : ∀ w ∈ Cond.classLink own ik cls :: Cond.initialized cls :: vx_atS own ic cls names, vx_ot w = true)
    (hU : vx_Zq Bundle.tN "UNASSIGNED_STACK" Bundle.steD A s s.heap) (hN : vx_Zq Bundle.tN "SUPPRESSED_SENTINEL" Bundle.listD A s s.heap) (hS : va_S A s.heap H locs) (hsize : ls.size = c.maxLocals)
    (d0 : decode cc pc = .ok (.new ik, 3)) (d3 : decode cc (pc + 3) = .ok (.dup, 1)) (d4 : decode cc (pc + 4) = .ok (.ldc_w is, 3)) (d7 : decode cc (pc + 7) = .ok (.invokespecial ic, 3)) (d10 : decode cc (pc + 10) = .ok (.athrow, 1))
    (hout : ∀ x ∈ c.exceptionTable.toList, covers x (pc + 10) = false)
    (hRframes : names.length + 3 < R.frames) (hRlocals : (rest.map fun v => v.category).sum + (13 * (names.length + 1) + 43) ≤ R.locals) (hRcells : cells + 1 ≤ R.cells) (hRslots : slots + 6 ≤ R.slots) (hlocks : meth.locks = false)
    (hx : ∀ t : State, s.vm.Alike t.vm → H.size ≤ t.heap.size → (∀ q : Nat, q < H.size → t.heap[q]? = H[q]?) → XC cls s t)
    (hf : ∀ z ∈ locs, free z.base) (hc : cells + 1 ≤ mc) (hs : slots + 6 ≤ ms) :
    W p l e R s m args below meth c H locs cells slots (vx_MQ below Qc XC args s mc ms free) (F0 m pc ls rest) := by
  intro T hT X
  have htr : e.platform.stackTraces = false := (show e.platform.stackTraces = l.stackTraces by rw [X.admits.platform]).trans hl
  have Y := vx_rebase X (R' := { frames := R.frames, locals := R.locals, cells := 1, slots := 6 }) (Nat.le_refl _) (Nat.le_refl _) hRcells hRslots
  obtain ⟨s', hA⟩ : ∃ z, z = (T.setVm s.vm).setFrames (.invoking m args :: below) := ⟨_, rfl⟩
  rw [← hA] at Y
  have hvm : s'.vm = s.vm := by rw [hA]; rfl
  have hhp : s'.heap = H := by rw [hA]; exact hT
  have hW0 : s.WarmedH s'.vm := by rw [hvm]; exact State.WarmedH.refl s
  have hat' : ∀ w ∈ vx_atS own ic cls names, w.before args s' = true := fun w hw => vx_ot_at hW0 hvm.symm (hgood w (List.mem_cons_of_mem _ (List.mem_cons_of_mem _ hw))) (hat w hw)
  have hk' : (Cond.classLink own ik cls).before args s' = true := vx_ot_at hW0 hvm.symm (hgood _ List.mem_cons_self) hk
  have hini' : (Cond.initialized cls).before args s' = true := vx_ot_at hW0 hvm.symm (hgood _ (List.mem_cons_of_mem _ List.mem_cons_self)) hini
  have hU' : vx_Zq Bundle.tN "UNASSIGNED_STACK" Bundle.steD A s' s'.heap := by rw [hhp]; exact vx_Zq.moved hW0.alike (hU.kept hS.2.1)
  have hN' : vx_Zq Bundle.tN "SUPPRESSED_SENTINEL" Bundle.listD A s' s'.heap := by rw [hhp]; exact vx_Zq.moved hW0.alike (hN.kept hS.2.1)
  have h : ∀ w ∈ Bundle.ownAtoms own ic cls names, w.before args s' = true := vx_own hat' (vx_isRefq hU'.1) (vx_isRefq hN'.1) hU'.2.word hN'.2.word
  have hown' : s'.vm.findClass own = some m.cls := by rw [hvm]; exact hown
  have hins : (Cond.instantiable cls 6).before args s' = true := h _ (by simp [Bundle.ownAtoms])
  obtain ⟨vm₁, cX, kX, hfX, hkX, -, -, X₁, st1⟩ := Y.newCold hexec (own := own) (C := cls) (index := ik) (n := 6) hown' hk' hins hini'
    (g := F0 m pc ls rest) rfl (by rw [hb]; exact d0) (Nat.le_refl _) (Nat.le_refl _)
  generalize hT1 : (T.setVm vm₁).pushCell { cls := cX, slots := kX.instanceTypes.map defaultValue, vm := .none } = T1 at X₁ st1
  have hcat : (Value.ref T.heap.size).category = 1 := rfl
  have hcellA : T1.heap[T.heap.size]? = some (freshCell cX kX) := by rw [← hT1]; exact State.heap_pushCell_size _ _
  have d3' : decode c.code (pc + 3) = .ok (.dup, 1) := by rw [hb]; exact d3
  have d4' : decode c.code (pc + 4) = .ok (.ldc_w is, 3) := by rw [hb]; exact d4
  have hstr' : vk_R own is text sa s' := vk_R.warm hW0 hstr
  obtain ⟨U, hsteps, hrun, hend, hW, hsame, ce, hce, hO⟩ := X₁.ctorThrowS hexec htr (own := own) (cls := cls) (names := names) (ic := ic) hown' hcls hnames h (fun x hx => nomatch hx) hfX hkX hcellA (by rw [hhp, hT]; exact Nat.le_refl _) (msg := .ref sa) rfl
    (g := { method := m, pc := pc + 7, locals := ls, stack := .ref sa :: .ref T.heap.size :: .ref T.heap.size :: rest, locked := none }) rfl hsize rfl rfl (rest := rest) rfl
    (by rw [hb]; exact d7) (by rw [hb]; exact d10) hout hRframes (by simp only [List.map_cons, List.sum_cons, hcat]; omega) hlocks
  obtain ⟨f1, f2⟩ := vx_frame hsame
  rw [hhp] at f1 f2
  have hWs : s.WarmedH U.vm := State.WarmedH.trans hW0 hW
  have hcl : s.vm.findClass cls = some ce.cls := by
    have h9 := hO.cls
    rw [hvm] at h9
    exact h9
  have hall : s.sameButNew ({ U with vm := s.vm } : State) locs mc ms := by
    subst hA
    obtain ⟨e1, e2⟩ := hsame
    rw [State.setFrames_setFrames] at e1
    have h2 : (T.setVm s.vm).sameButNew ({ U with vm := s.vm } : State) [] (0 + 1) (0 + 6) := ⟨e1, e2⟩
    have h3 := X.same.trans h2
    rw [List.append_nil] at h3
    exact h3.mono hc hs
  refine ⟨U, ?_, .threw T.heap.size, hrun, hend, Or.inr ⟨T.heap.size, rfl, cls, ce, locs, hx U hWs.alike f1 (fun q hq => f2 q hq (fun z hz => nomatch hz)), hce, hO.vm, hcl, hWs, hall, hf⟩⟩
  refine st1 _ ?_
  show Steps p.tables e below (T1.setTop { method := m, pc := pc + 3, locals := ls, stack := .ref T.heap.size :: rest, locked := none }) _
  jvm_step X₁.here [X₁.here.top, hexec, d3', Value.category]
  exact X₁.ldcStringW hexec (own := own) (text := text) (index := is) (a := sa) hown' hstr'.1 hstr'.2
    (g := { method := m, pc := pc + 4, locals := ls, stack := .ref T.heap.size :: .ref T.heap.size :: rest, locked := none }) rfl d4' _ hsteps
end Ends
section Bodies
variable {l : Launch}
theorem vx_ofW {y : MethodName} {ws ws' : List Cond} {rm : Room} {Pc : Array Value → State → Prop} {Qc : Array Value → State → Outcome → State → Prop} {XC : String → State → State → Prop} {mc ms : Nat} {free : Addr → Prop} {cc : ByteArray} {maxL : Nat} {ret : Option FieldType}
    (hy : plainName y.cls = true) (hw : ws = Cond.code y cc maxL ret :: ws')
    (body : ∀ p e s m args below meth c s₁, BodyLoose p l y (headSpec ws rm) cc maxL ret e s m args below meth c s₁ → c.maxLocals = maxL → (∀ x ∈ c.exceptionTable.toList, False) → Pc args s →
      W p l e (headSpec ws rm).room s m args below meth c s.heap [] 0 0 (vx_MQ below Qc XC args s mc ms free) (entryFrame m args maxL)) : vx_Met l y ws rm Pc Qc XC mc ms free := by
  refine MetFree.of_bodyS (code := cc) (maxLocals := maxL) (ret := ret) hy ?_ ?_
  · intro args s m h hn
    obtain ⟨meth, c, h1, h2, h3, h4, h5, h6, -, -⟩ := Cond.code_spec hn (atoms_spec (ws := ws) h _ (by rw [hw]; exact List.mem_cons_self))
    exact ⟨meth, c, h1, h2, h3, h4, h5, h6⟩
  · intro p e s m args below meth c s₁ B hml hP _
    have hh0 : s₁.heap = s.heap := by rw [B.state]; rfl
    have ht : ∀ x ∈ c.exceptionTable.toList, False := by
      obtain ⟨meth9, c9, h1, h2, -, -, -, -, h7, -⟩ := Cond.code_spec B.named (atoms_spec (ws := ws) B.pre _ (by rw [hw]; exact List.mem_cons_self))
      cases Option.some.inj (h1.symm.trans B.method)
      cases Option.some.inj (h2.symm.trans (Stand.of_body B).code)
      intro x hx
      rw [Array.isEmpty_iff.mp h7] at hx
      cases hx
    obtain ⟨t, a1, o, b1, b2, b3⟩ := body p e s m args below meth c s₁ B hml ht hP s₁ hh0 (Stand.of_body B)
    exact ⟨t, o, a1, b1, b2, b3⟩
/-- the table of a body with handlers -/
theorem vx_table {p : Program} {x y : MethodName} {S : Spec} {cc bytes : ByteArray} {maxL maxL' : Nat} {ret ret' : Option FieldType} {e : Env} {s s₁ : State} {m : MethodId} {args : Array Value} {below : List Frame} {meth : Method} {c : Code} {hh : List (Nat × Nat × Nat × Nat)}
    (B : BodyLoose p l y S cc maxL ret e s m args below meth c s₁) (h : (Cond.codeWith y bytes maxL' ret' hh).before args s = true) : c.exceptionTable.toList = tableOf hh := by
  obtain ⟨m9, meth9, c9, hn9, h1, h2, -, -, h6, -⟩ := Cond.codeWith_spec h
  cases Option.some.inj (hn9.symm.trans B.named)
  cases Option.some.inj (h1.symm.trans B.method)
  cases Option.some.inj (h2.symm.trans (Stand.of_body B).code)
  rw [← h6, table_eq]
end Bodies
end VXA
/-! ===== END ===== -/
/-! ===== BEGIN a static call of a method with an exception table ===== -/
section VXS
variable {p : Program} {l : Launch} {e : Env} {R : Room} {s : State} {m : MethodId} {args : Array Value} {below : List Frame} {meth : Method} {c : Code} {T : State} {H : Heap} {locs : List Loc} {cells slots : Nat}
abbrev vx_CSW (R : Room) (s : State) (args : Array Value) (own : String) (index : Nat) (y : MethodName) (bytes : ByteArray) (maxL : Nat) (ret : Option FieldType) (hh : List (Nat × Nat × Nat × Nat)) (ws : List Cond) (rm : Room) (mc ms n : Nat) : Prop :=
  (rm.cells = mc ∧ rm.slots = ms ∧ rm.frames + 1 ≤ R.frames ∧ 8 + (maxL + 11) + rm.locals ≤ R.locals ∧ (∀ w ∈ ws, ∀ (a' : Array Value) (U : State), s.WarmedH U.vm → w.before a' U = true) ∧ Cond.codeWith y bytes maxL ret hh ∈ ws) ∧
  (Cond.codeWith y bytes maxL ret hh).before args s = true ∧ (Cond.initialized y.cls).before args s = true ∧ (y.cls ≠ "java/lang/invoke/MethodHandle" ∧ y.cls ≠ "java/lang/invoke/VarHandle") ∧
  (∀ sig, parseMethodDescriptor y.desc = some sig → n = sig.parameters.length) ∧ (Cond.methodLink own index y).before args s = true ∧ (Cond.static y).before args s = true
theorem vx_cwSW {own : String} {index maxL mc ms : Nat} {y : MethodName} {bytes : ByteArray} {ret : Option FieldType} {hh : List (Nat × Nat × Nat × Nat)} {Ts ws ws' : List Cond} {rm : Room} (n : Nat) (ht : ∀ w ∈ Ts, w.before args s = true) (hT : GoodIn Ts (va_wsS own index y ws)) (hw : ws = Cond.codeWith y bytes maxL ret hh :: ws') (hrc : rm.cells = mc) (hrs : rm.slots = ms)
    (hd : y.cls ≠ "java/lang/invoke/MethodHandle" ∧ y.cls ≠ "java/lang/invoke/VarHandle" ∧ (parseMethodDescriptor y.desc).map (fun d => d.parameters.length) = some n) (hR : rm.frames + 1 ≤ R.frames ∧ 8 + (maxL + 11) + rm.locals ≤ R.locals) :
    vx_CSW R s args own index y bytes maxL ret hh ws rm mc ms n := by
  have ok : ∀ w ∈ va_wsS own index y ws, w.before args s = true := fun w h => ht w (hT w h).1
  have hG : GoodIn Ts ws := fun w h => hT w (by unfold va_wsS; exact List.mem_append_right _ h)
  have hc : Cond.codeWith y bytes maxL ret hh ∈ ws := by rw [hw]; exact List.mem_cons_self
  refine ⟨⟨hrc, hrs, hR.1, hR.2, pay_in ht hG, hc⟩, ht _ (hG _ hc).1, ok _ (by simp [va_wsS]), ⟨hd.1, hd.2.1⟩, fun sig h => ?_, ok _ (by simp [va_wsS]), ok _ (by simp [va_wsS])⟩
  have h2 := hd.2.2
  rw [h] at h2
  exact (Option.some.inj h2).symm
theorem vx_callSW (X : Stand p l e R s m args below meth c T locs cells slots) (hexec : p.tables.exec = Jvm.exec) {own : String} {index : Nat} {y : MethodName} {bytes : ByteArray} {maxL : Nat} {ret : Option FieldType} {hh : List (Nat × Nat × Nat × Nat)}
    (hown : s.vm.findClass own = some m.cls) (hlink : (Cond.methodLink own index y).before args s = true) (hstat : (Cond.static y).before args s = true) (hinit : (Cond.initialized y.cls).before args s = true)
    (hcode : (Cond.codeWith y bytes maxL ret hh).before args s = true) (hy : y.cls ≠ "java/lang/invoke/MethodHandle" ∧ y.cls ≠ "java/lang/invoke/VarHandle")
    {W9 : Nat} {Pre : Pt → Array Value → Prop} {Post : Pt → Array Value → Option Value → Pt → Prop} (hK : Back l R p e below s args y 3 W9 Pre Post)
    {g : JFrame} (hg : g.method = m) (hsize : g.locals.size = c.maxLocals) {argsL rest : List Value} (hlen : ∀ sig, parseMethodDescriptor y.desc = some sig → argsL.length = sig.parameters.length)
    (hstack : g.stack = argsL.reverse ++ rest) (hW : 2 * g.monitorRoom + (rest.map fun v => v.category).sum ≤ W9) (hdg : decode c.code g.pc = .ok (.invokestatic index, 3))
    (hpre : ∀ vm₁, s.WarmedH vm₁ → Pre ⟨T.setVm vm₁, locs, cells, slots⟩ argsL.toArray) :
    ∃ (v : Option Value) (vm₁ : Vm) (B : Pt), s.WarmedH vm₁ ∧ Stand p l e R s m args below meth c B.U B.locs B.cells B.slots ∧ Post ⟨T.setVm vm₁, locs, cells, slots⟩ argsL.toArray v B ∧
      ∀ target, Steps p.tables e below (B.U.setTop { g with pc := g.pc + 3, stack := v.toList ++ rest }) target → Steps p.tables e below (T.setTop g) target := by
  obtain ⟨mk, methM, cM, hnamed, hmethM, -, -, -, -, -, -, hsigM⟩ := Cond.codeWith_spec hcode
  have hstatic : methM.isStatic = true := Cond.static_spec hnamed hmethM hstat
  obtain ⟨kP, hkP, -⟩ := className_of_methodNamed hnamed
  have hinitP : kP.init = .initialized := Cond.initialized_spec (findClass_of_methodNamed hnamed) hkP hinit
  obtain ⟨vm₁, X₁, hstep₁⟩ := X.invokestatic hexec hown hlink hnamed hmethM hstatic hkP hinitP hy (g := g) hg (argsL := argsL) (rest := rest) (hlen _ hsigM) hstack hdg
  obtain ⟨v, B, X', hpost, hsteps⟩ := hK m meth c ⟨T.setVm vm₁, locs, cells, slots⟩ { g with stack := rest } (.invokestatic index) mk argsL.toArray X₁ hg hsize hdg hW (X₁.named hnamed) (hpre vm₁ X₁.warmed)
  exact ⟨v, vm₁, B, X₁.warmed, X', hpost, fun target h => hstep₁ _ fun acts => by rw [doInvoke_state]; exact hsteps.trans h⟩
theorem vx_runSW {y : MethodName} {bytes cc : ByteArray} {maxL nL mc ms n index : Nat} {ret : Option FieldType} {hh : List (Nat × Nat × Nat × Nat)} {ws : List Cond} {rm : Room} {Pc : Array Value → State → Prop} {Qc : Array Value → State → Outcome → State → Prop} {free : Addr → Prop} {Ts : List Cond} {own : String} {As rest : List Value} {g : JFrame}
    (S : CallFix p m c cc nL s args Ts own) (hM : Met l y ws rm Pc Qc mc ms free) (cw : vx_CSW R s args own index y bytes maxL ret hh ws rm mc ms n) (hp : PreS s H Pc As)
    (hg : g.method = m) (hn : As.length = n) (hsize : g.locals.size = nL) (hstack : g.stack = As.reverse ++ rest) (hW : 2 * g.monitorRoom + (rest.map fun v => v.category).sum ≤ 8) (hdg : decode cc g.pc = .ok (.invokestatic index, 3)) (hf : cells + mc ≤ R.cells ∧ slots + ms ≤ R.slots) :
    va_Run p l e R s m args below meth c H locs cells slots mc ms g rest (Qc As.toArray) (free) := by
  obtain ⟨⟨hrc, hrs, hfr, hlo, hws, hcw⟩, hcode, hini, hy, hlen, hl, hstt⟩ := cw
  have hK : Back l R p e below s args y 3 8 (PreOf R mc ms Pc) (PostOf Qc mc ms free) := va_backW (hh := hh) (bytes := bytes) (maxL := maxL) (ret := ret) hM hp.1 hrc hrs hfr hlo hws hcw (fun a' U hW => word_at hW (Or.inl (by first | rfl | simp [Cond.onTables, Cond.keeps, Cond.steady])) hini)
  obtain ⟨hx, hb, hml, ho, -⟩ := S
  intro T hT X
  obtain ⟨v, vm₁, ⟨U', l2, c2, s2⟩, hW₁, X', ⟨g', mk, t, L, e1, e2, hq, h1, hL, h2, h3⟩, st⟩ := vx_callSW X hx (hh := hh) (bytes := bytes) (maxL := maxL) (ret := ret) ho hl hstt hini hcode hy hK hg (hsize.trans hml.symm) (argsL := As) (rest := rest) (fun sig h => hn.trans (hlen sig h)) hstack hW (by rw [hb]; exact hdg)
    (fun vm₁ hW₁ => ⟨hf.1, hf.2, hp.2 (T.setVm vm₁) hT hW₁⟩)
  dsimp only [Pt.U, Pt.locs, Pt.cells, Pt.slots] at X' e1 e2 h1 h2 h3 st
  subst h1; subst h2; subst h3
  exact ⟨v, (T.setVm vm₁).calling g' mk As.toArray, t, U', L, hT, X', hL, e1, e2, hq, st⟩
/-- not caught here, past rows that name other classes: it goes on to the caller -/
theorem vx_outP {p : Program} {l : Launch} {e : Env} {R : Room} {s : State} {m : MethodId} {args : Array Value} {below : List Frame} {meth : Method} {c : Code} {H : Heap} {locs : List Loc} {cells slots : Nat} {free : Addr → Prop} {ls : Array Slot} {rest : List Value} {Qc : Array Value → State → Outcome → State → Prop} {XC : String → State → State → Prop}
    {pc : Nat} {own E : String} {ce : Cell} {q : Addr} {mc ms : Nat} (hown : s.vm.findClass own = some m.cls) (hlocks : meth.locks = false)
    (hpass : ∀ z ∈ c.exceptionTable.toList, covers z pc = false ∨ (z.catchType ≠ 0 ∧ ∃ nm : String, (Cond.classLink own z.catchType nm).before args s = true ∧ va_Nc E nm s)) (hcell : H[q]? = some ce) (hv : ce.vm = .none) (hcl : s.vm.findClass E = some ce.cls)
    (hx : ∀ t : State, t.heap = H → s.vm.Alike t.vm → XC E s t) (hf : ∀ z ∈ locs, free z.base) (hc : cells ≤ mc) (hs : slots ≤ ms) :
    vx_W p l e R s m args below meth c H locs cells slots (vx_MQ below Qc XC args s mc ms free) (F0 m pc ls rest) q := by
  intro T hT X
  have hpl : e.platform.magicAccessors = ({} : Platform).magicAccessors := by rw [X.admits.platform]
  obtain ⟨vm', hW', X', st⟩ := X.outThrough hlocks q (g := F0 m pc ls rest) rfl rfl rfl (cell := ce) (by rw [hT]; exact hcell) (by rw [hv]; rfl)
    (by obtain ⟨k9, h9, -⟩ := Vm.findClass_spec hcl; exact ⟨k9, h9⟩) (fun z hz => by
      rcases hpass z hz with h | ⟨hz0, nm, hl1, hn1⟩
      · exact Or.inl h
      · obtain ⟨c6, hc6, hcl6⟩ := Cond.classLink_spec hown hl1 e.platform hpl
        obtain ⟨a8, b8, h1, h2, h3⟩ := hn1
        cases Option.some.inj (h1.symm.trans hcl)
        cases Option.some.inj (h2.symm.trans hc6)
        exact Or.inr ⟨hz0, _, hcl6, h3⟩)
  obtain ⟨g₀, hfr⟩ := X'.frames_eq
  have hcell9 : ((T.setVm vm').setFrames (.throwing q :: below)).heap[q]? = some ce := by
    show T.heap[q]? = some ce
    rw [hT]; exact hcell
  have hend : Ended ((T.setVm vm').setFrames (.throwing q :: below)) below (.threw q) := State.frames_setFrames _ (State.cur_lt_of_frames hfr)
  refine ⟨(T.setVm vm').setFrames (.throwing q :: below), ?_, .threw q, X'.here.running, hend, Or.inr ⟨q, rfl, E, ce, locs, hx _ hT (X'.ends _).1.alike, hcell9, hv, hcl, (X'.ends _).1, (X'.ends _).2.mono hc hs, hf⟩⟩
  rw [X.pushThrowing_eq]
  exact st
/-- a thing of a world lies in the heap -/
theorem vx_lt {D : va_G} {cl : List vw_C} {ws : va_W} {H1 : Heap} (h : va_P D cl ws H1) {k : Nat} {q : Nat × va_E} (hk : ws[k]? = some q) : q.1 < H1.size := (h k q hk).lt
end VXS
/-! ===== END ===== -/
/-! ===== BEGIN methods with a table of their own: called by a name, returning or throwing ===== -/
section VXH
/-! vx_backW, vx_callVX, vx_callSX, vx_callVW, vx_runVW, vx_runVX, vx_runSX, vx_ofWH follow the same proofs as their sisters above (Free/Laws.lean, Shelf42/LK1.lean); vx_outP calls Shelf42/NT130.lean (outThrough). -/
section
variable {l : Launch} {R : Room} {p : Program} {e : Env} {below : List Frame} {s : State} {sargs : Array Value} {y : MethodName} {len W9 : Nat}
theorem vx_backW {ws : List Cond} {rm : Room} {Pc : Array Value → State → Prop} {Qc : Array Value → State → Outcome → State → Prop} {XC : String → State → State → Prop} {mc ms : Nat} {free : Addr → Prop} {bytes : ByteArray} {maxL : Nat} {ret : Option FieldType} {hh : List (Nat × Nat × Nat × Nat)}
    (hM : vx_Met l y ws rm Pc Qc XC mc ms free) (hblind : FrameBlind Pc) (hrc : rm.cells = mc) (hrs : rm.slots = ms)
    (hframes : rm.frames + 1 ≤ R.frames) (hlocals : W9 + (maxL + 11) + rm.locals ≤ R.locals)
    (hws : ∀ w ∈ ws, ∀ a' U, s.WarmedH U.vm → w.before a' U = true) (hcode : Cond.codeWith y bytes maxL ret hh ∈ ws) (hinit : ∀ a' U, s.WarmedH U.vm → (Cond.initialized y.cls).before a' U = true) :
    vx_Back l R p e below s sargs y len W9 (PreOf R mc ms Pc) (PostOf Qc mc ms free) (vx_Post XC mc ms free) := by
  intro m meth c A g ig mk a X hg hsize hdg hW hn hp
  have h1 : (headSpec ws rm).pre.before a A.U = true := atoms_intro fun w hw => hws w hw _ _ X.warmed
  have h2 : (Cond.codeWith y bytes maxL ret hh).before a A.U = true := hws _ hcode _ _ X.warmed
  have h3 : (Cond.initialized y.cls).before a A.U = true := hinit _ _ X.warmed
  have h4 : A.cells + (headSpec ws rm).room.cells ≤ R.cells := by rw [show (headSpec ws rm).room.cells = mc from hrc]; exact hp.1
  have h5 : A.slots + (headSpec ws rm).room.slots ≤ R.slots := by rw [show (headSpec ws rm).room.slots = ms from hrs]; exact hp.2.1
  have hPc : Pc a (A.U.calling g mk a) := hblind _ _ _ _ hp.2.2
  obtain ⟨U, Ls, c0, s0⟩ := A
  dsimp only [Pt.U, Pt.locs, Pt.cells, Pt.slots] at h1 h2 h3 h4 h5 X hn hPc ⊢
  obtain ⟨m9, methY, cY, hn9, hmY, hcY, -, hlY, -⟩ := Cond.codeWith_spec h2
  cases Option.some.inj (hn9.symm.trans hn)
  obtain ⟨kY, hkY, -⟩ := className_of_methodNamed hn
  have hinitY : kY.init = .initialized := Cond.initialized_spec (findClass_of_methodNamed hn) hkY h3
  have h : At U g.method c below := by rw [hg]; exact X.here
  have hlocals9 : W9 + (maxL + 11) + (headSpec ws rm).room.locals ≤ R.locals := hlocals
  have happ : (headSpec ws rm).appliesLoose y e.platform (U.calling g mk a) = true :=
    Spec.appliesLoose_calling (g := g) h hdg hn hkY hinitY
      (X.room_calling (g := g) (R' := (headSpec ws rm).room) hsize hmY hcY hframes (by rw [hlY]; omega) h4 h5) h1
  obtain ⟨mid, hmid⟩ := h.above
  have hfr : (U.setTop g).frames = (.java g :: mid) ++ below := by rw [State.frames_setTop' g h.top, hmid]; rfl
  obtain ⟨o, s₂, hsteps, -, hend, hq⟩ := Steps.callFree hM p X.admits X.cas X.clock (acts := []) hfr happ hPc trivial
  have hq' : vx_Q Qc XC mc ms free a (U.calling g mk a) o s₂ := hq
  rw [State.frames_setTop' g h.top] at hend
  obtain ⟨g₀, hg0⟩ := Option.isSome_iff_exists.mp h.top
  obtain ⟨r, hr⟩ := State.topJava?_eq_some.mp hg0
  have hr' : (({ U with heap := s₂.heap, slotsUsed := s₂.slotsUsed } : State).setVm s₂.vm).frames = .java g₀ :: r := hr
  rcases hq' with ⟨hqc, L, hfe, hL⟩ | ⟨q, rfl, E, ce, L, hx, hce, hcv, hcl, hW₂, hsm, hL⟩
  · obtain ⟨⟨v, rfl⟩, hW₂, e2, q2, q3, q4, q5, q6⟩ := id hfe
    have e3 : s₂ = ({ (U.calling g mk a).setFrames s₂.frames with heap := s₂.heap, slotsUsed := s₂.slotsUsed } : State).setVm s₂.vm := by
      have : s₂ = ({ s₂ with vm := (U.calling g mk a).vm } : State).setVm s₂.vm := rfl
      rw [e2] at this
      exact this
    obtain ⟨c₂, i₂, len₂, hc₂, hd₂, hf₂⟩ := hend
    have hW' : U.WarmedH s₂.vm := hW₂
    have hcc : c₂ = c := by
      have h1 : s₂.code? g.method = U.code? g.method := by
        rw [State.code?_eq, State.code?_eq, hW'.alike.method?]
      exact Option.some.inj (hc₂.symm.trans (h1.trans h.code))
    subst hcc
    have hlen : len₂ = len := by rw [hdg] at hd₂; cases hd₂; rfl
    subst hlen
    have hs₂ : s₂ = (({ U with heap := s₂.heap, slotsUsed := s₂.slotsUsed } : State).setVm s₂.vm).setTop { g with pc := g.pc + len₂, stack := v.toList ++ g.stack } := by
      refine e3.trans ?_
      rw [hf₂, State.calling_eq h.top, State.setFrames_setFrames, State.setTop_of_frames _ hr', hr]
      rfl
    have hsame : U.sameButNew ({ U with heap := s₂.heap, slotsUsed := s₂.slotsUsed } : State) L mc ms := by
      refine ⟨?_, q2, q3, q4, q5, q6⟩
      obtain ⟨t, ht, -⟩ := State.frames_cons hr
      show ({ U with heap := s₂.heap, slotsUsed := s₂.slotsUsed } : State) = { U.setFrames U.frames with heap := s₂.heap, slotsUsed := s₂.slotsUsed }
      rw [State.setFrames_self ht]
    subst hg
    refine Or.inl ⟨v, ⟨(({ U with heap := s₂.heap, slotsUsed := s₂.slotsUsed } : State).setVm s₂.vm), Ls ++ L, c0 + mc, s0 + ms⟩,
      ⟨X.admits, X.cas, X.clock, X.frames, X.room, X.hears, X.method, X.code, (X.here.setHeapUsed s₂.heap s₂.slotsUsed).setVm hW'.alike, X.tail, State.WarmedH.trans X.warmed hW', X.limits, X.bytes, X.same.trans (hsame.setVm s.vm)⟩,
      ⟨g, mk, s₂, L, rfl, rfl, hqc, rfl, hL, rfl, rfl⟩, ?_⟩
    show Steps p.tables e below _ ((({ U with heap := s₂.heap, slotsUsed := s₂.slotsUsed } : State).setVm s₂.vm).setTop { g with pc := g.pc + len₂, stack := v.toList ++ g.stack })
    rw [← hs₂]
    exact hsteps
  · obtain ⟨e2, q2, q3, q4, q5, q6⟩ := id hsm
    have e3 : s₂ = ({ (U.calling g mk a).setFrames s₂.frames with heap := s₂.heap, slotsUsed := s₂.slotsUsed } : State).setVm s₂.vm := by
      have : s₂ = ({ s₂ with vm := (U.calling g mk a).vm } : State).setVm s₂.vm := rfl
      rw [e2] at this
      exact this
    have hf₂ : s₂.frames = .throwing q :: .java g :: U.frames.tail := hend
    have hW' : U.WarmedH s₂.vm := hW₂
    have hs₂ : s₂ = ((({ U with heap := s₂.heap, slotsUsed := s₂.slotsUsed } : State).setVm s₂.vm).setTop g).pushFrame (.throwing q) := by
      refine e3.trans ?_
      rw [hf₂, State.calling_eq h.top, State.setFrames_setFrames, State.pushFrame, State.frames_setTop _ hr', State.setTop_of_frames _ hr', State.setFrames_setFrames, hr]
      rfl
    have hsame : U.sameButNew ({ U with heap := s₂.heap, slotsUsed := s₂.slotsUsed } : State) L mc ms := by
      refine ⟨?_, q2, q3, q4, q5, q6⟩
      obtain ⟨t, ht, -⟩ := State.frames_cons hr
      show ({ U with heap := s₂.heap, slotsUsed := s₂.slotsUsed } : State) = { U.setFrames U.frames with heap := s₂.heap, slotsUsed := s₂.slotsUsed }
      rw [State.setFrames_self ht]
    subst hg
    refine Or.inr ⟨q, ⟨(({ U with heap := s₂.heap, slotsUsed := s₂.slotsUsed } : State).setVm s₂.vm), Ls ++ L, c0 + mc, s0 + ms⟩,
      ⟨X.admits, X.cas, X.clock, X.frames, X.room, X.hears, X.method, X.code, (X.here.setHeapUsed s₂.heap s₂.slotsUsed).setVm hW'.alike, X.tail, State.WarmedH.trans X.warmed hW', X.limits, X.bytes, X.same.trans (hsame.setVm s.vm)⟩,
      ⟨g, mk, s₂, L, E, ce, rfl, rfl, hx, hce, hcv, hcl, rfl, hL, rfl, rfl⟩, ?_⟩
    show Steps p.tables e below _ (((({ U with heap := s₂.heap, slotsUsed := s₂.slotsUsed } : State).setVm s₂.vm).setTop g).pushFrame (.throwing q))
    rw [← hs₂]
    exact hsteps
end
variable {p : Program} {l : Launch} {e : Env} {R : Room} {s : State} {m : MethodId} {args : Array Value} {below : List Frame} {meth : Method} {c : Code} {T : State} {H : Heap} {locs : List Loc} {cells slots : Nat}
theorem vx_callVX (X : Stand p l e R s m args below meth c T locs cells slots) (hexec : p.tables.exec = Jvm.exec) {own C : String} {index : Nat} {y : MethodName} {bytes : ByteArray} {maxL : Nat} {ret : Option FieldType} {hh : List (Nat × Nat × Nat × Nat)}
    (hown : s.vm.findClass own = some m.cls) (hlink : (Cond.methodLink own index y).before args s = true) (hinst : (Cond.instanceMethod y).before args s = true) (hsel : (Cond.selects C y y).before args s = true)
    (hcode : (Cond.codeWith y bytes maxL ret hh).before args s = true) (hy : y.cls ≠ "java/lang/invoke/MethodHandle" ∧ y.cls ≠ "java/lang/invoke/VarHandle")
    {W9 : Nat} {Pre : Pt → Array Value → Prop} {Post : Pt → Array Value → Option Value → Pt → Prop} {PostX : Pt → Array Value → Addr → Pt → Prop} (hK : vx_Back l R p e below s args y 3 W9 Pre Post PostX)
    {b : Addr} {cellB : Cell} (hcell : T.heap[b]? = some cellB) (hobj : cellB.vm.isStatics = false) (hcls : s.vm.findClass C = some cellB.cls)
    {g : JFrame} (hg : g.method = m) (hsize : g.locals.size = c.maxLocals) {argsL rest : List Value} (hlen : ∀ sig, parseMethodDescriptor y.desc = some sig → argsL.length = sig.parameters.length)
    (hstack : g.stack = argsL.reverse ++ .ref b :: rest) (hW : 2 * g.monitorRoom + (rest.map fun v => v.category).sum ≤ W9) (hdg : decode c.code g.pc = .ok (.invokevirtual index, 3))
    (hpre : ∀ vm₁, s.WarmedH vm₁ → Pre ⟨T.setVm vm₁, locs, cells, slots⟩ (Value.ref b :: argsL).toArray) :
    (∃ (v : Option Value) (vm₁ : Vm) (B : Pt), s.WarmedH vm₁ ∧ Stand p l e R s m args below meth c B.U B.locs B.cells B.slots ∧ Post ⟨T.setVm vm₁, locs, cells, slots⟩ (Value.ref b :: argsL).toArray v B ∧
      ∀ target, Steps p.tables e below (B.U.setTop { g with pc := g.pc + 3, stack := v.toList ++ rest }) target → Steps p.tables e below (T.setTop g) target) ∨
    (∃ (q : Addr) (vm₁ : Vm) (B : Pt), s.WarmedH vm₁ ∧ Stand p l e R s m args below meth c B.U B.locs B.cells B.slots ∧ PostX ⟨T.setVm vm₁, locs, cells, slots⟩ (Value.ref b :: argsL).toArray q B ∧
      Steps p.tables e below (T.setTop g) ((B.U.setTop { g with stack := rest }).pushFrame (.throwing q))) := by
  obtain ⟨mk, methM, hnamed, hmethM, hstM, habM⟩ := Cond.instanceMethod_spec hinst
  obtain ⟨m8, methM', cM, hn8, hmethM', -, -, -, -, -, -, hsigM⟩ := Cond.codeWith_spec hcode
  cases Option.some.inj (hn8.symm.trans hnamed)
  cases hmethM.symm.trans hmethM'
  obtain ⟨c2, r2, m2, q1, q2, q3, q4, kP, hkP, hkPi⟩ := Cond.selects_spec hsel
  cases hcls.symm.trans q1
  cases (State.methodFound?_of_named hnamed hy).symm.trans q2
  cases hnamed.symm.trans q3
  have hselP : selectMethod e.platform s.vm cellB.cls mk = .method mk := by rw [Launch.admits_selectMethod X.admits]; exact q4
  obtain ⟨vm₁, X₁, hstep₁⟩ := X.invokevirtual hexec hown hlink hnamed hmethM hstM hkP hkPi hy (a := b) (cell := cellB) hcell
    (fun z h => by rw [h] at hobj; cases hobj) hselP hmethM habM hkP hkPi (g := g) hg (argsL := argsL) (rest := rest) (hlen _ hsigM) hstack hdg
  rcases hK m meth c ⟨T.setVm vm₁, locs, cells, slots⟩ { g with stack := rest } (.invokevirtual index) mk (Value.ref b :: argsL).toArray X₁ hg hsize hdg hW (X₁.named hnamed) (hpre vm₁ X₁.warmed) with ⟨v, B, X', hpost, hsteps⟩ | ⟨q, B, X', hpost, hsteps⟩
  · exact Or.inl ⟨v, vm₁, B, X₁.warmed, X', hpost, fun target h => hstep₁ _ fun acts => by rw [doInvoke_state]; exact hsteps.trans h⟩
  · exact Or.inr ⟨q, vm₁, B, X₁.warmed, X', hpost, hstep₁ _ fun acts => by rw [doInvoke_state]; exact hsteps⟩
theorem vx_callSX (X : Stand p l e R s m args below meth c T locs cells slots) (hexec : p.tables.exec = Jvm.exec) {own : String} {index : Nat} {y : MethodName} {bytes : ByteArray} {maxL : Nat} {ret : Option FieldType} {hh : List (Nat × Nat × Nat × Nat)}
    (hown : s.vm.findClass own = some m.cls) (hlink : (Cond.methodLink own index y).before args s = true) (hstat : (Cond.static y).before args s = true) (hinit : (Cond.initialized y.cls).before args s = true)
    (hcode : (Cond.codeWith y bytes maxL ret hh).before args s = true) (hy : y.cls ≠ "java/lang/invoke/MethodHandle" ∧ y.cls ≠ "java/lang/invoke/VarHandle")
    {W9 : Nat} {Pre : Pt → Array Value → Prop} {Post : Pt → Array Value → Option Value → Pt → Prop} {PostX : Pt → Array Value → Addr → Pt → Prop} (hK : vx_Back l R p e below s args y 3 W9 Pre Post PostX)
    {g : JFrame} (hg : g.method = m) (hsize : g.locals.size = c.maxLocals) {argsL rest : List Value} (hlen : ∀ sig, parseMethodDescriptor y.desc = some sig → argsL.length = sig.parameters.length)
    (hstack : g.stack = argsL.reverse ++ rest) (hW : 2 * g.monitorRoom + (rest.map fun v => v.category).sum ≤ W9) (hdg : decode c.code g.pc = .ok (.invokestatic index, 3))
    (hpre : ∀ vm₁, s.WarmedH vm₁ → Pre ⟨T.setVm vm₁, locs, cells, slots⟩ argsL.toArray) :
    (∃ (v : Option Value) (vm₁ : Vm) (B : Pt), s.WarmedH vm₁ ∧ Stand p l e R s m args below meth c B.U B.locs B.cells B.slots ∧ Post ⟨T.setVm vm₁, locs, cells, slots⟩ argsL.toArray v B ∧
      ∀ target, Steps p.tables e below (B.U.setTop { g with pc := g.pc + 3, stack := v.toList ++ rest }) target → Steps p.tables e below (T.setTop g) target) ∨
    (∃ (q : Addr) (vm₁ : Vm) (B : Pt), s.WarmedH vm₁ ∧ Stand p l e R s m args below meth c B.U B.locs B.cells B.slots ∧ PostX ⟨T.setVm vm₁, locs, cells, slots⟩ argsL.toArray q B ∧
      Steps p.tables e below (T.setTop g) ((B.U.setTop { g with stack := rest }).pushFrame (.throwing q))) := by
  obtain ⟨mk, methM, cM, hnamed, hmethM, -, -, -, -, -, -, hsigM⟩ := Cond.codeWith_spec hcode
  have hstatic : methM.isStatic = true := Cond.static_spec hnamed hmethM hstat
  obtain ⟨kP, hkP, -⟩ := className_of_methodNamed hnamed
  have hinitP : kP.init = .initialized := Cond.initialized_spec (findClass_of_methodNamed hnamed) hkP hinit
  obtain ⟨vm₁, X₁, hstep₁⟩ := X.invokestatic hexec hown hlink hnamed hmethM hstatic hkP hinitP hy (g := g) hg (argsL := argsL) (rest := rest) (hlen _ hsigM) hstack hdg
  rcases hK m meth c ⟨T.setVm vm₁, locs, cells, slots⟩ { g with stack := rest } (.invokestatic index) mk argsL.toArray X₁ hg hsize hdg hW (X₁.named hnamed) (hpre vm₁ X₁.warmed) with ⟨v, B, X', hpost, hsteps⟩ | ⟨q, B, X', hpost, hsteps⟩
  · exact Or.inl ⟨v, vm₁, B, X₁.warmed, X', hpost, fun target h => hstep₁ _ fun acts => by rw [doInvoke_state]; exact hsteps.trans h⟩
  · exact Or.inr ⟨q, vm₁, B, X₁.warmed, X', hpost, hstep₁ _ fun acts => by rw [doInvoke_state]; exact hsteps⟩
theorem vx_callVW (X : Stand p l e R s m args below meth c T locs cells slots) (hexec : p.tables.exec = Jvm.exec) {own C : String} {index : Nat} {y : MethodName} {bytes : ByteArray} {maxL : Nat} {ret : Option FieldType} {hh : List (Nat × Nat × Nat × Nat)}
    (hown : s.vm.findClass own = some m.cls) (hlink : (Cond.methodLink own index y).before args s = true) (hinst : (Cond.instanceMethod y).before args s = true) (hsel : (Cond.selects C y y).before args s = true)
    (hcode : (Cond.codeWith y bytes maxL ret hh).before args s = true) (hy : y.cls ≠ "java/lang/invoke/MethodHandle" ∧ y.cls ≠ "java/lang/invoke/VarHandle")
    {W9 : Nat} {Pre : Pt → Array Value → Prop} {Post : Pt → Array Value → Option Value → Pt → Prop} (hK : Back l R p e below s args y 3 W9 Pre Post)
    {b : Addr} {cellB : Cell} (hcell : T.heap[b]? = some cellB) (hobj : cellB.vm.isStatics = false) (hcls : s.vm.findClass C = some cellB.cls)
    {g : JFrame} (hg : g.method = m) (hsize : g.locals.size = c.maxLocals) {argsL rest : List Value} (hlen : ∀ sig, parseMethodDescriptor y.desc = some sig → argsL.length = sig.parameters.length)
    (hstack : g.stack = argsL.reverse ++ .ref b :: rest) (hW : 2 * g.monitorRoom + (rest.map fun v => v.category).sum ≤ W9) (hdg : decode c.code g.pc = .ok (.invokevirtual index, 3))
    (hpre : ∀ vm₁, s.WarmedH vm₁ → Pre ⟨T.setVm vm₁, locs, cells, slots⟩ (Value.ref b :: argsL).toArray) :
    ∃ (v : Option Value) (vm₁ : Vm) (B : Pt), s.WarmedH vm₁ ∧ Stand p l e R s m args below meth c B.U B.locs B.cells B.slots ∧ Post ⟨T.setVm vm₁, locs, cells, slots⟩ (Value.ref b :: argsL).toArray v B ∧
      ∀ target, Steps p.tables e below (B.U.setTop { g with pc := g.pc + 3, stack := v.toList ++ rest }) target → Steps p.tables e below (T.setTop g) target := by
  obtain ⟨mk, methM, hnamed, hmethM, hstM, habM⟩ := Cond.instanceMethod_spec hinst
  obtain ⟨m8, methM', cM, hn8, hmethM', -, -, -, -, -, -, hsigM⟩ := Cond.codeWith_spec hcode
  cases Option.some.inj (hn8.symm.trans hnamed)
  cases hmethM.symm.trans hmethM'
  obtain ⟨c2, r2, m2, q1, q2, q3, q4, kP, hkP, hkPi⟩ := Cond.selects_spec hsel
  cases hcls.symm.trans q1
  cases (State.methodFound?_of_named hnamed hy).symm.trans q2
  cases hnamed.symm.trans q3
  have hselP : selectMethod e.platform s.vm cellB.cls mk = .method mk := by rw [Launch.admits_selectMethod X.admits]; exact q4
  obtain ⟨vm₁, X₁, hstep₁⟩ := X.invokevirtual hexec hown hlink hnamed hmethM hstM hkP hkPi hy (a := b) (cell := cellB) hcell
    (fun z h => by rw [h] at hobj; cases hobj) hselP hmethM habM hkP hkPi (g := g) hg (argsL := argsL) (rest := rest) (hlen _ hsigM) hstack hdg
  obtain ⟨v, B, X', hpost, hsteps⟩ := hK m meth c ⟨T.setVm vm₁, locs, cells, slots⟩ { g with stack := rest } (.invokevirtual index) mk (Value.ref b :: argsL).toArray X₁ hg hsize hdg hW (X₁.named hnamed) (hpre vm₁ X₁.warmed)
  exact ⟨v, vm₁, B, X₁.warmed, X', hpost, fun target h => hstep₁ _ fun acts => by rw [doInvoke_state]; exact hsteps.trans h⟩
abbrev vx_CVW (R : Room) (s : State) (args : Array Value) (own C : String) (index : Nat) (y : MethodName) (bytes : ByteArray) (maxL : Nat) (ret : Option FieldType) (hh : List (Nat × Nat × Nat × Nat)) (ws : List Cond) (rm : Room) (mc ms n : Nat) : Prop :=
  (rm.cells = mc ∧ rm.slots = ms ∧ rm.frames + 1 ≤ R.frames ∧ 8 + (maxL + 11) + rm.locals ≤ R.locals ∧ (∀ w ∈ ws, ∀ (a' : Array Value) (U : State), s.WarmedH U.vm → w.before a' U = true) ∧ Cond.codeWith y bytes maxL ret hh ∈ ws) ∧
  (Cond.codeWith y bytes maxL ret hh).before args s = true ∧ (Cond.initialized y.cls).before args s = true ∧ (y.cls ≠ "java/lang/invoke/MethodHandle" ∧ y.cls ≠ "java/lang/invoke/VarHandle") ∧
  (∀ sig, parseMethodDescriptor y.desc = some sig → n = sig.parameters.length) ∧ (Cond.methodLink own index y).before args s = true ∧ (Cond.instanceMethod y).before args s = true ∧ (Cond.selects C y y).before args s = true
theorem vx_cwVW {own C : String} {index maxL mc ms : Nat} {y : MethodName} {bytes : ByteArray} {ret : Option FieldType} {hh : List (Nat × Nat × Nat × Nat)} {Ts ws ws' : List Cond} {rm : Room} (n : Nat) (ht : ∀ w ∈ Ts, w.before args s = true) (hT : GoodIn Ts (wsV own index C y ws)) (hw : ws = Cond.codeWith y bytes maxL ret hh :: ws') (hrc : rm.cells = mc) (hrs : rm.slots = ms)
    (hd : y.cls = C ∧ y.cls ≠ "java/lang/invoke/MethodHandle" ∧ y.cls ≠ "java/lang/invoke/VarHandle" ∧ (parseMethodDescriptor y.desc).map (fun d => d.parameters.length) = some n) (hR : rm.frames + 1 ≤ R.frames ∧ 8 + (maxL + 11) + rm.locals ≤ R.locals) :
    vx_CVW R s args own C index y bytes maxL ret hh ws rm mc ms n := by
  obtain ⟨hC, hd⟩ := hd
  subst hC
  have ok : ∀ w ∈ wsV own index y.cls y ws, w.before args s = true := fun w h => ht w (hT w h).1
  have hG : GoodIn Ts ws := fun w h => hT w (by unfold wsV; exact List.mem_append_right _ h)
  have hc : Cond.codeWith y bytes maxL ret hh ∈ ws := by rw [hw]; exact List.mem_cons_self
  refine ⟨⟨hrc, hrs, hR.1, hR.2, pay_in ht hG, hc⟩, ht _ (hG _ hc).1, ok _ (by simp [wsV]), ⟨hd.1, hd.2.1⟩, fun sig h => ?_, ok _ (by simp [wsV]), ok _ (by simp [wsV]), ok _ (by simp [wsV])⟩
  have h2 := hd.2.2
  rw [h] at h2
  exact (Option.some.inj h2).symm
theorem vx_runVW {y : MethodName} {bytes cc : ByteArray} {maxL nL mc ms n index : Nat} {ret : Option FieldType} {hh : List (Nat × Nat × Nat × Nat)} {ws : List Cond} {rm : Room} {Pc : Array Value → State → Prop} {Qc : Array Value → State → Outcome → State → Prop} {free : Addr → Prop} {Ts : List Cond} {own C : String} {b : Addr} {As rest : List Value} {g : JFrame}
    (S : CallFix p m c cc nL s args Ts own) (hM : Met l y ws rm Pc Qc mc ms free) (cw : vx_CVW R s args own C index y bytes maxL ret hh ws rm mc ms n) (hp : PreV s H C b Pc As)
    (hg : g.method = m) (hn : As.length = n) (hsize : g.locals.size = nL) (hstack : g.stack = As.reverse ++ .ref b :: rest) (hW : 2 * g.monitorRoom + (rest.map fun v => v.category).sum ≤ 8) (hdg : decode cc g.pc = .ok (.invokevirtual index, 3)) (hf : cells + mc ≤ R.cells ∧ slots + ms ≤ R.slots) :
    va_Run p l e R s m args below meth c H locs cells slots mc ms g rest (Qc (Value.ref b :: As).toArray) free := by
  obtain ⟨⟨hrc, hrs, hfr, hlo, hws, hcw⟩, hcode, hini, hy, hlen, hl, hin, hse⟩ := cw
  have hK : Back l R p e below s args y 3 8 (PreOf R mc ms Pc) (PostOf Qc mc ms free) := va_backW (hh := hh) (bytes := bytes) (maxL := maxL) (ret := ret) hM hp.1 hrc hrs hfr hlo hws hcw (fun a' U hW => word_at hW (Or.inl (by first | rfl | simp [Cond.onTables, Cond.keeps, Cond.steady])) hini)
  obtain ⟨hx, hb, hml, ho, -⟩ := S
  obtain ⟨-, ⟨cellB, hcB, hoB, hclB⟩, hPc⟩ := hp
  intro T hT X
  obtain ⟨v, vm₁, ⟨U', l2, c2, s2⟩, hW₁, X', ⟨g', mk, t, L, e1, e2, hq, h1, hL, h2, h3⟩, st⟩ := vx_callVW X hx (C := C) (hh := hh) (bytes := bytes) (maxL := maxL) (ret := ret) ho hl hin hse hcode hy hK (by rw [hT]; exact hcB) hoB hclB hg (hsize.trans hml.symm) (argsL := As) (rest := rest) (fun sig h => hn.trans (hlen sig h)) hstack hW (by rw [hb]; exact hdg)
    (fun vm₁ hW₁ => ⟨hf.1, hf.2, hPc (T.setVm vm₁) hT hW₁⟩)
  dsimp only [Pt.U, Pt.locs, Pt.cells, Pt.slots] at X' e1 e2 h1 h2 h3 st
  subst h1; subst h2; subst h3
  exact ⟨v, (T.setVm vm₁).calling g' mk (Value.ref b :: As).toArray, t, U', L, hT, X', hL, e1, e2, hq, st⟩
section
variable {y : MethodName} {bytes cc : ByteArray} {maxL nL mc ms n index : Nat} {ret : Option FieldType} {ws : List Cond} {rm : Room} {Pc : Array Value → State → Prop} {Qc : Array Value → State → Outcome → State → Prop} {XC : String → State → State → Prop} {free : Addr → Prop} {Ts : List Cond} {own C : String} {b : Addr} {As rest : List Value} {g : JFrame}
theorem vx_runVX {hh : List (Nat × Nat × Nat × Nat)} (S : CallFix p m c cc nL s args Ts own) (hM : vx_Met l y ws rm Pc Qc XC mc ms free) (cw : vx_CVW R s args own C index y bytes maxL ret hh ws rm mc ms n) (hp : PreV s H C b Pc As)
    (hg : g.method = m) (hn : As.length = n) (hsize : g.locals.size = nL) (hstack : g.stack = As.reverse ++ .ref b :: rest) (hW : 2 * g.monitorRoom + (rest.map fun v => v.category).sum ≤ 8) (hdg : decode cc g.pc = .ok (.invokevirtual index, 3)) (hf : cells + mc ≤ R.cells ∧ slots + ms ≤ R.slots) :
    vx_Run p l e R s m args below meth c H locs cells slots mc ms g rest (Qc (Value.ref b :: As).toArray) XC free := by
  obtain ⟨⟨hrc, hrs, hfr, hlo, hws, hcw⟩, hcode, hini, hy, hlen, hl, hin, hse⟩ := cw
  have hK : vx_Back l R p e below s args y 3 8 (PreOf R mc ms Pc) (PostOf Qc mc ms free) (vx_Post XC mc ms free) := vx_backW (hh := hh) (bytes := bytes) (maxL := maxL) (ret := ret) hM hp.1 hrc hrs hfr hlo hws hcw (fun a' U hW => word_at hW (Or.inl (by first | rfl | simp [Cond.onTables, Cond.keeps, Cond.steady])) hini)
  obtain ⟨hx, hb, hml, ho, -⟩ := S
  obtain ⟨-, ⟨cellB, hcB, hoB, hclB⟩, hPc⟩ := hp
  intro T hT X
  rcases vx_callVX X hx (C := C) (hh := hh) (bytes := bytes) (maxL := maxL) (ret := ret) ho hl hin hse hcode hy hK (by rw [hT]; exact hcB) hoB hclB hg (hsize.trans hml.symm) (argsL := As) (rest := rest) (fun sig h => hn.trans (hlen sig h)) hstack hW (by rw [hb]; exact hdg)
    (fun vm₁ hW₁ => ⟨hf.1, hf.2, hPc (T.setVm vm₁) hT hW₁⟩) with ⟨v, vm₁, ⟨U', l2, c2, s2⟩, hW₁, X', ⟨g', mk, t, L, e1, e2, hq, h1, hL, h2, h3⟩, st⟩ | ⟨q, vm₁, ⟨U', l2, c2, s2⟩, hW₁, X', ⟨g', mk, t, L, E, ce, e1, e2, hq, hce, hcv, hcl, h1, hL, h2, h3⟩, st⟩
  · dsimp only [Pt.U, Pt.locs, Pt.cells, Pt.slots] at X' e1 e2 h1 h2 h3 st
    subst h1; subst h2; subst h3
    exact Or.inl ⟨v, (T.setVm vm₁).calling g' mk (Value.ref b :: As).toArray, t, U', L, hT, X', hL, e1, e2, hq, st⟩
  · dsimp only [Pt.U, Pt.locs, Pt.cells, Pt.slots] at X' e1 e2 h1 h2 h3 st hcl
    subst h1; subst h2; subst h3
    exact Or.inr ⟨q, (T.setVm vm₁).calling g' mk (Value.ref b :: As).toArray, t, U', L, E, ce, hT, X', hL, e1, e2, hq, hce, hcv, vx_cls hW₁ hcl, st⟩
theorem vx_runSX {hh : List (Nat × Nat × Nat × Nat)} (S : CallFix p m c cc nL s args Ts own) (hM : vx_Met l y ws rm Pc Qc XC mc ms free) (cw : vx_CSW R s args own index y bytes maxL ret hh ws rm mc ms n) (hp : PreS s H Pc As)
    (hg : g.method = m) (hn : As.length = n) (hsize : g.locals.size = nL) (hstack : g.stack = As.reverse ++ rest) (hW : 2 * g.monitorRoom + (rest.map fun v => v.category).sum ≤ 8) (hdg : decode cc g.pc = .ok (.invokestatic index, 3)) (hf : cells + mc ≤ R.cells ∧ slots + ms ≤ R.slots) :
    vx_Run p l e R s m args below meth c H locs cells slots mc ms g rest (Qc As.toArray) XC free := by
  obtain ⟨⟨hrc, hrs, hfr, hlo, hws, hcw⟩, hcode, hini, hy, hlen, hl, hstt⟩ := cw
  have hK : vx_Back l R p e below s args y 3 8 (PreOf R mc ms Pc) (PostOf Qc mc ms free) (vx_Post XC mc ms free) := vx_backW (hh := hh) (bytes := bytes) (maxL := maxL) (ret := ret) hM hp.1 hrc hrs hfr hlo hws hcw (fun a' U hW => word_at hW (Or.inl (by first | rfl | simp [Cond.onTables, Cond.keeps, Cond.steady])) hini)
  obtain ⟨hx, hb, hml, ho, -⟩ := S
  intro T hT X
  rcases vx_callSX X hx (hh := hh) (bytes := bytes) (maxL := maxL) (ret := ret) ho hl hstt hini hcode hy hK hg (hsize.trans hml.symm) (argsL := As) (rest := rest) (fun sig h => hn.trans (hlen sig h)) hstack hW (by rw [hb]; exact hdg)
    (fun vm₁ hW₁ => ⟨hf.1, hf.2, hp.2 (T.setVm vm₁) hT hW₁⟩) with ⟨v, vm₁, ⟨U', l2, c2, s2⟩, hW₁, X', ⟨g', mk, t, L, e1, e2, hq, h1, hL, h2, h3⟩, st⟩ | ⟨q, vm₁, ⟨U', l2, c2, s2⟩, hW₁, X', ⟨g', mk, t, L, E, ce, e1, e2, hq, hce, hcv, hcl, h1, hL, h2, h3⟩, st⟩
  · dsimp only [Pt.U, Pt.locs, Pt.cells, Pt.slots] at X' e1 e2 h1 h2 h3 st
    subst h1; subst h2; subst h3
    exact Or.inl ⟨v, (T.setVm vm₁).calling g' mk As.toArray, t, U', L, hT, X', hL, e1, e2, hq, st⟩
  · dsimp only [Pt.U, Pt.locs, Pt.cells, Pt.slots] at X' e1 e2 h1 h2 h3 st hcl
    subst h1; subst h2; subst h3
    exact Or.inr ⟨q, (T.setVm vm₁).calling g' mk As.toArray, t, U', L, E, ce, hT, X', hL, e1, e2, hq, hce, hcv, vx_cls hW₁ hcl, st⟩
end
end VXH
theorem vx_ofWH {l : Launch} {y : MethodName} {ws ws' : List Cond} {rm : Room} {Pc : Array Value → State → Prop} {Qc : Array Value → State → Outcome → State → Prop} {XC : String → State → State → Prop} {mc ms : Nat} {free : Addr → Prop} {cc : ByteArray} {maxL : Nat} {ret : Option FieldType} {hh : List (Nat × Nat × Nat × Nat)}
    (hy : plainName y.cls = true) (hw : ws = Cond.codeWith y cc maxL ret hh :: ws')
    (body : ∀ p e s m args below meth c s₁, BodyLoose p l y (headSpec ws rm) cc maxL ret e s m args below meth c s₁ → c.maxLocals = maxL → Pc args s →
      W p l e (headSpec ws rm).room s m args below meth c s.heap [] 0 0 (vx_MQ below Qc XC args s mc ms free) (entryFrame m args maxL)) : vx_Met l y ws rm Pc Qc XC mc ms free := by
  refine MetFree.of_bodyS (code := cc) (maxLocals := maxL) (ret := ret) hy ?_ ?_
  · intro args s m h hn
    obtain ⟨m9, meth, c, hn9, h1, h2, h3, h4, -, h5, h6, -⟩ := Cond.codeWith_spec (atoms_spec (ws := ws) h _ (by rw [hw]; exact List.mem_cons_self))
    cases hn.symm.trans hn9
    exact ⟨meth, c, h1, h2, h3, h4, h5, h6⟩
  · intro p e s m args below meth c s₁ B hml hP _
    have hh0 : s₁.heap = s.heap := by rw [B.state]; rfl
    obtain ⟨t, a1, o, b1, b2, b3⟩ := body p e s m args below meth c s₁ B hml hP s₁ hh0 (Stand.of_body B)
    exact ⟨t, o, a1, b1, b2, b3⟩
/-! ===== END ===== -/
end
section
/-- the tables' words that every method may hand on -/
def GW : List Cond := lw_tbl.filter goodWord
theorem gw {w : Cond} (i : Nat) (h : lw_tbl[i]? = some w) (g : goodWord w = true) : w ∈ GW := List.mem_filter.mpr ⟨List.mem_of_getElem? h, g⟩
theorem gw_tbl {w : Cond} (h : w ∈ GW) : w ∈ lw_tbl := (List.mem_filter.mp h).1
def nstW : Cond → Bool
  | .fieldLinkNest .. => true
  | .methodLinkNest .. => true
  | .declares .. => true
  | .castable .. => true
  | _ => false
def NW : List Cond := lw_tbl.filter nstW
theorem nw {w : Cond} (i : Nat) (h : lw_tbl[i]? = some w) (g : nstW w = true) : w ∈ NW := List.mem_filter.mpr ⟨List.mem_of_getElem? h, g⟩
/-- a method's words: its own code, then all good words of the tables -/
def wy (y : MethodName) (b : ByteArray) (n : Nat) (ret : Option FieldType) : List Cond := .code y b n ret :: GW
def wyH (y : MethodName) (b : ByteArray) (n : Nat) (ret : Option FieldType) (hh : List (Nat × Nat × Nat × Nat)) : List Cond := .codeWith y b n ret hh :: GW
theorem gw_good : ∀ w ∈ GW, goodWord w = true := fun _ h => (List.mem_filter.mp h).2
theorem gi_wy {y : MethodName} {b : ByteArray} {n : Nat} {ret : Option FieldType} (h : Cond.code y b n ret ∈ GW) : GoodIn GW (wy y b n ret) := fun w hw => by
  rcases List.mem_cons.mp hw with rfl | hw
  · exact ⟨h, good_of_word (gw_good _ h)⟩
  · exact ⟨hw, good_of_word (gw_good _ hw)⟩
theorem gi_wyH {y : MethodName} {b : ByteArray} {n : Nat} {ret : Option FieldType} {hh : List (Nat × Nat × Nat × Nat)} (h : Cond.codeWith y b n ret hh ∈ GW) : GoodIn GW (wyH y b n ret hh) := fun w hw => by
  rcases List.mem_cons.mp hw with rfl | hw
  · exact ⟨h, good_of_word (gw_good _ h)⟩
  · exact ⟨hw, good_of_word (gw_good _ hw)⟩

theorem q_0 : Cond.selects "java/lang/Throwable" ⟨"java/lang/Throwable", "fillInStackTrace", "(I)Ljava/lang/Throwable;"⟩ ⟨"java/lang/Throwable", "fillInStackTrace", "(I)Ljava/lang/Throwable;"⟩ ∈ GW := gw 0 (by decide +kernel) rfl
theorem q_1 : Cond.selects RX8 yX8_netNumbered yX8_netNumbered ∈ GW := gw 1 (by decide +kernel) rfl
theorem q_2 : Cond.selects RX3 yX3_countChapters yX3_countChapters ∈ GW := gw 2 (by decide +kernel) rfl
theorem q_3 : Cond.selects RX3 yX3_knots yX3_knots ∈ GW := gw 3 (by decide +kernel) rfl
theorem q_4 : Cond.selects RX3 yX3_chapterAt yX3_chapterAt ∈ GW := gw 4 (by decide +kernel) rfl
theorem q_5 : Cond.selects RX3 yX3_wholeAcross yX3_wholeAcross ∈ GW := gw 5 (by decide +kernel) rfl
theorem q_6 : Cond.selects RX3 yX3_wholeDown yX3_wholeDown ∈ GW := gw 6 (by decide +kernel) rfl
theorem q_7 : Cond.selects RX8 yX8_countKnots yX8_countKnots ∈ GW := gw 7 (by decide +kernel) rfl
theorem q_8 : Cond.selects RX8 yX8_countAllChapters yX8_countAllChapters ∈ GW := gw 8 (by decide +kernel) rfl
theorem q_9 : Cond.selects RX8 yX8_countTorn yX8_countTorn ∈ GW := gw 9 (by decide +kernel) rfl
theorem q_10 : Cond.selects RX3 yX3_countTorn yX3_countTorn ∈ GW := gw 10 (by decide +kernel) rfl
theorem q_11 : Cond.selects RX8 yX8_sumTwine yX8_sumTwine ∈ GW := gw 11 (by decide +kernel) rfl
theorem q_12 : Cond.selects RX8 yX8_editorNumbered yX8_editorNumbered ∈ GW := gw 12 (by decide +kernel) rfl
theorem q_13 : Cond.selects RX8 yX8_countAsNoted yX8_countAsNoted ∈ GW := gw 13 (by decide +kernel) rfl
theorem q_14 : Cond.selects RX8 yX8_noteNumbered yX8_noteNumbered ∈ GW := gw 14 (by decide +kernel) rfl
theorem q_15 : Cond.selects RX8 yX8_readsAsNoted yX8_readsAsNoted ∈ GW := gw 15 (by decide +kernel) rfl
theorem q_16 : Cond.selects RX4 yX4_places yX4_places ∈ GW := gw 16 (by decide +kernel) rfl
theorem q_17 : Cond.selects RX4 yX4_isOf yX4_isOf ∈ GW := gw 17 (by decide +kernel) rfl
theorem q_18 : Cond.selects RX9 yX9_reasonAgainstKnot yX9_reasonAgainstKnot ∈ GW := gw 18 (by decide +kernel) rfl
theorem q_19 : Cond.selects RX9 yX9_found yX9_found ∈ GW := gw 19 (by decide +kernel) rfl
theorem q_20 : Cond.selects RX3 yX3_kindAt yX3_kindAt ∈ GW := gw 20 (by decide +kernel) rfl
theorem q_21 : Cond.selects RX9 yX9_keepsReason yX9_keepsReason ∈ GW := gw 21 (by decide +kernel) rfl
theorem q_22 : Cond.selects RX6 yX6_keepAlone yX6_keepAlone ∈ GW := gw 22 (by decide +kernel) rfl
theorem q_23 : Cond.selects RX1 yX1_push yX1_push ∈ GW := gw 23 (by decide +kernel) rfl
theorem q_24 : Cond.selects RX8 yX8_copyFrom yX8_copyFrom ∈ GW := gw 24 (by decide +kernel) rfl
theorem q_25 : Cond.selects RX3 yX3_copyFrom yX3_copyFrom ∈ GW := gw 25 (by decide +kernel) rfl
theorem q_26 : Cond.selects RX0 yX0_copyFrom yX0_copyFrom ∈ GW := gw 26 (by decide +kernel) rfl
theorem q_27 : Cond.selects RX4 yX4_copyFrom yX4_copyFrom ∈ GW := gw 27 (by decide +kernel) rfl
theorem q_28 : Cond.selects RX3 yX3_tie yX3_tie ∈ GW := gw 28 (by decide +kernel) rfl
theorem q_29 : Cond.selects RX9 yX9_reasonAgainstTear yX9_reasonAgainstTear ∈ GW := gw 29 (by decide +kernel) rfl
theorem q_30 : Cond.selects RX9 yX9_reasonAgainstEnds yX9_reasonAgainstEnds ∈ GW := gw 30 (by decide +kernel) rfl
theorem q_31 : Cond.selects RX9 yX9_reasonAgainstString yX9_reasonAgainstString ∈ GW := gw 31 (by decide +kernel) rfl
theorem q_32 : Cond.selects RX3 yX3_isTornBetween yX3_isTornBetween ∈ GW := gw 32 (by decide +kernel) rfl
theorem q_33 : Cond.selects RX8 yX8_tearString yX8_tearString ∈ GW := gw 33 (by decide +kernel) rfl
theorem q_34 : Cond.selects RX3 yX3_putString yX3_putString ∈ GW := gw 34 (by decide +kernel) rfl
theorem q_35 : Cond.selects RX9 yX9_reasonAgainstMend yX9_reasonAgainstMend ∈ GW := gw 35 (by decide +kernel) rfl
theorem q_36 : Cond.selects RX8 yX8_hasEditor yX8_hasEditor ∈ GW := gw 36 (by decide +kernel) rfl
theorem q_37 : Cond.selects RX8 yX8_mendString yX8_mendString ∈ GW := gw 37 (by decide +kernel) rfl
theorem q_38 : Cond.selects RX9 yX9_reasonAgainstEditor yX9_reasonAgainstEditor ∈ GW := gw 38 (by decide +kernel) rfl
theorem q_39 : Cond.selects RX8 yX8_addEditor yX8_addEditor ∈ GW := gw 39 (by decide +kernel) rfl
theorem q_40 : Cond.selects RX9 yX9_reasonAgainstTide yX9_reasonAgainstTide ∈ GW := gw 40 (by decide +kernel) rfl
theorem q_41 : Cond.selects RX8 yX8_countReadable yX8_countReadable ∈ GW := gw 41 (by decide +kernel) rfl
theorem q_42 : Cond.selects RX8 yX8_dryPlaces yX8_dryPlaces ∈ GW := gw 42 (by decide +kernel) rfl
theorem q_43 : Cond.selects RX8 yX8_linesUnderWater yX8_linesUnderWater ∈ GW := gw 43 (by decide +kernel) rfl
theorem q_44 : Cond.selects RX9 yX9_reasonAgainstSink yX9_reasonAgainstSink ∈ GW := gw 44 (by decide +kernel) rfl
theorem q_45 : Cond.selects RX9 yX9_reasonAgainstNote yX9_reasonAgainstNote ∈ GW := gw 45 (by decide +kernel) rfl
theorem q_46 : Cond.selects RX8 yX8_lowestNoteOf yX8_lowestNoteOf ∈ GW := gw 46 (by decide +kernel) rfl
theorem q_47 : Cond.selects RX8 yX8_addNote yX8_addNote ∈ GW := gw 47 (by decide +kernel) rfl
theorem q_48 : Cond.selects RX9 yX9_reasonAgainstDrop yX9_reasonAgainstDrop ∈ GW := gw 48 (by decide +kernel) rfl
theorem q_49 : Cond.selects RX8 yX8_hasNote yX8_hasNote ∈ GW := gw 49 (by decide +kernel) rfl
theorem q_50 : Cond.selects RX8 yX8_removeNote yX8_removeNote ∈ GW := gw 50 (by decide +kernel) rfl
theorem q_51 : Cond.selects RX7 yX7_isFull yX7_isFull ∈ GW := gw 51 (by decide +kernel) rfl
theorem q_52 : Cond.selects RX7 yX7_append yX7_append ∈ GW := gw 52 (by decide +kernel) rfl
theorem q_53 : Cond.selects RX7 yX7_findFault yX7_findFault ∈ GW := gw 53 (by decide +kernel) rfl
theorem q_54 : Cond.selects RX7 yX7_readOrder yX7_readOrder ∈ GW := gw 54 (by decide +kernel) rfl
theorem q_55 : Cond.selects RX7 yX7_readForm yX7_readForm ∈ GW := gw 55 (by decide +kernel) rfl
theorem q_56 : Cond.selects RX7 yX7_isDigitNext yX7_isDigitNext ∈ GW := gw 56 (by decide +kernel) rfl
theorem q_57 : Cond.selects RX7 yX7_isInText yX7_isInText ∈ GW := gw 57 (by decide +kernel) rfl
theorem q_58 : Cond.selects RX7 yX7_readNumber yX7_readNumber ∈ GW := gw 58 (by decide +kernel) rfl
theorem q_59 : Cond.selects RX7 yX7_putNumber yX7_putNumber ∈ GW := gw 59 (by decide +kernel) rfl
theorem q_60 : Cond.selects RX7 yX7_isNext yX7_isNext ∈ GW := gw 60 (by decide +kernel) rfl
theorem q_61 : Cond.selects RX7 yX7_putWord yX7_putWord ∈ GW := gw 61 (by decide +kernel) rfl
theorem q_62 : Cond.selects RX7 yX7_clear yX7_clear ∈ GW := gw 62 (by decide +kernel) rfl
theorem q_63 : Cond.selects RX9 yX9_reasonAgainstOrder yX9_reasonAgainstOrder ∈ GW := gw 63 (by decide +kernel) rfl
theorem q_64 : Cond.selects RX7 yX7_numberAt yX7_numberAt ∈ GW := gw 64 (by decide +kernel) rfl
theorem q_65 : Cond.selects RX7 yX7_wordAt yX7_wordAt ∈ GW := gw 65 (by decide +kernel) rfl
theorem q_66 : Cond.selects RX6 yX6_keepOrder yX6_keepOrder ∈ GW := gw 66 (by decide +kernel) rfl
theorem q_67 : Cond.selects RX9 yX9_doOrder yX9_doOrder ∈ GW := gw 67 (by decide +kernel) rfl
theorem q_68 : Cond.selects RX3 yX3_greatestChapter yX3_greatestChapter ∈ GW := gw 68 (by decide +kernel) rfl
theorem q_69 : Cond.selects RX3 yX3_twineForAll yX3_twineForAll ∈ GW := gw 69 (by decide +kernel) rfl
theorem q_70 : Cond.selects RX2 yX2_clear yX2_clear ∈ GW := gw 70 (by decide +kernel) rfl
theorem q_71 : Cond.selects RX2 yX2_appendKnots yX2_appendKnots ∈ GW := gw 71 (by decide +kernel) rfl
theorem q_72 : Cond.selects RX2 yX2_append yX2_append ∈ GW := gw 72 (by decide +kernel) rfl
theorem q_73 : Cond.selects RX3 yX3_countWholeWithin yX3_countWholeWithin ∈ GW := gw 73 (by decide +kernel) rfl
theorem q_74 : Cond.selects RX3 yX3_chapterRanked yX3_chapterRanked ∈ GW := gw 74 (by decide +kernel) rfl
theorem q_75 : Cond.selects RX3 yX3_bestTornString yX3_bestTornString ∈ GW := gw 75 (by decide +kernel) rfl
theorem q_76 : Cond.selects RX3 yX3_knotsJoinedBy yX3_knotsJoinedBy ∈ GW := gw 76 (by decide +kernel) rfl
theorem q_77 : Cond.selects RX3 yX3_countChaptersByStrings yX3_countChaptersByStrings ∈ GW := gw 77 (by decide +kernel) rfl
theorem q_78 : Cond.selects RX5 yX5_separate yX5_separate ∈ GW := gw 78 (by decide +kernel) rfl
theorem q_79 : Cond.selects RX5 yX5_joinAll yX5_joinAll ∈ GW := gw 79 (by decide +kernel) rfl
theorem q_80 : Cond.selects RX5 yX5_join yX5_join ∈ GW := gw 80 (by decide +kernel) rfl
theorem q_81 : Cond.selects RX3 yX3_writeLine yX3_writeLine ∈ GW := gw 81 (by decide +kernel) rfl
theorem q_82 : Cond.selects RX8 yX8_canBeMended yX8_canBeMended ∈ GW := gw 82 (by decide +kernel) rfl
theorem q_83 : Cond.selects RX3 yX3_hasStringOutOf yX3_hasStringOutOf ∈ GW := gw 83 (by decide +kernel) rfl
theorem q_84 : Cond.selects RX8 yX8_leastByStrings yX8_leastByStrings ∈ GW := gw 84 (by decide +kernel) rfl
theorem q_85 : Cond.selects RX3 yX3_leastByStrings yX3_leastByStrings ∈ GW := gw 85 (by decide +kernel) rfl
theorem q_86 : Cond.selects RX8 yX8_leastByPlaces yX8_leastByPlaces ∈ GW := gw 86 (by decide +kernel) rfl
theorem q_87 : Cond.selects RX3 yX3_leastByPlaces yX3_leastByPlaces ∈ GW := gw 87 (by decide +kernel) rfl
theorem q_88 : Cond.selects RX8 yX8_areChaptersToldAlike yX8_areChaptersToldAlike ∈ GW := gw 88 (by decide +kernel) rfl
theorem q_89 : Cond.selects RX8 yX8_areNotesToldAlike yX8_areNotesToldAlike ∈ GW := gw 89 (by decide +kernel) rfl
theorem q_90 : Cond.selects RX1 yX1_popInto yX1_popInto ∈ GW := gw 90 (by decide +kernel) rfl
theorem q_91 : Cond.selects RX1 yX1_clear yX1_clear ∈ GW := gw 91 (by decide +kernel) rfl
theorem q_92 : Cond.initialized "NetScriptLaw" ∈ GW := gw 92 (by decide +kernel) rfl
theorem q_93 : Cond.initialized "NetScript" ∈ GW := gw 93 (by decide +kernel) rfl
theorem q_94 : Cond.initialized "NetScript$State" ∈ GW := gw 94 (by decide +kernel) rfl
theorem q_95 : Cond.initialized "NetScript$Net" ∈ GW := gw 95 (by decide +kernel) rfl
theorem q_96 : Cond.initialized "NetScript$Editor" ∈ GW := gw 96 (by decide +kernel) rfl
theorem q_97 : Cond.initialized "NetScript$Note" ∈ GW := gw 97 (by decide +kernel) rfl
theorem q_98 : Cond.initialized "NetScript$History" ∈ GW := gw 98 (by decide +kernel) rfl
theorem q_99 : Cond.initialized "NetScript$Parts" ∈ GW := gw 99 (by decide +kernel) rfl
theorem q_100 : Cond.initialized "NetScript$Script" ∈ GW := gw 100 (by decide +kernel) rfl
theorem q_101 : Cond.initialized "NetScript$Line" ∈ GW := gw 101 (by decide +kernel) rfl
theorem q_102 : Cond.initialized "NetScript$Refusal" ∈ GW := gw 102 (by decide +kernel) rfl
theorem q_103 : Cond.initialized "java/lang/Number" ∈ GW := gw 103 (by decide +kernel) rfl
theorem q_104 : Cond.initialized "java/lang/Integer" ∈ GW := gw 104 (by decide +kernel) rfl
theorem q_105 : Cond.initialized "java/lang/Throwable" ∈ GW := gw 105 (by decide +kernel) rfl
theorem q_106 : Cond.initialized "java/lang/Exception" ∈ GW := gw 106 (by decide +kernel) rfl
theorem q_107 : Cond.initialized "java/lang/RuntimeException" ∈ GW := gw 107 (by decide +kernel) rfl
theorem q_108 : Cond.initialized "java/lang/IllegalArgumentException" ∈ GW := gw 108 (by decide +kernel) rfl
theorem q_109 : Cond.initialized "java/lang/IndexOutOfBoundsException" ∈ GW := gw 109 (by decide +kernel) rfl
theorem q_110 : Cond.initialized "java/lang/ArrayIndexOutOfBoundsException" ∈ GW := gw 110 (by decide +kernel) rfl
theorem q_111 : Cond.initialized "java/lang/String" ∈ GW := gw 111 (by decide +kernel) rfl
theorem q_112 : Cond.initialized "java/lang/Math" ∈ GW := gw 112 (by decide +kernel) rfl
theorem q_113 : Cond.initialized "java/util/NoSuchElementException" ∈ GW := gw 113 (by decide +kernel) rfl
theorem q_114 : Cond.initialized "java/lang/UnsupportedOperationException" ∈ GW := gw 114 (by decide +kernel) rfl
theorem q_115 : Cond.initialized "java/lang/AbstractStringBuilder" ∈ GW := gw 115 (by decide +kernel) rfl
theorem q_116 : Cond.initialized "java/lang/StringBuilder" ∈ GW := gw 116 (by decide +kernel) rfl
theorem q_117 : Cond.initialized "java/lang/StringUTF16" ∈ GW := gw 117 (by decide +kernel) rfl
theorem q_118 : Cond.initialized "jdk/internal/util/ArraysSupport" ∈ GW := gw 118 (by decide +kernel) rfl
theorem q_119 : Cond.initialized "java/util/Arrays" ∈ GW := gw 119 (by decide +kernel) rfl
theorem q_120 : Cond.initialized "java/lang/System" ∈ GW := gw 120 (by decide +kernel) rfl
theorem q_121 : Cond.initialized "jdk/internal/util/Preconditions" ∈ GW := gw 121 (by decide +kernel) rfl
theorem q_122 : Cond.initialized "java/lang/StringLatin1" ∈ GW := gw 122 (by decide +kernel) rfl
theorem q_123 : Cond.initialized "java/lang/IllegalStateException" ∈ GW := gw 123 (by decide +kernel) rfl
theorem q_124 : Cond.initialized "java/lang/ArithmeticException" ∈ GW := gw 124 (by decide +kernel) rfl
theorem q_125 : Cond.classLink "NetScriptLaw" 15 "NetScript" ∈ GW := gw 125 (by decide +kernel) rfl
theorem q_126 : Cond.instantiable "NetScript" 11 ∈ GW := gw 126 (by decide +kernel) rfl
theorem q_127 : Cond.methodLink "NetScriptLaw" 162 yX9_init ∈ GW := gw 127 (by decide +kernel) rfl
theorem q_128 : Cond.instanceMethod yX9_init ∈ GW := gw 128 (by decide +kernel) rfl
theorem q_129 : Cond.code yX9_init cX9_init 1 (Option.none : Option Jvm.ClassFile.FieldType) ∈ GW := gw 129 (by decide +kernel) rfl
theorem q_130 : Cond.methodLink "NetScript" 3 ⟨"java/lang/Object", "<init>", "()V"⟩ ∈ GW := gw 130 (by decide +kernel) rfl
theorem q_131 : Cond.instanceMethod ⟨"java/lang/Object", "<init>", "()V"⟩ ∈ GW := gw 131 (by decide +kernel) rfl
theorem q_132 : Cond.code ⟨"java/lang/Object", "<init>", "()V"⟩ object_method_1_code 1 (Option.none : Option Jvm.ClassFile.FieldType) ∈ GW := gw 132 (by decide +kernel) rfl
theorem q_133 : Cond.classLink "NetScript" 9 "NetScript$State" ∈ GW := gw 133 (by decide +kernel) rfl
theorem q_134 : Cond.instantiable "NetScript$State" 9 ∈ GW := gw 134 (by decide +kernel) rfl
theorem q_135 : Cond.methodLinkNest "NetScript" 11 yX8_init "NetScript" ∈ NW := nw 135 (by decide +kernel) rfl
theorem q_136 : Cond.instanceMethod yX8_init ∈ GW := gw 136 (by decide +kernel) rfl
theorem q_137 : Cond.code yX8_init cX8_init 2 (Option.none : Option Jvm.ClassFile.FieldType) ∈ GW := gw 137 (by decide +kernel) rfl
theorem q_138 : Cond.methodLink "NetScript$State" 3 ⟨"java/lang/Object", "<init>", "()V"⟩ ∈ GW := gw 138 (by decide +kernel) rfl
theorem q_139 : Cond.classLink "NetScript$State" 9 "NetScript$Net" ∈ GW := gw 139 (by decide +kernel) rfl
theorem q_141 : Cond.classLink "NetScript$State" 17 "NetScript$Editor" ∈ GW := gw 141 (by decide +kernel) rfl
theorem q_143 : Cond.classLink "NetScript$State" 23 "NetScript$Note" ∈ GW := gw 143 (by decide +kernel) rfl
theorem q_145 : Cond.instantiable "NetScript$Net" 5 ∈ GW := gw 145 (by decide +kernel) rfl
theorem q_146 : Cond.methodLinkNest "NetScript$State" 48 yX3_init "NetScript" ∈ NW := nw 146 (by decide +kernel) rfl
theorem q_147 : Cond.instanceMethod yX3_init ∈ GW := gw 147 (by decide +kernel) rfl
theorem q_148 : Cond.code yX3_init cX3_init 1 (Option.none : Option Jvm.ClassFile.FieldType) ∈ GW := gw 148 (by decide +kernel) rfl
theorem q_149 : Cond.methodLink "NetScript$Net" 3 ⟨"java/lang/Object", "<init>", "()V"⟩ ∈ GW := gw 149 (by decide +kernel) rfl
theorem q_150 : Cond.fieldLink "NetScript$Net" 9 "NetScript$Net" "oddKinds" "I" ∈ GW := gw 150 (by decide +kernel) rfl
theorem q_151 : Cond.fieldLinkNest "NetScript$Note" 19 "NetScript$Net" "oddKinds" "I" "NetScript" ∈ NW := nw 151 (by decide +kernel) rfl
theorem q_152 : Cond.fieldLinkNest "NetScript$State" 98 "NetScript$Net" "oddKinds" "I" "NetScript" ∈ NW := nw 152 (by decide +kernel) rfl
theorem q_153 : Cond.fieldLinkNest "NetScript" 373 "NetScript$Net" "oddKinds" "I" "NetScript" ∈ NW := nw 153 (by decide +kernel) rfl
theorem q_154 : Cond.fieldLink "NetScript$Net" 15 "NetScript$Net" "highKinds" "I" ∈ GW := gw 154 (by decide +kernel) rfl
theorem q_155 : Cond.fieldLinkNest "NetScript$Note" 22 "NetScript$Net" "highKinds" "I" "NetScript" ∈ NW := nw 155 (by decide +kernel) rfl
theorem q_156 : Cond.fieldLinkNest "NetScript$State" 102 "NetScript$Net" "highKinds" "I" "NetScript" ∈ NW := nw 156 (by decide +kernel) rfl
theorem q_157 : Cond.fieldLinkNest "NetScript" 376 "NetScript$Net" "highKinds" "I" "NetScript" ∈ NW := nw 157 (by decide +kernel) rfl
theorem q_158 : Cond.fieldLink "NetScript$Net" 18 "NetScript$Net" "tornAcross" "I" ∈ GW := gw 158 (by decide +kernel) rfl
theorem q_159 : Cond.fieldLink "NetScript$Net" 21 "NetScript$Net" "tornDown" "I" ∈ GW := gw 159 (by decide +kernel) rfl
theorem q_160 : Cond.fieldLink "NetScript$Net" 24 "NetScript$Net" "draught" "I" ∈ GW := gw 160 (by decide +kernel) rfl
theorem q_161 : Cond.fieldLinkNest "NetScript" 162 "NetScript$Net" "draught" "I" "NetScript" ∈ NW := nw 161 (by decide +kernel) rfl
theorem q_162 : Cond.fieldLinkNest "NetScript$State" 127 "NetScript$Net" "draught" "I" "NetScript" ∈ NW := nw 162 (by decide +kernel) rfl
theorem q_163 : Cond.lays "NetScript$Net" "NetScript$Net" "oddKinds" "I" ∈ GW := gw 163 (by decide +kernel) rfl
theorem q_165 : Cond.lays "NetScript$Net" "NetScript$Net" "highKinds" "I" ∈ GW := gw 165 (by decide +kernel) rfl
theorem q_167 : Cond.lays "NetScript$Net" "NetScript$Net" "tornAcross" "I" ∈ GW := gw 167 (by decide +kernel) rfl
theorem q_169 : Cond.lays "NetScript$Net" "NetScript$Net" "tornDown" "I" ∈ GW := gw 169 (by decide +kernel) rfl
theorem q_171 : Cond.lays "NetScript$Net" "NetScript$Net" "draught" "I" ∈ GW := gw 171 (by decide +kernel) rfl
theorem q_173 : Cond.superclass "NetScript$Net" "java/lang/Object" ∈ GW := gw 173 (by decide +kernel) rfl
theorem q_174 : Cond.instantiable "NetScript$Editor" 2 ∈ GW := gw 174 (by decide +kernel) rfl
theorem q_175 : Cond.methodLinkNest "NetScript$State" 49 yX0_init "NetScript" ∈ NW := nw 175 (by decide +kernel) rfl
theorem q_176 : Cond.instanceMethod yX0_init ∈ GW := gw 176 (by decide +kernel) rfl
theorem q_177 : Cond.code yX0_init cX0_init 1 (Option.none : Option Jvm.ClassFile.FieldType) ∈ GW := gw 177 (by decide +kernel) rfl
theorem q_178 : Cond.methodLink "NetScript$Editor" 1 ⟨"java/lang/Object", "<init>", "()V"⟩ ∈ GW := gw 178 (by decide +kernel) rfl
theorem q_179 : Cond.fieldLink "NetScript$Editor" 7 "NetScript$Editor" "twine" "I" ∈ GW := gw 179 (by decide +kernel) rfl
theorem q_180 : Cond.fieldLinkNest "NetScript" 128 "NetScript$Editor" "twine" "I" "NetScript" ∈ NW := nw 180 (by decide +kernel) rfl
theorem q_181 : Cond.fieldLinkNest "NetScript$State" 81 "NetScript$Editor" "twine" "I" "NetScript" ∈ NW := nw 181 (by decide +kernel) rfl
theorem q_182 : Cond.fieldLink "NetScript$Editor" 13 "NetScript$Editor" "mended" "I" ∈ GW := gw 182 (by decide +kernel) rfl
theorem q_183 : Cond.fieldLinkNest "NetScript$State" 84 "NetScript$Editor" "mended" "I" "NetScript" ∈ NW := nw 183 (by decide +kernel) rfl
theorem q_184 : Cond.fieldLinkNest "NetScript" 302 "NetScript$Editor" "mended" "I" "NetScript" ∈ NW := nw 184 (by decide +kernel) rfl
theorem q_185 : Cond.lays "NetScript$Editor" "NetScript$Editor" "twine" "I" ∈ GW := gw 185 (by decide +kernel) rfl
theorem q_187 : Cond.lays "NetScript$Editor" "NetScript$Editor" "mended" "I" ∈ GW := gw 187 (by decide +kernel) rfl
theorem q_189 : Cond.superclass "NetScript$Editor" "java/lang/Object" ∈ GW := gw 189 (by decide +kernel) rfl
theorem q_190 : Cond.instantiable "NetScript$Note" 3 ∈ GW := gw 190 (by decide +kernel) rfl
theorem q_191 : Cond.methodLinkNest "NetScript$State" 50 yX4_init "NetScript" ∈ NW := nw 191 (by decide +kernel) rfl
theorem q_192 : Cond.instanceMethod yX4_init ∈ GW := gw 192 (by decide +kernel) rfl
theorem q_193 : Cond.code yX4_init cX4_init 1 (Option.none : Option Jvm.ClassFile.FieldType) ∈ GW := gw 193 (by decide +kernel) rfl
theorem q_194 : Cond.methodLink "NetScript$Note" 1 ⟨"java/lang/Object", "<init>", "()V"⟩ ∈ GW := gw 194 (by decide +kernel) rfl
theorem q_195 : Cond.fieldLink "NetScript$Note" 7 "NetScript$Note" "net" "I" ∈ GW := gw 195 (by decide +kernel) rfl
theorem q_196 : Cond.fieldLinkNest "NetScript$State" 95 "NetScript$Note" "net" "I" "NetScript" ∈ NW := nw 196 (by decide +kernel) rfl
theorem q_197 : Cond.fieldLinkNest "NetScript" 261 "NetScript$Note" "net" "I" "NetScript" ∈ NW := nw 197 (by decide +kernel) rfl
theorem q_198 : Cond.fieldLink "NetScript$Note" 13 "NetScript$Note" "oddKinds" "I" ∈ GW := gw 198 (by decide +kernel) rfl
theorem q_199 : Cond.fieldLinkNest "NetScript$State" 101 "NetScript$Note" "oddKinds" "I" "NetScript" ∈ NW := nw 199 (by decide +kernel) rfl
theorem q_200 : Cond.fieldLinkNest "NetScript" 382 "NetScript$Note" "oddKinds" "I" "NetScript" ∈ NW := nw 200 (by decide +kernel) rfl
theorem q_201 : Cond.fieldLink "NetScript$Note" 16 "NetScript$Note" "highKinds" "I" ∈ GW := gw 201 (by decide +kernel) rfl
theorem q_202 : Cond.fieldLinkNest "NetScript$State" 105 "NetScript$Note" "highKinds" "I" "NetScript" ∈ NW := nw 202 (by decide +kernel) rfl
theorem q_203 : Cond.fieldLinkNest "NetScript" 383 "NetScript$Note" "highKinds" "I" "NetScript" ∈ NW := nw 203 (by decide +kernel) rfl
theorem q_204 : Cond.lays "NetScript$Note" "NetScript$Note" "net" "I" ∈ GW := gw 204 (by decide +kernel) rfl
theorem q_206 : Cond.lays "NetScript$Note" "NetScript$Note" "oddKinds" "I" ∈ GW := gw 206 (by decide +kernel) rfl
theorem q_208 : Cond.lays "NetScript$Note" "NetScript$Note" "highKinds" "I" ∈ GW := gw 208 (by decide +kernel) rfl
theorem q_210 : Cond.superclass "NetScript$Note" "java/lang/Object" ∈ GW := gw 210 (by decide +kernel) rfl
theorem q_211 : Cond.fieldLink "NetScript$State" 11 "NetScript$State" "nets" "[LNetScript$Net;" ∈ GW := gw 211 (by decide +kernel) rfl
theorem q_212 : Cond.fieldLink "NetScript$State" 19 "NetScript$State" "editors" "[LNetScript$Editor;" ∈ GW := gw 212 (by decide +kernel) rfl
theorem q_213 : Cond.fieldLink "NetScript$State" 25 "NetScript$State" "notes" "[LNetScript$Note;" ∈ GW := gw 213 (by decide +kernel) rfl
theorem q_214 : Cond.fieldLink "NetScript$State" 29 "NetScript$State" "editorCount" "I" ∈ GW := gw 214 (by decide +kernel) rfl
theorem q_215 : Cond.fieldLinkNest "NetScript" 142 "NetScript$State" "editorCount" "I" "NetScript" ∈ NW := nw 215 (by decide +kernel) rfl
theorem q_216 : Cond.fieldLink "NetScript$State" 33 "NetScript$State" "noteCount" "I" ∈ GW := gw 216 (by decide +kernel) rfl
theorem q_217 : Cond.fieldLinkNest "NetScript" 176 "NetScript$State" "noteCount" "I" "NetScript" ∈ NW := nw 217 (by decide +kernel) rfl
theorem q_218 : Cond.fieldLink "NetScript$State" 36 "NetScript$State" "tide" "I" ∈ GW := gw 218 (by decide +kernel) rfl
theorem q_219 : Cond.fieldLinkNest "NetScript" 150 "NetScript$State" "tide" "I" "NetScript" ∈ NW := nw 219 (by decide +kernel) rfl
theorem q_220 : Cond.fieldLink "NetScript$State" 39 "NetScript$State" "tornSoFar" "I" ∈ GW := gw 220 (by decide +kernel) rfl
theorem q_221 : Cond.fieldLinkNest "NetScript" 413 "NetScript$State" "tornSoFar" "I" "NetScript" ∈ NW := nw 221 (by decide +kernel) rfl
theorem q_222 : Cond.fieldLink "NetScript$State" 42 "NetScript$State" "mendedSoFar" "I" ∈ GW := gw 222 (by decide +kernel) rfl
theorem q_223 : Cond.fieldLinkNest "NetScript" 416 "NetScript$State" "mendedSoFar" "I" "NetScript" ∈ NW := nw 223 (by decide +kernel) rfl
theorem q_224 : Cond.fieldLink "NetScript$State" 45 "NetScript$State" "twineUsed" "I" ∈ GW := gw 224 (by decide +kernel) rfl
theorem q_225 : Cond.fieldLinkNest "NetScript" 419 "NetScript$State" "twineUsed" "I" "NetScript" ∈ NW := nw 225 (by decide +kernel) rfl
theorem q_226 : Cond.laysFinal "NetScript$State" "NetScript$State" "nets" "[LNetScript$Net;" ∈ GW := gw 226 (by decide +kernel) rfl
theorem q_228 : Cond.laysFinal "NetScript$State" "NetScript$State" "editors" "[LNetScript$Editor;" ∈ GW := gw 228 (by decide +kernel) rfl
theorem q_230 : Cond.laysFinal "NetScript$State" "NetScript$State" "notes" "[LNetScript$Note;" ∈ GW := gw 230 (by decide +kernel) rfl
theorem q_232 : Cond.lays "NetScript$State" "NetScript$State" "editorCount" "I" ∈ GW := gw 232 (by decide +kernel) rfl
theorem q_234 : Cond.lays "NetScript$State" "NetScript$State" "noteCount" "I" ∈ GW := gw 234 (by decide +kernel) rfl
theorem q_236 : Cond.lays "NetScript$State" "NetScript$State" "tide" "I" ∈ GW := gw 236 (by decide +kernel) rfl
theorem q_238 : Cond.lays "NetScript$State" "NetScript$State" "tornSoFar" "I" ∈ GW := gw 238 (by decide +kernel) rfl
theorem q_240 : Cond.lays "NetScript$State" "NetScript$State" "mendedSoFar" "I" ∈ GW := gw 240 (by decide +kernel) rfl
theorem q_242 : Cond.lays "NetScript$State" "NetScript$State" "twineUsed" "I" ∈ GW := gw 242 (by decide +kernel) rfl
theorem q_244 : Cond.superclass "NetScript$State" "java/lang/Object" ∈ GW := gw 244 (by decide +kernel) rfl
theorem q_245 : Cond.classLink "NetScript" 26 "NetScript$History" ∈ GW := gw 245 (by decide +kernel) rfl
theorem q_246 : Cond.instantiable "NetScript$History" 3 ∈ GW := gw 246 (by decide +kernel) rfl
theorem q_247 : Cond.methodLinkNest "NetScript" 28 yX1_init "NetScript" ∈ NW := nw 247 (by decide +kernel) rfl
theorem q_248 : Cond.instanceMethod yX1_init ∈ GW := gw 248 (by decide +kernel) rfl
theorem q_249 : Cond.code yX1_init cX1_init 2 (Option.none : Option Jvm.ClassFile.FieldType) ∈ GW := gw 249 (by decide +kernel) rfl
theorem q_250 : Cond.methodLink "NetScript$History" 3 ⟨"java/lang/Object", "<init>", "()V"⟩ ∈ GW := gw 250 (by decide +kernel) rfl
theorem q_251 : Cond.classLink "NetScript$History" 9 "NetScript$State" ∈ GW := gw 251 (by decide +kernel) rfl
theorem q_253 : Cond.methodLinkNest "NetScript$History" 24 yX8_init "NetScript" ∈ NW := nw 253 (by decide +kernel) rfl
theorem q_254 : Cond.fieldLink "NetScript$History" 11 "NetScript$History" "states" "[LNetScript$State;" ∈ GW := gw 254 (by decide +kernel) rfl
theorem q_255 : Cond.fieldLink "NetScript$History" 17 "NetScript$History" "oldest" "I" ∈ GW := gw 255 (by decide +kernel) rfl
theorem q_256 : Cond.fieldLink "NetScript$History" 21 "NetScript$History" "count" "I" ∈ GW := gw 256 (by decide +kernel) rfl
theorem q_257 : Cond.fieldLinkNest "NetScript" 422 "NetScript$History" "count" "I" "NetScript" ∈ NW := nw 257 (by decide +kernel) rfl
theorem q_258 : Cond.laysFinal "NetScript$History" "NetScript$History" "states" "[LNetScript$State;" ∈ GW := gw 258 (by decide +kernel) rfl
theorem q_260 : Cond.lays "NetScript$History" "NetScript$History" "oldest" "I" ∈ GW := gw 260 (by decide +kernel) rfl
theorem q_262 : Cond.lays "NetScript$History" "NetScript$History" "count" "I" ∈ GW := gw 262 (by decide +kernel) rfl
theorem q_264 : Cond.superclass "NetScript$History" "java/lang/Object" ∈ GW := gw 264 (by decide +kernel) rfl
theorem q_265 : Cond.classLink "NetScript" 33 "NetScript$Parts" ∈ GW := gw 265 (by decide +kernel) rfl
theorem q_266 : Cond.instantiable "NetScript$Parts" 1 ∈ GW := gw 266 (by decide +kernel) rfl
theorem q_267 : Cond.methodLinkNest "NetScript" 35 yX5_init "NetScript" ∈ NW := nw 267 (by decide +kernel) rfl
theorem q_268 : Cond.instanceMethod yX5_init ∈ GW := gw 268 (by decide +kernel) rfl
theorem q_269 : Cond.code yX5_init cX5_init 1 (Option.none : Option Jvm.ClassFile.FieldType) ∈ GW := gw 269 (by decide +kernel) rfl
theorem q_270 : Cond.methodLink "NetScript$Parts" 3 ⟨"java/lang/Object", "<init>", "()V"⟩ ∈ GW := gw 270 (by decide +kernel) rfl
theorem q_271 : Cond.fieldLink "NetScript$Parts" 9 "NetScript$Parts" "partOf" "[I" ∈ GW := gw 271 (by decide +kernel) rfl
theorem q_272 : Cond.laysFinal "NetScript$Parts" "NetScript$Parts" "partOf" "[I" ∈ GW := gw 272 (by decide +kernel) rfl
theorem q_274 : Cond.superclass "NetScript$Parts" "java/lang/Object" ∈ GW := gw 274 (by decide +kernel) rfl
theorem q_275 : Cond.arrayClass FieldType.int ∈ GW := gw 275 (by decide +kernel) rfl
theorem q_276 : Cond.classLink "NetScript" 40 "NetScript$Script" ∈ GW := gw 276 (by decide +kernel) rfl
theorem q_277 : Cond.instantiable "NetScript$Script" 6 ∈ GW := gw 277 (by decide +kernel) rfl
theorem q_278 : Cond.methodLinkNest "NetScript" 42 yX7_init "NetScript" ∈ NW := nw 278 (by decide +kernel) rfl
theorem q_279 : Cond.instanceMethod yX7_init ∈ GW := gw 279 (by decide +kernel) rfl
theorem q_280 : Cond.code yX7_init cX7_init 1 (Option.none : Option Jvm.ClassFile.FieldType) ∈ GW := gw 280 (by decide +kernel) rfl
theorem q_281 : Cond.methodLink "NetScript$Script" 3 ⟨"java/lang/Object", "<init>", "()V"⟩ ∈ GW := gw 281 (by decide +kernel) rfl
theorem q_282 : Cond.classLink "NetScript$Script" 26 "[[I" ∈ GW := gw 282 (by decide +kernel) rfl
theorem q_284 : Cond.fieldLink "NetScript$Script" 9 "NetScript$Script" "tape" "[C" ∈ GW := gw 284 (by decide +kernel) rfl
theorem q_285 : Cond.fieldLink "NetScript$Script" 15 "NetScript$Script" "length" "I" ∈ GW := gw 285 (by decide +kernel) rfl
theorem q_286 : Cond.fieldLinkNest "NetScript" 318 "NetScript$Script" "length" "I" "NetScript" ∈ NW := nw 286 (by decide +kernel) rfl
theorem q_287 : Cond.fieldLink "NetScript$Script" 19 "NetScript$Script" "position" "I" ∈ GW := gw 287 (by decide +kernel) rfl
theorem q_288 : Cond.fieldLink "NetScript$Script" 22 "NetScript$Script" "words" "[I" ∈ GW := gw 288 (by decide +kernel) rfl
theorem q_289 : Cond.fieldLink "NetScript$Script" 28 "NetScript$Script" "numbers" "[[I" ∈ GW := gw 289 (by decide +kernel) rfl
theorem q_290 : Cond.fieldLink "NetScript$Script" 31 "NetScript$Script" "orderCount" "I" ∈ GW := gw 290 (by decide +kernel) rfl
theorem q_291 : Cond.fieldLinkNest "NetScript" 332 "NetScript$Script" "orderCount" "I" "NetScript" ∈ NW := nw 291 (by decide +kernel) rfl
theorem q_292 : Cond.laysFinal "NetScript$Script" "NetScript$Script" "tape" "[C" ∈ GW := gw 292 (by decide +kernel) rfl
theorem q_294 : Cond.lays "NetScript$Script" "NetScript$Script" "length" "I" ∈ GW := gw 294 (by decide +kernel) rfl
theorem q_296 : Cond.lays "NetScript$Script" "NetScript$Script" "position" "I" ∈ GW := gw 296 (by decide +kernel) rfl
theorem q_298 : Cond.laysFinal "NetScript$Script" "NetScript$Script" "words" "[I" ∈ GW := gw 298 (by decide +kernel) rfl
theorem q_300 : Cond.laysFinal "NetScript$Script" "NetScript$Script" "numbers" "[[I" ∈ GW := gw 300 (by decide +kernel) rfl
theorem q_302 : Cond.lays "NetScript$Script" "NetScript$Script" "orderCount" "I" ∈ GW := gw 302 (by decide +kernel) rfl
theorem q_304 : Cond.superclass "NetScript$Script" "java/lang/Object" ∈ GW := gw 304 (by decide +kernel) rfl
theorem q_305 : Cond.arrayClass FieldType.char ∈ GW := gw 305 (by decide +kernel) rfl
theorem q_306 : Cond.classLink "NetScript" 47 "NetScript$Line" ∈ GW := gw 306 (by decide +kernel) rfl
theorem q_307 : Cond.instantiable "NetScript$Line" 2 ∈ GW := gw 307 (by decide +kernel) rfl
theorem q_308 : Cond.methodLinkNest "NetScript" 49 yX2_init "NetScript" ∈ NW := nw 308 (by decide +kernel) rfl
theorem q_309 : Cond.instanceMethod yX2_init ∈ GW := gw 309 (by decide +kernel) rfl
theorem q_310 : Cond.code yX2_init cX2_init 1 (Option.none : Option Jvm.ClassFile.FieldType) ∈ GW := gw 310 (by decide +kernel) rfl
theorem q_311 : Cond.methodLink "NetScript$Line" 3 ⟨"java/lang/Object", "<init>", "()V"⟩ ∈ GW := gw 311 (by decide +kernel) rfl
theorem q_312 : Cond.fieldLink "NetScript$Line" 9 "NetScript$Line" "characters" "[C" ∈ GW := gw 312 (by decide +kernel) rfl
theorem q_313 : Cond.fieldLink "NetScript$Line" 15 "NetScript$Line" "length" "I" ∈ GW := gw 313 (by decide +kernel) rfl
theorem q_314 : Cond.fieldLinkNest "NetScript" 372 "NetScript$Line" "length" "I" "NetScript" ∈ NW := nw 314 (by decide +kernel) rfl
theorem q_315 : Cond.laysFinal "NetScript$Line" "NetScript$Line" "characters" "[C" ∈ GW := gw 315 (by decide +kernel) rfl
theorem q_317 : Cond.lays "NetScript$Line" "NetScript$Line" "length" "I" ∈ GW := gw 317 (by decide +kernel) rfl
theorem q_319 : Cond.superclass "NetScript$Line" "java/lang/Object" ∈ GW := gw 319 (by decide +kernel) rfl
theorem q_320 : Cond.classLink "NetScript" 54 "NetScript$Refusal" ∈ GW := gw 320 (by decide +kernel) rfl
theorem q_321 : Cond.instantiable "NetScript$Refusal" 4 ∈ GW := gw 321 (by decide +kernel) rfl
theorem q_322 : Cond.methodLinkNest "NetScript" 56 yX6_init "NetScript" ∈ NW := nw 322 (by decide +kernel) rfl
theorem q_323 : Cond.instanceMethod yX6_init ∈ GW := gw 323 (by decide +kernel) rfl
theorem q_324 : Cond.code yX6_init cX6_init 1 (Option.none : Option Jvm.ClassFile.FieldType) ∈ GW := gw 324 (by decide +kernel) rfl
theorem q_325 : Cond.methodLink "NetScript$Refusal" 3 ⟨"java/lang/Object", "<init>", "()V"⟩ ∈ GW := gw 325 (by decide +kernel) rfl
theorem q_326 : Cond.fieldLink "NetScript$Refusal" 9 "NetScript$Refusal" "reason" "I" ∈ GW := gw 326 (by decide +kernel) rfl
theorem q_327 : Cond.fieldLink "NetScript$Refusal" 15 "NetScript$Refusal" "detail" "I" ∈ GW := gw 327 (by decide +kernel) rfl
theorem q_328 : Cond.fieldLink "NetScript$Refusal" 18 "NetScript$Refusal" "reasonBehind" "I" ∈ GW := gw 328 (by decide +kernel) rfl
theorem q_329 : Cond.fieldLink "NetScript$Refusal" 21 "NetScript$Refusal" "detailBehind" "I" ∈ GW := gw 329 (by decide +kernel) rfl
theorem q_330 : Cond.lays "NetScript$Refusal" "NetScript$Refusal" "reason" "I" ∈ GW := gw 330 (by decide +kernel) rfl
theorem q_332 : Cond.lays "NetScript$Refusal" "NetScript$Refusal" "detail" "I" ∈ GW := gw 332 (by decide +kernel) rfl
theorem q_334 : Cond.lays "NetScript$Refusal" "NetScript$Refusal" "reasonBehind" "I" ∈ GW := gw 334 (by decide +kernel) rfl
theorem q_336 : Cond.lays "NetScript$Refusal" "NetScript$Refusal" "detailBehind" "I" ∈ GW := gw 336 (by decide +kernel) rfl
theorem q_338 : Cond.superclass "NetScript$Refusal" "java/lang/Object" ∈ GW := gw 338 (by decide +kernel) rfl
theorem q_339 : Cond.fieldLink "NetScript" 12 "NetScript" "now" "LNetScript$State;" ∈ GW := gw 339 (by decide +kernel) rfl
theorem q_340 : Cond.fieldLink "NetScript" 16 "NetScript" "beforeRun" "LNetScript$State;" ∈ GW := gw 340 (by decide +kernel) rfl
theorem q_341 : Cond.fieldLink "NetScript" 19 "NetScript" "saved" "LNetScript$State;" ∈ GW := gw 341 (by decide +kernel) rfl
theorem q_342 : Cond.fieldLink "NetScript" 22 "NetScript" "isSaved" "Z" ∈ GW := gw 342 (by decide +kernel) rfl
theorem q_343 : Cond.fieldLink "NetScript" 29 "NetScript" "history" "LNetScript$History;" ∈ GW := gw 343 (by decide +kernel) rfl
theorem q_344 : Cond.fieldLink "NetScript" 36 "NetScript" "parts" "LNetScript$Parts;" ∈ GW := gw 344 (by decide +kernel) rfl
theorem q_345 : Cond.fieldLink "NetScript" 43 "NetScript" "script" "LNetScript$Script;" ∈ GW := gw 345 (by decide +kernel) rfl
theorem q_346 : Cond.fieldLink "NetScript" 50 "NetScript" "written" "LNetScript$Line;" ∈ GW := gw 346 (by decide +kernel) rfl
theorem q_347 : Cond.fieldLink "NetScript" 57 "NetScript" "refusal" "LNetScript$Refusal;" ∈ GW := gw 347 (by decide +kernel) rfl
theorem q_348 : Cond.fieldLink "NetScript" 61 "NetScript" "foundDetail" "I" ∈ GW := gw 348 (by decide +kernel) rfl
theorem q_349 : Cond.fieldLink "NetScript" 65 "NetScript" "lastFault" "I" ∈ GW := gw 349 (by decide +kernel) rfl
theorem q_350 : Cond.laysFinal "NetScript" "NetScript" "now" "LNetScript$State;" ∈ GW := gw 350 (by decide +kernel) rfl
theorem q_352 : Cond.laysFinal "NetScript" "NetScript" "beforeRun" "LNetScript$State;" ∈ GW := gw 352 (by decide +kernel) rfl
theorem q_354 : Cond.laysFinal "NetScript" "NetScript" "saved" "LNetScript$State;" ∈ GW := gw 354 (by decide +kernel) rfl
theorem q_356 : Cond.lays "NetScript" "NetScript" "isSaved" "Z" ∈ GW := gw 356 (by decide +kernel) rfl
theorem q_358 : Cond.laysFinal "NetScript" "NetScript" "history" "LNetScript$History;" ∈ GW := gw 358 (by decide +kernel) rfl
theorem q_360 : Cond.laysFinal "NetScript" "NetScript" "parts" "LNetScript$Parts;" ∈ GW := gw 360 (by decide +kernel) rfl
theorem q_362 : Cond.laysFinal "NetScript" "NetScript" "script" "LNetScript$Script;" ∈ GW := gw 362 (by decide +kernel) rfl
theorem q_364 : Cond.laysFinal "NetScript" "NetScript" "written" "LNetScript$Line;" ∈ GW := gw 364 (by decide +kernel) rfl
theorem q_366 : Cond.laysFinal "NetScript" "NetScript" "refusal" "LNetScript$Refusal;" ∈ GW := gw 366 (by decide +kernel) rfl
theorem q_368 : Cond.lays "NetScript" "NetScript" "foundDetail" "I" ∈ GW := gw 368 (by decide +kernel) rfl
theorem q_370 : Cond.lays "NetScript" "NetScript" "lastFault" "I" ∈ GW := gw 370 (by decide +kernel) rfl
theorem q_372 : Cond.superclass "NetScript" "java/lang/Object" ∈ GW := gw 372 (by decide +kernel) rfl
theorem q_373 : Cond.methodLink "NetScriptLaw" 169 yL_pick ∈ GW := gw 373 (by decide +kernel) rfl
theorem q_374 : Cond.static yL_pick ∈ GW := gw 374 (by decide +kernel) rfl
theorem q_375 : Cond.code yL_pick cL_pick 3 (Option.some FieldType.int) ∈ GW := gw 375 (by decide +kernel) rfl
theorem q_376 : Cond.methodLink "NetScriptLaw" 8 yL_cell ∈ GW := gw 376 (by decide +kernel) rfl
theorem q_377 : Cond.static yL_cell ∈ GW := gw 377 (by decide +kernel) rfl
theorem q_378 : Cond.code yL_cell cL_cell 2 (Option.some FieldType.int) ∈ GW := gw 378 (by decide +kernel) rfl
theorem q_379 : Cond.constant "NetScriptLaw" 7 (40503 : Int32) ∈ GW := gw 379 (by decide +kernel) rfl
theorem q_380 : Cond.methodLink "NetScriptLaw" 173 yL_chapters ∈ GW := gw 380 (by decide +kernel) rfl
theorem q_381 : Cond.static yL_chapters ∈ GW := gw 381 (by decide +kernel) rfl
theorem q_382 : Cond.codeWith yL_chapters cL_chapters 3 (Option.some FieldType.int) [(0, 5, 6, 49)] ∈ GW := gw 382 (by decide +kernel) rfl
theorem q_383 : Cond.classLink "NetScriptLaw" 49 "java/lang/IndexOutOfBoundsException" ∈ GW := gw 383 (by decide +kernel) rfl
theorem q_384 : Cond.instantiable "java/lang/ArrayIndexOutOfBoundsException" 6 ∈ GW := gw 384 (by decide +kernel) rfl
theorem q_385 : Cond.instanceMethod yJx00060_init_a7421 ∈ GW := gw 385 (by decide +kernel) rfl
theorem q_386 : Cond.code yJx00060_init_a7421 cJx00060_init_a7421 2 (Option.none : Option Jvm.ClassFile.FieldType) ∈ GW := gw 386 (by decide +kernel) rfl
theorem q_387 : Cond.methodLink "java/lang/ArrayIndexOutOfBoundsException" 7 ⟨"java/lang/IndexOutOfBoundsException", "<init>", "(Ljava/lang/String;)V"⟩ ∈ GW := gw 387 (by decide +kernel) rfl
theorem q_388 : Cond.instanceMethod ⟨"java/lang/IndexOutOfBoundsException", "<init>", "(Ljava/lang/String;)V"⟩ ∈ GW := gw 388 (by decide +kernel) rfl
theorem q_389 : Cond.code ⟨"java/lang/IndexOutOfBoundsException", "<init>", "(Ljava/lang/String;)V"⟩ prog_24_method_2_code 2 (Option.none : Option Jvm.ClassFile.FieldType) ∈ GW := gw 389 (by decide +kernel) rfl
theorem q_390 : Cond.methodLink "java/lang/IndexOutOfBoundsException" 7 ⟨"java/lang/RuntimeException", "<init>", "(Ljava/lang/String;)V"⟩ ∈ GW := gw 390 (by decide +kernel) rfl
theorem q_391 : Cond.instanceMethod ⟨"java/lang/RuntimeException", "<init>", "(Ljava/lang/String;)V"⟩ ∈ GW := gw 391 (by decide +kernel) rfl
theorem q_392 : Cond.code ⟨"java/lang/RuntimeException", "<init>", "(Ljava/lang/String;)V"⟩ prog_28_method_2_code 2 (Option.none : Option Jvm.ClassFile.FieldType) ∈ GW := gw 392 (by decide +kernel) rfl
theorem q_393 : Cond.methodLink "java/lang/RuntimeException" 7 ⟨"java/lang/Exception", "<init>", "(Ljava/lang/String;)V"⟩ ∈ GW := gw 393 (by decide +kernel) rfl
theorem q_394 : Cond.instanceMethod ⟨"java/lang/Exception", "<init>", "(Ljava/lang/String;)V"⟩ ∈ GW := gw 394 (by decide +kernel) rfl
theorem q_395 : Cond.code ⟨"java/lang/Exception", "<init>", "(Ljava/lang/String;)V"⟩ prog_21_method_2_code 2 (Option.none : Option Jvm.ClassFile.FieldType) ∈ GW := gw 395 (by decide +kernel) rfl
theorem q_396 : Cond.methodLink "java/lang/Exception" 7 ⟨"java/lang/Throwable", "<init>", "(Ljava/lang/String;)V"⟩ ∈ GW := gw 396 (by decide +kernel) rfl
theorem q_397 : Cond.instanceMethod ⟨"java/lang/Throwable", "<init>", "(Ljava/lang/String;)V"⟩ ∈ GW := gw 397 (by decide +kernel) rfl
theorem q_398 : Cond.code ⟨"java/lang/Throwable", "<init>", "(Ljava/lang/String;)V"⟩ prog_34_method_2_code 2 (Option.none : Option Jvm.ClassFile.FieldType) ∈ GW := gw 398 (by decide +kernel) rfl
theorem q_399 : Cond.methodLink "java/lang/Throwable" 1 ⟨"java/lang/Object", "<init>", "()V"⟩ ∈ GW := gw 399 (by decide +kernel) rfl
theorem q_400 : Cond.fieldLink "java/lang/Throwable" 13 "java/lang/Throwable" "UNASSIGNED_STACK" "[Ljava/lang/StackTraceElement;" ∈ GW := gw 400 (by decide +kernel) rfl
theorem q_402 : Cond.fieldLink "java/lang/Throwable" 20 "java/lang/Throwable" "SUPPRESSED_SENTINEL" "Ljava/util/List;" ∈ GW := gw 402 (by decide +kernel) rfl
theorem q_404 : Cond.methodLink "java/lang/Throwable" 27 ⟨"java/lang/Throwable", "fillInStackTrace", "()Ljava/lang/Throwable;"⟩ ∈ GW := gw 404 (by decide +kernel) rfl
theorem q_405 : Cond.instanceMethod ⟨"java/lang/Throwable", "fillInStackTrace", "()Ljava/lang/Throwable;"⟩ ∈ GW := gw 405 (by decide +kernel) rfl
theorem q_407 : Cond.selects "java/lang/ArithmeticException" ⟨"java/lang/Throwable", "fillInStackTrace", "()Ljava/lang/Throwable;"⟩ ⟨"java/lang/Throwable", "fillInStackTrace", "()Ljava/lang/Throwable;"⟩ ∈ GW := gw 407 (by decide +kernel) rfl
theorem q_408 : Cond.selects "java/lang/ArrayIndexOutOfBoundsException" ⟨"java/lang/Throwable", "fillInStackTrace", "()Ljava/lang/Throwable;"⟩ ⟨"java/lang/Throwable", "fillInStackTrace", "()Ljava/lang/Throwable;"⟩ ∈ GW := gw 408 (by decide +kernel) rfl
theorem q_409 : Cond.selects "java/lang/IllegalArgumentException" ⟨"java/lang/Throwable", "fillInStackTrace", "()Ljava/lang/Throwable;"⟩ ⟨"java/lang/Throwable", "fillInStackTrace", "()Ljava/lang/Throwable;"⟩ ∈ GW := gw 409 (by decide +kernel) rfl
theorem q_410 : Cond.selects "java/lang/IllegalStateException" ⟨"java/lang/Throwable", "fillInStackTrace", "()Ljava/lang/Throwable;"⟩ ⟨"java/lang/Throwable", "fillInStackTrace", "()Ljava/lang/Throwable;"⟩ ∈ GW := gw 410 (by decide +kernel) rfl
theorem q_411 : Cond.selects "java/lang/IndexOutOfBoundsException" ⟨"java/lang/Throwable", "fillInStackTrace", "()Ljava/lang/Throwable;"⟩ ⟨"java/lang/Throwable", "fillInStackTrace", "()Ljava/lang/Throwable;"⟩ ∈ GW := gw 411 (by decide +kernel) rfl
theorem q_412 : Cond.selects "java/lang/UnsupportedOperationException" ⟨"java/lang/Throwable", "fillInStackTrace", "()Ljava/lang/Throwable;"⟩ ⟨"java/lang/Throwable", "fillInStackTrace", "()Ljava/lang/Throwable;"⟩ ∈ GW := gw 412 (by decide +kernel) rfl
theorem q_413 : Cond.selects "java/util/NoSuchElementException" ⟨"java/lang/Throwable", "fillInStackTrace", "()Ljava/lang/Throwable;"⟩ ⟨"java/lang/Throwable", "fillInStackTrace", "()Ljava/lang/Throwable;"⟩ ∈ GW := gw 413 (by decide +kernel) rfl
theorem q_414 : Cond.codeSync ⟨"java/lang/Throwable", "fillInStackTrace", "()Ljava/lang/Throwable;"⟩ prog_34_method_18_code 1 (Option.some (FieldType.object "java/lang/Throwable")) ∈ GW := gw 414 (by decide +kernel) rfl
theorem q_415 : Cond.methodLink "java/lang/Throwable" 202 ⟨"java/lang/Throwable", "fillInStackTrace", "(I)Ljava/lang/Throwable;"⟩ ∈ GW := gw 415 (by decide +kernel) rfl
theorem q_417 : Cond.instanceMethod ⟨"java/lang/Throwable", "fillInStackTrace", "(I)Ljava/lang/Throwable;"⟩ ∈ GW := gw 417 (by decide +kernel) rfl
theorem q_418 : Cond.instantiable "java/lang/Throwable" 6 ∈ GW := gw 418 (by decide +kernel) rfl
theorem q_419 : Cond.native ⟨"java/lang/Throwable", "fillInStackTrace", "(I)Ljava/lang/Throwable;"⟩ ∈ GW := gw 419 (by decide +kernel) rfl
theorem q_420 : Cond.fieldLink "java/lang/Throwable" 198 "java/lang/Throwable" "backtrace" "Ljava/lang/Object;" ∈ GW := gw 420 (by decide +kernel) rfl
theorem q_421 : Cond.fieldLink "java/lang/Throwable" 31 "java/lang/Throwable" "detailMessage" "Ljava/lang/String;" ∈ GW := gw 421 (by decide +kernel) rfl
theorem q_422 : Cond.fieldLink "java/lang/Throwable" 7 "java/lang/Throwable" "cause" "Ljava/lang/Throwable;" ∈ GW := gw 422 (by decide +kernel) rfl
theorem q_423 : Cond.fieldLink "java/lang/Throwable" 17 "java/lang/Throwable" "stackTrace" "[Ljava/lang/StackTraceElement;" ∈ GW := gw 423 (by decide +kernel) rfl
theorem q_424 : Cond.fieldLink "java/lang/Throwable" 24 "java/lang/Throwable" "suppressedExceptions" "Ljava/util/List;" ∈ GW := gw 424 (by decide +kernel) rfl
theorem q_425 : Cond.lays "java/lang/ArrayIndexOutOfBoundsException" "java/lang/Throwable" "backtrace" "Ljava/lang/Object;" ∈ GW := gw 425 (by decide +kernel) rfl
theorem q_427 : Cond.lays "java/lang/ArrayIndexOutOfBoundsException" "java/lang/Throwable" "detailMessage" "Ljava/lang/String;" ∈ GW := gw 427 (by decide +kernel) rfl
theorem q_429 : Cond.lays "java/lang/ArrayIndexOutOfBoundsException" "java/lang/Throwable" "cause" "Ljava/lang/Throwable;" ∈ GW := gw 429 (by decide +kernel) rfl
theorem q_431 : Cond.lays "java/lang/ArrayIndexOutOfBoundsException" "java/lang/Throwable" "stackTrace" "[Ljava/lang/StackTraceElement;" ∈ GW := gw 431 (by decide +kernel) rfl
theorem q_433 : Cond.lays "java/lang/ArrayIndexOutOfBoundsException" "java/lang/Throwable" "depth" "I" ∈ GW := gw 433 (by decide +kernel) rfl
theorem q_435 : Cond.lays "java/lang/ArrayIndexOutOfBoundsException" "java/lang/Throwable" "suppressedExceptions" "Ljava/util/List;" ∈ GW := gw 435 (by decide +kernel) rfl
theorem q_437 : Cond.superclass "java/lang/ArrayIndexOutOfBoundsException" "java/lang/IndexOutOfBoundsException" ∈ GW := gw 437 (by decide +kernel) rfl
theorem q_438 : Cond.castable "java/lang/ArrayIndexOutOfBoundsException" "java/lang/ArrayIndexOutOfBoundsException" ∈ NW := nw 438 (by decide +kernel) rfl
theorem q_439 : Cond.declares ⟨"java/lang/IndexOutOfBoundsException", "<init>", "()V"⟩ ∈ NW := nw 439 (by decide +kernel) rfl
theorem q_440 : Cond.declares ⟨"java/lang/IndexOutOfBoundsException", "<init>", "(Ljava/lang/String;)V"⟩ ∈ NW := nw 440 (by decide +kernel) rfl
theorem q_441 : Cond.declares ⟨"java/lang/RuntimeException", "<init>", "()V"⟩ ∈ NW := nw 441 (by decide +kernel) rfl
theorem q_442 : Cond.declares ⟨"java/lang/RuntimeException", "<init>", "(Ljava/lang/String;)V"⟩ ∈ NW := nw 442 (by decide +kernel) rfl
theorem q_443 : Cond.declares ⟨"java/lang/Exception", "<init>", "()V"⟩ ∈ NW := nw 443 (by decide +kernel) rfl
theorem q_444 : Cond.declares ⟨"java/lang/Exception", "<init>", "(Ljava/lang/String;)V"⟩ ∈ NW := nw 444 (by decide +kernel) rfl
theorem q_445 : Cond.declares ⟨"java/lang/Throwable", "<init>", "()V"⟩ ∈ NW := nw 445 (by decide +kernel) rfl
theorem q_446 : Cond.declares ⟨"java/lang/Throwable", "<init>", "(Ljava/lang/String;)V"⟩ ∈ NW := nw 446 (by decide +kernel) rfl
theorem q_447 : Cond.selects "java/lang/ArrayIndexOutOfBoundsException" ⟨"java/lang/Throwable", "fillInStackTrace", "(I)Ljava/lang/Throwable;"⟩ ⟨"java/lang/Throwable", "fillInStackTrace", "(I)Ljava/lang/Throwable;"⟩ ∈ GW := gw 447 (by decide +kernel) rfl
theorem q_448 : Cond.lays "java/lang/Throwable" "java/lang/Throwable" "cause" "Ljava/lang/Throwable;" ∈ GW := gw 448 (by decide +kernel) rfl
theorem q_449 : Cond.lays "java/lang/Throwable" "java/lang/Throwable" "stackTrace" "[Ljava/lang/StackTraceElement;" ∈ GW := gw 449 (by decide +kernel) rfl
theorem q_450 : Cond.lays "java/lang/Throwable" "java/lang/Throwable" "suppressedExceptions" "Ljava/util/List;" ∈ GW := gw 450 (by decide +kernel) rfl
theorem q_451 : Cond.lays "java/lang/Throwable" "java/lang/Throwable" "detailMessage" "Ljava/lang/String;" ∈ GW := gw 451 (by decide +kernel) rfl
theorem q_452 : Cond.lays "java/lang/Throwable" "java/lang/Throwable" "backtrace" "Ljava/lang/Object;" ∈ GW := gw 452 (by decide +kernel) rfl
theorem q_454 : Cond.superclass "java/lang/Throwable" "java/lang/Object" ∈ GW := gw 454 (by decide +kernel) rfl
theorem q_455 : Cond.instanceMethod ⟨"java/lang/Throwable", "<init>", "()V"⟩ ∈ GW := gw 455 (by decide +kernel) rfl
theorem q_456 : Cond.code ⟨"java/lang/Throwable", "<init>", "()V"⟩ prog_34_method_1_code 1 (Option.none : Option Jvm.ClassFile.FieldType) ∈ GW := gw 456 (by decide +kernel) rfl
theorem q_457 : Cond.instantiable "java/lang/String" 4 ∈ GW := gw 457 (by decide +kernel) rfl
theorem q_458 : Cond.arrayClass FieldType.byte ∈ GW := gw 458 (by decide +kernel) rfl
theorem q_459 : Cond.laysFinal "java/lang/String" "java/lang/String" "value" "[B" ∈ GW := gw 459 (by decide +kernel) rfl
theorem q_461 : Cond.laysFinal "java/lang/String" "java/lang/String" "coder" "B" ∈ GW := gw 461 (by decide +kernel) rfl
theorem q_463 : Cond.methodLink "NetScriptLaw" 62 yX9_chapters ∈ GW := gw 463 (by decide +kernel) rfl
theorem q_464 : Cond.instanceMethod yX9_chapters ∈ GW := gw 464 (by decide +kernel) rfl
theorem q_465 : Cond.selects "NetScript" yX9_chapters yX9_chapters ∈ GW := gw 465 (by decide +kernel) rfl
theorem q_466 : Cond.code yX9_chapters cX9_chapters 2 (Option.some FieldType.int) ∈ GW := gw 466 (by decide +kernel) rfl
theorem q_467 : Cond.methodLink "NetScript" 187 yX9_isNet ∈ GW := gw 467 (by decide +kernel) rfl
theorem q_468 : Cond.static yX9_isNet ∈ GW := gw 468 (by decide +kernel) rfl
theorem q_469 : Cond.code yX9_isNet cX9_isNet 1 (Option.some FieldType.boolean) ∈ GW := gw 469 (by decide +kernel) rfl
theorem q_470 : Cond.classLink "NetScript" 193 "java/lang/IndexOutOfBoundsException" ∈ GW := gw 470 (by decide +kernel) rfl
theorem q_471 : Cond.instantiable "java/lang/IndexOutOfBoundsException" 6 ∈ GW := gw 471 (by decide +kernel) rfl
theorem q_472 : Cond.castable "java/lang/IndexOutOfBoundsException" "java/lang/IndexOutOfBoundsException" ∈ NW := nw 472 (by decide +kernel) rfl
theorem q_473 : Cond.selects "java/lang/IndexOutOfBoundsException" ⟨"java/lang/Throwable", "fillInStackTrace", "(I)Ljava/lang/Throwable;"⟩ ⟨"java/lang/Throwable", "fillInStackTrace", "(I)Ljava/lang/Throwable;"⟩ ∈ GW := gw 473 (by decide +kernel) rfl
theorem q_474 : Cond.lays "java/lang/IndexOutOfBoundsException" "java/lang/Throwable" "cause" "Ljava/lang/Throwable;" ∈ GW := gw 474 (by decide +kernel) rfl
theorem q_475 : Cond.lays "java/lang/IndexOutOfBoundsException" "java/lang/Throwable" "stackTrace" "[Ljava/lang/StackTraceElement;" ∈ GW := gw 475 (by decide +kernel) rfl
theorem q_476 : Cond.lays "java/lang/IndexOutOfBoundsException" "java/lang/Throwable" "suppressedExceptions" "Ljava/util/List;" ∈ GW := gw 476 (by decide +kernel) rfl
theorem q_477 : Cond.lays "java/lang/IndexOutOfBoundsException" "java/lang/Throwable" "detailMessage" "Ljava/lang/String;" ∈ GW := gw 477 (by decide +kernel) rfl
theorem q_478 : Cond.lays "java/lang/IndexOutOfBoundsException" "java/lang/Throwable" "backtrace" "Ljava/lang/Object;" ∈ GW := gw 478 (by decide +kernel) rfl
theorem q_480 : Cond.methodLink "NetScript" 197 ⟨"java/lang/IndexOutOfBoundsException", "<init>", "(Ljava/lang/String;)V"⟩ ∈ GW := gw 480 (by decide +kernel) rfl
theorem q_481 : Cond.lays "java/lang/IndexOutOfBoundsException" "java/lang/Throwable" "depth" "I" ∈ GW := gw 481 (by decide +kernel) rfl
theorem q_482 : Cond.superclass "java/lang/IndexOutOfBoundsException" "java/lang/RuntimeException" ∈ GW := gw 482 (by decide +kernel) rfl
theorem q_483 : Cond.methodLinkNest "NetScript" 87 yX8_netNumbered "NetScript" ∈ NW := nw 483 (by decide +kernel) rfl
theorem q_485 : Cond.instanceMethod yX8_netNumbered ∈ GW := gw 485 (by decide +kernel) rfl
theorem q_486 : Cond.code yX8_netNumbered cX8_netNumbered 2 (Option.some (FieldType.object "NetScript$Net")) ∈ GW := gw 486 (by decide +kernel) rfl
theorem q_487 : Cond.methodLinkNest "NetScript$State" 61 yX9_isNet "NetScript" ∈ NW := nw 487 (by decide +kernel) rfl
theorem q_488 : Cond.methodLinkNest "NetScript" 110 yX3_countChapters "NetScript" ∈ NW := nw 488 (by decide +kernel) rfl
theorem q_490 : Cond.instanceMethod yX3_countChapters ∈ GW := gw 490 (by decide +kernel) rfl
theorem q_491 : Cond.code yX3_countChapters cX3_countChapters 3 (Option.some FieldType.int) ∈ GW := gw 491 (by decide +kernel) rfl
theorem q_492 : Cond.methodLink "NetScript$Net" 63 yX3_knots ∈ GW := gw 492 (by decide +kernel) rfl
theorem q_494 : Cond.instanceMethod yX3_knots ∈ GW := gw 494 (by decide +kernel) rfl
theorem q_495 : Cond.code yX3_knots cX3_knots 1 (Option.some FieldType.int) ∈ GW := gw 495 (by decide +kernel) rfl
theorem q_496 : Cond.methodLinkNest "NetScript$Net" 69 yX9_lowestPlace "NetScript" ∈ NW := nw 496 (by decide +kernel) rfl
theorem q_497 : Cond.static yX9_lowestPlace ∈ GW := gw 497 (by decide +kernel) rfl
theorem q_498 : Cond.code yX9_lowestPlace cX9_lowestPlace 1 (Option.some FieldType.int) ∈ GW := gw 498 (by decide +kernel) rfl
theorem q_499 : Cond.methodLink "NetScript" 215 yJ6_bitCount_0f7a4 ∈ GW := gw 499 (by decide +kernel) rfl
theorem q_500 : Cond.static yJ6_bitCount_0f7a4 ∈ GW := gw 500 (by decide +kernel) rfl
theorem q_501 : Cond.code yJ6_bitCount_0f7a4 cJ6_bitCount_0f7a4 1 (Option.some FieldType.int) ∈ GW := gw 501 (by decide +kernel) rfl
theorem q_502 : Cond.constant "java/lang/Integer" 265 (1431655765 : Int32) ∈ GW := gw 502 (by decide +kernel) rfl
theorem q_503 : Cond.constant "java/lang/Integer" 266 (858993459 : Int32) ∈ GW := gw 503 (by decide +kernel) rfl
theorem q_504 : Cond.constant "java/lang/Integer" 267 (252645135 : Int32) ∈ GW := gw 504 (by decide +kernel) rfl
theorem q_505 : Cond.methodLink "NetScript$Net" 72 yX3_chapterAt ∈ GW := gw 505 (by decide +kernel) rfl
theorem q_507 : Cond.instanceMethod yX3_chapterAt ∈ GW := gw 507 (by decide +kernel) rfl
theorem q_508 : Cond.code yX3_chapterAt cX3_chapterAt 5 (Option.some FieldType.int) ∈ GW := gw 508 (by decide +kernel) rfl
theorem q_509 : Cond.methodLink "NetScript$Net" 52 yX3_wholeAcross ∈ GW := gw 509 (by decide +kernel) rfl
theorem q_511 : Cond.instanceMethod yX3_wholeAcross ∈ GW := gw 511 (by decide +kernel) rfl
theorem q_512 : Cond.code yX3_wholeAcross cX3_wholeAcross 1 (Option.some FieldType.int) ∈ GW := gw 512 (by decide +kernel) rfl
theorem q_513 : Cond.constant "NetScript$Net" 35 (8255455 : Int32) ∈ GW := gw 513 (by decide +kernel) rfl
theorem q_514 : Cond.methodLink "NetScript$Net" 60 yX3_wholeDown ∈ GW := gw 514 (by decide +kernel) rfl
theorem q_516 : Cond.instanceMethod yX3_wholeDown ∈ GW := gw 516 (by decide +kernel) rfl
theorem q_517 : Cond.code yX3_wholeDown cX3_wholeDown 1 (Option.some FieldType.int) ∈ GW := gw 517 (by decide +kernel) rfl
theorem q_518 : Cond.constant "NetScript$Net" 36 (262143 : Int32) ∈ GW := gw 518 (by decide +kernel) rfl
theorem q_519 : Cond.methodLinkNest "NetScript$Net" 66 yX9_beside "NetScript" ∈ NW := nw 519 (by decide +kernel) rfl
theorem q_520 : Cond.static yX9_beside ∈ GW := gw 520 (by decide +kernel) rfl
theorem q_521 : Cond.code yX9_beside cX9_beside 3 (Option.some FieldType.int) ∈ GW := gw 521 (by decide +kernel) rfl
theorem q_522 : Cond.methodLink "NetScriptLaw" 167 yL_account ∈ GW := gw 522 (by decide +kernel) rfl
theorem q_523 : Cond.static yL_account ∈ GW := gw 523 (by decide +kernel) rfl
theorem q_524 : Cond.codeWith yL_account cL_account 3 (Option.some FieldType.int) [(0, 5, 6, 60)] ∈ GW := gw 524 (by decide +kernel) rfl
end
section
theorem q_525 : Cond.classLink "NetScriptLaw" 60 "java/lang/IllegalArgumentException" ∈ GW := gw 525 (by decide +kernel) rfl
theorem q_526 : Cond.methodLink "NetScriptLaw" 133 yX9_account ∈ GW := gw 526 (by decide +kernel) rfl
theorem q_527 : Cond.instanceMethod yX9_account ∈ GW := gw 527 (by decide +kernel) rfl
theorem q_528 : Cond.selects "NetScript" yX9_account yX9_account ∈ GW := gw 528 (by decide +kernel) rfl
theorem q_529 : Cond.code yX9_account cX9_account 2 (Option.some FieldType.int) ∈ GW := gw 529 (by decide +kernel) rfl
theorem q_530 : Cond.methodLinkNest "NetScript" 401 yX8_countKnots "NetScript" ∈ NW := nw 530 (by decide +kernel) rfl
theorem q_532 : Cond.instanceMethod yX8_countKnots ∈ GW := gw 532 (by decide +kernel) rfl
theorem q_533 : Cond.code yX8_countKnots cX8_countKnots 3 (Option.some FieldType.int) ∈ GW := gw 533 (by decide +kernel) rfl
theorem q_534 : Cond.methodLink "NetScript$State" 65 yX8_netNumbered ∈ GW := gw 534 (by decide +kernel) rfl
theorem q_535 : Cond.methodLinkNest "NetScript$State" 138 yX3_knots "NetScript" ∈ NW := nw 535 (by decide +kernel) rfl
theorem q_536 : Cond.methodLink "NetScript$State" 141 yJ6_bitCount_0f7a4 ∈ GW := gw 536 (by decide +kernel) rfl
theorem q_537 : Cond.methodLinkNest "NetScript" 393 yX8_countAllChapters "NetScript" ∈ NW := nw 537 (by decide +kernel) rfl
theorem q_539 : Cond.instanceMethod yX8_countAllChapters ∈ GW := gw 539 (by decide +kernel) rfl
theorem q_540 : Cond.code yX8_countAllChapters cX8_countAllChapters 3 (Option.some FieldType.int) ∈ GW := gw 540 (by decide +kernel) rfl
theorem q_541 : Cond.methodLinkNest "NetScript$State" 149 yX3_countChapters "NetScript" ∈ NW := nw 541 (by decide +kernel) rfl
theorem q_542 : Cond.methodLinkNest "NetScript" 406 yX8_countTorn "NetScript" ∈ NW := nw 542 (by decide +kernel) rfl
theorem q_544 : Cond.instanceMethod yX8_countTorn ∈ GW := gw 544 (by decide +kernel) rfl
theorem q_545 : Cond.code yX8_countTorn cX8_countTorn 3 (Option.some FieldType.int) ∈ GW := gw 545 (by decide +kernel) rfl
theorem q_546 : Cond.methodLinkNest "NetScript$State" 152 yX3_countTorn "NetScript" ∈ NW := nw 546 (by decide +kernel) rfl
theorem q_548 : Cond.instanceMethod yX3_countTorn ∈ GW := gw 548 (by decide +kernel) rfl
theorem q_549 : Cond.code yX3_countTorn cX3_countTorn 1 (Option.some FieldType.int) ∈ GW := gw 549 (by decide +kernel) rfl
theorem q_550 : Cond.methodLink "NetScript$Net" 46 yJ6_bitCount_0f7a4 ∈ GW := gw 550 (by decide +kernel) rfl
theorem q_551 : Cond.methodLinkNest "NetScript" 407 yX8_sumTwine "NetScript" ∈ NW := nw 551 (by decide +kernel) rfl
theorem q_553 : Cond.instanceMethod yX8_sumTwine ∈ GW := gw 553 (by decide +kernel) rfl
theorem q_554 : Cond.code yX8_sumTwine cX8_sumTwine 3 (Option.some FieldType.int) ∈ GW := gw 554 (by decide +kernel) rfl
theorem q_555 : Cond.methodLink "NetScript$State" 77 yX8_editorNumbered ∈ GW := gw 555 (by decide +kernel) rfl
theorem q_557 : Cond.instanceMethod yX8_editorNumbered ∈ GW := gw 557 (by decide +kernel) rfl
theorem q_558 : Cond.code yX8_editorNumbered cX8_editorNumbered 2 (Option.some (FieldType.object "NetScript$Editor")) ∈ GW := gw 558 (by decide +kernel) rfl
theorem q_559 : Cond.methodLinkNest "NetScript" 410 yX8_countAsNoted "NetScript" ∈ NW := nw 559 (by decide +kernel) rfl
theorem q_561 : Cond.instanceMethod yX8_countAsNoted ∈ GW := gw 561 (by decide +kernel) rfl
theorem q_562 : Cond.code yX8_countAsNoted cX8_countAsNoted 3 (Option.some FieldType.int) ∈ GW := gw 562 (by decide +kernel) rfl
theorem q_563 : Cond.methodLink "NetScript$State" 91 yX8_noteNumbered ∈ GW := gw 563 (by decide +kernel) rfl
theorem q_565 : Cond.instanceMethod yX8_noteNumbered ∈ GW := gw 565 (by decide +kernel) rfl
theorem q_566 : Cond.code yX8_noteNumbered cX8_noteNumbered 2 (Option.some (FieldType.object "NetScript$Note")) ∈ GW := gw 566 (by decide +kernel) rfl
theorem q_567 : Cond.methodLink "NetScript$State" 155 yX8_readsAsNoted ∈ GW := gw 567 (by decide +kernel) rfl
theorem q_569 : Cond.instanceMethod yX8_readsAsNoted ∈ GW := gw 569 (by decide +kernel) rfl
theorem q_570 : Cond.code yX8_readsAsNoted cX8_readsAsNoted 3 (Option.some FieldType.boolean) ∈ GW := gw 570 (by decide +kernel) rfl
theorem q_571 : Cond.methodLinkNest "NetScript$State" 110 yX4_places "NetScript" ∈ NW := nw 571 (by decide +kernel) rfl
theorem q_573 : Cond.instanceMethod yX4_places ∈ GW := gw 573 (by decide +kernel) rfl
theorem q_574 : Cond.code yX4_places cX4_places 1 (Option.some FieldType.int) ∈ GW := gw 574 (by decide +kernel) rfl
theorem q_575 : Cond.methodLinkNest "NetScript$State" 114 yX9_lowestPlace "NetScript" ∈ NW := nw 575 (by decide +kernel) rfl
theorem q_576 : Cond.methodLinkNest "NetScript$State" 87 yX3_chapterAt "NetScript" ∈ NW := nw 576 (by decide +kernel) rfl
theorem q_577 : Cond.methodLinkNest "NetScript$State" 106 yX4_isOf "NetScript" ∈ NW := nw 577 (by decide +kernel) rfl
theorem q_579 : Cond.instanceMethod yX4_isOf ∈ GW := gw 579 (by decide +kernel) rfl
theorem q_580 : Cond.code yX4_isOf cX4_isOf 3 (Option.some FieldType.boolean) ∈ GW := gw 580 (by decide +kernel) rfl
theorem q_581 : Cond.classLink "NetScript" 232 "java/lang/IllegalArgumentException" ∈ GW := gw 581 (by decide +kernel) rfl
theorem q_582 : Cond.instantiable "java/lang/IllegalArgumentException" 6 ∈ GW := gw 582 (by decide +kernel) rfl
theorem q_583 : Cond.castable "java/lang/IllegalArgumentException" "java/lang/IllegalArgumentException" ∈ NW := nw 583 (by decide +kernel) rfl
theorem q_584 : Cond.selects "java/lang/IllegalArgumentException" ⟨"java/lang/Throwable", "fillInStackTrace", "(I)Ljava/lang/Throwable;"⟩ ⟨"java/lang/Throwable", "fillInStackTrace", "(I)Ljava/lang/Throwable;"⟩ ∈ GW := gw 584 (by decide +kernel) rfl
theorem q_585 : Cond.lays "java/lang/IllegalArgumentException" "java/lang/Throwable" "cause" "Ljava/lang/Throwable;" ∈ GW := gw 585 (by decide +kernel) rfl
theorem q_586 : Cond.lays "java/lang/IllegalArgumentException" "java/lang/Throwable" "stackTrace" "[Ljava/lang/StackTraceElement;" ∈ GW := gw 586 (by decide +kernel) rfl
theorem q_587 : Cond.lays "java/lang/IllegalArgumentException" "java/lang/Throwable" "suppressedExceptions" "Ljava/util/List;" ∈ GW := gw 587 (by decide +kernel) rfl
theorem q_588 : Cond.lays "java/lang/IllegalArgumentException" "java/lang/Throwable" "detailMessage" "Ljava/lang/String;" ∈ GW := gw 588 (by decide +kernel) rfl
theorem q_589 : Cond.lays "java/lang/IllegalArgumentException" "java/lang/Throwable" "backtrace" "Ljava/lang/Object;" ∈ GW := gw 589 (by decide +kernel) rfl
theorem q_591 : Cond.methodLink "NetScript" 236 ⟨"java/lang/IllegalArgumentException", "<init>", "(Ljava/lang/String;)V"⟩ ∈ GW := gw 591 (by decide +kernel) rfl
theorem q_592 : Cond.instanceMethod ⟨"java/lang/IllegalArgumentException", "<init>", "(Ljava/lang/String;)V"⟩ ∈ GW := gw 592 (by decide +kernel) rfl
theorem q_593 : Cond.code ⟨"java/lang/IllegalArgumentException", "<init>", "(Ljava/lang/String;)V"⟩ prog_22_method_2_code 2 (Option.none : Option Jvm.ClassFile.FieldType) ∈ GW := gw 593 (by decide +kernel) rfl
theorem q_594 : Cond.methodLink "java/lang/IllegalArgumentException" 7 ⟨"java/lang/RuntimeException", "<init>", "(Ljava/lang/String;)V"⟩ ∈ GW := gw 594 (by decide +kernel) rfl
theorem q_595 : Cond.lays "java/lang/IllegalArgumentException" "java/lang/Throwable" "depth" "I" ∈ GW := gw 595 (by decide +kernel) rfl
theorem q_596 : Cond.superclass "java/lang/IllegalArgumentException" "java/lang/RuntimeException" ∈ GW := gw 596 (by decide +kernel) rfl
theorem q_597 : Cond.methodLink "NetScriptLaw" 175 yL_does ∈ GW := gw 597 (by decide +kernel) rfl
theorem q_598 : Cond.static yL_does ∈ GW := gw 598 (by decide +kernel) rfl
theorem q_599 : Cond.code yL_does cL_does 8 (Option.some FieldType.int) ∈ GW := gw 599 (by decide +kernel) rfl
theorem q_600 : Cond.methodLink "NetScriptLaw" 187 yL_knot ∈ GW := gw 600 (by decide +kernel) rfl
theorem q_601 : Cond.static yL_knot ∈ GW := gw 601 (by decide +kernel) rfl
theorem q_602 : Cond.codeWith yL_knot cL_knot 5 (Option.some FieldType.int) [(0, 7, 8, 20)] ∈ GW := gw 602 (by decide +kernel) rfl
theorem q_603 : Cond.classLink "NetScriptLaw" 20 "java/lang/UnsupportedOperationException" ∈ GW := gw 603 (by decide +kernel) rfl
theorem q_604 : Cond.methodLink "NetScriptLaw" 14 yX9_knot ∈ GW := gw 604 (by decide +kernel) rfl
theorem q_605 : Cond.instanceMethod yX9_knot ∈ GW := gw 605 (by decide +kernel) rfl
theorem q_606 : Cond.selects "NetScript" yX9_knot yX9_knot ∈ GW := gw 606 (by decide +kernel) rfl
theorem q_607 : Cond.code yX9_knot cX9_knot 5 (Option.some FieldType.int) ∈ GW := gw 607 (by decide +kernel) rfl
theorem q_608 : Cond.methodLink "NetScript" 68 yX9_reasonAgainstKnot ∈ GW := gw 608 (by decide +kernel) rfl
theorem q_610 : Cond.instanceMethod yX9_reasonAgainstKnot ∈ GW := gw 610 (by decide +kernel) rfl
theorem q_611 : Cond.code yX9_reasonAgainstKnot cX9_reasonAgainstKnot 4 (Option.some FieldType.int) ∈ GW := gw 611 (by decide +kernel) rfl
theorem q_612 : Cond.methodLink "NetScript" 443 yX9_found ∈ GW := gw 612 (by decide +kernel) rfl
theorem q_614 : Cond.instanceMethod yX9_found ∈ GW := gw 614 (by decide +kernel) rfl
theorem q_615 : Cond.code yX9_found cX9_found 3 (Option.some FieldType.int) ∈ GW := gw 615 (by decide +kernel) rfl
theorem q_616 : Cond.methodLink "NetScript" 190 yX9_isPlace ∈ GW := gw 616 (by decide +kernel) rfl
theorem q_617 : Cond.static yX9_isPlace ∈ GW := gw 617 (by decide +kernel) rfl
theorem q_618 : Cond.code yX9_isPlace cX9_isPlace 1 (Option.some FieldType.boolean) ∈ GW := gw 618 (by decide +kernel) rfl
theorem q_619 : Cond.methodLinkNest "NetScript" 91 yX3_kindAt "NetScript" ∈ NW := nw 619 (by decide +kernel) rfl
theorem q_621 : Cond.instanceMethod yX3_kindAt ∈ GW := gw 621 (by decide +kernel) rfl
theorem q_622 : Cond.code yX3_kindAt cX3_kindAt 2 (Option.some FieldType.int) ∈ GW := gw 622 (by decide +kernel) rfl
theorem q_623 : Cond.methodLinkNest "NetScript$Net" 27 yX9_isIn "NetScript" ∈ NW := nw 623 (by decide +kernel) rfl
theorem q_624 : Cond.static yX9_isIn ∈ GW := gw 624 (by decide +kernel) rfl
theorem q_625 : Cond.code yX9_isIn cX9_isIn 2 (Option.some FieldType.boolean) ∈ GW := gw 625 (by decide +kernel) rfl
theorem q_626 : Cond.methodLink "NetScript" 72 yX9_keepsReason ∈ GW := gw 626 (by decide +kernel) rfl
theorem q_628 : Cond.instanceMethod yX9_keepsReason ∈ GW := gw 628 (by decide +kernel) rfl
theorem q_629 : Cond.code yX9_keepsReason cX9_keepsReason 2 (Option.some FieldType.boolean) ∈ GW := gw 629 (by decide +kernel) rfl
theorem q_630 : Cond.methodLinkNest "NetScript" 440 yX6_keepAlone "NetScript" ∈ NW := nw 630 (by decide +kernel) rfl
theorem q_632 : Cond.instanceMethod yX6_keepAlone ∈ GW := gw 632 (by decide +kernel) rfl
theorem q_633 : Cond.code yX6_keepAlone cX6_keepAlone 3 (Option.none : Option Jvm.ClassFile.FieldType) ∈ GW := gw 633 (by decide +kernel) rfl
theorem q_634 : Cond.classLink "NetScript" 76 "java/lang/UnsupportedOperationException" ∈ GW := gw 634 (by decide +kernel) rfl
theorem q_635 : Cond.instantiable "java/lang/UnsupportedOperationException" 6 ∈ GW := gw 635 (by decide +kernel) rfl
theorem q_636 : Cond.castable "java/lang/UnsupportedOperationException" "java/lang/UnsupportedOperationException" ∈ NW := nw 636 (by decide +kernel) rfl
theorem q_637 : Cond.selects "java/lang/UnsupportedOperationException" ⟨"java/lang/Throwable", "fillInStackTrace", "(I)Ljava/lang/Throwable;"⟩ ⟨"java/lang/Throwable", "fillInStackTrace", "(I)Ljava/lang/Throwable;"⟩ ∈ GW := gw 637 (by decide +kernel) rfl
theorem q_638 : Cond.lays "java/lang/UnsupportedOperationException" "java/lang/Throwable" "cause" "Ljava/lang/Throwable;" ∈ GW := gw 638 (by decide +kernel) rfl
theorem q_639 : Cond.lays "java/lang/UnsupportedOperationException" "java/lang/Throwable" "stackTrace" "[Ljava/lang/StackTraceElement;" ∈ GW := gw 639 (by decide +kernel) rfl
theorem q_640 : Cond.lays "java/lang/UnsupportedOperationException" "java/lang/Throwable" "suppressedExceptions" "Ljava/util/List;" ∈ GW := gw 640 (by decide +kernel) rfl
theorem q_641 : Cond.lays "java/lang/UnsupportedOperationException" "java/lang/Throwable" "detailMessage" "Ljava/lang/String;" ∈ GW := gw 641 (by decide +kernel) rfl
theorem q_642 : Cond.lays "java/lang/UnsupportedOperationException" "java/lang/Throwable" "backtrace" "Ljava/lang/Object;" ∈ GW := gw 642 (by decide +kernel) rfl
theorem q_644 : Cond.methodLink "NetScript" 80 ⟨"java/lang/UnsupportedOperationException", "<init>", "(Ljava/lang/String;)V"⟩ ∈ GW := gw 644 (by decide +kernel) rfl
theorem q_645 : Cond.instanceMethod ⟨"java/lang/UnsupportedOperationException", "<init>", "(Ljava/lang/String;)V"⟩ ∈ GW := gw 645 (by decide +kernel) rfl
theorem q_646 : Cond.code ⟨"java/lang/UnsupportedOperationException", "<init>", "(Ljava/lang/String;)V"⟩ prog_35_method_2_code 2 (Option.none : Option Jvm.ClassFile.FieldType) ∈ GW := gw 646 (by decide +kernel) rfl
theorem q_647 : Cond.methodLink "java/lang/UnsupportedOperationException" 7 ⟨"java/lang/RuntimeException", "<init>", "(Ljava/lang/String;)V"⟩ ∈ GW := gw 647 (by decide +kernel) rfl
theorem q_648 : Cond.lays "java/lang/UnsupportedOperationException" "java/lang/Throwable" "depth" "I" ∈ GW := gw 648 (by decide +kernel) rfl
theorem q_649 : Cond.superclass "java/lang/UnsupportedOperationException" "java/lang/RuntimeException" ∈ GW := gw 649 (by decide +kernel) rfl
theorem q_650 : Cond.methodLinkNest "NetScript" 83 yX1_push "NetScript" ∈ NW := nw 650 (by decide +kernel) rfl
theorem q_652 : Cond.instanceMethod yX1_push ∈ GW := gw 652 (by decide +kernel) rfl
theorem q_653 : Cond.code yX1_push cX1_push 2 (Option.none : Option Jvm.ClassFile.FieldType) ∈ GW := gw 653 (by decide +kernel) rfl
theorem q_654 : Cond.methodLink "NetScript$History" 25 yJ9_floorMod_7cf53 ∈ GW := gw 654 (by decide +kernel) rfl
theorem q_655 : Cond.static yJ9_floorMod_7cf53 ∈ GW := gw 655 (by decide +kernel) rfl
theorem q_656 : Cond.code yJ9_floorMod_7cf53 cJ9_floorMod_7cf53 3 (Option.some FieldType.int) ∈ GW := gw 656 (by decide +kernel) rfl
theorem q_657 : Cond.methodLinkNest "NetScript$History" 31 yX8_copyFrom "NetScript" ∈ NW := nw 657 (by decide +kernel) rfl
theorem q_659 : Cond.instanceMethod yX8_copyFrom ∈ GW := gw 659 (by decide +kernel) rfl
theorem q_660 : Cond.code yX8_copyFrom cX8_copyFrom 3 (Option.none : Option Jvm.ClassFile.FieldType) ∈ GW := gw 660 (by decide +kernel) rfl
theorem q_661 : Cond.methodLinkNest "NetScript$State" 51 yX3_copyFrom "NetScript" ∈ NW := nw 661 (by decide +kernel) rfl
theorem q_663 : Cond.instanceMethod yX3_copyFrom ∈ GW := gw 663 (by decide +kernel) rfl
theorem q_664 : Cond.code yX3_copyFrom cX3_copyFrom 2 (Option.none : Option Jvm.ClassFile.FieldType) ∈ GW := gw 664 (by decide +kernel) rfl
theorem q_665 : Cond.methodLinkNest "NetScript$State" 55 yX0_copyFrom "NetScript" ∈ NW := nw 665 (by decide +kernel) rfl
theorem q_667 : Cond.instanceMethod yX0_copyFrom ∈ GW := gw 667 (by decide +kernel) rfl
theorem q_668 : Cond.code yX0_copyFrom cX0_copyFrom 2 (Option.none : Option Jvm.ClassFile.FieldType) ∈ GW := gw 668 (by decide +kernel) rfl
theorem q_669 : Cond.methodLinkNest "NetScript$State" 58 yX4_copyFrom "NetScript" ∈ NW := nw 669 (by decide +kernel) rfl
theorem q_671 : Cond.instanceMethod yX4_copyFrom ∈ GW := gw 671 (by decide +kernel) rfl
theorem q_672 : Cond.code yX4_copyFrom cX4_copyFrom 2 (Option.none : Option Jvm.ClassFile.FieldType) ∈ GW := gw 672 (by decide +kernel) rfl
theorem q_673 : Cond.methodLinkNest "NetScript" 97 yX3_tie "NetScript" ∈ NW := nw 673 (by decide +kernel) rfl
theorem q_675 : Cond.instanceMethod yX3_tie ∈ GW := gw 675 (by decide +kernel) rfl
theorem q_676 : Cond.code yX3_tie cX3_tie 3 (Option.none : Option Jvm.ClassFile.FieldType) ∈ GW := gw 676 (by decide +kernel) rfl
theorem q_677 : Cond.methodLinkNest "NetScript$Net" 31 yX9_with "NetScript" ∈ NW := nw 677 (by decide +kernel) rfl
theorem q_678 : Cond.static yX9_with ∈ GW := gw 678 (by decide +kernel) rfl
theorem q_679 : Cond.code yX9_with cX9_with 3 (Option.some FieldType.int) ∈ GW := gw 679 (by decide +kernel) rfl
theorem q_680 : Cond.methodLink "NetScriptLaw" 190 yL_tear ∈ GW := gw 680 (by decide +kernel) rfl
theorem q_681 : Cond.static yL_tear ∈ GW := gw 681 (by decide +kernel) rfl
theorem q_682 : Cond.codeWith yL_tear cL_tear 5 (Option.some FieldType.int) [(0, 7, 8, 20)] ∈ GW := gw 682 (by decide +kernel) rfl
theorem q_683 : Cond.methodLink "NetScriptLaw" 22 yX9_tear ∈ GW := gw 683 (by decide +kernel) rfl
theorem q_684 : Cond.instanceMethod yX9_tear ∈ GW := gw 684 (by decide +kernel) rfl
theorem q_685 : Cond.selects "NetScript" yX9_tear yX9_tear ∈ GW := gw 685 (by decide +kernel) rfl
theorem q_686 : Cond.code yX9_tear cX9_tear 4 (Option.some FieldType.int) ∈ GW := gw 686 (by decide +kernel) rfl
theorem q_687 : Cond.methodLink "NetScript" 101 yX9_reasonAgainstTear ∈ GW := gw 687 (by decide +kernel) rfl
theorem q_689 : Cond.instanceMethod yX9_reasonAgainstTear ∈ GW := gw 689 (by decide +kernel) rfl
theorem q_690 : Cond.code yX9_reasonAgainstTear cX9_reasonAgainstTear 5 (Option.some FieldType.int) ∈ GW := gw 690 (by decide +kernel) rfl
theorem q_691 : Cond.methodLink "NetScript" 451 yX9_reasonAgainstEnds ∈ GW := gw 691 (by decide +kernel) rfl
theorem q_693 : Cond.instanceMethod yX9_reasonAgainstEnds ∈ GW := gw 693 (by decide +kernel) rfl
theorem q_694 : Cond.code yX9_reasonAgainstEnds cX9_reasonAgainstEnds 4 (Option.some FieldType.int) ∈ GW := gw 694 (by decide +kernel) rfl
theorem q_695 : Cond.methodLink "NetScript" 454 yX9_reasonAgainstString ∈ GW := gw 695 (by decide +kernel) rfl
theorem q_697 : Cond.instanceMethod yX9_reasonAgainstString ∈ GW := gw 697 (by decide +kernel) rfl
theorem q_698 : Cond.code yX9_reasonAgainstString cX9_reasonAgainstString 5 (Option.some FieldType.int) ∈ GW := gw 698 (by decide +kernel) rfl
theorem q_699 : Cond.methodLink "NetScript" 198 yX9_areBeside ∈ GW := gw 699 (by decide +kernel) rfl
theorem q_700 : Cond.static yX9_areBeside ∈ GW := gw 700 (by decide +kernel) rfl
theorem q_701 : Cond.code yX9_areBeside cX9_areBeside 4 (Option.some FieldType.boolean) ∈ GW := gw 701 (by decide +kernel) rfl
theorem q_702 : Cond.methodLink "NetScript" 470 yJ9_min_7cf53 ∈ GW := gw 702 (by decide +kernel) rfl
theorem q_703 : Cond.static yJ9_min_7cf53 ∈ GW := gw 703 (by decide +kernel) rfl
theorem q_704 : Cond.code yJ9_min_7cf53 cJ9_min_7cf53 2 (Option.some FieldType.int) ∈ GW := gw 704 (by decide +kernel) rfl
theorem q_705 : Cond.methodLink "NetScript" 446 yJ9_max_7cf53 ∈ GW := gw 705 (by decide +kernel) rfl
theorem q_706 : Cond.static yJ9_max_7cf53 ∈ GW := gw 706 (by decide +kernel) rfl
theorem q_707 : Cond.code yJ9_max_7cf53 cJ9_max_7cf53 2 (Option.some FieldType.int) ∈ GW := gw 707 (by decide +kernel) rfl
theorem q_708 : Cond.constant "NetScript" 473 (8255455 : Int32) ∈ GW := gw 708 (by decide +kernel) rfl
theorem q_709 : Cond.methodLink "NetScript" 474 yX9_isIn ∈ GW := gw 709 (by decide +kernel) rfl
theorem q_710 : Cond.methodLinkNest "NetScript" 207 yX3_isTornBetween "NetScript" ∈ NW := nw 710 (by decide +kernel) rfl
theorem q_712 : Cond.instanceMethod yX3_isTornBetween ∈ GW := gw 712 (by decide +kernel) rfl
theorem q_713 : Cond.code yX3_isTornBetween cX3_isTornBetween 3 (Option.some FieldType.boolean) ∈ GW := gw 713 (by decide +kernel) rfl
theorem q_714 : Cond.methodLinkNest "NetScript$Net" 37 yX9_isAcross "NetScript" ∈ NW := nw 714 (by decide +kernel) rfl
theorem q_715 : Cond.static yX9_isAcross ∈ GW := gw 715 (by decide +kernel) rfl
theorem q_716 : Cond.code yX9_isAcross cX9_isAcross 2 (Option.some FieldType.boolean) ∈ GW := gw 716 (by decide +kernel) rfl
theorem q_717 : Cond.methodLink "NetScript$Net" 40 yJ9_min_7cf53 ∈ GW := gw 717 (by decide +kernel) rfl
theorem q_719 : Cond.methodLinkNest "NetScript" 106 yX8_tearString "NetScript" ∈ NW := nw 719 (by decide +kernel) rfl
theorem q_721 : Cond.instanceMethod yX8_tearString ∈ GW := gw 721 (by decide +kernel) rfl
theorem q_722 : Cond.code yX8_tearString cX8_tearString 4 (Option.none : Option Jvm.ClassFile.FieldType) ∈ GW := gw 722 (by decide +kernel) rfl
theorem q_723 : Cond.methodLinkNest "NetScript$State" 69 yX3_putString "NetScript" ∈ NW := nw 723 (by decide +kernel) rfl
theorem q_725 : Cond.instanceMethod yX3_putString ∈ GW := gw 725 (by decide +kernel) rfl
theorem q_726 : Cond.code yX3_putString cX3_putString 5 (Option.none : Option Jvm.ClassFile.FieldType) ∈ GW := gw 726 (by decide +kernel) rfl
theorem q_727 : Cond.methodLink "NetScriptLaw" 192 yL_mend ∈ GW := gw 727 (by decide +kernel) rfl
theorem q_728 : Cond.static yL_mend ∈ GW := gw 728 (by decide +kernel) rfl
theorem q_729 : Cond.codeWith yL_mend cL_mend 6 (Option.some FieldType.int) [(0, 9, 10, 20)] ∈ GW := gw 729 (by decide +kernel) rfl
theorem q_730 : Cond.methodLink "NetScriptLaw" 25 yX9_mend ∈ GW := gw 730 (by decide +kernel) rfl
theorem q_731 : Cond.instanceMethod yX9_mend ∈ GW := gw 731 (by decide +kernel) rfl
theorem q_732 : Cond.selects "NetScript" yX9_mend yX9_mend ∈ GW := gw 732 (by decide +kernel) rfl
theorem q_733 : Cond.code yX9_mend cX9_mend 5 (Option.some FieldType.int) ∈ GW := gw 733 (by decide +kernel) rfl
theorem q_734 : Cond.methodLink "NetScript" 114 yX9_reasonAgainstMend ∈ GW := gw 734 (by decide +kernel) rfl
theorem q_736 : Cond.instanceMethod yX9_reasonAgainstMend ∈ GW := gw 736 (by decide +kernel) rfl
theorem q_737 : Cond.code yX9_reasonAgainstMend cX9_reasonAgainstMend 7 (Option.some FieldType.int) ∈ GW := gw 737 (by decide +kernel) rfl
theorem q_738 : Cond.methodLinkNest "NetScript" 297 yX8_hasEditor "NetScript" ∈ NW := nw 738 (by decide +kernel) rfl
theorem q_740 : Cond.instanceMethod yX8_hasEditor ∈ GW := gw 740 (by decide +kernel) rfl
theorem q_741 : Cond.code yX8_hasEditor cX8_hasEditor 2 (Option.some FieldType.boolean) ∈ GW := gw 741 (by decide +kernel) rfl
theorem q_742 : Cond.methodLinkNest "NetScript" 124 yX8_editorNumbered "NetScript" ∈ NW := nw 742 (by decide +kernel) rfl
theorem q_743 : Cond.methodLink "NetScript" 458 yX9_twineFor ∈ GW := gw 743 (by decide +kernel) rfl
theorem q_744 : Cond.static yX9_twineFor ∈ GW := gw 744 (by decide +kernel) rfl
theorem q_745 : Cond.code yX9_twineFor cX9_twineFor 2 (Option.some FieldType.int) ∈ GW := gw 745 (by decide +kernel) rfl
theorem q_746 : Cond.methodLink "NetScript" 477 yX9_isAcross ∈ GW := gw 746 (by decide +kernel) rfl
theorem q_748 : Cond.methodLinkNest "NetScript" 120 yX8_mendString "NetScript" ∈ NW := nw 748 (by decide +kernel) rfl
theorem q_750 : Cond.instanceMethod yX8_mendString ∈ GW := gw 750 (by decide +kernel) rfl
theorem q_751 : Cond.code yX8_mendString cX8_mendString 6 (Option.none : Option Jvm.ClassFile.FieldType) ∈ GW := gw 751 (by decide +kernel) rfl
theorem q_752 : Cond.methodLinkNest "NetScript$State" 73 yX9_twineFor "NetScript" ∈ NW := nw 752 (by decide +kernel) rfl
theorem q_753 : Cond.methodLink "NetScriptLaw" 195 yL_editor ∈ GW := gw 753 (by decide +kernel) rfl
theorem q_754 : Cond.static yL_editor ∈ GW := gw 754 (by decide +kernel) rfl
theorem q_755 : Cond.codeWith yL_editor cL_editor 3 (Option.some FieldType.int) [(0, 5, 6, 20)] ∈ GW := gw 755 (by decide +kernel) rfl
theorem q_756 : Cond.methodLink "NetScriptLaw" 29 yX9_editor ∈ GW := gw 756 (by decide +kernel) rfl
theorem q_757 : Cond.instanceMethod yX9_editor ∈ GW := gw 757 (by decide +kernel) rfl
theorem q_758 : Cond.selects "NetScript" yX9_editor yX9_editor ∈ GW := gw 758 (by decide +kernel) rfl
theorem q_759 : Cond.code yX9_editor cX9_editor 2 (Option.some FieldType.int) ∈ GW := gw 759 (by decide +kernel) rfl
theorem q_760 : Cond.methodLink "NetScript" 133 yX9_reasonAgainstEditor ∈ GW := gw 760 (by decide +kernel) rfl
theorem q_762 : Cond.instanceMethod yX9_reasonAgainstEditor ∈ GW := gw 762 (by decide +kernel) rfl
theorem q_763 : Cond.code yX9_reasonAgainstEditor cX9_reasonAgainstEditor 2 (Option.some FieldType.int) ∈ GW := gw 763 (by decide +kernel) rfl
theorem q_765 : Cond.methodLinkNest "NetScript" 138 yX8_addEditor "NetScript" ∈ NW := nw 765 (by decide +kernel) rfl
theorem q_767 : Cond.instanceMethod yX8_addEditor ∈ GW := gw 767 (by decide +kernel) rfl
theorem q_768 : Cond.code yX8_addEditor cX8_addEditor 2 (Option.none : Option Jvm.ClassFile.FieldType) ∈ GW := gw 768 (by decide +kernel) rfl
theorem q_769 : Cond.methodLink "NetScriptLaw" 197 yL_tide ∈ GW := gw 769 (by decide +kernel) rfl
theorem q_770 : Cond.static yL_tide ∈ GW := gw 770 (by decide +kernel) rfl
theorem q_771 : Cond.codeWith yL_tide cL_tide 3 (Option.some FieldType.int) [(0, 5, 6, 20)] ∈ GW := gw 771 (by decide +kernel) rfl
theorem q_772 : Cond.methodLink "NetScriptLaw" 33 yX9_tide ∈ GW := gw 772 (by decide +kernel) rfl
theorem q_773 : Cond.instanceMethod yX9_tide ∈ GW := gw 773 (by decide +kernel) rfl
theorem q_774 : Cond.selects "NetScript" yX9_tide yX9_tide ∈ GW := gw 774 (by decide +kernel) rfl
theorem q_775 : Cond.code yX9_tide cX9_tide 2 (Option.some FieldType.int) ∈ GW := gw 775 (by decide +kernel) rfl
theorem q_776 : Cond.methodLink "NetScript" 145 yX9_reasonAgainstTide ∈ GW := gw 776 (by decide +kernel) rfl
theorem q_778 : Cond.instanceMethod yX9_reasonAgainstTide ∈ GW := gw 778 (by decide +kernel) rfl
theorem q_779 : Cond.code yX9_reasonAgainstTide cX9_reasonAgainstTide 2 (Option.some FieldType.int) ∈ GW := gw 779 (by decide +kernel) rfl
theorem q_781 : Cond.methodLinkNest "NetScript" 153 yX8_countReadable "NetScript" ∈ NW := nw 781 (by decide +kernel) rfl
theorem q_783 : Cond.instanceMethod yX8_countReadable ∈ GW := gw 783 (by decide +kernel) rfl
theorem q_784 : Cond.code yX8_countReadable cX8_countReadable 3 (Option.some FieldType.int) ∈ GW := gw 784 (by decide +kernel) rfl
theorem q_785 : Cond.methodLink "NetScript$State" 146 yX8_dryPlaces ∈ GW := gw 785 (by decide +kernel) rfl
theorem q_787 : Cond.instanceMethod yX8_dryPlaces ∈ GW := gw 787 (by decide +kernel) rfl
theorem q_788 : Cond.code yX8_dryPlaces cX8_dryPlaces 2 (Option.some FieldType.int) ∈ GW := gw 788 (by decide +kernel) rfl
theorem q_789 : Cond.methodLink "NetScript$State" 135 yX8_linesUnderWater ∈ GW := gw 789 (by decide +kernel) rfl
theorem q_791 : Cond.instanceMethod yX8_linesUnderWater ∈ GW := gw 791 (by decide +kernel) rfl
theorem q_792 : Cond.code yX8_linesUnderWater cX8_linesUnderWater 2 (Option.some FieldType.int) ∈ GW := gw 792 (by decide +kernel) rfl
theorem q_793 : Cond.methodLink "NetScript$State" 130 yJ9_min_7cf53 ∈ GW := gw 793 (by decide +kernel) rfl
theorem q_794 : Cond.methodLink "NetScriptLaw" 199 yL_sink ∈ GW := gw 794 (by decide +kernel) rfl
theorem q_795 : Cond.static yL_sink ∈ GW := gw 795 (by decide +kernel) rfl
theorem q_796 : Cond.codeWith yL_sink cL_sink 4 (Option.some FieldType.int) [(0, 6, 7, 20)] ∈ GW := gw 796 (by decide +kernel) rfl
theorem q_797 : Cond.methodLink "NetScriptLaw" 36 yX9_sink ∈ GW := gw 797 (by decide +kernel) rfl
theorem q_798 : Cond.instanceMethod yX9_sink ∈ GW := gw 798 (by decide +kernel) rfl
theorem q_799 : Cond.selects "NetScript" yX9_sink yX9_sink ∈ GW := gw 799 (by decide +kernel) rfl
theorem q_800 : Cond.code yX9_sink cX9_sink 3 (Option.some FieldType.int) ∈ GW := gw 800 (by decide +kernel) rfl
theorem q_801 : Cond.methodLink "NetScript" 156 yX9_reasonAgainstSink ∈ GW := gw 801 (by decide +kernel) rfl
theorem q_803 : Cond.instanceMethod yX9_reasonAgainstSink ∈ GW := gw 803 (by decide +kernel) rfl
theorem q_804 : Cond.code yX9_reasonAgainstSink cX9_reasonAgainstSink 4 (Option.some FieldType.int) ∈ GW := gw 804 (by decide +kernel) rfl
theorem q_806 : Cond.methodLinkNest "NetScript" 165 yX8_linesUnderWater "NetScript" ∈ NW := nw 806 (by decide +kernel) rfl
theorem q_807 : Cond.methodLink "NetScriptLaw" 202 yL_note ∈ GW := gw 807 (by decide +kernel) rfl
theorem q_808 : Cond.static yL_note ∈ GW := gw 808 (by decide +kernel) rfl
theorem q_809 : Cond.codeWith yL_note cL_note 4 (Option.some FieldType.int) [(0, 6, 7, 20)] ∈ GW := gw 809 (by decide +kernel) rfl
theorem q_810 : Cond.methodLink "NetScriptLaw" 40 yX9_note ∈ GW := gw 810 (by decide +kernel) rfl
theorem q_811 : Cond.instanceMethod yX9_note ∈ GW := gw 811 (by decide +kernel) rfl
theorem q_812 : Cond.selects "NetScript" yX9_note yX9_note ∈ GW := gw 812 (by decide +kernel) rfl
theorem q_813 : Cond.code yX9_note cX9_note 3 (Option.some FieldType.int) ∈ GW := gw 813 (by decide +kernel) rfl
theorem q_814 : Cond.methodLink "NetScript" 168 yX9_reasonAgainstNote ∈ GW := gw 814 (by decide +kernel) rfl
theorem q_816 : Cond.instanceMethod yX9_reasonAgainstNote ∈ GW := gw 816 (by decide +kernel) rfl
theorem q_817 : Cond.code yX9_reasonAgainstNote cX9_reasonAgainstNote 5 (Option.some FieldType.int) ∈ GW := gw 817 (by decide +kernel) rfl
theorem q_818 : Cond.methodLinkNest "NetScript" 241 yX3_chapterAt "NetScript" ∈ NW := nw 818 (by decide +kernel) rfl
theorem q_819 : Cond.methodLinkNest "NetScript" 461 yX8_lowestNoteOf "NetScript" ∈ NW := nw 819 (by decide +kernel) rfl
theorem q_821 : Cond.instanceMethod yX8_lowestNoteOf ∈ GW := gw 821 (by decide +kernel) rfl
theorem q_822 : Cond.code yX8_lowestNoteOf cX8_lowestNoteOf 5 (Option.some FieldType.int) ∈ GW := gw 822 (by decide +kernel) rfl
theorem q_824 : Cond.methodLinkNest "NetScript" 173 yX8_addNote "NetScript" ∈ NW := nw 824 (by decide +kernel) rfl
theorem q_826 : Cond.instanceMethod yX8_addNote ∈ GW := gw 826 (by decide +kernel) rfl
theorem q_827 : Cond.code yX8_addNote cX8_addNote 6 (Option.none : Option Jvm.ClassFile.FieldType) ∈ GW := gw 827 (by decide +kernel) rfl
theorem q_828 : Cond.methodLink "NetScriptLaw" 204 yL_drop ∈ GW := gw 828 (by decide +kernel) rfl
theorem q_829 : Cond.static yL_drop ∈ GW := gw 829 (by decide +kernel) rfl
theorem q_830 : Cond.codeWith yL_drop cL_drop 3 (Option.some FieldType.int) [(0, 5, 6, 20)] ∈ GW := gw 830 (by decide +kernel) rfl
theorem q_831 : Cond.methodLink "NetScriptLaw" 43 yX9_drop ∈ GW := gw 831 (by decide +kernel) rfl
theorem q_832 : Cond.instanceMethod yX9_drop ∈ GW := gw 832 (by decide +kernel) rfl
theorem q_833 : Cond.selects "NetScript" yX9_drop yX9_drop ∈ GW := gw 833 (by decide +kernel) rfl
theorem q_834 : Cond.code yX9_drop cX9_drop 2 (Option.some FieldType.int) ∈ GW := gw 834 (by decide +kernel) rfl
theorem q_835 : Cond.methodLink "NetScript" 179 yX9_reasonAgainstDrop ∈ GW := gw 835 (by decide +kernel) rfl
theorem q_837 : Cond.instanceMethod yX9_reasonAgainstDrop ∈ GW := gw 837 (by decide +kernel) rfl
theorem q_838 : Cond.code yX9_reasonAgainstDrop cX9_reasonAgainstDrop 2 (Option.some FieldType.int) ∈ GW := gw 838 (by decide +kernel) rfl
theorem q_839 : Cond.methodLinkNest "NetScript" 252 yX8_hasNote "NetScript" ∈ NW := nw 839 (by decide +kernel) rfl
theorem q_841 : Cond.instanceMethod yX8_hasNote ∈ GW := gw 841 (by decide +kernel) rfl
theorem q_842 : Cond.code yX8_hasNote cX8_hasNote 2 (Option.some FieldType.boolean) ∈ GW := gw 842 (by decide +kernel) rfl
theorem q_844 : Cond.methodLinkNest "NetScript" 184 yX8_removeNote "NetScript" ∈ NW := nw 844 (by decide +kernel) rfl
theorem q_846 : Cond.instanceMethod yX8_removeNote ∈ GW := gw 846 (by decide +kernel) rfl
theorem q_847 : Cond.code yX8_removeNote cX8_removeNote 3 (Option.none : Option Jvm.ClassFile.FieldType) ∈ GW := gw 847 (by decide +kernel) rfl
theorem q_848 : Cond.classLink "NetScriptLaw" 206 "java/lang/StringBuilder" ∈ GW := gw 848 (by decide +kernel) rfl
theorem q_849 : Cond.instantiable "java/lang/StringBuilder" 4 ∈ GW := gw 849 (by decide +kernel) rfl
theorem q_850 : Cond.methodLink "NetScriptLaw" 208 yJ4_init_da8c8 ∈ GW := gw 850 (by decide +kernel) rfl
theorem q_851 : Cond.instanceMethod yJ4_init_da8c8 ∈ GW := gw 851 (by decide +kernel) rfl
theorem q_852 : Cond.code yJ4_init_da8c8 cJ4_init_da8c8 1 (Option.none : Option Jvm.ClassFile.FieldType) ∈ GW := gw 852 (by decide +kernel) rfl
theorem q_853 : Cond.methodLink "java/lang/StringBuilder" 1 yJ5_init_d00df ∈ GW := gw 853 (by decide +kernel) rfl
theorem q_854 : Cond.instanceMethod yJ5_init_d00df ∈ GW := gw 854 (by decide +kernel) rfl
theorem q_855 : Cond.code yJ5_init_d00df cJ5_init_d00df 2 (Option.none : Option Jvm.ClassFile.FieldType) ∈ GW := gw 855 (by decide +kernel) rfl
theorem q_856 : Cond.methodLink "java/lang/AbstractStringBuilder" 3 ⟨"java/lang/Object", "<init>", "()V"⟩ ∈ GW := gw 856 (by decide +kernel) rfl
theorem q_857 : Cond.fieldLink "java/lang/AbstractStringBuilder" 18 "java/lang/String" "COMPACT_STRINGS" "Z" ∈ GW := gw 857 (by decide +kernel) rfl
theorem q_859 : Cond.methodLink "java/lang/AbstractStringBuilder" 26 yJ2_newBytesFor_77867 ∈ GW := gw 859 (by decide +kernel) rfl
theorem q_860 : Cond.static yJ2_newBytesFor_77867 ∈ GW := gw 860 (by decide +kernel) rfl
theorem q_861 : Cond.code yJ2_newBytesFor_77867 cJ2_newBytesFor_77867 1 (Option.some (FieldType.array FieldType.byte)) ∈ GW := gw 861 (by decide +kernel) rfl
theorem q_862 : Cond.methodLink "java/lang/StringUTF16" 11 yJ2_newBytesLength_0f7a4 ∈ GW := gw 862 (by decide +kernel) rfl
theorem q_863 : Cond.static yJ2_newBytesLength_0f7a4 ∈ GW := gw 863 (by decide +kernel) rfl
theorem q_864 : Cond.code yJ2_newBytesLength_0f7a4 cJ2_newBytesLength_0f7a4 1 (Option.some FieldType.int) ∈ GW := gw 864 (by decide +kernel) rfl
theorem q_865 : Cond.constant "java/lang/StringUTF16" 20 (1073741823 : Int32) ∈ GW := gw 865 (by decide +kernel) rfl
theorem q_866 : Cond.fieldLink "java/lang/AbstractStringBuilder" 15 "java/lang/AbstractStringBuilder" "value" "[B" ∈ GW := gw 866 (by decide +kernel) rfl
theorem q_867 : Cond.fieldLink "java/lang/AbstractStringBuilder" 22 "java/lang/AbstractStringBuilder" "coder" "B" ∈ GW := gw 867 (by decide +kernel) rfl
theorem q_868 : Cond.fieldLink "java/lang/String" 1048 "java/lang/AbstractStringBuilder" "maybeLatin1" "Z" ∈ GW := gw 868 (by decide +kernel) rfl
theorem q_869 : Cond.fieldLink "java/lang/AbstractStringBuilder" 79 "java/lang/AbstractStringBuilder" "count" "I" ∈ GW := gw 869 (by decide +kernel) rfl
theorem q_870 : Cond.lays "java/lang/StringBuilder" "java/lang/AbstractStringBuilder" "value" "[B" ∈ GW := gw 870 (by decide +kernel) rfl
theorem q_872 : Cond.lays "java/lang/StringBuilder" "java/lang/AbstractStringBuilder" "coder" "B" ∈ GW := gw 872 (by decide +kernel) rfl
theorem q_874 : Cond.lays "java/lang/StringBuilder" "java/lang/AbstractStringBuilder" "maybeLatin1" "Z" ∈ GW := gw 874 (by decide +kernel) rfl
theorem q_876 : Cond.lays "java/lang/StringBuilder" "java/lang/AbstractStringBuilder" "count" "I" ∈ GW := gw 876 (by decide +kernel) rfl
theorem q_878 : Cond.superclass "java/lang/StringBuilder" "java/lang/AbstractStringBuilder" ∈ GW := gw 878 (by decide +kernel) rfl
theorem q_880 : Cond.methodLink "NetScriptLaw" 211 yJ4_append_15ec4 ∈ GW := gw 880 (by decide +kernel) rfl
theorem q_881 : Cond.instanceMethod yJ4_append_15ec4 ∈ GW := gw 881 (by decide +kernel) rfl
theorem q_882 : Cond.selects "java/lang/StringBuilder" yJ4_append_15ec4 yJ4_append_15ec4 ∈ GW := gw 882 (by decide +kernel) rfl
theorem q_883 : Cond.code yJ4_append_15ec4 cJ4_append_15ec4 2 (Option.some (FieldType.object "java/lang/StringBuilder")) ∈ GW := gw 883 (by decide +kernel) rfl
theorem q_884 : Cond.methodLink "java/lang/StringBuilder" 29 yJ5_append_cf1ce ∈ GW := gw 884 (by decide +kernel) rfl
theorem q_885 : Cond.instanceMethod yJ5_append_cf1ce ∈ GW := gw 885 (by decide +kernel) rfl
theorem q_886 : Cond.code yJ5_append_cf1ce cJ5_append_cf1ce 3 (Option.some (FieldType.object "java/lang/AbstractStringBuilder")) ∈ GW := gw 886 (by decide +kernel) rfl
theorem q_887 : Cond.methodLink "java/lang/AbstractStringBuilder" 204 yJ5_appendNull_278bc ∈ GW := gw 887 (by decide +kernel) rfl
theorem q_889 : Cond.instanceMethod yJ5_appendNull_278bc ∈ GW := gw 889 (by decide +kernel) rfl
theorem q_890 : Cond.code yJ5_appendNull_278bc cJ5_appendNull_278bc 3 (Option.some (FieldType.object "java/lang/AbstractStringBuilder")) ∈ GW := gw 890 (by decide +kernel) rfl
theorem q_891 : Cond.methodLink "java/lang/AbstractStringBuilder" 100 yJ5_ensureCapacityInternal_d00df ∈ GW := gw 891 (by decide +kernel) rfl
theorem q_893 : Cond.instanceMethod yJ5_ensureCapacityInternal_d00df ∈ GW := gw 893 (by decide +kernel) rfl
theorem q_894 : Cond.code yJ5_ensureCapacityInternal_d00df cJ5_ensureCapacityInternal_d00df 3 (Option.none : Option Jvm.ClassFile.FieldType) ∈ GW := gw 894 (by decide +kernel) rfl
theorem q_895 : Cond.methodLink "java/lang/AbstractStringBuilder" 104 yJ5_newCapacity_0f7a4 ∈ GW := gw 895 (by decide +kernel) rfl
theorem q_897 : Cond.instanceMethod yJ5_newCapacity_0f7a4 ∈ GW := gw 897 (by decide +kernel) rfl
theorem q_898 : Cond.code yJ5_newCapacity_0f7a4 cJ5_newCapacity_0f7a4 6 (Option.some FieldType.int) ∈ GW := gw 898 (by decide +kernel) rfl
theorem q_899 : Cond.methodLink "java/lang/AbstractStringBuilder" 114 yJ8_newLength_cabcc ∈ GW := gw 899 (by decide +kernel) rfl
theorem q_900 : Cond.static yJ8_newLength_cabcc ∈ GW := gw 900 (by decide +kernel) rfl
theorem q_901 : Cond.code yJ8_newLength_cabcc cJ8_newLength_cabcc 4 (Option.some FieldType.int) ∈ GW := gw 901 (by decide +kernel) rfl
theorem q_902 : Cond.methodLink "jdk/internal/util/ArraysSupport" 194 yJ9_max_7cf53 ∈ GW := gw 902 (by decide +kernel) rfl
theorem q_903 : Cond.constant "jdk/internal/util/ArraysSupport" 200 (2147483639 : Int32) ∈ GW := gw 903 (by decide +kernel) rfl
theorem q_904 : Cond.methodLink "jdk/internal/util/ArraysSupport" 201 yJ8_hugeLength_7cf53 ∈ GW := gw 904 (by decide +kernel) rfl
theorem q_905 : Cond.static yJ8_hugeLength_7cf53 ∈ GW := gw 905 (by decide +kernel) rfl
theorem q_906 : Cond.code yJ8_hugeLength_7cf53 cJ8_hugeLength_7cf53 3 (Option.some FieldType.int) ∈ GW := gw 906 (by decide +kernel) rfl
theorem q_907 : Cond.constant "java/lang/AbstractStringBuilder" 39 (2147483647 : Int32) ∈ GW := gw 907 (by decide +kernel) rfl
theorem q_908 : Cond.methodLink "java/lang/AbstractStringBuilder" 108 yJ7_copyOf_9075b ∈ GW := gw 908 (by decide +kernel) rfl
theorem q_909 : Cond.static yJ7_copyOf_9075b ∈ GW := gw 909 (by decide +kernel) rfl
theorem q_910 : Cond.code yJ7_copyOf_9075b cJ7_copyOf_9075b 3 (Option.some (FieldType.array FieldType.byte)) ∈ GW := gw 910 (by decide +kernel) rfl
theorem q_911 : Cond.methodLink "java/util/Arrays" 310 ⟨"[B", "clone", "()Ljava/lang/Object;"⟩ ∈ GW := gw 911 (by decide +kernel) rfl
theorem q_913 : Cond.native ⟨"java/lang/Object", "clone", "()Ljava/lang/Object;"⟩ ∈ GW := gw 913 (by decide +kernel) rfl
theorem q_914 : Cond.instanceMethod ⟨"java/lang/Object", "clone", "()Ljava/lang/Object;"⟩ ∈ GW := gw 914 (by decide +kernel) rfl
theorem q_915 : Cond.selects "[B" ⟨"[B", "clone", "()Ljava/lang/Object;"⟩ ⟨"java/lang/Object", "clone", "()Ljava/lang/Object;"⟩ ∈ GW := gw 915 (by decide +kernel) rfl
theorem q_916 : Cond.castable "[B" "java/lang/Cloneable" ∈ NW := nw 916 (by decide +kernel) rfl
theorem q_917 : Cond.classLink "java/util/Arrays" 311 "[B" ∈ GW := gw 917 (by decide +kernel) rfl
theorem q_918 : Cond.methodLink "java/util/Arrays" 304 yJ9_min_7cf53 ∈ GW := gw 918 (by decide +kernel) rfl
theorem q_919 : Cond.methodLink "java/util/Arrays" 150 ⟨"java/lang/System", "arraycopy", "(Ljava/lang/Object;ILjava/lang/Object;II)V"⟩ ∈ GW := gw 919 (by decide +kernel) rfl
theorem q_920 : Cond.static ⟨"java/lang/System", "arraycopy", "(Ljava/lang/Object;ILjava/lang/Object;II)V"⟩ ∈ GW := gw 920 (by decide +kernel) rfl
theorem q_921 : Cond.native ⟨"java/lang/System", "arraycopy", "(Ljava/lang/Object;ILjava/lang/Object;II)V"⟩ ∈ GW := gw 921 (by decide +kernel) rfl
theorem q_922 : Cond.methodLink "java/lang/AbstractStringBuilder" 83 yJ5_isLatin1_aae02 ∈ GW := gw 922 (by decide +kernel) rfl
theorem q_923 : Cond.instanceMethod yJ5_isLatin1_aae02 ∈ GW := gw 923 (by decide +kernel) rfl
theorem q_925 : Cond.selects "java/lang/StringBuilder" yJ5_isLatin1_aae02 yJ5_isLatin1_aae02 ∈ GW := gw 925 (by decide +kernel) rfl
theorem q_926 : Cond.code yJ5_isLatin1_aae02 cJ5_isLatin1_aae02 1 (Option.some FieldType.boolean) ∈ GW := gw 926 (by decide +kernel) rfl
theorem q_927 : Cond.methodLink "java/lang/AbstractStringBuilder" 226 yJ2_putCharsAt_cd4e5 ∈ GW := gw 927 (by decide +kernel) rfl
theorem q_928 : Cond.static yJ2_putCharsAt_cd4e5 ∈ GW := gw 928 (by decide +kernel) rfl
theorem q_929 : Cond.code yJ2_putCharsAt_cd4e5 cJ2_putCharsAt_cd4e5 7 (Option.some FieldType.int) ∈ GW := gw 929 (by decide +kernel) rfl
theorem q_930 : Cond.methodLink "java/lang/StringUTF16" 96 yJ2_checkBoundsBeginEnd_d044e ∈ GW := gw 930 (by decide +kernel) rfl
theorem q_931 : Cond.static yJ2_checkBoundsBeginEnd_d044e ∈ GW := gw 931 (by decide +kernel) rfl
theorem q_932 : Cond.code yJ2_checkBoundsBeginEnd_d044e cJ2_checkBoundsBeginEnd_d044e 3 (Option.none : Option Jvm.ClassFile.FieldType) ∈ GW := gw 932 (by decide +kernel) rfl
theorem q_933 : Cond.methodLink "java/lang/StringUTF16" 48 yJ2_length_9d52b ∈ GW := gw 933 (by decide +kernel) rfl
theorem q_934 : Cond.static yJ2_length_9d52b ∈ GW := gw 934 (by decide +kernel) rfl
theorem q_935 : Cond.code yJ2_length_9d52b cJ2_length_9d52b 1 (Option.some FieldType.int) ∈ GW := gw 935 (by decide +kernel) rfl
theorem q_936 : Cond.methodLink "java/lang/StringUTF16" 241 yJ0_checkBoundsBeginEnd_23922 ∈ GW := gw 936 (by decide +kernel) rfl
theorem q_937 : Cond.static yJ0_checkBoundsBeginEnd_23922 ∈ GW := gw 937 (by decide +kernel) rfl
theorem q_938 : Cond.code yJ0_checkBoundsBeginEnd_23922 cJ0_checkBoundsBeginEnd_23922 3 (Option.none : Option Jvm.ClassFile.FieldType) ∈ GW := gw 938 (by decide +kernel) rfl
theorem q_939 : Cond.fieldLink "java/lang/String" 1053 "jdk/internal/util/Preconditions" "SIOOBE_FORMATTER" "Ljava/util/function/BiFunction;" ∈ GW := gw 939 (by decide +kernel) rfl
theorem q_941 : Cond.methodLink "java/lang/String" 1062 yJ3_checkFromToIndex_8c36e ∈ GW := gw 941 (by decide +kernel) rfl
theorem q_942 : Cond.static yJ3_checkFromToIndex_8c36e ∈ GW := gw 942 (by decide +kernel) rfl
theorem q_943 : Cond.code yJ3_checkFromToIndex_8c36e cJ3_checkFromToIndex_8c36e 4 (Option.some FieldType.int) ∈ GW := gw 943 (by decide +kernel) rfl
theorem q_944 : Cond.methodLink "java/lang/StringUTF16" 111 yJ2_putChar_b72d1 ∈ GW := gw 944 (by decide +kernel) rfl
theorem q_945 : Cond.static yJ2_putChar_b72d1 ∈ GW := gw 945 (by decide +kernel) rfl
theorem q_946 : Cond.code yJ2_putChar_b72d1 cJ2_putChar_b72d1 3 (Option.none : Option Jvm.ClassFile.FieldType) ∈ GW := gw 946 (by decide +kernel) rfl
theorem q_947 : Cond.fieldLink "java/lang/StringUTF16" 44 "java/lang/StringUTF16" "$assertionsDisabled" "Z" ∈ GW := gw 947 (by decide +kernel) rfl
theorem q_949 : Cond.fieldLink "java/lang/StringUTF16" 59 "java/lang/StringUTF16" "HI_BYTE_SHIFT" "I" ∈ GW := gw 949 (by decide +kernel) rfl
theorem q_951 : Cond.fieldLink "java/lang/StringUTF16" 63 "java/lang/StringUTF16" "LO_BYTE_SHIFT" "I" ∈ GW := gw 951 (by decide +kernel) rfl
theorem q_953 : Cond.methodLink "java/lang/AbstractStringBuilder" 32 yJ0_length_8abf5 ∈ GW := gw 953 (by decide +kernel) rfl
theorem q_954 : Cond.instanceMethod yJ0_length_8abf5 ∈ GW := gw 954 (by decide +kernel) rfl
theorem q_955 : Cond.selects "java/lang/String" yJ0_length_8abf5 yJ0_length_8abf5 ∈ GW := gw 955 (by decide +kernel) rfl
theorem q_956 : Cond.code yJ0_length_8abf5 cJ0_length_8abf5 1 (Option.some FieldType.int) ∈ GW := gw 956 (by decide +kernel) rfl
theorem q_957 : Cond.methodLink "java/lang/String" 335 yJ0_coder_7d493 ∈ GW := gw 957 (by decide +kernel) rfl
theorem q_958 : Cond.instanceMethod yJ0_coder_7d493 ∈ GW := gw 958 (by decide +kernel) rfl
theorem q_959 : Cond.selects "java/lang/String" yJ0_coder_7d493 yJ0_coder_7d493 ∈ GW := gw 959 (by decide +kernel) rfl
theorem q_960 : Cond.code yJ0_coder_7d493 cJ0_coder_7d493 1 (Option.some FieldType.byte) ∈ GW := gw 960 (by decide +kernel) rfl
theorem q_961 : Cond.fieldLink "java/lang/String" 38 "java/lang/String" "COMPACT_STRINGS" "Z" ∈ GW := gw 961 (by decide +kernel) rfl
theorem q_962 : Cond.methodLink "java/lang/AbstractStringBuilder" 208 yJ5_putStringAt_47b60 ∈ GW := gw 962 (by decide +kernel) rfl
theorem q_964 : Cond.instanceMethod yJ5_putStringAt_47b60 ∈ GW := gw 964 (by decide +kernel) rfl
theorem q_965 : Cond.code yJ5_putStringAt_47b60 cJ5_putStringAt_47b60 3 (Option.none : Option Jvm.ClassFile.FieldType) ∈ GW := gw 965 (by decide +kernel) rfl
theorem q_966 : Cond.methodLink "java/lang/AbstractStringBuilder" 397 yJ5_inflateIfNeededFor_a7421 ∈ GW := gw 966 (by decide +kernel) rfl
theorem q_968 : Cond.instanceMethod yJ5_inflateIfNeededFor_a7421 ∈ GW := gw 968 (by decide +kernel) rfl
theorem q_969 : Cond.code yJ5_inflateIfNeededFor_a7421 cJ5_inflateIfNeededFor_a7421 2 (Option.none : Option Jvm.ClassFile.FieldType) ∈ GW := gw 969 (by decide +kernel) rfl
theorem q_970 : Cond.methodLink "java/lang/AbstractStringBuilder" 40 yJ0_coder_7d493 ∈ GW := gw 970 (by decide +kernel) rfl
theorem q_971 : Cond.methodLink "java/lang/AbstractStringBuilder" 195 yJ5_inflate_da8c8 ∈ GW := gw 971 (by decide +kernel) rfl
theorem q_973 : Cond.instanceMethod yJ5_inflate_da8c8 ∈ GW := gw 973 (by decide +kernel) rfl
theorem q_974 : Cond.code yJ5_inflate_da8c8 cJ5_inflate_da8c8 2 (Option.none : Option Jvm.ClassFile.FieldType) ∈ GW := gw 974 (by decide +kernel) rfl
theorem q_975 : Cond.methodLink "java/lang/AbstractStringBuilder" 125 yJ1_inflate_0e8fd ∈ GW := gw 975 (by decide +kernel) rfl
theorem q_976 : Cond.static yJ1_inflate_0e8fd ∈ GW := gw 976 (by decide +kernel) rfl
theorem q_977 : Cond.code yJ1_inflate_0e8fd cJ1_inflate_0e8fd 5 (Option.none : Option Jvm.ClassFile.FieldType) ∈ GW := gw 977 (by decide +kernel) rfl
theorem q_978 : Cond.methodLink "java/lang/StringLatin1" 240 yJ2_inflate_0e8fd ∈ GW := gw 978 (by decide +kernel) rfl
theorem q_979 : Cond.static yJ2_inflate_0e8fd ∈ GW := gw 979 (by decide +kernel) rfl
theorem q_980 : Cond.code yJ2_inflate_0e8fd cJ2_inflate_0e8fd 6 (Option.none : Option Jvm.ClassFile.FieldType) ∈ GW := gw 980 (by decide +kernel) rfl
theorem q_981 : Cond.methodLink "java/lang/StringUTF16" 173 yJ2_checkBoundsOffCount_d044e ∈ GW := gw 981 (by decide +kernel) rfl
theorem q_982 : Cond.static yJ2_checkBoundsOffCount_d044e ∈ GW := gw 982 (by decide +kernel) rfl
theorem q_983 : Cond.code yJ2_checkBoundsOffCount_d044e cJ2_checkBoundsOffCount_d044e 3 (Option.none : Option Jvm.ClassFile.FieldType) ∈ GW := gw 983 (by decide +kernel) rfl
theorem q_984 : Cond.methodLink "java/lang/StringUTF16" 419 yJ0_checkBoundsOffCount_cabcc ∈ GW := gw 984 (by decide +kernel) rfl
theorem q_985 : Cond.static yJ0_checkBoundsOffCount_cabcc ∈ GW := gw 985 (by decide +kernel) rfl
theorem q_986 : Cond.code yJ0_checkBoundsOffCount_cabcc cJ0_checkBoundsOffCount_cabcc 3 (Option.some FieldType.int) ∈ GW := gw 986 (by decide +kernel) rfl
theorem q_987 : Cond.methodLink "java/lang/String" 1065 yJ3_checkFromIndexSize_8c36e ∈ GW := gw 987 (by decide +kernel) rfl
theorem q_988 : Cond.static yJ3_checkFromIndexSize_8c36e ∈ GW := gw 988 (by decide +kernel) rfl
theorem q_989 : Cond.code yJ3_checkFromIndexSize_8c36e cJ3_checkFromIndexSize_8c36e 4 (Option.some FieldType.int) ∈ GW := gw 989 (by decide +kernel) rfl
theorem q_990 : Cond.methodLink "java/lang/AbstractStringBuilder" 399 yJ0_getBytes_840e7 ∈ GW := gw 990 (by decide +kernel) rfl
theorem q_991 : Cond.instanceMethod yJ0_getBytes_840e7 ∈ GW := gw 991 (by decide +kernel) rfl
theorem q_992 : Cond.selects "java/lang/String" yJ0_getBytes_840e7 yJ0_getBytes_840e7 ∈ GW := gw 992 (by decide +kernel) rfl
theorem q_993 : Cond.code yJ0_getBytes_840e7 cJ0_getBytes_840e7 4 (Option.none : Option Jvm.ClassFile.FieldType) ∈ GW := gw 993 (by decide +kernel) rfl
theorem q_994 : Cond.methodLink "java/lang/String" 212 ⟨"java/lang/System", "arraycopy", "(Ljava/lang/Object;ILjava/lang/Object;II)V"⟩ ∈ GW := gw 994 (by decide +kernel) rfl
theorem q_995 : Cond.methodLink "java/lang/String" 106 yJ1_inflate_0e8fd ∈ GW := gw 995 (by decide +kernel) rfl
theorem q_996 : Cond.methodLink "NetScriptLaw" 215 yJ4_append_bf812 ∈ GW := gw 996 (by decide +kernel) rfl
theorem q_997 : Cond.instanceMethod yJ4_append_bf812 ∈ GW := gw 997 (by decide +kernel) rfl
theorem q_998 : Cond.selects "java/lang/StringBuilder" yJ4_append_bf812 yJ4_append_bf812 ∈ GW := gw 998 (by decide +kernel) rfl
theorem q_999 : Cond.code yJ4_append_bf812 cJ4_append_bf812 2 (Option.some (FieldType.object "java/lang/StringBuilder")) ∈ GW := gw 999 (by decide +kernel) rfl
theorem q_1000 : Cond.methodLink "java/lang/StringBuilder" 53 yJ5_append_c97b9 ∈ GW := gw 1000 (by decide +kernel) rfl
theorem q_1001 : Cond.instanceMethod yJ5_append_c97b9 ∈ GW := gw 1001 (by decide +kernel) rfl
theorem q_1002 : Cond.code yJ5_append_c97b9 cJ5_append_c97b9 4 (Option.some (FieldType.object "java/lang/AbstractStringBuilder")) ∈ GW := gw 1002 (by decide +kernel) rfl
theorem q_1003 : Cond.methodLink "java/lang/AbstractStringBuilder" 245 yJ6_stringSize_0f7a4 ∈ GW := gw 1003 (by decide +kernel) rfl
theorem q_1004 : Cond.static yJ6_stringSize_0f7a4 ∈ GW := gw 1004 (by decide +kernel) rfl
theorem q_1005 : Cond.code yJ6_stringSize_0f7a4 cJ6_stringSize_0f7a4 4 (Option.some FieldType.int) ∈ GW := gw 1005 (by decide +kernel) rfl
theorem q_1006 : Cond.methodLink "java/lang/AbstractStringBuilder" 248 yJ6_getChars_ba4f3 ∈ GW := gw 1006 (by decide +kernel) rfl
theorem q_1007 : Cond.static yJ6_getChars_ba4f3 ∈ GW := gw 1007 (by decide +kernel) rfl
theorem q_1008 : Cond.code yJ6_getChars_ba4f3 cJ6_getChars_ba4f3 7 (Option.some FieldType.int) ∈ GW := gw 1008 (by decide +kernel) rfl
theorem q_1009 : Cond.fieldLink "java/lang/Integer" 83 "java/lang/Integer" "DigitOnes" "[B" ∈ GW := gw 1009 (by decide +kernel) rfl
theorem q_1011 : Cond.fieldLink "java/lang/Integer" 87 "java/lang/Integer" "DigitTens" "[B" ∈ GW := gw 1011 (by decide +kernel) rfl
theorem q_1013 : Cond.methodLink "java/lang/AbstractStringBuilder" 251 yJ2_getChars_46870 ∈ GW := gw 1013 (by decide +kernel) rfl
theorem q_1014 : Cond.static yJ2_getChars_46870 ∈ GW := gw 1014 (by decide +kernel) rfl
theorem q_1015 : Cond.code yJ2_getChars_46870 cJ2_getChars_46870 5 (Option.some FieldType.int) ∈ GW := gw 1015 (by decide +kernel) rfl
theorem q_1016 : Cond.methodLink "java/lang/StringUTF16" 393 yJ2_getChars_ba4f3 ∈ GW := gw 1016 (by decide +kernel) rfl
theorem q_1017 : Cond.static yJ2_getChars_ba4f3 ∈ GW := gw 1017 (by decide +kernel) rfl
theorem q_1018 : Cond.code yJ2_getChars_ba4f3 cJ2_getChars_ba4f3 7 (Option.some FieldType.int) ∈ GW := gw 1018 (by decide +kernel) rfl
theorem q_1019 : Cond.fieldLink "java/lang/StringUTF16" 403 "java/lang/Integer" "DigitOnes" "[B" ∈ GW := gw 1019 (by decide +kernel) rfl
theorem q_1020 : Cond.fieldLink "java/lang/StringUTF16" 407 "java/lang/Integer" "DigitTens" "[B" ∈ GW := gw 1020 (by decide +kernel) rfl
theorem q_1024 : Cond.methodLink "NetScriptLaw" 224 yJ4_toString_0e30d ∈ GW := gw 1024 (by decide +kernel) rfl
theorem q_1025 : Cond.instanceMethod yJ4_toString_0e30d ∈ GW := gw 1025 (by decide +kernel) rfl
theorem q_1026 : Cond.selects "java/lang/StringBuilder" yJ4_toString_0e30d yJ4_toString_0e30d ∈ GW := gw 1026 (by decide +kernel) rfl
theorem q_1027 : Cond.code yJ4_toString_0e30d cJ4_toString_0e30d 1 (Option.some (FieldType.object "java/lang/String")) ∈ GW := gw 1027 (by decide +kernel) rfl
theorem q_1028 : Cond.classLink "java/lang/StringBuilder" 18 "java/lang/String" ∈ GW := gw 1028 (by decide +kernel) rfl
theorem q_1029 : Cond.methodLink "java/lang/StringBuilder" 137 yJ0_init_81219 ∈ GW := gw 1029 (by decide +kernel) rfl
theorem q_1030 : Cond.instanceMethod yJ0_init_81219 ∈ GW := gw 1030 (by decide +kernel) rfl
theorem q_1031 : Cond.code yJ0_init_81219 cJ0_init_81219 2 (Option.none : Option Jvm.ClassFile.FieldType) ∈ GW := gw 1031 (by decide +kernel) rfl
theorem q_1032 : Cond.methodLink "java/lang/String" 489 yJ0_init_db425 ∈ GW := gw 1032 (by decide +kernel) rfl
theorem q_1033 : Cond.instanceMethod yJ0_init_db425 ∈ GW := gw 1033 (by decide +kernel) rfl
theorem q_1034 : Cond.code yJ0_init_db425 cJ0_init_db425 5 (Option.none : Option Jvm.ClassFile.FieldType) ∈ GW := gw 1034 (by decide +kernel) rfl
theorem q_1035 : Cond.methodLink "java/lang/String" 1 ⟨"java/lang/Object", "<init>", "()V"⟩ ∈ GW := gw 1035 (by decide +kernel) rfl
theorem q_1036 : Cond.methodLink "java/lang/String" 552 yJ5_getValue_6d5f1 ∈ GW := gw 1036 (by decide +kernel) rfl
theorem q_1037 : Cond.instanceMethod yJ5_getValue_6d5f1 ∈ GW := gw 1037 (by decide +kernel) rfl
theorem q_1039 : Cond.selects "java/lang/StringBuilder" yJ5_getValue_6d5f1 yJ5_getValue_6d5f1 ∈ GW := gw 1039 (by decide +kernel) rfl
theorem q_1040 : Cond.code yJ5_getValue_6d5f1 cJ5_getValue_6d5f1 1 (Option.some (FieldType.array FieldType.byte)) ∈ GW := gw 1040 (by decide +kernel) rfl
theorem q_1041 : Cond.methodLink "java/lang/String" 549 yJ5_length_8abf5 ∈ GW := gw 1041 (by decide +kernel) rfl
theorem q_1042 : Cond.instanceMethod yJ5_length_8abf5 ∈ GW := gw 1042 (by decide +kernel) rfl
theorem q_1044 : Cond.selects "java/lang/StringBuilder" yJ5_length_8abf5 yJ4_length_8abf5 ∈ GW := gw 1044 (by decide +kernel) rfl
theorem q_1045 : Cond.instanceMethod yJ4_length_8abf5 ∈ GW := gw 1045 (by decide +kernel) rfl
theorem q_1046 : Cond.code yJ4_length_8abf5 cJ4_length_8abf5 1 (Option.some FieldType.int) ∈ GW := gw 1046 (by decide +kernel) rfl
theorem q_1047 : Cond.methodLink "java/lang/StringBuilder" 343 yJ5_length_8abf5 ∈ GW := gw 1047 (by decide +kernel) rfl
theorem q_1048 : Cond.code yJ5_length_8abf5 cJ5_length_8abf5 1 (Option.some FieldType.int) ∈ GW := gw 1048 (by decide +kernel) rfl
theorem q_1049 : Cond.methodLink "java/lang/String" 1047 yJ5_isLatin1_aae02 ∈ GW := gw 1049 (by decide +kernel) rfl
theorem q_1050 : Cond.methodLink "java/lang/String" 54 yJ7_copyOfRange_39247 ∈ GW := gw 1050 (by decide +kernel) rfl
theorem q_1051 : Cond.static yJ7_copyOfRange_39247 ∈ GW := gw 1051 (by decide +kernel) rfl
theorem q_1052 : Cond.code yJ7_copyOfRange_39247 cJ7_copyOfRange_39247 3 (Option.some (FieldType.array FieldType.byte)) ∈ GW := gw 1052 (by decide +kernel) rfl
theorem q_1053 : Cond.methodLink "java/util/Arrays" 339 yJ7_copyOfRangeByte_39247 ∈ GW := gw 1053 (by decide +kernel) rfl
theorem q_1054 : Cond.static yJ7_copyOfRangeByte_39247 ∈ GW := gw 1054 (by decide +kernel) rfl
theorem q_1055 : Cond.code yJ7_copyOfRangeByte_39247 cJ7_copyOfRangeByte_39247 5 (Option.some (FieldType.array FieldType.byte)) ∈ GW := gw 1055 (by decide +kernel) rfl
theorem q_1056 : Cond.methodLink "java/util/Arrays" 343 yJ7_checkLength_df160 ∈ GW := gw 1056 (by decide +kernel) rfl
end
section
theorem q_1057 : Cond.static yJ7_checkLength_df160 ∈ GW := gw 1057 (by decide +kernel) rfl
theorem q_1058 : Cond.code yJ7_checkLength_df160 cJ7_checkLength_df160 2 (Option.none : Option Jvm.ClassFile.FieldType) ∈ GW := gw 1058 (by decide +kernel) rfl
theorem q_1059 : Cond.classLink "java/util/Arrays" 43 "java/lang/IllegalArgumentException" ∈ GW := gw 1059 (by decide +kernel) rfl
theorem q_1060 : Cond.classLink "java/util/Arrays" 45 "java/lang/StringBuilder" ∈ GW := gw 1060 (by decide +kernel) rfl
theorem q_1061 : Cond.methodLink "java/util/Arrays" 47 yJ4_init_da8c8 ∈ GW := gw 1061 (by decide +kernel) rfl
theorem q_1062 : Cond.methodLink "java/util/Arrays" 54 yJ4_append_bf812 ∈ GW := gw 1062 (by decide +kernel) rfl
theorem q_1064 : Cond.methodLink "java/util/Arrays" 50 yJ4_append_15ec4 ∈ GW := gw 1064 (by decide +kernel) rfl
theorem q_1065 : Cond.methodLink "java/util/Arrays" 61 yJ4_toString_0e30d ∈ GW := gw 1065 (by decide +kernel) rfl
theorem q_1066 : Cond.methodLink "java/util/Arrays" 65 ⟨"java/lang/IllegalArgumentException", "<init>", "(Ljava/lang/String;)V"⟩ ∈ GW := gw 1066 (by decide +kernel) rfl
theorem q_1067 : Cond.methodLink "java/lang/String" 1051 yJ2_compress_39247 ∈ GW := gw 1067 (by decide +kernel) rfl
theorem q_1068 : Cond.static yJ2_compress_39247 ∈ GW := gw 1068 (by decide +kernel) rfl
theorem q_1069 : Cond.code yJ2_compress_39247 cJ2_compress_39247 6 (Option.some (FieldType.array FieldType.byte)) ∈ GW := gw 1069 (by decide +kernel) rfl
theorem q_1070 : Cond.methodLink "java/lang/StringUTF16" 123 yJ2_compress_5af95 ∈ GW := gw 1070 (by decide +kernel) rfl
theorem q_1071 : Cond.static yJ2_compress_5af95 ∈ GW := gw 1071 (by decide +kernel) rfl
theorem q_1072 : Cond.code yJ2_compress_5af95 cJ2_compress_5af95 7 (Option.some FieldType.int) ∈ GW := gw 1072 (by decide +kernel) rfl
theorem q_1073 : Cond.methodLink "java/lang/StringUTF16" 71 yJ2_getChar_3b067 ∈ GW := gw 1073 (by decide +kernel) rfl
theorem q_1074 : Cond.static yJ2_getChar_3b067 ∈ GW := gw 1074 (by decide +kernel) rfl
theorem q_1075 : Cond.code yJ2_getChar_3b067 cJ2_getChar_3b067 2 (Option.some FieldType.char) ∈ GW := gw 1075 (by decide +kernel) rfl
theorem q_1076 : Cond.methodLink "java/lang/StringUTF16" 126 yJ7_copyOfRange_39247 ∈ GW := gw 1076 (by decide +kernel) rfl
theorem q_1077 : Cond.methodLink "java/lang/String" 47 yJ2_coderFromArrayLen_85cad ∈ GW := gw 1077 (by decide +kernel) rfl
theorem q_1078 : Cond.static yJ2_coderFromArrayLen_85cad ∈ GW := gw 1078 (by decide +kernel) rfl
theorem q_1079 : Cond.code yJ2_coderFromArrayLen_85cad cJ2_coderFromArrayLen_85cad 2 (Option.some FieldType.byte) ∈ GW := gw 1079 (by decide +kernel) rfl
theorem q_1080 : Cond.fieldLink "java/lang/String" 9 "java/lang/String" "value" "[B" ∈ GW := gw 1080 (by decide +kernel) rfl
theorem q_1081 : Cond.fieldLink "java/lang/String" 15 "java/lang/String" "coder" "B" ∈ GW := gw 1081 (by decide +kernel) rfl
theorem q_1082 : Cond.lays "java/lang/String" "java/lang/String" "hash" "I" ∈ GW := gw 1082 (by decide +kernel) rfl
theorem q_1084 : Cond.lays "java/lang/String" "java/lang/String" "hashIsZero" "Z" ∈ GW := gw 1084 (by decide +kernel) rfl
theorem q_1086 : Cond.superclass "java/lang/String" "java/lang/Object" ∈ GW := gw 1086 (by decide +kernel) rfl
theorem q_1091 : Cond.methodLink "NetScriptLaw" 236 yL_reads ∈ GW := gw 1091 (by decide +kernel) rfl
theorem q_1092 : Cond.static yL_reads ∈ GW := gw 1092 (by decide +kernel) rfl
theorem q_1093 : Cond.code yL_reads cL_reads 4 (Option.some FieldType.int) ∈ GW := gw 1093 (by decide +kernel) rfl
theorem q_1094 : Cond.methodLink "NetScriptLaw" 142 yJ0_length_8abf5 ∈ GW := gw 1094 (by decide +kernel) rfl
theorem q_1095 : Cond.methodLink "NetScriptLaw" 147 yJ0_charAt_5068e ∈ GW := gw 1095 (by decide +kernel) rfl
theorem q_1096 : Cond.instanceMethod yJ0_charAt_5068e ∈ GW := gw 1096 (by decide +kernel) rfl
theorem q_1097 : Cond.selects "java/lang/String" yJ0_charAt_5068e yJ0_charAt_5068e ∈ GW := gw 1097 (by decide +kernel) rfl
theorem q_1098 : Cond.code yJ0_charAt_5068e cJ0_charAt_5068e 2 (Option.some FieldType.char) ∈ GW := gw 1098 (by decide +kernel) rfl
theorem q_1099 : Cond.methodLink "java/lang/String" 492 yJ0_isLatin1_aae02 ∈ GW := gw 1099 (by decide +kernel) rfl
theorem q_1100 : Cond.instanceMethod yJ0_isLatin1_aae02 ∈ GW := gw 1100 (by decide +kernel) rfl
theorem q_1101 : Cond.selects "java/lang/String" yJ0_isLatin1_aae02 yJ0_isLatin1_aae02 ∈ GW := gw 1101 (by decide +kernel) rfl
theorem q_1102 : Cond.code yJ0_isLatin1_aae02 cJ0_isLatin1_aae02 1 (Option.some FieldType.boolean) ∈ GW := gw 1102 (by decide +kernel) rfl
theorem q_1103 : Cond.methodLink "java/lang/String" 495 yJ1_charAt_3b067 ∈ GW := gw 1103 (by decide +kernel) rfl
theorem q_1104 : Cond.static yJ1_charAt_3b067 ∈ GW := gw 1104 (by decide +kernel) rfl
theorem q_1105 : Cond.code yJ1_charAt_3b067 cJ1_charAt_3b067 2 (Option.some FieldType.char) ∈ GW := gw 1105 (by decide +kernel) rfl
theorem q_1106 : Cond.methodLink "java/lang/StringLatin1" 9 yJ0_checkIndex_df160 ∈ GW := gw 1106 (by decide +kernel) rfl
theorem q_1107 : Cond.static yJ0_checkIndex_df160 ∈ GW := gw 1107 (by decide +kernel) rfl
theorem q_1108 : Cond.code yJ0_checkIndex_df160 cJ0_checkIndex_df160 2 (Option.none : Option Jvm.ClassFile.FieldType) ∈ GW := gw 1108 (by decide +kernel) rfl
theorem q_1109 : Cond.methodLink "java/lang/String" 1059 yJ3_checkIndex_8e157 ∈ GW := gw 1109 (by decide +kernel) rfl
theorem q_1110 : Cond.static yJ3_checkIndex_8e157 ∈ GW := gw 1110 (by decide +kernel) rfl
theorem q_1111 : Cond.code yJ3_checkIndex_8e157 cJ3_checkIndex_8e157 3 (Option.some FieldType.int) ∈ GW := gw 1111 (by decide +kernel) rfl
theorem q_1112 : Cond.methodLink "java/lang/String" 498 yJ2_charAt_3b067 ∈ GW := gw 1112 (by decide +kernel) rfl
theorem q_1113 : Cond.static yJ2_charAt_3b067 ∈ GW := gw 1113 (by decide +kernel) rfl
theorem q_1114 : Cond.code yJ2_charAt_3b067 cJ2_charAt_3b067 2 (Option.some FieldType.char) ∈ GW := gw 1114 (by decide +kernel) rfl
theorem q_1115 : Cond.methodLink "java/lang/StringUTF16" 67 yJ2_checkIndex_2214a ∈ GW := gw 1115 (by decide +kernel) rfl
theorem q_1116 : Cond.static yJ2_checkIndex_2214a ∈ GW := gw 1116 (by decide +kernel) rfl
theorem q_1117 : Cond.code yJ2_checkIndex_2214a cJ2_checkIndex_2214a 2 (Option.none : Option Jvm.ClassFile.FieldType) ∈ GW := gw 1117 (by decide +kernel) rfl
theorem q_1118 : Cond.methodLink "java/lang/StringUTF16" 414 yJ0_checkIndex_df160 ∈ GW := gw 1118 (by decide +kernel) rfl
theorem q_1119 : Cond.methodLink "NetScriptLaw" 150 yL_feed ∈ GW := gw 1119 (by decide +kernel) rfl
theorem q_1120 : Cond.static yL_feed ∈ GW := gw 1120 (by decide +kernel) rfl
theorem q_1121 : Cond.codeWith yL_feed cL_feed 3 (Option.some FieldType.int) [(0, 5, 6, 94)] ∈ GW := gw 1121 (by decide +kernel) rfl
theorem q_1122 : Cond.classLink "NetScriptLaw" 94 "java/lang/IllegalStateException" ∈ GW := gw 1122 (by decide +kernel) rfl
theorem q_1123 : Cond.methodLink "NetScriptLaw" 90 yX9_feed ∈ GW := gw 1123 (by decide +kernel) rfl
theorem q_1124 : Cond.instanceMethod yX9_feed ∈ GW := gw 1124 (by decide +kernel) rfl
theorem q_1125 : Cond.selects "NetScript" yX9_feed yX9_feed ∈ GW := gw 1125 (by decide +kernel) rfl
theorem q_1126 : Cond.code yX9_feed cX9_feed 2 (Option.some FieldType.int) ∈ GW := gw 1126 (by decide +kernel) rfl
theorem q_1127 : Cond.methodLinkNest "NetScript" 305 yX7_isFull "NetScript" ∈ NW := nw 1127 (by decide +kernel) rfl
theorem q_1129 : Cond.instanceMethod yX7_isFull ∈ GW := gw 1129 (by decide +kernel) rfl
theorem q_1130 : Cond.code yX7_isFull cX7_isFull 1 (Option.some FieldType.boolean) ∈ GW := gw 1130 (by decide +kernel) rfl
theorem q_1131 : Cond.classLink "NetScript" 309 "java/lang/IllegalStateException" ∈ GW := gw 1131 (by decide +kernel) rfl
theorem q_1132 : Cond.instantiable "java/lang/IllegalStateException" 6 ∈ GW := gw 1132 (by decide +kernel) rfl
theorem q_1133 : Cond.castable "java/lang/IllegalStateException" "java/lang/IllegalStateException" ∈ NW := nw 1133 (by decide +kernel) rfl
theorem q_1134 : Cond.selects "java/lang/IllegalStateException" ⟨"java/lang/Throwable", "fillInStackTrace", "(I)Ljava/lang/Throwable;"⟩ ⟨"java/lang/Throwable", "fillInStackTrace", "(I)Ljava/lang/Throwable;"⟩ ∈ GW := gw 1134 (by decide +kernel) rfl
theorem q_1135 : Cond.lays "java/lang/IllegalStateException" "java/lang/Throwable" "cause" "Ljava/lang/Throwable;" ∈ GW := gw 1135 (by decide +kernel) rfl
theorem q_1136 : Cond.lays "java/lang/IllegalStateException" "java/lang/Throwable" "stackTrace" "[Ljava/lang/StackTraceElement;" ∈ GW := gw 1136 (by decide +kernel) rfl
theorem q_1137 : Cond.lays "java/lang/IllegalStateException" "java/lang/Throwable" "suppressedExceptions" "Ljava/util/List;" ∈ GW := gw 1137 (by decide +kernel) rfl
theorem q_1138 : Cond.lays "java/lang/IllegalStateException" "java/lang/Throwable" "detailMessage" "Ljava/lang/String;" ∈ GW := gw 1138 (by decide +kernel) rfl
theorem q_1139 : Cond.lays "java/lang/IllegalStateException" "java/lang/Throwable" "backtrace" "Ljava/lang/Object;" ∈ GW := gw 1139 (by decide +kernel) rfl
theorem q_1141 : Cond.methodLink "NetScript" 313 ⟨"java/lang/IllegalStateException", "<init>", "(Ljava/lang/String;)V"⟩ ∈ GW := gw 1141 (by decide +kernel) rfl
theorem q_1142 : Cond.instanceMethod ⟨"java/lang/IllegalStateException", "<init>", "(Ljava/lang/String;)V"⟩ ∈ GW := gw 1142 (by decide +kernel) rfl
theorem q_1143 : Cond.code ⟨"java/lang/IllegalStateException", "<init>", "(Ljava/lang/String;)V"⟩ prog_23_method_2_code 2 (Option.none : Option Jvm.ClassFile.FieldType) ∈ GW := gw 1143 (by decide +kernel) rfl
theorem q_1144 : Cond.methodLink "java/lang/IllegalStateException" 7 ⟨"java/lang/RuntimeException", "<init>", "(Ljava/lang/String;)V"⟩ ∈ GW := gw 1144 (by decide +kernel) rfl
theorem q_1145 : Cond.lays "java/lang/IllegalStateException" "java/lang/Throwable" "depth" "I" ∈ GW := gw 1145 (by decide +kernel) rfl
theorem q_1146 : Cond.superclass "java/lang/IllegalStateException" "java/lang/RuntimeException" ∈ GW := gw 1146 (by decide +kernel) rfl
theorem q_1147 : Cond.methodLinkNest "NetScript" 314 yX7_append "NetScript" ∈ NW := nw 1147 (by decide +kernel) rfl
theorem q_1149 : Cond.instanceMethod yX7_append ∈ GW := gw 1149 (by decide +kernel) rfl
theorem q_1150 : Cond.code yX7_append cX7_append 2 (Option.none : Option Jvm.ClassFile.FieldType) ∈ GW := gw 1150 (by decide +kernel) rfl
theorem q_1151 : Cond.methodLink "NetScriptLaw" 153 yL_run ∈ GW := gw 1151 (by decide +kernel) rfl
theorem q_1152 : Cond.static yL_run ∈ GW := gw 1152 (by decide +kernel) rfl
theorem q_1153 : Cond.codeWith yL_run cL_run 2 (Option.some FieldType.int) [(0, 4, 5, 60), (0, 4, 9, 20)] ∈ GW := gw 1153 (by decide +kernel) rfl
theorem q_1154 : Cond.methodLink "NetScriptLaw" 96 yX9_run ∈ GW := gw 1154 (by decide +kernel) rfl
theorem q_1155 : Cond.instanceMethod yX9_run ∈ GW := gw 1155 (by decide +kernel) rfl
theorem q_1156 : Cond.selects "NetScript" yX9_run yX9_run ∈ GW := gw 1156 (by decide +kernel) rfl
theorem q_1157 : Cond.code yX9_run cX9_run 4 (Option.some FieldType.int) ∈ GW := gw 1157 (by decide +kernel) rfl
theorem q_1158 : Cond.methodLinkNest "NetScript" 321 yX7_findFault "NetScript" ∈ NW := nw 1158 (by decide +kernel) rfl
theorem q_1160 : Cond.instanceMethod yX7_findFault ∈ GW := gw 1160 (by decide +kernel) rfl
theorem q_1161 : Cond.code yX7_findFault cX7_findFault 2 (Option.some FieldType.int) ∈ GW := gw 1161 (by decide +kernel) rfl
theorem q_1162 : Cond.methodLink "NetScript$Script" 34 yX7_readOrder ∈ GW := gw 1162 (by decide +kernel) rfl
theorem q_1164 : Cond.instanceMethod yX7_readOrder ∈ GW := gw 1164 (by decide +kernel) rfl
theorem q_1165 : Cond.code yX7_readOrder cX7_readOrder 5 (Option.some FieldType.boolean) ∈ GW := gw 1165 (by decide +kernel) rfl
theorem q_1166 : Cond.methodLink "NetScript$Script" 42 yX7_formOf ∈ GW := gw 1166 (by decide +kernel) rfl
theorem q_1167 : Cond.static yX7_formOf ∈ GW := gw 1167 (by decide +kernel) rfl
theorem q_1168 : Cond.code yX7_formOf cX7_formOf 1 (Option.some (FieldType.object "java/lang/String")) ∈ GW := gw 1168 (by decide +kernel) rfl
theorem q_1177 : Cond.methodLink "NetScript$Script" 46 yX7_readForm ∈ GW := gw 1177 (by decide +kernel) rfl
theorem q_1179 : Cond.instanceMethod yX7_readForm ∈ GW := gw 1179 (by decide +kernel) rfl
theorem q_1180 : Cond.code yX7_readForm cX7_readForm 6 (Option.some FieldType.boolean) ∈ GW := gw 1180 (by decide +kernel) rfl
theorem q_1181 : Cond.methodLink "NetScript$Script" 76 yJ0_length_8abf5 ∈ GW := gw 1181 (by decide +kernel) rfl
theorem q_1182 : Cond.methodLink "NetScript$Script" 81 yJ0_charAt_5068e ∈ GW := gw 1182 (by decide +kernel) rfl
theorem q_1183 : Cond.methodLink "NetScript$Script" 85 yX7_isDigitNext ∈ GW := gw 1183 (by decide +kernel) rfl
theorem q_1185 : Cond.instanceMethod yX7_isDigitNext ∈ GW := gw 1185 (by decide +kernel) rfl
theorem q_1186 : Cond.code yX7_isDigitNext cX7_isDigitNext 1 (Option.some FieldType.boolean) ∈ GW := gw 1186 (by decide +kernel) rfl
theorem q_1187 : Cond.methodLink "NetScript$Script" 97 yX7_isInText ∈ GW := gw 1187 (by decide +kernel) rfl
theorem q_1189 : Cond.instanceMethod yX7_isInText ∈ GW := gw 1189 (by decide +kernel) rfl
theorem q_1190 : Cond.code yX7_isInText cX7_isInText 1 (Option.some FieldType.boolean) ∈ GW := gw 1190 (by decide +kernel) rfl
theorem q_1191 : Cond.methodLink "NetScript$Script" 89 yX7_readNumber ∈ GW := gw 1191 (by decide +kernel) rfl
theorem q_1193 : Cond.instanceMethod yX7_readNumber ∈ GW := gw 1193 (by decide +kernel) rfl
theorem q_1194 : Cond.code yX7_readNumber cX7_readNumber 5 (Option.some FieldType.int) ∈ GW := gw 1194 (by decide +kernel) rfl
theorem q_1195 : Cond.methodLink "NetScript$Script" 93 yX7_putNumber ∈ GW := gw 1195 (by decide +kernel) rfl
theorem q_1197 : Cond.instanceMethod yX7_putNumber ∈ GW := gw 1197 (by decide +kernel) rfl
theorem q_1198 : Cond.code yX7_putNumber cX7_putNumber 4 (Option.none : Option Jvm.ClassFile.FieldType) ∈ GW := gw 1198 (by decide +kernel) rfl
theorem q_1199 : Cond.methodLink "NetScript$Script" 38 yX7_isNext ∈ GW := gw 1199 (by decide +kernel) rfl
theorem q_1201 : Cond.instanceMethod yX7_isNext ∈ GW := gw 1201 (by decide +kernel) rfl
theorem q_1202 : Cond.code yX7_isNext cX7_isNext 2 (Option.some FieldType.boolean) ∈ GW := gw 1202 (by decide +kernel) rfl
theorem q_1203 : Cond.methodLink "NetScript$Script" 50 yX7_putWord ∈ GW := gw 1203 (by decide +kernel) rfl
theorem q_1205 : Cond.instanceMethod yX7_putWord ∈ GW := gw 1205 (by decide +kernel) rfl
theorem q_1206 : Cond.code yX7_putWord cX7_putWord 3 (Option.none : Option Jvm.ClassFile.FieldType) ∈ GW := gw 1206 (by decide +kernel) rfl
theorem q_1207 : Cond.methodLink "NetScript$Script" 54 yJ9_max_7cf53 ∈ GW := gw 1207 (by decide +kernel) rfl
theorem q_1208 : Cond.methodLinkNest "NetScript" 324 yX7_clear "NetScript" ∈ NW := nw 1208 (by decide +kernel) rfl
theorem q_1210 : Cond.instanceMethod yX7_clear ∈ GW := gw 1210 (by decide +kernel) rfl
theorem q_1211 : Cond.code yX7_clear cX7_clear 1 (Option.none : Option Jvm.ClassFile.FieldType) ∈ GW := gw 1211 (by decide +kernel) rfl
theorem q_1213 : Cond.methodLinkNest "NetScript" 329 yX8_copyFrom "NetScript" ∈ NW := nw 1213 (by decide +kernel) rfl
theorem q_1214 : Cond.methodLink "NetScript" 335 yX9_reasonAgainstOrder ∈ GW := gw 1214 (by decide +kernel) rfl
theorem q_1216 : Cond.instanceMethod yX9_reasonAgainstOrder ∈ GW := gw 1216 (by decide +kernel) rfl
theorem q_1217 : Cond.code yX9_reasonAgainstOrder cX9_reasonAgainstOrder 5 (Option.some FieldType.int) ∈ GW := gw 1217 (by decide +kernel) rfl
theorem q_1218 : Cond.methodLinkNest "NetScript" 464 yX7_numberAt "NetScript" ∈ NW := nw 1218 (by decide +kernel) rfl
theorem q_1220 : Cond.instanceMethod yX7_numberAt ∈ GW := gw 1220 (by decide +kernel) rfl
theorem q_1221 : Cond.code yX7_numberAt cX7_numberAt 3 (Option.some FieldType.int) ∈ GW := gw 1221 (by decide +kernel) rfl
theorem q_1222 : Cond.methodLinkNest "NetScript" 467 yX7_wordAt "NetScript" ∈ NW := nw 1222 (by decide +kernel) rfl
theorem q_1224 : Cond.instanceMethod yX7_wordAt ∈ GW := gw 1224 (by decide +kernel) rfl
theorem q_1225 : Cond.code yX7_wordAt cX7_wordAt 2 (Option.some FieldType.int) ∈ GW := gw 1225 (by decide +kernel) rfl
theorem q_1226 : Cond.methodLinkNest "NetScript" 338 yX6_keepOrder "NetScript" ∈ NW := nw 1226 (by decide +kernel) rfl
theorem q_1228 : Cond.instanceMethod yX6_keepOrder ∈ GW := gw 1228 (by decide +kernel) rfl
theorem q_1229 : Cond.code yX6_keepOrder cX6_keepOrder 4 (Option.none : Option Jvm.ClassFile.FieldType) ∈ GW := gw 1229 (by decide +kernel) rfl
theorem q_1231 : Cond.methodLink "NetScript" 343 yX9_doOrder ∈ GW := gw 1231 (by decide +kernel) rfl
theorem q_1233 : Cond.instanceMethod yX9_doOrder ∈ GW := gw 1233 (by decide +kernel) rfl
theorem q_1234 : Cond.code yX9_doOrder cX9_doOrder 5 (Option.none : Option Jvm.ClassFile.FieldType) ∈ GW := gw 1234 (by decide +kernel) rfl
theorem q_1235 : Cond.methodLink "NetScriptLaw" 163 yL_sum ∈ GW := gw 1235 (by decide +kernel) rfl
theorem q_1236 : Cond.static yL_sum ∈ GW := gw 1236 (by decide +kernel) rfl
theorem q_1237 : Cond.code yL_sum cL_sum 5 (Option.some FieldType.long) ∈ GW := gw 1237 (by decide +kernel) rfl
theorem q_1238 : Cond.constantLong "NetScriptLaw" 240 (31 : Int64) ∈ GW := gw 1238 (by decide +kernel) rfl
theorem q_1239 : Cond.methodLink "NetScriptLaw" 242 yL_netOf ∈ GW := gw 1239 (by decide +kernel) rfl
theorem q_1240 : Cond.static yL_netOf ∈ GW := gw 1240 (by decide +kernel) rfl
theorem q_1241 : Cond.codeWith yL_netOf cL_netOf 4 (Option.some FieldType.int) [(0, 6, 7, 49), (0, 6, 11, 60)] ∈ GW := gw 1241 (by decide +kernel) rfl
theorem q_1242 : Cond.methodLink "NetScriptLaw" 57 yX9_netOf ∈ GW := gw 1242 (by decide +kernel) rfl
theorem q_1243 : Cond.instanceMethod yX9_netOf ∈ GW := gw 1243 (by decide +kernel) rfl
theorem q_1244 : Cond.selects "NetScript" yX9_netOf yX9_netOf ∈ GW := gw 1244 (by decide +kernel) rfl
theorem q_1245 : Cond.code yX9_netOf cX9_netOf 4 (Option.some FieldType.int) ∈ GW := gw 1245 (by decide +kernel) rfl
theorem q_1246 : Cond.methodLinkNest "NetScript" 212 yX3_knots "NetScript" ∈ NW := nw 1246 (by decide +kernel) rfl
theorem q_1247 : Cond.methodLinkNest "NetScript" 220 yX8_dryPlaces "NetScript" ∈ NW := nw 1247 (by decide +kernel) rfl
theorem q_1248 : Cond.methodLinkNest "NetScript" 223 yX3_countTorn "NetScript" ∈ NW := nw 1248 (by decide +kernel) rfl
theorem q_1249 : Cond.methodLinkNest "NetScript" 226 yX3_greatestChapter "NetScript" ∈ NW := nw 1249 (by decide +kernel) rfl
theorem q_1251 : Cond.instanceMethod yX3_greatestChapter ∈ GW := gw 1251 (by decide +kernel) rfl
theorem q_1252 : Cond.code yX3_greatestChapter cX3_greatestChapter 6 (Option.some FieldType.int) ∈ GW := gw 1252 (by decide +kernel) rfl
theorem q_1253 : Cond.methodLinkNest "NetScript" 229 yX3_twineForAll "NetScript" ∈ NW := nw 1253 (by decide +kernel) rfl
theorem q_1255 : Cond.instanceMethod yX3_twineForAll ∈ GW := gw 1255 (by decide +kernel) rfl
theorem q_1256 : Cond.code yX3_twineForAll cX3_twineForAll 1 (Option.some FieldType.int) ∈ GW := gw 1256 (by decide +kernel) rfl
theorem q_1257 : Cond.methodLink "NetScriptLaw" 244 yL_kindOf ∈ GW := gw 1257 (by decide +kernel) rfl
theorem q_1258 : Cond.static yL_kindOf ∈ GW := gw 1258 (by decide +kernel) rfl
theorem q_1259 : Cond.codeWith yL_kindOf cL_kindOf 4 (Option.some FieldType.int) [(0, 6, 7, 49)] ∈ GW := gw 1259 (by decide +kernel) rfl
theorem q_1260 : Cond.methodLink "NetScriptLaw" 46 yX9_kindOf ∈ GW := gw 1260 (by decide +kernel) rfl
theorem q_1261 : Cond.instanceMethod yX9_kindOf ∈ GW := gw 1261 (by decide +kernel) rfl
theorem q_1262 : Cond.selects "NetScript" yX9_kindOf yX9_kindOf ∈ GW := gw 1262 (by decide +kernel) rfl
theorem q_1263 : Cond.code yX9_kindOf cX9_kindOf 3 (Option.some FieldType.int) ∈ GW := gw 1263 (by decide +kernel) rfl
theorem q_1265 : Cond.methodLink "NetScriptLaw" 246 yL_torn ∈ GW := gw 1265 (by decide +kernel) rfl
theorem q_1266 : Cond.static yL_torn ∈ GW := gw 1266 (by decide +kernel) rfl
theorem q_1267 : Cond.codeWith yL_torn cL_torn 5 (Option.some FieldType.int) [(0, 15, 16, 49), (0, 15, 21, 55)] ∈ GW := gw 1267 (by decide +kernel) rfl
theorem q_1268 : Cond.classLink "NetScriptLaw" 55 "java/util/NoSuchElementException" ∈ GW := gw 1268 (by decide +kernel) rfl
theorem q_1269 : Cond.methodLink "NetScriptLaw" 51 yX9_isTorn ∈ GW := gw 1269 (by decide +kernel) rfl
theorem q_1270 : Cond.instanceMethod yX9_isTorn ∈ GW := gw 1270 (by decide +kernel) rfl
theorem q_1271 : Cond.selects "NetScript" yX9_isTorn yX9_isTorn ∈ GW := gw 1271 (by decide +kernel) rfl
theorem q_1272 : Cond.code yX9_isTorn cX9_isTorn 4 (Option.some FieldType.boolean) ∈ GW := gw 1272 (by decide +kernel) rfl
theorem q_1273 : Cond.classLink "NetScript" 202 "java/util/NoSuchElementException" ∈ GW := gw 1273 (by decide +kernel) rfl
theorem q_1274 : Cond.instantiable "java/util/NoSuchElementException" 6 ∈ GW := gw 1274 (by decide +kernel) rfl
theorem q_1275 : Cond.castable "java/util/NoSuchElementException" "java/util/NoSuchElementException" ∈ NW := nw 1275 (by decide +kernel) rfl
theorem q_1276 : Cond.selects "java/util/NoSuchElementException" ⟨"java/lang/Throwable", "fillInStackTrace", "(I)Ljava/lang/Throwable;"⟩ ⟨"java/lang/Throwable", "fillInStackTrace", "(I)Ljava/lang/Throwable;"⟩ ∈ GW := gw 1276 (by decide +kernel) rfl
theorem q_1277 : Cond.lays "java/util/NoSuchElementException" "java/lang/Throwable" "cause" "Ljava/lang/Throwable;" ∈ GW := gw 1277 (by decide +kernel) rfl
theorem q_1278 : Cond.lays "java/util/NoSuchElementException" "java/lang/Throwable" "stackTrace" "[Ljava/lang/StackTraceElement;" ∈ GW := gw 1278 (by decide +kernel) rfl
theorem q_1279 : Cond.lays "java/util/NoSuchElementException" "java/lang/Throwable" "suppressedExceptions" "Ljava/util/List;" ∈ GW := gw 1279 (by decide +kernel) rfl
theorem q_1280 : Cond.lays "java/util/NoSuchElementException" "java/lang/Throwable" "detailMessage" "Ljava/lang/String;" ∈ GW := gw 1280 (by decide +kernel) rfl
theorem q_1281 : Cond.lays "java/util/NoSuchElementException" "java/lang/Throwable" "backtrace" "Ljava/lang/Object;" ∈ GW := gw 1281 (by decide +kernel) rfl
theorem q_1283 : Cond.methodLink "NetScript" 206 ⟨"java/util/NoSuchElementException", "<init>", "(Ljava/lang/String;)V"⟩ ∈ GW := gw 1283 (by decide +kernel) rfl
theorem q_1284 : Cond.instanceMethod ⟨"java/util/NoSuchElementException", "<init>", "(Ljava/lang/String;)V"⟩ ∈ GW := gw 1284 (by decide +kernel) rfl
theorem q_1285 : Cond.code ⟨"java/util/NoSuchElementException", "<init>", "(Ljava/lang/String;)V"⟩ prog_39_method_4_code 2 (Option.none : Option Jvm.ClassFile.FieldType) ∈ GW := gw 1285 (by decide +kernel) rfl
theorem q_1286 : Cond.methodLink "java/util/NoSuchElementException" 13 ⟨"java/lang/RuntimeException", "<init>", "(Ljava/lang/String;)V"⟩ ∈ GW := gw 1286 (by decide +kernel) rfl
theorem q_1287 : Cond.lays "java/util/NoSuchElementException" "java/lang/Throwable" "depth" "I" ∈ GW := gw 1287 (by decide +kernel) rfl
theorem q_1288 : Cond.superclass "java/util/NoSuchElementException" "java/lang/RuntimeException" ∈ GW := gw 1288 (by decide +kernel) rfl
theorem q_1289 : Cond.constantLong "NetScriptLaw" 249 (1009 : Int64) ∈ GW := gw 1289 (by decide +kernel) rfl
theorem q_1290 : Cond.methodLink "NetScriptLaw" 251 yL_noteOf ∈ GW := gw 1290 (by decide +kernel) rfl
theorem q_1291 : Cond.static yL_noteOf ∈ GW := gw 1291 (by decide +kernel) rfl
theorem q_1292 : Cond.codeWith yL_noteOf cL_noteOf 4 (Option.some FieldType.int) [(0, 6, 7, 49), (0, 6, 11, 60)] ∈ GW := gw 1292 (by decide +kernel) rfl
theorem q_1293 : Cond.methodLink "NetScriptLaw" 71 yX9_noteOf ∈ GW := gw 1293 (by decide +kernel) rfl
theorem q_1294 : Cond.instanceMethod yX9_noteOf ∈ GW := gw 1294 (by decide +kernel) rfl
theorem q_1295 : Cond.selects "NetScript" yX9_noteOf yX9_noteOf ∈ GW := gw 1295 (by decide +kernel) rfl
theorem q_1296 : Cond.code yX9_noteOf cX9_noteOf 4 (Option.some FieldType.int) ∈ GW := gw 1296 (by decide +kernel) rfl
theorem q_1298 : Cond.methodLinkNest "NetScript" 257 yX8_noteNumbered "NetScript" ∈ NW := nw 1298 (by decide +kernel) rfl
theorem q_1299 : Cond.methodLinkNest "NetScript" 266 yX4_places "NetScript" ∈ NW := nw 1299 (by decide +kernel) rfl
theorem q_1300 : Cond.methodLink "NetScript" 246 yX9_lowestPlace ∈ GW := gw 1300 (by decide +kernel) rfl
theorem q_1301 : Cond.methodLinkNest "NetScript" 269 yX8_readsAsNoted "NetScript" ∈ NW := nw 1301 (by decide +kernel) rfl
theorem q_1302 : Cond.constantLong "NetScriptLaw" 253 (7 : Int64) ∈ GW := gw 1302 (by decide +kernel) rfl
theorem q_1303 : Cond.methodLink "NetScriptLaw" 255 yL_noteLine ∈ GW := gw 1303 (by decide +kernel) rfl
theorem q_1304 : Cond.static yL_noteLine ∈ GW := gw 1304 (by decide +kernel) rfl
theorem q_1305 : Cond.codeWith yL_noteLine cL_noteLine 3 (Option.some FieldType.int) [(0, 5, 6, 49)] ∈ GW := gw 1305 (by decide +kernel) rfl
theorem q_1306 : Cond.methodLink "NetScriptLaw" 113 yX9_noteLine ∈ GW := gw 1306 (by decide +kernel) rfl
theorem q_1307 : Cond.instanceMethod yX9_noteLine ∈ GW := gw 1307 (by decide +kernel) rfl
theorem q_1308 : Cond.selects "NetScript" yX9_noteLine yX9_noteLine ∈ GW := gw 1308 (by decide +kernel) rfl
theorem q_1309 : Cond.code yX9_noteLine cX9_noteLine 3 (Option.some FieldType.int) ∈ GW := gw 1309 (by decide +kernel) rfl
theorem q_1310 : Cond.methodLinkNest "NetScript" 366 yX2_clear "NetScript" ∈ NW := nw 1310 (by decide +kernel) rfl
theorem q_1312 : Cond.instanceMethod yX2_clear ∈ GW := gw 1312 (by decide +kernel) rfl
theorem q_1313 : Cond.code yX2_clear cX2_clear 1 (Option.none : Option Jvm.ClassFile.FieldType) ∈ GW := gw 1313 (by decide +kernel) rfl
theorem q_1314 : Cond.methodLinkNest "NetScript" 379 yX2_appendKnots "NetScript" ∈ NW := nw 1314 (by decide +kernel) rfl
theorem q_1316 : Cond.instanceMethod yX2_appendKnots ∈ GW := gw 1316 (by decide +kernel) rfl
theorem q_1317 : Cond.code yX2_appendKnots cX2_appendKnots 5 (Option.none : Option Jvm.ClassFile.FieldType) ∈ GW := gw 1317 (by decide +kernel) rfl
theorem q_1318 : Cond.methodLinkNest "NetScript$Line" 19 yX9_isIn "NetScript" ∈ NW := nw 1318 (by decide +kernel) rfl
theorem q_1319 : Cond.methodLinkNest "NetScript$Line" 23 yX9_letterOf "NetScript" ∈ NW := nw 1319 (by decide +kernel) rfl
theorem q_1320 : Cond.static yX9_letterOf ∈ GW := gw 1320 (by decide +kernel) rfl
theorem q_1321 : Cond.code yX9_letterOf cX9_letterOf 1 (Option.some FieldType.char) ∈ GW := gw 1321 (by decide +kernel) rfl
theorem q_1322 : Cond.methodLink "NetScript$Line" 27 yX2_append ∈ GW := gw 1322 (by decide +kernel) rfl
theorem q_1324 : Cond.instanceMethod yX2_append ∈ GW := gw 1324 (by decide +kernel) rfl
theorem q_1325 : Cond.code yX2_append cX2_append 2 (Option.none : Option Jvm.ClassFile.FieldType) ∈ GW := gw 1325 (by decide +kernel) rfl
theorem q_1326 : Cond.methodLinkNest "NetScript" 367 yX2_append "NetScript" ∈ NW := nw 1326 (by decide +kernel) rfl
theorem q_1327 : Cond.constantLong "NetScriptLaw" 257 (17 : Int64) ∈ GW := gw 1327 (by decide +kernel) rfl
theorem q_1328 : Cond.methodLink "NetScriptLaw" 259 yL_editorOf ∈ GW := gw 1328 (by decide +kernel) rfl
theorem q_1329 : Cond.static yL_editorOf ∈ GW := gw 1329 (by decide +kernel) rfl
theorem q_1330 : Cond.codeWith yL_editorOf cL_editorOf 4 (Option.some FieldType.int) [(0, 6, 7, 49), (0, 6, 11, 60)] ∈ GW := gw 1330 (by decide +kernel) rfl
theorem q_1331 : Cond.methodLink "NetScriptLaw" 87 yX9_editorOf ∈ GW := gw 1331 (by decide +kernel) rfl
theorem q_1332 : Cond.instanceMethod yX9_editorOf ∈ GW := gw 1332 (by decide +kernel) rfl
theorem q_1333 : Cond.selects "NetScript" yX9_editorOf yX9_editorOf ∈ GW := gw 1333 (by decide +kernel) rfl
theorem q_1334 : Cond.code yX9_editorOf cX9_editorOf 3 (Option.some FieldType.int) ∈ GW := gw 1334 (by decide +kernel) rfl
theorem q_1336 : Cond.methodLink "NetScriptLaw" 179 yL_isWhole ∈ GW := gw 1336 (by decide +kernel) rfl
theorem q_1337 : Cond.static yL_isWhole ∈ GW := gw 1337 (by decide +kernel) rfl
theorem q_1338 : Cond.code yL_isWhole cL_isWhole 11 (Option.some FieldType.boolean) ∈ GW := gw 1338 (by decide +kernel) rfl
theorem q_1339 : Cond.methodLink "NetScriptLaw" 282 yL_isNet ∈ GW := gw 1339 (by decide +kernel) rfl
theorem q_1340 : Cond.static yL_isNet ∈ GW := gw 1340 (by decide +kernel) rfl
set_option maxRecDepth 100000 in
theorem q_1341 : Cond.code yL_isNet cL_isNet 18 (Option.some FieldType.boolean) ∈ GW := List.mem_filter.mpr ⟨List.mem_append_right _ (List.mem_append_right _ (List.mem_append_right _ (List.mem_append_right _ (List.mem_append_right _ (List.mem_append_right _ (List.mem_append_left _ (List.mem_of_getElem? (i := 49) rfl))))))), rfl⟩
theorem q_1342 : Cond.methodLink "NetScriptLaw" 261 yJ9_min_7cf53 ∈ GW := gw 1342 (by decide +kernel) rfl
theorem q_1343 : Cond.methodLink "NetScriptLaw" 266 yL_chapterOf ∈ GW := gw 1343 (by decide +kernel) rfl
theorem q_1344 : Cond.static yL_chapterOf ∈ GW := gw 1344 (by decide +kernel) rfl
theorem q_1345 : Cond.codeWith yL_chapterOf cL_chapterOf 5 (Option.some FieldType.int) [(0, 7, 8, 49), (0, 7, 13, 60), (0, 7, 18, 55)] ∈ GW := gw 1345 (by decide +kernel) rfl
theorem q_1346 : Cond.methodLink "NetScriptLaw" 68 yX9_chapterOf ∈ GW := gw 1346 (by decide +kernel) rfl
theorem q_1347 : Cond.instanceMethod yX9_chapterOf ∈ GW := gw 1347 (by decide +kernel) rfl
theorem q_1348 : Cond.selects "NetScript" yX9_chapterOf yX9_chapterOf ∈ GW := gw 1348 (by decide +kernel) rfl
theorem q_1349 : Cond.code yX9_chapterOf cX9_chapterOf 5 (Option.some FieldType.int) ∈ GW := gw 1349 (by decide +kernel) rfl
theorem q_1351 : Cond.methodLinkNest "NetScript" 249 yX3_countWholeWithin "NetScript" ∈ NW := nw 1351 (by decide +kernel) rfl
theorem q_1353 : Cond.instanceMethod yX3_countWholeWithin ∈ GW := gw 1353 (by decide +kernel) rfl
theorem q_1354 : Cond.code yX3_countWholeWithin cX3_countWholeWithin 2 (Option.some FieldType.int) ∈ GW := gw 1354 (by decide +kernel) rfl
theorem q_1355 : Cond.methodLinkNest "NetScript$Net" 56 yX9_within "NetScript" ∈ NW := nw 1355 (by decide +kernel) rfl
theorem q_1356 : Cond.static yX9_within ∈ GW := gw 1356 (by decide +kernel) rfl
theorem q_1357 : Cond.code yX9_within cX9_within 3 (Option.some FieldType.int) ∈ GW := gw 1357 (by decide +kernel) rfl
theorem q_1358 : Cond.methodLink "NetScriptLaw" 268 yJ9_max_7cf53 ∈ GW := gw 1358 (by decide +kernel) rfl
theorem q_1359 : Cond.methodLink "NetScriptLaw" 271 yL_chapterLine ∈ GW := gw 1359 (by decide +kernel) rfl
theorem q_1360 : Cond.static yL_chapterLine ∈ GW := gw 1360 (by decide +kernel) rfl
theorem q_1361 : Cond.codeWith yL_chapterLine cL_chapterLine 4 (Option.some FieldType.int) [(0, 6, 7, 49), (0, 6, 11, 55)] ∈ GW := gw 1361 (by decide +kernel) rfl
theorem q_1362 : Cond.methodLink "NetScriptLaw" 110 yX9_chapterLine ∈ GW := gw 1362 (by decide +kernel) rfl
theorem q_1363 : Cond.instanceMethod yX9_chapterLine ∈ GW := gw 1363 (by decide +kernel) rfl
theorem q_1364 : Cond.selects "NetScript" yX9_chapterLine yX9_chapterLine ∈ GW := gw 1364 (by decide +kernel) rfl
theorem q_1365 : Cond.code yX9_chapterLine cX9_chapterLine 5 (Option.some FieldType.int) ∈ GW := gw 1365 (by decide +kernel) rfl
theorem q_1366 : Cond.methodLink "NetScriptLaw" 273 yL_ranked ∈ GW := gw 1366 (by decide +kernel) rfl
theorem q_1367 : Cond.static yL_ranked ∈ GW := gw 1367 (by decide +kernel) rfl
theorem q_1368 : Cond.codeWith yL_ranked cL_ranked 4 (Option.some FieldType.int) [(0, 6, 7, 49), (0, 6, 11, 55)] ∈ GW := gw 1368 (by decide +kernel) rfl
theorem q_1369 : Cond.methodLink "NetScriptLaw" 84 yX9_ranked ∈ GW := gw 1369 (by decide +kernel) rfl
theorem q_1370 : Cond.instanceMethod yX9_ranked ∈ GW := gw 1370 (by decide +kernel) rfl
theorem q_1371 : Cond.selects "NetScript" yX9_ranked yX9_ranked ∈ GW := gw 1371 (by decide +kernel) rfl
theorem q_1372 : Cond.code yX9_ranked cX9_ranked 4 (Option.some FieldType.int) ∈ GW := gw 1372 (by decide +kernel) rfl
theorem q_1373 : Cond.methodLinkNest "NetScript" 292 yX3_chapterRanked "NetScript" ∈ NW := nw 1373 (by decide +kernel) rfl
theorem q_1375 : Cond.instanceMethod yX3_chapterRanked ∈ GW := gw 1375 (by decide +kernel) rfl
theorem q_1376 : Cond.code yX3_chapterRanked cX3_chapterRanked 4 (Option.some FieldType.int) ∈ GW := gw 1376 (by decide +kernel) rfl
theorem q_1377 : Cond.methodLink "NetScript$Net" 83 yX3_greatestChapter ∈ GW := gw 1377 (by decide +kernel) rfl
theorem q_1379 : Cond.methodLink "NetScriptLaw" 275 yL_bestMend ∈ GW := gw 1379 (by decide +kernel) rfl
theorem q_1380 : Cond.static yL_bestMend ∈ GW := gw 1380 (by decide +kernel) rfl
theorem q_1381 : Cond.codeWith yL_bestMend cL_bestMend 4 (Option.some FieldType.int) [(0, 6, 7, 49), (0, 6, 11, 55)] ∈ GW := gw 1381 (by decide +kernel) rfl
theorem q_1382 : Cond.methodLink "NetScriptLaw" 80 yX9_bestMend ∈ GW := gw 1382 (by decide +kernel) rfl
theorem q_1383 : Cond.instanceMethod yX9_bestMend ∈ GW := gw 1383 (by decide +kernel) rfl
theorem q_1384 : Cond.selects "NetScript" yX9_bestMend yX9_bestMend ∈ GW := gw 1384 (by decide +kernel) rfl
theorem q_1385 : Cond.code yX9_bestMend cX9_bestMend 4 (Option.some FieldType.int) ∈ GW := gw 1385 (by decide +kernel) rfl
theorem q_1386 : Cond.methodLinkNest "NetScript" 286 yX3_bestTornString "NetScript" ∈ NW := nw 1386 (by decide +kernel) rfl
theorem q_1388 : Cond.instanceMethod yX3_bestTornString ∈ GW := gw 1388 (by decide +kernel) rfl
theorem q_1389 : Cond.code yX3_bestTornString cX3_bestTornString 10 (Option.some FieldType.int) ∈ GW := gw 1389 (by decide +kernel) rfl
theorem q_1390 : Cond.methodLink "NetScript$Net" 92 yX3_knotsJoinedBy ∈ GW := gw 1390 (by decide +kernel) rfl
theorem q_1392 : Cond.instanceMethod yX3_knotsJoinedBy ∈ GW := gw 1392 (by decide +kernel) rfl
theorem q_1393 : Cond.code yX3_knotsJoinedBy cX3_knotsJoinedBy 5 (Option.some FieldType.int) ∈ GW := gw 1393 (by decide +kernel) rfl
theorem q_1394 : Cond.methodLinkNest "NetScript$Net" 86 yX9_areBeside "NetScript" ∈ NW := nw 1394 (by decide +kernel) rfl
theorem q_1395 : Cond.methodLink "NetScript$Net" 89 yX3_isTornBetween ∈ GW := gw 1395 (by decide +kernel) rfl
theorem q_1396 : Cond.methodLinkNest "NetScript$Net" 95 yX9_twineFor "NetScript" ∈ NW := nw 1396 (by decide +kernel) rfl
theorem q_1398 : Cond.methodLink "NetScriptLaw" 278 yL_chaptersAgain ∈ GW := gw 1398 (by decide +kernel) rfl
theorem q_1399 : Cond.static yL_chaptersAgain ∈ GW := gw 1399 (by decide +kernel) rfl
theorem q_1400 : Cond.codeWith yL_chaptersAgain cL_chaptersAgain 3 (Option.some FieldType.int) [(0, 5, 6, 49)] ∈ GW := gw 1400 (by decide +kernel) rfl
theorem q_1401 : Cond.methodLink "NetScriptLaw" 65 yX9_chaptersAgain ∈ GW := gw 1401 (by decide +kernel) rfl
theorem q_1402 : Cond.instanceMethod yX9_chaptersAgain ∈ GW := gw 1402 (by decide +kernel) rfl
theorem q_1403 : Cond.selects "NetScript" yX9_chaptersAgain yX9_chaptersAgain ∈ GW := gw 1403 (by decide +kernel) rfl
theorem q_1404 : Cond.code yX9_chaptersAgain cX9_chaptersAgain 2 (Option.some FieldType.int) ∈ GW := gw 1404 (by decide +kernel) rfl
theorem q_1405 : Cond.methodLinkNest "NetScript" 237 yX3_countChaptersByStrings "NetScript" ∈ NW := nw 1405 (by decide +kernel) rfl
theorem q_1407 : Cond.instanceMethod yX3_countChaptersByStrings ∈ GW := gw 1407 (by decide +kernel) rfl
theorem q_1408 : Cond.code yX3_countChaptersByStrings cX3_countChaptersByStrings 2 (Option.some FieldType.int) ∈ GW := gw 1408 (by decide +kernel) rfl
theorem q_1409 : Cond.methodLinkNest "NetScript$Net" 75 yX5_separate "NetScript" ∈ NW := nw 1409 (by decide +kernel) rfl
theorem q_1411 : Cond.instanceMethod yX5_separate ∈ GW := gw 1411 (by decide +kernel) rfl
theorem q_1412 : Cond.code yX5_separate cX5_separate 2 (Option.none : Option Jvm.ClassFile.FieldType) ∈ GW := gw 1412 (by decide +kernel) rfl
theorem q_1413 : Cond.methodLinkNest "NetScript$Net" 80 yX5_joinAll "NetScript" ∈ NW := nw 1413 (by decide +kernel) rfl
theorem q_1415 : Cond.instanceMethod yX5_joinAll ∈ GW := gw 1415 (by decide +kernel) rfl
theorem q_1416 : Cond.code yX5_joinAll cX5_joinAll 5 (Option.some FieldType.int) ∈ GW := gw 1416 (by decide +kernel) rfl
theorem q_1417 : Cond.methodLinkNest "NetScript$Parts" 15 yX9_isIn "NetScript" ∈ NW := nw 1417 (by decide +kernel) rfl
theorem q_1418 : Cond.methodLink "NetScript$Parts" 19 yX5_join ∈ GW := gw 1418 (by decide +kernel) rfl
theorem q_1420 : Cond.instanceMethod yX5_join ∈ GW := gw 1420 (by decide +kernel) rfl
theorem q_1421 : Cond.code yX5_join cX5_join 6 (Option.some FieldType.boolean) ∈ GW := gw 1421 (by decide +kernel) rfl
theorem q_1422 : Cond.methodLinkNest "NetScript$Parts" 22 yX9_isPlace "NetScript" ∈ NW := nw 1422 (by decide +kernel) rfl
theorem q_1423 : Cond.methodLink "NetScriptLaw" 280 yL_line ∈ GW := gw 1423 (by decide +kernel) rfl
theorem q_1424 : Cond.static yL_line ∈ GW := gw 1424 (by decide +kernel) rfl
theorem q_1425 : Cond.codeWith yL_line cL_line 4 (Option.some FieldType.int) [(0, 6, 7, 49)] ∈ GW := gw 1425 (by decide +kernel) rfl
theorem q_1426 : Cond.methodLink "NetScriptLaw" 107 yX9_line ∈ GW := gw 1426 (by decide +kernel) rfl
theorem q_1427 : Cond.instanceMethod yX9_line ∈ GW := gw 1427 (by decide +kernel) rfl
theorem q_1428 : Cond.selects "NetScript" yX9_line yX9_line ∈ GW := gw 1428 (by decide +kernel) rfl
theorem q_1429 : Cond.code yX9_line cX9_line 3 (Option.some FieldType.int) ∈ GW := gw 1429 (by decide +kernel) rfl
theorem q_1431 : Cond.methodLinkNest "NetScript" 368 yX3_writeLine "NetScript" ∈ NW := nw 1431 (by decide +kernel) rfl
theorem q_1433 : Cond.instanceMethod yX3_writeLine ∈ GW := gw 1433 (by decide +kernel) rfl
theorem q_1434 : Cond.code yX3_writeLine cX3_writeLine 6 (Option.none : Option Jvm.ClassFile.FieldType) ∈ GW := gw 1434 (by decide +kernel) rfl
theorem q_1435 : Cond.methodLinkNest "NetScript$Net" 98 yX2_append "NetScript" ∈ NW := nw 1435 (by decide +kernel) rfl
theorem q_1436 : Cond.methodLink "NetScript$Net" 104 yX3_kindAt ∈ GW := gw 1436 (by decide +kernel) rfl
theorem q_1437 : Cond.methodLinkNest "NetScript$Net" 107 yX9_letterOf "NetScript" ∈ NW := nw 1437 (by decide +kernel) rfl
theorem q_1438 : Cond.methodLink "NetScriptLaw" 285 yL_least ∈ GW := gw 1438 (by decide +kernel) rfl
theorem q_1439 : Cond.static yL_least ∈ GW := gw 1439 (by decide +kernel) rfl
theorem q_1440 : Cond.codeWith yL_least cL_least 3 (Option.some FieldType.int) [(0, 5, 6, 49), (0, 5, 10, 55)] ∈ GW := gw 1440 (by decide +kernel) rfl
theorem q_1441 : Cond.methodLink "NetScriptLaw" 74 yX9_least ∈ GW := gw 1441 (by decide +kernel) rfl
theorem q_1442 : Cond.instanceMethod yX9_least ∈ GW := gw 1442 (by decide +kernel) rfl
theorem q_1443 : Cond.selects "NetScript" yX9_least yX9_least ∈ GW := gw 1443 (by decide +kernel) rfl
theorem q_1444 : Cond.code yX9_least cX9_least 3 (Option.some FieldType.int) ∈ GW := gw 1444 (by decide +kernel) rfl
theorem q_1445 : Cond.methodLinkNest "NetScript" 273 yX8_canBeMended "NetScript" ∈ NW := nw 1445 (by decide +kernel) rfl
theorem q_1447 : Cond.instanceMethod yX8_canBeMended ∈ GW := gw 1447 (by decide +kernel) rfl
theorem q_1448 : Cond.code yX8_canBeMended cX8_canBeMended 3 (Option.some FieldType.boolean) ∈ GW := gw 1448 (by decide +kernel) rfl
theorem q_1449 : Cond.methodLinkNest "NetScript$State" 117 yX3_hasStringOutOf "NetScript" ∈ NW := nw 1449 (by decide +kernel) rfl
theorem q_1451 : Cond.instanceMethod yX3_hasStringOutOf ∈ GW := gw 1451 (by decide +kernel) rfl
theorem q_1452 : Cond.code yX3_hasStringOutOf cX3_hasStringOutOf 2 (Option.some FieldType.boolean) ∈ GW := gw 1452 (by decide +kernel) rfl
theorem q_1454 : Cond.methodLinkNest "NetScript" 278 yX8_leastByStrings "NetScript" ∈ NW := nw 1454 (by decide +kernel) rfl
theorem q_1456 : Cond.instanceMethod yX8_leastByStrings ∈ GW := gw 1456 (by decide +kernel) rfl
theorem q_1457 : Cond.code yX8_leastByStrings cX8_leastByStrings 3 (Option.some FieldType.int) ∈ GW := gw 1457 (by decide +kernel) rfl
theorem q_1458 : Cond.methodLinkNest "NetScript$State" 120 yX3_leastByStrings "NetScript" ∈ NW := nw 1458 (by decide +kernel) rfl
theorem q_1460 : Cond.instanceMethod yX3_leastByStrings ∈ GW := gw 1460 (by decide +kernel) rfl
theorem q_1461 : Cond.code yX3_leastByStrings cX3_leastByStrings 3 (Option.some FieldType.int) ∈ GW := gw 1461 (by decide +kernel) rfl
theorem q_1462 : Cond.methodLink "NetScriptLaw" 287 yL_leastAgain ∈ GW := gw 1462 (by decide +kernel) rfl
theorem q_1463 : Cond.static yL_leastAgain ∈ GW := gw 1463 (by decide +kernel) rfl
theorem q_1464 : Cond.codeWith yL_leastAgain cL_leastAgain 3 (Option.some FieldType.int) [(0, 5, 6, 49), (0, 5, 10, 55)] ∈ GW := gw 1464 (by decide +kernel) rfl
theorem q_1465 : Cond.methodLink "NetScriptLaw" 77 yX9_leastAgain ∈ GW := gw 1465 (by decide +kernel) rfl
theorem q_1466 : Cond.instanceMethod yX9_leastAgain ∈ GW := gw 1466 (by decide +kernel) rfl
theorem q_1467 : Cond.selects "NetScript" yX9_leastAgain yX9_leastAgain ∈ GW := gw 1467 (by decide +kernel) rfl
theorem q_1468 : Cond.code yX9_leastAgain cX9_leastAgain 3 (Option.some FieldType.int) ∈ GW := gw 1468 (by decide +kernel) rfl
theorem q_1469 : Cond.methodLinkNest "NetScript" 282 yX8_leastByPlaces "NetScript" ∈ NW := nw 1469 (by decide +kernel) rfl
theorem q_1471 : Cond.instanceMethod yX8_leastByPlaces ∈ GW := gw 1471 (by decide +kernel) rfl
theorem q_1472 : Cond.code yX8_leastByPlaces cX8_leastByPlaces 2 (Option.some FieldType.int) ∈ GW := gw 1472 (by decide +kernel) rfl
theorem q_1473 : Cond.methodLinkNest "NetScript$State" 124 yX3_leastByPlaces "NetScript" ∈ NW := nw 1473 (by decide +kernel) rfl
theorem q_1475 : Cond.instanceMethod yX3_leastByPlaces ∈ GW := gw 1475 (by decide +kernel) rfl
theorem q_1476 : Cond.code yX3_leastByPlaces cX3_leastByPlaces 8 (Option.some FieldType.int) ∈ GW := gw 1476 (by decide +kernel) rfl
theorem q_1477 : Cond.methodLink "NetScriptLaw" 289 yL_meanKnots ∈ GW := gw 1477 (by decide +kernel) rfl
theorem q_1478 : Cond.static yL_meanKnots ∈ GW := gw 1478 (by decide +kernel) rfl
theorem q_1479 : Cond.codeWith yL_meanKnots cL_meanKnots 2 (Option.some FieldType.double) [(0, 4, 5, 124)] ∈ GW := gw 1479 (by decide +kernel) rfl
theorem q_1480 : Cond.classLink "NetScriptLaw" 124 "java/lang/ArithmeticException" ∈ GW := gw 1480 (by decide +kernel) rfl
theorem q_1481 : Cond.instantiable "java/lang/ArithmeticException" 6 ∈ GW := gw 1481 (by decide +kernel) rfl
theorem q_1482 : Cond.instanceMethod ⟨"java/lang/ArithmeticException", "<init>", "(Ljava/lang/String;)V"⟩ ∈ GW := gw 1482 (by decide +kernel) rfl
theorem q_1483 : Cond.code ⟨"java/lang/ArithmeticException", "<init>", "(Ljava/lang/String;)V"⟩ prog_16_method_2_code 2 (Option.none : Option Jvm.ClassFile.FieldType) ∈ GW := gw 1483 (by decide +kernel) rfl
theorem q_1484 : Cond.methodLink "java/lang/ArithmeticException" 7 ⟨"java/lang/RuntimeException", "<init>", "(Ljava/lang/String;)V"⟩ ∈ GW := gw 1484 (by decide +kernel) rfl
theorem q_1485 : Cond.lays "java/lang/ArithmeticException" "java/lang/Throwable" "backtrace" "Ljava/lang/Object;" ∈ GW := gw 1485 (by decide +kernel) rfl
theorem q_1486 : Cond.lays "java/lang/ArithmeticException" "java/lang/Throwable" "detailMessage" "Ljava/lang/String;" ∈ GW := gw 1486 (by decide +kernel) rfl
theorem q_1487 : Cond.lays "java/lang/ArithmeticException" "java/lang/Throwable" "cause" "Ljava/lang/Throwable;" ∈ GW := gw 1487 (by decide +kernel) rfl
theorem q_1488 : Cond.lays "java/lang/ArithmeticException" "java/lang/Throwable" "stackTrace" "[Ljava/lang/StackTraceElement;" ∈ GW := gw 1488 (by decide +kernel) rfl
theorem q_1489 : Cond.lays "java/lang/ArithmeticException" "java/lang/Throwable" "depth" "I" ∈ GW := gw 1489 (by decide +kernel) rfl
theorem q_1490 : Cond.lays "java/lang/ArithmeticException" "java/lang/Throwable" "suppressedExceptions" "Ljava/util/List;" ∈ GW := gw 1490 (by decide +kernel) rfl
theorem q_1491 : Cond.superclass "java/lang/ArithmeticException" "java/lang/RuntimeException" ∈ GW := gw 1491 (by decide +kernel) rfl
theorem q_1492 : Cond.castable "java/lang/ArithmeticException" "java/lang/ArithmeticException" ∈ NW := nw 1492 (by decide +kernel) rfl
theorem q_1493 : Cond.selects "java/lang/ArithmeticException" ⟨"java/lang/Throwable", "fillInStackTrace", "(I)Ljava/lang/Throwable;"⟩ ⟨"java/lang/Throwable", "fillInStackTrace", "(I)Ljava/lang/Throwable;"⟩ ∈ GW := gw 1493 (by decide +kernel) rfl
theorem q_1494 : Cond.methodLink "NetScriptLaw" 120 yX9_meanKnots ∈ GW := gw 1494 (by decide +kernel) rfl
theorem q_1495 : Cond.instanceMethod yX9_meanKnots ∈ GW := gw 1495 (by decide +kernel) rfl
theorem q_1496 : Cond.selects "NetScript" yX9_meanKnots yX9_meanKnots ∈ GW := gw 1496 (by decide +kernel) rfl
theorem q_1497 : Cond.code yX9_meanKnots cX9_meanKnots 2 (Option.some FieldType.double) ∈ GW := gw 1497 (by decide +kernel) rfl
theorem q_1498 : Cond.classLink "NetScript" 396 "java/lang/ArithmeticException" ∈ GW := gw 1498 (by decide +kernel) rfl
theorem q_1500 : Cond.methodLink "NetScript" 400 ⟨"java/lang/ArithmeticException", "<init>", "(Ljava/lang/String;)V"⟩ ∈ GW := gw 1500 (by decide +kernel) rfl
theorem q_1501 : Cond.constantDouble "NetScriptLaw" 126 (13858279740860792832 : UInt64) ∈ GW := gw 1501 (by decide +kernel) rfl
theorem q_1502 : Cond.methodLink "NetScriptLaw" 292 yL_readShare ∈ GW := gw 1502 (by decide +kernel) rfl
theorem q_1503 : Cond.static yL_readShare ∈ GW := gw 1503 (by decide +kernel) rfl
theorem q_1504 : Cond.codeWith yL_readShare cL_readShare 2 (Option.some FieldType.float) [(0, 4, 5, 124)] ∈ GW := gw 1504 (by decide +kernel) rfl
theorem q_1505 : Cond.methodLink "NetScriptLaw" 128 yX9_readShare ∈ GW := gw 1505 (by decide +kernel) rfl
theorem q_1506 : Cond.instanceMethod yX9_readShare ∈ GW := gw 1506 (by decide +kernel) rfl
theorem q_1507 : Cond.selects "NetScript" yX9_readShare yX9_readShare ∈ GW := gw 1507 (by decide +kernel) rfl
theorem q_1508 : Cond.code yX9_readShare cX9_readShare 2 (Option.some FieldType.float) ∈ GW := gw 1508 (by decide +kernel) rfl
theorem q_1510 : Cond.constantFloat "NetScriptLaw" 132 (3264479232 : UInt32) ∈ GW := gw 1510 (by decide +kernel) rfl
theorem q_1511 : Cond.methodLink "NetScriptLaw" 295 yX9_isBalanced ∈ GW := gw 1511 (by decide +kernel) rfl
theorem q_1512 : Cond.instanceMethod yX9_isBalanced ∈ GW := gw 1512 (by decide +kernel) rfl
theorem q_1513 : Cond.selects "NetScript" yX9_isBalanced yX9_isBalanced ∈ GW := gw 1513 (by decide +kernel) rfl
theorem q_1514 : Cond.code yX9_isBalanced cX9_isBalanced 1 (Option.some FieldType.boolean) ∈ GW := gw 1514 (by decide +kernel) rfl
theorem q_1515 : Cond.methodLinkNest "NetScript" 425 yX8_areChaptersToldAlike "NetScript" ∈ NW := nw 1515 (by decide +kernel) rfl
theorem q_1517 : Cond.instanceMethod yX8_areChaptersToldAlike ∈ GW := gw 1517 (by decide +kernel) rfl
theorem q_1518 : Cond.code yX8_areChaptersToldAlike cX8_areChaptersToldAlike 4 (Option.some FieldType.boolean) ∈ GW := gw 1518 (by decide +kernel) rfl
theorem q_1519 : Cond.methodLinkNest "NetScript$State" 159 yX3_countChaptersByStrings "NetScript" ∈ NW := nw 1519 (by decide +kernel) rfl
theorem q_1520 : Cond.methodLink "NetScript$State" 163 yX8_countAllChapters ∈ GW := gw 1520 (by decide +kernel) rfl
theorem q_1521 : Cond.methodLinkNest "NetScript" 429 yX8_areNotesToldAlike "NetScript" ∈ NW := nw 1521 (by decide +kernel) rfl
theorem q_1523 : Cond.instanceMethod yX8_areNotesToldAlike ∈ GW := gw 1523 (by decide +kernel) rfl
theorem q_1524 : Cond.code yX8_areNotesToldAlike cX8_areNotesToldAlike 4 (Option.some FieldType.boolean) ∈ GW := gw 1524 (by decide +kernel) rfl
theorem q_1525 : Cond.methodLink "NetScript$State" 166 yX8_canBeMended ∈ GW := gw 1525 (by decide +kernel) rfl
theorem q_1526 : Cond.methodLink "NetScript$State" 169 yX8_leastByStrings ∈ GW := gw 1526 (by decide +kernel) rfl
theorem q_1527 : Cond.methodLink "NetScript$State" 172 yX8_leastByPlaces ∈ GW := gw 1527 (by decide +kernel) rfl
theorem q_1528 : Cond.methodLink "NetScriptLaw" 183 yL_isKept ∈ GW := gw 1528 (by decide +kernel) rfl
theorem q_1529 : Cond.static yL_isKept ∈ GW := gw 1529 (by decide +kernel) rfl
theorem q_1530 : Cond.code yL_isKept cL_isKept 6 (Option.some FieldType.boolean) ∈ GW := gw 1530 (by decide +kernel) rfl
theorem q_1531 : Cond.methodLink "NetScriptLaw" 299 yX9_save ∈ GW := gw 1531 (by decide +kernel) rfl
theorem q_1532 : Cond.instanceMethod yX9_save ∈ GW := gw 1532 (by decide +kernel) rfl
theorem q_1533 : Cond.selects "NetScript" yX9_save yX9_save ∈ GW := gw 1533 (by decide +kernel) rfl
theorem q_1534 : Cond.code yX9_save cX9_save 1 (Option.some FieldType.int) ∈ GW := gw 1534 (by decide +kernel) rfl
theorem q_1535 : Cond.methodLink "NetScriptLaw" 302 yL_undo ∈ GW := gw 1535 (by decide +kernel) rfl
theorem q_1536 : Cond.static yL_undo ∈ GW := gw 1536 (by decide +kernel) rfl
theorem q_1537 : Cond.codeWith yL_undo cL_undo 2 (Option.some FieldType.int) [(0, 4, 5, 94)] ∈ GW := gw 1537 (by decide +kernel) rfl
theorem q_1538 : Cond.methodLink "NetScriptLaw" 136 yX9_undo ∈ GW := gw 1538 (by decide +kernel) rfl
theorem q_1539 : Cond.instanceMethod yX9_undo ∈ GW := gw 1539 (by decide +kernel) rfl
theorem q_1540 : Cond.selects "NetScript" yX9_undo yX9_undo ∈ GW := gw 1540 (by decide +kernel) rfl
theorem q_1541 : Cond.code yX9_undo cX9_undo 1 (Option.some FieldType.int) ∈ GW := gw 1541 (by decide +kernel) rfl
theorem q_1543 : Cond.methodLinkNest "NetScript" 434 yX1_popInto "NetScript" ∈ NW := nw 1543 (by decide +kernel) rfl
theorem q_1545 : Cond.instanceMethod yX1_popInto ∈ GW := gw 1545 (by decide +kernel) rfl
theorem q_1546 : Cond.code yX1_popInto cX1_popInto 2 (Option.none : Option Jvm.ClassFile.FieldType) ∈ GW := gw 1546 (by decide +kernel) rfl
theorem q_1547 : Cond.methodLink "NetScriptLaw" 304 yL_restore ∈ GW := gw 1547 (by decide +kernel) rfl
theorem q_1548 : Cond.static yL_restore ∈ GW := gw 1548 (by decide +kernel) rfl
theorem q_1549 : Cond.codeWith yL_restore cL_restore 2 (Option.some FieldType.int) [(0, 4, 5, 94)] ∈ GW := gw 1549 (by decide +kernel) rfl
theorem q_1550 : Cond.methodLink "NetScriptLaw" 139 yX9_restore ∈ GW := gw 1550 (by decide +kernel) rfl
theorem q_1551 : Cond.instanceMethod yX9_restore ∈ GW := gw 1551 (by decide +kernel) rfl
theorem q_1552 : Cond.selects "NetScript" yX9_restore yX9_restore ∈ GW := gw 1552 (by decide +kernel) rfl
theorem q_1553 : Cond.code yX9_restore cX9_restore 1 (Option.some FieldType.int) ∈ GW := gw 1553 (by decide +kernel) rfl
theorem q_1555 : Cond.methodLinkNest "NetScript" 439 yX1_clear "NetScript" ∈ NW := nw 1555 (by decide +kernel) rfl
theorem q_1557 : Cond.instanceMethod yX1_clear ∈ GW := gw 1557 (by decide +kernel) rfl
theorem q_1558 : Cond.code yX1_clear cX1_clear 1 (Option.none : Option Jvm.ClassFile.FieldType) ∈ GW := gw 1558 (by decide +kernel) rfl
theorem q_1559 : Cond.arrayClass FieldType.long ∈ GW := gw 1559 (by decide +kernel) rfl
theorem q_1569 : Cond.castable "java/lang/ArrayIndexOutOfBoundsException" "java/lang/IndexOutOfBoundsException" ∈ NW := nw 1569 (by decide +kernel) rfl
theorem q_1570 : Cond.castable "NetScript" "java/lang/Object" ∈ NW := nw 1570 (by decide +kernel) rfl
theorem q_1571 : Cond.castable "NetScript$State" "java/lang/Object" ∈ NW := nw 1571 (by decide +kernel) rfl
theorem q_1572 : Cond.castable "NetScript$Net" "java/lang/Object" ∈ NW := nw 1572 (by decide +kernel) rfl
theorem q_1573 : Cond.castable "NetScript$Editor" "java/lang/Object" ∈ NW := nw 1573 (by decide +kernel) rfl
theorem q_1574 : Cond.castable "NetScript$Note" "java/lang/Object" ∈ NW := nw 1574 (by decide +kernel) rfl
theorem q_1575 : Cond.castable "NetScript$History" "java/lang/Object" ∈ NW := nw 1575 (by decide +kernel) rfl
theorem q_1576 : Cond.castable "NetScript$Parts" "java/lang/Object" ∈ NW := nw 1576 (by decide +kernel) rfl
theorem q_1577 : Cond.castable "NetScript$Script" "java/lang/Object" ∈ NW := nw 1577 (by decide +kernel) rfl
theorem q_1578 : Cond.castable "NetScript$Line" "java/lang/Object" ∈ NW := nw 1578 (by decide +kernel) rfl
theorem q_1579 : Cond.castable "NetScript$Refusal" "java/lang/Object" ∈ NW := nw 1579 (by decide +kernel) rfl
theorem q_1580 : Cond.castable "java/lang/IllegalArgumentException" "java/lang/Object" ∈ NW := nw 1580 (by decide +kernel) rfl
theorem q_1581 : Cond.castable "java/lang/ArrayIndexOutOfBoundsException" "java/lang/Object" ∈ NW := nw 1581 (by decide +kernel) rfl
theorem q_1582 : Cond.castable "java/lang/IndexOutOfBoundsException" "java/lang/Object" ∈ NW := nw 1582 (by decide +kernel) rfl
theorem q_1583 : Cond.castable "java/util/NoSuchElementException" "java/lang/Object" ∈ NW := nw 1583 (by decide +kernel) rfl
theorem q_1584 : Cond.castable "java/lang/UnsupportedOperationException" "java/lang/Object" ∈ NW := nw 1584 (by decide +kernel) rfl
theorem q_1585 : Cond.castable "java/lang/StringBuilder" "java/lang/Object" ∈ NW := nw 1585 (by decide +kernel) rfl
theorem q_1586 : Cond.castable "java/lang/String" "java/lang/Object" ∈ NW := nw 1586 (by decide +kernel) rfl
theorem q_1587 : Cond.castable "java/lang/IllegalStateException" "java/lang/Object" ∈ NW := nw 1587 (by decide +kernel) rfl
theorem q_1588 : Cond.castable "java/lang/ArithmeticException" "java/lang/Object" ∈ NW := nw 1588 (by decide +kernel) rfl
theorem q_1589 : Cond.castable "java/lang/Throwable" "java/lang/Object" ∈ NW := nw 1589 (by decide +kernel) rfl
end
