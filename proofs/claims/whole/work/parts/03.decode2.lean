theorem dX8_countKnots_2 : decode cX8_countKnots 2 = .ok (.iconst 0, 1) := by decide +kernel
theorem dX8_countKnots_3 : decode cX8_countKnots 3 = .ok (.istore_n 2, 1) := by decide +kernel
theorem dX8_countKnots_4 : decode cX8_countKnots 4 = .ok (.iload_n 2, 1) := by decide +kernel
theorem dX8_countKnots_5 : decode cX8_countKnots 5 = .ok (.iconst 3, 1) := by decide +kernel
theorem dX8_countKnots_6 : decode cX8_countKnots 6 = .ok (.if_icmp .ge 23, 3) := by decide +kernel
theorem dX8_countKnots_9 : decode cX8_countKnots 9 = .ok (.iload_n 1, 1) := by decide +kernel
theorem dX8_countKnots_10 : decode cX8_countKnots 10 = .ok (.aload_n 0, 1) := by decide +kernel
theorem dX8_countKnots_11 : decode cX8_countKnots 11 = .ok (.iload_n 2, 1) := by decide +kernel
theorem dX8_countKnots_12 : decode cX8_countKnots 12 = .ok (.invokevirtual 65, 3) := by decide +kernel
theorem dX8_countKnots_15 : decode cX8_countKnots 15 = .ok (.invokevirtual 138, 3) := by decide +kernel
theorem dX8_countKnots_18 : decode cX8_countKnots 18 = .ok (.invokestatic 141, 3) := by decide +kernel
theorem dX8_countKnots_21 : decode cX8_countKnots 21 = .ok (.iadd, 1) := by decide +kernel
theorem dX8_countKnots_22 : decode cX8_countKnots 22 = .ok (.istore_n 1, 1) := by decide +kernel
theorem dX8_countKnots_23 : decode cX8_countKnots 23 = .ok (.iinc 2 1, 3) := by decide +kernel
theorem dX8_countKnots_26 : decode cX8_countKnots 26 = .ok (.goto (-22), 3) := by decide +kernel
theorem dX8_countKnots_29 : decode cX8_countKnots 29 = .ok (.iload_n 1, 1) := by decide +kernel
theorem dX8_countKnots_30 : decode cX8_countKnots 30 = .ok (.ireturn, 1) := by decide +kernel
theorem dX8_countReadable_0 : decode cX8_countReadable 0 = .ok (.iconst 0, 1) := by decide +kernel
theorem dX8_countReadable_1 : decode cX8_countReadable 1 = .ok (.istore_n 1, 1) := by decide +kernel
theorem dX8_countReadable_2 : decode cX8_countReadable 2 = .ok (.iconst 0, 1) := by decide +kernel
theorem dX8_countReadable_3 : decode cX8_countReadable 3 = .ok (.istore_n 2, 1) := by decide +kernel
theorem dX8_countReadable_4 : decode cX8_countReadable 4 = .ok (.iload_n 2, 1) := by decide +kernel
theorem dX8_countReadable_5 : decode cX8_countReadable 5 = .ok (.iconst 3, 1) := by decide +kernel
theorem dX8_countReadable_6 : decode cX8_countReadable 6 = .ok (.if_icmp .ge 29, 3) := by decide +kernel
theorem dX8_countReadable_9 : decode cX8_countReadable 9 = .ok (.iload_n 1, 1) := by decide +kernel
theorem dX8_countReadable_10 : decode cX8_countReadable 10 = .ok (.aload_n 0, 1) := by decide +kernel
theorem dX8_countReadable_11 : decode cX8_countReadable 11 = .ok (.iload_n 2, 1) := by decide +kernel
theorem dX8_countReadable_12 : decode cX8_countReadable 12 = .ok (.invokevirtual 65, 3) := by decide +kernel
theorem dX8_countReadable_15 : decode cX8_countReadable 15 = .ok (.invokevirtual 138, 3) := by decide +kernel
theorem dX8_countReadable_18 : decode cX8_countReadable 18 = .ok (.aload_n 0, 1) := by decide +kernel
theorem dX8_countReadable_19 : decode cX8_countReadable 19 = .ok (.iload_n 2, 1) := by decide +kernel
theorem dX8_countReadable_20 : decode cX8_countReadable 20 = .ok (.invokevirtual 146, 3) := by decide +kernel
theorem dX8_countReadable_23 : decode cX8_countReadable 23 = .ok (.iand, 1) := by decide +kernel
theorem dX8_countReadable_24 : decode cX8_countReadable 24 = .ok (.invokestatic 141, 3) := by decide +kernel
theorem dX8_countReadable_27 : decode cX8_countReadable 27 = .ok (.iadd, 1) := by decide +kernel
theorem dX8_countReadable_28 : decode cX8_countReadable 28 = .ok (.istore_n 1, 1) := by decide +kernel
theorem dX8_countReadable_29 : decode cX8_countReadable 29 = .ok (.iinc 2 1, 3) := by decide +kernel
theorem dX8_countReadable_32 : decode cX8_countReadable 32 = .ok (.goto (-28), 3) := by decide +kernel
theorem dX8_countReadable_35 : decode cX8_countReadable 35 = .ok (.iload_n 1, 1) := by decide +kernel
theorem dX8_countReadable_36 : decode cX8_countReadable 36 = .ok (.ireturn, 1) := by decide +kernel
theorem dX8_countAllChapters_0 : decode cX8_countAllChapters 0 = .ok (.iconst 0, 1) := by decide +kernel
theorem dX8_countAllChapters_1 : decode cX8_countAllChapters 1 = .ok (.istore_n 1, 1) := by decide +kernel
theorem dX8_countAllChapters_2 : decode cX8_countAllChapters 2 = .ok (.iconst 0, 1) := by decide +kernel
theorem dX8_countAllChapters_3 : decode cX8_countAllChapters 3 = .ok (.istore_n 2, 1) := by decide +kernel
theorem dX8_countAllChapters_4 : decode cX8_countAllChapters 4 = .ok (.iload_n 2, 1) := by decide +kernel
theorem dX8_countAllChapters_5 : decode cX8_countAllChapters 5 = .ok (.iconst 3, 1) := by decide +kernel
theorem dX8_countAllChapters_6 : decode cX8_countAllChapters 6 = .ok (.if_icmp .ge 20, 3) := by decide +kernel
theorem dX8_countAllChapters_9 : decode cX8_countAllChapters 9 = .ok (.iload_n 1, 1) := by decide +kernel
theorem dX8_countAllChapters_10 : decode cX8_countAllChapters 10 = .ok (.aload_n 0, 1) := by decide +kernel
theorem dX8_countAllChapters_11 : decode cX8_countAllChapters 11 = .ok (.iload_n 2, 1) := by decide +kernel
theorem dX8_countAllChapters_12 : decode cX8_countAllChapters 12 = .ok (.invokevirtual 65, 3) := by decide +kernel
theorem dX8_countAllChapters_15 : decode cX8_countAllChapters 15 = .ok (.invokevirtual 149, 3) := by decide +kernel
theorem dX8_countAllChapters_18 : decode cX8_countAllChapters 18 = .ok (.iadd, 1) := by decide +kernel
theorem dX8_countAllChapters_19 : decode cX8_countAllChapters 19 = .ok (.istore_n 1, 1) := by decide +kernel
theorem dX8_countAllChapters_20 : decode cX8_countAllChapters 20 = .ok (.iinc 2 1, 3) := by decide +kernel
theorem dX8_countAllChapters_23 : decode cX8_countAllChapters 23 = .ok (.goto (-19), 3) := by decide +kernel
theorem dX8_countAllChapters_26 : decode cX8_countAllChapters 26 = .ok (.iload_n 1, 1) := by decide +kernel
theorem dX8_countAllChapters_27 : decode cX8_countAllChapters 27 = .ok (.ireturn, 1) := by decide +kernel
theorem dX8_countTorn_0 : decode cX8_countTorn 0 = .ok (.iconst 0, 1) := by decide +kernel
theorem dX8_countTorn_1 : decode cX8_countTorn 1 = .ok (.istore_n 1, 1) := by decide +kernel
theorem dX8_countTorn_2 : decode cX8_countTorn 2 = .ok (.iconst 0, 1) := by decide +kernel
theorem dX8_countTorn_3 : decode cX8_countTorn 3 = .ok (.istore_n 2, 1) := by decide +kernel
theorem dX8_countTorn_4 : decode cX8_countTorn 4 = .ok (.iload_n 2, 1) := by decide +kernel
theorem dX8_countTorn_5 : decode cX8_countTorn 5 = .ok (.iconst 3, 1) := by decide +kernel
theorem dX8_countTorn_6 : decode cX8_countTorn 6 = .ok (.if_icmp .ge 20, 3) := by decide +kernel
theorem dX8_countTorn_9 : decode cX8_countTorn 9 = .ok (.iload_n 1, 1) := by decide +kernel
theorem dX8_countTorn_10 : decode cX8_countTorn 10 = .ok (.aload_n 0, 1) := by decide +kernel
theorem dX8_countTorn_11 : decode cX8_countTorn 11 = .ok (.iload_n 2, 1) := by decide +kernel
theorem dX8_countTorn_12 : decode cX8_countTorn 12 = .ok (.invokevirtual 65, 3) := by decide +kernel
theorem dX8_countTorn_15 : decode cX8_countTorn 15 = .ok (.invokevirtual 152, 3) := by decide +kernel
theorem dX8_countTorn_18 : decode cX8_countTorn 18 = .ok (.iadd, 1) := by decide +kernel
theorem dX8_countTorn_19 : decode cX8_countTorn 19 = .ok (.istore_n 1, 1) := by decide +kernel
theorem dX8_countTorn_20 : decode cX8_countTorn 20 = .ok (.iinc 2 1, 3) := by decide +kernel
theorem dX8_countTorn_23 : decode cX8_countTorn 23 = .ok (.goto (-19), 3) := by decide +kernel
theorem dX8_countTorn_26 : decode cX8_countTorn 26 = .ok (.iload_n 1, 1) := by decide +kernel
theorem dX8_countTorn_27 : decode cX8_countTorn 27 = .ok (.ireturn, 1) := by decide +kernel
theorem dX8_sumTwine_0 : decode cX8_sumTwine 0 = .ok (.iconst 0, 1) := by decide +kernel
theorem dX8_sumTwine_1 : decode cX8_sumTwine 1 = .ok (.istore_n 1, 1) := by decide +kernel
theorem dX8_sumTwine_2 : decode cX8_sumTwine 2 = .ok (.iconst 0, 1) := by decide +kernel
theorem dX8_sumTwine_3 : decode cX8_sumTwine 3 = .ok (.istore_n 2, 1) := by decide +kernel
theorem dX8_sumTwine_4 : decode cX8_sumTwine 4 = .ok (.iload_n 2, 1) := by decide +kernel
theorem dX8_sumTwine_5 : decode cX8_sumTwine 5 = .ok (.aload_n 0, 1) := by decide +kernel
theorem dX8_sumTwine_6 : decode cX8_sumTwine 6 = .ok (.getfield 29, 3) := by decide +kernel
theorem dX8_sumTwine_9 : decode cX8_sumTwine 9 = .ok (.if_icmp .ge 20, 3) := by decide +kernel
theorem dX8_sumTwine_12 : decode cX8_sumTwine 12 = .ok (.iload_n 1, 1) := by decide +kernel
theorem dX8_sumTwine_13 : decode cX8_sumTwine 13 = .ok (.aload_n 0, 1) := by decide +kernel
theorem dX8_sumTwine_14 : decode cX8_sumTwine 14 = .ok (.iload_n 2, 1) := by decide +kernel
theorem dX8_sumTwine_15 : decode cX8_sumTwine 15 = .ok (.invokevirtual 77, 3) := by decide +kernel
theorem dX8_sumTwine_18 : decode cX8_sumTwine 18 = .ok (.getfield 81, 3) := by decide +kernel
theorem dX8_sumTwine_21 : decode cX8_sumTwine 21 = .ok (.iadd, 1) := by decide +kernel
theorem dX8_sumTwine_22 : decode cX8_sumTwine 22 = .ok (.istore_n 1, 1) := by decide +kernel
theorem dX8_sumTwine_23 : decode cX8_sumTwine 23 = .ok (.iinc 2 1, 3) := by decide +kernel
theorem dX8_sumTwine_26 : decode cX8_sumTwine 26 = .ok (.goto (-22), 3) := by decide +kernel
theorem dX8_sumTwine_29 : decode cX8_sumTwine 29 = .ok (.iload_n 1, 1) := by decide +kernel
theorem dX8_sumTwine_30 : decode cX8_sumTwine 30 = .ok (.ireturn, 1) := by decide +kernel
theorem dX8_countAsNoted_0 : decode cX8_countAsNoted 0 = .ok (.iconst 0, 1) := by decide +kernel
theorem dX8_countAsNoted_1 : decode cX8_countAsNoted 1 = .ok (.istore_n 1, 1) := by decide +kernel
theorem dX8_countAsNoted_2 : decode cX8_countAsNoted 2 = .ok (.iconst 0, 1) := by decide +kernel
theorem dX8_countAsNoted_3 : decode cX8_countAsNoted 3 = .ok (.istore_n 2, 1) := by decide +kernel
theorem dX8_countAsNoted_4 : decode cX8_countAsNoted 4 = .ok (.iload_n 2, 1) := by decide +kernel
theorem dX8_countAsNoted_5 : decode cX8_countAsNoted 5 = .ok (.aload_n 0, 1) := by decide +kernel
theorem dX8_countAsNoted_6 : decode cX8_countAsNoted 6 = .ok (.getfield 33, 3) := by decide +kernel
theorem dX8_countAsNoted_9 : decode cX8_countAsNoted 9 = .ok (.if_icmp .ge 29, 3) := by decide +kernel
theorem dX8_countAsNoted_12 : decode cX8_countAsNoted 12 = .ok (.iload_n 1, 1) := by decide +kernel
theorem dX8_countAsNoted_13 : decode cX8_countAsNoted 13 = .ok (.aload_n 0, 1) := by decide +kernel
theorem dX8_countAsNoted_14 : decode cX8_countAsNoted 14 = .ok (.aload_n 0, 1) := by decide +kernel
theorem dX8_countAsNoted_15 : decode cX8_countAsNoted 15 = .ok (.iload_n 2, 1) := by decide +kernel
theorem dX8_countAsNoted_16 : decode cX8_countAsNoted 16 = .ok (.invokevirtual 91, 3) := by decide +kernel
theorem dX8_countAsNoted_19 : decode cX8_countAsNoted 19 = .ok (.invokevirtual 155, 3) := by decide +kernel
theorem dX8_countAsNoted_22 : decode cX8_countAsNoted 22 = .ok (.ifCond .eq 7, 3) := by decide +kernel
theorem dX8_countAsNoted_25 : decode cX8_countAsNoted 25 = .ok (.iconst 1, 1) := by decide +kernel
theorem dX8_countAsNoted_26 : decode cX8_countAsNoted 26 = .ok (.goto 4, 3) := by decide +kernel
theorem dX8_countAsNoted_29 : decode cX8_countAsNoted 29 = .ok (.iconst 0, 1) := by decide +kernel
theorem dX8_countAsNoted_30 : decode cX8_countAsNoted 30 = .ok (.iadd, 1) := by decide +kernel
theorem dX8_countAsNoted_31 : decode cX8_countAsNoted 31 = .ok (.istore_n 1, 1) := by decide +kernel
theorem dX8_countAsNoted_32 : decode cX8_countAsNoted 32 = .ok (.iinc 2 1, 3) := by decide +kernel
theorem dX8_countAsNoted_35 : decode cX8_countAsNoted 35 = .ok (.goto (-31), 3) := by decide +kernel
theorem dX8_countAsNoted_38 : decode cX8_countAsNoted 38 = .ok (.iload_n 1, 1) := by decide +kernel
theorem dX8_countAsNoted_39 : decode cX8_countAsNoted 39 = .ok (.ireturn, 1) := by decide +kernel
theorem dX8_areChaptersToldAlike_0 : decode cX8_areChaptersToldAlike 0 = .ok (.iconst 0, 1) := by decide +kernel
theorem dX8_areChaptersToldAlike_1 : decode cX8_areChaptersToldAlike 1 = .ok (.istore_n 2, 1) := by decide +kernel
theorem dX8_areChaptersToldAlike_2 : decode cX8_areChaptersToldAlike 2 = .ok (.iconst 0, 1) := by decide +kernel
theorem dX8_areChaptersToldAlike_3 : decode cX8_areChaptersToldAlike 3 = .ok (.istore_n 3, 1) := by decide +kernel
theorem dX8_areChaptersToldAlike_4 : decode cX8_areChaptersToldAlike 4 = .ok (.iload_n 3, 1) := by decide +kernel
theorem dX8_areChaptersToldAlike_5 : decode cX8_areChaptersToldAlike 5 = .ok (.iconst 3, 1) := by decide +kernel
theorem dX8_areChaptersToldAlike_6 : decode cX8_areChaptersToldAlike 6 = .ok (.if_icmp .ge 21, 3) := by decide +kernel
theorem dX8_areChaptersToldAlike_9 : decode cX8_areChaptersToldAlike 9 = .ok (.iload_n 2, 1) := by decide +kernel
theorem dX8_areChaptersToldAlike_10 : decode cX8_areChaptersToldAlike 10 = .ok (.aload_n 0, 1) := by decide +kernel
theorem dX8_areChaptersToldAlike_11 : decode cX8_areChaptersToldAlike 11 = .ok (.iload_n 3, 1) := by decide +kernel
theorem dX8_areChaptersToldAlike_12 : decode cX8_areChaptersToldAlike 12 = .ok (.invokevirtual 65, 3) := by decide +kernel
theorem dX8_areChaptersToldAlike_15 : decode cX8_areChaptersToldAlike 15 = .ok (.aload_n 1, 1) := by decide +kernel
theorem dX8_areChaptersToldAlike_16 : decode cX8_areChaptersToldAlike 16 = .ok (.invokevirtual 159, 3) := by decide +kernel
theorem dX8_areChaptersToldAlike_19 : decode cX8_areChaptersToldAlike 19 = .ok (.iadd, 1) := by decide +kernel
theorem dX8_areChaptersToldAlike_20 : decode cX8_areChaptersToldAlike 20 = .ok (.istore_n 2, 1) := by decide +kernel
theorem dX8_areChaptersToldAlike_21 : decode cX8_areChaptersToldAlike 21 = .ok (.iinc 3 1, 3) := by decide +kernel
theorem dX8_areChaptersToldAlike_24 : decode cX8_areChaptersToldAlike 24 = .ok (.goto (-20), 3) := by decide +kernel
theorem dX8_areChaptersToldAlike_27 : decode cX8_areChaptersToldAlike 27 = .ok (.iload_n 2, 1) := by decide +kernel
theorem dX8_areChaptersToldAlike_28 : decode cX8_areChaptersToldAlike 28 = .ok (.aload_n 0, 1) := by decide +kernel
theorem dX8_areChaptersToldAlike_29 : decode cX8_areChaptersToldAlike 29 = .ok (.invokevirtual 163, 3) := by decide +kernel
theorem dX8_areChaptersToldAlike_32 : decode cX8_areChaptersToldAlike 32 = .ok (.if_icmp .ne 7, 3) := by decide +kernel
theorem dX8_areChaptersToldAlike_35 : decode cX8_areChaptersToldAlike 35 = .ok (.iconst 1, 1) := by decide +kernel
theorem dX8_areChaptersToldAlike_36 : decode cX8_areChaptersToldAlike 36 = .ok (.goto 4, 3) := by decide +kernel
theorem dX8_areChaptersToldAlike_39 : decode cX8_areChaptersToldAlike 39 = .ok (.iconst 0, 1) := by decide +kernel
theorem dX8_areChaptersToldAlike_40 : decode cX8_areChaptersToldAlike 40 = .ok (.ireturn, 1) := by decide +kernel
theorem dX8_areNotesToldAlike_0 : decode cX8_areNotesToldAlike 0 = .ok (.iconst 0, 1) := by decide +kernel
theorem dX8_areNotesToldAlike_1 : decode cX8_areNotesToldAlike 1 = .ok (.istore_n 2, 1) := by decide +kernel
theorem dX8_areNotesToldAlike_2 : decode cX8_areNotesToldAlike 2 = .ok (.iload_n 2, 1) := by decide +kernel
theorem dX8_areNotesToldAlike_3 : decode cX8_areNotesToldAlike 3 = .ok (.aload_n 0, 1) := by decide +kernel
theorem dX8_areNotesToldAlike_4 : decode cX8_areNotesToldAlike 4 = .ok (.getfield 33, 3) := by decide +kernel
theorem dX8_areNotesToldAlike_7 : decode cX8_areNotesToldAlike 7 = .ok (.if_icmp .ge 39, 3) := by decide +kernel
theorem dX8_areNotesToldAlike_10 : decode cX8_areNotesToldAlike 10 = .ok (.aload_n 0, 1) := by decide +kernel
theorem dX8_areNotesToldAlike_11 : decode cX8_areNotesToldAlike 11 = .ok (.iload_n 2, 1) := by decide +kernel
theorem dX8_areNotesToldAlike_12 : decode cX8_areNotesToldAlike 12 = .ok (.invokevirtual 91, 3) := by decide +kernel
theorem dX8_areNotesToldAlike_15 : decode cX8_areNotesToldAlike 15 = .ok (.astore_n 3, 1) := by decide +kernel
theorem dX8_areNotesToldAlike_16 : decode cX8_areNotesToldAlike 16 = .ok (.aload_n 0, 1) := by decide +kernel
theorem dX8_areNotesToldAlike_17 : decode cX8_areNotesToldAlike 17 = .ok (.aload_n 3, 1) := by decide +kernel
theorem dX8_areNotesToldAlike_18 : decode cX8_areNotesToldAlike 18 = .ok (.invokevirtual 166, 3) := by decide +kernel
theorem dX8_areNotesToldAlike_21 : decode cX8_areNotesToldAlike 21 = .ok (.ifCond .eq 19, 3) := by decide +kernel
theorem dX8_areNotesToldAlike_24 : decode cX8_areNotesToldAlike 24 = .ok (.aload_n 0, 1) := by decide +kernel
theorem dX8_areNotesToldAlike_25 : decode cX8_areNotesToldAlike 25 = .ok (.aload_n 3, 1) := by decide +kernel
theorem dX8_areNotesToldAlike_26 : decode cX8_areNotesToldAlike 26 = .ok (.aload_n 1, 1) := by decide +kernel
theorem dX8_areNotesToldAlike_27 : decode cX8_areNotesToldAlike 27 = .ok (.invokevirtual 169, 3) := by decide +kernel
theorem dX8_areNotesToldAlike_30 : decode cX8_areNotesToldAlike 30 = .ok (.aload_n 0, 1) := by decide +kernel
theorem dX8_areNotesToldAlike_31 : decode cX8_areNotesToldAlike 31 = .ok (.aload_n 3, 1) := by decide +kernel
theorem dX8_areNotesToldAlike_32 : decode cX8_areNotesToldAlike 32 = .ok (.invokevirtual 172, 3) := by decide +kernel
theorem dX8_areNotesToldAlike_35 : decode cX8_areNotesToldAlike 35 = .ok (.if_icmp .eq 5, 3) := by decide +kernel
theorem dX8_areNotesToldAlike_38 : decode cX8_areNotesToldAlike 38 = .ok (.iconst 0, 1) := by decide +kernel
theorem dX8_areNotesToldAlike_39 : decode cX8_areNotesToldAlike 39 = .ok (.ireturn, 1) := by decide +kernel
theorem dX8_areNotesToldAlike_40 : decode cX8_areNotesToldAlike 40 = .ok (.iinc 2 1, 3) := by decide +kernel
theorem dX8_areNotesToldAlike_43 : decode cX8_areNotesToldAlike 43 = .ok (.goto (-41), 3) := by decide +kernel
theorem dX8_areNotesToldAlike_46 : decode cX8_areNotesToldAlike 46 = .ok (.iconst 1, 1) := by decide +kernel
theorem dX8_areNotesToldAlike_47 : decode cX8_areNotesToldAlike 47 = .ok (.ireturn, 1) := by decide +kernel
theorem dX9_init_0 : decode cX9_init 0 = .ok (.aload_n 0, 1) := by decide +kernel
theorem dX9_init_1 : decode cX9_init 1 = .ok (.invokespecial 3, 3) := by decide +kernel
theorem dX9_init_4 : decode cX9_init 4 = .ok (.aload_n 0, 1) := by decide +kernel
theorem dX9_init_5 : decode cX9_init 5 = .ok (.new 9, 3) := by decide +kernel
theorem dX9_init_8 : decode cX9_init 8 = .ok (.dup, 1) := by decide +kernel
theorem dX9_init_9 : decode cX9_init 9 = .ok (.invokespecial 11, 3) := by decide +kernel
theorem dX9_init_12 : decode cX9_init 12 = .ok (.putfield 12, 3) := by decide +kernel
theorem dX9_init_15 : decode cX9_init 15 = .ok (.aload_n 0, 1) := by decide +kernel
theorem dX9_init_16 : decode cX9_init 16 = .ok (.new 9, 3) := by decide +kernel
theorem dX9_init_19 : decode cX9_init 19 = .ok (.dup, 1) := by decide +kernel
theorem dX9_init_20 : decode cX9_init 20 = .ok (.invokespecial 11, 3) := by decide +kernel
theorem dX9_init_23 : decode cX9_init 23 = .ok (.putfield 16, 3) := by decide +kernel
theorem dX9_init_26 : decode cX9_init 26 = .ok (.aload_n 0, 1) := by decide +kernel
theorem dX9_init_27 : decode cX9_init 27 = .ok (.new 9, 3) := by decide +kernel
theorem dX9_init_30 : decode cX9_init 30 = .ok (.dup, 1) := by decide +kernel
theorem dX9_init_31 : decode cX9_init 31 = .ok (.invokespecial 11, 3) := by decide +kernel
theorem dX9_init_34 : decode cX9_init 34 = .ok (.putfield 19, 3) := by decide +kernel
theorem dX9_init_37 : decode cX9_init 37 = .ok (.aload_n 0, 1) := by decide +kernel
theorem dX9_init_38 : decode cX9_init 38 = .ok (.iconst 0, 1) := by decide +kernel
theorem dX9_init_39 : decode cX9_init 39 = .ok (.putfield 22, 3) := by decide +kernel
theorem dX9_init_42 : decode cX9_init 42 = .ok (.aload_n 0, 1) := by decide +kernel
theorem dX9_init_43 : decode cX9_init 43 = .ok (.new 26, 3) := by decide +kernel
theorem dX9_init_46 : decode cX9_init 46 = .ok (.dup, 1) := by decide +kernel
theorem dX9_init_47 : decode cX9_init 47 = .ok (.invokespecial 28, 3) := by decide +kernel
theorem dX9_init_50 : decode cX9_init 50 = .ok (.putfield 29, 3) := by decide +kernel
theorem dX9_init_53 : decode cX9_init 53 = .ok (.aload_n 0, 1) := by decide +kernel
theorem dX9_init_54 : decode cX9_init 54 = .ok (.new 33, 3) := by decide +kernel
theorem dX9_init_57 : decode cX9_init 57 = .ok (.dup, 1) := by decide +kernel
theorem dX9_init_58 : decode cX9_init 58 = .ok (.invokespecial 35, 3) := by decide +kernel
theorem dX9_init_61 : decode cX9_init 61 = .ok (.putfield 36, 3) := by decide +kernel
theorem dX9_init_64 : decode cX9_init 64 = .ok (.aload_n 0, 1) := by decide +kernel
theorem dX9_init_65 : decode cX9_init 65 = .ok (.new 40, 3) := by decide +kernel
theorem dX9_init_68 : decode cX9_init 68 = .ok (.dup, 1) := by decide +kernel
theorem dX9_init_69 : decode cX9_init 69 = .ok (.invokespecial 42, 3) := by decide +kernel
theorem dX9_init_72 : decode cX9_init 72 = .ok (.putfield 43, 3) := by decide +kernel
theorem dX9_init_75 : decode cX9_init 75 = .ok (.aload_n 0, 1) := by decide +kernel
theorem dX9_init_76 : decode cX9_init 76 = .ok (.new 47, 3) := by decide +kernel
theorem dX9_init_79 : decode cX9_init 79 = .ok (.dup, 1) := by decide +kernel
theorem dX9_init_80 : decode cX9_init 80 = .ok (.invokespecial 49, 3) := by decide +kernel
theorem dX9_init_83 : decode cX9_init 83 = .ok (.putfield 50, 3) := by decide +kernel
theorem dX9_init_86 : decode cX9_init 86 = .ok (.aload_n 0, 1) := by decide +kernel
theorem dX9_init_87 : decode cX9_init 87 = .ok (.new 54, 3) := by decide +kernel
theorem dX9_init_90 : decode cX9_init 90 = .ok (.dup, 1) := by decide +kernel
theorem dX9_init_91 : decode cX9_init 91 = .ok (.invokespecial 56, 3) := by decide +kernel
theorem dX9_init_94 : decode cX9_init 94 = .ok (.putfield 57, 3) := by decide +kernel
theorem dX9_init_97 : decode cX9_init 97 = .ok (.aload_n 0, 1) := by decide +kernel
theorem dX9_init_98 : decode cX9_init 98 = .ok (.iconst 0, 1) := by decide +kernel
theorem dX9_init_99 : decode cX9_init 99 = .ok (.putfield 61, 3) := by decide +kernel
theorem dX9_init_102 : decode cX9_init 102 = .ok (.aload_n 0, 1) := by decide +kernel
theorem dX9_init_103 : decode cX9_init 103 = .ok (.iconst (-1), 1) := by decide +kernel
theorem dX9_init_104 : decode cX9_init 104 = .ok (.putfield 65, 3) := by decide +kernel
theorem dX9_init_107 : decode cX9_init 107 = .ok (.return_, 1) := by decide +kernel
theorem dX9_knot_0 : decode cX9_knot 0 = .ok (.aload_n 0, 1) := by decide +kernel
theorem dX9_knot_1 : decode cX9_knot 1 = .ok (.aload_n 0, 1) := by decide +kernel
theorem dX9_knot_2 : decode cX9_knot 2 = .ok (.iload_n 1, 1) := by decide +kernel
theorem dX9_knot_3 : decode cX9_knot 3 = .ok (.iload_n 2, 1) := by decide +kernel
theorem dX9_knot_4 : decode cX9_knot 4 = .ok (.iload_n 3, 1) := by decide +kernel
theorem dX9_knot_5 : decode cX9_knot 5 = .ok (.invokevirtual 68, 3) := by decide +kernel
theorem dX9_knot_8 : decode cX9_knot 8 = .ok (.invokevirtual 72, 3) := by decide +kernel
theorem dX9_knot_11 : decode cX9_knot 11 = .ok (.ifCond .eq 13, 3) := by decide +kernel
theorem dX9_knot_14 : decode cX9_knot 14 = .ok (.new 76, 3) := by decide +kernel
theorem dX9_knot_17 : decode cX9_knot 17 = .ok (.dup, 1) := by decide +kernel
theorem dX9_knot_18 : decode cX9_knot 18 = .ok (.ldc 78, 2) := by decide +kernel
theorem dX9_knot_20 : decode cX9_knot 20 = .ok (.invokespecial 80, 3) := by decide +kernel
theorem dX9_knot_23 : decode cX9_knot 23 = .ok (.athrow, 1) := by decide +kernel
theorem dX9_knot_24 : decode cX9_knot 24 = .ok (.aload_n 0, 1) := by decide +kernel
theorem dX9_knot_25 : decode cX9_knot 25 = .ok (.getfield 29, 3) := by decide +kernel
theorem dX9_knot_28 : decode cX9_knot 28 = .ok (.aload_n 0, 1) := by decide +kernel
theorem dX9_knot_29 : decode cX9_knot 29 = .ok (.getfield 12, 3) := by decide +kernel
theorem dX9_knot_32 : decode cX9_knot 32 = .ok (.invokevirtual 83, 3) := by decide +kernel
theorem dX9_knot_35 : decode cX9_knot 35 = .ok (.aload_n 0, 1) := by decide +kernel
theorem dX9_knot_36 : decode cX9_knot 36 = .ok (.getfield 12, 3) := by decide +kernel
theorem dX9_knot_39 : decode cX9_knot 39 = .ok (.iload_n 1, 1) := by decide +kernel
theorem dX9_knot_40 : decode cX9_knot 40 = .ok (.invokevirtual 87, 3) := by decide +kernel
theorem dX9_knot_43 : decode cX9_knot 43 = .ok (.iload_n 2, 1) := by decide +kernel
theorem dX9_knot_44 : decode cX9_knot 44 = .ok (.invokevirtual 91, 3) := by decide +kernel
theorem dX9_knot_47 : decode cX9_knot 47 = .ok (.istore 4, 2) := by decide +kernel
theorem dX9_knot_49 : decode cX9_knot 49 = .ok (.aload_n 0, 1) := by decide +kernel
theorem dX9_knot_50 : decode cX9_knot 50 = .ok (.getfield 12, 3) := by decide +kernel
theorem dX9_knot_53 : decode cX9_knot 53 = .ok (.iload_n 1, 1) := by decide +kernel
theorem dX9_knot_54 : decode cX9_knot 54 = .ok (.invokevirtual 87, 3) := by decide +kernel
theorem dX9_knot_57 : decode cX9_knot 57 = .ok (.iload_n 2, 1) := by decide +kernel
theorem dX9_knot_58 : decode cX9_knot 58 = .ok (.iload_n 3, 1) := by decide +kernel
theorem dX9_knot_59 : decode cX9_knot 59 = .ok (.invokevirtual 97, 3) := by decide +kernel
theorem dX9_knot_62 : decode cX9_knot 62 = .ok (.iload 4, 2) := by decide +kernel
theorem dX9_knot_64 : decode cX9_knot 64 = .ok (.ireturn, 1) := by decide +kernel
theorem dX9_tear_0 : decode cX9_tear 0 = .ok (.aload_n 0, 1) := by decide +kernel
theorem dX9_tear_1 : decode cX9_tear 1 = .ok (.aload_n 0, 1) := by decide +kernel
theorem dX9_tear_2 : decode cX9_tear 2 = .ok (.iload_n 1, 1) := by decide +kernel
theorem dX9_tear_3 : decode cX9_tear 3 = .ok (.iload_n 2, 1) := by decide +kernel
theorem dX9_tear_4 : decode cX9_tear 4 = .ok (.iload_n 3, 1) := by decide +kernel
theorem dX9_tear_5 : decode cX9_tear 5 = .ok (.invokevirtual 101, 3) := by decide +kernel
theorem dX9_tear_8 : decode cX9_tear 8 = .ok (.invokevirtual 72, 3) := by decide +kernel
theorem dX9_tear_11 : decode cX9_tear 11 = .ok (.ifCond .eq 13, 3) := by decide +kernel
theorem dX9_tear_14 : decode cX9_tear 14 = .ok (.new 76, 3) := by decide +kernel
theorem dX9_tear_17 : decode cX9_tear 17 = .ok (.dup, 1) := by decide +kernel
theorem dX9_tear_18 : decode cX9_tear 18 = .ok (.ldc 104, 2) := by decide +kernel
theorem dX9_tear_20 : decode cX9_tear 20 = .ok (.invokespecial 80, 3) := by decide +kernel
theorem dX9_tear_23 : decode cX9_tear 23 = .ok (.athrow, 1) := by decide +kernel
theorem dX9_tear_24 : decode cX9_tear 24 = .ok (.aload_n 0, 1) := by decide +kernel
theorem dX9_tear_25 : decode cX9_tear 25 = .ok (.getfield 29, 3) := by decide +kernel
theorem dX9_tear_28 : decode cX9_tear 28 = .ok (.aload_n 0, 1) := by decide +kernel
theorem dX9_tear_29 : decode cX9_tear 29 = .ok (.getfield 12, 3) := by decide +kernel
theorem dX9_tear_32 : decode cX9_tear 32 = .ok (.invokevirtual 83, 3) := by decide +kernel
theorem dX9_tear_35 : decode cX9_tear 35 = .ok (.aload_n 0, 1) := by decide +kernel
theorem dX9_tear_36 : decode cX9_tear 36 = .ok (.getfield 12, 3) := by decide +kernel
theorem dX9_tear_39 : decode cX9_tear 39 = .ok (.iload_n 1, 1) := by decide +kernel
theorem dX9_tear_40 : decode cX9_tear 40 = .ok (.iload_n 2, 1) := by decide +kernel
theorem dX9_tear_41 : decode cX9_tear 41 = .ok (.iload_n 3, 1) := by decide +kernel
theorem dX9_tear_42 : decode cX9_tear 42 = .ok (.invokevirtual 106, 3) := by decide +kernel
theorem dX9_tear_45 : decode cX9_tear 45 = .ok (.aload_n 0, 1) := by decide +kernel
theorem dX9_tear_46 : decode cX9_tear 46 = .ok (.getfield 12, 3) := by decide +kernel
theorem dX9_tear_49 : decode cX9_tear 49 = .ok (.iload_n 1, 1) := by decide +kernel
theorem dX9_tear_50 : decode cX9_tear 50 = .ok (.invokevirtual 87, 3) := by decide +kernel
theorem dX9_tear_53 : decode cX9_tear 53 = .ok (.invokevirtual 110, 3) := by decide +kernel
theorem dX9_tear_56 : decode cX9_tear 56 = .ok (.ireturn, 1) := by decide +kernel
theorem dX9_mend_0 : decode cX9_mend 0 = .ok (.aload_n 0, 1) := by decide +kernel
theorem dX9_mend_1 : decode cX9_mend 1 = .ok (.aload_n 0, 1) := by decide +kernel
theorem dX9_mend_2 : decode cX9_mend 2 = .ok (.iload_n 1, 1) := by decide +kernel
theorem dX9_mend_3 : decode cX9_mend 3 = .ok (.iload_n 2, 1) := by decide +kernel
theorem dX9_mend_4 : decode cX9_mend 4 = .ok (.iload_n 3, 1) := by decide +kernel
theorem dX9_mend_5 : decode cX9_mend 5 = .ok (.iload 4, 2) := by decide +kernel
theorem dX9_mend_7 : decode cX9_mend 7 = .ok (.invokevirtual 114, 3) := by decide +kernel
theorem dX9_mend_10 : decode cX9_mend 10 = .ok (.invokevirtual 72, 3) := by decide +kernel
theorem dX9_mend_13 : decode cX9_mend 13 = .ok (.ifCond .eq 13, 3) := by decide +kernel
theorem dX9_mend_16 : decode cX9_mend 16 = .ok (.new 76, 3) := by decide +kernel
theorem dX9_mend_19 : decode cX9_mend 19 = .ok (.dup, 1) := by decide +kernel
theorem dX9_mend_20 : decode cX9_mend 20 = .ok (.ldc 118, 2) := by decide +kernel
theorem dX9_mend_22 : decode cX9_mend 22 = .ok (.invokespecial 80, 3) := by decide +kernel
theorem dX9_mend_25 : decode cX9_mend 25 = .ok (.athrow, 1) := by decide +kernel
theorem dX9_mend_26 : decode cX9_mend 26 = .ok (.aload_n 0, 1) := by decide +kernel
theorem dX9_mend_27 : decode cX9_mend 27 = .ok (.getfield 29, 3) := by decide +kernel
theorem dX9_mend_30 : decode cX9_mend 30 = .ok (.aload_n 0, 1) := by decide +kernel
theorem dX9_mend_31 : decode cX9_mend 31 = .ok (.getfield 12, 3) := by decide +kernel
theorem dX9_mend_34 : decode cX9_mend 34 = .ok (.invokevirtual 83, 3) := by decide +kernel
theorem dX9_mend_37 : decode cX9_mend 37 = .ok (.aload_n 0, 1) := by decide +kernel
theorem dX9_mend_38 : decode cX9_mend 38 = .ok (.getfield 12, 3) := by decide +kernel
theorem dX9_mend_41 : decode cX9_mend 41 = .ok (.iload_n 1, 1) := by decide +kernel
theorem dX9_mend_42 : decode cX9_mend 42 = .ok (.iload_n 2, 1) := by decide +kernel
theorem dX9_mend_43 : decode cX9_mend 43 = .ok (.iload_n 3, 1) := by decide +kernel
theorem dX9_mend_44 : decode cX9_mend 44 = .ok (.iload 4, 2) := by decide +kernel
theorem dX9_mend_46 : decode cX9_mend 46 = .ok (.invokevirtual 120, 3) := by decide +kernel
theorem dX9_mend_49 : decode cX9_mend 49 = .ok (.aload_n 0, 1) := by decide +kernel
theorem dX9_mend_50 : decode cX9_mend 50 = .ok (.getfield 12, 3) := by decide +kernel
theorem dX9_mend_53 : decode cX9_mend 53 = .ok (.iload 4, 2) := by decide +kernel
theorem dX9_mend_55 : decode cX9_mend 55 = .ok (.invokevirtual 124, 3) := by decide +kernel
theorem dX9_mend_58 : decode cX9_mend 58 = .ok (.getfield 128, 3) := by decide +kernel
theorem dX9_mend_61 : decode cX9_mend 61 = .ok (.ireturn, 1) := by decide +kernel
theorem dX9_editor_0 : decode cX9_editor 0 = .ok (.aload_n 0, 1) := by decide +kernel
theorem dX9_editor_1 : decode cX9_editor 1 = .ok (.aload_n 0, 1) := by decide +kernel
theorem dX9_editor_2 : decode cX9_editor 2 = .ok (.iload_n 1, 1) := by decide +kernel
theorem dX9_editor_3 : decode cX9_editor 3 = .ok (.invokevirtual 133, 3) := by decide +kernel
theorem dX9_editor_6 : decode cX9_editor 6 = .ok (.invokevirtual 72, 3) := by decide +kernel
theorem dX9_editor_9 : decode cX9_editor 9 = .ok (.ifCond .eq 13, 3) := by decide +kernel
theorem dX9_editor_12 : decode cX9_editor 12 = .ok (.new 76, 3) := by decide +kernel
theorem dX9_editor_15 : decode cX9_editor 15 = .ok (.dup, 1) := by decide +kernel
theorem dX9_editor_16 : decode cX9_editor 16 = .ok (.ldc 136, 2) := by decide +kernel
theorem dX9_editor_18 : decode cX9_editor 18 = .ok (.invokespecial 80, 3) := by decide +kernel
theorem dX9_editor_21 : decode cX9_editor 21 = .ok (.athrow, 1) := by decide +kernel
theorem dX9_editor_22 : decode cX9_editor 22 = .ok (.aload_n 0, 1) := by decide +kernel
theorem dX9_editor_23 : decode cX9_editor 23 = .ok (.getfield 29, 3) := by decide +kernel
theorem dX9_editor_26 : decode cX9_editor 26 = .ok (.aload_n 0, 1) := by decide +kernel
theorem dX9_editor_27 : decode cX9_editor 27 = .ok (.getfield 12, 3) := by decide +kernel
theorem dX9_editor_30 : decode cX9_editor 30 = .ok (.invokevirtual 83, 3) := by decide +kernel
theorem dX9_editor_33 : decode cX9_editor 33 = .ok (.aload_n 0, 1) := by decide +kernel
theorem dX9_editor_34 : decode cX9_editor 34 = .ok (.getfield 12, 3) := by decide +kernel
theorem dX9_editor_37 : decode cX9_editor 37 = .ok (.iload_n 1, 1) := by decide +kernel
theorem dX9_editor_38 : decode cX9_editor 38 = .ok (.invokevirtual 138, 3) := by decide +kernel
theorem dX9_editor_41 : decode cX9_editor 41 = .ok (.aload_n 0, 1) := by decide +kernel
theorem dX9_editor_42 : decode cX9_editor 42 = .ok (.getfield 12, 3) := by decide +kernel
theorem dX9_editor_45 : decode cX9_editor 45 = .ok (.getfield 142, 3) := by decide +kernel
theorem dX9_editor_48 : decode cX9_editor 48 = .ok (.iconst 1, 1) := by decide +kernel
theorem dX9_editor_49 : decode cX9_editor 49 = .ok (.isub, 1) := by decide +kernel
theorem dX9_editor_50 : decode cX9_editor 50 = .ok (.ireturn, 1) := by decide +kernel
theorem dX9_tide_0 : decode cX9_tide 0 = .ok (.aload_n 0, 1) := by decide +kernel
theorem dX9_tide_1 : decode cX9_tide 1 = .ok (.aload_n 0, 1) := by decide +kernel
theorem dX9_tide_2 : decode cX9_tide 2 = .ok (.iload_n 1, 1) := by decide +kernel
theorem dX9_tide_3 : decode cX9_tide 3 = .ok (.invokevirtual 145, 3) := by decide +kernel
theorem dX9_tide_6 : decode cX9_tide 6 = .ok (.invokevirtual 72, 3) := by decide +kernel
theorem dX9_tide_9 : decode cX9_tide 9 = .ok (.ifCond .eq 13, 3) := by decide +kernel
theorem dX9_tide_12 : decode cX9_tide 12 = .ok (.new 76, 3) := by decide +kernel
theorem dX9_tide_15 : decode cX9_tide 15 = .ok (.dup, 1) := by decide +kernel
theorem dX9_tide_16 : decode cX9_tide 16 = .ok (.ldc 148, 2) := by decide +kernel
theorem dX9_tide_18 : decode cX9_tide 18 = .ok (.invokespecial 80, 3) := by decide +kernel
theorem dX9_tide_21 : decode cX9_tide 21 = .ok (.athrow, 1) := by decide +kernel
theorem dX9_tide_22 : decode cX9_tide 22 = .ok (.aload_n 0, 1) := by decide +kernel
theorem dX9_tide_23 : decode cX9_tide 23 = .ok (.getfield 29, 3) := by decide +kernel
theorem dX9_tide_26 : decode cX9_tide 26 = .ok (.aload_n 0, 1) := by decide +kernel
theorem dX9_tide_27 : decode cX9_tide 27 = .ok (.getfield 12, 3) := by decide +kernel
theorem dX9_tide_30 : decode cX9_tide 30 = .ok (.invokevirtual 83, 3) := by decide +kernel
theorem dX9_tide_33 : decode cX9_tide 33 = .ok (.aload_n 0, 1) := by decide +kernel
theorem dX9_tide_34 : decode cX9_tide 34 = .ok (.getfield 12, 3) := by decide +kernel
theorem dX9_tide_37 : decode cX9_tide 37 = .ok (.iload_n 1, 1) := by decide +kernel
theorem dX9_tide_38 : decode cX9_tide 38 = .ok (.putfield 150, 3) := by decide +kernel
theorem dX9_tide_41 : decode cX9_tide 41 = .ok (.aload_n 0, 1) := by decide +kernel
theorem dX9_tide_42 : decode cX9_tide 42 = .ok (.getfield 12, 3) := by decide +kernel
theorem dX9_tide_45 : decode cX9_tide 45 = .ok (.invokevirtual 153, 3) := by decide +kernel
theorem dX9_tide_48 : decode cX9_tide 48 = .ok (.ireturn, 1) := by decide +kernel
theorem dX9_sink_0 : decode cX9_sink 0 = .ok (.aload_n 0, 1) := by decide +kernel
theorem dX9_sink_1 : decode cX9_sink 1 = .ok (.aload_n 0, 1) := by decide +kernel
theorem dX9_sink_2 : decode cX9_sink 2 = .ok (.iload_n 1, 1) := by decide +kernel
theorem dX9_sink_3 : decode cX9_sink 3 = .ok (.iload_n 2, 1) := by decide +kernel
theorem dX9_sink_4 : decode cX9_sink 4 = .ok (.invokevirtual 156, 3) := by decide +kernel
theorem dX9_sink_7 : decode cX9_sink 7 = .ok (.invokevirtual 72, 3) := by decide +kernel
theorem dX9_sink_10 : decode cX9_sink 10 = .ok (.ifCond .eq 13, 3) := by decide +kernel
theorem dX9_sink_13 : decode cX9_sink 13 = .ok (.new 76, 3) := by decide +kernel
theorem dX9_sink_16 : decode cX9_sink 16 = .ok (.dup, 1) := by decide +kernel
theorem dX9_sink_17 : decode cX9_sink 17 = .ok (.ldc 160, 2) := by decide +kernel
theorem dX9_sink_19 : decode cX9_sink 19 = .ok (.invokespecial 80, 3) := by decide +kernel
theorem dX9_sink_22 : decode cX9_sink 22 = .ok (.athrow, 1) := by decide +kernel
theorem dX9_sink_23 : decode cX9_sink 23 = .ok (.aload_n 0, 1) := by decide +kernel
theorem dX9_sink_24 : decode cX9_sink 24 = .ok (.getfield 29, 3) := by decide +kernel
theorem dX9_sink_27 : decode cX9_sink 27 = .ok (.aload_n 0, 1) := by decide +kernel
theorem dX9_sink_28 : decode cX9_sink 28 = .ok (.getfield 12, 3) := by decide +kernel
theorem dX9_sink_31 : decode cX9_sink 31 = .ok (.invokevirtual 83, 3) := by decide +kernel
theorem dX9_sink_34 : decode cX9_sink 34 = .ok (.aload_n 0, 1) := by decide +kernel
theorem dX9_sink_35 : decode cX9_sink 35 = .ok (.getfield 12, 3) := by decide +kernel
theorem dX9_sink_38 : decode cX9_sink 38 = .ok (.iload_n 1, 1) := by decide +kernel
theorem dX9_sink_39 : decode cX9_sink 39 = .ok (.invokevirtual 87, 3) := by decide +kernel
theorem dX9_sink_42 : decode cX9_sink 42 = .ok (.iload_n 2, 1) := by decide +kernel
theorem dX9_sink_43 : decode cX9_sink 43 = .ok (.putfield 162, 3) := by decide +kernel
theorem dX9_sink_46 : decode cX9_sink 46 = .ok (.aload_n 0, 1) := by decide +kernel
theorem dX9_sink_47 : decode cX9_sink 47 = .ok (.getfield 12, 3) := by decide +kernel
theorem dX9_sink_50 : decode cX9_sink 50 = .ok (.iload_n 1, 1) := by decide +kernel
theorem dX9_sink_51 : decode cX9_sink 51 = .ok (.invokevirtual 165, 3) := by decide +kernel
theorem dX9_sink_54 : decode cX9_sink 54 = .ok (.ireturn, 1) := by decide +kernel
theorem dX9_note_0 : decode cX9_note 0 = .ok (.aload_n 0, 1) := by decide +kernel
theorem dX9_note_1 : decode cX9_note 1 = .ok (.aload_n 0, 1) := by decide +kernel
theorem dX9_note_2 : decode cX9_note 2 = .ok (.iload_n 1, 1) := by decide +kernel
theorem dX9_note_3 : decode cX9_note 3 = .ok (.iload_n 2, 1) := by decide +kernel
theorem dX9_note_4 : decode cX9_note 4 = .ok (.invokevirtual 168, 3) := by decide +kernel
theorem dX9_note_7 : decode cX9_note 7 = .ok (.invokevirtual 72, 3) := by decide +kernel
theorem dX9_note_10 : decode cX9_note 10 = .ok (.ifCond .eq 13, 3) := by decide +kernel
theorem dX9_note_13 : decode cX9_note 13 = .ok (.new 76, 3) := by decide +kernel
theorem dX9_note_16 : decode cX9_note 16 = .ok (.dup, 1) := by decide +kernel
theorem dX9_note_17 : decode cX9_note 17 = .ok (.ldc 171, 2) := by decide +kernel
theorem dX9_note_19 : decode cX9_note 19 = .ok (.invokespecial 80, 3) := by decide +kernel
theorem dX9_note_22 : decode cX9_note 22 = .ok (.athrow, 1) := by decide +kernel
theorem dX9_note_23 : decode cX9_note 23 = .ok (.aload_n 0, 1) := by decide +kernel
theorem dX9_note_24 : decode cX9_note 24 = .ok (.getfield 29, 3) := by decide +kernel
theorem dX9_note_27 : decode cX9_note 27 = .ok (.aload_n 0, 1) := by decide +kernel
theorem dX9_note_28 : decode cX9_note 28 = .ok (.getfield 12, 3) := by decide +kernel
theorem dX9_note_31 : decode cX9_note 31 = .ok (.invokevirtual 83, 3) := by decide +kernel
theorem dX9_note_34 : decode cX9_note 34 = .ok (.aload_n 0, 1) := by decide +kernel
theorem dX9_note_35 : decode cX9_note 35 = .ok (.getfield 12, 3) := by decide +kernel
theorem dX9_note_38 : decode cX9_note 38 = .ok (.iload_n 1, 1) := by decide +kernel
theorem dX9_note_39 : decode cX9_note 39 = .ok (.iload_n 2, 1) := by decide +kernel
theorem dX9_note_40 : decode cX9_note 40 = .ok (.invokevirtual 173, 3) := by decide +kernel
theorem dX9_note_43 : decode cX9_note 43 = .ok (.aload_n 0, 1) := by decide +kernel
theorem dX9_note_44 : decode cX9_note 44 = .ok (.getfield 12, 3) := by decide +kernel
theorem dX9_note_47 : decode cX9_note 47 = .ok (.getfield 176, 3) := by decide +kernel
theorem dX9_note_50 : decode cX9_note 50 = .ok (.iconst 1, 1) := by decide +kernel
theorem dX9_note_51 : decode cX9_note 51 = .ok (.isub, 1) := by decide +kernel
theorem dX9_note_52 : decode cX9_note 52 = .ok (.ireturn, 1) := by decide +kernel
theorem dX9_drop_0 : decode cX9_drop 0 = .ok (.aload_n 0, 1) := by decide +kernel
theorem dX9_drop_1 : decode cX9_drop 1 = .ok (.aload_n 0, 1) := by decide +kernel
theorem dX9_drop_2 : decode cX9_drop 2 = .ok (.iload_n 1, 1) := by decide +kernel
theorem dX9_drop_3 : decode cX9_drop 3 = .ok (.invokevirtual 179, 3) := by decide +kernel
theorem dX9_drop_6 : decode cX9_drop 6 = .ok (.invokevirtual 72, 3) := by decide +kernel
theorem dX9_drop_9 : decode cX9_drop 9 = .ok (.ifCond .eq 13, 3) := by decide +kernel
theorem dX9_drop_12 : decode cX9_drop 12 = .ok (.new 76, 3) := by decide +kernel
theorem dX9_drop_15 : decode cX9_drop 15 = .ok (.dup, 1) := by decide +kernel
theorem dX9_drop_16 : decode cX9_drop 16 = .ok (.ldc 182, 2) := by decide +kernel
theorem dX9_drop_18 : decode cX9_drop 18 = .ok (.invokespecial 80, 3) := by decide +kernel
theorem dX9_drop_21 : decode cX9_drop 21 = .ok (.athrow, 1) := by decide +kernel
theorem dX9_drop_22 : decode cX9_drop 22 = .ok (.aload_n 0, 1) := by decide +kernel
theorem dX9_drop_23 : decode cX9_drop 23 = .ok (.getfield 29, 3) := by decide +kernel
theorem dX9_drop_26 : decode cX9_drop 26 = .ok (.aload_n 0, 1) := by decide +kernel
theorem dX9_drop_27 : decode cX9_drop 27 = .ok (.getfield 12, 3) := by decide +kernel
theorem dX9_drop_30 : decode cX9_drop 30 = .ok (.invokevirtual 83, 3) := by decide +kernel
theorem dX9_drop_33 : decode cX9_drop 33 = .ok (.aload_n 0, 1) := by decide +kernel
theorem dX9_drop_34 : decode cX9_drop 34 = .ok (.getfield 12, 3) := by decide +kernel
theorem dX9_drop_37 : decode cX9_drop 37 = .ok (.iload_n 1, 1) := by decide +kernel
theorem dX9_drop_38 : decode cX9_drop 38 = .ok (.invokevirtual 184, 3) := by decide +kernel
theorem dX9_drop_41 : decode cX9_drop 41 = .ok (.aload_n 0, 1) := by decide +kernel
theorem dX9_drop_42 : decode cX9_drop 42 = .ok (.getfield 12, 3) := by decide +kernel
theorem dX9_drop_45 : decode cX9_drop 45 = .ok (.getfield 176, 3) := by decide +kernel
theorem dX9_drop_48 : decode cX9_drop 48 = .ok (.ireturn, 1) := by decide +kernel
theorem dX9_kindOf_0 : decode cX9_kindOf 0 = .ok (.iload_n 1, 1) := by decide +kernel
theorem dX9_kindOf_1 : decode cX9_kindOf 1 = .ok (.invokestatic 187, 3) := by decide +kernel
theorem dX9_kindOf_4 : decode cX9_kindOf 4 = .ok (.ifCond .eq 10, 3) := by decide +kernel
theorem dX9_kindOf_7 : decode cX9_kindOf 7 = .ok (.iload_n 2, 1) := by decide +kernel
theorem dX9_kindOf_8 : decode cX9_kindOf 8 = .ok (.invokestatic 190, 3) := by decide +kernel
theorem dX9_kindOf_11 : decode cX9_kindOf 11 = .ok (.ifCond .ne 13, 3) := by decide +kernel
theorem dX9_kindOf_14 : decode cX9_kindOf 14 = .ok (.new 193, 3) := by decide +kernel
theorem dX9_kindOf_17 : decode cX9_kindOf 17 = .ok (.dup, 1) := by decide +kernel
theorem dX9_kindOf_18 : decode cX9_kindOf 18 = .ok (.ldc 195, 2) := by decide +kernel
theorem dX9_kindOf_20 : decode cX9_kindOf 20 = .ok (.invokespecial 197, 3) := by decide +kernel
theorem dX9_kindOf_23 : decode cX9_kindOf 23 = .ok (.athrow, 1) := by decide +kernel
theorem dX9_kindOf_24 : decode cX9_kindOf 24 = .ok (.aload_n 0, 1) := by decide +kernel
theorem dX9_kindOf_25 : decode cX9_kindOf 25 = .ok (.getfield 12, 3) := by decide +kernel
theorem dX9_kindOf_28 : decode cX9_kindOf 28 = .ok (.iload_n 1, 1) := by decide +kernel
theorem dX9_kindOf_29 : decode cX9_kindOf 29 = .ok (.invokevirtual 87, 3) := by decide +kernel
theorem dX9_kindOf_32 : decode cX9_kindOf 32 = .ok (.iload_n 2, 1) := by decide +kernel
theorem dX9_kindOf_33 : decode cX9_kindOf 33 = .ok (.invokevirtual 91, 3) := by decide +kernel
theorem dX9_kindOf_36 : decode cX9_kindOf 36 = .ok (.ireturn, 1) := by decide +kernel
theorem dX9_isTorn_0 : decode cX9_isTorn 0 = .ok (.iload_n 1, 1) := by decide +kernel
theorem dX9_isTorn_1 : decode cX9_isTorn 1 = .ok (.invokestatic 187, 3) := by decide +kernel
theorem dX9_isTorn_4 : decode cX9_isTorn 4 = .ok (.ifCond .eq 17, 3) := by decide +kernel
theorem dX9_isTorn_7 : decode cX9_isTorn 7 = .ok (.iload_n 2, 1) := by decide +kernel
theorem dX9_isTorn_8 : decode cX9_isTorn 8 = .ok (.invokestatic 190, 3) := by decide +kernel
theorem dX9_isTorn_11 : decode cX9_isTorn 11 = .ok (.ifCond .eq 10, 3) := by decide +kernel
theorem dX9_isTorn_14 : decode cX9_isTorn 14 = .ok (.iload_n 3, 1) := by decide +kernel
theorem dX9_isTorn_15 : decode cX9_isTorn 15 = .ok (.invokestatic 190, 3) := by decide +kernel
theorem dX9_isTorn_18 : decode cX9_isTorn 18 = .ok (.ifCond .ne 13, 3) := by decide +kernel
theorem dX9_isTorn_21 : decode cX9_isTorn 21 = .ok (.new 193, 3) := by decide +kernel
theorem dX9_isTorn_24 : decode cX9_isTorn 24 = .ok (.dup, 1) := by decide +kernel
theorem dX9_isTorn_25 : decode cX9_isTorn 25 = .ok (.ldc 195, 2) := by decide +kernel
theorem dX9_isTorn_27 : decode cX9_isTorn 27 = .ok (.invokespecial 197, 3) := by decide +kernel
theorem dX9_isTorn_30 : decode cX9_isTorn 30 = .ok (.athrow, 1) := by decide +kernel
theorem dX9_isTorn_31 : decode cX9_isTorn 31 = .ok (.iload_n 2, 1) := by decide +kernel
theorem dX9_isTorn_32 : decode cX9_isTorn 32 = .ok (.iload_n 3, 1) := by decide +kernel
theorem dX9_isTorn_33 : decode cX9_isTorn 33 = .ok (.invokestatic 198, 3) := by decide +kernel
theorem dX9_isTorn_36 : decode cX9_isTorn 36 = .ok (.ifCond .ne 13, 3) := by decide +kernel
theorem dX9_isTorn_39 : decode cX9_isTorn 39 = .ok (.new 202, 3) := by decide +kernel
theorem dX9_isTorn_42 : decode cX9_isTorn 42 = .ok (.dup, 1) := by decide +kernel
theorem dX9_isTorn_43 : decode cX9_isTorn 43 = .ok (.ldc 204, 2) := by decide +kernel
theorem dX9_isTorn_45 : decode cX9_isTorn 45 = .ok (.invokespecial 206, 3) := by decide +kernel
theorem dX9_isTorn_48 : decode cX9_isTorn 48 = .ok (.athrow, 1) := by decide +kernel
theorem dX9_isTorn_49 : decode cX9_isTorn 49 = .ok (.aload_n 0, 1) := by decide +kernel
theorem dX9_isTorn_50 : decode cX9_isTorn 50 = .ok (.getfield 12, 3) := by decide +kernel
theorem dX9_isTorn_53 : decode cX9_isTorn 53 = .ok (.iload_n 1, 1) := by decide +kernel
theorem dX9_isTorn_54 : decode cX9_isTorn 54 = .ok (.invokevirtual 87, 3) := by decide +kernel
theorem dX9_isTorn_57 : decode cX9_isTorn 57 = .ok (.iload_n 2, 1) := by decide +kernel
theorem dX9_isTorn_58 : decode cX9_isTorn 58 = .ok (.iload_n 3, 1) := by decide +kernel
theorem dX9_isTorn_59 : decode cX9_isTorn 59 = .ok (.invokevirtual 207, 3) := by decide +kernel
theorem dX9_isTorn_62 : decode cX9_isTorn 62 = .ok (.ireturn, 1) := by decide +kernel
theorem dX9_netOf_0 : decode cX9_netOf 0 = .ok (.iload_n 1, 1) := by decide +kernel
theorem dX9_netOf_1 : decode cX9_netOf 1 = .ok (.invokestatic 187, 3) := by decide +kernel
theorem dX9_netOf_4 : decode cX9_netOf 4 = .ok (.ifCond .ne 13, 3) := by decide +kernel
theorem dX9_netOf_7 : decode cX9_netOf 7 = .ok (.new 193, 3) := by decide +kernel
theorem dX9_netOf_10 : decode cX9_netOf 10 = .ok (.dup, 1) := by decide +kernel
theorem dX9_netOf_11 : decode cX9_netOf 11 = .ok (.ldc 210, 2) := by decide +kernel
theorem dX9_netOf_13 : decode cX9_netOf 13 = .ok (.invokespecial 197, 3) := by decide +kernel
theorem dX9_netOf_16 : decode cX9_netOf 16 = .ok (.athrow, 1) := by decide +kernel
theorem dX9_netOf_17 : decode cX9_netOf 17 = .ok (.aload_n 0, 1) := by decide +kernel
theorem dX9_netOf_18 : decode cX9_netOf 18 = .ok (.getfield 12, 3) := by decide +kernel
theorem dX9_netOf_21 : decode cX9_netOf 21 = .ok (.iload_n 1, 1) := by decide +kernel
theorem dX9_netOf_22 : decode cX9_netOf 22 = .ok (.invokevirtual 87, 3) := by decide +kernel
theorem dX9_netOf_25 : decode cX9_netOf 25 = .ok (.astore_n 3, 1) := by decide +kernel
theorem dX9_netOf_26 : decode cX9_netOf 26 = .ok (.iload_n 2, 1) := by decide +kernel
theorem dX9_netOf_27 : decode cX9_netOf 27 = .ok (.tableswitch 102 0 6 #[41, 49, 66, 71, 76, 85, 97], 41) := by decide +kernel
theorem dX9_netOf_68 : decode cX9_netOf 68 = .ok (.aload_n 3, 1) := by decide +kernel
theorem dX9_netOf_69 : decode cX9_netOf 69 = .ok (.invokevirtual 212, 3) := by decide +kernel
theorem dX9_netOf_72 : decode cX9_netOf 72 = .ok (.invokestatic 215, 3) := by decide +kernel
theorem dX9_netOf_75 : decode cX9_netOf 75 = .ok (.ireturn, 1) := by decide +kernel
theorem dX9_netOf_76 : decode cX9_netOf 76 = .ok (.aload_n 3, 1) := by decide +kernel
theorem dX9_netOf_77 : decode cX9_netOf 77 = .ok (.invokevirtual 212, 3) := by decide +kernel
theorem dX9_netOf_80 : decode cX9_netOf 80 = .ok (.aload_n 0, 1) := by decide +kernel
theorem dX9_netOf_81 : decode cX9_netOf 81 = .ok (.getfield 12, 3) := by decide +kernel
theorem dX9_netOf_84 : decode cX9_netOf 84 = .ok (.iload_n 1, 1) := by decide +kernel
theorem dX9_netOf_85 : decode cX9_netOf 85 = .ok (.invokevirtual 220, 3) := by decide +kernel
theorem dX9_netOf_88 : decode cX9_netOf 88 = .ok (.iand, 1) := by decide +kernel
theorem dX9_netOf_89 : decode cX9_netOf 89 = .ok (.invokestatic 215, 3) := by decide +kernel
theorem dX9_netOf_92 : decode cX9_netOf 92 = .ok (.ireturn, 1) := by decide +kernel
theorem dX9_netOf_93 : decode cX9_netOf 93 = .ok (.aload_n 3, 1) := by decide +kernel
theorem dX9_netOf_94 : decode cX9_netOf 94 = .ok (.invokevirtual 223, 3) := by decide +kernel
theorem dX9_netOf_97 : decode cX9_netOf 97 = .ok (.ireturn, 1) := by decide +kernel
theorem dX9_netOf_98 : decode cX9_netOf 98 = .ok (.aload_n 3, 1) := by decide +kernel
theorem dX9_netOf_99 : decode cX9_netOf 99 = .ok (.getfield 162, 3) := by decide +kernel
theorem dX9_netOf_102 : decode cX9_netOf 102 = .ok (.ireturn, 1) := by decide +kernel
theorem dX9_netOf_103 : decode cX9_netOf 103 = .ok (.aload_n 0, 1) := by decide +kernel
theorem dX9_netOf_104 : decode cX9_netOf 104 = .ok (.getfield 12, 3) := by decide +kernel
theorem dX9_netOf_107 : decode cX9_netOf 107 = .ok (.iload_n 1, 1) := by decide +kernel
theorem dX9_netOf_108 : decode cX9_netOf 108 = .ok (.invokevirtual 165, 3) := by decide +kernel
theorem dX9_netOf_111 : decode cX9_netOf 111 = .ok (.ireturn, 1) := by decide +kernel
theorem dX9_netOf_112 : decode cX9_netOf 112 = .ok (.aload_n 3, 1) := by decide +kernel
theorem dX9_netOf_113 : decode cX9_netOf 113 = .ok (.aload_n 3, 1) := by decide +kernel
theorem dX9_netOf_114 : decode cX9_netOf 114 = .ok (.invokevirtual 212, 3) := by decide +kernel
theorem dX9_netOf_117 : decode cX9_netOf 117 = .ok (.invokevirtual 226, 3) := by decide +kernel
theorem dX9_netOf_120 : decode cX9_netOf 120 = .ok (.invokestatic 215, 3) := by decide +kernel
theorem dX9_netOf_123 : decode cX9_netOf 123 = .ok (.ireturn, 1) := by decide +kernel
theorem dX9_netOf_124 : decode cX9_netOf 124 = .ok (.aload_n 3, 1) := by decide +kernel
theorem dX9_netOf_125 : decode cX9_netOf 125 = .ok (.invokevirtual 229, 3) := by decide +kernel
theorem dX9_netOf_128 : decode cX9_netOf 128 = .ok (.ireturn, 1) := by decide +kernel
theorem dX9_netOf_129 : decode cX9_netOf 129 = .ok (.new 232, 3) := by decide +kernel
theorem dX9_netOf_132 : decode cX9_netOf 132 = .ok (.dup, 1) := by decide +kernel
theorem dX9_netOf_133 : decode cX9_netOf 133 = .ok (.ldc 234, 2) := by decide +kernel
theorem dX9_netOf_135 : decode cX9_netOf 135 = .ok (.invokespecial 236, 3) := by decide +kernel
theorem dX9_netOf_138 : decode cX9_netOf 138 = .ok (.athrow, 1) := by decide +kernel
theorem dX9_chapters_0 : decode cX9_chapters 0 = .ok (.iload_n 1, 1) := by decide +kernel
theorem dX9_chapters_1 : decode cX9_chapters 1 = .ok (.invokestatic 187, 3) := by decide +kernel
theorem dX9_chapters_4 : decode cX9_chapters 4 = .ok (.ifCond .ne 13, 3) := by decide +kernel
theorem dX9_chapters_7 : decode cX9_chapters 7 = .ok (.new 193, 3) := by decide +kernel
theorem dX9_chapters_10 : decode cX9_chapters 10 = .ok (.dup, 1) := by decide +kernel
theorem dX9_chapters_11 : decode cX9_chapters 11 = .ok (.ldc 210, 2) := by decide +kernel
theorem dX9_chapters_13 : decode cX9_chapters 13 = .ok (.invokespecial 197, 3) := by decide +kernel
theorem dX9_chapters_16 : decode cX9_chapters 16 = .ok (.athrow, 1) := by decide +kernel
theorem dX9_chapters_17 : decode cX9_chapters 17 = .ok (.aload_n 0, 1) := by decide +kernel
theorem dX9_chapters_18 : decode cX9_chapters 18 = .ok (.getfield 12, 3) := by decide +kernel
theorem dX9_chapters_21 : decode cX9_chapters 21 = .ok (.iload_n 1, 1) := by decide +kernel
theorem dX9_chapters_22 : decode cX9_chapters 22 = .ok (.invokevirtual 87, 3) := by decide +kernel
theorem dX9_chapters_25 : decode cX9_chapters 25 = .ok (.invokevirtual 110, 3) := by decide +kernel
theorem dX9_chapters_28 : decode cX9_chapters 28 = .ok (.ireturn, 1) := by decide +kernel
theorem dX9_chaptersAgain_0 : decode cX9_chaptersAgain 0 = .ok (.iload_n 1, 1) := by decide +kernel
theorem dX9_chaptersAgain_1 : decode cX9_chaptersAgain 1 = .ok (.invokestatic 187, 3) := by decide +kernel
theorem dX9_chaptersAgain_4 : decode cX9_chaptersAgain 4 = .ok (.ifCond .ne 13, 3) := by decide +kernel
theorem dX9_chaptersAgain_7 : decode cX9_chaptersAgain 7 = .ok (.new 193, 3) := by decide +kernel
theorem dX9_chaptersAgain_10 : decode cX9_chaptersAgain 10 = .ok (.dup, 1) := by decide +kernel
theorem dX9_chaptersAgain_11 : decode cX9_chaptersAgain 11 = .ok (.ldc 210, 2) := by decide +kernel
theorem dX9_chaptersAgain_13 : decode cX9_chaptersAgain 13 = .ok (.invokespecial 197, 3) := by decide +kernel
theorem dX9_chaptersAgain_16 : decode cX9_chaptersAgain 16 = .ok (.athrow, 1) := by decide +kernel
theorem dX9_chaptersAgain_17 : decode cX9_chaptersAgain 17 = .ok (.aload_n 0, 1) := by decide +kernel
theorem dX9_chaptersAgain_18 : decode cX9_chaptersAgain 18 = .ok (.getfield 12, 3) := by decide +kernel
theorem dX9_chaptersAgain_21 : decode cX9_chaptersAgain 21 = .ok (.iload_n 1, 1) := by decide +kernel
theorem dX9_chaptersAgain_22 : decode cX9_chaptersAgain 22 = .ok (.invokevirtual 87, 3) := by decide +kernel
theorem dX9_chaptersAgain_25 : decode cX9_chaptersAgain 25 = .ok (.aload_n 0, 1) := by decide +kernel
theorem dX9_chaptersAgain_26 : decode cX9_chaptersAgain 26 = .ok (.getfield 36, 3) := by decide +kernel
theorem dX9_chaptersAgain_29 : decode cX9_chaptersAgain 29 = .ok (.invokevirtual 237, 3) := by decide +kernel
theorem dX9_chaptersAgain_32 : decode cX9_chaptersAgain 32 = .ok (.ireturn, 1) := by decide +kernel
theorem dX9_chapterOf_0 : decode cX9_chapterOf 0 = .ok (.iload_n 1, 1) := by decide +kernel
theorem dX9_chapterOf_1 : decode cX9_chapterOf 1 = .ok (.invokestatic 187, 3) := by decide +kernel
theorem dX9_chapterOf_4 : decode cX9_chapterOf 4 = .ok (.ifCond .eq 10, 3) := by decide +kernel
theorem dX9_chapterOf_7 : decode cX9_chapterOf 7 = .ok (.iload_n 2, 1) := by decide +kernel
theorem dX9_chapterOf_8 : decode cX9_chapterOf 8 = .ok (.invokestatic 190, 3) := by decide +kernel
theorem dX9_chapterOf_11 : decode cX9_chapterOf 11 = .ok (.ifCond .ne 13, 3) := by decide +kernel
theorem dX9_chapterOf_14 : decode cX9_chapterOf 14 = .ok (.new 193, 3) := by decide +kernel
theorem dX9_chapterOf_17 : decode cX9_chapterOf 17 = .ok (.dup, 1) := by decide +kernel
theorem dX9_chapterOf_18 : decode cX9_chapterOf 18 = .ok (.ldc 195, 2) := by decide +kernel
theorem dX9_chapterOf_20 : decode cX9_chapterOf 20 = .ok (.invokespecial 197, 3) := by decide +kernel
theorem dX9_chapterOf_23 : decode cX9_chapterOf 23 = .ok (.athrow, 1) := by decide +kernel
theorem dX9_chapterOf_24 : decode cX9_chapterOf 24 = .ok (.iload_n 3, 1) := by decide +kernel
theorem dX9_chapterOf_25 : decode cX9_chapterOf 25 = .ok (.ifCond .lt 8, 3) := by decide +kernel
theorem dX9_chapterOf_28 : decode cX9_chapterOf 28 = .ok (.iload_n 3, 1) := by decide +kernel
theorem dX9_chapterOf_29 : decode cX9_chapterOf 29 = .ok (.iconst 3, 1) := by decide +kernel
theorem dX9_chapterOf_30 : decode cX9_chapterOf 30 = .ok (.if_icmp .le 13, 3) := by decide +kernel
theorem dX9_chapterOf_33 : decode cX9_chapterOf 33 = .ok (.new 232, 3) := by decide +kernel
theorem dX9_chapterOf_36 : decode cX9_chapterOf 36 = .ok (.dup, 1) := by decide +kernel
theorem dX9_chapterOf_37 : decode cX9_chapterOf 37 = .ok (.ldc 234, 2) := by decide +kernel
theorem dX9_chapterOf_39 : decode cX9_chapterOf 39 = .ok (.invokespecial 236, 3) := by decide +kernel
theorem dX9_chapterOf_42 : decode cX9_chapterOf 42 = .ok (.athrow, 1) := by decide +kernel
theorem dX9_chapterOf_43 : decode cX9_chapterOf 43 = .ok (.aload_n 0, 1) := by decide +kernel
theorem dX9_chapterOf_44 : decode cX9_chapterOf 44 = .ok (.getfield 12, 3) := by decide +kernel
theorem dX9_chapterOf_47 : decode cX9_chapterOf 47 = .ok (.iload_n 1, 1) := by decide +kernel
theorem dX9_chapterOf_48 : decode cX9_chapterOf 48 = .ok (.invokevirtual 87, 3) := by decide +kernel
theorem dX9_chapterOf_51 : decode cX9_chapterOf 51 = .ok (.iload_n 2, 1) := by decide +kernel
theorem dX9_chapterOf_52 : decode cX9_chapterOf 52 = .ok (.invokevirtual 241, 3) := by decide +kernel
theorem dX9_chapterOf_55 : decode cX9_chapterOf 55 = .ok (.istore 4, 2) := by decide +kernel
theorem dX9_chapterOf_57 : decode cX9_chapterOf 57 = .ok (.iload 4, 2) := by decide +kernel
theorem dX9_chapterOf_59 : decode cX9_chapterOf 59 = .ok (.ifCond .ne 13, 3) := by decide +kernel
theorem dX9_chapterOf_62 : decode cX9_chapterOf 62 = .ok (.new 202, 3) := by decide +kernel
theorem dX9_chapterOf_65 : decode cX9_chapterOf 65 = .ok (.dup, 1) := by decide +kernel
theorem dX9_chapterOf_66 : decode cX9_chapterOf 66 = .ok (.ldc 244, 2) := by decide +kernel
theorem dX9_chapterOf_68 : decode cX9_chapterOf 68 = .ok (.invokespecial 206, 3) := by decide +kernel
theorem dX9_chapterOf_71 : decode cX9_chapterOf 71 = .ok (.athrow, 1) := by decide +kernel
theorem dX9_chapterOf_72 : decode cX9_chapterOf 72 = .ok (.iload_n 3, 1) := by decide +kernel
theorem dX9_chapterOf_73 : decode cX9_chapterOf 73 = .ok (.tableswitch 54 0 2 #[27, 33, 39], 27) := by decide +kernel
theorem dX9_chapterOf_100 : decode cX9_chapterOf 100 = .ok (.iload 4, 2) := by decide +kernel
theorem dX9_chapterOf_102 : decode cX9_chapterOf 102 = .ok (.invokestatic 246, 3) := by decide +kernel
theorem dX9_chapterOf_105 : decode cX9_chapterOf 105 = .ok (.ireturn, 1) := by decide +kernel
theorem dX9_chapterOf_106 : decode cX9_chapterOf 106 = .ok (.iload 4, 2) := by decide +kernel
theorem dX9_chapterOf_108 : decode cX9_chapterOf 108 = .ok (.invokestatic 215, 3) := by decide +kernel
theorem dX9_chapterOf_111 : decode cX9_chapterOf 111 = .ok (.ireturn, 1) := by decide +kernel
theorem dX9_chapterOf_112 : decode cX9_chapterOf 112 = .ok (.iload 4, 2) := by decide +kernel
theorem dX9_chapterOf_114 : decode cX9_chapterOf 114 = .ok (.aload_n 0, 1) := by decide +kernel
theorem dX9_chapterOf_115 : decode cX9_chapterOf 115 = .ok (.getfield 12, 3) := by decide +kernel
theorem dX9_chapterOf_118 : decode cX9_chapterOf 118 = .ok (.iload_n 1, 1) := by decide +kernel
theorem dX9_chapterOf_119 : decode cX9_chapterOf 119 = .ok (.invokevirtual 220, 3) := by decide +kernel
theorem dX9_chapterOf_122 : decode cX9_chapterOf 122 = .ok (.iand, 1) := by decide +kernel
theorem dX9_chapterOf_123 : decode cX9_chapterOf 123 = .ok (.invokestatic 215, 3) := by decide +kernel
theorem dX9_chapterOf_126 : decode cX9_chapterOf 126 = .ok (.ireturn, 1) := by decide +kernel
theorem dX9_chapterOf_127 : decode cX9_chapterOf 127 = .ok (.aload_n 0, 1) := by decide +kernel
theorem dX9_chapterOf_128 : decode cX9_chapterOf 128 = .ok (.getfield 12, 3) := by decide +kernel
theorem dX9_chapterOf_131 : decode cX9_chapterOf 131 = .ok (.iload_n 1, 1) := by decide +kernel
theorem dX9_chapterOf_132 : decode cX9_chapterOf 132 = .ok (.invokevirtual 87, 3) := by decide +kernel
theorem dX9_chapterOf_135 : decode cX9_chapterOf 135 = .ok (.iload 4, 2) := by decide +kernel
theorem dX9_chapterOf_137 : decode cX9_chapterOf 137 = .ok (.invokevirtual 249, 3) := by decide +kernel
theorem dX9_chapterOf_140 : decode cX9_chapterOf 140 = .ok (.ireturn, 1) := by decide +kernel
theorem dX9_noteOf_0 : decode cX9_noteOf 0 = .ok (.aload_n 0, 1) := by decide +kernel
theorem dX9_noteOf_1 : decode cX9_noteOf 1 = .ok (.getfield 12, 3) := by decide +kernel
theorem dX9_noteOf_4 : decode cX9_noteOf 4 = .ok (.iload_n 1, 1) := by decide +kernel
theorem dX9_noteOf_5 : decode cX9_noteOf 5 = .ok (.invokevirtual 252, 3) := by decide +kernel
theorem dX9_noteOf_8 : decode cX9_noteOf 8 = .ok (.ifCond .ne 13, 3) := by decide +kernel
theorem dX9_noteOf_11 : decode cX9_noteOf 11 = .ok (.new 193, 3) := by decide +kernel
theorem dX9_noteOf_14 : decode cX9_noteOf 14 = .ok (.dup, 1) := by decide +kernel
theorem dX9_noteOf_15 : decode cX9_noteOf 15 = .ok (.ldc 255, 2) := by decide +kernel
theorem dX9_noteOf_17 : decode cX9_noteOf 17 = .ok (.invokespecial 197, 3) := by decide +kernel
theorem dX9_noteOf_20 : decode cX9_noteOf 20 = .ok (.athrow, 1) := by decide +kernel
theorem dX9_noteOf_21 : decode cX9_noteOf 21 = .ok (.aload_n 0, 1) := by decide +kernel
theorem dX9_noteOf_22 : decode cX9_noteOf 22 = .ok (.getfield 12, 3) := by decide +kernel
theorem dX9_noteOf_25 : decode cX9_noteOf 25 = .ok (.iload_n 1, 1) := by decide +kernel
theorem dX9_noteOf_26 : decode cX9_noteOf 26 = .ok (.invokevirtual 257, 3) := by decide +kernel
theorem dX9_noteOf_29 : decode cX9_noteOf 29 = .ok (.astore_n 3, 1) := by decide +kernel
theorem dX9_noteOf_30 : decode cX9_noteOf 30 = .ok (.iload_n 2, 1) := by decide +kernel
theorem dX9_noteOf_31 : decode cX9_noteOf 31 = .ok (.tableswitch 67 0 3 #[29, 34, 42, 50], 29) := by decide +kernel
theorem dX9_noteOf_60 : decode cX9_noteOf 60 = .ok (.aload_n 3, 1) := by decide +kernel
theorem dX9_noteOf_61 : decode cX9_noteOf 61 = .ok (.getfield 261, 3) := by decide +kernel
theorem dX9_noteOf_64 : decode cX9_noteOf 64 = .ok (.ireturn, 1) := by decide +kernel
theorem dX9_noteOf_65 : decode cX9_noteOf 65 = .ok (.aload_n 3, 1) := by decide +kernel
theorem dX9_noteOf_66 : decode cX9_noteOf 66 = .ok (.invokevirtual 266, 3) := by decide +kernel
theorem dX9_noteOf_69 : decode cX9_noteOf 69 = .ok (.invokestatic 246, 3) := by decide +kernel
theorem dX9_noteOf_72 : decode cX9_noteOf 72 = .ok (.ireturn, 1) := by decide +kernel
theorem dX9_noteOf_73 : decode cX9_noteOf 73 = .ok (.aload_n 3, 1) := by decide +kernel
theorem dX9_noteOf_74 : decode cX9_noteOf 74 = .ok (.invokevirtual 266, 3) := by decide +kernel
theorem dX9_noteOf_77 : decode cX9_noteOf 77 = .ok (.invokestatic 215, 3) := by decide +kernel
theorem dX9_noteOf_80 : decode cX9_noteOf 80 = .ok (.ireturn, 1) := by decide +kernel
theorem dX9_noteOf_81 : decode cX9_noteOf 81 = .ok (.aload_n 0, 1) := by decide +kernel
theorem dX9_noteOf_82 : decode cX9_noteOf 82 = .ok (.getfield 12, 3) := by decide +kernel
theorem dX9_noteOf_85 : decode cX9_noteOf 85 = .ok (.aload_n 3, 1) := by decide +kernel
theorem dX9_noteOf_86 : decode cX9_noteOf 86 = .ok (.invokevirtual 269, 3) := by decide +kernel
theorem dX9_noteOf_89 : decode cX9_noteOf 89 = .ok (.ifCond .eq 7, 3) := by decide +kernel
theorem dX9_noteOf_92 : decode cX9_noteOf 92 = .ok (.iconst 1, 1) := by decide +kernel
theorem dX9_noteOf_93 : decode cX9_noteOf 93 = .ok (.goto 4, 3) := by decide +kernel
theorem dX9_noteOf_96 : decode cX9_noteOf 96 = .ok (.iconst 0, 1) := by decide +kernel
theorem dX9_noteOf_97 : decode cX9_noteOf 97 = .ok (.ireturn, 1) := by decide +kernel
theorem dX9_noteOf_98 : decode cX9_noteOf 98 = .ok (.new 232, 3) := by decide +kernel
theorem dX9_noteOf_101 : decode cX9_noteOf 101 = .ok (.dup, 1) := by decide +kernel
theorem dX9_noteOf_102 : decode cX9_noteOf 102 = .ok (.ldc 234, 2) := by decide +kernel
theorem dX9_noteOf_104 : decode cX9_noteOf 104 = .ok (.invokespecial 236, 3) := by decide +kernel
theorem dX9_noteOf_107 : decode cX9_noteOf 107 = .ok (.athrow, 1) := by decide +kernel
theorem dX9_least_0 : decode cX9_least 0 = .ok (.aload_n 0, 1) := by decide +kernel
theorem dX9_least_1 : decode cX9_least 1 = .ok (.getfield 12, 3) := by decide +kernel
theorem dX9_least_4 : decode cX9_least 4 = .ok (.iload_n 1, 1) := by decide +kernel
theorem dX9_least_5 : decode cX9_least 5 = .ok (.invokevirtual 252, 3) := by decide +kernel
theorem dX9_least_8 : decode cX9_least 8 = .ok (.ifCond .ne 13, 3) := by decide +kernel
theorem dX9_least_11 : decode cX9_least 11 = .ok (.new 193, 3) := by decide +kernel
theorem dX9_least_14 : decode cX9_least 14 = .ok (.dup, 1) := by decide +kernel
theorem dX9_least_15 : decode cX9_least 15 = .ok (.ldc 255, 2) := by decide +kernel
theorem dX9_least_17 : decode cX9_least 17 = .ok (.invokespecial 197, 3) := by decide +kernel
theorem dX9_least_20 : decode cX9_least 20 = .ok (.athrow, 1) := by decide +kernel
theorem dX9_least_21 : decode cX9_least 21 = .ok (.aload_n 0, 1) := by decide +kernel
theorem dX9_least_22 : decode cX9_least 22 = .ok (.getfield 12, 3) := by decide +kernel
theorem dX9_least_25 : decode cX9_least 25 = .ok (.iload_n 1, 1) := by decide +kernel
theorem dX9_least_26 : decode cX9_least 26 = .ok (.invokevirtual 257, 3) := by decide +kernel
theorem dX9_least_29 : decode cX9_least 29 = .ok (.astore_n 2, 1) := by decide +kernel
theorem dX9_least_30 : decode cX9_least 30 = .ok (.aload_n 0, 1) := by decide +kernel
theorem dX9_least_31 : decode cX9_least 31 = .ok (.getfield 12, 3) := by decide +kernel
theorem dX9_least_34 : decode cX9_least 34 = .ok (.aload_n 2, 1) := by decide +kernel
theorem dX9_least_35 : decode cX9_least 35 = .ok (.invokevirtual 273, 3) := by decide +kernel
theorem dX9_least_38 : decode cX9_least 38 = .ok (.ifCond .ne 14, 3) := by decide +kernel
theorem dX9_least_41 : decode cX9_least 41 = .ok (.new 202, 3) := by decide +kernel
theorem dX9_least_44 : decode cX9_least 44 = .ok (.dup, 1) := by decide +kernel
theorem dX9_least_45 : decode cX9_least 45 = .ok (.ldc_w 276, 3) := by decide +kernel
theorem dX9_least_48 : decode cX9_least 48 = .ok (.invokespecial 206, 3) := by decide +kernel
theorem dX9_least_51 : decode cX9_least 51 = .ok (.athrow, 1) := by decide +kernel
theorem dX9_least_52 : decode cX9_least 52 = .ok (.aload_n 0, 1) := by decide +kernel
theorem dX9_least_53 : decode cX9_least 53 = .ok (.getfield 12, 3) := by decide +kernel
theorem dX9_least_56 : decode cX9_least 56 = .ok (.aload_n 2, 1) := by decide +kernel
theorem dX9_least_57 : decode cX9_least 57 = .ok (.aload_n 0, 1) := by decide +kernel
theorem dX9_least_58 : decode cX9_least 58 = .ok (.getfield 36, 3) := by decide +kernel
theorem dX9_least_61 : decode cX9_least 61 = .ok (.invokevirtual 278, 3) := by decide +kernel
theorem dX9_least_64 : decode cX9_least 64 = .ok (.ireturn, 1) := by decide +kernel
theorem dX9_leastAgain_0 : decode cX9_leastAgain 0 = .ok (.aload_n 0, 1) := by decide +kernel
theorem dX9_leastAgain_1 : decode cX9_leastAgain 1 = .ok (.getfield 12, 3) := by decide +kernel
theorem dX9_leastAgain_4 : decode cX9_leastAgain 4 = .ok (.iload_n 1, 1) := by decide +kernel
theorem dX9_leastAgain_5 : decode cX9_leastAgain 5 = .ok (.invokevirtual 252, 3) := by decide +kernel
theorem dX9_leastAgain_8 : decode cX9_leastAgain 8 = .ok (.ifCond .ne 13, 3) := by decide +kernel
theorem dX9_leastAgain_11 : decode cX9_leastAgain 11 = .ok (.new 193, 3) := by decide +kernel
theorem dX9_leastAgain_14 : decode cX9_leastAgain 14 = .ok (.dup, 1) := by decide +kernel
theorem dX9_leastAgain_15 : decode cX9_leastAgain 15 = .ok (.ldc 255, 2) := by decide +kernel
theorem dX9_leastAgain_17 : decode cX9_leastAgain 17 = .ok (.invokespecial 197, 3) := by decide +kernel
theorem dX9_leastAgain_20 : decode cX9_leastAgain 20 = .ok (.athrow, 1) := by decide +kernel
theorem dX9_leastAgain_21 : decode cX9_leastAgain 21 = .ok (.aload_n 0, 1) := by decide +kernel
theorem dX9_leastAgain_22 : decode cX9_leastAgain 22 = .ok (.getfield 12, 3) := by decide +kernel
theorem dX9_leastAgain_25 : decode cX9_leastAgain 25 = .ok (.iload_n 1, 1) := by decide +kernel
theorem dX9_leastAgain_26 : decode cX9_leastAgain 26 = .ok (.invokevirtual 257, 3) := by decide +kernel
theorem dX9_leastAgain_29 : decode cX9_leastAgain 29 = .ok (.astore_n 2, 1) := by decide +kernel
theorem dX9_leastAgain_30 : decode cX9_leastAgain 30 = .ok (.aload_n 0, 1) := by decide +kernel
theorem dX9_leastAgain_31 : decode cX9_leastAgain 31 = .ok (.getfield 12, 3) := by decide +kernel
theorem dX9_leastAgain_34 : decode cX9_leastAgain 34 = .ok (.aload_n 2, 1) := by decide +kernel
theorem dX9_leastAgain_35 : decode cX9_leastAgain 35 = .ok (.invokevirtual 273, 3) := by decide +kernel
theorem dX9_leastAgain_38 : decode cX9_leastAgain 38 = .ok (.ifCond .ne 14, 3) := by decide +kernel
theorem dX9_leastAgain_41 : decode cX9_leastAgain 41 = .ok (.new 202, 3) := by decide +kernel
theorem dX9_leastAgain_44 : decode cX9_leastAgain 44 = .ok (.dup, 1) := by decide +kernel
theorem dX9_leastAgain_45 : decode cX9_leastAgain 45 = .ok (.ldc_w 276, 3) := by decide +kernel
theorem dX9_leastAgain_48 : decode cX9_leastAgain 48 = .ok (.invokespecial 206, 3) := by decide +kernel
theorem dX9_leastAgain_51 : decode cX9_leastAgain 51 = .ok (.athrow, 1) := by decide +kernel
theorem dX9_leastAgain_52 : decode cX9_leastAgain 52 = .ok (.aload_n 0, 1) := by decide +kernel
theorem dX9_leastAgain_53 : decode cX9_leastAgain 53 = .ok (.getfield 12, 3) := by decide +kernel
theorem dX9_leastAgain_56 : decode cX9_leastAgain 56 = .ok (.aload_n 2, 1) := by decide +kernel
theorem dX9_leastAgain_57 : decode cX9_leastAgain 57 = .ok (.invokevirtual 282, 3) := by decide +kernel
theorem dX9_leastAgain_60 : decode cX9_leastAgain 60 = .ok (.ireturn, 1) := by decide +kernel
theorem dX9_bestMend_0 : decode cX9_bestMend 0 = .ok (.iload_n 1, 1) := by decide +kernel
theorem dX9_bestMend_1 : decode cX9_bestMend 1 = .ok (.invokestatic 187, 3) := by decide +kernel
theorem dX9_bestMend_4 : decode cX9_bestMend 4 = .ok (.ifCond .ne 13, 3) := by decide +kernel
theorem dX9_bestMend_7 : decode cX9_bestMend 7 = .ok (.new 193, 3) := by decide +kernel
theorem dX9_bestMend_10 : decode cX9_bestMend 10 = .ok (.dup, 1) := by decide +kernel
theorem dX9_bestMend_11 : decode cX9_bestMend 11 = .ok (.ldc 210, 2) := by decide +kernel
theorem dX9_bestMend_13 : decode cX9_bestMend 13 = .ok (.invokespecial 197, 3) := by decide +kernel
theorem dX9_bestMend_16 : decode cX9_bestMend 16 = .ok (.athrow, 1) := by decide +kernel
theorem dX9_bestMend_17 : decode cX9_bestMend 17 = .ok (.aload_n 0, 1) := by decide +kernel
theorem dX9_bestMend_18 : decode cX9_bestMend 18 = .ok (.getfield 12, 3) := by decide +kernel
theorem dX9_bestMend_21 : decode cX9_bestMend 21 = .ok (.iload_n 1, 1) := by decide +kernel
theorem dX9_bestMend_22 : decode cX9_bestMend 22 = .ok (.invokevirtual 87, 3) := by decide +kernel
theorem dX9_bestMend_25 : decode cX9_bestMend 25 = .ok (.iload_n 2, 1) := by decide +kernel
theorem dX9_bestMend_26 : decode cX9_bestMend 26 = .ok (.invokevirtual 286, 3) := by decide +kernel
theorem dX9_bestMend_29 : decode cX9_bestMend 29 = .ok (.istore_n 3, 1) := by decide +kernel
theorem dX9_bestMend_30 : decode cX9_bestMend 30 = .ok (.iload_n 3, 1) := by decide +kernel
theorem dX9_bestMend_31 : decode cX9_bestMend 31 = .ok (.iconst (-1), 1) := by decide +kernel
theorem dX9_bestMend_32 : decode cX9_bestMend 32 = .ok (.if_icmp .ne 14, 3) := by decide +kernel
theorem dX9_bestMend_35 : decode cX9_bestMend 35 = .ok (.new 202, 3) := by decide +kernel
theorem dX9_bestMend_38 : decode cX9_bestMend 38 = .ok (.dup, 1) := by decide +kernel
theorem dX9_bestMend_39 : decode cX9_bestMend 39 = .ok (.ldc_w 290, 3) := by decide +kernel
theorem dX9_bestMend_42 : decode cX9_bestMend 42 = .ok (.invokespecial 206, 3) := by decide +kernel
theorem dX9_bestMend_45 : decode cX9_bestMend 45 = .ok (.athrow, 1) := by decide +kernel
theorem dX9_bestMend_46 : decode cX9_bestMend 46 = .ok (.iload_n 3, 1) := by decide +kernel
theorem dX9_bestMend_47 : decode cX9_bestMend 47 = .ok (.ireturn, 1) := by decide +kernel
theorem dX9_ranked_0 : decode cX9_ranked 0 = .ok (.iload_n 1, 1) := by decide +kernel
theorem dX9_ranked_1 : decode cX9_ranked 1 = .ok (.invokestatic 187, 3) := by decide +kernel
theorem dX9_ranked_4 : decode cX9_ranked 4 = .ok (.ifCond .ne 13, 3) := by decide +kernel
theorem dX9_ranked_7 : decode cX9_ranked 7 = .ok (.new 193, 3) := by decide +kernel
theorem dX9_ranked_10 : decode cX9_ranked 10 = .ok (.dup, 1) := by decide +kernel
theorem dX9_ranked_11 : decode cX9_ranked 11 = .ok (.ldc 210, 2) := by decide +kernel
theorem dX9_ranked_13 : decode cX9_ranked 13 = .ok (.invokespecial 197, 3) := by decide +kernel
theorem dX9_ranked_16 : decode cX9_ranked 16 = .ok (.athrow, 1) := by decide +kernel
theorem dX9_ranked_17 : decode cX9_ranked 17 = .ok (.aload_n 0, 1) := by decide +kernel
theorem dX9_ranked_18 : decode cX9_ranked 18 = .ok (.getfield 12, 3) := by decide +kernel
theorem dX9_ranked_21 : decode cX9_ranked 21 = .ok (.iload_n 1, 1) := by decide +kernel
theorem dX9_ranked_22 : decode cX9_ranked 22 = .ok (.invokevirtual 87, 3) := by decide +kernel
theorem dX9_ranked_25 : decode cX9_ranked 25 = .ok (.iload_n 2, 1) := by decide +kernel
theorem dX9_ranked_26 : decode cX9_ranked 26 = .ok (.invokevirtual 292, 3) := by decide +kernel
theorem dX9_ranked_29 : decode cX9_ranked 29 = .ok (.istore_n 3, 1) := by decide +kernel
theorem dX9_ranked_30 : decode cX9_ranked 30 = .ok (.iload_n 3, 1) := by decide +kernel
theorem dX9_ranked_31 : decode cX9_ranked 31 = .ok (.ifCond .ne 14, 3) := by decide +kernel
theorem dX9_ranked_34 : decode cX9_ranked 34 = .ok (.new 202, 3) := by decide +kernel
theorem dX9_ranked_37 : decode cX9_ranked 37 = .ok (.dup, 1) := by decide +kernel
theorem dX9_ranked_38 : decode cX9_ranked 38 = .ok (.ldc_w 295, 3) := by decide +kernel
theorem dX9_ranked_41 : decode cX9_ranked 41 = .ok (.invokespecial 206, 3) := by decide +kernel
theorem dX9_ranked_44 : decode cX9_ranked 44 = .ok (.athrow, 1) := by decide +kernel
theorem dX9_ranked_45 : decode cX9_ranked 45 = .ok (.iload_n 3, 1) := by decide +kernel
theorem dX9_ranked_46 : decode cX9_ranked 46 = .ok (.invokestatic 246, 3) := by decide +kernel
theorem dX9_ranked_49 : decode cX9_ranked 49 = .ok (.ireturn, 1) := by decide +kernel
theorem dX9_editorOf_0 : decode cX9_editorOf 0 = .ok (.aload_n 0, 1) := by decide +kernel
theorem dX9_editorOf_1 : decode cX9_editorOf 1 = .ok (.getfield 12, 3) := by decide +kernel
theorem dX9_editorOf_4 : decode cX9_editorOf 4 = .ok (.iload_n 1, 1) := by decide +kernel
theorem dX9_editorOf_5 : decode cX9_editorOf 5 = .ok (.invokevirtual 297, 3) := by decide +kernel
theorem dX9_editorOf_8 : decode cX9_editorOf 8 = .ok (.ifCond .ne 14, 3) := by decide +kernel
theorem dX9_editorOf_11 : decode cX9_editorOf 11 = .ok (.new 193, 3) := by decide +kernel
theorem dX9_editorOf_14 : decode cX9_editorOf 14 = .ok (.dup, 1) := by decide +kernel
theorem dX9_editorOf_15 : decode cX9_editorOf 15 = .ok (.ldc_w 300, 3) := by decide +kernel
theorem dX9_editorOf_18 : decode cX9_editorOf 18 = .ok (.invokespecial 197, 3) := by decide +kernel
theorem dX9_editorOf_21 : decode cX9_editorOf 21 = .ok (.athrow, 1) := by decide +kernel
theorem dX9_editorOf_22 : decode cX9_editorOf 22 = .ok (.iload_n 2, 1) := by decide +kernel
theorem dX9_editorOf_23 : decode cX9_editorOf 23 = .ok (.lookupswitch 49 #[(0, 25), (1, 37)], 25) := by decide +kernel
theorem dX9_editorOf_48 : decode cX9_editorOf 48 = .ok (.aload_n 0, 1) := by decide +kernel
theorem dX9_editorOf_49 : decode cX9_editorOf 49 = .ok (.getfield 12, 3) := by decide +kernel
theorem dX9_editorOf_52 : decode cX9_editorOf 52 = .ok (.iload_n 1, 1) := by decide +kernel
theorem dX9_editorOf_53 : decode cX9_editorOf 53 = .ok (.invokevirtual 124, 3) := by decide +kernel
theorem dX9_editorOf_56 : decode cX9_editorOf 56 = .ok (.getfield 128, 3) := by decide +kernel
theorem dX9_editorOf_59 : decode cX9_editorOf 59 = .ok (.ireturn, 1) := by decide +kernel
theorem dX9_editorOf_60 : decode cX9_editorOf 60 = .ok (.aload_n 0, 1) := by decide +kernel
theorem dX9_editorOf_61 : decode cX9_editorOf 61 = .ok (.getfield 12, 3) := by decide +kernel
theorem dX9_editorOf_64 : decode cX9_editorOf 64 = .ok (.iload_n 1, 1) := by decide +kernel
theorem dX9_editorOf_65 : decode cX9_editorOf 65 = .ok (.invokevirtual 124, 3) := by decide +kernel
theorem dX9_editorOf_68 : decode cX9_editorOf 68 = .ok (.getfield 302, 3) := by decide +kernel
theorem dX9_editorOf_71 : decode cX9_editorOf 71 = .ok (.ireturn, 1) := by decide +kernel
theorem dX9_editorOf_72 : decode cX9_editorOf 72 = .ok (.new 232, 3) := by decide +kernel
theorem dX9_editorOf_75 : decode cX9_editorOf 75 = .ok (.dup, 1) := by decide +kernel
theorem dX9_editorOf_76 : decode cX9_editorOf 76 = .ok (.ldc 234, 2) := by decide +kernel
theorem dX9_editorOf_78 : decode cX9_editorOf 78 = .ok (.invokespecial 236, 3) := by decide +kernel
theorem dX9_editorOf_81 : decode cX9_editorOf 81 = .ok (.athrow, 1) := by decide +kernel
theorem dX9_feed_0 : decode cX9_feed 0 = .ok (.aload_n 0, 1) := by decide +kernel
theorem dX9_feed_1 : decode cX9_feed 1 = .ok (.getfield 43, 3) := by decide +kernel
theorem dX9_feed_4 : decode cX9_feed 4 = .ok (.invokevirtual 305, 3) := by decide +kernel
theorem dX9_feed_7 : decode cX9_feed 7 = .ok (.ifCond .eq 14, 3) := by decide +kernel
theorem dX9_feed_10 : decode cX9_feed 10 = .ok (.new 309, 3) := by decide +kernel
theorem dX9_feed_13 : decode cX9_feed 13 = .ok (.dup, 1) := by decide +kernel
theorem dX9_feed_14 : decode cX9_feed 14 = .ok (.ldc_w 311, 3) := by decide +kernel
theorem dX9_feed_17 : decode cX9_feed 17 = .ok (.invokespecial 313, 3) := by decide +kernel
theorem dX9_feed_20 : decode cX9_feed 20 = .ok (.athrow, 1) := by decide +kernel
theorem dX9_feed_21 : decode cX9_feed 21 = .ok (.aload_n 0, 1) := by decide +kernel
theorem dX9_feed_22 : decode cX9_feed 22 = .ok (.getfield 43, 3) := by decide +kernel
theorem dX9_feed_25 : decode cX9_feed 25 = .ok (.iload_n 1, 1) := by decide +kernel
theorem dX9_feed_26 : decode cX9_feed 26 = .ok (.invokevirtual 314, 3) := by decide +kernel
theorem dX9_feed_29 : decode cX9_feed 29 = .ok (.aload_n 0, 1) := by decide +kernel
theorem dX9_feed_30 : decode cX9_feed 30 = .ok (.getfield 43, 3) := by decide +kernel
theorem dX9_feed_33 : decode cX9_feed 33 = .ok (.getfield 318, 3) := by decide +kernel
theorem dX9_feed_36 : decode cX9_feed 36 = .ok (.ireturn, 1) := by decide +kernel
theorem dX9_run_0 : decode cX9_run 0 = .ok (.aload_n 0, 1) := by decide +kernel
theorem dX9_run_1 : decode cX9_run 1 = .ok (.getfield 43, 3) := by decide +kernel
theorem dX9_run_4 : decode cX9_run 4 = .ok (.invokevirtual 321, 3) := by decide +kernel
theorem dX9_run_7 : decode cX9_run 7 = .ok (.istore_n 1, 1) := by decide +kernel
theorem dX9_run_8 : decode cX9_run 8 = .ok (.aload_n 0, 1) := by decide +kernel
theorem dX9_run_9 : decode cX9_run 9 = .ok (.getfield 43, 3) := by decide +kernel
theorem dX9_run_12 : decode cX9_run 12 = .ok (.invokevirtual 324, 3) := by decide +kernel
theorem dX9_run_15 : decode cX9_run 15 = .ok (.iload_n 1, 1) := by decide +kernel
theorem dX9_run_16 : decode cX9_run 16 = .ok (.iconst (-1), 1) := by decide +kernel
theorem dX9_run_17 : decode cX9_run 17 = .ok (.if_icmp .eq 19, 3) := by decide +kernel
theorem dX9_run_20 : decode cX9_run 20 = .ok (.aload_n 0, 1) := by decide +kernel
theorem dX9_run_21 : decode cX9_run 21 = .ok (.iload_n 1, 1) := by decide +kernel
theorem dX9_run_22 : decode cX9_run 22 = .ok (.putfield 65, 3) := by decide +kernel
theorem dX9_run_25 : decode cX9_run 25 = .ok (.new 232, 3) := by decide +kernel
theorem dX9_run_28 : decode cX9_run 28 = .ok (.dup, 1) := by decide +kernel
theorem dX9_run_29 : decode cX9_run 29 = .ok (.ldc_w 327, 3) := by decide +kernel
theorem dX9_run_32 : decode cX9_run 32 = .ok (.invokespecial 236, 3) := by decide +kernel
theorem dX9_run_35 : decode cX9_run 35 = .ok (.athrow, 1) := by decide +kernel
theorem dX9_run_36 : decode cX9_run 36 = .ok (.aload_n 0, 1) := by decide +kernel
theorem dX9_run_37 : decode cX9_run 37 = .ok (.getfield 16, 3) := by decide +kernel
theorem dX9_run_40 : decode cX9_run 40 = .ok (.aload_n 0, 1) := by decide +kernel
theorem dX9_run_41 : decode cX9_run 41 = .ok (.getfield 12, 3) := by decide +kernel
theorem dX9_run_44 : decode cX9_run 44 = .ok (.invokevirtual 329, 3) := by decide +kernel
theorem dX9_run_47 : decode cX9_run 47 = .ok (.iconst 0, 1) := by decide +kernel
theorem dX9_run_48 : decode cX9_run 48 = .ok (.istore_n 2, 1) := by decide +kernel
theorem dX9_run_49 : decode cX9_run 49 = .ok (.iload_n 2, 1) := by decide +kernel
theorem dX9_run_50 : decode cX9_run 50 = .ok (.aload_n 0, 1) := by decide +kernel
theorem dX9_run_51 : decode cX9_run 51 = .ok (.getfield 43, 3) := by decide +kernel
theorem dX9_run_54 : decode cX9_run 54 = .ok (.getfield 332, 3) := by decide +kernel
theorem dX9_run_57 : decode cX9_run 57 = .ok (.if_icmp .ge 59, 3) := by decide +kernel
theorem dX9_run_60 : decode cX9_run 60 = .ok (.aload_n 0, 1) := by decide +kernel
theorem dX9_run_61 : decode cX9_run 61 = .ok (.iload_n 2, 1) := by decide +kernel
theorem dX9_run_62 : decode cX9_run 62 = .ok (.invokevirtual 335, 3) := by decide +kernel
theorem dX9_run_65 : decode cX9_run 65 = .ok (.istore_n 3, 1) := by decide +kernel
theorem dX9_run_66 : decode cX9_run 66 = .ok (.iload_n 3, 1) := by decide +kernel
theorem dX9_run_67 : decode cX9_run 67 = .ok (.ifCond .eq 38, 3) := by decide +kernel
theorem dX9_run_70 : decode cX9_run 70 = .ok (.aload_n 0, 1) := by decide +kernel
theorem dX9_run_71 : decode cX9_run 71 = .ok (.getfield 12, 3) := by decide +kernel
theorem dX9_run_74 : decode cX9_run 74 = .ok (.aload_n 0, 1) := by decide +kernel
theorem dX9_run_75 : decode cX9_run 75 = .ok (.getfield 16, 3) := by decide +kernel
theorem dX9_run_78 : decode cX9_run 78 = .ok (.invokevirtual 329, 3) := by decide +kernel
theorem dX9_run_81 : decode cX9_run 81 = .ok (.aload_n 0, 1) := by decide +kernel
theorem dX9_run_82 : decode cX9_run 82 = .ok (.getfield 57, 3) := by decide +kernel
theorem dX9_run_85 : decode cX9_run 85 = .ok (.iload_n 2, 1) := by decide +kernel
theorem dX9_run_86 : decode cX9_run 86 = .ok (.iload_n 3, 1) := by decide +kernel
theorem dX9_run_87 : decode cX9_run 87 = .ok (.aload_n 0, 1) := by decide +kernel
theorem dX9_run_88 : decode cX9_run 88 = .ok (.getfield 61, 3) := by decide +kernel
theorem dX9_run_91 : decode cX9_run 91 = .ok (.invokevirtual 338, 3) := by decide +kernel
theorem dX9_run_94 : decode cX9_run 94 = .ok (.new 76, 3) := by decide +kernel
theorem dX9_run_97 : decode cX9_run 97 = .ok (.dup, 1) := by decide +kernel
theorem dX9_run_98 : decode cX9_run 98 = .ok (.ldc_w 341, 3) := by decide +kernel
theorem dX9_run_101 : decode cX9_run 101 = .ok (.invokespecial 80, 3) := by decide +kernel
theorem dX9_run_104 : decode cX9_run 104 = .ok (.athrow, 1) := by decide +kernel
theorem dX9_run_105 : decode cX9_run 105 = .ok (.aload_n 0, 1) := by decide +kernel
theorem dX9_run_106 : decode cX9_run 106 = .ok (.iload_n 2, 1) := by decide +kernel
theorem dX9_run_107 : decode cX9_run 107 = .ok (.invokevirtual 343, 3) := by decide +kernel
theorem dX9_run_110 : decode cX9_run 110 = .ok (.iinc 2 1, 3) := by decide +kernel
theorem dX9_run_113 : decode cX9_run 113 = .ok (.goto (-64), 3) := by decide +kernel
theorem dX9_run_116 : decode cX9_run 116 = .ok (.aload_n 0, 1) := by decide +kernel
theorem dX9_run_117 : decode cX9_run 117 = .ok (.getfield 29, 3) := by decide +kernel
theorem dX9_run_120 : decode cX9_run 120 = .ok (.aload_n 0, 1) := by decide +kernel
theorem dX9_run_121 : decode cX9_run 121 = .ok (.getfield 16, 3) := by decide +kernel
theorem dX9_run_124 : decode cX9_run 124 = .ok (.invokevirtual 83, 3) := by decide +kernel
theorem dX9_run_127 : decode cX9_run 127 = .ok (.aload_n 0, 1) := by decide +kernel
theorem dX9_run_128 : decode cX9_run 128 = .ok (.getfield 43, 3) := by decide +kernel
theorem dX9_run_131 : decode cX9_run 131 = .ok (.getfield 332, 3) := by decide +kernel
theorem dX9_run_134 : decode cX9_run 134 = .ok (.ireturn, 1) := by decide +kernel
theorem dX9_faultPosition_0 : decode cX9_faultPosition 0 = .ok (.aload_n 0, 1) := by decide +kernel
theorem dX9_faultPosition_1 : decode cX9_faultPosition 1 = .ok (.getfield 65, 3) := by decide +kernel
theorem dX9_faultPosition_4 : decode cX9_faultPosition 4 = .ok (.iconst (-1), 1) := by decide +kernel
theorem dX9_faultPosition_5 : decode cX9_faultPosition 5 = .ok (.if_icmp .ne 14, 3) := by decide +kernel
theorem dX9_faultPosition_8 : decode cX9_faultPosition 8 = .ok (.new 202, 3) := by decide +kernel
theorem dX9_faultPosition_11 : decode cX9_faultPosition 11 = .ok (.dup, 1) := by decide +kernel
theorem dX9_faultPosition_12 : decode cX9_faultPosition 12 = .ok (.ldc_w 346, 3) := by decide +kernel
theorem dX9_faultPosition_15 : decode cX9_faultPosition 15 = .ok (.invokespecial 206, 3) := by decide +kernel
theorem dX9_faultPosition_18 : decode cX9_faultPosition 18 = .ok (.athrow, 1) := by decide +kernel
theorem dX9_faultPosition_19 : decode cX9_faultPosition 19 = .ok (.aload_n 0, 1) := by decide +kernel
theorem dX9_faultPosition_20 : decode cX9_faultPosition 20 = .ok (.getfield 65, 3) := by decide +kernel
theorem dX9_faultPosition_23 : decode cX9_faultPosition 23 = .ok (.ireturn, 1) := by decide +kernel
theorem dX9_reason_0 : decode cX9_reason 0 = .ok (.aload_n 0, 1) := by decide +kernel
theorem dX9_reason_1 : decode cX9_reason 1 = .ok (.getfield 57, 3) := by decide +kernel
theorem dX9_reason_4 : decode cX9_reason 4 = .ok (.getfield 348, 3) := by decide +kernel
theorem dX9_reason_7 : decode cX9_reason 7 = .ok (.ifCond .ne 14, 3) := by decide +kernel
theorem dX9_reason_10 : decode cX9_reason 10 = .ok (.new 202, 3) := by decide +kernel
theorem dX9_reason_13 : decode cX9_reason 13 = .ok (.dup, 1) := by decide +kernel
theorem dX9_reason_14 : decode cX9_reason 14 = .ok (.ldc_w 351, 3) := by decide +kernel
theorem dX9_reason_17 : decode cX9_reason 17 = .ok (.invokespecial 206, 3) := by decide +kernel
theorem dX9_reason_20 : decode cX9_reason 20 = .ok (.athrow, 1) := by decide +kernel
theorem dX9_reason_21 : decode cX9_reason 21 = .ok (.iload_n 1, 1) := by decide +kernel
theorem dX9_reason_22 : decode cX9_reason 22 = .ok (.ifCond .eq 26, 3) := by decide +kernel
theorem dX9_reason_25 : decode cX9_reason 25 = .ok (.aload_n 0, 1) := by decide +kernel
theorem dX9_reason_26 : decode cX9_reason 26 = .ok (.getfield 57, 3) := by decide +kernel
theorem dX9_reason_29 : decode cX9_reason 29 = .ok (.getfield 348, 3) := by decide +kernel
theorem dX9_reason_32 : decode cX9_reason 32 = .ok (.bipush 9, 2) := by decide +kernel
theorem dX9_reason_34 : decode cX9_reason 34 = .ok (.if_icmp .eq 14, 3) := by decide +kernel
theorem dX9_reason_37 : decode cX9_reason 37 = .ok (.new 202, 3) := by decide +kernel
theorem dX9_reason_40 : decode cX9_reason 40 = .ok (.dup, 1) := by decide +kernel
theorem dX9_reason_41 : decode cX9_reason 41 = .ok (.ldc_w 353, 3) := by decide +kernel
theorem dX9_reason_44 : decode cX9_reason 44 = .ok (.invokespecial 206, 3) := by decide +kernel
theorem dX9_reason_47 : decode cX9_reason 47 = .ok (.athrow, 1) := by decide +kernel
theorem dX9_reason_48 : decode cX9_reason 48 = .ok (.iload_n 1, 1) := by decide +kernel
theorem dX9_reason_49 : decode cX9_reason 49 = .ok (.ifCond .eq 25, 3) := by decide +kernel
theorem dX9_reason_52 : decode cX9_reason 52 = .ok (.iload_n 2, 1) := by decide +kernel
theorem dX9_reason_53 : decode cX9_reason 53 = .ok (.ifCond .eq 13, 3) := by decide +kernel
theorem dX9_reason_56 : decode cX9_reason 56 = .ok (.aload_n 0, 1) := by decide +kernel
theorem dX9_reason_57 : decode cX9_reason 57 = .ok (.getfield 57, 3) := by decide +kernel
theorem dX9_reason_60 : decode cX9_reason 60 = .ok (.getfield 355, 3) := by decide +kernel
theorem dX9_reason_63 : decode cX9_reason 63 = .ok (.goto 10, 3) := by decide +kernel
theorem dX9_reason_66 : decode cX9_reason 66 = .ok (.aload_n 0, 1) := by decide +kernel
theorem dX9_reason_67 : decode cX9_reason 67 = .ok (.getfield 57, 3) := by decide +kernel
theorem dX9_reason_70 : decode cX9_reason 70 = .ok (.getfield 358, 3) := by decide +kernel
theorem dX9_reason_73 : decode cX9_reason 73 = .ok (.ireturn, 1) := by decide +kernel
theorem dX9_reason_74 : decode cX9_reason 74 = .ok (.iload_n 2, 1) := by decide +kernel
theorem dX9_reason_75 : decode cX9_reason 75 = .ok (.ifCond .eq 13, 3) := by decide +kernel
theorem dX9_reason_78 : decode cX9_reason 78 = .ok (.aload_n 0, 1) := by decide +kernel
theorem dX9_reason_79 : decode cX9_reason 79 = .ok (.getfield 57, 3) := by decide +kernel
theorem dX9_reason_82 : decode cX9_reason 82 = .ok (.getfield 361, 3) := by decide +kernel
theorem dX9_reason_85 : decode cX9_reason 85 = .ok (.goto 10, 3) := by decide +kernel
theorem dX9_reason_88 : decode cX9_reason 88 = .ok (.aload_n 0, 1) := by decide +kernel
theorem dX9_reason_89 : decode cX9_reason 89 = .ok (.getfield 57, 3) := by decide +kernel
theorem dX9_reason_92 : decode cX9_reason 92 = .ok (.getfield 348, 3) := by decide +kernel
theorem dX9_reason_95 : decode cX9_reason 95 = .ok (.ireturn, 1) := by decide +kernel
theorem dX9_line_0 : decode cX9_line 0 = .ok (.iload_n 1, 1) := by decide +kernel
theorem dX9_line_1 : decode cX9_line 1 = .ok (.invokestatic 187, 3) := by decide +kernel
theorem dX9_line_4 : decode cX9_line 4 = .ok (.ifCond .eq 12, 3) := by decide +kernel
theorem dX9_line_7 : decode cX9_line 7 = .ok (.iload_n 2, 1) := by decide +kernel
theorem dX9_line_8 : decode cX9_line 8 = .ok (.ifCond .lt 8, 3) := by decide +kernel
theorem dX9_line_11 : decode cX9_line 11 = .ok (.iload_n 2, 1) := by decide +kernel
theorem dX9_line_12 : decode cX9_line 12 = .ok (.iconst 4, 1) := by decide +kernel
theorem dX9_line_13 : decode cX9_line 13 = .ok (.if_icmp .lt 14, 3) := by decide +kernel
theorem dX9_line_16 : decode cX9_line 16 = .ok (.new 193, 3) := by decide +kernel
theorem dX9_line_19 : decode cX9_line 19 = .ok (.dup, 1) := by decide +kernel
theorem dX9_line_20 : decode cX9_line 20 = .ok (.ldc_w 364, 3) := by decide +kernel
theorem dX9_line_23 : decode cX9_line 23 = .ok (.invokespecial 197, 3) := by decide +kernel
theorem dX9_line_26 : decode cX9_line 26 = .ok (.athrow, 1) := by decide +kernel
theorem dX9_line_27 : decode cX9_line 27 = .ok (.aload_n 0, 1) := by decide +kernel
theorem dX9_line_28 : decode cX9_line 28 = .ok (.getfield 50, 3) := by decide +kernel
theorem dX9_line_31 : decode cX9_line 31 = .ok (.invokevirtual 366, 3) := by decide +kernel
theorem dX9_line_34 : decode cX9_line 34 = .ok (.iload_n 2, 1) := by decide +kernel
theorem dX9_line_35 : decode cX9_line 35 = .ok (.iconst 4, 1) := by decide +kernel
theorem dX9_line_36 : decode cX9_line 36 = .ok (.aload_n 0, 1) := by decide +kernel
theorem dX9_line_37 : decode cX9_line 37 = .ok (.getfield 12, 3) := by decide +kernel
theorem dX9_line_40 : decode cX9_line 40 = .ok (.iload_n 1, 1) := by decide +kernel
theorem dX9_line_41 : decode cX9_line 41 = .ok (.invokevirtual 165, 3) := by decide +kernel
theorem dX9_line_44 : decode cX9_line 44 = .ok (.isub, 1) := by decide +kernel
theorem dX9_line_45 : decode cX9_line 45 = .ok (.if_icmp .lt 12, 3) := by decide +kernel
theorem dX9_line_48 : decode cX9_line 48 = .ok (.aload_n 0, 1) := by decide +kernel
theorem dX9_line_49 : decode cX9_line 49 = .ok (.getfield 50, 3) := by decide +kernel
theorem dX9_line_52 : decode cX9_line 52 = .ok (.bipush 126, 2) := by decide +kernel
theorem dX9_line_54 : decode cX9_line 54 = .ok (.invokevirtual 367, 3) := by decide +kernel
theorem dX9_line_57 : decode cX9_line 57 = .ok (.aload_n 0, 1) := by decide +kernel
theorem dX9_line_58 : decode cX9_line 58 = .ok (.getfield 12, 3) := by decide +kernel
theorem dX9_line_61 : decode cX9_line 61 = .ok (.iload_n 1, 1) := by decide +kernel
theorem dX9_line_62 : decode cX9_line 62 = .ok (.invokevirtual 87, 3) := by decide +kernel
theorem dX9_line_65 : decode cX9_line 65 = .ok (.iload_n 2, 1) := by decide +kernel
theorem dX9_line_66 : decode cX9_line 66 = .ok (.aload_n 0, 1) := by decide +kernel
theorem dX9_line_67 : decode cX9_line 67 = .ok (.getfield 50, 3) := by decide +kernel
theorem dX9_line_70 : decode cX9_line 70 = .ok (.invokevirtual 368, 3) := by decide +kernel
theorem dX9_line_73 : decode cX9_line 73 = .ok (.aload_n 0, 1) := by decide +kernel
theorem dX9_line_74 : decode cX9_line 74 = .ok (.getfield 50, 3) := by decide +kernel
theorem dX9_line_77 : decode cX9_line 77 = .ok (.getfield 372, 3) := by decide +kernel
theorem dX9_line_80 : decode cX9_line 80 = .ok (.ireturn, 1) := by decide +kernel
theorem dX9_chapterLine_0 : decode cX9_chapterLine 0 = .ok (.iload_n 1, 1) := by decide +kernel
theorem dX9_chapterLine_1 : decode cX9_chapterLine 1 = .ok (.invokestatic 187, 3) := by decide +kernel
theorem dX9_chapterLine_4 : decode cX9_chapterLine 4 = .ok (.ifCond .eq 10, 3) := by decide +kernel
theorem dX9_chapterLine_7 : decode cX9_chapterLine 7 = .ok (.iload_n 2, 1) := by decide +kernel
theorem dX9_chapterLine_8 : decode cX9_chapterLine 8 = .ok (.invokestatic 190, 3) := by decide +kernel
theorem dX9_chapterLine_11 : decode cX9_chapterLine 11 = .ok (.ifCond .ne 13, 3) := by decide +kernel
theorem dX9_chapterLine_14 : decode cX9_chapterLine 14 = .ok (.new 193, 3) := by decide +kernel
theorem dX9_chapterLine_17 : decode cX9_chapterLine 17 = .ok (.dup, 1) := by decide +kernel
theorem dX9_chapterLine_18 : decode cX9_chapterLine 18 = .ok (.ldc 195, 2) := by decide +kernel
theorem dX9_chapterLine_20 : decode cX9_chapterLine 20 = .ok (.invokespecial 197, 3) := by decide +kernel
theorem dX9_chapterLine_23 : decode cX9_chapterLine 23 = .ok (.athrow, 1) := by decide +kernel
theorem dX9_chapterLine_24 : decode cX9_chapterLine 24 = .ok (.aload_n 0, 1) := by decide +kernel
theorem dX9_chapterLine_25 : decode cX9_chapterLine 25 = .ok (.getfield 12, 3) := by decide +kernel
theorem dX9_chapterLine_28 : decode cX9_chapterLine 28 = .ok (.iload_n 1, 1) := by decide +kernel
theorem dX9_chapterLine_29 : decode cX9_chapterLine 29 = .ok (.invokevirtual 87, 3) := by decide +kernel
theorem dX9_chapterLine_32 : decode cX9_chapterLine 32 = .ok (.astore_n 3, 1) := by decide +kernel
theorem dX9_chapterLine_33 : decode cX9_chapterLine 33 = .ok (.aload_n 3, 1) := by decide +kernel
theorem dX9_chapterLine_34 : decode cX9_chapterLine 34 = .ok (.iload_n 2, 1) := by decide +kernel
theorem dX9_chapterLine_35 : decode cX9_chapterLine 35 = .ok (.invokevirtual 241, 3) := by decide +kernel
theorem dX9_chapterLine_38 : decode cX9_chapterLine 38 = .ok (.istore 4, 2) := by decide +kernel
theorem dX9_chapterLine_40 : decode cX9_chapterLine 40 = .ok (.iload 4, 2) := by decide +kernel
theorem dX9_chapterLine_42 : decode cX9_chapterLine 42 = .ok (.ifCond .ne 13, 3) := by decide +kernel
theorem dX9_chapterLine_45 : decode cX9_chapterLine 45 = .ok (.new 202, 3) := by decide +kernel
theorem dX9_chapterLine_48 : decode cX9_chapterLine 48 = .ok (.dup, 1) := by decide +kernel
theorem dX9_chapterLine_49 : decode cX9_chapterLine 49 = .ok (.ldc 244, 2) := by decide +kernel
theorem dX9_chapterLine_51 : decode cX9_chapterLine 51 = .ok (.invokespecial 206, 3) := by decide +kernel
theorem dX9_chapterLine_54 : decode cX9_chapterLine 54 = .ok (.athrow, 1) := by decide +kernel
theorem dX9_chapterLine_55 : decode cX9_chapterLine 55 = .ok (.aload_n 0, 1) := by decide +kernel
theorem dX9_chapterLine_56 : decode cX9_chapterLine 56 = .ok (.getfield 50, 3) := by decide +kernel
theorem dX9_chapterLine_59 : decode cX9_chapterLine 59 = .ok (.invokevirtual 366, 3) := by decide +kernel
theorem dX9_chapterLine_62 : decode cX9_chapterLine 62 = .ok (.aload_n 0, 1) := by decide +kernel
theorem dX9_chapterLine_63 : decode cX9_chapterLine 63 = .ok (.getfield 50, 3) := by decide +kernel
theorem dX9_chapterLine_66 : decode cX9_chapterLine 66 = .ok (.aload_n 3, 1) := by decide +kernel
theorem dX9_chapterLine_67 : decode cX9_chapterLine 67 = .ok (.getfield 373, 3) := by decide +kernel
theorem dX9_chapterLine_70 : decode cX9_chapterLine 70 = .ok (.iload 4, 2) := by decide +kernel
theorem dX9_chapterLine_72 : decode cX9_chapterLine 72 = .ok (.iand, 1) := by decide +kernel
theorem dX9_chapterLine_73 : decode cX9_chapterLine 73 = .ok (.aload_n 3, 1) := by decide +kernel
theorem dX9_chapterLine_74 : decode cX9_chapterLine 74 = .ok (.getfield 376, 3) := by decide +kernel
theorem dX9_chapterLine_77 : decode cX9_chapterLine 77 = .ok (.iload 4, 2) := by decide +kernel
theorem dX9_chapterLine_79 : decode cX9_chapterLine 79 = .ok (.iand, 1) := by decide +kernel
theorem dX9_chapterLine_80 : decode cX9_chapterLine 80 = .ok (.invokevirtual 379, 3) := by decide +kernel
theorem dX9_chapterLine_83 : decode cX9_chapterLine 83 = .ok (.aload_n 0, 1) := by decide +kernel
theorem dX9_chapterLine_84 : decode cX9_chapterLine 84 = .ok (.getfield 50, 3) := by decide +kernel
theorem dX9_chapterLine_87 : decode cX9_chapterLine 87 = .ok (.getfield 372, 3) := by decide +kernel
theorem dX9_chapterLine_90 : decode cX9_chapterLine 90 = .ok (.ireturn, 1) := by decide +kernel
theorem dX9_noteLine_0 : decode cX9_noteLine 0 = .ok (.aload_n 0, 1) := by decide +kernel
theorem dX9_noteLine_1 : decode cX9_noteLine 1 = .ok (.getfield 12, 3) := by decide +kernel
theorem dX9_noteLine_4 : decode cX9_noteLine 4 = .ok (.iload_n 1, 1) := by decide +kernel
theorem dX9_noteLine_5 : decode cX9_noteLine 5 = .ok (.invokevirtual 252, 3) := by decide +kernel
theorem dX9_noteLine_8 : decode cX9_noteLine 8 = .ok (.ifCond .ne 13, 3) := by decide +kernel
theorem dX9_noteLine_11 : decode cX9_noteLine 11 = .ok (.new 193, 3) := by decide +kernel
theorem dX9_noteLine_14 : decode cX9_noteLine 14 = .ok (.dup, 1) := by decide +kernel
theorem dX9_noteLine_15 : decode cX9_noteLine 15 = .ok (.ldc 255, 2) := by decide +kernel
theorem dX9_noteLine_17 : decode cX9_noteLine 17 = .ok (.invokespecial 197, 3) := by decide +kernel
theorem dX9_noteLine_20 : decode cX9_noteLine 20 = .ok (.athrow, 1) := by decide +kernel
theorem dX9_noteLine_21 : decode cX9_noteLine 21 = .ok (.aload_n 0, 1) := by decide +kernel
theorem dX9_noteLine_22 : decode cX9_noteLine 22 = .ok (.getfield 12, 3) := by decide +kernel
theorem dX9_noteLine_25 : decode cX9_noteLine 25 = .ok (.iload_n 1, 1) := by decide +kernel
theorem dX9_noteLine_26 : decode cX9_noteLine 26 = .ok (.invokevirtual 257, 3) := by decide +kernel
theorem dX9_noteLine_29 : decode cX9_noteLine 29 = .ok (.astore_n 2, 1) := by decide +kernel
theorem dX9_noteLine_30 : decode cX9_noteLine 30 = .ok (.aload_n 0, 1) := by decide +kernel
theorem dX9_noteLine_31 : decode cX9_noteLine 31 = .ok (.getfield 50, 3) := by decide +kernel
theorem dX9_noteLine_34 : decode cX9_noteLine 34 = .ok (.invokevirtual 366, 3) := by decide +kernel
theorem dX9_noteLine_37 : decode cX9_noteLine 37 = .ok (.aload_n 0, 1) := by decide +kernel
theorem dX9_noteLine_38 : decode cX9_noteLine 38 = .ok (.getfield 50, 3) := by decide +kernel
theorem dX9_noteLine_41 : decode cX9_noteLine 41 = .ok (.aload_n 2, 1) := by decide +kernel
theorem dX9_noteLine_42 : decode cX9_noteLine 42 = .ok (.getfield 382, 3) := by decide +kernel
theorem dX9_noteLine_45 : decode cX9_noteLine 45 = .ok (.aload_n 2, 1) := by decide +kernel
theorem dX9_noteLine_46 : decode cX9_noteLine 46 = .ok (.getfield 383, 3) := by decide +kernel
theorem dX9_noteLine_49 : decode cX9_noteLine 49 = .ok (.invokevirtual 379, 3) := by decide +kernel
theorem dX9_noteLine_52 : decode cX9_noteLine 52 = .ok (.aload_n 0, 1) := by decide +kernel
theorem dX9_noteLine_53 : decode cX9_noteLine 53 = .ok (.getfield 12, 3) := by decide +kernel
theorem dX9_noteLine_56 : decode cX9_noteLine 56 = .ok (.aload_n 2, 1) := by decide +kernel
theorem dX9_noteLine_57 : decode cX9_noteLine 57 = .ok (.invokevirtual 269, 3) := by decide +kernel
theorem dX9_noteLine_60 : decode cX9_noteLine 60 = .ok (.ifCond .ne 12, 3) := by decide +kernel
theorem dX9_noteLine_63 : decode cX9_noteLine 63 = .ok (.aload_n 0, 1) := by decide +kernel
theorem dX9_noteLine_64 : decode cX9_noteLine 64 = .ok (.getfield 50, 3) := by decide +kernel
theorem dX9_noteLine_67 : decode cX9_noteLine 67 = .ok (.bipush 33, 2) := by decide +kernel
theorem dX9_noteLine_69 : decode cX9_noteLine 69 = .ok (.invokevirtual 367, 3) := by decide +kernel
theorem dX9_noteLine_72 : decode cX9_noteLine 72 = .ok (.aload_n 0, 1) := by decide +kernel
theorem dX9_noteLine_73 : decode cX9_noteLine 73 = .ok (.getfield 50, 3) := by decide +kernel
theorem dX9_noteLine_76 : decode cX9_noteLine 76 = .ok (.getfield 372, 3) := by decide +kernel
theorem dX9_noteLine_79 : decode cX9_noteLine 79 = .ok (.ireturn, 1) := by decide +kernel
theorem dX9_character_0 : decode cX9_character 0 = .ok (.aload_n 0, 1) := by decide +kernel
theorem dX9_character_1 : decode cX9_character 1 = .ok (.getfield 50, 3) := by decide +kernel
theorem dX9_character_4 : decode cX9_character 4 = .ok (.iload_n 1, 1) := by decide +kernel
theorem dX9_character_5 : decode cX9_character 5 = .ok (.invokevirtual 384, 3) := by decide +kernel
theorem dX9_character_8 : decode cX9_character 8 = .ok (.ifCond .ne 14, 3) := by decide +kernel
theorem dX9_character_11 : decode cX9_character 11 = .ok (.new 193, 3) := by decide +kernel
theorem dX9_character_14 : decode cX9_character 14 = .ok (.dup, 1) := by decide +kernel
theorem dX9_character_15 : decode cX9_character 15 = .ok (.ldc_w 387, 3) := by decide +kernel
theorem dX9_character_18 : decode cX9_character 18 = .ok (.invokespecial 197, 3) := by decide +kernel
theorem dX9_character_21 : decode cX9_character 21 = .ok (.athrow, 1) := by decide +kernel
theorem dX9_character_22 : decode cX9_character 22 = .ok (.aload_n 0, 1) := by decide +kernel
theorem dX9_character_23 : decode cX9_character 23 = .ok (.getfield 50, 3) := by decide +kernel
theorem dX9_character_26 : decode cX9_character 26 = .ok (.iload_n 1, 1) := by decide +kernel
theorem dX9_character_27 : decode cX9_character 27 = .ok (.invokevirtual 389, 3) := by decide +kernel
theorem dX9_character_30 : decode cX9_character 30 = .ok (.ireturn, 1) := by decide +kernel
theorem dX9_meanKnots_0 : decode cX9_meanKnots 0 = .ok (.aload_n 0, 1) := by decide +kernel
theorem dX9_meanKnots_1 : decode cX9_meanKnots 1 = .ok (.getfield 12, 3) := by decide +kernel
theorem dX9_meanKnots_4 : decode cX9_meanKnots 4 = .ok (.invokevirtual 393, 3) := by decide +kernel
theorem dX9_meanKnots_7 : decode cX9_meanKnots 7 = .ok (.istore_n 1, 1) := by decide +kernel
theorem dX9_meanKnots_8 : decode cX9_meanKnots 8 = .ok (.iload_n 1, 1) := by decide +kernel
theorem dX9_meanKnots_9 : decode cX9_meanKnots 9 = .ok (.ifCond .ne 14, 3) := by decide +kernel
theorem dX9_meanKnots_12 : decode cX9_meanKnots 12 = .ok (.new 396, 3) := by decide +kernel
theorem dX9_meanKnots_15 : decode cX9_meanKnots 15 = .ok (.dup, 1) := by decide +kernel
theorem dX9_meanKnots_16 : decode cX9_meanKnots 16 = .ok (.ldc_w 398, 3) := by decide +kernel
theorem dX9_meanKnots_19 : decode cX9_meanKnots 19 = .ok (.invokespecial 400, 3) := by decide +kernel
theorem dX9_meanKnots_22 : decode cX9_meanKnots 22 = .ok (.athrow, 1) := by decide +kernel
theorem dX9_meanKnots_23 : decode cX9_meanKnots 23 = .ok (.aload_n 0, 1) := by decide +kernel
theorem dX9_meanKnots_24 : decode cX9_meanKnots 24 = .ok (.getfield 12, 3) := by decide +kernel
theorem dX9_meanKnots_27 : decode cX9_meanKnots 27 = .ok (.invokevirtual 401, 3) := by decide +kernel
theorem dX9_meanKnots_30 : decode cX9_meanKnots 30 = .ok (.i2d, 1) := by decide +kernel
theorem dX9_meanKnots_31 : decode cX9_meanKnots 31 = .ok (.iload_n 1, 1) := by decide +kernel
theorem dX9_meanKnots_32 : decode cX9_meanKnots 32 = .ok (.i2d, 1) := by decide +kernel
theorem dX9_meanKnots_33 : decode cX9_meanKnots 33 = .ok (.ddiv, 1) := by decide +kernel
theorem dX9_meanKnots_34 : decode cX9_meanKnots 34 = .ok (.dreturn, 1) := by decide +kernel
theorem dX9_readShare_0 : decode cX9_readShare 0 = .ok (.aload_n 0, 1) := by decide +kernel
theorem dX9_readShare_1 : decode cX9_readShare 1 = .ok (.getfield 12, 3) := by decide +kernel
theorem dX9_readShare_4 : decode cX9_readShare 4 = .ok (.invokevirtual 401, 3) := by decide +kernel
theorem dX9_readShare_7 : decode cX9_readShare 7 = .ok (.istore_n 1, 1) := by decide +kernel
theorem dX9_readShare_8 : decode cX9_readShare 8 = .ok (.iload_n 1, 1) := by decide +kernel
theorem dX9_readShare_9 : decode cX9_readShare 9 = .ok (.ifCond .ne 14, 3) := by decide +kernel
theorem dX9_readShare_12 : decode cX9_readShare 12 = .ok (.new 396, 3) := by decide +kernel
theorem dX9_readShare_15 : decode cX9_readShare 15 = .ok (.dup, 1) := by decide +kernel
theorem dX9_readShare_16 : decode cX9_readShare 16 = .ok (.ldc_w 404, 3) := by decide +kernel
theorem dX9_readShare_19 : decode cX9_readShare 19 = .ok (.invokespecial 400, 3) := by decide +kernel
theorem dX9_readShare_22 : decode cX9_readShare 22 = .ok (.athrow, 1) := by decide +kernel
theorem dX9_readShare_23 : decode cX9_readShare 23 = .ok (.aload_n 0, 1) := by decide +kernel
theorem dX9_readShare_24 : decode cX9_readShare 24 = .ok (.getfield 12, 3) := by decide +kernel
theorem dX9_readShare_27 : decode cX9_readShare 27 = .ok (.invokevirtual 153, 3) := by decide +kernel
theorem dX9_readShare_30 : decode cX9_readShare 30 = .ok (.i2f, 1) := by decide +kernel
theorem dX9_readShare_31 : decode cX9_readShare 31 = .ok (.iload_n 1, 1) := by decide +kernel
theorem dX9_readShare_32 : decode cX9_readShare 32 = .ok (.i2f, 1) := by decide +kernel
theorem dX9_readShare_33 : decode cX9_readShare 33 = .ok (.fdiv, 1) := by decide +kernel
theorem dX9_readShare_34 : decode cX9_readShare 34 = .ok (.freturn, 1) := by decide +kernel
theorem dX9_account_0 : decode cX9_account 0 = .ok (.iload_n 1, 1) := by decide +kernel
theorem dX9_account_1 : decode cX9_account 1 = .ok (.tableswitch 171 0 12 #[67, 75, 83, 91, 99, 107, 115, 123, 131, 139, 147, 155, 163], 67) := by decide +kernel
theorem dX9_account_68 : decode cX9_account 68 = .ok (.aload_n 0, 1) := by decide +kernel
theorem dX9_account_69 : decode cX9_account 69 = .ok (.getfield 12, 3) := by decide +kernel
theorem dX9_account_72 : decode cX9_account 72 = .ok (.invokevirtual 401, 3) := by decide +kernel
theorem dX9_account_75 : decode cX9_account 75 = .ok (.ireturn, 1) := by decide +kernel
theorem dX9_account_76 : decode cX9_account 76 = .ok (.aload_n 0, 1) := by decide +kernel
theorem dX9_account_77 : decode cX9_account 77 = .ok (.getfield 12, 3) := by decide +kernel
theorem dX9_account_80 : decode cX9_account 80 = .ok (.invokevirtual 393, 3) := by decide +kernel
theorem dX9_account_83 : decode cX9_account 83 = .ok (.ireturn, 1) := by decide +kernel
theorem dX9_account_84 : decode cX9_account 84 = .ok (.aload_n 0, 1) := by decide +kernel
theorem dX9_account_85 : decode cX9_account 85 = .ok (.getfield 12, 3) := by decide +kernel
theorem dX9_account_88 : decode cX9_account 88 = .ok (.invokevirtual 406, 3) := by decide +kernel
theorem dX9_account_91 : decode cX9_account 91 = .ok (.ireturn, 1) := by decide +kernel
theorem dX9_account_92 : decode cX9_account 92 = .ok (.aload_n 0, 1) := by decide +kernel
theorem dX9_account_93 : decode cX9_account 93 = .ok (.getfield 12, 3) := by decide +kernel
theorem dX9_account_96 : decode cX9_account 96 = .ok (.getfield 142, 3) := by decide +kernel
theorem dX9_account_99 : decode cX9_account 99 = .ok (.ireturn, 1) := by decide +kernel
theorem dX9_account_100 : decode cX9_account 100 = .ok (.aload_n 0, 1) := by decide +kernel
theorem dX9_account_101 : decode cX9_account 101 = .ok (.getfield 12, 3) := by decide +kernel
theorem dX9_account_104 : decode cX9_account 104 = .ok (.invokevirtual 407, 3) := by decide +kernel
theorem dX9_account_107 : decode cX9_account 107 = .ok (.ireturn, 1) := by decide +kernel
theorem dX9_account_108 : decode cX9_account 108 = .ok (.aload_n 0, 1) := by decide +kernel
theorem dX9_account_109 : decode cX9_account 109 = .ok (.getfield 12, 3) := by decide +kernel
theorem dX9_account_112 : decode cX9_account 112 = .ok (.getfield 176, 3) := by decide +kernel
theorem dX9_account_115 : decode cX9_account 115 = .ok (.ireturn, 1) := by decide +kernel
theorem dX9_account_116 : decode cX9_account 116 = .ok (.aload_n 0, 1) := by decide +kernel
theorem dX9_account_117 : decode cX9_account 117 = .ok (.getfield 12, 3) := by decide +kernel
theorem dX9_account_120 : decode cX9_account 120 = .ok (.invokevirtual 410, 3) := by decide +kernel
theorem dX9_account_123 : decode cX9_account 123 = .ok (.ireturn, 1) := by decide +kernel
theorem dX9_account_124 : decode cX9_account 124 = .ok (.aload_n 0, 1) := by decide +kernel
theorem dX9_account_125 : decode cX9_account 125 = .ok (.getfield 12, 3) := by decide +kernel
theorem dX9_account_128 : decode cX9_account 128 = .ok (.getfield 150, 3) := by decide +kernel
theorem dX9_account_131 : decode cX9_account 131 = .ok (.ireturn, 1) := by decide +kernel
theorem dX9_account_132 : decode cX9_account 132 = .ok (.aload_n 0, 1) := by decide +kernel
theorem dX9_account_133 : decode cX9_account 133 = .ok (.getfield 12, 3) := by decide +kernel
theorem dX9_account_136 : decode cX9_account 136 = .ok (.getfield 413, 3) := by decide +kernel
theorem dX9_account_139 : decode cX9_account 139 = .ok (.ireturn, 1) := by decide +kernel
theorem dX9_account_140 : decode cX9_account 140 = .ok (.aload_n 0, 1) := by decide +kernel
theorem dX9_account_141 : decode cX9_account 141 = .ok (.getfield 12, 3) := by decide +kernel
theorem dX9_account_144 : decode cX9_account 144 = .ok (.getfield 416, 3) := by decide +kernel
theorem dX9_account_147 : decode cX9_account 147 = .ok (.ireturn, 1) := by decide +kernel
theorem dX9_account_148 : decode cX9_account 148 = .ok (.aload_n 0, 1) := by decide +kernel
theorem dX9_account_149 : decode cX9_account 149 = .ok (.getfield 12, 3) := by decide +kernel
theorem dX9_account_152 : decode cX9_account 152 = .ok (.getfield 419, 3) := by decide +kernel
theorem dX9_account_155 : decode cX9_account 155 = .ok (.ireturn, 1) := by decide +kernel
theorem dX9_account_156 : decode cX9_account 156 = .ok (.aload_n 0, 1) := by decide +kernel
theorem dX9_account_157 : decode cX9_account 157 = .ok (.getfield 43, 3) := by decide +kernel
theorem dX9_account_160 : decode cX9_account 160 = .ok (.getfield 318, 3) := by decide +kernel
theorem dX9_account_163 : decode cX9_account 163 = .ok (.ireturn, 1) := by decide +kernel
theorem dX9_account_164 : decode cX9_account 164 = .ok (.aload_n 0, 1) := by decide +kernel
theorem dX9_account_165 : decode cX9_account 165 = .ok (.getfield 29, 3) := by decide +kernel
theorem dX9_account_168 : decode cX9_account 168 = .ok (.getfield 422, 3) := by decide +kernel
theorem dX9_account_171 : decode cX9_account 171 = .ok (.ireturn, 1) := by decide +kernel
theorem dX9_account_172 : decode cX9_account 172 = .ok (.new 232, 3) := by decide +kernel
theorem dX9_account_175 : decode cX9_account 175 = .ok (.dup, 1) := by decide +kernel
theorem dX9_account_176 : decode cX9_account 176 = .ok (.ldc 234, 2) := by decide +kernel
theorem dX9_account_178 : decode cX9_account 178 = .ok (.invokespecial 236, 3) := by decide +kernel
theorem dX9_account_181 : decode cX9_account 181 = .ok (.athrow, 1) := by decide +kernel
theorem dX9_isBalanced_0 : decode cX9_isBalanced 0 = .ok (.aload_n 0, 1) := by decide +kernel
theorem dX9_isBalanced_1 : decode cX9_isBalanced 1 = .ok (.getfield 12, 3) := by decide +kernel
theorem dX9_isBalanced_4 : decode cX9_isBalanced 4 = .ok (.aload_n 0, 1) := by decide +kernel
theorem dX9_isBalanced_5 : decode cX9_isBalanced 5 = .ok (.getfield 36, 3) := by decide +kernel
theorem dX9_isBalanced_8 : decode cX9_isBalanced 8 = .ok (.invokevirtual 425, 3) := by decide +kernel
theorem dX9_isBalanced_11 : decode cX9_isBalanced 11 = .ok (.ifCond .eq 46, 3) := by decide +kernel
theorem dX9_isBalanced_14 : decode cX9_isBalanced 14 = .ok (.aload_n 0, 1) := by decide +kernel
theorem dX9_isBalanced_15 : decode cX9_isBalanced 15 = .ok (.getfield 12, 3) := by decide +kernel
theorem dX9_isBalanced_18 : decode cX9_isBalanced 18 = .ok (.aload_n 0, 1) := by decide +kernel
theorem dX9_isBalanced_19 : decode cX9_isBalanced 19 = .ok (.getfield 36, 3) := by decide +kernel
theorem dX9_isBalanced_22 : decode cX9_isBalanced 22 = .ok (.invokevirtual 429, 3) := by decide +kernel
theorem dX9_isBalanced_25 : decode cX9_isBalanced 25 = .ok (.ifCond .eq 32, 3) := by decide +kernel
theorem dX9_isBalanced_28 : decode cX9_isBalanced 28 = .ok (.aload_n 0, 1) := by decide +kernel
theorem dX9_isBalanced_29 : decode cX9_isBalanced 29 = .ok (.getfield 12, 3) := by decide +kernel
theorem dX9_isBalanced_32 : decode cX9_isBalanced 32 = .ok (.getfield 413, 3) := by decide +kernel
theorem dX9_isBalanced_35 : decode cX9_isBalanced 35 = .ok (.aload_n 0, 1) := by decide +kernel
theorem dX9_isBalanced_36 : decode cX9_isBalanced 36 = .ok (.getfield 12, 3) := by decide +kernel
theorem dX9_isBalanced_39 : decode cX9_isBalanced 39 = .ok (.invokevirtual 406, 3) := by decide +kernel
theorem dX9_isBalanced_42 : decode cX9_isBalanced 42 = .ok (.aload_n 0, 1) := by decide +kernel
theorem dX9_isBalanced_43 : decode cX9_isBalanced 43 = .ok (.getfield 12, 3) := by decide +kernel
theorem dX9_isBalanced_46 : decode cX9_isBalanced 46 = .ok (.getfield 416, 3) := by decide +kernel
theorem dX9_isBalanced_49 : decode cX9_isBalanced 49 = .ok (.iadd, 1) := by decide +kernel
theorem dX9_isBalanced_50 : decode cX9_isBalanced 50 = .ok (.if_icmp .ne 7, 3) := by decide +kernel
theorem dX9_isBalanced_53 : decode cX9_isBalanced 53 = .ok (.iconst 1, 1) := by decide +kernel
theorem dX9_isBalanced_54 : decode cX9_isBalanced 54 = .ok (.goto 4, 3) := by decide +kernel
theorem dX9_isBalanced_57 : decode cX9_isBalanced 57 = .ok (.iconst 0, 1) := by decide +kernel
theorem dX9_isBalanced_58 : decode cX9_isBalanced 58 = .ok (.ireturn, 1) := by decide +kernel
theorem dX9_undo_0 : decode cX9_undo 0 = .ok (.aload_n 0, 1) := by decide +kernel
theorem dX9_undo_1 : decode cX9_undo 1 = .ok (.getfield 29, 3) := by decide +kernel
theorem dX9_undo_4 : decode cX9_undo 4 = .ok (.getfield 422, 3) := by decide +kernel
theorem dX9_undo_7 : decode cX9_undo 7 = .ok (.ifCond .ne 14, 3) := by decide +kernel
theorem dX9_undo_10 : decode cX9_undo 10 = .ok (.new 309, 3) := by decide +kernel
theorem dX9_undo_13 : decode cX9_undo 13 = .ok (.dup, 1) := by decide +kernel
theorem dX9_undo_14 : decode cX9_undo 14 = .ok (.ldc_w 432, 3) := by decide +kernel
theorem dX9_undo_17 : decode cX9_undo 17 = .ok (.invokespecial 313, 3) := by decide +kernel
theorem dX9_undo_20 : decode cX9_undo 20 = .ok (.athrow, 1) := by decide +kernel
theorem dX9_undo_21 : decode cX9_undo 21 = .ok (.aload_n 0, 1) := by decide +kernel
theorem dX9_undo_22 : decode cX9_undo 22 = .ok (.getfield 29, 3) := by decide +kernel
theorem dX9_undo_25 : decode cX9_undo 25 = .ok (.aload_n 0, 1) := by decide +kernel
theorem dX9_undo_26 : decode cX9_undo 26 = .ok (.getfield 12, 3) := by decide +kernel
theorem dX9_undo_29 : decode cX9_undo 29 = .ok (.invokevirtual 434, 3) := by decide +kernel
theorem dX9_undo_32 : decode cX9_undo 32 = .ok (.aload_n 0, 1) := by decide +kernel
theorem dX9_undo_33 : decode cX9_undo 33 = .ok (.getfield 29, 3) := by decide +kernel
theorem dX9_undo_36 : decode cX9_undo 36 = .ok (.getfield 422, 3) := by decide +kernel
theorem dX9_undo_39 : decode cX9_undo 39 = .ok (.ireturn, 1) := by decide +kernel
theorem dX9_save_0 : decode cX9_save 0 = .ok (.aload_n 0, 1) := by decide +kernel
theorem dX9_save_1 : decode cX9_save 1 = .ok (.getfield 19, 3) := by decide +kernel
theorem dX9_save_4 : decode cX9_save 4 = .ok (.aload_n 0, 1) := by decide +kernel
theorem dX9_save_5 : decode cX9_save 5 = .ok (.getfield 12, 3) := by decide +kernel
theorem dX9_save_8 : decode cX9_save 8 = .ok (.invokevirtual 329, 3) := by decide +kernel
theorem dX9_save_11 : decode cX9_save 11 = .ok (.aload_n 0, 1) := by decide +kernel
theorem dX9_save_12 : decode cX9_save 12 = .ok (.iconst 1, 1) := by decide +kernel
theorem dX9_save_13 : decode cX9_save 13 = .ok (.putfield 22, 3) := by decide +kernel
theorem dX9_save_16 : decode cX9_save 16 = .ok (.aload_n 0, 1) := by decide +kernel
theorem dX9_save_17 : decode cX9_save 17 = .ok (.getfield 19, 3) := by decide +kernel
theorem dX9_save_20 : decode cX9_save 20 = .ok (.getfield 176, 3) := by decide +kernel
theorem dX9_save_23 : decode cX9_save 23 = .ok (.ireturn, 1) := by decide +kernel
theorem dX9_restore_0 : decode cX9_restore 0 = .ok (.aload_n 0, 1) := by decide +kernel
theorem dX9_restore_1 : decode cX9_restore 1 = .ok (.getfield 22, 3) := by decide +kernel
theorem dX9_restore_4 : decode cX9_restore 4 = .ok (.ifCond .ne 14, 3) := by decide +kernel
theorem dX9_restore_7 : decode cX9_restore 7 = .ok (.new 309, 3) := by decide +kernel
theorem dX9_restore_10 : decode cX9_restore 10 = .ok (.dup, 1) := by decide +kernel
theorem dX9_restore_11 : decode cX9_restore 11 = .ok (.ldc_w 437, 3) := by decide +kernel
theorem dX9_restore_14 : decode cX9_restore 14 = .ok (.invokespecial 313, 3) := by decide +kernel
theorem dX9_restore_17 : decode cX9_restore 17 = .ok (.athrow, 1) := by decide +kernel
theorem dX9_restore_18 : decode cX9_restore 18 = .ok (.aload_n 0, 1) := by decide +kernel
theorem dX9_restore_19 : decode cX9_restore 19 = .ok (.getfield 12, 3) := by decide +kernel
theorem dX9_restore_22 : decode cX9_restore 22 = .ok (.aload_n 0, 1) := by decide +kernel
theorem dX9_restore_23 : decode cX9_restore 23 = .ok (.getfield 19, 3) := by decide +kernel
theorem dX9_restore_26 : decode cX9_restore 26 = .ok (.invokevirtual 329, 3) := by decide +kernel
theorem dX9_restore_29 : decode cX9_restore 29 = .ok (.aload_n 0, 1) := by decide +kernel
theorem dX9_restore_30 : decode cX9_restore 30 = .ok (.getfield 29, 3) := by decide +kernel
theorem dX9_restore_33 : decode cX9_restore 33 = .ok (.invokevirtual 439, 3) := by decide +kernel
theorem dX9_restore_36 : decode cX9_restore 36 = .ok (.aload_n 0, 1) := by decide +kernel
theorem dX9_restore_37 : decode cX9_restore 37 = .ok (.getfield 12, 3) := by decide +kernel
theorem dX9_restore_40 : decode cX9_restore 40 = .ok (.getfield 176, 3) := by decide +kernel
theorem dX9_restore_43 : decode cX9_restore 43 = .ok (.ireturn, 1) := by decide +kernel
theorem dX9_keepsReason_0 : decode cX9_keepsReason 0 = .ok (.iload_n 1, 1) := by decide +kernel
theorem dX9_keepsReason_1 : decode cX9_keepsReason 1 = .ok (.ifCond .ne 5, 3) := by decide +kernel
theorem dX9_keepsReason_4 : decode cX9_keepsReason 4 = .ok (.iconst 0, 1) := by decide +kernel
theorem dX9_keepsReason_5 : decode cX9_keepsReason 5 = .ok (.ireturn, 1) := by decide +kernel
theorem dX9_keepsReason_6 : decode cX9_keepsReason 6 = .ok (.aload_n 0, 1) := by decide +kernel
theorem dX9_keepsReason_7 : decode cX9_keepsReason 7 = .ok (.getfield 57, 3) := by decide +kernel
theorem dX9_keepsReason_10 : decode cX9_keepsReason 10 = .ok (.iload_n 1, 1) := by decide +kernel
theorem dX9_keepsReason_11 : decode cX9_keepsReason 11 = .ok (.aload_n 0, 1) := by decide +kernel
theorem dX9_keepsReason_12 : decode cX9_keepsReason 12 = .ok (.getfield 61, 3) := by decide +kernel
theorem dX9_keepsReason_15 : decode cX9_keepsReason 15 = .ok (.invokevirtual 440, 3) := by decide +kernel
theorem dX9_keepsReason_18 : decode cX9_keepsReason 18 = .ok (.iconst 1, 1) := by decide +kernel
theorem dX9_keepsReason_19 : decode cX9_keepsReason 19 = .ok (.ireturn, 1) := by decide +kernel
theorem dX9_found_0 : decode cX9_found 0 = .ok (.aload_n 0, 1) := by decide +kernel
theorem dX9_found_1 : decode cX9_found 1 = .ok (.iload_n 2, 1) := by decide +kernel
theorem dX9_found_2 : decode cX9_found 2 = .ok (.putfield 61, 3) := by decide +kernel
theorem dX9_found_5 : decode cX9_found 5 = .ok (.iload_n 1, 1) := by decide +kernel
theorem dX9_found_6 : decode cX9_found 6 = .ok (.ireturn, 1) := by decide +kernel
theorem dX9_reasonAgainstKnot_0 : decode cX9_reasonAgainstKnot 0 = .ok (.iload_n 1, 1) := by decide +kernel
theorem dX9_reasonAgainstKnot_1 : decode cX9_reasonAgainstKnot 1 = .ok (.invokestatic 187, 3) := by decide +kernel
theorem dX9_reasonAgainstKnot_4 : decode cX9_reasonAgainstKnot 4 = .ok (.ifCond .ne 10, 3) := by decide +kernel
theorem dX9_reasonAgainstKnot_7 : decode cX9_reasonAgainstKnot 7 = .ok (.aload_n 0, 1) := by decide +kernel
theorem dX9_reasonAgainstKnot_8 : decode cX9_reasonAgainstKnot 8 = .ok (.iconst 2, 1) := by decide +kernel
theorem dX9_reasonAgainstKnot_9 : decode cX9_reasonAgainstKnot 9 = .ok (.iload_n 1, 1) := by decide +kernel
theorem dX9_reasonAgainstKnot_10 : decode cX9_reasonAgainstKnot 10 = .ok (.invokevirtual 443, 3) := by decide +kernel
theorem dX9_reasonAgainstKnot_13 : decode cX9_reasonAgainstKnot 13 = .ok (.ireturn, 1) := by decide +kernel
theorem dX9_reasonAgainstKnot_14 : decode cX9_reasonAgainstKnot 14 = .ok (.iload_n 2, 1) := by decide +kernel
theorem dX9_reasonAgainstKnot_15 : decode cX9_reasonAgainstKnot 15 = .ok (.invokestatic 190, 3) := by decide +kernel
theorem dX9_reasonAgainstKnot_18 : decode cX9_reasonAgainstKnot 18 = .ok (.ifCond .ne 10, 3) := by decide +kernel
theorem dX9_reasonAgainstKnot_21 : decode cX9_reasonAgainstKnot 21 = .ok (.aload_n 0, 1) := by decide +kernel
theorem dX9_reasonAgainstKnot_22 : decode cX9_reasonAgainstKnot 22 = .ok (.iconst 2, 1) := by decide +kernel
theorem dX9_reasonAgainstKnot_23 : decode cX9_reasonAgainstKnot 23 = .ok (.iload_n 2, 1) := by decide +kernel
theorem dX9_reasonAgainstKnot_24 : decode cX9_reasonAgainstKnot 24 = .ok (.invokevirtual 443, 3) := by decide +kernel
theorem dX9_reasonAgainstKnot_27 : decode cX9_reasonAgainstKnot 27 = .ok (.ireturn, 1) := by decide +kernel
theorem dX9_reasonAgainstKnot_28 : decode cX9_reasonAgainstKnot 28 = .ok (.iload_n 3, 1) := by decide +kernel
theorem dX9_reasonAgainstKnot_29 : decode cX9_reasonAgainstKnot 29 = .ok (.ifCond .lt 8, 3) := by decide +kernel
theorem dX9_reasonAgainstKnot_32 : decode cX9_reasonAgainstKnot 32 = .ok (.iload_n 3, 1) := by decide +kernel
theorem dX9_reasonAgainstKnot_33 : decode cX9_reasonAgainstKnot 33 = .ok (.iconst 3, 1) := by decide +kernel
theorem dX9_reasonAgainstKnot_34 : decode cX9_reasonAgainstKnot 34 = .ok (.if_icmp .le 10, 3) := by decide +kernel
theorem dX9_reasonAgainstKnot_37 : decode cX9_reasonAgainstKnot 37 = .ok (.aload_n 0, 1) := by decide +kernel
theorem dX9_reasonAgainstKnot_38 : decode cX9_reasonAgainstKnot 38 = .ok (.iconst 3, 1) := by decide +kernel
theorem dX9_reasonAgainstKnot_39 : decode cX9_reasonAgainstKnot 39 = .ok (.iload_n 3, 1) := by decide +kernel
theorem dX9_reasonAgainstKnot_40 : decode cX9_reasonAgainstKnot 40 = .ok (.invokevirtual 443, 3) := by decide +kernel
theorem dX9_reasonAgainstKnot_43 : decode cX9_reasonAgainstKnot 43 = .ok (.ireturn, 1) := by decide +kernel
theorem dX9_reasonAgainstKnot_44 : decode cX9_reasonAgainstKnot 44 = .ok (.aload_n 0, 1) := by decide +kernel
theorem dX9_reasonAgainstKnot_45 : decode cX9_reasonAgainstKnot 45 = .ok (.getfield 12, 3) := by decide +kernel
theorem dX9_reasonAgainstKnot_48 : decode cX9_reasonAgainstKnot 48 = .ok (.iload_n 1, 1) := by decide +kernel
theorem dX9_reasonAgainstKnot_49 : decode cX9_reasonAgainstKnot 49 = .ok (.invokevirtual 87, 3) := by decide +kernel
theorem dX9_reasonAgainstKnot_52 : decode cX9_reasonAgainstKnot 52 = .ok (.iload_n 2, 1) := by decide +kernel
theorem dX9_reasonAgainstKnot_53 : decode cX9_reasonAgainstKnot 53 = .ok (.invokevirtual 91, 3) := by decide +kernel
theorem dX9_reasonAgainstKnot_56 : decode cX9_reasonAgainstKnot 56 = .ok (.iload_n 3, 1) := by decide +kernel
theorem dX9_reasonAgainstKnot_57 : decode cX9_reasonAgainstKnot 57 = .ok (.if_icmp .ne 10, 3) := by decide +kernel
theorem dX9_reasonAgainstKnot_60 : decode cX9_reasonAgainstKnot 60 = .ok (.aload_n 0, 1) := by decide +kernel
theorem dX9_reasonAgainstKnot_61 : decode cX9_reasonAgainstKnot 61 = .ok (.iconst 4, 1) := by decide +kernel
theorem dX9_reasonAgainstKnot_62 : decode cX9_reasonAgainstKnot 62 = .ok (.iload_n 3, 1) := by decide +kernel
theorem dX9_reasonAgainstKnot_63 : decode cX9_reasonAgainstKnot 63 = .ok (.invokevirtual 443, 3) := by decide +kernel
theorem dX9_reasonAgainstKnot_66 : decode cX9_reasonAgainstKnot 66 = .ok (.ireturn, 1) := by decide +kernel
theorem dX9_reasonAgainstKnot_67 : decode cX9_reasonAgainstKnot 67 = .ok (.iconst 0, 1) := by decide +kernel
theorem dX9_reasonAgainstKnot_68 : decode cX9_reasonAgainstKnot 68 = .ok (.ireturn, 1) := by decide +kernel
theorem dX9_reasonAgainstEnds_0 : decode cX9_reasonAgainstEnds 0 = .ok (.iload_n 1, 1) := by decide +kernel
theorem dX9_reasonAgainstEnds_1 : decode cX9_reasonAgainstEnds 1 = .ok (.invokestatic 187, 3) := by decide +kernel
theorem dX9_reasonAgainstEnds_4 : decode cX9_reasonAgainstEnds 4 = .ok (.ifCond .ne 10, 3) := by decide +kernel
theorem dX9_reasonAgainstEnds_7 : decode cX9_reasonAgainstEnds 7 = .ok (.aload_n 0, 1) := by decide +kernel
theorem dX9_reasonAgainstEnds_8 : decode cX9_reasonAgainstEnds 8 = .ok (.iconst 2, 1) := by decide +kernel
theorem dX9_reasonAgainstEnds_9 : decode cX9_reasonAgainstEnds 9 = .ok (.iload_n 1, 1) := by decide +kernel
theorem dX9_reasonAgainstEnds_10 : decode cX9_reasonAgainstEnds 10 = .ok (.invokevirtual 443, 3) := by decide +kernel
theorem dX9_reasonAgainstEnds_13 : decode cX9_reasonAgainstEnds 13 = .ok (.ireturn, 1) := by decide +kernel
theorem dX9_reasonAgainstEnds_14 : decode cX9_reasonAgainstEnds 14 = .ok (.iload_n 2, 1) := by decide +kernel
theorem dX9_reasonAgainstEnds_15 : decode cX9_reasonAgainstEnds 15 = .ok (.invokestatic 190, 3) := by decide +kernel
theorem dX9_reasonAgainstEnds_18 : decode cX9_reasonAgainstEnds 18 = .ok (.ifCond .ne 10, 3) := by decide +kernel
theorem dX9_reasonAgainstEnds_21 : decode cX9_reasonAgainstEnds 21 = .ok (.aload_n 0, 1) := by decide +kernel
theorem dX9_reasonAgainstEnds_22 : decode cX9_reasonAgainstEnds 22 = .ok (.iconst 2, 1) := by decide +kernel
theorem dX9_reasonAgainstEnds_23 : decode cX9_reasonAgainstEnds 23 = .ok (.iload_n 2, 1) := by decide +kernel
theorem dX9_reasonAgainstEnds_24 : decode cX9_reasonAgainstEnds 24 = .ok (.invokevirtual 443, 3) := by decide +kernel
theorem dX9_reasonAgainstEnds_27 : decode cX9_reasonAgainstEnds 27 = .ok (.ireturn, 1) := by decide +kernel
theorem dX9_reasonAgainstEnds_28 : decode cX9_reasonAgainstEnds 28 = .ok (.iload_n 3, 1) := by decide +kernel
theorem dX9_reasonAgainstEnds_29 : decode cX9_reasonAgainstEnds 29 = .ok (.invokestatic 190, 3) := by decide +kernel
theorem dX9_reasonAgainstEnds_32 : decode cX9_reasonAgainstEnds 32 = .ok (.ifCond .ne 10, 3) := by decide +kernel
theorem dX9_reasonAgainstEnds_35 : decode cX9_reasonAgainstEnds 35 = .ok (.aload_n 0, 1) := by decide +kernel
theorem dX9_reasonAgainstEnds_36 : decode cX9_reasonAgainstEnds 36 = .ok (.iconst 2, 1) := by decide +kernel
theorem dX9_reasonAgainstEnds_37 : decode cX9_reasonAgainstEnds 37 = .ok (.iload_n 3, 1) := by decide +kernel
theorem dX9_reasonAgainstEnds_38 : decode cX9_reasonAgainstEnds 38 = .ok (.invokevirtual 443, 3) := by decide +kernel
theorem dX9_reasonAgainstEnds_41 : decode cX9_reasonAgainstEnds 41 = .ok (.ireturn, 1) := by decide +kernel
theorem dX9_reasonAgainstEnds_42 : decode cX9_reasonAgainstEnds 42 = .ok (.iconst 0, 1) := by decide +kernel
theorem dX9_reasonAgainstEnds_43 : decode cX9_reasonAgainstEnds 43 = .ok (.ireturn, 1) := by decide +kernel
theorem dX9_reasonAgainstString_0 : decode cX9_reasonAgainstString 0 = .ok (.iload_n 2, 1) := by decide +kernel
theorem dX9_reasonAgainstString_1 : decode cX9_reasonAgainstString 1 = .ok (.iload_n 3, 1) := by decide +kernel
theorem dX9_reasonAgainstString_2 : decode cX9_reasonAgainstString 2 = .ok (.invokestatic 198, 3) := by decide +kernel
theorem dX9_reasonAgainstString_5 : decode cX9_reasonAgainstString 5 = .ok (.ifCond .ne 10, 3) := by decide +kernel
theorem dX9_reasonAgainstString_8 : decode cX9_reasonAgainstString 8 = .ok (.aload_n 0, 1) := by decide +kernel
theorem dX9_reasonAgainstString_9 : decode cX9_reasonAgainstString 9 = .ok (.iconst 5, 1) := by decide +kernel
theorem dX9_reasonAgainstString_10 : decode cX9_reasonAgainstString 10 = .ok (.iload_n 3, 1) := by decide +kernel
theorem dX9_reasonAgainstString_11 : decode cX9_reasonAgainstString 11 = .ok (.invokevirtual 443, 3) := by decide +kernel
theorem dX9_reasonAgainstString_14 : decode cX9_reasonAgainstString 14 = .ok (.ireturn, 1) := by decide +kernel
theorem dX9_reasonAgainstString_15 : decode cX9_reasonAgainstString 15 = .ok (.aload_n 0, 1) := by decide +kernel
theorem dX9_reasonAgainstString_16 : decode cX9_reasonAgainstString 16 = .ok (.getfield 12, 3) := by decide +kernel
theorem dX9_reasonAgainstString_19 : decode cX9_reasonAgainstString 19 = .ok (.iload_n 1, 1) := by decide +kernel
theorem dX9_reasonAgainstString_20 : decode cX9_reasonAgainstString 20 = .ok (.invokevirtual 87, 3) := by decide +kernel
theorem dX9_reasonAgainstString_23 : decode cX9_reasonAgainstString 23 = .ok (.iload_n 2, 1) := by decide +kernel
theorem dX9_reasonAgainstString_24 : decode cX9_reasonAgainstString 24 = .ok (.iload_n 3, 1) := by decide +kernel
theorem dX9_reasonAgainstString_25 : decode cX9_reasonAgainstString 25 = .ok (.invokevirtual 207, 3) := by decide +kernel
theorem dX9_reasonAgainstString_28 : decode cX9_reasonAgainstString 28 = .ok (.iload 4, 2) := by decide +kernel
theorem dX9_reasonAgainstString_30 : decode cX9_reasonAgainstString 30 = .ok (.if_icmp .eq 14, 3) := by decide +kernel
theorem dX9_reasonAgainstString_33 : decode cX9_reasonAgainstString 33 = .ok (.aload_n 0, 1) := by decide +kernel
theorem dX9_reasonAgainstString_34 : decode cX9_reasonAgainstString 34 = .ok (.iconst 4, 1) := by decide +kernel
theorem dX9_reasonAgainstString_35 : decode cX9_reasonAgainstString 35 = .ok (.iload_n 2, 1) := by decide +kernel
theorem dX9_reasonAgainstString_36 : decode cX9_reasonAgainstString 36 = .ok (.iload_n 3, 1) := by decide +kernel
theorem dX9_reasonAgainstString_37 : decode cX9_reasonAgainstString 37 = .ok (.invokestatic 446, 3) := by decide +kernel
theorem dX9_reasonAgainstString_40 : decode cX9_reasonAgainstString 40 = .ok (.invokevirtual 443, 3) := by decide +kernel
theorem dX9_reasonAgainstString_43 : decode cX9_reasonAgainstString 43 = .ok (.ireturn, 1) := by decide +kernel
theorem dX9_reasonAgainstString_44 : decode cX9_reasonAgainstString 44 = .ok (.iconst 0, 1) := by decide +kernel
theorem dX9_reasonAgainstString_45 : decode cX9_reasonAgainstString 45 = .ok (.ireturn, 1) := by decide +kernel
theorem dX9_reasonAgainstTear_0 : decode cX9_reasonAgainstTear 0 = .ok (.aload_n 0, 1) := by decide +kernel
theorem dX9_reasonAgainstTear_1 : decode cX9_reasonAgainstTear 1 = .ok (.iload_n 1, 1) := by decide +kernel
theorem dX9_reasonAgainstTear_2 : decode cX9_reasonAgainstTear 2 = .ok (.iload_n 2, 1) := by decide +kernel
theorem dX9_reasonAgainstTear_3 : decode cX9_reasonAgainstTear 3 = .ok (.iload_n 3, 1) := by decide +kernel
theorem dX9_reasonAgainstTear_4 : decode cX9_reasonAgainstTear 4 = .ok (.invokevirtual 451, 3) := by decide +kernel
theorem dX9_reasonAgainstTear_7 : decode cX9_reasonAgainstTear 7 = .ok (.istore 4, 2) := by decide +kernel
theorem dX9_reasonAgainstTear_9 : decode cX9_reasonAgainstTear 9 = .ok (.iload 4, 2) := by decide +kernel
theorem dX9_reasonAgainstTear_11 : decode cX9_reasonAgainstTear 11 = .ok (.ifCond .ne 14, 3) := by decide +kernel
theorem dX9_reasonAgainstTear_14 : decode cX9_reasonAgainstTear 14 = .ok (.aload_n 0, 1) := by decide +kernel
theorem dX9_reasonAgainstTear_15 : decode cX9_reasonAgainstTear 15 = .ok (.iload_n 1, 1) := by decide +kernel
theorem dX9_reasonAgainstTear_16 : decode cX9_reasonAgainstTear 16 = .ok (.iload_n 2, 1) := by decide +kernel
theorem dX9_reasonAgainstTear_17 : decode cX9_reasonAgainstTear 17 = .ok (.iload_n 3, 1) := by decide +kernel
theorem dX9_reasonAgainstTear_18 : decode cX9_reasonAgainstTear 18 = .ok (.iconst 0, 1) := by decide +kernel
theorem dX9_reasonAgainstTear_19 : decode cX9_reasonAgainstTear 19 = .ok (.invokevirtual 454, 3) := by decide +kernel
theorem dX9_reasonAgainstTear_22 : decode cX9_reasonAgainstTear 22 = .ok (.goto 5, 3) := by decide +kernel
theorem dX9_reasonAgainstTear_25 : decode cX9_reasonAgainstTear 25 = .ok (.iload 4, 2) := by decide +kernel
theorem dX9_reasonAgainstTear_27 : decode cX9_reasonAgainstTear 27 = .ok (.ireturn, 1) := by decide +kernel
theorem dX9_reasonAgainstMend_0 : decode cX9_reasonAgainstMend 0 = .ok (.aload_n 0, 1) := by decide +kernel
theorem dX9_reasonAgainstMend_1 : decode cX9_reasonAgainstMend 1 = .ok (.iload_n 1, 1) := by decide +kernel
theorem dX9_reasonAgainstMend_2 : decode cX9_reasonAgainstMend 2 = .ok (.iload_n 2, 1) := by decide +kernel
theorem dX9_reasonAgainstMend_3 : decode cX9_reasonAgainstMend 3 = .ok (.iload_n 3, 1) := by decide +kernel
theorem dX9_reasonAgainstMend_4 : decode cX9_reasonAgainstMend 4 = .ok (.invokevirtual 451, 3) := by decide +kernel
theorem dX9_reasonAgainstMend_7 : decode cX9_reasonAgainstMend 7 = .ok (.istore 5, 2) := by decide +kernel
theorem dX9_reasonAgainstMend_9 : decode cX9_reasonAgainstMend 9 = .ok (.iload 5, 2) := by decide +kernel
theorem dX9_reasonAgainstMend_11 : decode cX9_reasonAgainstMend 11 = .ok (.ifCond .eq 6, 3) := by decide +kernel
theorem dX9_reasonAgainstMend_14 : decode cX9_reasonAgainstMend 14 = .ok (.iload 5, 2) := by decide +kernel
theorem dX9_reasonAgainstMend_16 : decode cX9_reasonAgainstMend 16 = .ok (.ireturn, 1) := by decide +kernel
theorem dX9_reasonAgainstMend_17 : decode cX9_reasonAgainstMend 17 = .ok (.aload_n 0, 1) := by decide +kernel
theorem dX9_reasonAgainstMend_18 : decode cX9_reasonAgainstMend 18 = .ok (.getfield 12, 3) := by decide +kernel
theorem dX9_reasonAgainstMend_21 : decode cX9_reasonAgainstMend 21 = .ok (.iload 4, 2) := by decide +kernel
theorem dX9_reasonAgainstMend_23 : decode cX9_reasonAgainstMend 23 = .ok (.invokevirtual 297, 3) := by decide +kernel
theorem dX9_reasonAgainstMend_26 : decode cX9_reasonAgainstMend 26 = .ok (.ifCond .ne 11, 3) := by decide +kernel
theorem dX9_reasonAgainstMend_29 : decode cX9_reasonAgainstMend 29 = .ok (.aload_n 0, 1) := by decide +kernel
theorem dX9_reasonAgainstMend_30 : decode cX9_reasonAgainstMend 30 = .ok (.iconst 2, 1) := by decide +kernel
theorem dX9_reasonAgainstMend_31 : decode cX9_reasonAgainstMend 31 = .ok (.iload 4, 2) := by decide +kernel
theorem dX9_reasonAgainstMend_33 : decode cX9_reasonAgainstMend 33 = .ok (.invokevirtual 443, 3) := by decide +kernel
theorem dX9_reasonAgainstMend_36 : decode cX9_reasonAgainstMend 36 = .ok (.ireturn, 1) := by decide +kernel
theorem dX9_reasonAgainstMend_37 : decode cX9_reasonAgainstMend 37 = .ok (.aload_n 0, 1) := by decide +kernel
theorem dX9_reasonAgainstMend_38 : decode cX9_reasonAgainstMend 38 = .ok (.iload_n 1, 1) := by decide +kernel
theorem dX9_reasonAgainstMend_39 : decode cX9_reasonAgainstMend 39 = .ok (.iload_n 2, 1) := by decide +kernel
theorem dX9_reasonAgainstMend_40 : decode cX9_reasonAgainstMend 40 = .ok (.iload_n 3, 1) := by decide +kernel
theorem dX9_reasonAgainstMend_41 : decode cX9_reasonAgainstMend 41 = .ok (.iconst 1, 1) := by decide +kernel
theorem dX9_reasonAgainstMend_42 : decode cX9_reasonAgainstMend 42 = .ok (.invokevirtual 454, 3) := by decide +kernel
theorem dX9_reasonAgainstMend_45 : decode cX9_reasonAgainstMend 45 = .ok (.istore 5, 2) := by decide +kernel
theorem dX9_reasonAgainstMend_47 : decode cX9_reasonAgainstMend 47 = .ok (.iload 5, 2) := by decide +kernel
theorem dX9_reasonAgainstMend_49 : decode cX9_reasonAgainstMend 49 = .ok (.ifCond .eq 6, 3) := by decide +kernel
theorem dX9_reasonAgainstMend_52 : decode cX9_reasonAgainstMend 52 = .ok (.iload 5, 2) := by decide +kernel
theorem dX9_reasonAgainstMend_54 : decode cX9_reasonAgainstMend 54 = .ok (.ireturn, 1) := by decide +kernel
theorem dX9_reasonAgainstMend_55 : decode cX9_reasonAgainstMend 55 = .ok (.aload_n 0, 1) := by decide +kernel
theorem dX9_reasonAgainstMend_56 : decode cX9_reasonAgainstMend 56 = .ok (.getfield 12, 3) := by decide +kernel
theorem dX9_reasonAgainstMend_59 : decode cX9_reasonAgainstMend 59 = .ok (.iload 4, 2) := by decide +kernel
theorem dX9_reasonAgainstMend_61 : decode cX9_reasonAgainstMend 61 = .ok (.invokevirtual 124, 3) := by decide +kernel
theorem dX9_reasonAgainstMend_64 : decode cX9_reasonAgainstMend 64 = .ok (.getfield 128, 3) := by decide +kernel
theorem dX9_reasonAgainstMend_67 : decode cX9_reasonAgainstMend 67 = .ok (.istore 6, 2) := by decide +kernel
theorem dX9_reasonAgainstMend_69 : decode cX9_reasonAgainstMend 69 = .ok (.iload 6, 2) := by decide +kernel
theorem dX9_reasonAgainstMend_71 : decode cX9_reasonAgainstMend 71 = .ok (.iload_n 2, 1) := by decide +kernel
theorem dX9_reasonAgainstMend_72 : decode cX9_reasonAgainstMend 72 = .ok (.iload_n 3, 1) := by decide +kernel
theorem dX9_reasonAgainstMend_73 : decode cX9_reasonAgainstMend 73 = .ok (.invokestatic 458, 3) := by decide +kernel
theorem dX9_reasonAgainstMend_76 : decode cX9_reasonAgainstMend 76 = .ok (.if_icmp .ge 14, 3) := by decide +kernel
theorem dX9_reasonAgainstMend_79 : decode cX9_reasonAgainstMend 79 = .ok (.aload_n 0, 1) := by decide +kernel
theorem dX9_reasonAgainstMend_80 : decode cX9_reasonAgainstMend 80 = .ok (.bipush 6, 2) := by decide +kernel
theorem dX9_reasonAgainstMend_82 : decode cX9_reasonAgainstMend 82 = .ok (.iload 6, 2) := by decide +kernel
theorem dX9_reasonAgainstMend_84 : decode cX9_reasonAgainstMend 84 = .ok (.invokevirtual 443, 3) := by decide +kernel
theorem dX9_reasonAgainstMend_87 : decode cX9_reasonAgainstMend 87 = .ok (.goto 4, 3) := by decide +kernel
theorem dX9_reasonAgainstMend_90 : decode cX9_reasonAgainstMend 90 = .ok (.iconst 0, 1) := by decide +kernel
theorem dX9_reasonAgainstMend_91 : decode cX9_reasonAgainstMend 91 = .ok (.ireturn, 1) := by decide +kernel
theorem dX9_reasonAgainstEditor_0 : decode cX9_reasonAgainstEditor 0 = .ok (.iload_n 1, 1) := by decide +kernel
theorem dX9_reasonAgainstEditor_1 : decode cX9_reasonAgainstEditor 1 = .ok (.ifCond .lt 9, 3) := by decide +kernel
theorem dX9_reasonAgainstEditor_4 : decode cX9_reasonAgainstEditor 4 = .ok (.iload_n 1, 1) := by decide +kernel
theorem dX9_reasonAgainstEditor_5 : decode cX9_reasonAgainstEditor 5 = .ok (.bipush 99, 2) := by decide +kernel
theorem dX9_reasonAgainstEditor_7 : decode cX9_reasonAgainstEditor 7 = .ok (.if_icmp .le 10, 3) := by decide +kernel
theorem dX9_reasonAgainstEditor_10 : decode cX9_reasonAgainstEditor 10 = .ok (.aload_n 0, 1) := by decide +kernel
theorem dX9_reasonAgainstEditor_11 : decode cX9_reasonAgainstEditor 11 = .ok (.iconst 3, 1) := by decide +kernel
theorem dX9_reasonAgainstEditor_12 : decode cX9_reasonAgainstEditor 12 = .ok (.iload_n 1, 1) := by decide +kernel
theorem dX9_reasonAgainstEditor_13 : decode cX9_reasonAgainstEditor 13 = .ok (.invokevirtual 443, 3) := by decide +kernel
theorem dX9_reasonAgainstEditor_16 : decode cX9_reasonAgainstEditor 16 = .ok (.ireturn, 1) := by decide +kernel
theorem dX9_reasonAgainstEditor_17 : decode cX9_reasonAgainstEditor 17 = .ok (.aload_n 0, 1) := by decide +kernel
theorem dX9_reasonAgainstEditor_18 : decode cX9_reasonAgainstEditor 18 = .ok (.getfield 12, 3) := by decide +kernel
theorem dX9_reasonAgainstEditor_21 : decode cX9_reasonAgainstEditor 21 = .ok (.getfield 142, 3) := by decide +kernel
theorem dX9_reasonAgainstEditor_24 : decode cX9_reasonAgainstEditor 24 = .ok (.iconst 4, 1) := by decide +kernel
theorem dX9_reasonAgainstEditor_25 : decode cX9_reasonAgainstEditor 25 = .ok (.if_icmp .lt 18, 3) := by decide +kernel
theorem dX9_reasonAgainstEditor_28 : decode cX9_reasonAgainstEditor 28 = .ok (.aload_n 0, 1) := by decide +kernel
theorem dX9_reasonAgainstEditor_29 : decode cX9_reasonAgainstEditor 29 = .ok (.iconst 1, 1) := by decide +kernel
theorem dX9_reasonAgainstEditor_30 : decode cX9_reasonAgainstEditor 30 = .ok (.aload_n 0, 1) := by decide +kernel
theorem dX9_reasonAgainstEditor_31 : decode cX9_reasonAgainstEditor 31 = .ok (.getfield 12, 3) := by decide +kernel
theorem dX9_reasonAgainstEditor_34 : decode cX9_reasonAgainstEditor 34 = .ok (.getfield 142, 3) := by decide +kernel
theorem dX9_reasonAgainstEditor_37 : decode cX9_reasonAgainstEditor 37 = .ok (.invokevirtual 443, 3) := by decide +kernel
theorem dX9_reasonAgainstEditor_40 : decode cX9_reasonAgainstEditor 40 = .ok (.goto 4, 3) := by decide +kernel
theorem dX9_reasonAgainstEditor_43 : decode cX9_reasonAgainstEditor 43 = .ok (.iconst 0, 1) := by decide +kernel
theorem dX9_reasonAgainstEditor_44 : decode cX9_reasonAgainstEditor 44 = .ok (.ireturn, 1) := by decide +kernel
theorem dX9_reasonAgainstTide_0 : decode cX9_reasonAgainstTide 0 = .ok (.iload_n 1, 1) := by decide +kernel
theorem dX9_reasonAgainstTide_1 : decode cX9_reasonAgainstTide 1 = .ok (.ifCond .lt 8, 3) := by decide +kernel
theorem dX9_reasonAgainstTide_4 : decode cX9_reasonAgainstTide 4 = .ok (.iload_n 1, 1) := by decide +kernel
theorem dX9_reasonAgainstTide_5 : decode cX9_reasonAgainstTide 5 = .ok (.iconst 4, 1) := by decide +kernel
theorem dX9_reasonAgainstTide_6 : decode cX9_reasonAgainstTide 6 = .ok (.if_icmp .le 10, 3) := by decide +kernel
theorem dX9_reasonAgainstTide_9 : decode cX9_reasonAgainstTide 9 = .ok (.aload_n 0, 1) := by decide +kernel
theorem dX9_reasonAgainstTide_10 : decode cX9_reasonAgainstTide 10 = .ok (.iconst 3, 1) := by decide +kernel
theorem dX9_reasonAgainstTide_11 : decode cX9_reasonAgainstTide 11 = .ok (.iload_n 1, 1) := by decide +kernel
theorem dX9_reasonAgainstTide_12 : decode cX9_reasonAgainstTide 12 = .ok (.invokevirtual 443, 3) := by decide +kernel
theorem dX9_reasonAgainstTide_15 : decode cX9_reasonAgainstTide 15 = .ok (.ireturn, 1) := by decide +kernel
theorem dX9_reasonAgainstTide_16 : decode cX9_reasonAgainstTide 16 = .ok (.aload_n 0, 1) := by decide +kernel
theorem dX9_reasonAgainstTide_17 : decode cX9_reasonAgainstTide 17 = .ok (.getfield 12, 3) := by decide +kernel
theorem dX9_reasonAgainstTide_20 : decode cX9_reasonAgainstTide 20 = .ok (.getfield 150, 3) := by decide +kernel
theorem dX9_reasonAgainstTide_23 : decode cX9_reasonAgainstTide 23 = .ok (.iload_n 1, 1) := by decide +kernel
theorem dX9_reasonAgainstTide_24 : decode cX9_reasonAgainstTide 24 = .ok (.if_icmp .ne 12, 3) := by decide +kernel
theorem dX9_reasonAgainstTide_27 : decode cX9_reasonAgainstTide 27 = .ok (.aload_n 0, 1) := by decide +kernel
theorem dX9_reasonAgainstTide_28 : decode cX9_reasonAgainstTide 28 = .ok (.iconst 4, 1) := by decide +kernel
theorem dX9_reasonAgainstTide_29 : decode cX9_reasonAgainstTide 29 = .ok (.iload_n 1, 1) := by decide +kernel
theorem dX9_reasonAgainstTide_30 : decode cX9_reasonAgainstTide 30 = .ok (.invokevirtual 443, 3) := by decide +kernel
theorem dX9_reasonAgainstTide_33 : decode cX9_reasonAgainstTide 33 = .ok (.goto 4, 3) := by decide +kernel
theorem dX9_reasonAgainstTide_36 : decode cX9_reasonAgainstTide 36 = .ok (.iconst 0, 1) := by decide +kernel
theorem dX9_reasonAgainstTide_37 : decode cX9_reasonAgainstTide 37 = .ok (.ireturn, 1) := by decide +kernel
theorem dX9_reasonAgainstSink_0 : decode cX9_reasonAgainstSink 0 = .ok (.iload_n 1, 1) := by decide +kernel
theorem dX9_reasonAgainstSink_1 : decode cX9_reasonAgainstSink 1 = .ok (.invokestatic 187, 3) := by decide +kernel
theorem dX9_reasonAgainstSink_4 : decode cX9_reasonAgainstSink 4 = .ok (.ifCond .ne 10, 3) := by decide +kernel
theorem dX9_reasonAgainstSink_7 : decode cX9_reasonAgainstSink 7 = .ok (.aload_n 0, 1) := by decide +kernel
theorem dX9_reasonAgainstSink_8 : decode cX9_reasonAgainstSink 8 = .ok (.iconst 2, 1) := by decide +kernel
theorem dX9_reasonAgainstSink_9 : decode cX9_reasonAgainstSink 9 = .ok (.iload_n 1, 1) := by decide +kernel
theorem dX9_reasonAgainstSink_10 : decode cX9_reasonAgainstSink 10 = .ok (.invokevirtual 443, 3) := by decide +kernel
theorem dX9_reasonAgainstSink_13 : decode cX9_reasonAgainstSink 13 = .ok (.ireturn, 1) := by decide +kernel
theorem dX9_reasonAgainstSink_14 : decode cX9_reasonAgainstSink 14 = .ok (.iload_n 2, 1) := by decide +kernel
theorem dX9_reasonAgainstSink_15 : decode cX9_reasonAgainstSink 15 = .ok (.ifCond .lt 8, 3) := by decide +kernel
theorem dX9_reasonAgainstSink_18 : decode cX9_reasonAgainstSink 18 = .ok (.iload_n 2, 1) := by decide +kernel
theorem dX9_reasonAgainstSink_19 : decode cX9_reasonAgainstSink 19 = .ok (.iconst 4, 1) := by decide +kernel
theorem dX9_reasonAgainstSink_20 : decode cX9_reasonAgainstSink 20 = .ok (.if_icmp .le 10, 3) := by decide +kernel
theorem dX9_reasonAgainstSink_23 : decode cX9_reasonAgainstSink 23 = .ok (.aload_n 0, 1) := by decide +kernel
theorem dX9_reasonAgainstSink_24 : decode cX9_reasonAgainstSink 24 = .ok (.iconst 3, 1) := by decide +kernel
theorem dX9_reasonAgainstSink_25 : decode cX9_reasonAgainstSink 25 = .ok (.iload_n 2, 1) := by decide +kernel
theorem dX9_reasonAgainstSink_26 : decode cX9_reasonAgainstSink 26 = .ok (.invokevirtual 443, 3) := by decide +kernel
theorem dX9_reasonAgainstSink_29 : decode cX9_reasonAgainstSink 29 = .ok (.ireturn, 1) := by decide +kernel
theorem dX9_reasonAgainstSink_30 : decode cX9_reasonAgainstSink 30 = .ok (.aload_n 0, 1) := by decide +kernel
theorem dX9_reasonAgainstSink_31 : decode cX9_reasonAgainstSink 31 = .ok (.getfield 12, 3) := by decide +kernel
theorem dX9_reasonAgainstSink_34 : decode cX9_reasonAgainstSink 34 = .ok (.iload_n 1, 1) := by decide +kernel
theorem dX9_reasonAgainstSink_35 : decode cX9_reasonAgainstSink 35 = .ok (.invokevirtual 87, 3) := by decide +kernel
theorem dX9_reasonAgainstSink_38 : decode cX9_reasonAgainstSink 38 = .ok (.getfield 162, 3) := by decide +kernel
theorem dX9_reasonAgainstSink_41 : decode cX9_reasonAgainstSink 41 = .ok (.iload_n 2, 1) := by decide +kernel
theorem dX9_reasonAgainstSink_42 : decode cX9_reasonAgainstSink 42 = .ok (.if_icmp .ne 7, 3) := by decide +kernel
theorem dX9_reasonAgainstSink_45 : decode cX9_reasonAgainstSink 45 = .ok (.iconst 1, 1) := by decide +kernel
theorem dX9_reasonAgainstSink_46 : decode cX9_reasonAgainstSink 46 = .ok (.goto 4, 3) := by decide +kernel
theorem dX9_reasonAgainstSink_49 : decode cX9_reasonAgainstSink 49 = .ok (.iconst 0, 1) := by decide +kernel
theorem dX9_reasonAgainstSink_50 : decode cX9_reasonAgainstSink 50 = .ok (.istore_n 3, 1) := by decide +kernel
theorem dX9_reasonAgainstSink_51 : decode cX9_reasonAgainstSink 51 = .ok (.iload_n 3, 1) := by decide +kernel
theorem dX9_reasonAgainstSink_52 : decode cX9_reasonAgainstSink 52 = .ok (.ifCond .eq 12, 3) := by decide +kernel
theorem dX9_reasonAgainstSink_55 : decode cX9_reasonAgainstSink 55 = .ok (.aload_n 0, 1) := by decide +kernel
theorem dX9_reasonAgainstSink_56 : decode cX9_reasonAgainstSink 56 = .ok (.iconst 4, 1) := by decide +kernel
theorem dX9_reasonAgainstSink_57 : decode cX9_reasonAgainstSink 57 = .ok (.iload_n 2, 1) := by decide +kernel
theorem dX9_reasonAgainstSink_58 : decode cX9_reasonAgainstSink 58 = .ok (.invokevirtual 443, 3) := by decide +kernel
theorem dX9_reasonAgainstSink_61 : decode cX9_reasonAgainstSink 61 = .ok (.goto 4, 3) := by decide +kernel
theorem dX9_reasonAgainstSink_64 : decode cX9_reasonAgainstSink 64 = .ok (.iconst 0, 1) := by decide +kernel
theorem dX9_reasonAgainstSink_65 : decode cX9_reasonAgainstSink 65 = .ok (.ireturn, 1) := by decide +kernel
theorem dX9_reasonAgainstNote_0 : decode cX9_reasonAgainstNote 0 = .ok (.iload_n 1, 1) := by decide +kernel
theorem dX9_reasonAgainstNote_1 : decode cX9_reasonAgainstNote 1 = .ok (.invokestatic 187, 3) := by decide +kernel
theorem dX9_reasonAgainstNote_4 : decode cX9_reasonAgainstNote 4 = .ok (.ifCond .ne 10, 3) := by decide +kernel
theorem dX9_reasonAgainstNote_7 : decode cX9_reasonAgainstNote 7 = .ok (.aload_n 0, 1) := by decide +kernel
theorem dX9_reasonAgainstNote_8 : decode cX9_reasonAgainstNote 8 = .ok (.iconst 2, 1) := by decide +kernel
theorem dX9_reasonAgainstNote_9 : decode cX9_reasonAgainstNote 9 = .ok (.iload_n 1, 1) := by decide +kernel
theorem dX9_reasonAgainstNote_10 : decode cX9_reasonAgainstNote 10 = .ok (.invokevirtual 443, 3) := by decide +kernel
theorem dX9_reasonAgainstNote_13 : decode cX9_reasonAgainstNote 13 = .ok (.ireturn, 1) := by decide +kernel
theorem dX9_reasonAgainstNote_14 : decode cX9_reasonAgainstNote 14 = .ok (.iload_n 2, 1) := by decide +kernel
theorem dX9_reasonAgainstNote_15 : decode cX9_reasonAgainstNote 15 = .ok (.invokestatic 190, 3) := by decide +kernel
theorem dX9_reasonAgainstNote_18 : decode cX9_reasonAgainstNote 18 = .ok (.ifCond .ne 10, 3) := by decide +kernel
theorem dX9_reasonAgainstNote_21 : decode cX9_reasonAgainstNote 21 = .ok (.aload_n 0, 1) := by decide +kernel
theorem dX9_reasonAgainstNote_22 : decode cX9_reasonAgainstNote 22 = .ok (.iconst 2, 1) := by decide +kernel
theorem dX9_reasonAgainstNote_23 : decode cX9_reasonAgainstNote 23 = .ok (.iload_n 2, 1) := by decide +kernel
theorem dX9_reasonAgainstNote_24 : decode cX9_reasonAgainstNote 24 = .ok (.invokevirtual 443, 3) := by decide +kernel
theorem dX9_reasonAgainstNote_27 : decode cX9_reasonAgainstNote 27 = .ok (.ireturn, 1) := by decide +kernel
theorem dX9_reasonAgainstNote_28 : decode cX9_reasonAgainstNote 28 = .ok (.aload_n 0, 1) := by decide +kernel
theorem dX9_reasonAgainstNote_29 : decode cX9_reasonAgainstNote 29 = .ok (.getfield 12, 3) := by decide +kernel
theorem dX9_reasonAgainstNote_32 : decode cX9_reasonAgainstNote 32 = .ok (.iload_n 1, 1) := by decide +kernel
theorem dX9_reasonAgainstNote_33 : decode cX9_reasonAgainstNote 33 = .ok (.invokevirtual 87, 3) := by decide +kernel
theorem dX9_reasonAgainstNote_36 : decode cX9_reasonAgainstNote 36 = .ok (.iload_n 2, 1) := by decide +kernel
theorem dX9_reasonAgainstNote_37 : decode cX9_reasonAgainstNote 37 = .ok (.invokevirtual 241, 3) := by decide +kernel
theorem dX9_reasonAgainstNote_40 : decode cX9_reasonAgainstNote 40 = .ok (.istore_n 3, 1) := by decide +kernel
theorem dX9_reasonAgainstNote_41 : decode cX9_reasonAgainstNote 41 = .ok (.iload_n 3, 1) := by decide +kernel
theorem dX9_reasonAgainstNote_42 : decode cX9_reasonAgainstNote 42 = .ok (.ifCond .ne 11, 3) := by decide +kernel
theorem dX9_reasonAgainstNote_45 : decode cX9_reasonAgainstNote 45 = .ok (.aload_n 0, 1) := by decide +kernel
theorem dX9_reasonAgainstNote_46 : decode cX9_reasonAgainstNote 46 = .ok (.bipush 7, 2) := by decide +kernel
theorem dX9_reasonAgainstNote_48 : decode cX9_reasonAgainstNote 48 = .ok (.iload_n 2, 1) := by decide +kernel
theorem dX9_reasonAgainstNote_49 : decode cX9_reasonAgainstNote 49 = .ok (.invokevirtual 443, 3) := by decide +kernel
theorem dX9_reasonAgainstNote_52 : decode cX9_reasonAgainstNote 52 = .ok (.ireturn, 1) := by decide +kernel
theorem dX9_reasonAgainstNote_53 : decode cX9_reasonAgainstNote 53 = .ok (.aload_n 0, 1) := by decide +kernel
theorem dX9_reasonAgainstNote_54 : decode cX9_reasonAgainstNote 54 = .ok (.getfield 12, 3) := by decide +kernel
theorem dX9_reasonAgainstNote_57 : decode cX9_reasonAgainstNote 57 = .ok (.iload_n 1, 1) := by decide +kernel
theorem dX9_reasonAgainstNote_58 : decode cX9_reasonAgainstNote 58 = .ok (.iload_n 3, 1) := by decide +kernel
theorem dX9_reasonAgainstNote_59 : decode cX9_reasonAgainstNote 59 = .ok (.invokevirtual 461, 3) := by decide +kernel
theorem dX9_reasonAgainstNote_62 : decode cX9_reasonAgainstNote 62 = .ok (.istore 4, 2) := by decide +kernel
theorem dX9_reasonAgainstNote_64 : decode cX9_reasonAgainstNote 64 = .ok (.iload 4, 2) := by decide +kernel
theorem dX9_reasonAgainstNote_66 : decode cX9_reasonAgainstNote 66 = .ok (.iconst (-1), 1) := by decide +kernel
theorem dX9_reasonAgainstNote_67 : decode cX9_reasonAgainstNote 67 = .ok (.if_icmp .eq 12, 3) := by decide +kernel
theorem dX9_reasonAgainstNote_70 : decode cX9_reasonAgainstNote 70 = .ok (.aload_n 0, 1) := by decide +kernel
theorem dX9_reasonAgainstNote_71 : decode cX9_reasonAgainstNote 71 = .ok (.bipush 8, 2) := by decide +kernel
theorem dX9_reasonAgainstNote_73 : decode cX9_reasonAgainstNote 73 = .ok (.iload 4, 2) := by decide +kernel
theorem dX9_reasonAgainstNote_75 : decode cX9_reasonAgainstNote 75 = .ok (.invokevirtual 443, 3) := by decide +kernel
theorem dX9_reasonAgainstNote_78 : decode cX9_reasonAgainstNote 78 = .ok (.ireturn, 1) := by decide +kernel
theorem dX9_reasonAgainstNote_79 : decode cX9_reasonAgainstNote 79 = .ok (.aload_n 0, 1) := by decide +kernel
theorem dX9_reasonAgainstNote_80 : decode cX9_reasonAgainstNote 80 = .ok (.getfield 12, 3) := by decide +kernel
theorem dX9_reasonAgainstNote_83 : decode cX9_reasonAgainstNote 83 = .ok (.getfield 176, 3) := by decide +kernel
theorem dX9_reasonAgainstNote_86 : decode cX9_reasonAgainstNote 86 = .ok (.bipush 6, 2) := by decide +kernel
theorem dX9_reasonAgainstNote_88 : decode cX9_reasonAgainstNote 88 = .ok (.if_icmp .lt 18, 3) := by decide +kernel
theorem dX9_reasonAgainstNote_91 : decode cX9_reasonAgainstNote 91 = .ok (.aload_n 0, 1) := by decide +kernel
theorem dX9_reasonAgainstNote_92 : decode cX9_reasonAgainstNote 92 = .ok (.iconst 1, 1) := by decide +kernel
theorem dX9_reasonAgainstNote_93 : decode cX9_reasonAgainstNote 93 = .ok (.aload_n 0, 1) := by decide +kernel
theorem dX9_reasonAgainstNote_94 : decode cX9_reasonAgainstNote 94 = .ok (.getfield 12, 3) := by decide +kernel
theorem dX9_reasonAgainstNote_97 : decode cX9_reasonAgainstNote 97 = .ok (.getfield 176, 3) := by decide +kernel
theorem dX9_reasonAgainstNote_100 : decode cX9_reasonAgainstNote 100 = .ok (.invokevirtual 443, 3) := by decide +kernel
theorem dX9_reasonAgainstNote_103 : decode cX9_reasonAgainstNote 103 = .ok (.goto 4, 3) := by decide +kernel
theorem dX9_reasonAgainstNote_106 : decode cX9_reasonAgainstNote 106 = .ok (.iconst 0, 1) := by decide +kernel
theorem dX9_reasonAgainstNote_107 : decode cX9_reasonAgainstNote 107 = .ok (.ireturn, 1) := by decide +kernel
theorem dX9_reasonAgainstDrop_0 : decode cX9_reasonAgainstDrop 0 = .ok (.aload_n 0, 1) := by decide +kernel
theorem dX9_reasonAgainstDrop_1 : decode cX9_reasonAgainstDrop 1 = .ok (.getfield 12, 3) := by decide +kernel
theorem dX9_reasonAgainstDrop_4 : decode cX9_reasonAgainstDrop 4 = .ok (.iload_n 1, 1) := by decide +kernel
theorem dX9_reasonAgainstDrop_5 : decode cX9_reasonAgainstDrop 5 = .ok (.invokevirtual 252, 3) := by decide +kernel
theorem dX9_reasonAgainstDrop_8 : decode cX9_reasonAgainstDrop 8 = .ok (.ifCond .eq 7, 3) := by decide +kernel
theorem dX9_reasonAgainstDrop_11 : decode cX9_reasonAgainstDrop 11 = .ok (.iconst 0, 1) := by decide +kernel
theorem dX9_reasonAgainstDrop_12 : decode cX9_reasonAgainstDrop 12 = .ok (.goto 9, 3) := by decide +kernel
theorem dX9_reasonAgainstDrop_15 : decode cX9_reasonAgainstDrop 15 = .ok (.aload_n 0, 1) := by decide +kernel
theorem dX9_reasonAgainstDrop_16 : decode cX9_reasonAgainstDrop 16 = .ok (.iconst 2, 1) := by decide +kernel
theorem dX9_reasonAgainstDrop_17 : decode cX9_reasonAgainstDrop 17 = .ok (.iload_n 1, 1) := by decide +kernel
theorem dX9_reasonAgainstDrop_18 : decode cX9_reasonAgainstDrop 18 = .ok (.invokevirtual 443, 3) := by decide +kernel
theorem dX9_reasonAgainstDrop_21 : decode cX9_reasonAgainstDrop 21 = .ok (.ireturn, 1) := by decide +kernel
theorem dX9_reasonAgainstOrder_0 : decode cX9_reasonAgainstOrder 0 = .ok (.aload_n 0, 1) := by decide +kernel
theorem dX9_reasonAgainstOrder_1 : decode cX9_reasonAgainstOrder 1 = .ok (.getfield 43, 3) := by decide +kernel
theorem dX9_reasonAgainstOrder_4 : decode cX9_reasonAgainstOrder 4 = .ok (.iload_n 1, 1) := by decide +kernel
theorem dX9_reasonAgainstOrder_5 : decode cX9_reasonAgainstOrder 5 = .ok (.iconst 0, 1) := by decide +kernel
theorem dX9_reasonAgainstOrder_6 : decode cX9_reasonAgainstOrder 6 = .ok (.invokevirtual 464, 3) := by decide +kernel
theorem dX9_reasonAgainstOrder_9 : decode cX9_reasonAgainstOrder 9 = .ok (.istore_n 2, 1) := by decide +kernel
theorem dX9_reasonAgainstOrder_10 : decode cX9_reasonAgainstOrder 10 = .ok (.aload_n 0, 1) := by decide +kernel
theorem dX9_reasonAgainstOrder_11 : decode cX9_reasonAgainstOrder 11 = .ok (.getfield 43, 3) := by decide +kernel
theorem dX9_reasonAgainstOrder_14 : decode cX9_reasonAgainstOrder 14 = .ok (.iload_n 1, 1) := by decide +kernel
theorem dX9_reasonAgainstOrder_15 : decode cX9_reasonAgainstOrder 15 = .ok (.iconst 1, 1) := by decide +kernel
theorem dX9_reasonAgainstOrder_16 : decode cX9_reasonAgainstOrder 16 = .ok (.invokevirtual 464, 3) := by decide +kernel
theorem dX9_reasonAgainstOrder_19 : decode cX9_reasonAgainstOrder 19 = .ok (.istore_n 3, 1) := by decide +kernel
theorem dX9_reasonAgainstOrder_20 : decode cX9_reasonAgainstOrder 20 = .ok (.aload_n 0, 1) := by decide +kernel
theorem dX9_reasonAgainstOrder_21 : decode cX9_reasonAgainstOrder 21 = .ok (.getfield 43, 3) := by decide +kernel
theorem dX9_reasonAgainstOrder_24 : decode cX9_reasonAgainstOrder 24 = .ok (.iload_n 1, 1) := by decide +kernel
theorem dX9_reasonAgainstOrder_25 : decode cX9_reasonAgainstOrder 25 = .ok (.iconst 2, 1) := by decide +kernel
theorem dX9_reasonAgainstOrder_26 : decode cX9_reasonAgainstOrder 26 = .ok (.invokevirtual 464, 3) := by decide +kernel
theorem dX9_reasonAgainstOrder_29 : decode cX9_reasonAgainstOrder 29 = .ok (.istore 4, 2) := by decide +kernel
theorem dX9_reasonAgainstOrder_31 : decode cX9_reasonAgainstOrder 31 = .ok (.aload_n 0, 1) := by decide +kernel
theorem dX9_reasonAgainstOrder_32 : decode cX9_reasonAgainstOrder 32 = .ok (.getfield 43, 3) := by decide +kernel
theorem dX9_reasonAgainstOrder_35 : decode cX9_reasonAgainstOrder 35 = .ok (.iload_n 1, 1) := by decide +kernel
theorem dX9_reasonAgainstOrder_36 : decode cX9_reasonAgainstOrder 36 = .ok (.invokevirtual 467, 3) := by decide +kernel
theorem dX9_reasonAgainstOrder_39 : decode cX9_reasonAgainstOrder 39 = .ok (.tableswitch 103 0 6 #[41, 50, 59, 77, 83, 89, 96], 41) := by decide +kernel
theorem dX9_reasonAgainstOrder_80 : decode cX9_reasonAgainstOrder 80 = .ok (.aload_n 0, 1) := by decide +kernel
theorem dX9_reasonAgainstOrder_81 : decode cX9_reasonAgainstOrder 81 = .ok (.iload_n 2, 1) := by decide +kernel
theorem dX9_reasonAgainstOrder_82 : decode cX9_reasonAgainstOrder 82 = .ok (.iload_n 3, 1) := by decide +kernel
theorem dX9_reasonAgainstOrder_83 : decode cX9_reasonAgainstOrder 83 = .ok (.iload 4, 2) := by decide +kernel
theorem dX9_reasonAgainstOrder_85 : decode cX9_reasonAgainstOrder 85 = .ok (.invokevirtual 68, 3) := by decide +kernel
theorem dX9_reasonAgainstOrder_88 : decode cX9_reasonAgainstOrder 88 = .ok (.ireturn, 1) := by decide +kernel
theorem dX9_reasonAgainstOrder_89 : decode cX9_reasonAgainstOrder 89 = .ok (.aload_n 0, 1) := by decide +kernel
theorem dX9_reasonAgainstOrder_90 : decode cX9_reasonAgainstOrder 90 = .ok (.iload_n 2, 1) := by decide +kernel
theorem dX9_reasonAgainstOrder_91 : decode cX9_reasonAgainstOrder 91 = .ok (.iload_n 3, 1) := by decide +kernel
theorem dX9_reasonAgainstOrder_92 : decode cX9_reasonAgainstOrder 92 = .ok (.iload 4, 2) := by decide +kernel
theorem dX9_reasonAgainstOrder_94 : decode cX9_reasonAgainstOrder 94 = .ok (.invokevirtual 101, 3) := by decide +kernel
theorem dX9_reasonAgainstOrder_97 : decode cX9_reasonAgainstOrder 97 = .ok (.ireturn, 1) := by decide +kernel
theorem dX9_reasonAgainstOrder_98 : decode cX9_reasonAgainstOrder 98 = .ok (.aload_n 0, 1) := by decide +kernel
theorem dX9_reasonAgainstOrder_99 : decode cX9_reasonAgainstOrder 99 = .ok (.iload_n 2, 1) := by decide +kernel
theorem dX9_reasonAgainstOrder_100 : decode cX9_reasonAgainstOrder 100 = .ok (.iload_n 3, 1) := by decide +kernel
theorem dX9_reasonAgainstOrder_101 : decode cX9_reasonAgainstOrder 101 = .ok (.iload 4, 2) := by decide +kernel
theorem dX9_reasonAgainstOrder_103 : decode cX9_reasonAgainstOrder 103 = .ok (.aload_n 0, 1) := by decide +kernel
theorem dX9_reasonAgainstOrder_104 : decode cX9_reasonAgainstOrder 104 = .ok (.getfield 43, 3) := by decide +kernel
theorem dX9_reasonAgainstOrder_107 : decode cX9_reasonAgainstOrder 107 = .ok (.iload_n 1, 1) := by decide +kernel
theorem dX9_reasonAgainstOrder_108 : decode cX9_reasonAgainstOrder 108 = .ok (.iconst 3, 1) := by decide +kernel
theorem dX9_reasonAgainstOrder_109 : decode cX9_reasonAgainstOrder 109 = .ok (.invokevirtual 464, 3) := by decide +kernel
theorem dX9_reasonAgainstOrder_112 : decode cX9_reasonAgainstOrder 112 = .ok (.invokevirtual 114, 3) := by decide +kernel
theorem dX9_reasonAgainstOrder_115 : decode cX9_reasonAgainstOrder 115 = .ok (.ireturn, 1) := by decide +kernel
theorem dX9_reasonAgainstOrder_116 : decode cX9_reasonAgainstOrder 116 = .ok (.aload_n 0, 1) := by decide +kernel
theorem dX9_reasonAgainstOrder_117 : decode cX9_reasonAgainstOrder 117 = .ok (.iload_n 2, 1) := by decide +kernel
theorem dX9_reasonAgainstOrder_118 : decode cX9_reasonAgainstOrder 118 = .ok (.invokevirtual 133, 3) := by decide +kernel
theorem dX9_reasonAgainstOrder_121 : decode cX9_reasonAgainstOrder 121 = .ok (.ireturn, 1) := by decide +kernel
theorem dX9_reasonAgainstOrder_122 : decode cX9_reasonAgainstOrder 122 = .ok (.aload_n 0, 1) := by decide +kernel
theorem dX9_reasonAgainstOrder_123 : decode cX9_reasonAgainstOrder 123 = .ok (.iload_n 2, 1) := by decide +kernel
theorem dX9_reasonAgainstOrder_124 : decode cX9_reasonAgainstOrder 124 = .ok (.invokevirtual 145, 3) := by decide +kernel
theorem dX9_reasonAgainstOrder_127 : decode cX9_reasonAgainstOrder 127 = .ok (.ireturn, 1) := by decide +kernel
theorem dX9_reasonAgainstOrder_128 : decode cX9_reasonAgainstOrder 128 = .ok (.aload_n 0, 1) := by decide +kernel
theorem dX9_reasonAgainstOrder_129 : decode cX9_reasonAgainstOrder 129 = .ok (.iload_n 2, 1) := by decide +kernel
theorem dX9_reasonAgainstOrder_130 : decode cX9_reasonAgainstOrder 130 = .ok (.iload_n 3, 1) := by decide +kernel
theorem dX9_reasonAgainstOrder_131 : decode cX9_reasonAgainstOrder 131 = .ok (.invokevirtual 156, 3) := by decide +kernel
theorem dX9_reasonAgainstOrder_134 : decode cX9_reasonAgainstOrder 134 = .ok (.ireturn, 1) := by decide +kernel
theorem dX9_reasonAgainstOrder_135 : decode cX9_reasonAgainstOrder 135 = .ok (.aload_n 0, 1) := by decide +kernel
theorem dX9_reasonAgainstOrder_136 : decode cX9_reasonAgainstOrder 136 = .ok (.iload_n 2, 1) := by decide +kernel
theorem dX9_reasonAgainstOrder_137 : decode cX9_reasonAgainstOrder 137 = .ok (.iload_n 3, 1) := by decide +kernel
theorem dX9_reasonAgainstOrder_138 : decode cX9_reasonAgainstOrder 138 = .ok (.invokevirtual 168, 3) := by decide +kernel
theorem dX9_reasonAgainstOrder_141 : decode cX9_reasonAgainstOrder 141 = .ok (.ireturn, 1) := by decide +kernel
theorem dX9_reasonAgainstOrder_142 : decode cX9_reasonAgainstOrder 142 = .ok (.aload_n 0, 1) := by decide +kernel
theorem dX9_reasonAgainstOrder_143 : decode cX9_reasonAgainstOrder 143 = .ok (.iload_n 2, 1) := by decide +kernel
theorem dX9_reasonAgainstOrder_144 : decode cX9_reasonAgainstOrder 144 = .ok (.invokevirtual 179, 3) := by decide +kernel
theorem dX9_reasonAgainstOrder_147 : decode cX9_reasonAgainstOrder 147 = .ok (.ireturn, 1) := by decide +kernel
theorem dX9_doOrder_0 : decode cX9_doOrder 0 = .ok (.aload_n 0, 1) := by decide +kernel
theorem dX9_doOrder_1 : decode cX9_doOrder 1 = .ok (.getfield 43, 3) := by decide +kernel
theorem dX9_doOrder_4 : decode cX9_doOrder 4 = .ok (.iload_n 1, 1) := by decide +kernel
theorem dX9_doOrder_5 : decode cX9_doOrder 5 = .ok (.iconst 0, 1) := by decide +kernel
theorem dX9_doOrder_6 : decode cX9_doOrder 6 = .ok (.invokevirtual 464, 3) := by decide +kernel
theorem dX9_doOrder_9 : decode cX9_doOrder 9 = .ok (.istore_n 2, 1) := by decide +kernel
theorem dX9_doOrder_10 : decode cX9_doOrder 10 = .ok (.aload_n 0, 1) := by decide +kernel
theorem dX9_doOrder_11 : decode cX9_doOrder 11 = .ok (.getfield 43, 3) := by decide +kernel
theorem dX9_doOrder_14 : decode cX9_doOrder 14 = .ok (.iload_n 1, 1) := by decide +kernel
theorem dX9_doOrder_15 : decode cX9_doOrder 15 = .ok (.iconst 1, 1) := by decide +kernel
theorem dX9_doOrder_16 : decode cX9_doOrder 16 = .ok (.invokevirtual 464, 3) := by decide +kernel
theorem dX9_doOrder_19 : decode cX9_doOrder 19 = .ok (.istore_n 3, 1) := by decide +kernel
theorem dX9_doOrder_20 : decode cX9_doOrder 20 = .ok (.aload_n 0, 1) := by decide +kernel
theorem dX9_doOrder_21 : decode cX9_doOrder 21 = .ok (.getfield 43, 3) := by decide +kernel
theorem dX9_doOrder_24 : decode cX9_doOrder 24 = .ok (.iload_n 1, 1) := by decide +kernel
theorem dX9_doOrder_25 : decode cX9_doOrder 25 = .ok (.iconst 2, 1) := by decide +kernel
theorem dX9_doOrder_26 : decode cX9_doOrder 26 = .ok (.invokevirtual 464, 3) := by decide +kernel
theorem dX9_doOrder_29 : decode cX9_doOrder 29 = .ok (.istore 4, 2) := by decide +kernel
theorem dX9_doOrder_31 : decode cX9_doOrder 31 = .ok (.aload_n 0, 1) := by decide +kernel
theorem dX9_doOrder_32 : decode cX9_doOrder 32 = .ok (.getfield 43, 3) := by decide +kernel
theorem dX9_doOrder_35 : decode cX9_doOrder 35 = .ok (.iload_n 1, 1) := by decide +kernel
theorem dX9_doOrder_36 : decode cX9_doOrder 36 = .ok (.invokevirtual 467, 3) := by decide +kernel
theorem dX9_doOrder_39 : decode cX9_doOrder 39 = .ok (.tableswitch 144 0 6 #[41, 58, 72, 95, 106, 117, 132], 41) := by decide +kernel
theorem dX9_doOrder_80 : decode cX9_doOrder 80 = .ok (.aload_n 0, 1) := by decide +kernel
theorem dX9_doOrder_81 : decode cX9_doOrder 81 = .ok (.getfield 12, 3) := by decide +kernel
theorem dX9_doOrder_84 : decode cX9_doOrder 84 = .ok (.iload_n 2, 1) := by decide +kernel
theorem dX9_doOrder_85 : decode cX9_doOrder 85 = .ok (.invokevirtual 87, 3) := by decide +kernel
theorem dX9_doOrder_88 : decode cX9_doOrder 88 = .ok (.iload_n 3, 1) := by decide +kernel
theorem dX9_doOrder_89 : decode cX9_doOrder 89 = .ok (.iload 4, 2) := by decide +kernel
theorem dX9_doOrder_91 : decode cX9_doOrder 91 = .ok (.invokevirtual 97, 3) := by decide +kernel
theorem dX9_doOrder_94 : decode cX9_doOrder 94 = .ok (.goto 97, 3) := by decide +kernel
theorem dX9_doOrder_97 : decode cX9_doOrder 97 = .ok (.aload_n 0, 1) := by decide +kernel
theorem dX9_doOrder_98 : decode cX9_doOrder 98 = .ok (.getfield 12, 3) := by decide +kernel
theorem dX9_doOrder_101 : decode cX9_doOrder 101 = .ok (.iload_n 2, 1) := by decide +kernel
theorem dX9_doOrder_102 : decode cX9_doOrder 102 = .ok (.iload_n 3, 1) := by decide +kernel
theorem dX9_doOrder_103 : decode cX9_doOrder 103 = .ok (.iload 4, 2) := by decide +kernel
theorem dX9_doOrder_105 : decode cX9_doOrder 105 = .ok (.invokevirtual 106, 3) := by decide +kernel
theorem dX9_doOrder_108 : decode cX9_doOrder 108 = .ok (.goto 83, 3) := by decide +kernel
theorem dX9_doOrder_111 : decode cX9_doOrder 111 = .ok (.aload_n 0, 1) := by decide +kernel
theorem dX9_doOrder_112 : decode cX9_doOrder 112 = .ok (.getfield 12, 3) := by decide +kernel
theorem dX9_doOrder_115 : decode cX9_doOrder 115 = .ok (.iload_n 2, 1) := by decide +kernel
theorem dX9_doOrder_116 : decode cX9_doOrder 116 = .ok (.iload_n 3, 1) := by decide +kernel
theorem dX9_doOrder_117 : decode cX9_doOrder 117 = .ok (.iload 4, 2) := by decide +kernel
theorem dX9_doOrder_119 : decode cX9_doOrder 119 = .ok (.aload_n 0, 1) := by decide +kernel
theorem dX9_doOrder_120 : decode cX9_doOrder 120 = .ok (.getfield 43, 3) := by decide +kernel
theorem dX9_doOrder_123 : decode cX9_doOrder 123 = .ok (.iload_n 1, 1) := by decide +kernel
theorem dX9_doOrder_124 : decode cX9_doOrder 124 = .ok (.iconst 3, 1) := by decide +kernel
theorem dX9_doOrder_125 : decode cX9_doOrder 125 = .ok (.invokevirtual 464, 3) := by decide +kernel
theorem dX9_doOrder_128 : decode cX9_doOrder 128 = .ok (.invokevirtual 120, 3) := by decide +kernel
theorem dX9_doOrder_131 : decode cX9_doOrder 131 = .ok (.goto 60, 3) := by decide +kernel
theorem dX9_doOrder_134 : decode cX9_doOrder 134 = .ok (.aload_n 0, 1) := by decide +kernel
theorem dX9_doOrder_135 : decode cX9_doOrder 135 = .ok (.getfield 12, 3) := by decide +kernel
theorem dX9_doOrder_138 : decode cX9_doOrder 138 = .ok (.iload_n 2, 1) := by decide +kernel
theorem dX9_doOrder_139 : decode cX9_doOrder 139 = .ok (.invokevirtual 138, 3) := by decide +kernel
theorem dX9_doOrder_142 : decode cX9_doOrder 142 = .ok (.goto 49, 3) := by decide +kernel
theorem dX9_doOrder_145 : decode cX9_doOrder 145 = .ok (.aload_n 0, 1) := by decide +kernel
theorem dX9_doOrder_146 : decode cX9_doOrder 146 = .ok (.getfield 12, 3) := by decide +kernel
theorem dX9_doOrder_149 : decode cX9_doOrder 149 = .ok (.iload_n 2, 1) := by decide +kernel
theorem dX9_doOrder_150 : decode cX9_doOrder 150 = .ok (.putfield 150, 3) := by decide +kernel
theorem dX9_doOrder_153 : decode cX9_doOrder 153 = .ok (.goto 38, 3) := by decide +kernel
theorem dX9_doOrder_156 : decode cX9_doOrder 156 = .ok (.aload_n 0, 1) := by decide +kernel
theorem dX9_doOrder_157 : decode cX9_doOrder 157 = .ok (.getfield 12, 3) := by decide +kernel
theorem dX9_doOrder_160 : decode cX9_doOrder 160 = .ok (.iload_n 2, 1) := by decide +kernel
theorem dX9_doOrder_161 : decode cX9_doOrder 161 = .ok (.invokevirtual 87, 3) := by decide +kernel
theorem dX9_doOrder_164 : decode cX9_doOrder 164 = .ok (.iload_n 3, 1) := by decide +kernel
theorem dX9_doOrder_165 : decode cX9_doOrder 165 = .ok (.putfield 162, 3) := by decide +kernel
theorem dX9_doOrder_168 : decode cX9_doOrder 168 = .ok (.goto 23, 3) := by decide +kernel
theorem dX9_doOrder_171 : decode cX9_doOrder 171 = .ok (.aload_n 0, 1) := by decide +kernel
theorem dX9_doOrder_172 : decode cX9_doOrder 172 = .ok (.getfield 12, 3) := by decide +kernel
theorem dX9_doOrder_175 : decode cX9_doOrder 175 = .ok (.iload_n 2, 1) := by decide +kernel
theorem dX9_doOrder_176 : decode cX9_doOrder 176 = .ok (.iload_n 3, 1) := by decide +kernel
theorem dX9_doOrder_177 : decode cX9_doOrder 177 = .ok (.invokevirtual 173, 3) := by decide +kernel
theorem dX9_doOrder_180 : decode cX9_doOrder 180 = .ok (.goto 11, 3) := by decide +kernel
theorem dX9_doOrder_183 : decode cX9_doOrder 183 = .ok (.aload_n 0, 1) := by decide +kernel
theorem dX9_doOrder_184 : decode cX9_doOrder 184 = .ok (.getfield 12, 3) := by decide +kernel
theorem dX9_doOrder_187 : decode cX9_doOrder 187 = .ok (.iload_n 2, 1) := by decide +kernel
theorem dX9_doOrder_188 : decode cX9_doOrder 188 = .ok (.invokevirtual 184, 3) := by decide +kernel
theorem dX9_doOrder_191 : decode cX9_doOrder 191 = .ok (.return_, 1) := by decide +kernel
theorem dX9_isNet_0 : decode cX9_isNet 0 = .ok (.iload_n 0, 1) := by decide +kernel
theorem dX9_isNet_1 : decode cX9_isNet 1 = .ok (.ifCond .lt 12, 3) := by decide +kernel
theorem dX9_isNet_4 : decode cX9_isNet 4 = .ok (.iload_n 0, 1) := by decide +kernel
