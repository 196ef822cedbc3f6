theorem dX10_little_10 : decode cX10_little 10 = .ok (.aload_n 0, 1) := by decide +kernel
theorem dX10_little_11 : decode cX10_little 11 = .ok (.iload_n 1, 1) := by decide +kernel
theorem dX10_little_12 : decode cX10_little 12 = .ok (.iconst 1, 1) := by decide +kernel
theorem dX10_little_13 : decode cX10_little 13 = .ok (.invokevirtual 133, 3) := by decide +kernel
theorem dX10_little_16 : decode cX10_little 16 = .ok (.istore_n 2, 1) := by decide +kernel
theorem dX10_little_17 : decode cX10_little 17 = .ok (.aload_n 0, 1) := by decide +kernel
theorem dX10_little_18 : decode cX10_little 18 = .ok (.aload_n 0, 1) := by decide +kernel
theorem dX10_little_19 : decode cX10_little 19 = .ok (.iload_n 1, 1) := by decide +kernel
theorem dX10_little_20 : decode cX10_little 20 = .ok (.iconst 0, 1) := by decide +kernel
theorem dX10_little_21 : decode cX10_little 21 = .ok (.invokevirtual 133, 3) := by decide +kernel
theorem dX10_little_24 : decode cX10_little 24 = .ok (.invokevirtual 117, 3) := by decide +kernel
theorem dX10_little_27 : decode cX10_little 27 = .ok (.aload_n 0, 1) := by decide +kernel
theorem dX10_little_28 : decode cX10_little 28 = .ok (.iload_n 2, 1) := by decide +kernel
theorem dX10_little_29 : decode cX10_little 29 = .ok (.invokevirtual 82, 3) := by decide +kernel
theorem dX10_little_32 : decode cX10_little 32 = .ok (.aload_n 0, 1) := by decide +kernel
theorem dX10_little_33 : decode cX10_little 33 = .ok (.getfield 71, 3) := by decide +kernel
theorem dX10_little_36 : decode cX10_little 36 = .ok (.iand, 1) := by decide +kernel
theorem dX10_little_37 : decode cX10_little 37 = .ok (.iload_n 2, 1) := by decide +kernel
theorem dX10_little_38 : decode cX10_little 38 = .ok (.iconst (-1), 1) := by decide +kernel
theorem dX10_little_39 : decode cX10_little 39 = .ok (.ixor, 1) := by decide +kernel
theorem dX10_little_40 : decode cX10_little 40 = .ok (.iand, 1) := by decide +kernel
theorem dX10_little_41 : decode cX10_little 41 = .ok (.ifCond .eq 5, 3) := by decide +kernel
theorem dX10_little_44 : decode cX10_little 44 = .ok (.iconst (-1), 1) := by decide +kernel
theorem dX10_little_45 : decode cX10_little 45 = .ok (.ireturn, 1) := by decide +kernel
theorem dX10_little_46 : decode cX10_little 46 = .ok (.aload_n 0, 1) := by decide +kernel
theorem dX10_little_47 : decode cX10_little 47 = .ok (.iload_n 2, 1) := by decide +kernel
theorem dX10_little_48 : decode cX10_little 48 = .ok (.invokevirtual 121, 3) := by decide +kernel
theorem dX10_little_51 : decode cX10_little 51 = .ok (.istore_n 3, 1) := by decide +kernel
theorem dX10_little_52 : decode cX10_little 52 = .ok (.aload_n 0, 1) := by decide +kernel
theorem dX10_little_53 : decode cX10_little 53 = .ok (.ldc 74, 2) := by decide +kernel
theorem dX10_little_55 : decode cX10_little 55 = .ok (.putfield 75, 3) := by decide +kernel
theorem dX10_little_58 : decode cX10_little 58 = .ok (.aload_n 0, 1) := by decide +kernel
theorem dX10_little_59 : decode cX10_little 59 = .ok (.iload_n 2, 1) := by decide +kernel
theorem dX10_little_60 : decode cX10_little 60 = .ok (.invokevirtual 121, 3) := by decide +kernel
theorem dX10_little_63 : decode cX10_little 63 = .ok (.istore 4, 2) := by decide +kernel
theorem dX10_little_65 : decode cX10_little 65 = .ok (.iload_n 3, 1) := by decide +kernel
theorem dX10_little_66 : decode cX10_little 66 = .ok (.iload 4, 2) := by decide +kernel
theorem dX10_little_68 : decode cX10_little 68 = .ok (.isub, 1) := by decide +kernel
theorem dX10_little_69 : decode cX10_little 69 = .ok (.iconst 2, 1) := by decide +kernel
theorem dX10_little_70 : decode cX10_little 70 = .ok (.iload 4, 2) := by decide +kernel
theorem dX10_little_72 : decode cX10_little 72 = .ok (.iconst 1, 1) := by decide +kernel
theorem dX10_little_73 : decode cX10_little 73 = .ok (.isub, 1) := by decide +kernel
theorem dX10_little_74 : decode cX10_little 74 = .ok (.imul, 1) := by decide +kernel
theorem dX10_little_75 : decode cX10_little 75 = .ok (.iadd, 1) := by decide +kernel
theorem dX10_little_76 : decode cX10_little 76 = .ok (.ireturn, 1) := by decide +kernel
theorem dX10_least_0 : decode cX10_least 0 = .ok (.aload_n 0, 1) := by decide +kernel
theorem dX10_least_1 : decode cX10_least 1 = .ok (.aload_n 0, 1) := by decide +kernel
theorem dX10_least_2 : decode cX10_least 2 = .ok (.iload_n 1, 1) := by decide +kernel
theorem dX10_least_3 : decode cX10_least 3 = .ok (.invokevirtual 183, 3) := by decide +kernel
theorem dX10_least_6 : decode cX10_least 6 = .ok (.ifCond .eq 7, 3) := by decide +kernel
theorem dX10_least_9 : decode cX10_least 9 = .ok (.iconst 0, 1) := by decide +kernel
theorem dX10_least_10 : decode cX10_least 10 = .ok (.goto 4, 3) := by decide +kernel
theorem dX10_least_13 : decode cX10_least 13 = .ok (.iconst 1, 1) := by decide +kernel
theorem dX10_least_14 : decode cX10_least 14 = .ok (.putfield 35, 3) := by decide +kernel
theorem dX10_least_17 : decode cX10_least 17 = .ok (.aload_n 0, 1) := by decide +kernel
theorem dX10_least_18 : decode cX10_least 18 = .ok (.getfield 35, 3) := by decide +kernel
theorem dX10_least_21 : decode cX10_least 21 = .ok (.ifCond .le 5, 3) := by decide +kernel
theorem dX10_least_24 : decode cX10_least 24 = .ok (.iconst 0, 1) := by decide +kernel
theorem dX10_least_25 : decode cX10_least 25 = .ok (.ireturn, 1) := by decide +kernel
theorem dX10_least_26 : decode cX10_least 26 = .ok (.aload_n 0, 1) := by decide +kernel
theorem dX10_least_27 : decode cX10_least 27 = .ok (.iload_n 1, 1) := by decide +kernel
theorem dX10_least_28 : decode cX10_least 28 = .ok (.invokevirtual 189, 3) := by decide +kernel
theorem dX10_least_31 : decode cX10_least 31 = .ok (.istore_n 2, 1) := by decide +kernel
theorem dX10_least_32 : decode cX10_least 32 = .ok (.iload_n 2, 1) := by decide +kernel
theorem dX10_least_33 : decode cX10_least 33 = .ok (.iconst (-1), 1) := by decide +kernel
theorem dX10_least_34 : decode cX10_least 34 = .ok (.if_icmp .ne 11, 3) := by decide +kernel
theorem dX10_least_37 : decode cX10_least 37 = .ok (.aload_n 0, 1) := by decide +kernel
theorem dX10_least_38 : decode cX10_least 38 = .ok (.iconst 2, 1) := by decide +kernel
theorem dX10_least_39 : decode cX10_least 39 = .ok (.invokevirtual 60, 3) := by decide +kernel
theorem dX10_least_42 : decode cX10_least 42 = .ok (.goto 4, 3) := by decide +kernel
theorem dX10_least_45 : decode cX10_least 45 = .ok (.iload_n 2, 1) := by decide +kernel
theorem dX10_least_46 : decode cX10_least 46 = .ok (.ireturn, 1) := by decide +kernel
theorem dX10_leastAgain_0 : decode cX10_leastAgain 0 = .ok (.aload_n 0, 1) := by decide +kernel
theorem dX10_leastAgain_1 : decode cX10_leastAgain 1 = .ok (.iload_n 1, 1) := by decide +kernel
theorem dX10_leastAgain_2 : decode cX10_leastAgain 2 = .ok (.invokevirtual 192, 3) := by decide +kernel
theorem dX10_leastAgain_5 : decode cX10_leastAgain 5 = .ok (.ireturn, 1) := by decide +kernel
theorem dX10_joins_0 : decode cX10_joins 0 = .ok (.iload_n 2, 1) := by decide +kernel
theorem dX10_joins_1 : decode cX10_joins 1 = .ok (.iconst 2, 1) := by decide +kernel
theorem dX10_joins_2 : decode cX10_joins 2 = .ok (.if_icmp .ne 9, 3) := by decide +kernel
theorem dX10_joins_5 : decode cX10_joins 5 = .ok (.iload_n 3, 1) := by decide +kernel
theorem dX10_joins_6 : decode cX10_joins 6 = .ok (.iconst 1, 1) := by decide +kernel
theorem dX10_joins_7 : decode cX10_joins 7 = .ok (.iadd, 1) := by decide +kernel
theorem dX10_joins_8 : decode cX10_joins 8 = .ok (.goto 7, 3) := by decide +kernel
theorem dX10_joins_11 : decode cX10_joins 11 = .ok (.iload_n 3, 1) := by decide +kernel
theorem dX10_joins_12 : decode cX10_joins 12 = .ok (.bipush 6, 2) := by decide +kernel
theorem dX10_joins_14 : decode cX10_joins 14 = .ok (.iadd, 1) := by decide +kernel
theorem dX10_joins_15 : decode cX10_joins 15 = .ok (.istore 4, 2) := by decide +kernel
theorem dX10_joins_17 : decode cX10_joins 17 = .ok (.aload_n 0, 1) := by decide +kernel
theorem dX10_joins_18 : decode cX10_joins 18 = .ok (.iload_n 1, 1) := by decide +kernel
theorem dX10_joins_19 : decode cX10_joins 19 = .ok (.iload_n 2, 1) := by decide +kernel
theorem dX10_joins_20 : decode cX10_joins 20 = .ok (.invokevirtual 67, 3) := by decide +kernel
theorem dX10_joins_23 : decode cX10_joins 23 = .ok (.iload_n 3, 1) := by decide +kernel
theorem dX10_joins_24 : decode cX10_joins 24 = .ok (.ishr, 1) := by decide +kernel
theorem dX10_joins_25 : decode cX10_joins 25 = .ok (.iconst 1, 1) := by decide +kernel
theorem dX10_joins_26 : decode cX10_joins 26 = .ok (.iand, 1) := by decide +kernel
theorem dX10_joins_27 : decode cX10_joins 27 = .ok (.ifCond .eq 26, 3) := by decide +kernel
theorem dX10_joins_30 : decode cX10_joins 30 = .ok (.aload_n 0, 1) := by decide +kernel
theorem dX10_joins_31 : decode cX10_joins 31 = .ok (.getfield 71, 3) := by decide +kernel
theorem dX10_joins_34 : decode cX10_joins 34 = .ok (.iload_n 3, 1) := by decide +kernel
theorem dX10_joins_35 : decode cX10_joins 35 = .ok (.ishr, 1) := by decide +kernel
theorem dX10_joins_36 : decode cX10_joins 36 = .ok (.iconst 1, 1) := by decide +kernel
theorem dX10_joins_37 : decode cX10_joins 37 = .ok (.iand, 1) := by decide +kernel
theorem dX10_joins_38 : decode cX10_joins 38 = .ok (.ifCond .eq 15, 3) := by decide +kernel
theorem dX10_joins_41 : decode cX10_joins 41 = .ok (.aload_n 0, 1) := by decide +kernel
theorem dX10_joins_42 : decode cX10_joins 42 = .ok (.getfield 71, 3) := by decide +kernel
theorem dX10_joins_45 : decode cX10_joins 45 = .ok (.iload 4, 2) := by decide +kernel
theorem dX10_joins_47 : decode cX10_joins 47 = .ok (.ishr, 1) := by decide +kernel
theorem dX10_joins_48 : decode cX10_joins 48 = .ok (.iconst 1, 1) := by decide +kernel
theorem dX10_joins_49 : decode cX10_joins 49 = .ok (.iand, 1) := by decide +kernel
theorem dX10_joins_50 : decode cX10_joins 50 = .ok (.ifCond .ne 5, 3) := by decide +kernel
theorem dX10_joins_53 : decode cX10_joins 53 = .ok (.iconst (-1), 1) := by decide +kernel
theorem dX10_joins_54 : decode cX10_joins 54 = .ok (.ireturn, 1) := by decide +kernel
theorem dX10_joins_55 : decode cX10_joins 55 = .ok (.aload_n 0, 1) := by decide +kernel
theorem dX10_joins_56 : decode cX10_joins 56 = .ok (.iload_n 3, 1) := by decide +kernel
theorem dX10_joins_57 : decode cX10_joins 57 = .ok (.aload_n 0, 1) := by decide +kernel
theorem dX10_joins_58 : decode cX10_joins 58 = .ok (.getfield 71, 3) := by decide +kernel
theorem dX10_joins_61 : decode cX10_joins 61 = .ok (.invokevirtual 88, 3) := by decide +kernel
theorem dX10_joins_64 : decode cX10_joins 64 = .ok (.istore 5, 2) := by decide +kernel
theorem dX10_joins_66 : decode cX10_joins 66 = .ok (.iload 5, 2) := by decide +kernel
theorem dX10_joins_68 : decode cX10_joins 68 = .ok (.iload 4, 2) := by decide +kernel
theorem dX10_joins_70 : decode cX10_joins 70 = .ok (.ishr, 1) := by decide +kernel
theorem dX10_joins_71 : decode cX10_joins 71 = .ok (.iconst 1, 1) := by decide +kernel
theorem dX10_joins_72 : decode cX10_joins 72 = .ok (.iand, 1) := by decide +kernel
theorem dX10_joins_73 : decode cX10_joins 73 = .ok (.iconst 1, 1) := by decide +kernel
theorem dX10_joins_74 : decode cX10_joins 74 = .ok (.if_icmp .ne 7, 3) := by decide +kernel
theorem dX10_joins_77 : decode cX10_joins 77 = .ok (.iconst (-1), 1) := by decide +kernel
theorem dX10_joins_78 : decode cX10_joins 78 = .ok (.goto 22, 3) := by decide +kernel
theorem dX10_joins_81 : decode cX10_joins 81 = .ok (.iload 5, 2) := by decide +kernel
theorem dX10_joins_83 : decode cX10_joins 83 = .ok (.invokestatic 127, 3) := by decide +kernel
theorem dX10_joins_86 : decode cX10_joins 86 = .ok (.aload_n 0, 1) := by decide +kernel
theorem dX10_joins_87 : decode cX10_joins 87 = .ok (.iload 4, 2) := by decide +kernel
theorem dX10_joins_89 : decode cX10_joins 89 = .ok (.aload_n 0, 1) := by decide +kernel
theorem dX10_joins_90 : decode cX10_joins 90 = .ok (.getfield 71, 3) := by decide +kernel
theorem dX10_joins_93 : decode cX10_joins 93 = .ok (.invokevirtual 88, 3) := by decide +kernel
theorem dX10_joins_96 : decode cX10_joins 96 = .ok (.invokestatic 127, 3) := by decide +kernel
theorem dX10_joins_99 : decode cX10_joins 99 = .ok (.iadd, 1) := by decide +kernel
theorem dX10_joins_100 : decode cX10_joins 100 = .ok (.ireturn, 1) := by decide +kernel
theorem dX10_bestMend_0 : decode cX10_bestMend 0 = .ok (.aload_n 0, 1) := by decide +kernel
theorem dX10_bestMend_1 : decode cX10_bestMend 1 = .ok (.iload_n 1, 1) := by decide +kernel
theorem dX10_bestMend_2 : decode cX10_bestMend 2 = .ok (.invokestatic 94, 3) := by decide +kernel
theorem dX10_bestMend_5 : decode cX10_bestMend 5 = .ok (.ifCond .eq 7, 3) := by decide +kernel
theorem dX10_bestMend_8 : decode cX10_bestMend 8 = .ok (.iconst 0, 1) := by decide +kernel
theorem dX10_bestMend_9 : decode cX10_bestMend 9 = .ok (.goto 4, 3) := by decide +kernel
theorem dX10_bestMend_12 : decode cX10_bestMend 12 = .ok (.iconst 1, 1) := by decide +kernel
theorem dX10_bestMend_13 : decode cX10_bestMend 13 = .ok (.putfield 35, 3) := by decide +kernel
theorem dX10_bestMend_16 : decode cX10_bestMend 16 = .ok (.aload_n 0, 1) := by decide +kernel
theorem dX10_bestMend_17 : decode cX10_bestMend 17 = .ok (.getfield 35, 3) := by decide +kernel
theorem dX10_bestMend_20 : decode cX10_bestMend 20 = .ok (.ifCond .le 5, 3) := by decide +kernel
theorem dX10_bestMend_23 : decode cX10_bestMend 23 = .ok (.iconst 0, 1) := by decide +kernel
theorem dX10_bestMend_24 : decode cX10_bestMend 24 = .ok (.ireturn, 1) := by decide +kernel
theorem dX10_bestMend_25 : decode cX10_bestMend 25 = .ok (.aload_n 0, 1) := by decide +kernel
theorem dX10_bestMend_26 : decode cX10_bestMend 26 = .ok (.iload_n 1, 1) := by decide +kernel
theorem dX10_bestMend_27 : decode cX10_bestMend 27 = .ok (.invokevirtual 117, 3) := by decide +kernel
theorem dX10_bestMend_30 : decode cX10_bestMend 30 = .ok (.iconst (-1), 1) := by decide +kernel
theorem dX10_bestMend_31 : decode cX10_bestMend 31 = .ok (.istore_n 3, 1) := by decide +kernel
theorem dX10_bestMend_32 : decode cX10_bestMend 32 = .ok (.iconst (-1), 1) := by decide +kernel
theorem dX10_bestMend_33 : decode cX10_bestMend 33 = .ok (.istore 4, 2) := by decide +kernel
theorem dX10_bestMend_35 : decode cX10_bestMend 35 = .ok (.iconst 0, 1) := by decide +kernel
theorem dX10_bestMend_36 : decode cX10_bestMend 36 = .ok (.istore 5, 2) := by decide +kernel
theorem dX10_bestMend_38 : decode cX10_bestMend 38 = .ok (.iconst 2, 1) := by decide +kernel
theorem dX10_bestMend_39 : decode cX10_bestMend 39 = .ok (.istore 6, 2) := by decide +kernel
theorem dX10_bestMend_41 : decode cX10_bestMend 41 = .ok (.iload 6, 2) := by decide +kernel
theorem dX10_bestMend_43 : decode cX10_bestMend 43 = .ok (.iconst 3, 1) := by decide +kernel
theorem dX10_bestMend_44 : decode cX10_bestMend 44 = .ok (.if_icmp .gt 66, 3) := by decide +kernel
theorem dX10_bestMend_47 : decode cX10_bestMend 47 = .ok (.iconst 0, 1) := by decide +kernel
theorem dX10_bestMend_48 : decode cX10_bestMend 48 = .ok (.istore 7, 2) := by decide +kernel
theorem dX10_bestMend_50 : decode cX10_bestMend 50 = .ok (.iload 7, 2) := by decide +kernel
theorem dX10_bestMend_52 : decode cX10_bestMend 52 = .ok (.bipush 24, 2) := by decide +kernel
theorem dX10_bestMend_54 : decode cX10_bestMend 54 = .ok (.if_icmp .ge 50, 3) := by decide +kernel
theorem dX10_bestMend_57 : decode cX10_bestMend 57 = .ok (.aload_n 0, 1) := by decide +kernel
theorem dX10_bestMend_58 : decode cX10_bestMend 58 = .ok (.iload_n 1, 1) := by decide +kernel
theorem dX10_bestMend_59 : decode cX10_bestMend 59 = .ok (.iload 6, 2) := by decide +kernel
theorem dX10_bestMend_61 : decode cX10_bestMend 61 = .ok (.iload 7, 2) := by decide +kernel
theorem dX10_bestMend_63 : decode cX10_bestMend 63 = .ok (.invokevirtual 195, 3) := by decide +kernel
theorem dX10_bestMend_66 : decode cX10_bestMend 66 = .ok (.istore 8, 2) := by decide +kernel
theorem dX10_bestMend_68 : decode cX10_bestMend 68 = .ok (.iload 8, 2) := by decide +kernel
theorem dX10_bestMend_70 : decode cX10_bestMend 70 = .ok (.iload_n 3, 1) := by decide +kernel
theorem dX10_bestMend_71 : decode cX10_bestMend 71 = .ok (.if_icmp .gt 6, 3) := by decide +kernel
theorem dX10_bestMend_74 : decode cX10_bestMend 74 = .ok (.goto 24, 3) := by decide +kernel
theorem dX10_bestMend_77 : decode cX10_bestMend 77 = .ok (.iload 8, 2) := by decide +kernel
theorem dX10_bestMend_79 : decode cX10_bestMend 79 = .ok (.istore_n 3, 1) := by decide +kernel
theorem dX10_bestMend_80 : decode cX10_bestMend 80 = .ok (.iload 7, 2) := by decide +kernel
theorem dX10_bestMend_82 : decode cX10_bestMend 82 = .ok (.istore 4, 2) := by decide +kernel
theorem dX10_bestMend_84 : decode cX10_bestMend 84 = .ok (.iload 6, 2) := by decide +kernel
theorem dX10_bestMend_86 : decode cX10_bestMend 86 = .ok (.iconst 2, 1) := by decide +kernel
theorem dX10_bestMend_87 : decode cX10_bestMend 87 = .ok (.if_icmp .ne 7, 3) := by decide +kernel
theorem dX10_bestMend_90 : decode cX10_bestMend 90 = .ok (.iconst 1, 1) := by decide +kernel
theorem dX10_bestMend_91 : decode cX10_bestMend 91 = .ok (.goto 5, 3) := by decide +kernel
theorem dX10_bestMend_94 : decode cX10_bestMend 94 = .ok (.bipush 6, 2) := by decide +kernel
theorem dX10_bestMend_96 : decode cX10_bestMend 96 = .ok (.istore 5, 2) := by decide +kernel
theorem dX10_bestMend_98 : decode cX10_bestMend 98 = .ok (.iinc 7 1, 3) := by decide +kernel
theorem dX10_bestMend_101 : decode cX10_bestMend 101 = .ok (.goto (-51), 3) := by decide +kernel
theorem dX10_bestMend_104 : decode cX10_bestMend 104 = .ok (.iinc 6 1, 3) := by decide +kernel
theorem dX10_bestMend_107 : decode cX10_bestMend 107 = .ok (.goto (-66), 3) := by decide +kernel
theorem dX10_bestMend_110 : decode cX10_bestMend 110 = .ok (.iload 4, 2) := by decide +kernel
theorem dX10_bestMend_112 : decode cX10_bestMend 112 = .ok (.iconst (-1), 1) := by decide +kernel
theorem dX10_bestMend_113 : decode cX10_bestMend 113 = .ok (.if_icmp .ne 11, 3) := by decide +kernel
theorem dX10_bestMend_116 : decode cX10_bestMend 116 = .ok (.aload_n 0, 1) := by decide +kernel
theorem dX10_bestMend_117 : decode cX10_bestMend 117 = .ok (.iconst 2, 1) := by decide +kernel
theorem dX10_bestMend_118 : decode cX10_bestMend 118 = .ok (.invokevirtual 60, 3) := by decide +kernel
theorem dX10_bestMend_121 : decode cX10_bestMend 121 = .ok (.goto 17, 3) := by decide +kernel
theorem dX10_bestMend_124 : decode cX10_bestMend 124 = .ok (.iload_n 2, 1) := by decide +kernel
theorem dX10_bestMend_125 : decode cX10_bestMend 125 = .ok (.ifCond .eq 11, 3) := by decide +kernel
theorem dX10_bestMend_128 : decode cX10_bestMend 128 = .ok (.iload 4, 2) := by decide +kernel
theorem dX10_bestMend_130 : decode cX10_bestMend 130 = .ok (.iload 5, 2) := by decide +kernel
theorem dX10_bestMend_132 : decode cX10_bestMend 132 = .ok (.iadd, 1) := by decide +kernel
theorem dX10_bestMend_133 : decode cX10_bestMend 133 = .ok (.goto 5, 3) := by decide +kernel
theorem dX10_bestMend_136 : decode cX10_bestMend 136 = .ok (.iload 4, 2) := by decide +kernel
theorem dX10_bestMend_138 : decode cX10_bestMend 138 = .ok (.ireturn, 1) := by decide +kernel
theorem dX10_ranked_0 : decode cX10_ranked 0 = .ok (.aload_n 0, 1) := by decide +kernel
theorem dX10_ranked_1 : decode cX10_ranked 1 = .ok (.iload_n 1, 1) := by decide +kernel
theorem dX10_ranked_2 : decode cX10_ranked 2 = .ok (.invokestatic 94, 3) := by decide +kernel
theorem dX10_ranked_5 : decode cX10_ranked 5 = .ok (.ifCond .eq 7, 3) := by decide +kernel
theorem dX10_ranked_8 : decode cX10_ranked 8 = .ok (.iconst 0, 1) := by decide +kernel
theorem dX10_ranked_9 : decode cX10_ranked 9 = .ok (.goto 4, 3) := by decide +kernel
theorem dX10_ranked_12 : decode cX10_ranked 12 = .ok (.iconst 1, 1) := by decide +kernel
theorem dX10_ranked_13 : decode cX10_ranked 13 = .ok (.putfield 35, 3) := by decide +kernel
theorem dX10_ranked_16 : decode cX10_ranked 16 = .ok (.aload_n 0, 1) := by decide +kernel
theorem dX10_ranked_17 : decode cX10_ranked 17 = .ok (.getfield 35, 3) := by decide +kernel
theorem dX10_ranked_20 : decode cX10_ranked 20 = .ok (.ifCond .le 5, 3) := by decide +kernel
theorem dX10_ranked_23 : decode cX10_ranked 23 = .ok (.iconst 0, 1) := by decide +kernel
theorem dX10_ranked_24 : decode cX10_ranked 24 = .ok (.ireturn, 1) := by decide +kernel
theorem dX10_ranked_25 : decode cX10_ranked 25 = .ok (.aload_n 0, 1) := by decide +kernel
theorem dX10_ranked_26 : decode cX10_ranked 26 = .ok (.iload_n 1, 1) := by decide +kernel
theorem dX10_ranked_27 : decode cX10_ranked 27 = .ok (.invokevirtual 117, 3) := by decide +kernel
theorem dX10_ranked_30 : decode cX10_ranked 30 = .ok (.iload_n 2, 1) := by decide +kernel
theorem dX10_ranked_31 : decode cX10_ranked 31 = .ok (.istore_n 3, 1) := by decide +kernel
theorem dX10_ranked_32 : decode cX10_ranked 32 = .ok (.bipush 24, 2) := by decide +kernel
theorem dX10_ranked_34 : decode cX10_ranked 34 = .ok (.istore 4, 2) := by decide +kernel
theorem dX10_ranked_36 : decode cX10_ranked 36 = .ok (.iload 4, 2) := by decide +kernel
theorem dX10_ranked_38 : decode cX10_ranked 38 = .ok (.ifCond .le 74, 3) := by decide +kernel
theorem dX10_ranked_41 : decode cX10_ranked 41 = .ok (.aload_n 0, 1) := by decide +kernel
theorem dX10_ranked_42 : decode cX10_ranked 42 = .ok (.getfield 71, 3) := by decide +kernel
theorem dX10_ranked_45 : decode cX10_ranked 45 = .ok (.istore 5, 2) := by decide +kernel
theorem dX10_ranked_47 : decode cX10_ranked 47 = .ok (.iload 5, 2) := by decide +kernel
theorem dX10_ranked_49 : decode cX10_ranked 49 = .ok (.ifCond .eq 57, 3) := by decide +kernel
theorem dX10_ranked_52 : decode cX10_ranked 52 = .ok (.iload 5, 2) := by decide +kernel
theorem dX10_ranked_54 : decode cX10_ranked 54 = .ok (.invokestatic 85, 3) := by decide +kernel
theorem dX10_ranked_57 : decode cX10_ranked 57 = .ok (.istore 6, 2) := by decide +kernel
theorem dX10_ranked_59 : decode cX10_ranked 59 = .ok (.aload_n 0, 1) := by decide +kernel
theorem dX10_ranked_60 : decode cX10_ranked 60 = .ok (.iload 6, 2) := by decide +kernel
theorem dX10_ranked_62 : decode cX10_ranked 62 = .ok (.aload_n 0, 1) := by decide +kernel
theorem dX10_ranked_63 : decode cX10_ranked 63 = .ok (.getfield 71, 3) := by decide +kernel
theorem dX10_ranked_66 : decode cX10_ranked 66 = .ok (.invokevirtual 88, 3) := by decide +kernel
theorem dX10_ranked_69 : decode cX10_ranked 69 = .ok (.istore 7, 2) := by decide +kernel
theorem dX10_ranked_71 : decode cX10_ranked 71 = .ok (.iload 5, 2) := by decide +kernel
theorem dX10_ranked_73 : decode cX10_ranked 73 = .ok (.iload 7, 2) := by decide +kernel
theorem dX10_ranked_75 : decode cX10_ranked 75 = .ok (.iconst (-1), 1) := by decide +kernel
theorem dX10_ranked_76 : decode cX10_ranked 76 = .ok (.ixor, 1) := by decide +kernel
theorem dX10_ranked_77 : decode cX10_ranked 77 = .ok (.iand, 1) := by decide +kernel
theorem dX10_ranked_78 : decode cX10_ranked 78 = .ok (.istore 5, 2) := by decide +kernel
theorem dX10_ranked_80 : decode cX10_ranked 80 = .ok (.iload 7, 2) := by decide +kernel
theorem dX10_ranked_82 : decode cX10_ranked 82 = .ok (.invokestatic 127, 3) := by decide +kernel
theorem dX10_ranked_85 : decode cX10_ranked 85 = .ok (.iload 4, 2) := by decide +kernel
theorem dX10_ranked_87 : decode cX10_ranked 87 = .ok (.if_icmp .eq 6, 3) := by decide +kernel
theorem dX10_ranked_90 : decode cX10_ranked 90 = .ok (.goto (-43), 3) := by decide +kernel
theorem dX10_ranked_93 : decode cX10_ranked 93 = .ok (.iload_n 3, 1) := by decide +kernel
theorem dX10_ranked_94 : decode cX10_ranked 94 = .ok (.ifCond .ne 6, 3) := by decide +kernel
theorem dX10_ranked_97 : decode cX10_ranked 97 = .ok (.iload 6, 2) := by decide +kernel
theorem dX10_ranked_99 : decode cX10_ranked 99 = .ok (.ireturn, 1) := by decide +kernel
theorem dX10_ranked_100 : decode cX10_ranked 100 = .ok (.iinc 3 (-1), 3) := by decide +kernel
theorem dX10_ranked_103 : decode cX10_ranked 103 = .ok (.goto (-56), 3) := by decide +kernel
theorem dX10_ranked_106 : decode cX10_ranked 106 = .ok (.iinc 4 (-1), 3) := by decide +kernel
theorem dX10_ranked_109 : decode cX10_ranked 109 = .ok (.goto (-73), 3) := by decide +kernel
theorem dX10_ranked_112 : decode cX10_ranked 112 = .ok (.aload_n 0, 1) := by decide +kernel
theorem dX10_ranked_113 : decode cX10_ranked 113 = .ok (.iconst 2, 1) := by decide +kernel
theorem dX10_ranked_114 : decode cX10_ranked 114 = .ok (.invokevirtual 60, 3) := by decide +kernel
theorem dX10_ranked_117 : decode cX10_ranked 117 = .ok (.ireturn, 1) := by decide +kernel
theorem dX10_editorOf_0 : decode cX10_editorOf 0 = .ok (.aload_n 0, 1) := by decide +kernel
theorem dX10_editorOf_1 : decode cX10_editorOf 1 = .ok (.iload_n 1, 1) := by decide +kernel
theorem dX10_editorOf_2 : decode cX10_editorOf 2 = .ok (.iconst 0, 1) := by decide +kernel
theorem dX10_editorOf_3 : decode cX10_editorOf 3 = .ok (.aload_n 0, 1) := by decide +kernel
theorem dX10_editorOf_4 : decode cX10_editorOf 4 = .ok (.getfield 7, 3) := by decide +kernel
theorem dX10_editorOf_7 : decode cX10_editorOf 7 = .ok (.iconst 1, 1) := by decide +kernel
theorem dX10_editorOf_8 : decode cX10_editorOf 8 = .ok (.iaload, 1) := by decide +kernel
theorem dX10_editorOf_9 : decode cX10_editorOf 9 = .ok (.iconst 1, 1) := by decide +kernel
theorem dX10_editorOf_10 : decode cX10_editorOf 10 = .ok (.isub, 1) := by decide +kernel
theorem dX10_editorOf_11 : decode cX10_editorOf 11 = .ok (.invokestatic 63, 3) := by decide +kernel
theorem dX10_editorOf_14 : decode cX10_editorOf 14 = .ok (.ifCond .ne 7, 3) := by decide +kernel
theorem dX10_editorOf_17 : decode cX10_editorOf 17 = .ok (.iconst 1, 1) := by decide +kernel
theorem dX10_editorOf_18 : decode cX10_editorOf 18 = .ok (.goto 17, 3) := by decide +kernel
theorem dX10_editorOf_21 : decode cX10_editorOf 21 = .ok (.iload_n 2, 1) := by decide +kernel
theorem dX10_editorOf_22 : decode cX10_editorOf 22 = .ok (.iconst 0, 1) := by decide +kernel
theorem dX10_editorOf_23 : decode cX10_editorOf 23 = .ok (.iconst 1, 1) := by decide +kernel
theorem dX10_editorOf_24 : decode cX10_editorOf 24 = .ok (.invokestatic 63, 3) := by decide +kernel
theorem dX10_editorOf_27 : decode cX10_editorOf 27 = .ok (.ifCond .eq 7, 3) := by decide +kernel
theorem dX10_editorOf_30 : decode cX10_editorOf 30 = .ok (.iconst 0, 1) := by decide +kernel
theorem dX10_editorOf_31 : decode cX10_editorOf 31 = .ok (.goto 4, 3) := by decide +kernel
theorem dX10_editorOf_34 : decode cX10_editorOf 34 = .ok (.iconst 2, 1) := by decide +kernel
theorem dX10_editorOf_35 : decode cX10_editorOf 35 = .ok (.putfield 35, 3) := by decide +kernel
theorem dX10_editorOf_38 : decode cX10_editorOf 38 = .ok (.aload_n 0, 1) := by decide +kernel
theorem dX10_editorOf_39 : decode cX10_editorOf 39 = .ok (.getfield 35, 3) := by decide +kernel
theorem dX10_editorOf_42 : decode cX10_editorOf 42 = .ok (.ifCond .le 7, 3) := by decide +kernel
theorem dX10_editorOf_45 : decode cX10_editorOf 45 = .ok (.iconst 0, 1) := by decide +kernel
theorem dX10_editorOf_46 : decode cX10_editorOf 46 = .ok (.goto 16, 3) := by decide +kernel
theorem dX10_editorOf_49 : decode cX10_editorOf 49 = .ok (.aload_n 0, 1) := by decide +kernel
theorem dX10_editorOf_50 : decode cX10_editorOf 50 = .ok (.getfield 7, 3) := by decide +kernel
theorem dX10_editorOf_53 : decode cX10_editorOf 53 = .ok (.bipush 21, 2) := by decide +kernel
theorem dX10_editorOf_55 : decode cX10_editorOf 55 = .ok (.iconst 2, 1) := by decide +kernel
theorem dX10_editorOf_56 : decode cX10_editorOf 56 = .ok (.iload_n 1, 1) := by decide +kernel
theorem dX10_editorOf_57 : decode cX10_editorOf 57 = .ok (.imul, 1) := by decide +kernel
theorem dX10_editorOf_58 : decode cX10_editorOf 58 = .ok (.iadd, 1) := by decide +kernel
theorem dX10_editorOf_59 : decode cX10_editorOf 59 = .ok (.iload_n 2, 1) := by decide +kernel
theorem dX10_editorOf_60 : decode cX10_editorOf 60 = .ok (.iadd, 1) := by decide +kernel
theorem dX10_editorOf_61 : decode cX10_editorOf 61 = .ok (.iaload, 1) := by decide +kernel
theorem dX10_editorOf_62 : decode cX10_editorOf 62 = .ok (.ireturn, 1) := by decide +kernel
theorem dX10_feed_0 : decode cX10_feed 0 = .ok (.aload_n 0, 1) := by decide +kernel
theorem dX10_feed_1 : decode cX10_feed 1 = .ok (.aload_n 0, 1) := by decide +kernel
theorem dX10_feed_2 : decode cX10_feed 2 = .ok (.getfield 198, 3) := by decide +kernel
theorem dX10_feed_5 : decode cX10_feed 5 = .ok (.bipush 60, 2) := by decide +kernel
theorem dX10_feed_7 : decode cX10_feed 7 = .ok (.if_icmp .ne 7, 3) := by decide +kernel
theorem dX10_feed_10 : decode cX10_feed 10 = .ok (.iconst 1, 1) := by decide +kernel
theorem dX10_feed_11 : decode cX10_feed 11 = .ok (.goto 4, 3) := by decide +kernel
theorem dX10_feed_14 : decode cX10_feed 14 = .ok (.iconst 0, 1) := by decide +kernel
theorem dX10_feed_15 : decode cX10_feed 15 = .ok (.putfield 35, 3) := by decide +kernel
theorem dX10_feed_18 : decode cX10_feed 18 = .ok (.aload_n 0, 1) := by decide +kernel
theorem dX10_feed_19 : decode cX10_feed 19 = .ok (.getfield 35, 3) := by decide +kernel
theorem dX10_feed_22 : decode cX10_feed 22 = .ok (.ifCond .le 5, 3) := by decide +kernel
theorem dX10_feed_25 : decode cX10_feed 25 = .ok (.iconst 0, 1) := by decide +kernel
theorem dX10_feed_26 : decode cX10_feed 26 = .ok (.ireturn, 1) := by decide +kernel
theorem dX10_feed_27 : decode cX10_feed 27 = .ok (.aload_n 0, 1) := by decide +kernel
theorem dX10_feed_28 : decode cX10_feed 28 = .ok (.getfield 22, 3) := by decide +kernel
theorem dX10_feed_31 : decode cX10_feed 31 = .ok (.aload_n 0, 1) := by decide +kernel
theorem dX10_feed_32 : decode cX10_feed 32 = .ok (.getfield 198, 3) := by decide +kernel
theorem dX10_feed_35 : decode cX10_feed 35 = .ok (.iload_n 1, 1) := by decide +kernel
theorem dX10_feed_36 : decode cX10_feed 36 = .ok (.iastore, 1) := by decide +kernel
theorem dX10_feed_37 : decode cX10_feed 37 = .ok (.aload_n 0, 1) := by decide +kernel
theorem dX10_feed_38 : decode cX10_feed 38 = .ok (.dup, 1) := by decide +kernel
theorem dX10_feed_39 : decode cX10_feed 39 = .ok (.getfield 198, 3) := by decide +kernel
theorem dX10_feed_42 : decode cX10_feed 42 = .ok (.iconst 1, 1) := by decide +kernel
theorem dX10_feed_43 : decode cX10_feed 43 = .ok (.iadd, 1) := by decide +kernel
theorem dX10_feed_44 : decode cX10_feed 44 = .ok (.putfield 198, 3) := by decide +kernel
theorem dX10_feed_47 : decode cX10_feed 47 = .ok (.aload_n 0, 1) := by decide +kernel
theorem dX10_feed_48 : decode cX10_feed 48 = .ok (.getfield 198, 3) := by decide +kernel
theorem dX10_feed_51 : decode cX10_feed 51 = .ok (.ireturn, 1) := by decide +kernel
theorem dX10_here_0 : decode cX10_here 0 = .ok (.aload_n 0, 1) := by decide +kernel
theorem dX10_here_1 : decode cX10_here 1 = .ok (.getfield 201, 3) := by decide +kernel
theorem dX10_here_4 : decode cX10_here 4 = .ok (.iload_n 1, 1) := by decide +kernel
theorem dX10_here_5 : decode cX10_here 5 = .ok (.iadd, 1) := by decide +kernel
theorem dX10_here_6 : decode cX10_here 6 = .ok (.aload_n 0, 1) := by decide +kernel
theorem dX10_here_7 : decode cX10_here 7 = .ok (.getfield 204, 3) := by decide +kernel
theorem dX10_here_10 : decode cX10_here 10 = .ok (.if_icmp .ge 17, 3) := by decide +kernel
theorem dX10_here_13 : decode cX10_here 13 = .ok (.aload_n 0, 1) := by decide +kernel
theorem dX10_here_14 : decode cX10_here 14 = .ok (.getfield 22, 3) := by decide +kernel
theorem dX10_here_17 : decode cX10_here 17 = .ok (.aload_n 0, 1) := by decide +kernel
theorem dX10_here_18 : decode cX10_here 18 = .ok (.getfield 201, 3) := by decide +kernel
theorem dX10_here_21 : decode cX10_here 21 = .ok (.iload_n 1, 1) := by decide +kernel
theorem dX10_here_22 : decode cX10_here 22 = .ok (.iadd, 1) := by decide +kernel
theorem dX10_here_23 : decode cX10_here 23 = .ok (.iaload, 1) := by decide +kernel
theorem dX10_here_24 : decode cX10_here 24 = .ok (.goto 4, 3) := by decide +kernel
theorem dX10_here_27 : decode cX10_here 27 = .ok (.iconst (-1), 1) := by decide +kernel
theorem dX10_here_28 : decode cX10_here 28 = .ok (.ireturn, 1) := by decide +kernel
theorem dX10_says_0 : decode cX10_says 0 = .ok (.iconst 0, 1) := by decide +kernel
theorem dX10_says_1 : decode cX10_says 1 = .ok (.istore_n 2, 1) := by decide +kernel
theorem dX10_says_2 : decode cX10_says 2 = .ok (.iload_n 2, 1) := by decide +kernel
theorem dX10_says_3 : decode cX10_says 3 = .ok (.aload_n 1, 1) := by decide +kernel
theorem dX10_says_4 : decode cX10_says 4 = .ok (.invokevirtual 207, 3) := by decide +kernel
theorem dX10_says_7 : decode cX10_says 7 = .ok (.if_icmp .ge 59, 3) := by decide +kernel
theorem dX10_says_10 : decode cX10_says 10 = .ok (.aload_n 0, 1) := by decide +kernel
theorem dX10_says_11 : decode cX10_says 11 = .ok (.getfield 212, 3) := by decide +kernel
theorem dX10_says_14 : decode cX10_says 14 = .ok (.ifCond .ne 52, 3) := by decide +kernel
theorem dX10_says_17 : decode cX10_says 17 = .ok (.aload_n 0, 1) := by decide +kernel
theorem dX10_says_18 : decode cX10_says 18 = .ok (.aload_n 0, 1) := by decide +kernel
theorem dX10_says_19 : decode cX10_says 19 = .ok (.iconst 0, 1) := by decide +kernel
theorem dX10_says_20 : decode cX10_says 20 = .ok (.invokevirtual 216, 3) := by decide +kernel
theorem dX10_says_23 : decode cX10_says 23 = .ok (.aload_n 1, 1) := by decide +kernel
theorem dX10_says_24 : decode cX10_says 24 = .ok (.iload_n 2, 1) := by decide +kernel
theorem dX10_says_25 : decode cX10_says 25 = .ok (.invokevirtual 219, 3) := by decide +kernel
theorem dX10_says_28 : decode cX10_says 28 = .ok (.if_icmp .eq 7, 3) := by decide +kernel
theorem dX10_says_31 : decode cX10_says 31 = .ok (.iconst 1, 1) := by decide +kernel
theorem dX10_says_32 : decode cX10_says 32 = .ok (.goto 4, 3) := by decide +kernel
theorem dX10_says_35 : decode cX10_says 35 = .ok (.iconst 0, 1) := by decide +kernel
theorem dX10_says_36 : decode cX10_says 36 = .ok (.putfield 212, 3) := by decide +kernel
theorem dX10_says_39 : decode cX10_says 39 = .ok (.aload_n 0, 1) := by decide +kernel
theorem dX10_says_40 : decode cX10_says 40 = .ok (.dup, 1) := by decide +kernel
theorem dX10_says_41 : decode cX10_says 41 = .ok (.getfield 201, 3) := by decide +kernel
theorem dX10_says_44 : decode cX10_says 44 = .ok (.aload_n 0, 1) := by decide +kernel
theorem dX10_says_45 : decode cX10_says 45 = .ok (.getfield 212, 3) := by decide +kernel
theorem dX10_says_48 : decode cX10_says 48 = .ok (.ifCond .eq 7, 3) := by decide +kernel
theorem dX10_says_51 : decode cX10_says 51 = .ok (.iconst 0, 1) := by decide +kernel
theorem dX10_says_52 : decode cX10_says 52 = .ok (.goto 4, 3) := by decide +kernel
theorem dX10_says_55 : decode cX10_says 55 = .ok (.iconst 1, 1) := by decide +kernel
theorem dX10_says_56 : decode cX10_says 56 = .ok (.iadd, 1) := by decide +kernel
theorem dX10_says_57 : decode cX10_says 57 = .ok (.putfield 201, 3) := by decide +kernel
theorem dX10_says_60 : decode cX10_says 60 = .ok (.iinc 2 1, 3) := by decide +kernel
theorem dX10_says_63 : decode cX10_says 63 = .ok (.goto (-61), 3) := by decide +kernel
theorem dX10_says_66 : decode cX10_says 66 = .ok (.return_, 1) := by decide +kernel
theorem dX10_figure_0 : decode cX10_figure 0 = .ok (.iconst 0, 1) := by decide +kernel
theorem dX10_figure_1 : decode cX10_figure 1 = .ok (.istore_n 3, 1) := by decide +kernel
theorem dX10_figure_2 : decode cX10_figure 2 = .ok (.iconst 0, 1) := by decide +kernel
theorem dX10_figure_3 : decode cX10_figure 3 = .ok (.istore 4, 2) := by decide +kernel
theorem dX10_figure_5 : decode cX10_figure 5 = .ok (.aload_n 0, 1) := by decide +kernel
theorem dX10_figure_6 : decode cX10_figure 6 = .ok (.getfield 212, 3) := by decide +kernel
theorem dX10_figure_9 : decode cX10_figure 9 = .ok (.ifCond .ne 54, 3) := by decide +kernel
theorem dX10_figure_12 : decode cX10_figure 12 = .ok (.iload 4, 2) := by decide +kernel
theorem dX10_figure_14 : decode cX10_figure 14 = .ok (.iload_n 2, 1) := by decide +kernel
theorem dX10_figure_15 : decode cX10_figure 15 = .ok (.if_icmp .ge 48, 3) := by decide +kernel
theorem dX10_figure_18 : decode cX10_figure 18 = .ok (.aload_n 0, 1) := by decide +kernel
theorem dX10_figure_19 : decode cX10_figure 19 = .ok (.iconst 0, 1) := by decide +kernel
theorem dX10_figure_20 : decode cX10_figure 20 = .ok (.invokevirtual 216, 3) := by decide +kernel
theorem dX10_figure_23 : decode cX10_figure 23 = .ok (.bipush 48, 2) := by decide +kernel
theorem dX10_figure_25 : decode cX10_figure 25 = .ok (.bipush 57, 2) := by decide +kernel
theorem dX10_figure_27 : decode cX10_figure 27 = .ok (.invokestatic 63, 3) := by decide +kernel
theorem dX10_figure_30 : decode cX10_figure 30 = .ok (.ifCond .eq 33, 3) := by decide +kernel
theorem dX10_figure_33 : decode cX10_figure 33 = .ok (.bipush 10, 2) := by decide +kernel
theorem dX10_figure_35 : decode cX10_figure 35 = .ok (.iload_n 3, 1) := by decide +kernel
theorem dX10_figure_36 : decode cX10_figure 36 = .ok (.imul, 1) := by decide +kernel
theorem dX10_figure_37 : decode cX10_figure 37 = .ok (.aload_n 0, 1) := by decide +kernel
theorem dX10_figure_38 : decode cX10_figure 38 = .ok (.iconst 0, 1) := by decide +kernel
theorem dX10_figure_39 : decode cX10_figure 39 = .ok (.invokevirtual 216, 3) := by decide +kernel
theorem dX10_figure_42 : decode cX10_figure 42 = .ok (.iadd, 1) := by decide +kernel
theorem dX10_figure_43 : decode cX10_figure 43 = .ok (.bipush 48, 2) := by decide +kernel
theorem dX10_figure_45 : decode cX10_figure 45 = .ok (.isub, 1) := by decide +kernel
theorem dX10_figure_46 : decode cX10_figure 46 = .ok (.istore_n 3, 1) := by decide +kernel
theorem dX10_figure_47 : decode cX10_figure 47 = .ok (.aload_n 0, 1) := by decide +kernel
theorem dX10_figure_48 : decode cX10_figure 48 = .ok (.dup, 1) := by decide +kernel
theorem dX10_figure_49 : decode cX10_figure 49 = .ok (.getfield 201, 3) := by decide +kernel
theorem dX10_figure_52 : decode cX10_figure 52 = .ok (.iconst 1, 1) := by decide +kernel
theorem dX10_figure_53 : decode cX10_figure 53 = .ok (.iadd, 1) := by decide +kernel
theorem dX10_figure_54 : decode cX10_figure 54 = .ok (.putfield 201, 3) := by decide +kernel
theorem dX10_figure_57 : decode cX10_figure 57 = .ok (.iinc 4 1, 3) := by decide +kernel
theorem dX10_figure_60 : decode cX10_figure 60 = .ok (.goto (-55), 3) := by decide +kernel
theorem dX10_figure_63 : decode cX10_figure 63 = .ok (.aload_n 0, 1) := by decide +kernel
theorem dX10_figure_64 : decode cX10_figure 64 = .ok (.aload_n 0, 1) := by decide +kernel
theorem dX10_figure_65 : decode cX10_figure 65 = .ok (.getfield 212, 3) := by decide +kernel
theorem dX10_figure_68 : decode cX10_figure 68 = .ok (.ifCond .ne 8, 3) := by decide +kernel
theorem dX10_figure_71 : decode cX10_figure 71 = .ok (.iload 4, 2) := by decide +kernel
theorem dX10_figure_73 : decode cX10_figure 73 = .ok (.ifCond .ne 7, 3) := by decide +kernel
theorem dX10_figure_76 : decode cX10_figure 76 = .ok (.iconst 1, 1) := by decide +kernel
theorem dX10_figure_77 : decode cX10_figure 77 = .ok (.goto 4, 3) := by decide +kernel
theorem dX10_figure_80 : decode cX10_figure 80 = .ok (.iconst 0, 1) := by decide +kernel
theorem dX10_figure_81 : decode cX10_figure 81 = .ok (.putfield 212, 3) := by decide +kernel
theorem dX10_figure_84 : decode cX10_figure 84 = .ok (.aload_n 0, 1) := by decide +kernel
theorem dX10_figure_85 : decode cX10_figure 85 = .ok (.getfield 25, 3) := by decide +kernel
theorem dX10_figure_88 : decode cX10_figure 88 = .ok (.iconst 5, 1) := by decide +kernel
theorem dX10_figure_89 : decode cX10_figure 89 = .ok (.aload_n 0, 1) := by decide +kernel
theorem dX10_figure_90 : decode cX10_figure 90 = .ok (.getfield 223, 3) := by decide +kernel
theorem dX10_figure_93 : decode cX10_figure 93 = .ok (.imul, 1) := by decide +kernel
theorem dX10_figure_94 : decode cX10_figure 94 = .ok (.iload_n 1, 1) := by decide +kernel
theorem dX10_figure_95 : decode cX10_figure 95 = .ok (.iadd, 1) := by decide +kernel
theorem dX10_figure_96 : decode cX10_figure 96 = .ok (.iload_n 3, 1) := by decide +kernel
theorem dX10_figure_97 : decode cX10_figure 97 = .ok (.iastore, 1) := by decide +kernel
theorem dX10_figure_98 : decode cX10_figure 98 = .ok (.return_, 1) := by decide +kernel
theorem dX10_string_0 : decode cX10_string 0 = .ok (.aload_n 0, 1) := by decide +kernel
theorem dX10_string_1 : decode cX10_string 1 = .ok (.aload_n 1, 1) := by decide +kernel
theorem dX10_string_2 : decode cX10_string 2 = .ok (.invokevirtual 226, 3) := by decide +kernel
theorem dX10_string_5 : decode cX10_string 5 = .ok (.aload_n 0, 1) := by decide +kernel
theorem dX10_string_6 : decode cX10_string 6 = .ok (.iconst 1, 1) := by decide +kernel
theorem dX10_string_7 : decode cX10_string 7 = .ok (.iconst 1, 1) := by decide +kernel
theorem dX10_string_8 : decode cX10_string 8 = .ok (.invokevirtual 230, 3) := by decide +kernel
theorem dX10_string_11 : decode cX10_string 11 = .ok (.aload_n 0, 1) := by decide +kernel
theorem dX10_string_12 : decode cX10_string 12 = .ok (.ldc 234, 2) := by decide +kernel
theorem dX10_string_14 : decode cX10_string 14 = .ok (.invokevirtual 226, 3) := by decide +kernel
theorem dX10_string_17 : decode cX10_string 17 = .ok (.aload_n 0, 1) := by decide +kernel
theorem dX10_string_18 : decode cX10_string 18 = .ok (.iconst 2, 1) := by decide +kernel
theorem dX10_string_19 : decode cX10_string 19 = .ok (.iconst 2, 1) := by decide +kernel
theorem dX10_string_20 : decode cX10_string 20 = .ok (.invokevirtual 230, 3) := by decide +kernel
theorem dX10_string_23 : decode cX10_string 23 = .ok (.aload_n 0, 1) := by decide +kernel
theorem dX10_string_24 : decode cX10_string 24 = .ok (.ldc 236, 2) := by decide +kernel
theorem dX10_string_26 : decode cX10_string 26 = .ok (.invokevirtual 226, 3) := by decide +kernel
theorem dX10_string_29 : decode cX10_string 29 = .ok (.aload_n 0, 1) := by decide +kernel
theorem dX10_string_30 : decode cX10_string 30 = .ok (.iconst 3, 1) := by decide +kernel
theorem dX10_string_31 : decode cX10_string 31 = .ok (.iconst 2, 1) := by decide +kernel
theorem dX10_string_32 : decode cX10_string 32 = .ok (.invokevirtual 230, 3) := by decide +kernel
theorem dX10_string_35 : decode cX10_string 35 = .ok (.return_, 1) := by decide +kernel
theorem dX10_one_0 : decode cX10_one 0 = .ok (.aload_n 0, 1) := by decide +kernel
theorem dX10_one_1 : decode cX10_one 1 = .ok (.aload_n 1, 1) := by decide +kernel
theorem dX10_one_2 : decode cX10_one 2 = .ok (.invokevirtual 226, 3) := by decide +kernel
theorem dX10_one_5 : decode cX10_one 5 = .ok (.aload_n 0, 1) := by decide +kernel
theorem dX10_one_6 : decode cX10_one 6 = .ok (.iconst 1, 1) := by decide +kernel
theorem dX10_one_7 : decode cX10_one 7 = .ok (.iload_n 2, 1) := by decide +kernel
theorem dX10_one_8 : decode cX10_one 8 = .ok (.invokevirtual 230, 3) := by decide +kernel
theorem dX10_one_11 : decode cX10_one 11 = .ok (.return_, 1) := by decide +kernel
theorem dX10_two_0 : decode cX10_two 0 = .ok (.aload_n 0, 1) := by decide +kernel
theorem dX10_two_1 : decode cX10_two 1 = .ok (.aload_n 1, 1) := by decide +kernel
theorem dX10_two_2 : decode cX10_two 2 = .ok (.invokevirtual 226, 3) := by decide +kernel
theorem dX10_two_5 : decode cX10_two 5 = .ok (.aload_n 0, 1) := by decide +kernel
theorem dX10_two_6 : decode cX10_two 6 = .ok (.iconst 1, 1) := by decide +kernel
theorem dX10_two_7 : decode cX10_two 7 = .ok (.iconst 1, 1) := by decide +kernel
theorem dX10_two_8 : decode cX10_two 8 = .ok (.invokevirtual 230, 3) := by decide +kernel
theorem dX10_two_11 : decode cX10_two 11 = .ok (.aload_n 0, 1) := by decide +kernel
theorem dX10_two_12 : decode cX10_two 12 = .ok (.aload_n 2, 1) := by decide +kernel
theorem dX10_two_13 : decode cX10_two 13 = .ok (.invokevirtual 226, 3) := by decide +kernel
theorem dX10_two_16 : decode cX10_two 16 = .ok (.aload_n 0, 1) := by decide +kernel
theorem dX10_two_17 : decode cX10_two 17 = .ok (.iconst 2, 1) := by decide +kernel
theorem dX10_two_18 : decode cX10_two 18 = .ok (.iload_n 3, 1) := by decide +kernel
theorem dX10_two_19 : decode cX10_two 19 = .ok (.invokevirtual 230, 3) := by decide +kernel
theorem dX10_two_22 : decode cX10_two 22 = .ok (.return_, 1) := by decide +kernel
theorem dX10_readsOne_0 : decode cX10_readsOne 0 = .ok (.aload_n 0, 1) := by decide +kernel
theorem dX10_readsOne_1 : decode cX10_readsOne 1 = .ok (.iconst 0, 1) := by decide +kernel
theorem dX10_readsOne_2 : decode cX10_readsOne 2 = .ok (.invokevirtual 216, 3) := by decide +kernel
theorem dX10_readsOne_5 : decode cX10_readsOne 5 = .ok (.istore_n 1, 1) := by decide +kernel
theorem dX10_readsOne_6 : decode cX10_readsOne 6 = .ok (.iload_n 1, 1) := by decide +kernel
theorem dX10_readsOne_7 : decode cX10_readsOne 7 = .ok (.bipush 116, 2) := by decide +kernel
theorem dX10_readsOne_9 : decode cX10_readsOne 9 = .ok (.if_icmp .ne 17, 3) := by decide +kernel
theorem dX10_readsOne_12 : decode cX10_readsOne 12 = .ok (.aload_n 0, 1) := by decide +kernel
theorem dX10_readsOne_13 : decode cX10_readsOne 13 = .ok (.iconst 1, 1) := by decide +kernel
theorem dX10_readsOne_14 : decode cX10_readsOne 14 = .ok (.invokevirtual 216, 3) := by decide +kernel
theorem dX10_readsOne_17 : decode cX10_readsOne 17 = .ok (.bipush 105, 2) := by decide +kernel
theorem dX10_readsOne_19 : decode cX10_readsOne 19 = .ok (.if_icmp .ne 7, 3) := by decide +kernel
theorem dX10_readsOne_22 : decode cX10_readsOne 22 = .ok (.iconst 1, 1) := by decide +kernel
theorem dX10_readsOne_23 : decode cX10_readsOne 23 = .ok (.goto 4, 3) := by decide +kernel
theorem dX10_readsOne_26 : decode cX10_readsOne 26 = .ok (.iconst 0, 1) := by decide +kernel
theorem dX10_readsOne_27 : decode cX10_readsOne 27 = .ok (.istore_n 2, 1) := by decide +kernel
theorem dX10_readsOne_28 : decode cX10_readsOne 28 = .ok (.aload_n 0, 1) := by decide +kernel
theorem dX10_readsOne_29 : decode cX10_readsOne 29 = .ok (.getfield 25, 3) := by decide +kernel
theorem dX10_readsOne_32 : decode cX10_readsOne 32 = .ok (.iconst 5, 1) := by decide +kernel
theorem dX10_readsOne_33 : decode cX10_readsOne 33 = .ok (.aload_n 0, 1) := by decide +kernel
theorem dX10_readsOne_34 : decode cX10_readsOne 34 = .ok (.getfield 223, 3) := by decide +kernel
theorem dX10_readsOne_37 : decode cX10_readsOne 37 = .ok (.imul, 1) := by decide +kernel
theorem dX10_readsOne_38 : decode cX10_readsOne 38 = .ok (.iload_n 2, 1) := by decide +kernel
theorem dX10_readsOne_39 : decode cX10_readsOne 39 = .ok (.ifCond .eq 8, 3) := by decide +kernel
theorem dX10_readsOne_42 : decode cX10_readsOne 42 = .ok (.bipush 119, 2) := by decide +kernel
theorem dX10_readsOne_44 : decode cX10_readsOne 44 = .ok (.goto 4, 3) := by decide +kernel
theorem dX10_readsOne_47 : decode cX10_readsOne 47 = .ok (.iload_n 1, 1) := by decide +kernel
theorem dX10_readsOne_48 : decode cX10_readsOne 48 = .ok (.iastore, 1) := by decide +kernel
theorem dX10_readsOne_49 : decode cX10_readsOne 49 = .ok (.iload_n 2, 1) := by decide +kernel
theorem dX10_readsOne_50 : decode cX10_readsOne 50 = .ok (.ifCond .eq 8, 3) := by decide +kernel
theorem dX10_readsOne_53 : decode cX10_readsOne 53 = .ok (.bipush 119, 2) := by decide +kernel
theorem dX10_readsOne_55 : decode cX10_readsOne 55 = .ok (.goto 4, 3) := by decide +kernel
theorem dX10_readsOne_58 : decode cX10_readsOne 58 = .ok (.iload_n 1, 1) := by decide +kernel
theorem dX10_readsOne_59 : decode cX10_readsOne 59 = .ok (.tableswitch 219 100 119 #[208, 147, 219, 219, 219, 219, 219, 93, 219, 126, 195, 219, 219, 219, 219, 182, 117, 219, 219, 157], 93) := by decide +kernel
theorem dX10_readsOne_152 : decode cX10_readsOne 152 = .ok (.aload_n 0, 1) := by decide +kernel
theorem dX10_readsOne_153 : decode cX10_readsOne 153 = .ok (.ldc 238, 2) := by decide +kernel
theorem dX10_readsOne_155 : decode cX10_readsOne 155 = .ok (.ldc 234, 2) := by decide +kernel
theorem dX10_readsOne_157 : decode cX10_readsOne 157 = .ok (.iconst 2, 1) := by decide +kernel
theorem dX10_readsOne_158 : decode cX10_readsOne 158 = .ok (.invokevirtual 240, 3) := by decide +kernel
theorem dX10_readsOne_161 : decode cX10_readsOne 161 = .ok (.aload_n 0, 1) := by decide +kernel
theorem dX10_readsOne_162 : decode cX10_readsOne 162 = .ok (.ldc 244, 2) := by decide +kernel
theorem dX10_readsOne_164 : decode cX10_readsOne 164 = .ok (.invokevirtual 226, 3) := by decide +kernel
theorem dX10_readsOne_167 : decode cX10_readsOne 167 = .ok (.aload_n 0, 1) := by decide +kernel
theorem dX10_readsOne_168 : decode cX10_readsOne 168 = .ok (.iconst 3, 1) := by decide +kernel
theorem dX10_readsOne_169 : decode cX10_readsOne 169 = .ok (.iconst 1, 1) := by decide +kernel
theorem dX10_readsOne_170 : decode cX10_readsOne 170 = .ok (.invokevirtual 230, 3) := by decide +kernel
theorem dX10_readsOne_173 : decode cX10_readsOne 173 = .ok (.goto 110, 3) := by decide +kernel
theorem dX10_readsOne_176 : decode cX10_readsOne 176 = .ok (.aload_n 0, 1) := by decide +kernel
theorem dX10_readsOne_177 : decode cX10_readsOne 177 = .ok (.ldc 246, 2) := by decide +kernel
theorem dX10_readsOne_179 : decode cX10_readsOne 179 = .ok (.invokevirtual 248, 3) := by decide +kernel
theorem dX10_readsOne_182 : decode cX10_readsOne 182 = .ok (.goto 101, 3) := by decide +kernel
theorem dX10_readsOne_185 : decode cX10_readsOne 185 = .ok (.aload_n 0, 1) := by decide +kernel
theorem dX10_readsOne_186 : decode cX10_readsOne 186 = .ok (.ldc 251, 2) := by decide +kernel
theorem dX10_readsOne_188 : decode cX10_readsOne 188 = .ok (.invokevirtual 248, 3) := by decide +kernel
theorem dX10_readsOne_191 : decode cX10_readsOne 191 = .ok (.aload_n 0, 1) := by decide +kernel
theorem dX10_readsOne_192 : decode cX10_readsOne 192 = .ok (.ldc 253, 2) := by decide +kernel
theorem dX10_readsOne_194 : decode cX10_readsOne 194 = .ok (.invokevirtual 226, 3) := by decide +kernel
theorem dX10_readsOne_197 : decode cX10_readsOne 197 = .ok (.aload_n 0, 1) := by decide +kernel
theorem dX10_readsOne_198 : decode cX10_readsOne 198 = .ok (.iconst 4, 1) := by decide +kernel
theorem dX10_readsOne_199 : decode cX10_readsOne 199 = .ok (.iconst 1, 1) := by decide +kernel
theorem dX10_readsOne_200 : decode cX10_readsOne 200 = .ok (.invokevirtual 230, 3) := by decide +kernel
theorem dX10_readsOne_203 : decode cX10_readsOne 203 = .ok (.goto 80, 3) := by decide +kernel
theorem dX10_readsOne_206 : decode cX10_readsOne 206 = .ok (.aload_n 0, 1) := by decide +kernel
theorem dX10_readsOne_207 : decode cX10_readsOne 207 = .ok (.ldc 255, 2) := by decide +kernel
theorem dX10_readsOne_209 : decode cX10_readsOne 209 = .ok (.iconst 2, 1) := by decide +kernel
theorem dX10_readsOne_210 : decode cX10_readsOne 210 = .ok (.invokevirtual 257, 3) := by decide +kernel
theorem dX10_readsOne_213 : decode cX10_readsOne 213 = .ok (.goto 70, 3) := by decide +kernel
theorem dX10_readsOne_216 : decode cX10_readsOne 216 = .ok (.iload_n 1, 1) := by decide +kernel
theorem dX10_readsOne_217 : decode cX10_readsOne 217 = .ok (.bipush 119, 2) := by decide +kernel
theorem dX10_readsOne_219 : decode cX10_readsOne 219 = .ok (.if_icmp .ne 11, 3) := by decide +kernel
theorem dX10_readsOne_222 : decode cX10_readsOne 222 = .ok (.aload_n 0, 1) := by decide +kernel
theorem dX10_readsOne_223 : decode cX10_readsOne 223 = .ok (.iconst 1, 1) := by decide +kernel
theorem dX10_readsOne_224 : decode cX10_readsOne 224 = .ok (.putfield 212, 3) := by decide +kernel
theorem dX10_readsOne_227 : decode cX10_readsOne 227 = .ok (.goto 56, 3) := by decide +kernel
theorem dX10_readsOne_230 : decode cX10_readsOne 230 = .ok (.aload_n 0, 1) := by decide +kernel
theorem dX10_readsOne_231 : decode cX10_readsOne 231 = .ok (.ldc_w 261, 3) := by decide +kernel
theorem dX10_readsOne_234 : decode cX10_readsOne 234 = .ok (.iconst 1, 1) := by decide +kernel
theorem dX10_readsOne_235 : decode cX10_readsOne 235 = .ok (.invokevirtual 257, 3) := by decide +kernel
theorem dX10_readsOne_238 : decode cX10_readsOne 238 = .ok (.goto 45, 3) := by decide +kernel
theorem dX10_readsOne_241 : decode cX10_readsOne 241 = .ok (.aload_n 0, 1) := by decide +kernel
theorem dX10_readsOne_242 : decode cX10_readsOne 242 = .ok (.ldc_w 263, 3) := by decide +kernel
theorem dX10_readsOne_245 : decode cX10_readsOne 245 = .ok (.ldc 244, 2) := by decide +kernel
theorem dX10_readsOne_247 : decode cX10_readsOne 247 = .ok (.iconst 1, 1) := by decide +kernel
theorem dX10_readsOne_248 : decode cX10_readsOne 248 = .ok (.invokevirtual 240, 3) := by decide +kernel
theorem dX10_readsOne_251 : decode cX10_readsOne 251 = .ok (.goto 32, 3) := by decide +kernel
theorem dX10_readsOne_254 : decode cX10_readsOne 254 = .ok (.aload_n 0, 1) := by decide +kernel
theorem dX10_readsOne_255 : decode cX10_readsOne 255 = .ok (.ldc_w 265, 3) := by decide +kernel
theorem dX10_readsOne_258 : decode cX10_readsOne 258 = .ok (.ldc 234, 2) := by decide +kernel
theorem dX10_readsOne_260 : decode cX10_readsOne 260 = .ok (.iconst 2, 1) := by decide +kernel
theorem dX10_readsOne_261 : decode cX10_readsOne 261 = .ok (.invokevirtual 240, 3) := by decide +kernel
theorem dX10_readsOne_264 : decode cX10_readsOne 264 = .ok (.goto 19, 3) := by decide +kernel
theorem dX10_readsOne_267 : decode cX10_readsOne 267 = .ok (.aload_n 0, 1) := by decide +kernel
theorem dX10_readsOne_268 : decode cX10_readsOne 268 = .ok (.ldc_w 267, 3) := by decide +kernel
theorem dX10_readsOne_271 : decode cX10_readsOne 271 = .ok (.iconst 1, 1) := by decide +kernel
theorem dX10_readsOne_272 : decode cX10_readsOne 272 = .ok (.invokevirtual 257, 3) := by decide +kernel
theorem dX10_readsOne_275 : decode cX10_readsOne 275 = .ok (.goto 8, 3) := by decide +kernel
theorem dX10_readsOne_278 : decode cX10_readsOne 278 = .ok (.aload_n 0, 1) := by decide +kernel
theorem dX10_readsOne_279 : decode cX10_readsOne 279 = .ok (.iconst 1, 1) := by decide +kernel
theorem dX10_readsOne_280 : decode cX10_readsOne 280 = .ok (.putfield 212, 3) := by decide +kernel
theorem dX10_readsOne_283 : decode cX10_readsOne 283 = .ok (.aload_n 0, 1) := by decide +kernel
theorem dX10_readsOne_284 : decode cX10_readsOne 284 = .ok (.dup, 1) := by decide +kernel
theorem dX10_readsOne_285 : decode cX10_readsOne 285 = .ok (.getfield 223, 3) := by decide +kernel
theorem dX10_readsOne_288 : decode cX10_readsOne 288 = .ok (.iconst 1, 1) := by decide +kernel
theorem dX10_readsOne_289 : decode cX10_readsOne 289 = .ok (.iadd, 1) := by decide +kernel
theorem dX10_readsOne_290 : decode cX10_readsOne 290 = .ok (.putfield 223, 3) := by decide +kernel
theorem dX10_readsOne_293 : decode cX10_readsOne 293 = .ok (.return_, 1) := by decide +kernel
theorem dX10_does_0 : decode cX10_does 0 = .ok (.aload_n 0, 1) := by decide +kernel
theorem dX10_does_1 : decode cX10_does 1 = .ok (.getfield 25, 3) := by decide +kernel
theorem dX10_does_4 : decode cX10_does 4 = .ok (.iconst 5, 1) := by decide +kernel
theorem dX10_does_5 : decode cX10_does 5 = .ok (.iload_n 1, 1) := by decide +kernel
theorem dX10_does_6 : decode cX10_does 6 = .ok (.imul, 1) := by decide +kernel
theorem dX10_does_7 : decode cX10_does 7 = .ok (.iconst 1, 1) := by decide +kernel
theorem dX10_does_8 : decode cX10_does 8 = .ok (.iadd, 1) := by decide +kernel
theorem dX10_does_9 : decode cX10_does 9 = .ok (.iaload, 1) := by decide +kernel
theorem dX10_does_10 : decode cX10_does 10 = .ok (.istore_n 2, 1) := by decide +kernel
theorem dX10_does_11 : decode cX10_does 11 = .ok (.aload_n 0, 1) := by decide +kernel
theorem dX10_does_12 : decode cX10_does 12 = .ok (.getfield 25, 3) := by decide +kernel
theorem dX10_does_15 : decode cX10_does 15 = .ok (.iconst 5, 1) := by decide +kernel
theorem dX10_does_16 : decode cX10_does 16 = .ok (.iload_n 1, 1) := by decide +kernel
theorem dX10_does_17 : decode cX10_does 17 = .ok (.imul, 1) := by decide +kernel
theorem dX10_does_18 : decode cX10_does 18 = .ok (.iconst 2, 1) := by decide +kernel
theorem dX10_does_19 : decode cX10_does 19 = .ok (.iadd, 1) := by decide +kernel
theorem dX10_does_20 : decode cX10_does 20 = .ok (.iaload, 1) := by decide +kernel
theorem dX10_does_21 : decode cX10_does 21 = .ok (.istore_n 3, 1) := by decide +kernel
theorem dX10_does_22 : decode cX10_does 22 = .ok (.aload_n 0, 1) := by decide +kernel
theorem dX10_does_23 : decode cX10_does 23 = .ok (.getfield 25, 3) := by decide +kernel
theorem dX10_does_26 : decode cX10_does 26 = .ok (.iconst 5, 1) := by decide +kernel
theorem dX10_does_27 : decode cX10_does 27 = .ok (.iload_n 1, 1) := by decide +kernel
theorem dX10_does_28 : decode cX10_does 28 = .ok (.imul, 1) := by decide +kernel
theorem dX10_does_29 : decode cX10_does 29 = .ok (.iconst 3, 1) := by decide +kernel
theorem dX10_does_30 : decode cX10_does 30 = .ok (.iadd, 1) := by decide +kernel
theorem dX10_does_31 : decode cX10_does 31 = .ok (.iaload, 1) := by decide +kernel
theorem dX10_does_32 : decode cX10_does 32 = .ok (.istore 4, 2) := by decide +kernel
theorem dX10_does_34 : decode cX10_does 34 = .ok (.aload_n 0, 1) := by decide +kernel
theorem dX10_does_35 : decode cX10_does 35 = .ok (.getfield 25, 3) := by decide +kernel
theorem dX10_does_38 : decode cX10_does 38 = .ok (.iconst 5, 1) := by decide +kernel
theorem dX10_does_39 : decode cX10_does 39 = .ok (.iload_n 1, 1) := by decide +kernel
theorem dX10_does_40 : decode cX10_does 40 = .ok (.imul, 1) := by decide +kernel
theorem dX10_does_41 : decode cX10_does 41 = .ok (.iaload, 1) := by decide +kernel
theorem dX10_does_42 : decode cX10_does 42 = .ok (.tableswitch 153 101 119 #[127, 153, 153, 153, 153, 153, 90, 153, 108, 146, 153, 153, 153, 153, 139, 99, 153, 153, 133], 90) := by decide +kernel
theorem dX10_does_132 : decode cX10_does 132 = .ok (.aload_n 0, 1) := by decide +kernel
theorem dX10_does_133 : decode cX10_does 133 = .ok (.iload_n 2, 1) := by decide +kernel
theorem dX10_does_134 : decode cX10_does 134 = .ok (.iload_n 3, 1) := by decide +kernel
theorem dX10_does_135 : decode cX10_does 135 = .ok (.iload 4, 2) := by decide +kernel
theorem dX10_does_137 : decode cX10_does 137 = .ok (.invokevirtual 139, 3) := by decide +kernel
theorem dX10_does_140 : decode cX10_does 140 = .ok (.ireturn, 1) := by decide +kernel
theorem dX10_does_141 : decode cX10_does 141 = .ok (.aload_n 0, 1) := by decide +kernel
theorem dX10_does_142 : decode cX10_does 142 = .ok (.iload_n 2, 1) := by decide +kernel
theorem dX10_does_143 : decode cX10_does 143 = .ok (.iload_n 3, 1) := by decide +kernel
theorem dX10_does_144 : decode cX10_does 144 = .ok (.iload 4, 2) := by decide +kernel
theorem dX10_does_146 : decode cX10_does 146 = .ok (.invokevirtual 146, 3) := by decide +kernel
theorem dX10_does_149 : decode cX10_does 149 = .ok (.ireturn, 1) := by decide +kernel
theorem dX10_does_150 : decode cX10_does 150 = .ok (.aload_n 0, 1) := by decide +kernel
theorem dX10_does_151 : decode cX10_does 151 = .ok (.iload_n 2, 1) := by decide +kernel
theorem dX10_does_152 : decode cX10_does 152 = .ok (.iload_n 3, 1) := by decide +kernel
theorem dX10_does_153 : decode cX10_does 153 = .ok (.iload 4, 2) := by decide +kernel
theorem dX10_does_155 : decode cX10_does 155 = .ok (.aload_n 0, 1) := by decide +kernel
theorem dX10_does_156 : decode cX10_does 156 = .ok (.getfield 25, 3) := by decide +kernel
theorem dX10_does_159 : decode cX10_does 159 = .ok (.iconst 5, 1) := by decide +kernel
theorem dX10_does_160 : decode cX10_does 160 = .ok (.iload_n 1, 1) := by decide +kernel
theorem dX10_does_161 : decode cX10_does 161 = .ok (.imul, 1) := by decide +kernel
theorem dX10_does_162 : decode cX10_does 162 = .ok (.iconst 4, 1) := by decide +kernel
theorem dX10_does_163 : decode cX10_does 163 = .ok (.iadd, 1) := by decide +kernel
theorem dX10_does_164 : decode cX10_does 164 = .ok (.iaload, 1) := by decide +kernel
theorem dX10_does_165 : decode cX10_does 165 = .ok (.invokevirtual 149, 3) := by decide +kernel
theorem dX10_does_168 : decode cX10_does 168 = .ok (.ireturn, 1) := by decide +kernel
theorem dX10_does_169 : decode cX10_does 169 = .ok (.aload_n 0, 1) := by decide +kernel
theorem dX10_does_170 : decode cX10_does 170 = .ok (.iload_n 2, 1) := by decide +kernel
theorem dX10_does_171 : decode cX10_does 171 = .ok (.invokevirtual 153, 3) := by decide +kernel
theorem dX10_does_174 : decode cX10_does 174 = .ok (.ireturn, 1) := by decide +kernel
theorem dX10_does_175 : decode cX10_does 175 = .ok (.aload_n 0, 1) := by decide +kernel
theorem dX10_does_176 : decode cX10_does 176 = .ok (.iload_n 2, 1) := by decide +kernel
theorem dX10_does_177 : decode cX10_does 177 = .ok (.invokevirtual 156, 3) := by decide +kernel
theorem dX10_does_180 : decode cX10_does 180 = .ok (.ireturn, 1) := by decide +kernel
theorem dX10_does_181 : decode cX10_does 181 = .ok (.aload_n 0, 1) := by decide +kernel
theorem dX10_does_182 : decode cX10_does 182 = .ok (.iload_n 2, 1) := by decide +kernel
theorem dX10_does_183 : decode cX10_does 183 = .ok (.iload_n 3, 1) := by decide +kernel
theorem dX10_does_184 : decode cX10_does 184 = .ok (.invokevirtual 159, 3) := by decide +kernel
theorem dX10_does_187 : decode cX10_does 187 = .ok (.ireturn, 1) := by decide +kernel
theorem dX10_does_188 : decode cX10_does 188 = .ok (.aload_n 0, 1) := by decide +kernel
theorem dX10_does_189 : decode cX10_does 189 = .ok (.iload_n 2, 1) := by decide +kernel
theorem dX10_does_190 : decode cX10_does 190 = .ok (.iload_n 3, 1) := by decide +kernel
theorem dX10_does_191 : decode cX10_does 191 = .ok (.invokevirtual 162, 3) := by decide +kernel
theorem dX10_does_194 : decode cX10_does 194 = .ok (.ireturn, 1) := by decide +kernel
theorem dX10_does_195 : decode cX10_does 195 = .ok (.aload_n 0, 1) := by decide +kernel
theorem dX10_does_196 : decode cX10_does 196 = .ok (.iload_n 2, 1) := by decide +kernel
theorem dX10_does_197 : decode cX10_does 197 = .ok (.invokevirtual 165, 3) := by decide +kernel
theorem dX10_does_200 : decode cX10_does 200 = .ok (.ireturn, 1) := by decide +kernel
theorem dX10_run_0 : decode cX10_run 0 = .ok (.aload_n 0, 1) := by decide +kernel
theorem dX10_run_1 : decode cX10_run 1 = .ok (.invokevirtual 136, 3) := by decide +kernel
theorem dX10_run_4 : decode cX10_run 4 = .ok (.aload_n 0, 1) := by decide +kernel
theorem dX10_run_5 : decode cX10_run 5 = .ok (.iconst 0, 1) := by decide +kernel
theorem dX10_run_6 : decode cX10_run 6 = .ok (.putfield 201, 3) := by decide +kernel
theorem dX10_run_9 : decode cX10_run 9 = .ok (.aload_n 0, 1) := by decide +kernel
theorem dX10_run_10 : decode cX10_run 10 = .ok (.aload_n 0, 1) := by decide +kernel
theorem dX10_run_11 : decode cX10_run 11 = .ok (.getfield 198, 3) := by decide +kernel
theorem dX10_run_14 : decode cX10_run 14 = .ok (.putfield 204, 3) := by decide +kernel
theorem dX10_run_17 : decode cX10_run 17 = .ok (.aload_n 0, 1) := by decide +kernel
theorem dX10_run_18 : decode cX10_run 18 = .ok (.iconst 0, 1) := by decide +kernel
theorem dX10_run_19 : decode cX10_run 19 = .ok (.putfield 198, 3) := by decide +kernel
theorem dX10_run_22 : decode cX10_run 22 = .ok (.aload_n 0, 1) := by decide +kernel
theorem dX10_run_23 : decode cX10_run 23 = .ok (.iconst 0, 1) := by decide +kernel
theorem dX10_run_24 : decode cX10_run 24 = .ok (.putfield 223, 3) := by decide +kernel
theorem dX10_run_27 : decode cX10_run 27 = .ok (.aload_n 0, 1) := by decide +kernel
theorem dX10_run_28 : decode cX10_run 28 = .ok (.iconst 0, 1) := by decide +kernel
theorem dX10_run_29 : decode cX10_run 29 = .ok (.putfield 212, 3) := by decide +kernel
theorem dX10_run_32 : decode cX10_run 32 = .ok (.aload_n 0, 1) := by decide +kernel
theorem dX10_run_33 : decode cX10_run 33 = .ok (.invokevirtual 269, 3) := by decide +kernel
theorem dX10_run_36 : decode cX10_run 36 = .ok (.aload_n 0, 1) := by decide +kernel
theorem dX10_run_37 : decode cX10_run 37 = .ok (.getfield 212, 3) := by decide +kernel
theorem dX10_run_40 : decode cX10_run 40 = .ok (.ifCond .ne 30, 3) := by decide +kernel
theorem dX10_run_43 : decode cX10_run 43 = .ok (.aload_n 0, 1) := by decide +kernel
theorem dX10_run_44 : decode cX10_run 44 = .ok (.iconst 0, 1) := by decide +kernel
theorem dX10_run_45 : decode cX10_run 45 = .ok (.invokevirtual 216, 3) := by decide +kernel
theorem dX10_run_48 : decode cX10_run 48 = .ok (.bipush 59, 2) := by decide +kernel
theorem dX10_run_50 : decode cX10_run 50 = .ok (.if_icmp .ne 20, 3) := by decide +kernel
theorem dX10_run_53 : decode cX10_run 53 = .ok (.aload_n 0, 1) := by decide +kernel
theorem dX10_run_54 : decode cX10_run 54 = .ok (.dup, 1) := by decide +kernel
theorem dX10_run_55 : decode cX10_run 55 = .ok (.getfield 201, 3) := by decide +kernel
theorem dX10_run_58 : decode cX10_run 58 = .ok (.iconst 1, 1) := by decide +kernel
theorem dX10_run_59 : decode cX10_run 59 = .ok (.iadd, 1) := by decide +kernel
theorem dX10_run_60 : decode cX10_run 60 = .ok (.putfield 201, 3) := by decide +kernel
theorem dX10_run_63 : decode cX10_run 63 = .ok (.aload_n 0, 1) := by decide +kernel
theorem dX10_run_64 : decode cX10_run 64 = .ok (.invokevirtual 269, 3) := by decide +kernel
theorem dX10_run_67 : decode cX10_run 67 = .ok (.goto (-31), 3) := by decide +kernel
theorem dX10_run_70 : decode cX10_run 70 = .ok (.aload_n 0, 1) := by decide +kernel
theorem dX10_run_71 : decode cX10_run 71 = .ok (.getfield 212, 3) := by decide +kernel
theorem dX10_run_74 : decode cX10_run 74 = .ok (.ifCond .ne 14, 3) := by decide +kernel
theorem dX10_run_77 : decode cX10_run 77 = .ok (.aload_n 0, 1) := by decide +kernel
theorem dX10_run_78 : decode cX10_run 78 = .ok (.getfield 201, 3) := by decide +kernel
theorem dX10_run_81 : decode cX10_run 81 = .ok (.aload_n 0, 1) := by decide +kernel
theorem dX10_run_82 : decode cX10_run 82 = .ok (.getfield 204, 3) := by decide +kernel
theorem dX10_run_85 : decode cX10_run 85 = .ok (.if_icmp .ge 17, 3) := by decide +kernel
theorem dX10_run_88 : decode cX10_run 88 = .ok (.aload_n 0, 1) := by decide +kernel
theorem dX10_run_89 : decode cX10_run 89 = .ok (.aload_n 0, 1) := by decide +kernel
theorem dX10_run_90 : decode cX10_run 90 = .ok (.getfield 201, 3) := by decide +kernel
theorem dX10_run_93 : decode cX10_run 93 = .ok (.putfield 31, 3) := by decide +kernel
theorem dX10_run_96 : decode cX10_run 96 = .ok (.aload_n 0, 1) := by decide +kernel
theorem dX10_run_97 : decode cX10_run 97 = .ok (.iconst 1, 1) := by decide +kernel
theorem dX10_run_98 : decode cX10_run 98 = .ok (.invokevirtual 60, 3) := by decide +kernel
theorem dX10_run_101 : decode cX10_run 101 = .ok (.ireturn, 1) := by decide +kernel
theorem dX10_run_102 : decode cX10_run 102 = .ok (.iconst 0, 1) := by decide +kernel
theorem dX10_run_103 : decode cX10_run 103 = .ok (.istore_n 1, 1) := by decide +kernel
theorem dX10_run_104 : decode cX10_run 104 = .ok (.iload_n 1, 1) := by decide +kernel
theorem dX10_run_105 : decode cX10_run 105 = .ok (.aload_n 0, 1) := by decide +kernel
theorem dX10_run_106 : decode cX10_run 106 = .ok (.getfield 223, 3) := by decide +kernel
theorem dX10_run_109 : decode cX10_run 109 = .ok (.if_icmp .ge 78, 3) := by decide +kernel
theorem dX10_run_112 : decode cX10_run 112 = .ok (.aload_n 0, 1) := by decide +kernel
theorem dX10_run_113 : decode cX10_run 113 = .ok (.iload_n 1, 1) := by decide +kernel
theorem dX10_run_114 : decode cX10_run 114 = .ok (.invokevirtual 272, 3) := by decide +kernel
theorem dX10_run_117 : decode cX10_run 117 = .ok (.istore_n 2, 1) := by decide +kernel
theorem dX10_run_118 : decode cX10_run 118 = .ok (.iload_n 2, 1) := by decide +kernel
theorem dX10_run_119 : decode cX10_run 119 = .ok (.ifCond .ne 6, 3) := by decide +kernel
theorem dX10_run_122 : decode cX10_run 122 = .ok (.goto 59, 3) := by decide +kernel
theorem dX10_run_125 : decode cX10_run 125 = .ok (.iconst 0, 1) := by decide +kernel
theorem dX10_run_126 : decode cX10_run 126 = .ok (.istore_n 3, 1) := by decide +kernel
theorem dX10_run_127 : decode cX10_run 127 = .ok (.iload_n 3, 1) := by decide +kernel
theorem dX10_run_128 : decode cX10_run 128 = .ok (.bipush 53, 2) := by decide +kernel
theorem dX10_run_130 : decode cX10_run 130 = .ok (.if_icmp .ge 21, 3) := by decide +kernel
theorem dX10_run_133 : decode cX10_run 133 = .ok (.aload_n 0, 1) := by decide +kernel
theorem dX10_run_134 : decode cX10_run 134 = .ok (.getfield 7, 3) := by decide +kernel
theorem dX10_run_137 : decode cX10_run 137 = .ok (.iload_n 3, 1) := by decide +kernel
theorem dX10_run_138 : decode cX10_run 138 = .ok (.aload_n 0, 1) := by decide +kernel
theorem dX10_run_139 : decode cX10_run 139 = .ok (.getfield 13, 3) := by decide +kernel
theorem dX10_run_142 : decode cX10_run 142 = .ok (.iload_n 3, 1) := by decide +kernel
theorem dX10_run_143 : decode cX10_run 143 = .ok (.iaload, 1) := by decide +kernel
theorem dX10_run_144 : decode cX10_run 144 = .ok (.iastore, 1) := by decide +kernel
theorem dX10_run_145 : decode cX10_run 145 = .ok (.iinc 3 1, 3) := by decide +kernel
theorem dX10_run_148 : decode cX10_run 148 = .ok (.goto (-21), 3) := by decide +kernel
theorem dX10_run_151 : decode cX10_run 151 = .ok (.aload_n 0, 1) := by decide +kernel
theorem dX10_run_152 : decode cX10_run 152 = .ok (.bipush 9, 2) := by decide +kernel
theorem dX10_run_154 : decode cX10_run 154 = .ok (.putfield 51, 3) := by decide +kernel
theorem dX10_run_157 : decode cX10_run 157 = .ok (.aload_n 0, 1) := by decide +kernel
theorem dX10_run_158 : decode cX10_run 158 = .ok (.iload_n 1, 1) := by decide +kernel
theorem dX10_run_159 : decode cX10_run 159 = .ok (.putfield 54, 3) := by decide +kernel
theorem dX10_run_162 : decode cX10_run 162 = .ok (.aload_n 0, 1) := by decide +kernel
theorem dX10_run_163 : decode cX10_run 163 = .ok (.iload_n 2, 1) := by decide +kernel
theorem dX10_run_164 : decode cX10_run 164 = .ok (.putfield 57, 3) := by decide +kernel
theorem dX10_run_167 : decode cX10_run 167 = .ok (.aload_n 0, 1) := by decide +kernel
theorem dX10_run_168 : decode cX10_run 168 = .ok (.aload_n 0, 1) := by decide +kernel
theorem dX10_run_169 : decode cX10_run 169 = .ok (.getfield 41, 3) := by decide +kernel
theorem dX10_run_172 : decode cX10_run 172 = .ok (.putfield 275, 3) := by decide +kernel
theorem dX10_run_175 : decode cX10_run 175 = .ok (.aload_n 0, 1) := by decide +kernel
theorem dX10_run_176 : decode cX10_run 176 = .ok (.iconst 2, 1) := by decide +kernel
theorem dX10_run_177 : decode cX10_run 177 = .ok (.invokevirtual 60, 3) := by decide +kernel
theorem dX10_run_180 : decode cX10_run 180 = .ok (.ireturn, 1) := by decide +kernel
theorem dX10_run_181 : decode cX10_run 181 = .ok (.iinc 1 1, 3) := by decide +kernel
theorem dX10_run_184 : decode cX10_run 184 = .ok (.goto (-80), 3) := by decide +kernel
theorem dX10_run_187 : decode cX10_run 187 = .ok (.aload_n 0, 1) := by decide +kernel
theorem dX10_run_188 : decode cX10_run 188 = .ok (.aload_n 0, 1) := by decide +kernel
theorem dX10_run_189 : decode cX10_run 189 = .ok (.getfield 223, 3) := by decide +kernel
theorem dX10_run_192 : decode cX10_run 192 = .ok (.invokevirtual 47, 3) := by decide +kernel
theorem dX10_run_195 : decode cX10_run 195 = .ok (.ireturn, 1) := by decide +kernel
theorem dX10_faultPosition_0 : decode cX10_faultPosition 0 = .ok (.aload_n 0, 1) := by decide +kernel
theorem dX10_faultPosition_1 : decode cX10_faultPosition 1 = .ok (.iconst 0, 1) := by decide +kernel
theorem dX10_faultPosition_2 : decode cX10_faultPosition 2 = .ok (.putfield 35, 3) := by decide +kernel
theorem dX10_faultPosition_5 : decode cX10_faultPosition 5 = .ok (.aload_n 0, 1) := by decide +kernel
theorem dX10_faultPosition_6 : decode cX10_faultPosition 6 = .ok (.getfield 31, 3) := by decide +kernel
theorem dX10_faultPosition_9 : decode cX10_faultPosition 9 = .ok (.iconst (-1), 1) := by decide +kernel
theorem dX10_faultPosition_10 : decode cX10_faultPosition 10 = .ok (.if_icmp .ne 11, 3) := by decide +kernel
theorem dX10_faultPosition_13 : decode cX10_faultPosition 13 = .ok (.aload_n 0, 1) := by decide +kernel
theorem dX10_faultPosition_14 : decode cX10_faultPosition 14 = .ok (.iconst 1, 1) := by decide +kernel
theorem dX10_faultPosition_15 : decode cX10_faultPosition 15 = .ok (.invokevirtual 60, 3) := by decide +kernel
theorem dX10_faultPosition_18 : decode cX10_faultPosition 18 = .ok (.goto 7, 3) := by decide +kernel
theorem dX10_faultPosition_21 : decode cX10_faultPosition 21 = .ok (.aload_n 0, 1) := by decide +kernel
theorem dX10_faultPosition_22 : decode cX10_faultPosition 22 = .ok (.getfield 31, 3) := by decide +kernel
theorem dX10_faultPosition_25 : decode cX10_faultPosition 25 = .ok (.ireturn, 1) := by decide +kernel
theorem dX10_reason_0 : decode cX10_reason 0 = .ok (.aload_n 0, 1) := by decide +kernel
theorem dX10_reason_1 : decode cX10_reason 1 = .ok (.aload_n 0, 1) := by decide +kernel
theorem dX10_reason_2 : decode cX10_reason 2 = .ok (.getfield 51, 3) := by decide +kernel
theorem dX10_reason_5 : decode cX10_reason 5 = .ok (.ifCond .eq 14, 3) := by decide +kernel
theorem dX10_reason_8 : decode cX10_reason 8 = .ok (.iload_n 1, 1) := by decide +kernel
theorem dX10_reason_9 : decode cX10_reason 9 = .ok (.ifCond .eq 14, 3) := by decide +kernel
theorem dX10_reason_12 : decode cX10_reason 12 = .ok (.aload_n 0, 1) := by decide +kernel
theorem dX10_reason_13 : decode cX10_reason 13 = .ok (.getfield 57, 3) := by decide +kernel
theorem dX10_reason_16 : decode cX10_reason 16 = .ok (.ifCond .ne 7, 3) := by decide +kernel
theorem dX10_reason_19 : decode cX10_reason 19 = .ok (.iconst 1, 1) := by decide +kernel
theorem dX10_reason_20 : decode cX10_reason 20 = .ok (.goto 4, 3) := by decide +kernel
theorem dX10_reason_23 : decode cX10_reason 23 = .ok (.iconst 0, 1) := by decide +kernel
theorem dX10_reason_24 : decode cX10_reason 24 = .ok (.putfield 35, 3) := by decide +kernel
theorem dX10_reason_27 : decode cX10_reason 27 = .ok (.aload_n 0, 1) := by decide +kernel
theorem dX10_reason_28 : decode cX10_reason 28 = .ok (.getfield 35, 3) := by decide +kernel
theorem dX10_reason_31 : decode cX10_reason 31 = .ok (.ifCond .le 5, 3) := by decide +kernel
theorem dX10_reason_34 : decode cX10_reason 34 = .ok (.iconst 0, 1) := by decide +kernel
theorem dX10_reason_35 : decode cX10_reason 35 = .ok (.ireturn, 1) := by decide +kernel
theorem dX10_reason_36 : decode cX10_reason 36 = .ok (.iload_n 1, 1) := by decide +kernel
theorem dX10_reason_37 : decode cX10_reason 37 = .ok (.ifCond .eq 21, 3) := by decide +kernel
theorem dX10_reason_40 : decode cX10_reason 40 = .ok (.iload_n 2, 1) := by decide +kernel
theorem dX10_reason_41 : decode cX10_reason 41 = .ok (.ifCond .eq 10, 3) := by decide +kernel
theorem dX10_reason_44 : decode cX10_reason 44 = .ok (.aload_n 0, 1) := by decide +kernel
theorem dX10_reason_45 : decode cX10_reason 45 = .ok (.getfield 275, 3) := by decide +kernel
theorem dX10_reason_48 : decode cX10_reason 48 = .ok (.goto 25, 3) := by decide +kernel
theorem dX10_reason_51 : decode cX10_reason 51 = .ok (.aload_n 0, 1) := by decide +kernel
theorem dX10_reason_52 : decode cX10_reason 52 = .ok (.getfield 57, 3) := by decide +kernel
theorem dX10_reason_55 : decode cX10_reason 55 = .ok (.goto 18, 3) := by decide +kernel
theorem dX10_reason_58 : decode cX10_reason 58 = .ok (.iload_n 2, 1) := by decide +kernel
theorem dX10_reason_59 : decode cX10_reason 59 = .ok (.ifCond .eq 10, 3) := by decide +kernel
theorem dX10_reason_62 : decode cX10_reason 62 = .ok (.aload_n 0, 1) := by decide +kernel
theorem dX10_reason_63 : decode cX10_reason 63 = .ok (.getfield 54, 3) := by decide +kernel
theorem dX10_reason_66 : decode cX10_reason 66 = .ok (.goto 7, 3) := by decide +kernel
theorem dX10_reason_69 : decode cX10_reason 69 = .ok (.aload_n 0, 1) := by decide +kernel
theorem dX10_reason_70 : decode cX10_reason 70 = .ok (.getfield 51, 3) := by decide +kernel
theorem dX10_reason_73 : decode cX10_reason 73 = .ok (.ireturn, 1) := by decide +kernel
theorem dX10_writes_0 : decode cX10_writes 0 = .ok (.aload_n 0, 1) := by decide +kernel
theorem dX10_writes_1 : decode cX10_writes 1 = .ok (.getfield 28, 3) := by decide +kernel
theorem dX10_writes_4 : decode cX10_writes 4 = .ok (.aload_n 0, 1) := by decide +kernel
theorem dX10_writes_5 : decode cX10_writes 5 = .ok (.getfield 278, 3) := by decide +kernel
theorem dX10_writes_8 : decode cX10_writes 8 = .ok (.iload_n 1, 1) := by decide +kernel
theorem dX10_writes_9 : decode cX10_writes 9 = .ok (.iastore, 1) := by decide +kernel
theorem dX10_writes_10 : decode cX10_writes 10 = .ok (.aload_n 0, 1) := by decide +kernel
theorem dX10_writes_11 : decode cX10_writes 11 = .ok (.dup, 1) := by decide +kernel
theorem dX10_writes_12 : decode cX10_writes 12 = .ok (.getfield 278, 3) := by decide +kernel
theorem dX10_writes_15 : decode cX10_writes 15 = .ok (.iconst 1, 1) := by decide +kernel
theorem dX10_writes_16 : decode cX10_writes 16 = .ok (.iadd, 1) := by decide +kernel
theorem dX10_writes_17 : decode cX10_writes 17 = .ok (.putfield 278, 3) := by decide +kernel
theorem dX10_writes_20 : decode cX10_writes 20 = .ok (.return_, 1) := by decide +kernel
theorem dX10_letter_0 : decode cX10_letter 0 = .ok (.iload_n 0, 1) := by decide +kernel
theorem dX10_letter_1 : decode cX10_letter 1 = .ok (.ifCond .ne 8, 3) := by decide +kernel
theorem dX10_letter_4 : decode cX10_letter 4 = .ok (.bipush 46, 2) := by decide +kernel
theorem dX10_letter_6 : decode cX10_letter 6 = .ok (.goto 9, 3) := by decide +kernel
theorem dX10_letter_9 : decode cX10_letter 9 = .ok (.bipush 97, 2) := by decide +kernel
theorem dX10_letter_11 : decode cX10_letter 11 = .ok (.iload_n 0, 1) := by decide +kernel
theorem dX10_letter_12 : decode cX10_letter 12 = .ok (.iadd, 1) := by decide +kernel
theorem dX10_letter_13 : decode cX10_letter 13 = .ok (.iconst 1, 1) := by decide +kernel
theorem dX10_letter_14 : decode cX10_letter 14 = .ok (.isub, 1) := by decide +kernel
theorem dX10_letter_15 : decode cX10_letter 15 = .ok (.ireturn, 1) := by decide +kernel
theorem dX10_line_0 : decode cX10_line 0 = .ok (.aload_n 0, 1) := by decide +kernel
theorem dX10_line_1 : decode cX10_line 1 = .ok (.iload_n 1, 1) := by decide +kernel
theorem dX10_line_2 : decode cX10_line 2 = .ok (.invokestatic 94, 3) := by decide +kernel
theorem dX10_line_5 : decode cX10_line 5 = .ok (.ifCond .eq 16, 3) := by decide +kernel
theorem dX10_line_8 : decode cX10_line 8 = .ok (.iload_n 2, 1) := by decide +kernel
theorem dX10_line_9 : decode cX10_line 9 = .ok (.iconst 0, 1) := by decide +kernel
theorem dX10_line_10 : decode cX10_line 10 = .ok (.iconst 3, 1) := by decide +kernel
theorem dX10_line_11 : decode cX10_line 11 = .ok (.invokestatic 63, 3) := by decide +kernel
theorem dX10_line_14 : decode cX10_line 14 = .ok (.ifCond .eq 7, 3) := by decide +kernel
theorem dX10_line_17 : decode cX10_line 17 = .ok (.iconst 0, 1) := by decide +kernel
theorem dX10_line_18 : decode cX10_line 18 = .ok (.goto 4, 3) := by decide +kernel
theorem dX10_line_21 : decode cX10_line 21 = .ok (.iconst 1, 1) := by decide +kernel
theorem dX10_line_22 : decode cX10_line 22 = .ok (.putfield 35, 3) := by decide +kernel
theorem dX10_line_25 : decode cX10_line 25 = .ok (.aload_n 0, 1) := by decide +kernel
theorem dX10_line_26 : decode cX10_line 26 = .ok (.getfield 35, 3) := by decide +kernel
theorem dX10_line_29 : decode cX10_line 29 = .ok (.ifCond .le 5, 3) := by decide +kernel
theorem dX10_line_32 : decode cX10_line 32 = .ok (.iconst 0, 1) := by decide +kernel
theorem dX10_line_33 : decode cX10_line 33 = .ok (.ireturn, 1) := by decide +kernel
theorem dX10_line_34 : decode cX10_line 34 = .ok (.aload_n 0, 1) := by decide +kernel
theorem dX10_line_35 : decode cX10_line 35 = .ok (.iconst 0, 1) := by decide +kernel
theorem dX10_line_36 : decode cX10_line 36 = .ok (.putfield 278, 3) := by decide +kernel
theorem dX10_line_39 : decode cX10_line 39 = .ok (.iload_n 2, 1) := by decide +kernel
theorem dX10_line_40 : decode cX10_line 40 = .ok (.iconst 4, 1) := by decide +kernel
theorem dX10_line_41 : decode cX10_line 41 = .ok (.aload_n 0, 1) := by decide +kernel
theorem dX10_line_42 : decode cX10_line 42 = .ok (.iload_n 1, 1) := by decide +kernel
theorem dX10_line_43 : decode cX10_line 43 = .ok (.invokevirtual 91, 3) := by decide +kernel
theorem dX10_line_46 : decode cX10_line 46 = .ok (.isub, 1) := by decide +kernel
theorem dX10_line_47 : decode cX10_line 47 = .ok (.if_icmp .lt 9, 3) := by decide +kernel
theorem dX10_line_50 : decode cX10_line 50 = .ok (.aload_n 0, 1) := by decide +kernel
theorem dX10_line_51 : decode cX10_line 51 = .ok (.bipush 126, 2) := by decide +kernel
theorem dX10_line_53 : decode cX10_line 53 = .ok (.invokevirtual 281, 3) := by decide +kernel
theorem dX10_line_56 : decode cX10_line 56 = .ok (.bipush 6, 2) := by decide +kernel
theorem dX10_line_58 : decode cX10_line 58 = .ok (.iload_n 2, 1) := by decide +kernel
theorem dX10_line_59 : decode cX10_line 59 = .ok (.imul, 1) := by decide +kernel
theorem dX10_line_60 : decode cX10_line 60 = .ok (.istore_n 3, 1) := by decide +kernel
theorem dX10_line_61 : decode cX10_line 61 = .ok (.iload_n 3, 1) := by decide +kernel
theorem dX10_line_62 : decode cX10_line 62 = .ok (.bipush 6, 2) := by decide +kernel
theorem dX10_line_64 : decode cX10_line 64 = .ok (.iload_n 2, 1) := by decide +kernel
theorem dX10_line_65 : decode cX10_line 65 = .ok (.imul, 1) := by decide +kernel
theorem dX10_line_66 : decode cX10_line 66 = .ok (.bipush 6, 2) := by decide +kernel
theorem dX10_line_68 : decode cX10_line 68 = .ok (.iadd, 1) := by decide +kernel
theorem dX10_line_69 : decode cX10_line 69 = .ok (.if_icmp .ge 55, 3) := by decide +kernel
theorem dX10_line_72 : decode cX10_line 72 = .ok (.aload_n 0, 1) := by decide +kernel
theorem dX10_line_73 : decode cX10_line 73 = .ok (.aload_n 0, 1) := by decide +kernel
theorem dX10_line_74 : decode cX10_line 74 = .ok (.iload_n 1, 1) := by decide +kernel
theorem dX10_line_75 : decode cX10_line 75 = .ok (.iload_n 3, 1) := by decide +kernel
theorem dX10_line_76 : decode cX10_line 76 = .ok (.invokevirtual 104, 3) := by decide +kernel
theorem dX10_line_79 : decode cX10_line 79 = .ok (.invokestatic 284, 3) := by decide +kernel
theorem dX10_line_82 : decode cX10_line 82 = .ok (.invokevirtual 281, 3) := by decide +kernel
theorem dX10_line_85 : decode cX10_line 85 = .ok (.iload_n 3, 1) := by decide +kernel
theorem dX10_line_86 : decode cX10_line 86 = .ok (.bipush 6, 2) := by decide +kernel
theorem dX10_line_88 : decode cX10_line 88 = .ok (.irem, 1) := by decide +kernel
theorem dX10_line_89 : decode cX10_line 89 = .ok (.iconst 5, 1) := by decide +kernel
theorem dX10_line_90 : decode cX10_line 90 = .ok (.if_icmp .ge 28, 3) := by decide +kernel
theorem dX10_line_93 : decode cX10_line 93 = .ok (.aload_n 0, 1) := by decide +kernel
theorem dX10_line_94 : decode cX10_line 94 = .ok (.aload_n 0, 1) := by decide +kernel
theorem dX10_line_95 : decode cX10_line 95 = .ok (.iload_n 1, 1) := by decide +kernel
theorem dX10_line_96 : decode cX10_line 96 = .ok (.iconst 2, 1) := by decide +kernel
theorem dX10_line_97 : decode cX10_line 97 = .ok (.invokevirtual 67, 3) := by decide +kernel
theorem dX10_line_100 : decode cX10_line 100 = .ok (.iload_n 3, 1) := by decide +kernel
theorem dX10_line_101 : decode cX10_line 101 = .ok (.ishr, 1) := by decide +kernel
theorem dX10_line_102 : decode cX10_line 102 = .ok (.iconst 1, 1) := by decide +kernel
theorem dX10_line_103 : decode cX10_line 103 = .ok (.iand, 1) := by decide +kernel
theorem dX10_line_104 : decode cX10_line 104 = .ok (.iconst 1, 1) := by decide +kernel
theorem dX10_line_105 : decode cX10_line 105 = .ok (.if_icmp .ne 8, 3) := by decide +kernel
theorem dX10_line_108 : decode cX10_line 108 = .ok (.bipush 47, 2) := by decide +kernel
theorem dX10_line_110 : decode cX10_line 110 = .ok (.goto 5, 3) := by decide +kernel
theorem dX10_line_113 : decode cX10_line 113 = .ok (.bipush 45, 2) := by decide +kernel
theorem dX10_line_115 : decode cX10_line 115 = .ok (.invokevirtual 281, 3) := by decide +kernel
theorem dX10_line_118 : decode cX10_line 118 = .ok (.iinc 3 1, 3) := by decide +kernel
theorem dX10_line_121 : decode cX10_line 121 = .ok (.goto (-60), 3) := by decide +kernel
theorem dX10_line_124 : decode cX10_line 124 = .ok (.aload_n 0, 1) := by decide +kernel
theorem dX10_line_125 : decode cX10_line 125 = .ok (.getfield 278, 3) := by decide +kernel
theorem dX10_line_128 : decode cX10_line 128 = .ok (.ireturn, 1) := by decide +kernel
theorem dX10_chapterLine_0 : decode cX10_chapterLine 0 = .ok (.aload_n 0, 1) := by decide +kernel
theorem dX10_chapterLine_1 : decode cX10_chapterLine 1 = .ok (.iload_n 1, 1) := by decide +kernel
theorem dX10_chapterLine_2 : decode cX10_chapterLine 2 = .ok (.invokestatic 94, 3) := by decide +kernel
theorem dX10_chapterLine_5 : decode cX10_chapterLine 5 = .ok (.ifCond .eq 10, 3) := by decide +kernel
theorem dX10_chapterLine_8 : decode cX10_chapterLine 8 = .ok (.iload_n 2, 1) := by decide +kernel
theorem dX10_chapterLine_9 : decode cX10_chapterLine 9 = .ok (.invokestatic 101, 3) := by decide +kernel
theorem dX10_chapterLine_12 : decode cX10_chapterLine 12 = .ok (.ifCond .ne 7, 3) := by decide +kernel
theorem dX10_chapterLine_15 : decode cX10_chapterLine 15 = .ok (.iconst 1, 1) := by decide +kernel
theorem dX10_chapterLine_16 : decode cX10_chapterLine 16 = .ok (.goto 17, 3) := by decide +kernel
theorem dX10_chapterLine_19 : decode cX10_chapterLine 19 = .ok (.aload_n 0, 1) := by decide +kernel
theorem dX10_chapterLine_20 : decode cX10_chapterLine 20 = .ok (.iload_n 1, 1) := by decide +kernel
theorem dX10_chapterLine_21 : decode cX10_chapterLine 21 = .ok (.iload_n 2, 1) := by decide +kernel
theorem dX10_chapterLine_22 : decode cX10_chapterLine 22 = .ok (.invokevirtual 104, 3) := by decide +kernel
theorem dX10_chapterLine_25 : decode cX10_chapterLine 25 = .ok (.ifCond .ne 7, 3) := by decide +kernel
theorem dX10_chapterLine_28 : decode cX10_chapterLine 28 = .ok (.iconst 2, 1) := by decide +kernel
theorem dX10_chapterLine_29 : decode cX10_chapterLine 29 = .ok (.goto 4, 3) := by decide +kernel
theorem dX10_chapterLine_32 : decode cX10_chapterLine 32 = .ok (.iconst 0, 1) := by decide +kernel
theorem dX10_chapterLine_33 : decode cX10_chapterLine 33 = .ok (.putfield 35, 3) := by decide +kernel
theorem dX10_chapterLine_36 : decode cX10_chapterLine 36 = .ok (.aload_n 0, 1) := by decide +kernel
theorem dX10_chapterLine_37 : decode cX10_chapterLine 37 = .ok (.getfield 35, 3) := by decide +kernel
theorem dX10_chapterLine_40 : decode cX10_chapterLine 40 = .ok (.ifCond .le 5, 3) := by decide +kernel
theorem dX10_chapterLine_43 : decode cX10_chapterLine 43 = .ok (.iconst 0, 1) := by decide +kernel
theorem dX10_chapterLine_44 : decode cX10_chapterLine 44 = .ok (.ireturn, 1) := by decide +kernel
theorem dX10_chapterLine_45 : decode cX10_chapterLine 45 = .ok (.aload_n 0, 1) := by decide +kernel
theorem dX10_chapterLine_46 : decode cX10_chapterLine 46 = .ok (.iload_n 1, 1) := by decide +kernel
theorem dX10_chapterLine_47 : decode cX10_chapterLine 47 = .ok (.invokevirtual 117, 3) := by decide +kernel
theorem dX10_chapterLine_50 : decode cX10_chapterLine 50 = .ok (.aload_n 0, 1) := by decide +kernel
theorem dX10_chapterLine_51 : decode cX10_chapterLine 51 = .ok (.iload_n 2, 1) := by decide +kernel
theorem dX10_chapterLine_52 : decode cX10_chapterLine 52 = .ok (.aload_n 0, 1) := by decide +kernel
theorem dX10_chapterLine_53 : decode cX10_chapterLine 53 = .ok (.getfield 71, 3) := by decide +kernel
theorem dX10_chapterLine_56 : decode cX10_chapterLine 56 = .ok (.invokevirtual 88, 3) := by decide +kernel
theorem dX10_chapterLine_59 : decode cX10_chapterLine 59 = .ok (.istore_n 3, 1) := by decide +kernel
theorem dX10_chapterLine_60 : decode cX10_chapterLine 60 = .ok (.aload_n 0, 1) := by decide +kernel
theorem dX10_chapterLine_61 : decode cX10_chapterLine 61 = .ok (.iconst 0, 1) := by decide +kernel
theorem dX10_chapterLine_62 : decode cX10_chapterLine 62 = .ok (.putfield 278, 3) := by decide +kernel
theorem dX10_chapterLine_65 : decode cX10_chapterLine 65 = .ok (.iconst 0, 1) := by decide +kernel
theorem dX10_chapterLine_66 : decode cX10_chapterLine 66 = .ok (.istore 4, 2) := by decide +kernel
theorem dX10_chapterLine_68 : decode cX10_chapterLine 68 = .ok (.iload 4, 2) := by decide +kernel
theorem dX10_chapterLine_70 : decode cX10_chapterLine 70 = .ok (.bipush 24, 2) := by decide +kernel
theorem dX10_chapterLine_72 : decode cX10_chapterLine 72 = .ok (.if_icmp .ge 33, 3) := by decide +kernel
theorem dX10_chapterLine_75 : decode cX10_chapterLine 75 = .ok (.iload_n 3, 1) := by decide +kernel
theorem dX10_chapterLine_76 : decode cX10_chapterLine 76 = .ok (.iload 4, 2) := by decide +kernel
theorem dX10_chapterLine_78 : decode cX10_chapterLine 78 = .ok (.ishr, 1) := by decide +kernel
theorem dX10_chapterLine_79 : decode cX10_chapterLine 79 = .ok (.iconst 1, 1) := by decide +kernel
theorem dX10_chapterLine_80 : decode cX10_chapterLine 80 = .ok (.iand, 1) := by decide +kernel
theorem dX10_chapterLine_81 : decode cX10_chapterLine 81 = .ok (.iconst 1, 1) := by decide +kernel
theorem dX10_chapterLine_82 : decode cX10_chapterLine 82 = .ok (.if_icmp .ne 17, 3) := by decide +kernel
theorem dX10_chapterLine_85 : decode cX10_chapterLine 85 = .ok (.aload_n 0, 1) := by decide +kernel
theorem dX10_chapterLine_86 : decode cX10_chapterLine 86 = .ok (.aload_n 0, 1) := by decide +kernel
theorem dX10_chapterLine_87 : decode cX10_chapterLine 87 = .ok (.iload_n 1, 1) := by decide +kernel
theorem dX10_chapterLine_88 : decode cX10_chapterLine 88 = .ok (.iload 4, 2) := by decide +kernel
theorem dX10_chapterLine_90 : decode cX10_chapterLine 90 = .ok (.invokevirtual 104, 3) := by decide +kernel
theorem dX10_chapterLine_93 : decode cX10_chapterLine 93 = .ok (.invokestatic 284, 3) := by decide +kernel
theorem dX10_chapterLine_96 : decode cX10_chapterLine 96 = .ok (.invokevirtual 281, 3) := by decide +kernel
theorem dX10_chapterLine_99 : decode cX10_chapterLine 99 = .ok (.iinc 4 1, 3) := by decide +kernel
theorem dX10_chapterLine_102 : decode cX10_chapterLine 102 = .ok (.goto (-34), 3) := by decide +kernel
theorem dX10_chapterLine_105 : decode cX10_chapterLine 105 = .ok (.aload_n 0, 1) := by decide +kernel
theorem dX10_chapterLine_106 : decode cX10_chapterLine 106 = .ok (.getfield 278, 3) := by decide +kernel
theorem dX10_chapterLine_109 : decode cX10_chapterLine 109 = .ok (.ireturn, 1) := by decide +kernel
theorem dX10_noteLine_0 : decode cX10_noteLine 0 = .ok (.aload_n 0, 1) := by decide +kernel
theorem dX10_noteLine_1 : decode cX10_noteLine 1 = .ok (.aload_n 0, 1) := by decide +kernel
theorem dX10_noteLine_2 : decode cX10_noteLine 2 = .ok (.iload_n 1, 1) := by decide +kernel
theorem dX10_noteLine_3 : decode cX10_noteLine 3 = .ok (.invokevirtual 183, 3) := by decide +kernel
theorem dX10_noteLine_6 : decode cX10_noteLine 6 = .ok (.ifCond .eq 7, 3) := by decide +kernel
theorem dX10_noteLine_9 : decode cX10_noteLine 9 = .ok (.iconst 0, 1) := by decide +kernel
theorem dX10_noteLine_10 : decode cX10_noteLine 10 = .ok (.goto 4, 3) := by decide +kernel
theorem dX10_noteLine_13 : decode cX10_noteLine 13 = .ok (.iconst 1, 1) := by decide +kernel
theorem dX10_noteLine_14 : decode cX10_noteLine 14 = .ok (.putfield 35, 3) := by decide +kernel
theorem dX10_noteLine_17 : decode cX10_noteLine 17 = .ok (.aload_n 0, 1) := by decide +kernel
theorem dX10_noteLine_18 : decode cX10_noteLine 18 = .ok (.getfield 35, 3) := by decide +kernel
theorem dX10_noteLine_21 : decode cX10_noteLine 21 = .ok (.ifCond .le 5, 3) := by decide +kernel
theorem dX10_noteLine_24 : decode cX10_noteLine 24 = .ok (.iconst 0, 1) := by decide +kernel
theorem dX10_noteLine_25 : decode cX10_noteLine 25 = .ok (.ireturn, 1) := by decide +kernel
theorem dX10_noteLine_26 : decode cX10_noteLine 26 = .ok (.aload_n 0, 1) := by decide +kernel
theorem dX10_noteLine_27 : decode cX10_noteLine 27 = .ok (.iconst 0, 1) := by decide +kernel
theorem dX10_noteLine_28 : decode cX10_noteLine 28 = .ok (.putfield 278, 3) := by decide +kernel
theorem dX10_noteLine_31 : decode cX10_noteLine 31 = .ok (.iconst 0, 1) := by decide +kernel
theorem dX10_noteLine_32 : decode cX10_noteLine 32 = .ok (.istore_n 2, 1) := by decide +kernel
theorem dX10_noteLine_33 : decode cX10_noteLine 33 = .ok (.iload_n 2, 1) := by decide +kernel
theorem dX10_noteLine_34 : decode cX10_noteLine 34 = .ok (.bipush 24, 2) := by decide +kernel
theorem dX10_noteLine_36 : decode cX10_noteLine 36 = .ok (.if_icmp .ge 53, 3) := by decide +kernel
theorem dX10_noteLine_39 : decode cX10_noteLine 39 = .ok (.aload_n 0, 1) := by decide +kernel
theorem dX10_noteLine_40 : decode cX10_noteLine 40 = .ok (.iload_n 1, 1) := by decide +kernel
theorem dX10_noteLine_41 : decode cX10_noteLine 41 = .ok (.iconst 1, 1) := by decide +kernel
theorem dX10_noteLine_42 : decode cX10_noteLine 42 = .ok (.invokevirtual 133, 3) := by decide +kernel
theorem dX10_noteLine_45 : decode cX10_noteLine 45 = .ok (.iload_n 2, 1) := by decide +kernel
theorem dX10_noteLine_46 : decode cX10_noteLine 46 = .ok (.ishr, 1) := by decide +kernel
theorem dX10_noteLine_47 : decode cX10_noteLine 47 = .ok (.iconst 1, 1) := by decide +kernel
theorem dX10_noteLine_48 : decode cX10_noteLine 48 = .ok (.iand, 1) := by decide +kernel
theorem dX10_noteLine_49 : decode cX10_noteLine 49 = .ok (.iconst 1, 1) := by decide +kernel
theorem dX10_noteLine_50 : decode cX10_noteLine 50 = .ok (.if_icmp .ne 33, 3) := by decide +kernel
theorem dX10_noteLine_53 : decode cX10_noteLine 53 = .ok (.aload_n 0, 1) := by decide +kernel
theorem dX10_noteLine_54 : decode cX10_noteLine 54 = .ok (.aload_n 0, 1) := by decide +kernel
theorem dX10_noteLine_55 : decode cX10_noteLine 55 = .ok (.iload_n 1, 1) := by decide +kernel
theorem dX10_noteLine_56 : decode cX10_noteLine 56 = .ok (.iconst 2, 1) := by decide +kernel
theorem dX10_noteLine_57 : decode cX10_noteLine 57 = .ok (.invokevirtual 133, 3) := by decide +kernel
theorem dX10_noteLine_60 : decode cX10_noteLine 60 = .ok (.iload_n 2, 1) := by decide +kernel
theorem dX10_noteLine_61 : decode cX10_noteLine 61 = .ok (.ishr, 1) := by decide +kernel
theorem dX10_noteLine_62 : decode cX10_noteLine 62 = .ok (.iconst 1, 1) := by decide +kernel
theorem dX10_noteLine_63 : decode cX10_noteLine 63 = .ok (.iand, 1) := by decide +kernel
theorem dX10_noteLine_64 : decode cX10_noteLine 64 = .ok (.iconst 2, 1) := by decide +kernel
theorem dX10_noteLine_65 : decode cX10_noteLine 65 = .ok (.aload_n 0, 1) := by decide +kernel
theorem dX10_noteLine_66 : decode cX10_noteLine 66 = .ok (.iload_n 1, 1) := by decide +kernel
theorem dX10_noteLine_67 : decode cX10_noteLine 67 = .ok (.iconst 3, 1) := by decide +kernel
theorem dX10_noteLine_68 : decode cX10_noteLine 68 = .ok (.invokevirtual 133, 3) := by decide +kernel
theorem dX10_noteLine_71 : decode cX10_noteLine 71 = .ok (.iload_n 2, 1) := by decide +kernel
theorem dX10_noteLine_72 : decode cX10_noteLine 72 = .ok (.ishr, 1) := by decide +kernel
theorem dX10_noteLine_73 : decode cX10_noteLine 73 = .ok (.iconst 1, 1) := by decide +kernel
theorem dX10_noteLine_74 : decode cX10_noteLine 74 = .ok (.iand, 1) := by decide +kernel
theorem dX10_noteLine_75 : decode cX10_noteLine 75 = .ok (.imul, 1) := by decide +kernel
theorem dX10_noteLine_76 : decode cX10_noteLine 76 = .ok (.iadd, 1) := by decide +kernel
theorem dX10_noteLine_77 : decode cX10_noteLine 77 = .ok (.invokestatic 284, 3) := by decide +kernel
theorem dX10_noteLine_80 : decode cX10_noteLine 80 = .ok (.invokevirtual 281, 3) := by decide +kernel
theorem dX10_noteLine_83 : decode cX10_noteLine 83 = .ok (.iinc 2 1, 3) := by decide +kernel
theorem dX10_noteLine_86 : decode cX10_noteLine 86 = .ok (.goto (-53), 3) := by decide +kernel
theorem dX10_noteLine_89 : decode cX10_noteLine 89 = .ok (.aload_n 0, 1) := by decide +kernel
theorem dX10_noteLine_90 : decode cX10_noteLine 90 = .ok (.iload_n 1, 1) := by decide +kernel
theorem dX10_noteLine_91 : decode cX10_noteLine 91 = .ok (.invokevirtual 186, 3) := by decide +kernel
theorem dX10_noteLine_94 : decode cX10_noteLine 94 = .ok (.ifCond .ne 9, 3) := by decide +kernel
theorem dX10_noteLine_97 : decode cX10_noteLine 97 = .ok (.aload_n 0, 1) := by decide +kernel
theorem dX10_noteLine_98 : decode cX10_noteLine 98 = .ok (.bipush 33, 2) := by decide +kernel
theorem dX10_noteLine_100 : decode cX10_noteLine 100 = .ok (.invokevirtual 281, 3) := by decide +kernel
theorem dX10_noteLine_103 : decode cX10_noteLine 103 = .ok (.aload_n 0, 1) := by decide +kernel
theorem dX10_noteLine_104 : decode cX10_noteLine 104 = .ok (.getfield 278, 3) := by decide +kernel
theorem dX10_noteLine_107 : decode cX10_noteLine 107 = .ok (.ireturn, 1) := by decide +kernel
theorem dX10_character_0 : decode cX10_character 0 = .ok (.aload_n 0, 1) := by decide +kernel
theorem dX10_character_1 : decode cX10_character 1 = .ok (.iload_n 1, 1) := by decide +kernel
theorem dX10_character_2 : decode cX10_character 2 = .ok (.iconst 0, 1) := by decide +kernel
theorem dX10_character_3 : decode cX10_character 3 = .ok (.aload_n 0, 1) := by decide +kernel
theorem dX10_character_4 : decode cX10_character 4 = .ok (.getfield 278, 3) := by decide +kernel
theorem dX10_character_7 : decode cX10_character 7 = .ok (.iconst 1, 1) := by decide +kernel
theorem dX10_character_8 : decode cX10_character 8 = .ok (.isub, 1) := by decide +kernel
theorem dX10_character_9 : decode cX10_character 9 = .ok (.invokestatic 63, 3) := by decide +kernel
theorem dX10_character_12 : decode cX10_character 12 = .ok (.ifCond .eq 7, 3) := by decide +kernel
theorem dX10_character_15 : decode cX10_character 15 = .ok (.iconst 0, 1) := by decide +kernel
theorem dX10_character_16 : decode cX10_character 16 = .ok (.goto 4, 3) := by decide +kernel
theorem dX10_character_19 : decode cX10_character 19 = .ok (.iconst 1, 1) := by decide +kernel
theorem dX10_character_20 : decode cX10_character 20 = .ok (.putfield 35, 3) := by decide +kernel
theorem dX10_character_23 : decode cX10_character 23 = .ok (.aload_n 0, 1) := by decide +kernel
theorem dX10_character_24 : decode cX10_character 24 = .ok (.getfield 35, 3) := by decide +kernel
theorem dX10_character_27 : decode cX10_character 27 = .ok (.ifCond .le 7, 3) := by decide +kernel
theorem dX10_character_30 : decode cX10_character 30 = .ok (.iconst 0, 1) := by decide +kernel
theorem dX10_character_31 : decode cX10_character 31 = .ok (.goto 10, 3) := by decide +kernel
theorem dX10_character_34 : decode cX10_character 34 = .ok (.aload_n 0, 1) := by decide +kernel
theorem dX10_character_35 : decode cX10_character 35 = .ok (.getfield 28, 3) := by decide +kernel
theorem dX10_character_38 : decode cX10_character 38 = .ok (.iload_n 1, 1) := by decide +kernel
theorem dX10_character_39 : decode cX10_character 39 = .ok (.iaload, 1) := by decide +kernel
theorem dX10_character_40 : decode cX10_character 40 = .ok (.i2c, 1) := by decide +kernel
theorem dX10_character_41 : decode cX10_character 41 = .ok (.ireturn, 1) := by decide +kernel
theorem dX10_allKnots_0 : decode cX10_allKnots 0 = .ok (.aload_n 0, 1) := by decide +kernel
theorem dX10_allKnots_1 : decode cX10_allKnots 1 = .ok (.iconst 0, 1) := by decide +kernel
theorem dX10_allKnots_2 : decode cX10_allKnots 2 = .ok (.iconst 0, 1) := by decide +kernel
theorem dX10_allKnots_3 : decode cX10_allKnots 3 = .ok (.invokevirtual 67, 3) := by decide +kernel
theorem dX10_allKnots_6 : decode cX10_allKnots 6 = .ok (.aload_n 0, 1) := by decide +kernel
theorem dX10_allKnots_7 : decode cX10_allKnots 7 = .ok (.iconst 0, 1) := by decide +kernel
theorem dX10_allKnots_8 : decode cX10_allKnots 8 = .ok (.iconst 1, 1) := by decide +kernel
theorem dX10_allKnots_9 : decode cX10_allKnots 9 = .ok (.invokevirtual 67, 3) := by decide +kernel
theorem dX10_allKnots_12 : decode cX10_allKnots 12 = .ok (.ior, 1) := by decide +kernel
theorem dX10_allKnots_13 : decode cX10_allKnots 13 = .ok (.invokestatic 127, 3) := by decide +kernel
theorem dX10_allKnots_16 : decode cX10_allKnots 16 = .ok (.aload_n 0, 1) := by decide +kernel
theorem dX10_allKnots_17 : decode cX10_allKnots 17 = .ok (.iconst 1, 1) := by decide +kernel
theorem dX10_allKnots_18 : decode cX10_allKnots 18 = .ok (.iconst 0, 1) := by decide +kernel
theorem dX10_allKnots_19 : decode cX10_allKnots 19 = .ok (.invokevirtual 67, 3) := by decide +kernel
theorem dX10_allKnots_22 : decode cX10_allKnots 22 = .ok (.aload_n 0, 1) := by decide +kernel
theorem dX10_allKnots_23 : decode cX10_allKnots 23 = .ok (.iconst 1, 1) := by decide +kernel
theorem dX10_allKnots_24 : decode cX10_allKnots 24 = .ok (.iconst 1, 1) := by decide +kernel
theorem dX10_allKnots_25 : decode cX10_allKnots 25 = .ok (.invokevirtual 67, 3) := by decide +kernel
theorem dX10_allKnots_28 : decode cX10_allKnots 28 = .ok (.ior, 1) := by decide +kernel
theorem dX10_allKnots_29 : decode cX10_allKnots 29 = .ok (.invokestatic 127, 3) := by decide +kernel
theorem dX10_allKnots_32 : decode cX10_allKnots 32 = .ok (.iadd, 1) := by decide +kernel
theorem dX10_allKnots_33 : decode cX10_allKnots 33 = .ok (.aload_n 0, 1) := by decide +kernel
theorem dX10_allKnots_34 : decode cX10_allKnots 34 = .ok (.iconst 2, 1) := by decide +kernel
theorem dX10_allKnots_35 : decode cX10_allKnots 35 = .ok (.iconst 0, 1) := by decide +kernel
theorem dX10_allKnots_36 : decode cX10_allKnots 36 = .ok (.invokevirtual 67, 3) := by decide +kernel
theorem dX10_allKnots_39 : decode cX10_allKnots 39 = .ok (.aload_n 0, 1) := by decide +kernel
theorem dX10_allKnots_40 : decode cX10_allKnots 40 = .ok (.iconst 2, 1) := by decide +kernel
theorem dX10_allKnots_41 : decode cX10_allKnots 41 = .ok (.iconst 1, 1) := by decide +kernel
theorem dX10_allKnots_42 : decode cX10_allKnots 42 = .ok (.invokevirtual 67, 3) := by decide +kernel
theorem dX10_allKnots_45 : decode cX10_allKnots 45 = .ok (.ior, 1) := by decide +kernel
theorem dX10_allKnots_46 : decode cX10_allKnots 46 = .ok (.invokestatic 127, 3) := by decide +kernel
theorem dX10_allKnots_49 : decode cX10_allKnots 49 = .ok (.iadd, 1) := by decide +kernel
theorem dX10_allKnots_50 : decode cX10_allKnots 50 = .ok (.ireturn, 1) := by decide +kernel
theorem dX10_allChapters_0 : decode cX10_allChapters 0 = .ok (.aload_n 0, 1) := by decide +kernel
theorem dX10_allChapters_1 : decode cX10_allChapters 1 = .ok (.iconst 0, 1) := by decide +kernel
theorem dX10_allChapters_2 : decode cX10_allChapters 2 = .ok (.invokevirtual 174, 3) := by decide +kernel
theorem dX10_allChapters_5 : decode cX10_allChapters 5 = .ok (.aload_n 0, 1) := by decide +kernel
theorem dX10_allChapters_6 : decode cX10_allChapters 6 = .ok (.iconst 1, 1) := by decide +kernel
theorem dX10_allChapters_7 : decode cX10_allChapters 7 = .ok (.invokevirtual 174, 3) := by decide +kernel
theorem dX10_allChapters_10 : decode cX10_allChapters 10 = .ok (.iadd, 1) := by decide +kernel
theorem dX10_allChapters_11 : decode cX10_allChapters 11 = .ok (.aload_n 0, 1) := by decide +kernel
theorem dX10_allChapters_12 : decode cX10_allChapters 12 = .ok (.iconst 2, 1) := by decide +kernel
theorem dX10_allChapters_13 : decode cX10_allChapters 13 = .ok (.invokevirtual 174, 3) := by decide +kernel
theorem dX10_allChapters_16 : decode cX10_allChapters 16 = .ok (.iadd, 1) := by decide +kernel
theorem dX10_allChapters_17 : decode cX10_allChapters 17 = .ok (.ireturn, 1) := by decide +kernel
theorem dX10_meanKnots_0 : decode cX10_meanKnots 0 = .ok (.aload_n 0, 1) := by decide +kernel
theorem dX10_meanKnots_1 : decode cX10_meanKnots 1 = .ok (.aload_n 0, 1) := by decide +kernel
theorem dX10_meanKnots_2 : decode cX10_meanKnots 2 = .ok (.invokevirtual 287, 3) := by decide +kernel
theorem dX10_meanKnots_5 : decode cX10_meanKnots 5 = .ok (.ifCond .ne 7, 3) := by decide +kernel
theorem dX10_meanKnots_8 : decode cX10_meanKnots 8 = .ok (.iconst 1, 1) := by decide +kernel
theorem dX10_meanKnots_9 : decode cX10_meanKnots 9 = .ok (.goto 4, 3) := by decide +kernel
theorem dX10_meanKnots_12 : decode cX10_meanKnots 12 = .ok (.iconst 0, 1) := by decide +kernel
theorem dX10_meanKnots_13 : decode cX10_meanKnots 13 = .ok (.putfield 35, 3) := by decide +kernel
theorem dX10_meanKnots_16 : decode cX10_meanKnots 16 = .ok (.aload_n 0, 1) := by decide +kernel
theorem dX10_meanKnots_17 : decode cX10_meanKnots 17 = .ok (.getfield 35, 3) := by decide +kernel
theorem dX10_meanKnots_20 : decode cX10_meanKnots 20 = .ok (.ifCond .le 7, 3) := by decide +kernel
theorem dX10_meanKnots_23 : decode cX10_meanKnots 23 = .ok (.dconst 0, 1) := by decide +kernel
theorem dX10_meanKnots_24 : decode cX10_meanKnots 24 = .ok (.goto 14, 3) := by decide +kernel
theorem dX10_meanKnots_27 : decode cX10_meanKnots 27 = .ok (.aload_n 0, 1) := by decide +kernel
theorem dX10_meanKnots_28 : decode cX10_meanKnots 28 = .ok (.invokevirtual 290, 3) := by decide +kernel
theorem dX10_meanKnots_31 : decode cX10_meanKnots 31 = .ok (.i2d, 1) := by decide +kernel
theorem dX10_meanKnots_32 : decode cX10_meanKnots 32 = .ok (.aload_n 0, 1) := by decide +kernel
theorem dX10_meanKnots_33 : decode cX10_meanKnots 33 = .ok (.invokevirtual 287, 3) := by decide +kernel
theorem dX10_meanKnots_36 : decode cX10_meanKnots 36 = .ok (.i2d, 1) := by decide +kernel
theorem dX10_meanKnots_37 : decode cX10_meanKnots 37 = .ok (.ddiv, 1) := by decide +kernel
theorem dX10_meanKnots_38 : decode cX10_meanKnots 38 = .ok (.dreturn, 1) := by decide +kernel
theorem dX10_readShare_0 : decode cX10_readShare 0 = .ok (.aload_n 0, 1) := by decide +kernel
theorem dX10_readShare_1 : decode cX10_readShare 1 = .ok (.aload_n 0, 1) := by decide +kernel
theorem dX10_readShare_2 : decode cX10_readShare 2 = .ok (.invokevirtual 290, 3) := by decide +kernel
theorem dX10_readShare_5 : decode cX10_readShare 5 = .ok (.ifCond .ne 7, 3) := by decide +kernel
theorem dX10_readShare_8 : decode cX10_readShare 8 = .ok (.iconst 1, 1) := by decide +kernel
theorem dX10_readShare_9 : decode cX10_readShare 9 = .ok (.goto 4, 3) := by decide +kernel
theorem dX10_readShare_12 : decode cX10_readShare 12 = .ok (.iconst 0, 1) := by decide +kernel
theorem dX10_readShare_13 : decode cX10_readShare 13 = .ok (.putfield 35, 3) := by decide +kernel
theorem dX10_readShare_16 : decode cX10_readShare 16 = .ok (.aload_n 0, 1) := by decide +kernel
theorem dX10_readShare_17 : decode cX10_readShare 17 = .ok (.getfield 35, 3) := by decide +kernel
theorem dX10_readShare_20 : decode cX10_readShare 20 = .ok (.ifCond .le 7, 3) := by decide +kernel
theorem dX10_readShare_23 : decode cX10_readShare 23 = .ok (.fconst 0, 1) := by decide +kernel
theorem dX10_readShare_24 : decode cX10_readShare 24 = .ok (.goto 27, 3) := by decide +kernel
theorem dX10_readShare_27 : decode cX10_readShare 27 = .ok (.aload_n 0, 1) := by decide +kernel
theorem dX10_readShare_28 : decode cX10_readShare 28 = .ok (.iconst 0, 1) := by decide +kernel
theorem dX10_readShare_29 : decode cX10_readShare 29 = .ok (.invokevirtual 130, 3) := by decide +kernel
theorem dX10_readShare_32 : decode cX10_readShare 32 = .ok (.aload_n 0, 1) := by decide +kernel
theorem dX10_readShare_33 : decode cX10_readShare 33 = .ok (.iconst 1, 1) := by decide +kernel
theorem dX10_readShare_34 : decode cX10_readShare 34 = .ok (.invokevirtual 130, 3) := by decide +kernel
theorem dX10_readShare_37 : decode cX10_readShare 37 = .ok (.iadd, 1) := by decide +kernel
theorem dX10_readShare_38 : decode cX10_readShare 38 = .ok (.aload_n 0, 1) := by decide +kernel
theorem dX10_readShare_39 : decode cX10_readShare 39 = .ok (.iconst 2, 1) := by decide +kernel
theorem dX10_readShare_40 : decode cX10_readShare 40 = .ok (.invokevirtual 130, 3) := by decide +kernel
theorem dX10_readShare_43 : decode cX10_readShare 43 = .ok (.iadd, 1) := by decide +kernel
theorem dX10_readShare_44 : decode cX10_readShare 44 = .ok (.i2f, 1) := by decide +kernel
theorem dX10_readShare_45 : decode cX10_readShare 45 = .ok (.aload_n 0, 1) := by decide +kernel
theorem dX10_readShare_46 : decode cX10_readShare 46 = .ok (.invokevirtual 290, 3) := by decide +kernel
theorem dX10_readShare_49 : decode cX10_readShare 49 = .ok (.i2f, 1) := by decide +kernel
theorem dX10_readShare_50 : decode cX10_readShare 50 = .ok (.fdiv, 1) := by decide +kernel
theorem dX10_readShare_51 : decode cX10_readShare 51 = .ok (.freturn, 1) := by decide +kernel
theorem dX10_allTwine_0 : decode cX10_allTwine 0 = .ok (.iconst 0, 1) := by decide +kernel
theorem dX10_allTwine_1 : decode cX10_allTwine 1 = .ok (.istore_n 1, 1) := by decide +kernel
theorem dX10_allTwine_2 : decode cX10_allTwine 2 = .ok (.iconst 0, 1) := by decide +kernel
theorem dX10_allTwine_3 : decode cX10_allTwine 3 = .ok (.istore_n 2, 1) := by decide +kernel
theorem dX10_allTwine_4 : decode cX10_allTwine 4 = .ok (.iload_n 2, 1) := by decide +kernel
theorem dX10_allTwine_5 : decode cX10_allTwine 5 = .ok (.aload_n 0, 1) := by decide +kernel
theorem dX10_allTwine_6 : decode cX10_allTwine 6 = .ok (.getfield 7, 3) := by decide +kernel
theorem dX10_allTwine_9 : decode cX10_allTwine 9 = .ok (.iconst 1, 1) := by decide +kernel
theorem dX10_allTwine_10 : decode cX10_allTwine 10 = .ok (.iaload, 1) := by decide +kernel
theorem dX10_allTwine_11 : decode cX10_allTwine 11 = .ok (.if_icmp .ge 23, 3) := by decide +kernel
theorem dX10_allTwine_14 : decode cX10_allTwine 14 = .ok (.iload_n 1, 1) := by decide +kernel
theorem dX10_allTwine_15 : decode cX10_allTwine 15 = .ok (.aload_n 0, 1) := by decide +kernel
theorem dX10_allTwine_16 : decode cX10_allTwine 16 = .ok (.getfield 7, 3) := by decide +kernel
theorem dX10_allTwine_19 : decode cX10_allTwine 19 = .ok (.bipush 21, 2) := by decide +kernel
theorem dX10_allTwine_21 : decode cX10_allTwine 21 = .ok (.iconst 2, 1) := by decide +kernel
theorem dX10_allTwine_22 : decode cX10_allTwine 22 = .ok (.iload_n 2, 1) := by decide +kernel
theorem dX10_allTwine_23 : decode cX10_allTwine 23 = .ok (.imul, 1) := by decide +kernel
theorem dX10_allTwine_24 : decode cX10_allTwine 24 = .ok (.iadd, 1) := by decide +kernel
theorem dX10_allTwine_25 : decode cX10_allTwine 25 = .ok (.iaload, 1) := by decide +kernel
theorem dX10_allTwine_26 : decode cX10_allTwine 26 = .ok (.iadd, 1) := by decide +kernel
theorem dX10_allTwine_27 : decode cX10_allTwine 27 = .ok (.istore_n 1, 1) := by decide +kernel
theorem dX10_allTwine_28 : decode cX10_allTwine 28 = .ok (.iinc 2 1, 3) := by decide +kernel
theorem dX10_allTwine_31 : decode cX10_allTwine 31 = .ok (.goto (-27), 3) := by decide +kernel
theorem dX10_allTwine_34 : decode cX10_allTwine 34 = .ok (.iload_n 1, 1) := by decide +kernel
theorem dX10_allTwine_35 : decode cX10_allTwine 35 = .ok (.ireturn, 1) := by decide +kernel
theorem dX10_readSo_0 : decode cX10_readSo 0 = .ok (.iconst 0, 1) := by decide +kernel
theorem dX10_readSo_1 : decode cX10_readSo 1 = .ok (.istore_n 1, 1) := by decide +kernel
theorem dX10_readSo_2 : decode cX10_readSo 2 = .ok (.iconst 0, 1) := by decide +kernel
theorem dX10_readSo_3 : decode cX10_readSo 3 = .ok (.istore_n 2, 1) := by decide +kernel
theorem dX10_readSo_4 : decode cX10_readSo 4 = .ok (.iload_n 2, 1) := by decide +kernel
theorem dX10_readSo_5 : decode cX10_readSo 5 = .ok (.aload_n 0, 1) := by decide +kernel
theorem dX10_readSo_6 : decode cX10_readSo 6 = .ok (.getfield 7, 3) := by decide +kernel
theorem dX10_readSo_9 : decode cX10_readSo 9 = .ok (.iconst 2, 1) := by decide +kernel
theorem dX10_readSo_10 : decode cX10_readSo 10 = .ok (.iaload, 1) := by decide +kernel
theorem dX10_readSo_11 : decode cX10_readSo 11 = .ok (.if_icmp .ge 25, 3) := by decide +kernel
theorem dX10_readSo_14 : decode cX10_readSo 14 = .ok (.iload_n 1, 1) := by decide +kernel
theorem dX10_readSo_15 : decode cX10_readSo 15 = .ok (.aload_n 0, 1) := by decide +kernel
theorem dX10_readSo_16 : decode cX10_readSo 16 = .ok (.iload_n 2, 1) := by decide +kernel
theorem dX10_readSo_17 : decode cX10_readSo 17 = .ok (.invokevirtual 186, 3) := by decide +kernel
theorem dX10_readSo_20 : decode cX10_readSo 20 = .ok (.ifCond .eq 7, 3) := by decide +kernel
theorem dX10_readSo_23 : decode cX10_readSo 23 = .ok (.iconst 1, 1) := by decide +kernel
theorem dX10_readSo_24 : decode cX10_readSo 24 = .ok (.goto 4, 3) := by decide +kernel
theorem dX10_readSo_27 : decode cX10_readSo 27 = .ok (.iconst 0, 1) := by decide +kernel
theorem dX10_readSo_28 : decode cX10_readSo 28 = .ok (.iadd, 1) := by decide +kernel
theorem dX10_readSo_29 : decode cX10_readSo 29 = .ok (.istore_n 1, 1) := by decide +kernel
theorem dX10_readSo_30 : decode cX10_readSo 30 = .ok (.iinc 2 1, 3) := by decide +kernel
theorem dX10_readSo_33 : decode cX10_readSo 33 = .ok (.goto (-29), 3) := by decide +kernel
theorem dX10_readSo_36 : decode cX10_readSo 36 = .ok (.iload_n 1, 1) := by decide +kernel
theorem dX10_readSo_37 : decode cX10_readSo 37 = .ok (.ireturn, 1) := by decide +kernel
theorem dX10_account_0 : decode cX10_account 0 = .ok (.aload_n 0, 1) := by decide +kernel
theorem dX10_account_1 : decode cX10_account 1 = .ok (.iconst 0, 1) := by decide +kernel
theorem dX10_account_2 : decode cX10_account 2 = .ok (.putfield 35, 3) := by decide +kernel
theorem dX10_account_5 : decode cX10_account 5 = .ok (.iload_n 1, 1) := by decide +kernel
theorem dX10_account_6 : decode cX10_account 6 = .ok (.tableswitch 156 0 12 #[66, 71, 76, 94, 101, 106, 113, 118, 125, 132, 139, 146, 151], 66) := by decide +kernel
theorem dX10_account_72 : decode cX10_account 72 = .ok (.aload_n 0, 1) := by decide +kernel
theorem dX10_account_73 : decode cX10_account 73 = .ok (.invokevirtual 290, 3) := by decide +kernel
theorem dX10_account_76 : decode cX10_account 76 = .ok (.ireturn, 1) := by decide +kernel
theorem dX10_account_77 : decode cX10_account 77 = .ok (.aload_n 0, 1) := by decide +kernel
theorem dX10_account_78 : decode cX10_account 78 = .ok (.invokevirtual 287, 3) := by decide +kernel
theorem dX10_account_81 : decode cX10_account 81 = .ok (.ireturn, 1) := by decide +kernel
theorem dX10_account_82 : decode cX10_account 82 = .ok (.aload_n 0, 1) := by decide +kernel
theorem dX10_account_83 : decode cX10_account 83 = .ok (.iconst 0, 1) := by decide +kernel
theorem dX10_account_84 : decode cX10_account 84 = .ok (.invokevirtual 168, 3) := by decide +kernel
theorem dX10_account_87 : decode cX10_account 87 = .ok (.aload_n 0, 1) := by decide +kernel
theorem dX10_account_88 : decode cX10_account 88 = .ok (.iconst 1, 1) := by decide +kernel
theorem dX10_account_89 : decode cX10_account 89 = .ok (.invokevirtual 168, 3) := by decide +kernel
theorem dX10_account_92 : decode cX10_account 92 = .ok (.iadd, 1) := by decide +kernel
theorem dX10_account_93 : decode cX10_account 93 = .ok (.aload_n 0, 1) := by decide +kernel
theorem dX10_account_94 : decode cX10_account 94 = .ok (.iconst 2, 1) := by decide +kernel
theorem dX10_account_95 : decode cX10_account 95 = .ok (.invokevirtual 168, 3) := by decide +kernel
theorem dX10_account_98 : decode cX10_account 98 = .ok (.iadd, 1) := by decide +kernel
theorem dX10_account_99 : decode cX10_account 99 = .ok (.ireturn, 1) := by decide +kernel
theorem dX10_account_100 : decode cX10_account 100 = .ok (.aload_n 0, 1) := by decide +kernel
theorem dX10_account_101 : decode cX10_account 101 = .ok (.getfield 7, 3) := by decide +kernel
theorem dX10_account_104 : decode cX10_account 104 = .ok (.iconst 1, 1) := by decide +kernel
theorem dX10_account_105 : decode cX10_account 105 = .ok (.iaload, 1) := by decide +kernel
theorem dX10_account_106 : decode cX10_account 106 = .ok (.ireturn, 1) := by decide +kernel
theorem dX10_account_107 : decode cX10_account 107 = .ok (.aload_n 0, 1) := by decide +kernel
theorem dX10_account_108 : decode cX10_account 108 = .ok (.invokevirtual 293, 3) := by decide +kernel
theorem dX10_account_111 : decode cX10_account 111 = .ok (.ireturn, 1) := by decide +kernel
theorem dX10_account_112 : decode cX10_account 112 = .ok (.aload_n 0, 1) := by decide +kernel
theorem dX10_account_113 : decode cX10_account 113 = .ok (.getfield 7, 3) := by decide +kernel
theorem dX10_account_116 : decode cX10_account 116 = .ok (.iconst 2, 1) := by decide +kernel
theorem dX10_account_117 : decode cX10_account 117 = .ok (.iaload, 1) := by decide +kernel
theorem dX10_account_118 : decode cX10_account 118 = .ok (.ireturn, 1) := by decide +kernel
theorem dX10_account_119 : decode cX10_account 119 = .ok (.aload_n 0, 1) := by decide +kernel
theorem dX10_account_120 : decode cX10_account 120 = .ok (.invokevirtual 296, 3) := by decide +kernel
theorem dX10_account_123 : decode cX10_account 123 = .ok (.ireturn, 1) := by decide +kernel
theorem dX10_account_124 : decode cX10_account 124 = .ok (.aload_n 0, 1) := by decide +kernel
theorem dX10_account_125 : decode cX10_account 125 = .ok (.getfield 7, 3) := by decide +kernel
theorem dX10_account_128 : decode cX10_account 128 = .ok (.iconst 0, 1) := by decide +kernel
theorem dX10_account_129 : decode cX10_account 129 = .ok (.iaload, 1) := by decide +kernel
theorem dX10_account_130 : decode cX10_account 130 = .ok (.ireturn, 1) := by decide +kernel
theorem dX10_account_131 : decode cX10_account 131 = .ok (.aload_n 0, 1) := by decide +kernel
theorem dX10_account_132 : decode cX10_account 132 = .ok (.getfield 7, 3) := by decide +kernel
theorem dX10_account_135 : decode cX10_account 135 = .ok (.iconst 3, 1) := by decide +kernel
theorem dX10_account_136 : decode cX10_account 136 = .ok (.iaload, 1) := by decide +kernel
theorem dX10_account_137 : decode cX10_account 137 = .ok (.ireturn, 1) := by decide +kernel
theorem dX10_account_138 : decode cX10_account 138 = .ok (.aload_n 0, 1) := by decide +kernel
theorem dX10_account_139 : decode cX10_account 139 = .ok (.getfield 7, 3) := by decide +kernel
theorem dX10_account_142 : decode cX10_account 142 = .ok (.iconst 4, 1) := by decide +kernel
theorem dX10_account_143 : decode cX10_account 143 = .ok (.iaload, 1) := by decide +kernel
theorem dX10_account_144 : decode cX10_account 144 = .ok (.ireturn, 1) := by decide +kernel
theorem dX10_account_145 : decode cX10_account 145 = .ok (.aload_n 0, 1) := by decide +kernel
theorem dX10_account_146 : decode cX10_account 146 = .ok (.getfield 7, 3) := by decide +kernel
theorem dX10_account_149 : decode cX10_account 149 = .ok (.iconst 5, 1) := by decide +kernel
theorem dX10_account_150 : decode cX10_account 150 = .ok (.iaload, 1) := by decide +kernel
theorem dX10_account_151 : decode cX10_account 151 = .ok (.ireturn, 1) := by decide +kernel
theorem dX10_account_152 : decode cX10_account 152 = .ok (.aload_n 0, 1) := by decide +kernel
theorem dX10_account_153 : decode cX10_account 153 = .ok (.getfield 198, 3) := by decide +kernel
theorem dX10_account_156 : decode cX10_account 156 = .ok (.ireturn, 1) := by decide +kernel
theorem dX10_account_157 : decode cX10_account 157 = .ok (.aload_n 0, 1) := by decide +kernel
theorem dX10_account_158 : decode cX10_account 158 = .ok (.getfield 38, 3) := by decide +kernel
theorem dX10_account_161 : decode cX10_account 161 = .ok (.ireturn, 1) := by decide +kernel
theorem dX10_account_162 : decode cX10_account 162 = .ok (.aload_n 0, 1) := by decide +kernel
theorem dX10_account_163 : decode cX10_account 163 = .ok (.iconst 1, 1) := by decide +kernel
theorem dX10_account_164 : decode cX10_account 164 = .ok (.invokevirtual 60, 3) := by decide +kernel
theorem dX10_account_167 : decode cX10_account 167 = .ok (.ireturn, 1) := by decide +kernel
theorem dX10_isBalanced_0 : decode cX10_isBalanced 0 = .ok (.aload_n 0, 1) := by decide +kernel
theorem dX10_isBalanced_1 : decode cX10_isBalanced 1 = .ok (.iconst 0, 1) := by decide +kernel
theorem dX10_isBalanced_2 : decode cX10_isBalanced 2 = .ok (.putfield 35, 3) := by decide +kernel
theorem dX10_isBalanced_5 : decode cX10_isBalanced 5 = .ok (.aload_n 0, 1) := by decide +kernel
theorem dX10_isBalanced_6 : decode cX10_isBalanced 6 = .ok (.getfield 7, 3) := by decide +kernel
theorem dX10_isBalanced_9 : decode cX10_isBalanced 9 = .ok (.iconst 3, 1) := by decide +kernel
theorem dX10_isBalanced_10 : decode cX10_isBalanced 10 = .ok (.iaload, 1) := by decide +kernel
theorem dX10_isBalanced_11 : decode cX10_isBalanced 11 = .ok (.aload_n 0, 1) := by decide +kernel
theorem dX10_isBalanced_12 : decode cX10_isBalanced 12 = .ok (.getfield 7, 3) := by decide +kernel
theorem dX10_isBalanced_15 : decode cX10_isBalanced 15 = .ok (.iconst 4, 1) := by decide +kernel
theorem dX10_isBalanced_16 : decode cX10_isBalanced 16 = .ok (.iaload, 1) := by decide +kernel
theorem dX10_isBalanced_17 : decode cX10_isBalanced 17 = .ok (.aload_n 0, 1) := by decide +kernel
theorem dX10_isBalanced_18 : decode cX10_isBalanced 18 = .ok (.iconst 0, 1) := by decide +kernel
theorem dX10_isBalanced_19 : decode cX10_isBalanced 19 = .ok (.invokevirtual 168, 3) := by decide +kernel
theorem dX10_isBalanced_22 : decode cX10_isBalanced 22 = .ok (.iadd, 1) := by decide +kernel
theorem dX10_isBalanced_23 : decode cX10_isBalanced 23 = .ok (.aload_n 0, 1) := by decide +kernel
theorem dX10_isBalanced_24 : decode cX10_isBalanced 24 = .ok (.iconst 1, 1) := by decide +kernel
theorem dX10_isBalanced_25 : decode cX10_isBalanced 25 = .ok (.invokevirtual 168, 3) := by decide +kernel
theorem dX10_isBalanced_28 : decode cX10_isBalanced 28 = .ok (.iadd, 1) := by decide +kernel
theorem dX10_isBalanced_29 : decode cX10_isBalanced 29 = .ok (.aload_n 0, 1) := by decide +kernel
theorem dX10_isBalanced_30 : decode cX10_isBalanced 30 = .ok (.iconst 2, 1) := by decide +kernel
theorem dX10_isBalanced_31 : decode cX10_isBalanced 31 = .ok (.invokevirtual 168, 3) := by decide +kernel
theorem dX10_isBalanced_34 : decode cX10_isBalanced 34 = .ok (.iadd, 1) := by decide +kernel
theorem dX10_isBalanced_35 : decode cX10_isBalanced 35 = .ok (.if_icmp .ne 7, 3) := by decide +kernel
theorem dX10_isBalanced_38 : decode cX10_isBalanced 38 = .ok (.iconst 1, 1) := by decide +kernel
theorem dX10_isBalanced_39 : decode cX10_isBalanced 39 = .ok (.goto 4, 3) := by decide +kernel
theorem dX10_isBalanced_42 : decode cX10_isBalanced 42 = .ok (.iconst 0, 1) := by decide +kernel
theorem dX10_isBalanced_43 : decode cX10_isBalanced 43 = .ok (.ireturn, 1) := by decide +kernel
theorem dX10_undo_0 : decode cX10_undo 0 = .ok (.aload_n 0, 1) := by decide +kernel
theorem dX10_undo_1 : decode cX10_undo 1 = .ok (.iconst 0, 1) := by decide +kernel
theorem dX10_undo_2 : decode cX10_undo 2 = .ok (.putfield 35, 3) := by decide +kernel
theorem dX10_undo_5 : decode cX10_undo 5 = .ok (.aload_n 0, 1) := by decide +kernel
theorem dX10_undo_6 : decode cX10_undo 6 = .ok (.getfield 38, 3) := by decide +kernel
theorem dX10_undo_9 : decode cX10_undo 9 = .ok (.ifCond .ne 9, 3) := by decide +kernel
theorem dX10_undo_12 : decode cX10_undo 12 = .ok (.aload_n 0, 1) := by decide +kernel
theorem dX10_undo_13 : decode cX10_undo 13 = .ok (.iconst 1, 1) := by decide +kernel
theorem dX10_undo_14 : decode cX10_undo 14 = .ok (.invokevirtual 60, 3) := by decide +kernel
theorem dX10_undo_17 : decode cX10_undo 17 = .ok (.ireturn, 1) := by decide +kernel
theorem dX10_undo_18 : decode cX10_undo 18 = .ok (.aload_n 0, 1) := by decide +kernel
theorem dX10_undo_19 : decode cX10_undo 19 = .ok (.dup, 1) := by decide +kernel
theorem dX10_undo_20 : decode cX10_undo 20 = .ok (.getfield 38, 3) := by decide +kernel
theorem dX10_undo_23 : decode cX10_undo 23 = .ok (.iconst 1, 1) := by decide +kernel
theorem dX10_undo_24 : decode cX10_undo 24 = .ok (.isub, 1) := by decide +kernel
theorem dX10_undo_25 : decode cX10_undo 25 = .ok (.putfield 38, 3) := by decide +kernel
theorem dX10_undo_28 : decode cX10_undo 28 = .ok (.iconst 0, 1) := by decide +kernel
theorem dX10_undo_29 : decode cX10_undo 29 = .ok (.istore_n 1, 1) := by decide +kernel
theorem dX10_undo_30 : decode cX10_undo 30 = .ok (.iload_n 1, 1) := by decide +kernel
theorem dX10_undo_31 : decode cX10_undo 31 = .ok (.bipush 53, 2) := by decide +kernel
theorem dX10_undo_33 : decode cX10_undo 33 = .ok (.if_icmp .ge 29, 3) := by decide +kernel
theorem dX10_undo_36 : decode cX10_undo 36 = .ok (.aload_n 0, 1) := by decide +kernel
theorem dX10_undo_37 : decode cX10_undo 37 = .ok (.getfield 7, 3) := by decide +kernel
theorem dX10_undo_40 : decode cX10_undo 40 = .ok (.iload_n 1, 1) := by decide +kernel
theorem dX10_undo_41 : decode cX10_undo 41 = .ok (.aload_n 0, 1) := by decide +kernel
theorem dX10_undo_42 : decode cX10_undo 42 = .ok (.getfield 19, 3) := by decide +kernel
theorem dX10_undo_45 : decode cX10_undo 45 = .ok (.bipush 53, 2) := by decide +kernel
theorem dX10_undo_47 : decode cX10_undo 47 = .ok (.aload_n 0, 1) := by decide +kernel
theorem dX10_undo_48 : decode cX10_undo 48 = .ok (.getfield 38, 3) := by decide +kernel
theorem dX10_undo_51 : decode cX10_undo 51 = .ok (.imul, 1) := by decide +kernel
theorem dX10_undo_52 : decode cX10_undo 52 = .ok (.iload_n 1, 1) := by decide +kernel
theorem dX10_undo_53 : decode cX10_undo 53 = .ok (.iadd, 1) := by decide +kernel
theorem dX10_undo_54 : decode cX10_undo 54 = .ok (.iaload, 1) := by decide +kernel
theorem dX10_undo_55 : decode cX10_undo 55 = .ok (.iastore, 1) := by decide +kernel
theorem dX10_undo_56 : decode cX10_undo 56 = .ok (.iinc 1 1, 3) := by decide +kernel
theorem dX10_undo_59 : decode cX10_undo 59 = .ok (.goto (-29), 3) := by decide +kernel
theorem dX10_undo_62 : decode cX10_undo 62 = .ok (.aload_n 0, 1) := by decide +kernel
theorem dX10_undo_63 : decode cX10_undo 63 = .ok (.getfield 38, 3) := by decide +kernel
theorem dX10_undo_66 : decode cX10_undo 66 = .ok (.ireturn, 1) := by decide +kernel
theorem dX10_save_0 : decode cX10_save 0 = .ok (.aload_n 0, 1) := by decide +kernel
theorem dX10_save_1 : decode cX10_save 1 = .ok (.iconst 0, 1) := by decide +kernel
theorem dX10_save_2 : decode cX10_save 2 = .ok (.putfield 35, 3) := by decide +kernel
theorem dX10_save_5 : decode cX10_save 5 = .ok (.iconst 0, 1) := by decide +kernel
theorem dX10_save_6 : decode cX10_save 6 = .ok (.istore_n 1, 1) := by decide +kernel
theorem dX10_save_7 : decode cX10_save 7 = .ok (.iload_n 1, 1) := by decide +kernel
theorem dX10_save_8 : decode cX10_save 8 = .ok (.bipush 53, 2) := by decide +kernel
theorem dX10_save_10 : decode cX10_save 10 = .ok (.if_icmp .ge 21, 3) := by decide +kernel
theorem dX10_save_13 : decode cX10_save 13 = .ok (.aload_n 0, 1) := by decide +kernel
theorem dX10_save_14 : decode cX10_save 14 = .ok (.getfield 16, 3) := by decide +kernel
theorem dX10_save_17 : decode cX10_save 17 = .ok (.iload_n 1, 1) := by decide +kernel
theorem dX10_save_18 : decode cX10_save 18 = .ok (.aload_n 0, 1) := by decide +kernel
theorem dX10_save_19 : decode cX10_save 19 = .ok (.getfield 7, 3) := by decide +kernel
theorem dX10_save_22 : decode cX10_save 22 = .ok (.iload_n 1, 1) := by decide +kernel
theorem dX10_save_23 : decode cX10_save 23 = .ok (.iaload, 1) := by decide +kernel
theorem dX10_save_24 : decode cX10_save 24 = .ok (.iastore, 1) := by decide +kernel
theorem dX10_save_25 : decode cX10_save 25 = .ok (.iinc 1 1, 3) := by decide +kernel
theorem dX10_save_28 : decode cX10_save 28 = .ok (.goto (-21), 3) := by decide +kernel
theorem dX10_save_31 : decode cX10_save 31 = .ok (.aload_n 0, 1) := by decide +kernel
theorem dX10_save_32 : decode cX10_save 32 = .ok (.iconst 1, 1) := by decide +kernel
theorem dX10_save_33 : decode cX10_save 33 = .ok (.putfield 299, 3) := by decide +kernel
theorem dX10_save_36 : decode cX10_save 36 = .ok (.aload_n 0, 1) := by decide +kernel
theorem dX10_save_37 : decode cX10_save 37 = .ok (.getfield 7, 3) := by decide +kernel
theorem dX10_save_40 : decode cX10_save 40 = .ok (.iconst 2, 1) := by decide +kernel
theorem dX10_save_41 : decode cX10_save 41 = .ok (.iaload, 1) := by decide +kernel
theorem dX10_save_42 : decode cX10_save 42 = .ok (.ireturn, 1) := by decide +kernel
theorem dX10_restore_0 : decode cX10_restore 0 = .ok (.aload_n 0, 1) := by decide +kernel
theorem dX10_restore_1 : decode cX10_restore 1 = .ok (.iconst 0, 1) := by decide +kernel
theorem dX10_restore_2 : decode cX10_restore 2 = .ok (.putfield 35, 3) := by decide +kernel
theorem dX10_restore_5 : decode cX10_restore 5 = .ok (.aload_n 0, 1) := by decide +kernel
theorem dX10_restore_6 : decode cX10_restore 6 = .ok (.getfield 299, 3) := by decide +kernel
theorem dX10_restore_9 : decode cX10_restore 9 = .ok (.ifCond .ne 9, 3) := by decide +kernel
theorem dX10_restore_12 : decode cX10_restore 12 = .ok (.aload_n 0, 1) := by decide +kernel
theorem dX10_restore_13 : decode cX10_restore 13 = .ok (.iconst 1, 1) := by decide +kernel
theorem dX10_restore_14 : decode cX10_restore 14 = .ok (.invokevirtual 60, 3) := by decide +kernel
theorem dX10_restore_17 : decode cX10_restore 17 = .ok (.ireturn, 1) := by decide +kernel
theorem dX10_restore_18 : decode cX10_restore 18 = .ok (.iconst 0, 1) := by decide +kernel
theorem dX10_restore_19 : decode cX10_restore 19 = .ok (.istore_n 1, 1) := by decide +kernel
theorem dX10_restore_20 : decode cX10_restore 20 = .ok (.iload_n 1, 1) := by decide +kernel
theorem dX10_restore_21 : decode cX10_restore 21 = .ok (.bipush 53, 2) := by decide +kernel
theorem dX10_restore_23 : decode cX10_restore 23 = .ok (.if_icmp .ge 21, 3) := by decide +kernel
theorem dX10_restore_26 : decode cX10_restore 26 = .ok (.aload_n 0, 1) := by decide +kernel
theorem dX10_restore_27 : decode cX10_restore 27 = .ok (.getfield 7, 3) := by decide +kernel
theorem dX10_restore_30 : decode cX10_restore 30 = .ok (.iload_n 1, 1) := by decide +kernel
theorem dX10_restore_31 : decode cX10_restore 31 = .ok (.aload_n 0, 1) := by decide +kernel
theorem dX10_restore_32 : decode cX10_restore 32 = .ok (.getfield 16, 3) := by decide +kernel
theorem dX10_restore_35 : decode cX10_restore 35 = .ok (.iload_n 1, 1) := by decide +kernel
theorem dX10_restore_36 : decode cX10_restore 36 = .ok (.iaload, 1) := by decide +kernel
theorem dX10_restore_37 : decode cX10_restore 37 = .ok (.iastore, 1) := by decide +kernel
theorem dX10_restore_38 : decode cX10_restore 38 = .ok (.iinc 1 1, 3) := by decide +kernel
theorem dX10_restore_41 : decode cX10_restore 41 = .ok (.goto (-21), 3) := by decide +kernel
theorem dX10_restore_44 : decode cX10_restore 44 = .ok (.aload_n 0, 1) := by decide +kernel
theorem dX10_restore_45 : decode cX10_restore 45 = .ok (.iconst 0, 1) := by decide +kernel
theorem dX10_restore_46 : decode cX10_restore 46 = .ok (.putfield 38, 3) := by decide +kernel
theorem dX10_restore_49 : decode cX10_restore 49 = .ok (.aload_n 0, 1) := by decide +kernel
theorem dX10_restore_50 : decode cX10_restore 50 = .ok (.getfield 7, 3) := by decide +kernel
theorem dX10_restore_53 : decode cX10_restore 53 = .ok (.iconst 2, 1) := by decide +kernel
theorem dX10_restore_54 : decode cX10_restore 54 = .ok (.iaload, 1) := by decide +kernel
theorem dX10_restore_55 : decode cX10_restore 55 = .ok (.ireturn, 1) := by decide +kernel
theorem dJx00060_init_a7421_0 : decode cJx00060_init_a7421 0 = .ok (.aload_n 0, 1) := by decide +kernel
theorem dJx00060_init_a7421_1 : decode cJx00060_init_a7421 1 = .ok (.aload_n 1, 1) := by decide +kernel
theorem dJx00060_init_a7421_2 : decode cJx00060_init_a7421 2 = .ok (.invokespecial 7, 3) := by decide +kernel
theorem dJx00060_init_a7421_5 : decode cJx00060_init_a7421 5 = .ok (.return_, 1) := by decide +kernel
theorem dJ6_bitCount_0f7a4_0 : decode cJ6_bitCount_0f7a4 0 = .ok (.iload_n 0, 1) := by decide +kernel
theorem dJ6_bitCount_0f7a4_1 : decode cJ6_bitCount_0f7a4 1 = .ok (.iload_n 0, 1) := by decide +kernel
theorem dJ6_bitCount_0f7a4_2 : decode cJ6_bitCount_0f7a4 2 = .ok (.iconst 1, 1) := by decide +kernel
theorem dJ6_bitCount_0f7a4_3 : decode cJ6_bitCount_0f7a4 3 = .ok (.iushr, 1) := by decide +kernel
theorem dJ6_bitCount_0f7a4_4 : decode cJ6_bitCount_0f7a4 4 = .ok (.ldc_w 265, 3) := by decide +kernel
theorem dJ6_bitCount_0f7a4_7 : decode cJ6_bitCount_0f7a4 7 = .ok (.iand, 1) := by decide +kernel
theorem dJ6_bitCount_0f7a4_8 : decode cJ6_bitCount_0f7a4 8 = .ok (.isub, 1) := by decide +kernel
theorem dJ6_bitCount_0f7a4_9 : decode cJ6_bitCount_0f7a4 9 = .ok (.istore_n 0, 1) := by decide +kernel
theorem dJ6_bitCount_0f7a4_10 : decode cJ6_bitCount_0f7a4 10 = .ok (.iload_n 0, 1) := by decide +kernel
theorem dJ6_bitCount_0f7a4_11 : decode cJ6_bitCount_0f7a4 11 = .ok (.ldc_w 266, 3) := by decide +kernel
theorem dJ6_bitCount_0f7a4_14 : decode cJ6_bitCount_0f7a4 14 = .ok (.iand, 1) := by decide +kernel
theorem dJ6_bitCount_0f7a4_15 : decode cJ6_bitCount_0f7a4 15 = .ok (.iload_n 0, 1) := by decide +kernel
theorem dJ6_bitCount_0f7a4_16 : decode cJ6_bitCount_0f7a4 16 = .ok (.iconst 2, 1) := by decide +kernel
theorem dJ6_bitCount_0f7a4_17 : decode cJ6_bitCount_0f7a4 17 = .ok (.iushr, 1) := by decide +kernel
theorem dJ6_bitCount_0f7a4_18 : decode cJ6_bitCount_0f7a4 18 = .ok (.ldc_w 266, 3) := by decide +kernel
theorem dJ6_bitCount_0f7a4_21 : decode cJ6_bitCount_0f7a4 21 = .ok (.iand, 1) := by decide +kernel
theorem dJ6_bitCount_0f7a4_22 : decode cJ6_bitCount_0f7a4 22 = .ok (.iadd, 1) := by decide +kernel
theorem dJ6_bitCount_0f7a4_23 : decode cJ6_bitCount_0f7a4 23 = .ok (.istore_n 0, 1) := by decide +kernel
theorem dJ6_bitCount_0f7a4_24 : decode cJ6_bitCount_0f7a4 24 = .ok (.iload_n 0, 1) := by decide +kernel
theorem dJ6_bitCount_0f7a4_25 : decode cJ6_bitCount_0f7a4 25 = .ok (.iload_n 0, 1) := by decide +kernel
theorem dJ6_bitCount_0f7a4_26 : decode cJ6_bitCount_0f7a4 26 = .ok (.iconst 4, 1) := by decide +kernel
theorem dJ6_bitCount_0f7a4_27 : decode cJ6_bitCount_0f7a4 27 = .ok (.iushr, 1) := by decide +kernel
theorem dJ6_bitCount_0f7a4_28 : decode cJ6_bitCount_0f7a4 28 = .ok (.iadd, 1) := by decide +kernel
theorem dJ6_bitCount_0f7a4_29 : decode cJ6_bitCount_0f7a4 29 = .ok (.ldc_w 267, 3) := by decide +kernel
theorem dJ6_bitCount_0f7a4_32 : decode cJ6_bitCount_0f7a4 32 = .ok (.iand, 1) := by decide +kernel
theorem dJ6_bitCount_0f7a4_33 : decode cJ6_bitCount_0f7a4 33 = .ok (.istore_n 0, 1) := by decide +kernel
theorem dJ6_bitCount_0f7a4_34 : decode cJ6_bitCount_0f7a4 34 = .ok (.iload_n 0, 1) := by decide +kernel
theorem dJ6_bitCount_0f7a4_35 : decode cJ6_bitCount_0f7a4 35 = .ok (.iload_n 0, 1) := by decide +kernel
theorem dJ6_bitCount_0f7a4_36 : decode cJ6_bitCount_0f7a4 36 = .ok (.bipush 8, 2) := by decide +kernel
theorem dJ6_bitCount_0f7a4_38 : decode cJ6_bitCount_0f7a4 38 = .ok (.iushr, 1) := by decide +kernel
theorem dJ6_bitCount_0f7a4_39 : decode cJ6_bitCount_0f7a4 39 = .ok (.iadd, 1) := by decide +kernel
theorem dJ6_bitCount_0f7a4_40 : decode cJ6_bitCount_0f7a4 40 = .ok (.istore_n 0, 1) := by decide +kernel
theorem dJ6_bitCount_0f7a4_41 : decode cJ6_bitCount_0f7a4 41 = .ok (.iload_n 0, 1) := by decide +kernel
theorem dJ6_bitCount_0f7a4_42 : decode cJ6_bitCount_0f7a4 42 = .ok (.iload_n 0, 1) := by decide +kernel
theorem dJ6_bitCount_0f7a4_43 : decode cJ6_bitCount_0f7a4 43 = .ok (.bipush 16, 2) := by decide +kernel
theorem dJ6_bitCount_0f7a4_45 : decode cJ6_bitCount_0f7a4 45 = .ok (.iushr, 1) := by decide +kernel
theorem dJ6_bitCount_0f7a4_46 : decode cJ6_bitCount_0f7a4 46 = .ok (.iadd, 1) := by decide +kernel
theorem dJ6_bitCount_0f7a4_47 : decode cJ6_bitCount_0f7a4 47 = .ok (.istore_n 0, 1) := by decide +kernel
theorem dJ6_bitCount_0f7a4_48 : decode cJ6_bitCount_0f7a4 48 = .ok (.iload_n 0, 1) := by decide +kernel
theorem dJ6_bitCount_0f7a4_49 : decode cJ6_bitCount_0f7a4 49 = .ok (.bipush 63, 2) := by decide +kernel
theorem dJ6_bitCount_0f7a4_51 : decode cJ6_bitCount_0f7a4 51 = .ok (.iand, 1) := by decide +kernel
theorem dJ6_bitCount_0f7a4_52 : decode cJ6_bitCount_0f7a4 52 = .ok (.ireturn, 1) := by decide +kernel
theorem dJ9_floorMod_7cf53_0 : decode cJ9_floorMod_7cf53 0 = .ok (.iload_n 0, 1) := by decide +kernel
theorem dJ9_floorMod_7cf53_1 : decode cJ9_floorMod_7cf53 1 = .ok (.iload_n 1, 1) := by decide +kernel
theorem dJ9_floorMod_7cf53_2 : decode cJ9_floorMod_7cf53 2 = .ok (.irem, 1) := by decide +kernel
theorem dJ9_floorMod_7cf53_3 : decode cJ9_floorMod_7cf53 3 = .ok (.istore_n 2, 1) := by decide +kernel
theorem dJ9_floorMod_7cf53_4 : decode cJ9_floorMod_7cf53 4 = .ok (.iload_n 0, 1) := by decide +kernel
theorem dJ9_floorMod_7cf53_5 : decode cJ9_floorMod_7cf53 5 = .ok (.iload_n 1, 1) := by decide +kernel
theorem dJ9_floorMod_7cf53_6 : decode cJ9_floorMod_7cf53 6 = .ok (.ixor, 1) := by decide +kernel
theorem dJ9_floorMod_7cf53_7 : decode cJ9_floorMod_7cf53 7 = .ok (.ifCond .ge 11, 3) := by decide +kernel
theorem dJ9_floorMod_7cf53_10 : decode cJ9_floorMod_7cf53 10 = .ok (.iload_n 2, 1) := by decide +kernel
theorem dJ9_floorMod_7cf53_11 : decode cJ9_floorMod_7cf53 11 = .ok (.ifCond .eq 7, 3) := by decide +kernel
theorem dJ9_floorMod_7cf53_14 : decode cJ9_floorMod_7cf53 14 = .ok (.iload_n 2, 1) := by decide +kernel
theorem dJ9_floorMod_7cf53_15 : decode cJ9_floorMod_7cf53 15 = .ok (.iload_n 1, 1) := by decide +kernel
theorem dJ9_floorMod_7cf53_16 : decode cJ9_floorMod_7cf53 16 = .ok (.iadd, 1) := by decide +kernel
theorem dJ9_floorMod_7cf53_17 : decode cJ9_floorMod_7cf53 17 = .ok (.ireturn, 1) := by decide +kernel
theorem dJ9_floorMod_7cf53_18 : decode cJ9_floorMod_7cf53 18 = .ok (.iload_n 2, 1) := by decide +kernel
theorem dJ9_floorMod_7cf53_19 : decode cJ9_floorMod_7cf53 19 = .ok (.ireturn, 1) := by decide +kernel
theorem dJ9_max_7cf53_0 : decode cJ9_max_7cf53 0 = .ok (.iload_n 0, 1) := by decide +kernel
theorem dJ9_max_7cf53_1 : decode cJ9_max_7cf53 1 = .ok (.iload_n 1, 1) := by decide +kernel
theorem dJ9_max_7cf53_2 : decode cJ9_max_7cf53 2 = .ok (.if_icmp .lt 7, 3) := by decide +kernel
theorem dJ9_max_7cf53_5 : decode cJ9_max_7cf53 5 = .ok (.iload_n 0, 1) := by decide +kernel
theorem dJ9_max_7cf53_6 : decode cJ9_max_7cf53 6 = .ok (.goto 4, 3) := by decide +kernel
theorem dJ9_max_7cf53_9 : decode cJ9_max_7cf53 9 = .ok (.iload_n 1, 1) := by decide +kernel
theorem dJ9_max_7cf53_10 : decode cJ9_max_7cf53 10 = .ok (.ireturn, 1) := by decide +kernel
theorem dJ9_min_7cf53_0 : decode cJ9_min_7cf53 0 = .ok (.iload_n 0, 1) := by decide +kernel
theorem dJ9_min_7cf53_1 : decode cJ9_min_7cf53 1 = .ok (.iload_n 1, 1) := by decide +kernel
theorem dJ9_min_7cf53_2 : decode cJ9_min_7cf53 2 = .ok (.if_icmp .gt 7, 3) := by decide +kernel
theorem dJ9_min_7cf53_5 : decode cJ9_min_7cf53 5 = .ok (.iload_n 0, 1) := by decide +kernel
theorem dJ9_min_7cf53_6 : decode cJ9_min_7cf53 6 = .ok (.goto 4, 3) := by decide +kernel
theorem dJ9_min_7cf53_9 : decode cJ9_min_7cf53 9 = .ok (.iload_n 1, 1) := by decide +kernel
theorem dJ9_min_7cf53_10 : decode cJ9_min_7cf53 10 = .ok (.ireturn, 1) := by decide +kernel
theorem dJ0_length_8abf5_0 : decode cJ0_length_8abf5 0 = .ok (.aload_n 0, 1) := by decide +kernel
theorem dJ0_length_8abf5_1 : decode cJ0_length_8abf5 1 = .ok (.getfield 9, 3) := by decide +kernel
theorem dJ0_length_8abf5_4 : decode cJ0_length_8abf5 4 = .ok (.arraylength, 1) := by decide +kernel
theorem dJ0_length_8abf5_5 : decode cJ0_length_8abf5 5 = .ok (.aload_n 0, 1) := by decide +kernel
theorem dJ0_length_8abf5_6 : decode cJ0_length_8abf5 6 = .ok (.invokevirtual 335, 3) := by decide +kernel
theorem dJ0_length_8abf5_9 : decode cJ0_length_8abf5 9 = .ok (.ishr, 1) := by decide +kernel
theorem dJ0_length_8abf5_10 : decode cJ0_length_8abf5 10 = .ok (.ireturn, 1) := by decide +kernel
theorem dJ0_charAt_5068e_0 : decode cJ0_charAt_5068e 0 = .ok (.aload_n 0, 1) := by decide +kernel
theorem dJ0_charAt_5068e_1 : decode cJ0_charAt_5068e 1 = .ok (.invokevirtual 492, 3) := by decide +kernel
theorem dJ0_charAt_5068e_4 : decode cJ0_charAt_5068e 4 = .ok (.ifCond .eq 12, 3) := by decide +kernel
theorem dJ0_charAt_5068e_7 : decode cJ0_charAt_5068e 7 = .ok (.aload_n 0, 1) := by decide +kernel
theorem dJ0_charAt_5068e_8 : decode cJ0_charAt_5068e 8 = .ok (.getfield 9, 3) := by decide +kernel
theorem dJ0_charAt_5068e_11 : decode cJ0_charAt_5068e 11 = .ok (.iload_n 1, 1) := by decide +kernel
theorem dJ0_charAt_5068e_12 : decode cJ0_charAt_5068e 12 = .ok (.invokestatic 495, 3) := by decide +kernel
theorem dJ0_charAt_5068e_15 : decode cJ0_charAt_5068e 15 = .ok (.ireturn, 1) := by decide +kernel
theorem dJ0_charAt_5068e_16 : decode cJ0_charAt_5068e 16 = .ok (.aload_n 0, 1) := by decide +kernel
theorem dJ0_charAt_5068e_17 : decode cJ0_charAt_5068e 17 = .ok (.getfield 9, 3) := by decide +kernel
theorem dJ0_charAt_5068e_20 : decode cJ0_charAt_5068e 20 = .ok (.iload_n 1, 1) := by decide +kernel
theorem dJ0_charAt_5068e_21 : decode cJ0_charAt_5068e 21 = .ok (.invokestatic 498, 3) := by decide +kernel
theorem dJ0_charAt_5068e_24 : decode cJ0_charAt_5068e 24 = .ok (.ireturn, 1) := by decide +kernel
theorem dJ0_coder_7d493_0 : decode cJ0_coder_7d493 0 = .ok (.getstatic 38, 3) := by decide +kernel
theorem dJ0_coder_7d493_3 : decode cJ0_coder_7d493 3 = .ok (.ifCond .eq 10, 3) := by decide +kernel
theorem dJ0_coder_7d493_6 : decode cJ0_coder_7d493 6 = .ok (.aload_n 0, 1) := by decide +kernel
theorem dJ0_coder_7d493_7 : decode cJ0_coder_7d493 7 = .ok (.getfield 15, 3) := by decide +kernel
theorem dJ0_coder_7d493_10 : decode cJ0_coder_7d493 10 = .ok (.goto 4, 3) := by decide +kernel
theorem dJ0_coder_7d493_13 : decode cJ0_coder_7d493 13 = .ok (.iconst 1, 1) := by decide +kernel
theorem dJ0_coder_7d493_14 : decode cJ0_coder_7d493 14 = .ok (.ireturn, 1) := by decide +kernel
theorem dJ0_isLatin1_aae02_0 : decode cJ0_isLatin1_aae02 0 = .ok (.getstatic 38, 3) := by decide +kernel
theorem dJ0_isLatin1_aae02_3 : decode cJ0_isLatin1_aae02 3 = .ok (.ifCond .eq 14, 3) := by decide +kernel
theorem dJ0_isLatin1_aae02_6 : decode cJ0_isLatin1_aae02 6 = .ok (.aload_n 0, 1) := by decide +kernel
theorem dJ0_isLatin1_aae02_7 : decode cJ0_isLatin1_aae02 7 = .ok (.getfield 15, 3) := by decide +kernel
theorem dJ0_isLatin1_aae02_10 : decode cJ0_isLatin1_aae02 10 = .ok (.ifCond .ne 7, 3) := by decide +kernel
theorem dJ0_isLatin1_aae02_13 : decode cJ0_isLatin1_aae02 13 = .ok (.iconst 1, 1) := by decide +kernel
theorem dJ0_isLatin1_aae02_14 : decode cJ0_isLatin1_aae02 14 = .ok (.goto 4, 3) := by decide +kernel
theorem dJ0_isLatin1_aae02_17 : decode cJ0_isLatin1_aae02 17 = .ok (.iconst 0, 1) := by decide +kernel
theorem dJ0_isLatin1_aae02_18 : decode cJ0_isLatin1_aae02 18 = .ok (.ireturn, 1) := by decide +kernel
theorem dJ0_checkIndex_df160_0 : decode cJ0_checkIndex_df160 0 = .ok (.iload_n 0, 1) := by decide +kernel
theorem dJ0_checkIndex_df160_1 : decode cJ0_checkIndex_df160 1 = .ok (.iload_n 1, 1) := by decide +kernel
theorem dJ0_checkIndex_df160_2 : decode cJ0_checkIndex_df160 2 = .ok (.getstatic 1053, 3) := by decide +kernel
theorem dJ0_checkIndex_df160_5 : decode cJ0_checkIndex_df160 5 = .ok (.invokestatic 1059, 3) := by decide +kernel
theorem dJ0_checkIndex_df160_8 : decode cJ0_checkIndex_df160 8 = .ok (.pop, 1) := by decide +kernel
theorem dJ0_checkIndex_df160_9 : decode cJ0_checkIndex_df160 9 = .ok (.return_, 1) := by decide +kernel
theorem dJ1_charAt_3b067_0 : decode cJ1_charAt_3b067 0 = .ok (.iload_n 1, 1) := by decide +kernel
theorem dJ1_charAt_3b067_1 : decode cJ1_charAt_3b067 1 = .ok (.aload_n 0, 1) := by decide +kernel
theorem dJ1_charAt_3b067_2 : decode cJ1_charAt_3b067 2 = .ok (.arraylength, 1) := by decide +kernel
theorem dJ1_charAt_3b067_3 : decode cJ1_charAt_3b067 3 = .ok (.invokestatic 9, 3) := by decide +kernel
theorem dJ1_charAt_3b067_6 : decode cJ1_charAt_3b067 6 = .ok (.aload_n 0, 1) := by decide +kernel
theorem dJ1_charAt_3b067_7 : decode cJ1_charAt_3b067 7 = .ok (.iload_n 1, 1) := by decide +kernel
theorem dJ1_charAt_3b067_8 : decode cJ1_charAt_3b067 8 = .ok (.baload, 1) := by decide +kernel
theorem dJ1_charAt_3b067_9 : decode cJ1_charAt_3b067 9 = .ok (.sipush 255, 3) := by decide +kernel
theorem dJ1_charAt_3b067_12 : decode cJ1_charAt_3b067 12 = .ok (.iand, 1) := by decide +kernel
theorem dJ1_charAt_3b067_13 : decode cJ1_charAt_3b067 13 = .ok (.i2c, 1) := by decide +kernel
theorem dJ1_charAt_3b067_14 : decode cJ1_charAt_3b067 14 = .ok (.ireturn, 1) := by decide +kernel
theorem dJ2_getChar_3b067_0 : decode cJ2_getChar_3b067 0 = .ok (.getstatic 44, 3) := by decide +kernel
theorem dJ2_getChar_3b067_3 : decode cJ2_getChar_3b067 3 = .ok (.ifCond .ne 25, 3) := by decide +kernel
theorem dJ2_getChar_3b067_6 : decode cJ2_getChar_3b067 6 = .ok (.iload_n 1, 1) := by decide +kernel
theorem dJ2_getChar_3b067_7 : decode cJ2_getChar_3b067 7 = .ok (.ifCond .lt 11, 3) := by decide +kernel
theorem dJ2_getChar_3b067_10 : decode cJ2_getChar_3b067 10 = .ok (.iload_n 1, 1) := by decide +kernel
theorem dJ2_getChar_3b067_11 : decode cJ2_getChar_3b067 11 = .ok (.aload_n 0, 1) := by decide +kernel
theorem dJ2_getChar_3b067_12 : decode cJ2_getChar_3b067 12 = .ok (.invokestatic 48, 3) := by decide +kernel
theorem dJ2_getChar_3b067_15 : decode cJ2_getChar_3b067 15 = .ok (.if_icmp .lt 13, 3) := by decide +kernel
theorem dJ2_getChar_3b067_18 : decode cJ2_getChar_3b067 18 = .ok (.new 52, 3) := by decide +kernel
theorem dJ2_getChar_3b067_21 : decode cJ2_getChar_3b067 21 = .ok (.dup, 1) := by decide +kernel
theorem dJ2_getChar_3b067_22 : decode cJ2_getChar_3b067 22 = .ok (.ldc 54, 2) := by decide +kernel
theorem dJ2_getChar_3b067_24 : decode cJ2_getChar_3b067 24 = .ok (.invokespecial 56, 3) := by decide +kernel
theorem dJ2_getChar_3b067_27 : decode cJ2_getChar_3b067 27 = .ok (.athrow, 1) := by decide +kernel
theorem dJ2_getChar_3b067_28 : decode cJ2_getChar_3b067 28 = .ok (.iload_n 1, 1) := by decide +kernel
theorem dJ2_getChar_3b067_29 : decode cJ2_getChar_3b067 29 = .ok (.iconst 1, 1) := by decide +kernel
theorem dJ2_getChar_3b067_30 : decode cJ2_getChar_3b067 30 = .ok (.ishl, 1) := by decide +kernel
theorem dJ2_getChar_3b067_31 : decode cJ2_getChar_3b067 31 = .ok (.istore_n 1, 1) := by decide +kernel
theorem dJ2_getChar_3b067_32 : decode cJ2_getChar_3b067 32 = .ok (.aload_n 0, 1) := by decide +kernel
theorem dJ2_getChar_3b067_33 : decode cJ2_getChar_3b067 33 = .ok (.iload_n 1, 1) := by decide +kernel
theorem dJ2_getChar_3b067_34 : decode cJ2_getChar_3b067 34 = .ok (.iinc 1 1, 3) := by decide +kernel
theorem dJ2_getChar_3b067_37 : decode cJ2_getChar_3b067 37 = .ok (.baload, 1) := by decide +kernel
theorem dJ2_getChar_3b067_38 : decode cJ2_getChar_3b067 38 = .ok (.sipush 255, 3) := by decide +kernel
theorem dJ2_getChar_3b067_41 : decode cJ2_getChar_3b067 41 = .ok (.iand, 1) := by decide +kernel
theorem dJ2_getChar_3b067_42 : decode cJ2_getChar_3b067 42 = .ok (.getstatic 59, 3) := by decide +kernel
theorem dJ2_getChar_3b067_45 : decode cJ2_getChar_3b067 45 = .ok (.ishl, 1) := by decide +kernel
theorem dJ2_getChar_3b067_46 : decode cJ2_getChar_3b067 46 = .ok (.aload_n 0, 1) := by decide +kernel
theorem dJ2_getChar_3b067_47 : decode cJ2_getChar_3b067 47 = .ok (.iload_n 1, 1) := by decide +kernel
theorem dJ2_getChar_3b067_48 : decode cJ2_getChar_3b067 48 = .ok (.baload, 1) := by decide +kernel
theorem dJ2_getChar_3b067_49 : decode cJ2_getChar_3b067 49 = .ok (.sipush 255, 3) := by decide +kernel
theorem dJ2_getChar_3b067_52 : decode cJ2_getChar_3b067 52 = .ok (.iand, 1) := by decide +kernel
theorem dJ2_getChar_3b067_53 : decode cJ2_getChar_3b067 53 = .ok (.getstatic 63, 3) := by decide +kernel
theorem dJ2_getChar_3b067_56 : decode cJ2_getChar_3b067 56 = .ok (.ishl, 1) := by decide +kernel
theorem dJ2_getChar_3b067_57 : decode cJ2_getChar_3b067 57 = .ok (.ior, 1) := by decide +kernel
theorem dJ2_getChar_3b067_58 : decode cJ2_getChar_3b067 58 = .ok (.i2c, 1) := by decide +kernel
theorem dJ2_getChar_3b067_59 : decode cJ2_getChar_3b067 59 = .ok (.ireturn, 1) := by decide +kernel
theorem dJ2_length_9d52b_0 : decode cJ2_length_9d52b 0 = .ok (.aload_n 0, 1) := by decide +kernel
theorem dJ2_length_9d52b_1 : decode cJ2_length_9d52b 1 = .ok (.arraylength, 1) := by decide +kernel
theorem dJ2_length_9d52b_2 : decode cJ2_length_9d52b 2 = .ok (.iconst 1, 1) := by decide +kernel
theorem dJ2_length_9d52b_3 : decode cJ2_length_9d52b 3 = .ok (.ishr, 1) := by decide +kernel
theorem dJ2_length_9d52b_4 : decode cJ2_length_9d52b 4 = .ok (.ireturn, 1) := by decide +kernel
theorem dJ2_charAt_3b067_0 : decode cJ2_charAt_3b067 0 = .ok (.iload_n 1, 1) := by decide +kernel
theorem dJ2_charAt_3b067_1 : decode cJ2_charAt_3b067 1 = .ok (.aload_n 0, 1) := by decide +kernel
theorem dJ2_charAt_3b067_2 : decode cJ2_charAt_3b067 2 = .ok (.invokestatic 67, 3) := by decide +kernel
theorem dJ2_charAt_3b067_5 : decode cJ2_charAt_3b067 5 = .ok (.aload_n 0, 1) := by decide +kernel
theorem dJ2_charAt_3b067_6 : decode cJ2_charAt_3b067 6 = .ok (.iload_n 1, 1) := by decide +kernel
theorem dJ2_charAt_3b067_7 : decode cJ2_charAt_3b067 7 = .ok (.invokestatic 71, 3) := by decide +kernel
theorem dJ2_charAt_3b067_10 : decode cJ2_charAt_3b067 10 = .ok (.ireturn, 1) := by decide +kernel
theorem dJ2_checkIndex_2214a_0 : decode cJ2_checkIndex_2214a 0 = .ok (.iload_n 0, 1) := by decide +kernel
theorem dJ2_checkIndex_2214a_1 : decode cJ2_checkIndex_2214a 1 = .ok (.aload_n 1, 1) := by decide +kernel
theorem dJ2_checkIndex_2214a_2 : decode cJ2_checkIndex_2214a 2 = .ok (.invokestatic 48, 3) := by decide +kernel
theorem dJ2_checkIndex_2214a_5 : decode cJ2_checkIndex_2214a 5 = .ok (.invokestatic 414, 3) := by decide +kernel
theorem dJ2_checkIndex_2214a_8 : decode cJ2_checkIndex_2214a 8 = .ok (.return_, 1) := by decide +kernel
theorem dJ3_checkIndex_8e157_0 : decode cJ3_checkIndex_8e157 0 = .ok (.iload_n 0, 1) := by decide +kernel
theorem dJ3_checkIndex_8e157_1 : decode cJ3_checkIndex_8e157 1 = .ok (.ifCond .lt 8, 3) := by decide +kernel
theorem dJ3_checkIndex_8e157_4 : decode cJ3_checkIndex_8e157 4 = .ok (.iload_n 0, 1) := by decide +kernel
theorem dJ3_checkIndex_8e157_5 : decode cJ3_checkIndex_8e157 5 = .ok (.iload_n 1, 1) := by decide +kernel
theorem dJ3_checkIndex_8e157_6 : decode cJ3_checkIndex_8e157 6 = .ok (.if_icmp .lt 10, 3) := by decide +kernel
theorem dJ3_checkIndex_8e157_9 : decode cJ3_checkIndex_8e157 9 = .ok (.aload_n 2, 1) := by decide +kernel
theorem dJ3_checkIndex_8e157_10 : decode cJ3_checkIndex_8e157 10 = .ok (.iload_n 0, 1) := by decide +kernel
theorem dJ3_checkIndex_8e157_11 : decode cJ3_checkIndex_8e157 11 = .ok (.iload_n 1, 1) := by decide +kernel
theorem dJ3_checkIndex_8e157_12 : decode cJ3_checkIndex_8e157 12 = .ok (.invokestatic 95, 3) := by decide +kernel
theorem dJ3_checkIndex_8e157_15 : decode cJ3_checkIndex_8e157 15 = .ok (.athrow, 1) := by decide +kernel
theorem dJ3_checkIndex_8e157_16 : decode cJ3_checkIndex_8e157 16 = .ok (.iload_n 0, 1) := by decide +kernel
theorem dJ3_checkIndex_8e157_17 : decode cJ3_checkIndex_8e157 17 = .ok (.ireturn, 1) := by decide +kernel
theorem dL_knot_0 : decode cL_knot 0 = .ok (.aload 4, 2) := by decide +kernel
theorem dL_knot_2 : decode cL_knot 2 = .ok (.iconst 0, 1) := by decide +kernel
theorem dL_knot_3 : decode cL_knot 3 = .ok (.aload_n 0, 1) := by decide +kernel
theorem dL_knot_4 : decode cL_knot 4 = .ok (.iload_n 1, 1) := by decide +kernel
theorem dL_knot_5 : decode cL_knot 5 = .ok (.iload_n 2, 1) := by decide +kernel
theorem dL_knot_6 : decode cL_knot 6 = .ok (.iload_n 3, 1) := by decide +kernel
theorem dL_knot_7 : decode cL_knot 7 = .ok (.invokevirtual 7, 3) := by decide +kernel
theorem dL_knot_10 : decode cL_knot 10 = .ok (.i2l, 1) := by decide +kernel
theorem dL_knot_11 : decode cL_knot 11 = .ok (.lastore, 1) := by decide +kernel
theorem dL_knot_12 : decode cL_knot 12 = .ok (.goto 7, 3) := by decide +kernel
theorem dL_knot_15 : decode cL_knot 15 = .ok (.astore 5, 2) := by decide +kernel
theorem dL_knot_17 : decode cL_knot 17 = .ok (.iconst 1, 1) := by decide +kernel
theorem dL_knot_18 : decode cL_knot 18 = .ok (.ireturn, 1) := by decide +kernel
theorem dL_knot_19 : decode cL_knot 19 = .ok (.iconst 0, 1) := by decide +kernel
theorem dL_knot_20 : decode cL_knot 20 = .ok (.ireturn, 1) := by decide +kernel
theorem dL_tear_0 : decode cL_tear 0 = .ok (.aload 4, 2) := by decide +kernel
theorem dL_tear_2 : decode cL_tear 2 = .ok (.iconst 0, 1) := by decide +kernel
theorem dL_tear_3 : decode cL_tear 3 = .ok (.aload_n 0, 1) := by decide +kernel
theorem dL_tear_4 : decode cL_tear 4 = .ok (.iload_n 1, 1) := by decide +kernel
theorem dL_tear_5 : decode cL_tear 5 = .ok (.iload_n 2, 1) := by decide +kernel
theorem dL_tear_6 : decode cL_tear 6 = .ok (.iload_n 3, 1) := by decide +kernel
theorem dL_tear_7 : decode cL_tear 7 = .ok (.invokevirtual 15, 3) := by decide +kernel
theorem dL_tear_10 : decode cL_tear 10 = .ok (.i2l, 1) := by decide +kernel
theorem dL_tear_11 : decode cL_tear 11 = .ok (.lastore, 1) := by decide +kernel
theorem dL_tear_12 : decode cL_tear 12 = .ok (.goto 7, 3) := by decide +kernel
theorem dL_tear_15 : decode cL_tear 15 = .ok (.astore 5, 2) := by decide +kernel
theorem dL_tear_17 : decode cL_tear 17 = .ok (.iconst 1, 1) := by decide +kernel
theorem dL_tear_18 : decode cL_tear 18 = .ok (.ireturn, 1) := by decide +kernel
theorem dL_tear_19 : decode cL_tear 19 = .ok (.iconst 0, 1) := by decide +kernel
theorem dL_tear_20 : decode cL_tear 20 = .ok (.ireturn, 1) := by decide +kernel
theorem dL_mend_0 : decode cL_mend 0 = .ok (.aload 5, 2) := by decide +kernel
theorem dL_mend_2 : decode cL_mend 2 = .ok (.iconst 0, 1) := by decide +kernel
theorem dL_mend_3 : decode cL_mend 3 = .ok (.aload_n 0, 1) := by decide +kernel
theorem dL_mend_4 : decode cL_mend 4 = .ok (.iload_n 1, 1) := by decide +kernel
theorem dL_mend_5 : decode cL_mend 5 = .ok (.iload_n 2, 1) := by decide +kernel
theorem dL_mend_6 : decode cL_mend 6 = .ok (.iload_n 3, 1) := by decide +kernel
theorem dL_mend_7 : decode cL_mend 7 = .ok (.iload 4, 2) := by decide +kernel
theorem dL_mend_9 : decode cL_mend 9 = .ok (.invokevirtual 18, 3) := by decide +kernel
theorem dL_mend_12 : decode cL_mend 12 = .ok (.i2l, 1) := by decide +kernel
theorem dL_mend_13 : decode cL_mend 13 = .ok (.lastore, 1) := by decide +kernel
theorem dL_mend_14 : decode cL_mend 14 = .ok (.goto 7, 3) := by decide +kernel
theorem dL_mend_17 : decode cL_mend 17 = .ok (.astore 6, 2) := by decide +kernel
theorem dL_mend_19 : decode cL_mend 19 = .ok (.iconst 1, 1) := by decide +kernel
theorem dL_mend_20 : decode cL_mend 20 = .ok (.ireturn, 1) := by decide +kernel
theorem dL_mend_21 : decode cL_mend 21 = .ok (.iconst 0, 1) := by decide +kernel
theorem dL_mend_22 : decode cL_mend 22 = .ok (.ireturn, 1) := by decide +kernel
theorem dL_editor_0 : decode cL_editor 0 = .ok (.aload_n 2, 1) := by decide +kernel
theorem dL_editor_1 : decode cL_editor 1 = .ok (.iconst 0, 1) := by decide +kernel
theorem dL_editor_2 : decode cL_editor 2 = .ok (.aload_n 0, 1) := by decide +kernel
theorem dL_editor_3 : decode cL_editor 3 = .ok (.iload_n 1, 1) := by decide +kernel
theorem dL_editor_4 : decode cL_editor 4 = .ok (.invokevirtual 22, 3) := by decide +kernel
theorem dL_editor_7 : decode cL_editor 7 = .ok (.i2l, 1) := by decide +kernel
theorem dL_editor_8 : decode cL_editor 8 = .ok (.lastore, 1) := by decide +kernel
theorem dL_editor_9 : decode cL_editor 9 = .ok (.goto 6, 3) := by decide +kernel
theorem dL_editor_12 : decode cL_editor 12 = .ok (.astore_n 3, 1) := by decide +kernel
theorem dL_editor_13 : decode cL_editor 13 = .ok (.iconst 1, 1) := by decide +kernel
theorem dL_editor_14 : decode cL_editor 14 = .ok (.ireturn, 1) := by decide +kernel
theorem dL_editor_15 : decode cL_editor 15 = .ok (.iconst 0, 1) := by decide +kernel
theorem dL_editor_16 : decode cL_editor 16 = .ok (.ireturn, 1) := by decide +kernel
theorem dL_tide_0 : decode cL_tide 0 = .ok (.aload_n 2, 1) := by decide +kernel
theorem dL_tide_1 : decode cL_tide 1 = .ok (.iconst 0, 1) := by decide +kernel
theorem dL_tide_2 : decode cL_tide 2 = .ok (.aload_n 0, 1) := by decide +kernel
theorem dL_tide_3 : decode cL_tide 3 = .ok (.iload_n 1, 1) := by decide +kernel
theorem dL_tide_4 : decode cL_tide 4 = .ok (.invokevirtual 26, 3) := by decide +kernel
theorem dL_tide_7 : decode cL_tide 7 = .ok (.i2l, 1) := by decide +kernel
theorem dL_tide_8 : decode cL_tide 8 = .ok (.lastore, 1) := by decide +kernel
theorem dL_tide_9 : decode cL_tide 9 = .ok (.goto 6, 3) := by decide +kernel
theorem dL_tide_12 : decode cL_tide 12 = .ok (.astore_n 3, 1) := by decide +kernel
theorem dL_tide_13 : decode cL_tide 13 = .ok (.iconst 1, 1) := by decide +kernel
theorem dL_tide_14 : decode cL_tide 14 = .ok (.ireturn, 1) := by decide +kernel
theorem dL_tide_15 : decode cL_tide 15 = .ok (.iconst 0, 1) := by decide +kernel
theorem dL_tide_16 : decode cL_tide 16 = .ok (.ireturn, 1) := by decide +kernel
theorem dL_sink_0 : decode cL_sink 0 = .ok (.aload_n 3, 1) := by decide +kernel
theorem dL_sink_1 : decode cL_sink 1 = .ok (.iconst 0, 1) := by decide +kernel
theorem dL_sink_2 : decode cL_sink 2 = .ok (.aload_n 0, 1) := by decide +kernel
theorem dL_sink_3 : decode cL_sink 3 = .ok (.iload_n 1, 1) := by decide +kernel
theorem dL_sink_4 : decode cL_sink 4 = .ok (.iload_n 2, 1) := by decide +kernel
theorem dL_sink_5 : decode cL_sink 5 = .ok (.invokevirtual 29, 3) := by decide +kernel
theorem dL_sink_8 : decode cL_sink 8 = .ok (.i2l, 1) := by decide +kernel
theorem dL_sink_9 : decode cL_sink 9 = .ok (.lastore, 1) := by decide +kernel
theorem dL_sink_10 : decode cL_sink 10 = .ok (.goto 7, 3) := by decide +kernel
theorem dL_sink_13 : decode cL_sink 13 = .ok (.astore 4, 2) := by decide +kernel
theorem dL_sink_15 : decode cL_sink 15 = .ok (.iconst 1, 1) := by decide +kernel
theorem dL_sink_16 : decode cL_sink 16 = .ok (.ireturn, 1) := by decide +kernel
theorem dL_sink_17 : decode cL_sink 17 = .ok (.iconst 0, 1) := by decide +kernel
theorem dL_sink_18 : decode cL_sink 18 = .ok (.ireturn, 1) := by decide +kernel
theorem dL_note_0 : decode cL_note 0 = .ok (.aload_n 3, 1) := by decide +kernel
theorem dL_note_1 : decode cL_note 1 = .ok (.iconst 0, 1) := by decide +kernel
theorem dL_note_2 : decode cL_note 2 = .ok (.aload_n 0, 1) := by decide +kernel
theorem dL_note_3 : decode cL_note 3 = .ok (.iload_n 1, 1) := by decide +kernel
theorem dL_note_4 : decode cL_note 4 = .ok (.iload_n 2, 1) := by decide +kernel
theorem dL_note_5 : decode cL_note 5 = .ok (.invokevirtual 33, 3) := by decide +kernel
theorem dL_note_8 : decode cL_note 8 = .ok (.i2l, 1) := by decide +kernel
theorem dL_note_9 : decode cL_note 9 = .ok (.lastore, 1) := by decide +kernel
theorem dL_note_10 : decode cL_note 10 = .ok (.goto 7, 3) := by decide +kernel
theorem dL_note_13 : decode cL_note 13 = .ok (.astore 4, 2) := by decide +kernel
theorem dL_note_15 : decode cL_note 15 = .ok (.iconst 1, 1) := by decide +kernel
theorem dL_note_16 : decode cL_note 16 = .ok (.ireturn, 1) := by decide +kernel
theorem dL_note_17 : decode cL_note 17 = .ok (.iconst 0, 1) := by decide +kernel
theorem dL_note_18 : decode cL_note 18 = .ok (.ireturn, 1) := by decide +kernel
theorem dL_drop_0 : decode cL_drop 0 = .ok (.aload_n 2, 1) := by decide +kernel
theorem dL_drop_1 : decode cL_drop 1 = .ok (.iconst 0, 1) := by decide +kernel
theorem dL_drop_2 : decode cL_drop 2 = .ok (.aload_n 0, 1) := by decide +kernel
theorem dL_drop_3 : decode cL_drop 3 = .ok (.iload_n 1, 1) := by decide +kernel
theorem dL_drop_4 : decode cL_drop 4 = .ok (.invokevirtual 36, 3) := by decide +kernel
theorem dL_drop_7 : decode cL_drop 7 = .ok (.i2l, 1) := by decide +kernel
theorem dL_drop_8 : decode cL_drop 8 = .ok (.lastore, 1) := by decide +kernel
theorem dL_drop_9 : decode cL_drop 9 = .ok (.goto 6, 3) := by decide +kernel
theorem dL_drop_12 : decode cL_drop 12 = .ok (.astore_n 3, 1) := by decide +kernel
theorem dL_drop_13 : decode cL_drop 13 = .ok (.iconst 1, 1) := by decide +kernel
theorem dL_drop_14 : decode cL_drop 14 = .ok (.ireturn, 1) := by decide +kernel
theorem dL_drop_15 : decode cL_drop 15 = .ok (.iconst 0, 1) := by decide +kernel
theorem dL_drop_16 : decode cL_drop 16 = .ok (.ireturn, 1) := by decide +kernel
theorem dL_kindOf_0 : decode cL_kindOf 0 = .ok (.aload_n 3, 1) := by decide +kernel
theorem dL_kindOf_1 : decode cL_kindOf 1 = .ok (.iconst 0, 1) := by decide +kernel
theorem dL_kindOf_2 : decode cL_kindOf 2 = .ok (.aload_n 0, 1) := by decide +kernel
theorem dL_kindOf_3 : decode cL_kindOf 3 = .ok (.iload_n 1, 1) := by decide +kernel
theorem dL_kindOf_4 : decode cL_kindOf 4 = .ok (.iload_n 2, 1) := by decide +kernel
theorem dL_kindOf_5 : decode cL_kindOf 5 = .ok (.invokevirtual 39, 3) := by decide +kernel
theorem dL_kindOf_8 : decode cL_kindOf 8 = .ok (.i2l, 1) := by decide +kernel
theorem dL_kindOf_9 : decode cL_kindOf 9 = .ok (.lastore, 1) := by decide +kernel
theorem dL_kindOf_10 : decode cL_kindOf 10 = .ok (.goto 7, 3) := by decide +kernel
theorem dL_kindOf_13 : decode cL_kindOf 13 = .ok (.astore 4, 2) := by decide +kernel
theorem dL_kindOf_15 : decode cL_kindOf 15 = .ok (.iconst 1, 1) := by decide +kernel
theorem dL_kindOf_16 : decode cL_kindOf 16 = .ok (.ireturn, 1) := by decide +kernel
theorem dL_kindOf_17 : decode cL_kindOf 17 = .ok (.iconst 0, 1) := by decide +kernel
theorem dL_kindOf_18 : decode cL_kindOf 18 = .ok (.ireturn, 1) := by decide +kernel
theorem dL_isTorn_0 : decode cL_isTorn 0 = .ok (.aload 4, 2) := by decide +kernel
theorem dL_isTorn_2 : decode cL_isTorn 2 = .ok (.iconst 0, 1) := by decide +kernel
theorem dL_isTorn_3 : decode cL_isTorn 3 = .ok (.aload_n 0, 1) := by decide +kernel
theorem dL_isTorn_4 : decode cL_isTorn 4 = .ok (.iload_n 1, 1) := by decide +kernel
theorem dL_isTorn_5 : decode cL_isTorn 5 = .ok (.iload_n 2, 1) := by decide +kernel
theorem dL_isTorn_6 : decode cL_isTorn 6 = .ok (.iload_n 3, 1) := by decide +kernel
theorem dL_isTorn_7 : decode cL_isTorn 7 = .ok (.invokevirtual 44, 3) := by decide +kernel
theorem dL_isTorn_10 : decode cL_isTorn 10 = .ok (.ifCond .eq 7, 3) := by decide +kernel
theorem dL_isTorn_13 : decode cL_isTorn 13 = .ok (.lconst 1, 1) := by decide +kernel
theorem dL_isTorn_14 : decode cL_isTorn 14 = .ok (.goto 4, 3) := by decide +kernel
theorem dL_isTorn_17 : decode cL_isTorn 17 = .ok (.lconst 0, 1) := by decide +kernel
theorem dL_isTorn_18 : decode cL_isTorn 18 = .ok (.lastore, 1) := by decide +kernel
theorem dL_isTorn_19 : decode cL_isTorn 19 = .ok (.goto 11, 3) := by decide +kernel
theorem dL_isTorn_22 : decode cL_isTorn 22 = .ok (.astore 5, 2) := by decide +kernel
theorem dL_isTorn_24 : decode cL_isTorn 24 = .ok (.iconst 1, 1) := by decide +kernel
theorem dL_isTorn_25 : decode cL_isTorn 25 = .ok (.ireturn, 1) := by decide +kernel
theorem dL_isTorn_26 : decode cL_isTorn 26 = .ok (.astore 5, 2) := by decide +kernel
