theorem dX7_isDigitNext_8 : decode cX7_isDigitNext 8 = .ok (.getfield 9, 3) := by decide +kernel
theorem dX7_isDigitNext_11 : decode cX7_isDigitNext 11 = .ok (.aload_n 0, 1) := by decide +kernel
theorem dX7_isDigitNext_12 : decode cX7_isDigitNext 12 = .ok (.getfield 19, 3) := by decide +kernel
theorem dX7_isDigitNext_15 : decode cX7_isDigitNext 15 = .ok (.caload, 1) := by decide +kernel
theorem dX7_isDigitNext_16 : decode cX7_isDigitNext 16 = .ok (.bipush 48, 2) := by decide +kernel
theorem dX7_isDigitNext_18 : decode cX7_isDigitNext 18 = .ok (.if_icmp .lt 21, 3) := by decide +kernel
theorem dX7_isDigitNext_21 : decode cX7_isDigitNext 21 = .ok (.aload_n 0, 1) := by decide +kernel
theorem dX7_isDigitNext_22 : decode cX7_isDigitNext 22 = .ok (.getfield 9, 3) := by decide +kernel
theorem dX7_isDigitNext_25 : decode cX7_isDigitNext 25 = .ok (.aload_n 0, 1) := by decide +kernel
theorem dX7_isDigitNext_26 : decode cX7_isDigitNext 26 = .ok (.getfield 19, 3) := by decide +kernel
theorem dX7_isDigitNext_29 : decode cX7_isDigitNext 29 = .ok (.caload, 1) := by decide +kernel
theorem dX7_isDigitNext_30 : decode cX7_isDigitNext 30 = .ok (.bipush 57, 2) := by decide +kernel
theorem dX7_isDigitNext_32 : decode cX7_isDigitNext 32 = .ok (.if_icmp .gt 7, 3) := by decide +kernel
theorem dX7_isDigitNext_35 : decode cX7_isDigitNext 35 = .ok (.iconst 1, 1) := by decide +kernel
theorem dX7_isDigitNext_36 : decode cX7_isDigitNext 36 = .ok (.goto 4, 3) := by decide +kernel
theorem dX7_isDigitNext_39 : decode cX7_isDigitNext 39 = .ok (.iconst 0, 1) := by decide +kernel
theorem dX7_isDigitNext_40 : decode cX7_isDigitNext 40 = .ok (.ireturn, 1) := by decide +kernel
theorem dX8_init_0 : decode cX8_init 0 = .ok (.aload_n 0, 1) := by decide +kernel
theorem dX8_init_1 : decode cX8_init 1 = .ok (.invokespecial 3, 3) := by decide +kernel
theorem dX8_init_4 : decode cX8_init 4 = .ok (.aload_n 0, 1) := by decide +kernel
theorem dX8_init_5 : decode cX8_init 5 = .ok (.iconst 3, 1) := by decide +kernel
theorem dX8_init_6 : decode cX8_init 6 = .ok (.anewarray 9, 3) := by decide +kernel
theorem dX8_init_9 : decode cX8_init 9 = .ok (.putfield 11, 3) := by decide +kernel
theorem dX8_init_12 : decode cX8_init 12 = .ok (.aload_n 0, 1) := by decide +kernel
theorem dX8_init_13 : decode cX8_init 13 = .ok (.iconst 4, 1) := by decide +kernel
theorem dX8_init_14 : decode cX8_init 14 = .ok (.anewarray 17, 3) := by decide +kernel
theorem dX8_init_17 : decode cX8_init 17 = .ok (.putfield 19, 3) := by decide +kernel
theorem dX8_init_20 : decode cX8_init 20 = .ok (.aload_n 0, 1) := by decide +kernel
theorem dX8_init_21 : decode cX8_init 21 = .ok (.bipush 6, 2) := by decide +kernel
theorem dX8_init_23 : decode cX8_init 23 = .ok (.anewarray 23, 3) := by decide +kernel
theorem dX8_init_26 : decode cX8_init 26 = .ok (.putfield 25, 3) := by decide +kernel
theorem dX8_init_29 : decode cX8_init 29 = .ok (.aload_n 0, 1) := by decide +kernel
theorem dX8_init_30 : decode cX8_init 30 = .ok (.iconst 0, 1) := by decide +kernel
theorem dX8_init_31 : decode cX8_init 31 = .ok (.putfield 29, 3) := by decide +kernel
theorem dX8_init_34 : decode cX8_init 34 = .ok (.aload_n 0, 1) := by decide +kernel
theorem dX8_init_35 : decode cX8_init 35 = .ok (.iconst 0, 1) := by decide +kernel
theorem dX8_init_36 : decode cX8_init 36 = .ok (.putfield 33, 3) := by decide +kernel
theorem dX8_init_39 : decode cX8_init 39 = .ok (.aload_n 0, 1) := by decide +kernel
theorem dX8_init_40 : decode cX8_init 40 = .ok (.iconst 0, 1) := by decide +kernel
theorem dX8_init_41 : decode cX8_init 41 = .ok (.putfield 36, 3) := by decide +kernel
theorem dX8_init_44 : decode cX8_init 44 = .ok (.aload_n 0, 1) := by decide +kernel
theorem dX8_init_45 : decode cX8_init 45 = .ok (.iconst 0, 1) := by decide +kernel
theorem dX8_init_46 : decode cX8_init 46 = .ok (.putfield 39, 3) := by decide +kernel
theorem dX8_init_49 : decode cX8_init 49 = .ok (.aload_n 0, 1) := by decide +kernel
theorem dX8_init_50 : decode cX8_init 50 = .ok (.iconst 0, 1) := by decide +kernel
theorem dX8_init_51 : decode cX8_init 51 = .ok (.putfield 42, 3) := by decide +kernel
theorem dX8_init_54 : decode cX8_init 54 = .ok (.aload_n 0, 1) := by decide +kernel
theorem dX8_init_55 : decode cX8_init 55 = .ok (.iconst 0, 1) := by decide +kernel
theorem dX8_init_56 : decode cX8_init 56 = .ok (.putfield 45, 3) := by decide +kernel
theorem dX8_init_59 : decode cX8_init 59 = .ok (.iconst 0, 1) := by decide +kernel
theorem dX8_init_60 : decode cX8_init 60 = .ok (.istore_n 1, 1) := by decide +kernel
theorem dX8_init_61 : decode cX8_init 61 = .ok (.iload_n 1, 1) := by decide +kernel
theorem dX8_init_62 : decode cX8_init 62 = .ok (.iconst 3, 1) := by decide +kernel
theorem dX8_init_63 : decode cX8_init 63 = .ok (.if_icmp .ge 22, 3) := by decide +kernel
theorem dX8_init_66 : decode cX8_init 66 = .ok (.aload_n 0, 1) := by decide +kernel
theorem dX8_init_67 : decode cX8_init 67 = .ok (.getfield 11, 3) := by decide +kernel
theorem dX8_init_70 : decode cX8_init 70 = .ok (.iload_n 1, 1) := by decide +kernel
theorem dX8_init_71 : decode cX8_init 71 = .ok (.new 9, 3) := by decide +kernel
theorem dX8_init_74 : decode cX8_init 74 = .ok (.dup, 1) := by decide +kernel
theorem dX8_init_75 : decode cX8_init 75 = .ok (.invokespecial 48, 3) := by decide +kernel
theorem dX8_init_78 : decode cX8_init 78 = .ok (.aastore, 1) := by decide +kernel
theorem dX8_init_79 : decode cX8_init 79 = .ok (.iinc 1 1, 3) := by decide +kernel
theorem dX8_init_82 : decode cX8_init 82 = .ok (.goto (-21), 3) := by decide +kernel
theorem dX8_init_85 : decode cX8_init 85 = .ok (.iconst 0, 1) := by decide +kernel
theorem dX8_init_86 : decode cX8_init 86 = .ok (.istore_n 1, 1) := by decide +kernel
theorem dX8_init_87 : decode cX8_init 87 = .ok (.iload_n 1, 1) := by decide +kernel
theorem dX8_init_88 : decode cX8_init 88 = .ok (.iconst 4, 1) := by decide +kernel
theorem dX8_init_89 : decode cX8_init 89 = .ok (.if_icmp .ge 22, 3) := by decide +kernel
theorem dX8_init_92 : decode cX8_init 92 = .ok (.aload_n 0, 1) := by decide +kernel
theorem dX8_init_93 : decode cX8_init 93 = .ok (.getfield 19, 3) := by decide +kernel
theorem dX8_init_96 : decode cX8_init 96 = .ok (.iload_n 1, 1) := by decide +kernel
theorem dX8_init_97 : decode cX8_init 97 = .ok (.new 17, 3) := by decide +kernel
theorem dX8_init_100 : decode cX8_init 100 = .ok (.dup, 1) := by decide +kernel
theorem dX8_init_101 : decode cX8_init 101 = .ok (.invokespecial 49, 3) := by decide +kernel
theorem dX8_init_104 : decode cX8_init 104 = .ok (.aastore, 1) := by decide +kernel
theorem dX8_init_105 : decode cX8_init 105 = .ok (.iinc 1 1, 3) := by decide +kernel
theorem dX8_init_108 : decode cX8_init 108 = .ok (.goto (-21), 3) := by decide +kernel
theorem dX8_init_111 : decode cX8_init 111 = .ok (.iconst 0, 1) := by decide +kernel
theorem dX8_init_112 : decode cX8_init 112 = .ok (.istore_n 1, 1) := by decide +kernel
theorem dX8_init_113 : decode cX8_init 113 = .ok (.iload_n 1, 1) := by decide +kernel
theorem dX8_init_114 : decode cX8_init 114 = .ok (.bipush 6, 2) := by decide +kernel
theorem dX8_init_116 : decode cX8_init 116 = .ok (.if_icmp .ge 22, 3) := by decide +kernel
theorem dX8_init_119 : decode cX8_init 119 = .ok (.aload_n 0, 1) := by decide +kernel
theorem dX8_init_120 : decode cX8_init 120 = .ok (.getfield 25, 3) := by decide +kernel
theorem dX8_init_123 : decode cX8_init 123 = .ok (.iload_n 1, 1) := by decide +kernel
theorem dX8_init_124 : decode cX8_init 124 = .ok (.new 23, 3) := by decide +kernel
theorem dX8_init_127 : decode cX8_init 127 = .ok (.dup, 1) := by decide +kernel
theorem dX8_init_128 : decode cX8_init 128 = .ok (.invokespecial 50, 3) := by decide +kernel
theorem dX8_init_131 : decode cX8_init 131 = .ok (.aastore, 1) := by decide +kernel
theorem dX8_init_132 : decode cX8_init 132 = .ok (.iinc 1 1, 3) := by decide +kernel
theorem dX8_init_135 : decode cX8_init 135 = .ok (.goto (-22), 3) := by decide +kernel
theorem dX8_init_138 : decode cX8_init 138 = .ok (.return_, 1) := by decide +kernel
theorem dX8_copyFrom_0 : decode cX8_copyFrom 0 = .ok (.iconst 0, 1) := by decide +kernel
theorem dX8_copyFrom_1 : decode cX8_copyFrom 1 = .ok (.istore_n 2, 1) := by decide +kernel
theorem dX8_copyFrom_2 : decode cX8_copyFrom 2 = .ok (.iload_n 2, 1) := by decide +kernel
theorem dX8_copyFrom_3 : decode cX8_copyFrom 3 = .ok (.iconst 3, 1) := by decide +kernel
theorem dX8_copyFrom_4 : decode cX8_copyFrom 4 = .ok (.if_icmp .ge 24, 3) := by decide +kernel
theorem dX8_copyFrom_7 : decode cX8_copyFrom 7 = .ok (.aload_n 0, 1) := by decide +kernel
theorem dX8_copyFrom_8 : decode cX8_copyFrom 8 = .ok (.getfield 11, 3) := by decide +kernel
theorem dX8_copyFrom_11 : decode cX8_copyFrom 11 = .ok (.iload_n 2, 1) := by decide +kernel
theorem dX8_copyFrom_12 : decode cX8_copyFrom 12 = .ok (.aaload, 1) := by decide +kernel
theorem dX8_copyFrom_13 : decode cX8_copyFrom 13 = .ok (.aload_n 1, 1) := by decide +kernel
theorem dX8_copyFrom_14 : decode cX8_copyFrom 14 = .ok (.getfield 11, 3) := by decide +kernel
theorem dX8_copyFrom_17 : decode cX8_copyFrom 17 = .ok (.iload_n 2, 1) := by decide +kernel
theorem dX8_copyFrom_18 : decode cX8_copyFrom 18 = .ok (.aaload, 1) := by decide +kernel
theorem dX8_copyFrom_19 : decode cX8_copyFrom 19 = .ok (.invokevirtual 51, 3) := by decide +kernel
theorem dX8_copyFrom_22 : decode cX8_copyFrom 22 = .ok (.iinc 2 1, 3) := by decide +kernel
theorem dX8_copyFrom_25 : decode cX8_copyFrom 25 = .ok (.goto (-23), 3) := by decide +kernel
theorem dX8_copyFrom_28 : decode cX8_copyFrom 28 = .ok (.iconst 0, 1) := by decide +kernel
theorem dX8_copyFrom_29 : decode cX8_copyFrom 29 = .ok (.istore_n 2, 1) := by decide +kernel
theorem dX8_copyFrom_30 : decode cX8_copyFrom 30 = .ok (.iload_n 2, 1) := by decide +kernel
theorem dX8_copyFrom_31 : decode cX8_copyFrom 31 = .ok (.iconst 4, 1) := by decide +kernel
theorem dX8_copyFrom_32 : decode cX8_copyFrom 32 = .ok (.if_icmp .ge 24, 3) := by decide +kernel
theorem dX8_copyFrom_35 : decode cX8_copyFrom 35 = .ok (.aload_n 0, 1) := by decide +kernel
theorem dX8_copyFrom_36 : decode cX8_copyFrom 36 = .ok (.getfield 19, 3) := by decide +kernel
theorem dX8_copyFrom_39 : decode cX8_copyFrom 39 = .ok (.iload_n 2, 1) := by decide +kernel
theorem dX8_copyFrom_40 : decode cX8_copyFrom 40 = .ok (.aaload, 1) := by decide +kernel
theorem dX8_copyFrom_41 : decode cX8_copyFrom 41 = .ok (.aload_n 1, 1) := by decide +kernel
theorem dX8_copyFrom_42 : decode cX8_copyFrom 42 = .ok (.getfield 19, 3) := by decide +kernel
theorem dX8_copyFrom_45 : decode cX8_copyFrom 45 = .ok (.iload_n 2, 1) := by decide +kernel
theorem dX8_copyFrom_46 : decode cX8_copyFrom 46 = .ok (.aaload, 1) := by decide +kernel
theorem dX8_copyFrom_47 : decode cX8_copyFrom 47 = .ok (.invokevirtual 55, 3) := by decide +kernel
theorem dX8_copyFrom_50 : decode cX8_copyFrom 50 = .ok (.iinc 2 1, 3) := by decide +kernel
theorem dX8_copyFrom_53 : decode cX8_copyFrom 53 = .ok (.goto (-23), 3) := by decide +kernel
theorem dX8_copyFrom_56 : decode cX8_copyFrom 56 = .ok (.iconst 0, 1) := by decide +kernel
theorem dX8_copyFrom_57 : decode cX8_copyFrom 57 = .ok (.istore_n 2, 1) := by decide +kernel
theorem dX8_copyFrom_58 : decode cX8_copyFrom 58 = .ok (.iload_n 2, 1) := by decide +kernel
theorem dX8_copyFrom_59 : decode cX8_copyFrom 59 = .ok (.bipush 6, 2) := by decide +kernel
theorem dX8_copyFrom_61 : decode cX8_copyFrom 61 = .ok (.if_icmp .ge 24, 3) := by decide +kernel
theorem dX8_copyFrom_64 : decode cX8_copyFrom 64 = .ok (.aload_n 0, 1) := by decide +kernel
theorem dX8_copyFrom_65 : decode cX8_copyFrom 65 = .ok (.getfield 25, 3) := by decide +kernel
theorem dX8_copyFrom_68 : decode cX8_copyFrom 68 = .ok (.iload_n 2, 1) := by decide +kernel
theorem dX8_copyFrom_69 : decode cX8_copyFrom 69 = .ok (.aaload, 1) := by decide +kernel
theorem dX8_copyFrom_70 : decode cX8_copyFrom 70 = .ok (.aload_n 1, 1) := by decide +kernel
theorem dX8_copyFrom_71 : decode cX8_copyFrom 71 = .ok (.getfield 25, 3) := by decide +kernel
theorem dX8_copyFrom_74 : decode cX8_copyFrom 74 = .ok (.iload_n 2, 1) := by decide +kernel
theorem dX8_copyFrom_75 : decode cX8_copyFrom 75 = .ok (.aaload, 1) := by decide +kernel
theorem dX8_copyFrom_76 : decode cX8_copyFrom 76 = .ok (.invokevirtual 58, 3) := by decide +kernel
theorem dX8_copyFrom_79 : decode cX8_copyFrom 79 = .ok (.iinc 2 1, 3) := by decide +kernel
theorem dX8_copyFrom_82 : decode cX8_copyFrom 82 = .ok (.goto (-24), 3) := by decide +kernel
theorem dX8_copyFrom_85 : decode cX8_copyFrom 85 = .ok (.aload_n 0, 1) := by decide +kernel
theorem dX8_copyFrom_86 : decode cX8_copyFrom 86 = .ok (.aload_n 1, 1) := by decide +kernel
theorem dX8_copyFrom_87 : decode cX8_copyFrom 87 = .ok (.getfield 29, 3) := by decide +kernel
theorem dX8_copyFrom_90 : decode cX8_copyFrom 90 = .ok (.putfield 29, 3) := by decide +kernel
theorem dX8_copyFrom_93 : decode cX8_copyFrom 93 = .ok (.aload_n 0, 1) := by decide +kernel
theorem dX8_copyFrom_94 : decode cX8_copyFrom 94 = .ok (.aload_n 1, 1) := by decide +kernel
theorem dX8_copyFrom_95 : decode cX8_copyFrom 95 = .ok (.getfield 33, 3) := by decide +kernel
theorem dX8_copyFrom_98 : decode cX8_copyFrom 98 = .ok (.putfield 33, 3) := by decide +kernel
theorem dX8_copyFrom_101 : decode cX8_copyFrom 101 = .ok (.aload_n 0, 1) := by decide +kernel
theorem dX8_copyFrom_102 : decode cX8_copyFrom 102 = .ok (.aload_n 1, 1) := by decide +kernel
theorem dX8_copyFrom_103 : decode cX8_copyFrom 103 = .ok (.getfield 36, 3) := by decide +kernel
theorem dX8_copyFrom_106 : decode cX8_copyFrom 106 = .ok (.putfield 36, 3) := by decide +kernel
theorem dX8_copyFrom_109 : decode cX8_copyFrom 109 = .ok (.aload_n 0, 1) := by decide +kernel
theorem dX8_copyFrom_110 : decode cX8_copyFrom 110 = .ok (.aload_n 1, 1) := by decide +kernel
theorem dX8_copyFrom_111 : decode cX8_copyFrom 111 = .ok (.getfield 39, 3) := by decide +kernel
theorem dX8_copyFrom_114 : decode cX8_copyFrom 114 = .ok (.putfield 39, 3) := by decide +kernel
theorem dX8_copyFrom_117 : decode cX8_copyFrom 117 = .ok (.aload_n 0, 1) := by decide +kernel
theorem dX8_copyFrom_118 : decode cX8_copyFrom 118 = .ok (.aload_n 1, 1) := by decide +kernel
theorem dX8_copyFrom_119 : decode cX8_copyFrom 119 = .ok (.getfield 42, 3) := by decide +kernel
theorem dX8_copyFrom_122 : decode cX8_copyFrom 122 = .ok (.putfield 42, 3) := by decide +kernel
theorem dX8_copyFrom_125 : decode cX8_copyFrom 125 = .ok (.aload_n 0, 1) := by decide +kernel
theorem dX8_copyFrom_126 : decode cX8_copyFrom 126 = .ok (.aload_n 1, 1) := by decide +kernel
theorem dX8_copyFrom_127 : decode cX8_copyFrom 127 = .ok (.getfield 45, 3) := by decide +kernel
theorem dX8_copyFrom_130 : decode cX8_copyFrom 130 = .ok (.putfield 45, 3) := by decide +kernel
theorem dX8_copyFrom_133 : decode cX8_copyFrom 133 = .ok (.return_, 1) := by decide +kernel
theorem dX8_netNumbered_0 : decode cX8_netNumbered 0 = .ok (.aload_n 0, 1) := by decide +kernel
theorem dX8_netNumbered_1 : decode cX8_netNumbered 1 = .ok (.getfield 11, 3) := by decide +kernel
theorem dX8_netNumbered_4 : decode cX8_netNumbered 4 = .ok (.iload_n 1, 1) := by decide +kernel
theorem dX8_netNumbered_5 : decode cX8_netNumbered 5 = .ok (.invokestatic 61, 3) := by decide +kernel
theorem dX8_netNumbered_8 : decode cX8_netNumbered 8 = .ok (.ifCond .eq 7, 3) := by decide +kernel
theorem dX8_netNumbered_11 : decode cX8_netNumbered 11 = .ok (.iload_n 1, 1) := by decide +kernel
theorem dX8_netNumbered_12 : decode cX8_netNumbered 12 = .ok (.goto 4, 3) := by decide +kernel
theorem dX8_netNumbered_15 : decode cX8_netNumbered 15 = .ok (.iconst 0, 1) := by decide +kernel
theorem dX8_netNumbered_16 : decode cX8_netNumbered 16 = .ok (.aaload, 1) := by decide +kernel
theorem dX8_netNumbered_17 : decode cX8_netNumbered 17 = .ok (.areturn, 1) := by decide +kernel
theorem dX8_editorNumbered_0 : decode cX8_editorNumbered 0 = .ok (.aload_n 0, 1) := by decide +kernel
theorem dX8_editorNumbered_1 : decode cX8_editorNumbered 1 = .ok (.getfield 19, 3) := by decide +kernel
theorem dX8_editorNumbered_4 : decode cX8_editorNumbered 4 = .ok (.iload_n 1, 1) := by decide +kernel
theorem dX8_editorNumbered_5 : decode cX8_editorNumbered 5 = .ok (.ifCond .lt 12, 3) := by decide +kernel
theorem dX8_editorNumbered_8 : decode cX8_editorNumbered 8 = .ok (.iload_n 1, 1) := by decide +kernel
theorem dX8_editorNumbered_9 : decode cX8_editorNumbered 9 = .ok (.iconst 4, 1) := by decide +kernel
theorem dX8_editorNumbered_10 : decode cX8_editorNumbered 10 = .ok (.if_icmp .ge 7, 3) := by decide +kernel
theorem dX8_editorNumbered_13 : decode cX8_editorNumbered 13 = .ok (.iload_n 1, 1) := by decide +kernel
theorem dX8_editorNumbered_14 : decode cX8_editorNumbered 14 = .ok (.goto 4, 3) := by decide +kernel
theorem dX8_editorNumbered_17 : decode cX8_editorNumbered 17 = .ok (.iconst 0, 1) := by decide +kernel
theorem dX8_editorNumbered_18 : decode cX8_editorNumbered 18 = .ok (.aaload, 1) := by decide +kernel
theorem dX8_editorNumbered_19 : decode cX8_editorNumbered 19 = .ok (.areturn, 1) := by decide +kernel
theorem dX8_noteNumbered_0 : decode cX8_noteNumbered 0 = .ok (.aload_n 0, 1) := by decide +kernel
theorem dX8_noteNumbered_1 : decode cX8_noteNumbered 1 = .ok (.getfield 25, 3) := by decide +kernel
theorem dX8_noteNumbered_4 : decode cX8_noteNumbered 4 = .ok (.iload_n 1, 1) := by decide +kernel
theorem dX8_noteNumbered_5 : decode cX8_noteNumbered 5 = .ok (.ifCond .lt 13, 3) := by decide +kernel
theorem dX8_noteNumbered_8 : decode cX8_noteNumbered 8 = .ok (.iload_n 1, 1) := by decide +kernel
theorem dX8_noteNumbered_9 : decode cX8_noteNumbered 9 = .ok (.bipush 6, 2) := by decide +kernel
theorem dX8_noteNumbered_11 : decode cX8_noteNumbered 11 = .ok (.if_icmp .ge 7, 3) := by decide +kernel
theorem dX8_noteNumbered_14 : decode cX8_noteNumbered 14 = .ok (.iload_n 1, 1) := by decide +kernel
theorem dX8_noteNumbered_15 : decode cX8_noteNumbered 15 = .ok (.goto 4, 3) := by decide +kernel
theorem dX8_noteNumbered_18 : decode cX8_noteNumbered 18 = .ok (.iconst 0, 1) := by decide +kernel
theorem dX8_noteNumbered_19 : decode cX8_noteNumbered 19 = .ok (.aaload, 1) := by decide +kernel
theorem dX8_noteNumbered_20 : decode cX8_noteNumbered 20 = .ok (.areturn, 1) := by decide +kernel
theorem dX8_hasEditor_0 : decode cX8_hasEditor 0 = .ok (.iload_n 1, 1) := by decide +kernel
theorem dX8_hasEditor_1 : decode cX8_hasEditor 1 = .ok (.ifCond .lt 15, 3) := by decide +kernel
theorem dX8_hasEditor_4 : decode cX8_hasEditor 4 = .ok (.iload_n 1, 1) := by decide +kernel
theorem dX8_hasEditor_5 : decode cX8_hasEditor 5 = .ok (.aload_n 0, 1) := by decide +kernel
theorem dX8_hasEditor_6 : decode cX8_hasEditor 6 = .ok (.getfield 29, 3) := by decide +kernel
theorem dX8_hasEditor_9 : decode cX8_hasEditor 9 = .ok (.if_icmp .ge 7, 3) := by decide +kernel
theorem dX8_hasEditor_12 : decode cX8_hasEditor 12 = .ok (.iconst 1, 1) := by decide +kernel
theorem dX8_hasEditor_13 : decode cX8_hasEditor 13 = .ok (.goto 4, 3) := by decide +kernel
theorem dX8_hasEditor_16 : decode cX8_hasEditor 16 = .ok (.iconst 0, 1) := by decide +kernel
theorem dX8_hasEditor_17 : decode cX8_hasEditor 17 = .ok (.ireturn, 1) := by decide +kernel
theorem dX8_hasNote_0 : decode cX8_hasNote 0 = .ok (.iload_n 1, 1) := by decide +kernel
theorem dX8_hasNote_1 : decode cX8_hasNote 1 = .ok (.ifCond .lt 15, 3) := by decide +kernel
theorem dX8_hasNote_4 : decode cX8_hasNote 4 = .ok (.iload_n 1, 1) := by decide +kernel
theorem dX8_hasNote_5 : decode cX8_hasNote 5 = .ok (.aload_n 0, 1) := by decide +kernel
theorem dX8_hasNote_6 : decode cX8_hasNote 6 = .ok (.getfield 33, 3) := by decide +kernel
theorem dX8_hasNote_9 : decode cX8_hasNote 9 = .ok (.if_icmp .ge 7, 3) := by decide +kernel
theorem dX8_hasNote_12 : decode cX8_hasNote 12 = .ok (.iconst 1, 1) := by decide +kernel
theorem dX8_hasNote_13 : decode cX8_hasNote 13 = .ok (.goto 4, 3) := by decide +kernel
theorem dX8_hasNote_16 : decode cX8_hasNote 16 = .ok (.iconst 0, 1) := by decide +kernel
theorem dX8_hasNote_17 : decode cX8_hasNote 17 = .ok (.ireturn, 1) := by decide +kernel
theorem dX8_tearString_0 : decode cX8_tearString 0 = .ok (.aload_n 0, 1) := by decide +kernel
theorem dX8_tearString_1 : decode cX8_tearString 1 = .ok (.iload_n 1, 1) := by decide +kernel
theorem dX8_tearString_2 : decode cX8_tearString 2 = .ok (.invokevirtual 65, 3) := by decide +kernel
theorem dX8_tearString_5 : decode cX8_tearString 5 = .ok (.iload_n 2, 1) := by decide +kernel
theorem dX8_tearString_6 : decode cX8_tearString 6 = .ok (.iload_n 3, 1) := by decide +kernel
theorem dX8_tearString_7 : decode cX8_tearString 7 = .ok (.iconst 1, 1) := by decide +kernel
theorem dX8_tearString_8 : decode cX8_tearString 8 = .ok (.invokevirtual 69, 3) := by decide +kernel
theorem dX8_tearString_11 : decode cX8_tearString 11 = .ok (.aload_n 0, 1) := by decide +kernel
theorem dX8_tearString_12 : decode cX8_tearString 12 = .ok (.dup, 1) := by decide +kernel
theorem dX8_tearString_13 : decode cX8_tearString 13 = .ok (.getfield 39, 3) := by decide +kernel
theorem dX8_tearString_16 : decode cX8_tearString 16 = .ok (.iconst 1, 1) := by decide +kernel
theorem dX8_tearString_17 : decode cX8_tearString 17 = .ok (.iadd, 1) := by decide +kernel
theorem dX8_tearString_18 : decode cX8_tearString 18 = .ok (.putfield 39, 3) := by decide +kernel
theorem dX8_tearString_21 : decode cX8_tearString 21 = .ok (.return_, 1) := by decide +kernel
theorem dX8_mendString_0 : decode cX8_mendString 0 = .ok (.iload_n 2, 1) := by decide +kernel
theorem dX8_mendString_1 : decode cX8_mendString 1 = .ok (.iload_n 3, 1) := by decide +kernel
theorem dX8_mendString_2 : decode cX8_mendString 2 = .ok (.invokestatic 73, 3) := by decide +kernel
theorem dX8_mendString_5 : decode cX8_mendString 5 = .ok (.istore 5, 2) := by decide +kernel
theorem dX8_mendString_7 : decode cX8_mendString 7 = .ok (.aload_n 0, 1) := by decide +kernel
theorem dX8_mendString_8 : decode cX8_mendString 8 = .ok (.iload_n 1, 1) := by decide +kernel
theorem dX8_mendString_9 : decode cX8_mendString 9 = .ok (.invokevirtual 65, 3) := by decide +kernel
theorem dX8_mendString_12 : decode cX8_mendString 12 = .ok (.iload_n 2, 1) := by decide +kernel
theorem dX8_mendString_13 : decode cX8_mendString 13 = .ok (.iload_n 3, 1) := by decide +kernel
theorem dX8_mendString_14 : decode cX8_mendString 14 = .ok (.iconst 0, 1) := by decide +kernel
theorem dX8_mendString_15 : decode cX8_mendString 15 = .ok (.invokevirtual 69, 3) := by decide +kernel
theorem dX8_mendString_18 : decode cX8_mendString 18 = .ok (.aload_n 0, 1) := by decide +kernel
theorem dX8_mendString_19 : decode cX8_mendString 19 = .ok (.iload 4, 2) := by decide +kernel
theorem dX8_mendString_21 : decode cX8_mendString 21 = .ok (.invokevirtual 77, 3) := by decide +kernel
theorem dX8_mendString_24 : decode cX8_mendString 24 = .ok (.dup, 1) := by decide +kernel
theorem dX8_mendString_25 : decode cX8_mendString 25 = .ok (.getfield 81, 3) := by decide +kernel
theorem dX8_mendString_28 : decode cX8_mendString 28 = .ok (.iload 5, 2) := by decide +kernel
theorem dX8_mendString_30 : decode cX8_mendString 30 = .ok (.isub, 1) := by decide +kernel
theorem dX8_mendString_31 : decode cX8_mendString 31 = .ok (.putfield 81, 3) := by decide +kernel
theorem dX8_mendString_34 : decode cX8_mendString 34 = .ok (.aload_n 0, 1) := by decide +kernel
theorem dX8_mendString_35 : decode cX8_mendString 35 = .ok (.iload 4, 2) := by decide +kernel
theorem dX8_mendString_37 : decode cX8_mendString 37 = .ok (.invokevirtual 77, 3) := by decide +kernel
theorem dX8_mendString_40 : decode cX8_mendString 40 = .ok (.dup, 1) := by decide +kernel
theorem dX8_mendString_41 : decode cX8_mendString 41 = .ok (.getfield 84, 3) := by decide +kernel
theorem dX8_mendString_44 : decode cX8_mendString 44 = .ok (.iconst 1, 1) := by decide +kernel
theorem dX8_mendString_45 : decode cX8_mendString 45 = .ok (.iadd, 1) := by decide +kernel
theorem dX8_mendString_46 : decode cX8_mendString 46 = .ok (.putfield 84, 3) := by decide +kernel
theorem dX8_mendString_49 : decode cX8_mendString 49 = .ok (.aload_n 0, 1) := by decide +kernel
theorem dX8_mendString_50 : decode cX8_mendString 50 = .ok (.dup, 1) := by decide +kernel
theorem dX8_mendString_51 : decode cX8_mendString 51 = .ok (.getfield 42, 3) := by decide +kernel
theorem dX8_mendString_54 : decode cX8_mendString 54 = .ok (.iconst 1, 1) := by decide +kernel
theorem dX8_mendString_55 : decode cX8_mendString 55 = .ok (.iadd, 1) := by decide +kernel
theorem dX8_mendString_56 : decode cX8_mendString 56 = .ok (.putfield 42, 3) := by decide +kernel
theorem dX8_mendString_59 : decode cX8_mendString 59 = .ok (.aload_n 0, 1) := by decide +kernel
theorem dX8_mendString_60 : decode cX8_mendString 60 = .ok (.dup, 1) := by decide +kernel
theorem dX8_mendString_61 : decode cX8_mendString 61 = .ok (.getfield 45, 3) := by decide +kernel
theorem dX8_mendString_64 : decode cX8_mendString 64 = .ok (.iload 5, 2) := by decide +kernel
theorem dX8_mendString_66 : decode cX8_mendString 66 = .ok (.iadd, 1) := by decide +kernel
theorem dX8_mendString_67 : decode cX8_mendString 67 = .ok (.putfield 45, 3) := by decide +kernel
theorem dX8_mendString_70 : decode cX8_mendString 70 = .ok (.return_, 1) := by decide +kernel
theorem dX8_addEditor_0 : decode cX8_addEditor 0 = .ok (.aload_n 0, 1) := by decide +kernel
theorem dX8_addEditor_1 : decode cX8_addEditor 1 = .ok (.aload_n 0, 1) := by decide +kernel
theorem dX8_addEditor_2 : decode cX8_addEditor 2 = .ok (.getfield 29, 3) := by decide +kernel
theorem dX8_addEditor_5 : decode cX8_addEditor 5 = .ok (.invokevirtual 77, 3) := by decide +kernel
theorem dX8_addEditor_8 : decode cX8_addEditor 8 = .ok (.iload_n 1, 1) := by decide +kernel
theorem dX8_addEditor_9 : decode cX8_addEditor 9 = .ok (.putfield 81, 3) := by decide +kernel
theorem dX8_addEditor_12 : decode cX8_addEditor 12 = .ok (.aload_n 0, 1) := by decide +kernel
theorem dX8_addEditor_13 : decode cX8_addEditor 13 = .ok (.aload_n 0, 1) := by decide +kernel
theorem dX8_addEditor_14 : decode cX8_addEditor 14 = .ok (.getfield 29, 3) := by decide +kernel
theorem dX8_addEditor_17 : decode cX8_addEditor 17 = .ok (.invokevirtual 77, 3) := by decide +kernel
theorem dX8_addEditor_20 : decode cX8_addEditor 20 = .ok (.iconst 0, 1) := by decide +kernel
theorem dX8_addEditor_21 : decode cX8_addEditor 21 = .ok (.putfield 84, 3) := by decide +kernel
theorem dX8_addEditor_24 : decode cX8_addEditor 24 = .ok (.aload_n 0, 1) := by decide +kernel
theorem dX8_addEditor_25 : decode cX8_addEditor 25 = .ok (.dup, 1) := by decide +kernel
theorem dX8_addEditor_26 : decode cX8_addEditor 26 = .ok (.getfield 29, 3) := by decide +kernel
theorem dX8_addEditor_29 : decode cX8_addEditor 29 = .ok (.iconst 1, 1) := by decide +kernel
theorem dX8_addEditor_30 : decode cX8_addEditor 30 = .ok (.iadd, 1) := by decide +kernel
theorem dX8_addEditor_31 : decode cX8_addEditor 31 = .ok (.putfield 29, 3) := by decide +kernel
theorem dX8_addEditor_34 : decode cX8_addEditor 34 = .ok (.return_, 1) := by decide +kernel
theorem dX8_addNote_0 : decode cX8_addNote 0 = .ok (.aload_n 0, 1) := by decide +kernel
theorem dX8_addNote_1 : decode cX8_addNote 1 = .ok (.iload_n 1, 1) := by decide +kernel
theorem dX8_addNote_2 : decode cX8_addNote 2 = .ok (.invokevirtual 65, 3) := by decide +kernel
theorem dX8_addNote_5 : decode cX8_addNote 5 = .ok (.astore_n 3, 1) := by decide +kernel
theorem dX8_addNote_6 : decode cX8_addNote 6 = .ok (.aload_n 3, 1) := by decide +kernel
theorem dX8_addNote_7 : decode cX8_addNote 7 = .ok (.iload_n 2, 1) := by decide +kernel
theorem dX8_addNote_8 : decode cX8_addNote 8 = .ok (.invokevirtual 87, 3) := by decide +kernel
theorem dX8_addNote_11 : decode cX8_addNote 11 = .ok (.istore 4, 2) := by decide +kernel
theorem dX8_addNote_13 : decode cX8_addNote 13 = .ok (.aload_n 0, 1) := by decide +kernel
theorem dX8_addNote_14 : decode cX8_addNote 14 = .ok (.aload_n 0, 1) := by decide +kernel
theorem dX8_addNote_15 : decode cX8_addNote 15 = .ok (.getfield 33, 3) := by decide +kernel
theorem dX8_addNote_18 : decode cX8_addNote 18 = .ok (.invokevirtual 91, 3) := by decide +kernel
theorem dX8_addNote_21 : decode cX8_addNote 21 = .ok (.astore 5, 2) := by decide +kernel
theorem dX8_addNote_23 : decode cX8_addNote 23 = .ok (.aload 5, 2) := by decide +kernel
theorem dX8_addNote_25 : decode cX8_addNote 25 = .ok (.iload_n 1, 1) := by decide +kernel
theorem dX8_addNote_26 : decode cX8_addNote 26 = .ok (.putfield 95, 3) := by decide +kernel
theorem dX8_addNote_29 : decode cX8_addNote 29 = .ok (.aload 5, 2) := by decide +kernel
theorem dX8_addNote_31 : decode cX8_addNote 31 = .ok (.aload_n 3, 1) := by decide +kernel
theorem dX8_addNote_32 : decode cX8_addNote 32 = .ok (.getfield 98, 3) := by decide +kernel
theorem dX8_addNote_35 : decode cX8_addNote 35 = .ok (.iload 4, 2) := by decide +kernel
theorem dX8_addNote_37 : decode cX8_addNote 37 = .ok (.iand, 1) := by decide +kernel
theorem dX8_addNote_38 : decode cX8_addNote 38 = .ok (.putfield 101, 3) := by decide +kernel
theorem dX8_addNote_41 : decode cX8_addNote 41 = .ok (.aload 5, 2) := by decide +kernel
theorem dX8_addNote_43 : decode cX8_addNote 43 = .ok (.aload_n 3, 1) := by decide +kernel
theorem dX8_addNote_44 : decode cX8_addNote 44 = .ok (.getfield 102, 3) := by decide +kernel
theorem dX8_addNote_47 : decode cX8_addNote 47 = .ok (.iload 4, 2) := by decide +kernel
theorem dX8_addNote_49 : decode cX8_addNote 49 = .ok (.iand, 1) := by decide +kernel
theorem dX8_addNote_50 : decode cX8_addNote 50 = .ok (.putfield 105, 3) := by decide +kernel
theorem dX8_addNote_53 : decode cX8_addNote 53 = .ok (.aload_n 0, 1) := by decide +kernel
theorem dX8_addNote_54 : decode cX8_addNote 54 = .ok (.dup, 1) := by decide +kernel
theorem dX8_addNote_55 : decode cX8_addNote 55 = .ok (.getfield 33, 3) := by decide +kernel
theorem dX8_addNote_58 : decode cX8_addNote 58 = .ok (.iconst 1, 1) := by decide +kernel
theorem dX8_addNote_59 : decode cX8_addNote 59 = .ok (.iadd, 1) := by decide +kernel
theorem dX8_addNote_60 : decode cX8_addNote 60 = .ok (.putfield 33, 3) := by decide +kernel
theorem dX8_addNote_63 : decode cX8_addNote 63 = .ok (.return_, 1) := by decide +kernel
theorem dX8_removeNote_0 : decode cX8_removeNote 0 = .ok (.iload_n 1, 1) := by decide +kernel
theorem dX8_removeNote_1 : decode cX8_removeNote 1 = .ok (.istore_n 2, 1) := by decide +kernel
theorem dX8_removeNote_2 : decode cX8_removeNote 2 = .ok (.iload_n 2, 1) := by decide +kernel
theorem dX8_removeNote_3 : decode cX8_removeNote 3 = .ok (.aload_n 0, 1) := by decide +kernel
theorem dX8_removeNote_4 : decode cX8_removeNote 4 = .ok (.getfield 33, 3) := by decide +kernel
theorem dX8_removeNote_7 : decode cX8_removeNote 7 = .ok (.iconst 1, 1) := by decide +kernel
theorem dX8_removeNote_8 : decode cX8_removeNote 8 = .ok (.isub, 1) := by decide +kernel
theorem dX8_removeNote_9 : decode cX8_removeNote 9 = .ok (.if_icmp .ge 24, 3) := by decide +kernel
theorem dX8_removeNote_12 : decode cX8_removeNote 12 = .ok (.aload_n 0, 1) := by decide +kernel
theorem dX8_removeNote_13 : decode cX8_removeNote 13 = .ok (.iload_n 2, 1) := by decide +kernel
theorem dX8_removeNote_14 : decode cX8_removeNote 14 = .ok (.invokevirtual 91, 3) := by decide +kernel
theorem dX8_removeNote_17 : decode cX8_removeNote 17 = .ok (.aload_n 0, 1) := by decide +kernel
theorem dX8_removeNote_18 : decode cX8_removeNote 18 = .ok (.iload_n 2, 1) := by decide +kernel
theorem dX8_removeNote_19 : decode cX8_removeNote 19 = .ok (.iconst 1, 1) := by decide +kernel
theorem dX8_removeNote_20 : decode cX8_removeNote 20 = .ok (.iadd, 1) := by decide +kernel
theorem dX8_removeNote_21 : decode cX8_removeNote 21 = .ok (.invokevirtual 91, 3) := by decide +kernel
theorem dX8_removeNote_24 : decode cX8_removeNote 24 = .ok (.invokevirtual 58, 3) := by decide +kernel
theorem dX8_removeNote_27 : decode cX8_removeNote 27 = .ok (.iinc 2 1, 3) := by decide +kernel
theorem dX8_removeNote_30 : decode cX8_removeNote 30 = .ok (.goto (-28), 3) := by decide +kernel
theorem dX8_removeNote_33 : decode cX8_removeNote 33 = .ok (.aload_n 0, 1) := by decide +kernel
theorem dX8_removeNote_34 : decode cX8_removeNote 34 = .ok (.dup, 1) := by decide +kernel
theorem dX8_removeNote_35 : decode cX8_removeNote 35 = .ok (.getfield 33, 3) := by decide +kernel
theorem dX8_removeNote_38 : decode cX8_removeNote 38 = .ok (.iconst 1, 1) := by decide +kernel
theorem dX8_removeNote_39 : decode cX8_removeNote 39 = .ok (.isub, 1) := by decide +kernel
theorem dX8_removeNote_40 : decode cX8_removeNote 40 = .ok (.putfield 33, 3) := by decide +kernel
theorem dX8_removeNote_43 : decode cX8_removeNote 43 = .ok (.return_, 1) := by decide +kernel
theorem dX8_lowestNoteOf_0 : decode cX8_lowestNoteOf 0 = .ok (.iconst 0, 1) := by decide +kernel
theorem dX8_lowestNoteOf_1 : decode cX8_lowestNoteOf 1 = .ok (.istore_n 3, 1) := by decide +kernel
theorem dX8_lowestNoteOf_2 : decode cX8_lowestNoteOf 2 = .ok (.iload_n 3, 1) := by decide +kernel
theorem dX8_lowestNoteOf_3 : decode cX8_lowestNoteOf 3 = .ok (.aload_n 0, 1) := by decide +kernel
theorem dX8_lowestNoteOf_4 : decode cX8_lowestNoteOf 4 = .ok (.getfield 33, 3) := by decide +kernel
theorem dX8_lowestNoteOf_7 : decode cX8_lowestNoteOf 7 = .ok (.if_icmp .ge 41, 3) := by decide +kernel
theorem dX8_lowestNoteOf_10 : decode cX8_lowestNoteOf 10 = .ok (.aload_n 0, 1) := by decide +kernel
theorem dX8_lowestNoteOf_11 : decode cX8_lowestNoteOf 11 = .ok (.iload_n 3, 1) := by decide +kernel
theorem dX8_lowestNoteOf_12 : decode cX8_lowestNoteOf 12 = .ok (.invokevirtual 91, 3) := by decide +kernel
theorem dX8_lowestNoteOf_15 : decode cX8_lowestNoteOf 15 = .ok (.astore 4, 2) := by decide +kernel
theorem dX8_lowestNoteOf_17 : decode cX8_lowestNoteOf 17 = .ok (.aload 4, 2) := by decide +kernel
theorem dX8_lowestNoteOf_19 : decode cX8_lowestNoteOf 19 = .ok (.getfield 95, 3) := by decide +kernel
theorem dX8_lowestNoteOf_22 : decode cX8_lowestNoteOf 22 = .ok (.iload_n 1, 1) := by decide +kernel
theorem dX8_lowestNoteOf_23 : decode cX8_lowestNoteOf 23 = .ok (.if_icmp .ne 19, 3) := by decide +kernel
theorem dX8_lowestNoteOf_26 : decode cX8_lowestNoteOf 26 = .ok (.aload 4, 2) := by decide +kernel
theorem dX8_lowestNoteOf_28 : decode cX8_lowestNoteOf 28 = .ok (.aload_n 0, 1) := by decide +kernel
theorem dX8_lowestNoteOf_29 : decode cX8_lowestNoteOf 29 = .ok (.iload_n 1, 1) := by decide +kernel
theorem dX8_lowestNoteOf_30 : decode cX8_lowestNoteOf 30 = .ok (.invokevirtual 65, 3) := by decide +kernel
theorem dX8_lowestNoteOf_33 : decode cX8_lowestNoteOf 33 = .ok (.iload_n 2, 1) := by decide +kernel
theorem dX8_lowestNoteOf_34 : decode cX8_lowestNoteOf 34 = .ok (.invokevirtual 106, 3) := by decide +kernel
theorem dX8_lowestNoteOf_37 : decode cX8_lowestNoteOf 37 = .ok (.ifCond .eq 5, 3) := by decide +kernel
theorem dX8_lowestNoteOf_40 : decode cX8_lowestNoteOf 40 = .ok (.iload_n 3, 1) := by decide +kernel
theorem dX8_lowestNoteOf_41 : decode cX8_lowestNoteOf 41 = .ok (.ireturn, 1) := by decide +kernel
theorem dX8_lowestNoteOf_42 : decode cX8_lowestNoteOf 42 = .ok (.iinc 3 1, 3) := by decide +kernel
theorem dX8_lowestNoteOf_45 : decode cX8_lowestNoteOf 45 = .ok (.goto (-43), 3) := by decide +kernel
theorem dX8_lowestNoteOf_48 : decode cX8_lowestNoteOf 48 = .ok (.iconst (-1), 1) := by decide +kernel
theorem dX8_lowestNoteOf_49 : decode cX8_lowestNoteOf 49 = .ok (.ireturn, 1) := by decide +kernel
theorem dX8_readsAsNoted_0 : decode cX8_readsAsNoted 0 = .ok (.aload_n 0, 1) := by decide +kernel
theorem dX8_readsAsNoted_1 : decode cX8_readsAsNoted 1 = .ok (.aload_n 1, 1) := by decide +kernel
theorem dX8_readsAsNoted_2 : decode cX8_readsAsNoted 2 = .ok (.getfield 95, 3) := by decide +kernel
theorem dX8_readsAsNoted_5 : decode cX8_readsAsNoted 5 = .ok (.invokevirtual 65, 3) := by decide +kernel
theorem dX8_readsAsNoted_8 : decode cX8_readsAsNoted 8 = .ok (.astore_n 2, 1) := by decide +kernel
theorem dX8_readsAsNoted_9 : decode cX8_readsAsNoted 9 = .ok (.aload_n 1, 1) := by decide +kernel
theorem dX8_readsAsNoted_10 : decode cX8_readsAsNoted 10 = .ok (.aload_n 2, 1) := by decide +kernel
theorem dX8_readsAsNoted_11 : decode cX8_readsAsNoted 11 = .ok (.aload_n 2, 1) := by decide +kernel
theorem dX8_readsAsNoted_12 : decode cX8_readsAsNoted 12 = .ok (.aload_n 1, 1) := by decide +kernel
theorem dX8_readsAsNoted_13 : decode cX8_readsAsNoted 13 = .ok (.invokevirtual 110, 3) := by decide +kernel
theorem dX8_readsAsNoted_16 : decode cX8_readsAsNoted 16 = .ok (.invokestatic 114, 3) := by decide +kernel
theorem dX8_readsAsNoted_19 : decode cX8_readsAsNoted 19 = .ok (.invokevirtual 87, 3) := by decide +kernel
theorem dX8_readsAsNoted_22 : decode cX8_readsAsNoted 22 = .ok (.invokevirtual 106, 3) := by decide +kernel
theorem dX8_readsAsNoted_25 : decode cX8_readsAsNoted 25 = .ok (.ireturn, 1) := by decide +kernel
theorem dX8_canBeMended_0 : decode cX8_canBeMended 0 = .ok (.aload_n 0, 1) := by decide +kernel
theorem dX8_canBeMended_1 : decode cX8_canBeMended 1 = .ok (.aload_n 1, 1) := by decide +kernel
theorem dX8_canBeMended_2 : decode cX8_canBeMended 2 = .ok (.getfield 95, 3) := by decide +kernel
theorem dX8_canBeMended_5 : decode cX8_canBeMended 5 = .ok (.invokevirtual 65, 3) := by decide +kernel
theorem dX8_canBeMended_8 : decode cX8_canBeMended 8 = .ok (.astore_n 2, 1) := by decide +kernel
theorem dX8_canBeMended_9 : decode cX8_canBeMended 9 = .ok (.aload_n 1, 1) := by decide +kernel
theorem dX8_canBeMended_10 : decode cX8_canBeMended 10 = .ok (.aload_n 2, 1) := by decide +kernel
theorem dX8_canBeMended_11 : decode cX8_canBeMended 11 = .ok (.aload_n 1, 1) := by decide +kernel
theorem dX8_canBeMended_12 : decode cX8_canBeMended 12 = .ok (.invokevirtual 110, 3) := by decide +kernel
theorem dX8_canBeMended_15 : decode cX8_canBeMended 15 = .ok (.invokevirtual 106, 3) := by decide +kernel
theorem dX8_canBeMended_18 : decode cX8_canBeMended 18 = .ok (.ifCond .eq 18, 3) := by decide +kernel
theorem dX8_canBeMended_21 : decode cX8_canBeMended 21 = .ok (.aload_n 2, 1) := by decide +kernel
theorem dX8_canBeMended_22 : decode cX8_canBeMended 22 = .ok (.aload_n 1, 1) := by decide +kernel
theorem dX8_canBeMended_23 : decode cX8_canBeMended 23 = .ok (.invokevirtual 110, 3) := by decide +kernel
theorem dX8_canBeMended_26 : decode cX8_canBeMended 26 = .ok (.invokevirtual 117, 3) := by decide +kernel
theorem dX8_canBeMended_29 : decode cX8_canBeMended 29 = .ok (.ifCond .ne 7, 3) := by decide +kernel
theorem dX8_canBeMended_32 : decode cX8_canBeMended 32 = .ok (.iconst 1, 1) := by decide +kernel
theorem dX8_canBeMended_33 : decode cX8_canBeMended 33 = .ok (.goto 4, 3) := by decide +kernel
theorem dX8_canBeMended_36 : decode cX8_canBeMended 36 = .ok (.iconst 0, 1) := by decide +kernel
theorem dX8_canBeMended_37 : decode cX8_canBeMended 37 = .ok (.ireturn, 1) := by decide +kernel
theorem dX8_leastByStrings_0 : decode cX8_leastByStrings 0 = .ok (.aload_n 0, 1) := by decide +kernel
theorem dX8_leastByStrings_1 : decode cX8_leastByStrings 1 = .ok (.aload_n 1, 1) := by decide +kernel
theorem dX8_leastByStrings_2 : decode cX8_leastByStrings 2 = .ok (.getfield 95, 3) := by decide +kernel
theorem dX8_leastByStrings_5 : decode cX8_leastByStrings 5 = .ok (.invokevirtual 65, 3) := by decide +kernel
theorem dX8_leastByStrings_8 : decode cX8_leastByStrings 8 = .ok (.aload_n 1, 1) := by decide +kernel
theorem dX8_leastByStrings_9 : decode cX8_leastByStrings 9 = .ok (.invokevirtual 110, 3) := by decide +kernel
theorem dX8_leastByStrings_12 : decode cX8_leastByStrings 12 = .ok (.aload_n 2, 1) := by decide +kernel
theorem dX8_leastByStrings_13 : decode cX8_leastByStrings 13 = .ok (.invokevirtual 120, 3) := by decide +kernel
theorem dX8_leastByStrings_16 : decode cX8_leastByStrings 16 = .ok (.ireturn, 1) := by decide +kernel
theorem dX8_leastByPlaces_0 : decode cX8_leastByPlaces 0 = .ok (.aload_n 0, 1) := by decide +kernel
theorem dX8_leastByPlaces_1 : decode cX8_leastByPlaces 1 = .ok (.aload_n 1, 1) := by decide +kernel
theorem dX8_leastByPlaces_2 : decode cX8_leastByPlaces 2 = .ok (.getfield 95, 3) := by decide +kernel
theorem dX8_leastByPlaces_5 : decode cX8_leastByPlaces 5 = .ok (.invokevirtual 65, 3) := by decide +kernel
theorem dX8_leastByPlaces_8 : decode cX8_leastByPlaces 8 = .ok (.aload_n 1, 1) := by decide +kernel
theorem dX8_leastByPlaces_9 : decode cX8_leastByPlaces 9 = .ok (.invokevirtual 110, 3) := by decide +kernel
theorem dX8_leastByPlaces_12 : decode cX8_leastByPlaces 12 = .ok (.invokevirtual 124, 3) := by decide +kernel
theorem dX8_leastByPlaces_15 : decode cX8_leastByPlaces 15 = .ok (.ireturn, 1) := by decide +kernel
theorem dX8_linesUnderWater_0 : decode cX8_linesUnderWater 0 = .ok (.aload_n 0, 1) := by decide +kernel
theorem dX8_linesUnderWater_1 : decode cX8_linesUnderWater 1 = .ok (.getfield 36, 3) := by decide +kernel
theorem dX8_linesUnderWater_4 : decode cX8_linesUnderWater 4 = .ok (.aload_n 0, 1) := by decide +kernel
theorem dX8_linesUnderWater_5 : decode cX8_linesUnderWater 5 = .ok (.iload_n 1, 1) := by decide +kernel
theorem dX8_linesUnderWater_6 : decode cX8_linesUnderWater 6 = .ok (.invokevirtual 65, 3) := by decide +kernel
theorem dX8_linesUnderWater_9 : decode cX8_linesUnderWater 9 = .ok (.getfield 127, 3) := by decide +kernel
theorem dX8_linesUnderWater_12 : decode cX8_linesUnderWater 12 = .ok (.iadd, 1) := by decide +kernel
theorem dX8_linesUnderWater_13 : decode cX8_linesUnderWater 13 = .ok (.iconst 4, 1) := by decide +kernel
theorem dX8_linesUnderWater_14 : decode cX8_linesUnderWater 14 = .ok (.invokestatic 130, 3) := by decide +kernel
theorem dX8_linesUnderWater_17 : decode cX8_linesUnderWater 17 = .ok (.ireturn, 1) := by decide +kernel
theorem dX8_dryPlaces_0 : decode cX8_dryPlaces 0 = .ok (.iconst 1, 1) := by decide +kernel
theorem dX8_dryPlaces_1 : decode cX8_dryPlaces 1 = .ok (.iconst 4, 1) := by decide +kernel
theorem dX8_dryPlaces_2 : decode cX8_dryPlaces 2 = .ok (.aload_n 0, 1) := by decide +kernel
theorem dX8_dryPlaces_3 : decode cX8_dryPlaces 3 = .ok (.iload_n 1, 1) := by decide +kernel
theorem dX8_dryPlaces_4 : decode cX8_dryPlaces 4 = .ok (.invokevirtual 135, 3) := by decide +kernel
theorem dX8_dryPlaces_7 : decode cX8_dryPlaces 7 = .ok (.isub, 1) := by decide +kernel
theorem dX8_dryPlaces_8 : decode cX8_dryPlaces 8 = .ok (.bipush 6, 2) := by decide +kernel
theorem dX8_dryPlaces_10 : decode cX8_dryPlaces 10 = .ok (.imul, 1) := by decide +kernel
theorem dX8_dryPlaces_11 : decode cX8_dryPlaces 11 = .ok (.ishl, 1) := by decide +kernel
theorem dX8_dryPlaces_12 : decode cX8_dryPlaces 12 = .ok (.iconst 1, 1) := by decide +kernel
theorem dX8_dryPlaces_13 : decode cX8_dryPlaces 13 = .ok (.isub, 1) := by decide +kernel
theorem dX8_dryPlaces_14 : decode cX8_dryPlaces 14 = .ok (.ireturn, 1) := by decide +kernel
theorem dX8_countKnots_0 : decode cX8_countKnots 0 = .ok (.iconst 0, 1) := by decide +kernel
theorem dX8_countKnots_1 : decode cX8_countKnots 1 = .ok (.istore_n 1, 1) := by decide +kernel
theorem dX8_countKnots_2 : decode cX8_countKnots 2 = .ok (.iconst 0, 1) := by decide +kernel
theorem dX8_countKnots_3 : decode cX8_countKnots 3 = .ok (.istore_n 2, 1) := by decide +kernel
theorem dX8_countKnots_4 : decode cX8_countKnots 4 = .ok (.iload_n 2, 1) := by decide +kernel
theorem dX8_countKnots_5 : decode cX8_countKnots 5 = .ok (.iconst 3, 1) := by decide +kernel
theorem dX8_countKnots_6 : decode cX8_countKnots 6 = .ok (.if_icmp .ge 23, 3) := by decide +kernel
theorem dX8_countKnots_9 : decode cX8_countKnots 9 = .ok (.iload_n 1, 1) := by decide +kernel
theorem dX8_countKnots_10 : decode cX8_countKnots 10 = .ok (.aload_n 0, 1) := by decide +kernel
theorem dX8_countKnots_11 : decode cX8_countKnots 11 = .ok (.iload_n 2, 1) := by decide +kernel
theorem dX8_countKnots_12 : decode cX8_countKnots 12 = .ok (.invokevirtual 65, 3) := by decide +kernel
theorem dX8_countKnots_15 : decode cX8_countKnots 15 = .ok (.invokevirtual 138, 3) := by decide +kernel
theorem dX8_countKnots_18 : decode cX8_countKnots 18 = .ok (.invokestatic 141, 3) := by decide +kernel
theorem dX8_countKnots_21 : decode cX8_countKnots 21 = .ok (.iadd, 1) := by decide +kernel
theorem dX8_countKnots_22 : decode cX8_countKnots 22 = .ok (.istore_n 1, 1) := by decide +kernel
theorem dX8_countKnots_23 : decode cX8_countKnots 23 = .ok (.iinc 2 1, 3) := by decide +kernel
theorem dX8_countKnots_26 : decode cX8_countKnots 26 = .ok (.goto (-22), 3) := by decide +kernel
theorem dX8_countKnots_29 : decode cX8_countKnots 29 = .ok (.iload_n 1, 1) := by decide +kernel
theorem dX8_countKnots_30 : decode cX8_countKnots 30 = .ok (.ireturn, 1) := by decide +kernel
theorem dX8_countReadable_0 : decode cX8_countReadable 0 = .ok (.iconst 0, 1) := by decide +kernel
theorem dX8_countReadable_1 : decode cX8_countReadable 1 = .ok (.istore_n 1, 1) := by decide +kernel
theorem dX8_countReadable_2 : decode cX8_countReadable 2 = .ok (.iconst 0, 1) := by decide +kernel
theorem dX8_countReadable_3 : decode cX8_countReadable 3 = .ok (.istore_n 2, 1) := by decide +kernel
theorem dX8_countReadable_4 : decode cX8_countReadable 4 = .ok (.iload_n 2, 1) := by decide +kernel
theorem dX8_countReadable_5 : decode cX8_countReadable 5 = .ok (.iconst 3, 1) := by decide +kernel
theorem dX8_countReadable_6 : decode cX8_countReadable 6 = .ok (.if_icmp .ge 29, 3) := by decide +kernel
theorem dX8_countReadable_9 : decode cX8_countReadable 9 = .ok (.iload_n 1, 1) := by decide +kernel
theorem dX8_countReadable_10 : decode cX8_countReadable 10 = .ok (.aload_n 0, 1) := by decide +kernel
theorem dX8_countReadable_11 : decode cX8_countReadable 11 = .ok (.iload_n 2, 1) := by decide +kernel
theorem dX8_countReadable_12 : decode cX8_countReadable 12 = .ok (.invokevirtual 65, 3) := by decide +kernel
theorem dX8_countReadable_15 : decode cX8_countReadable 15 = .ok (.invokevirtual 138, 3) := by decide +kernel
theorem dX8_countReadable_18 : decode cX8_countReadable 18 = .ok (.aload_n 0, 1) := by decide +kernel
theorem dX8_countReadable_19 : decode cX8_countReadable 19 = .ok (.iload_n 2, 1) := by decide +kernel
theorem dX8_countReadable_20 : decode cX8_countReadable 20 = .ok (.invokevirtual 146, 3) := by decide +kernel
theorem dX8_countReadable_23 : decode cX8_countReadable 23 = .ok (.iand, 1) := by decide +kernel
theorem dX8_countReadable_24 : decode cX8_countReadable 24 = .ok (.invokestatic 141, 3) := by decide +kernel
theorem dX8_countReadable_27 : decode cX8_countReadable 27 = .ok (.iadd, 1) := by decide +kernel
theorem dX8_countReadable_28 : decode cX8_countReadable 28 = .ok (.istore_n 1, 1) := by decide +kernel
theorem dX8_countReadable_29 : decode cX8_countReadable 29 = .ok (.iinc 2 1, 3) := by decide +kernel
theorem dX8_countReadable_32 : decode cX8_countReadable 32 = .ok (.goto (-28), 3) := by decide +kernel
theorem dX8_countReadable_35 : decode cX8_countReadable 35 = .ok (.iload_n 1, 1) := by decide +kernel
theorem dX8_countReadable_36 : decode cX8_countReadable 36 = .ok (.ireturn, 1) := by decide +kernel
theorem dX8_countAllChapters_0 : decode cX8_countAllChapters 0 = .ok (.iconst 0, 1) := by decide +kernel
theorem dX8_countAllChapters_1 : decode cX8_countAllChapters 1 = .ok (.istore_n 1, 1) := by decide +kernel
theorem dX8_countAllChapters_2 : decode cX8_countAllChapters 2 = .ok (.iconst 0, 1) := by decide +kernel
theorem dX8_countAllChapters_3 : decode cX8_countAllChapters 3 = .ok (.istore_n 2, 1) := by decide +kernel
theorem dX8_countAllChapters_4 : decode cX8_countAllChapters 4 = .ok (.iload_n 2, 1) := by decide +kernel
theorem dX8_countAllChapters_5 : decode cX8_countAllChapters 5 = .ok (.iconst 3, 1) := by decide +kernel
theorem dX8_countAllChapters_6 : decode cX8_countAllChapters 6 = .ok (.if_icmp .ge 20, 3) := by decide +kernel
theorem dX8_countAllChapters_9 : decode cX8_countAllChapters 9 = .ok (.iload_n 1, 1) := by decide +kernel
theorem dX8_countAllChapters_10 : decode cX8_countAllChapters 10 = .ok (.aload_n 0, 1) := by decide +kernel
theorem dX8_countAllChapters_11 : decode cX8_countAllChapters 11 = .ok (.iload_n 2, 1) := by decide +kernel
theorem dX8_countAllChapters_12 : decode cX8_countAllChapters 12 = .ok (.invokevirtual 65, 3) := by decide +kernel
theorem dX8_countAllChapters_15 : decode cX8_countAllChapters 15 = .ok (.invokevirtual 149, 3) := by decide +kernel
theorem dX8_countAllChapters_18 : decode cX8_countAllChapters 18 = .ok (.iadd, 1) := by decide +kernel
theorem dX8_countAllChapters_19 : decode cX8_countAllChapters 19 = .ok (.istore_n 1, 1) := by decide +kernel
theorem dX8_countAllChapters_20 : decode cX8_countAllChapters 20 = .ok (.iinc 2 1, 3) := by decide +kernel
theorem dX8_countAllChapters_23 : decode cX8_countAllChapters 23 = .ok (.goto (-19), 3) := by decide +kernel
theorem dX8_countAllChapters_26 : decode cX8_countAllChapters 26 = .ok (.iload_n 1, 1) := by decide +kernel
theorem dX8_countAllChapters_27 : decode cX8_countAllChapters 27 = .ok (.ireturn, 1) := by decide +kernel
theorem dX8_countTorn_0 : decode cX8_countTorn 0 = .ok (.iconst 0, 1) := by decide +kernel
theorem dX8_countTorn_1 : decode cX8_countTorn 1 = .ok (.istore_n 1, 1) := by decide +kernel
theorem dX8_countTorn_2 : decode cX8_countTorn 2 = .ok (.iconst 0, 1) := by decide +kernel
theorem dX8_countTorn_3 : decode cX8_countTorn 3 = .ok (.istore_n 2, 1) := by decide +kernel
theorem dX8_countTorn_4 : decode cX8_countTorn 4 = .ok (.iload_n 2, 1) := by decide +kernel
theorem dX8_countTorn_5 : decode cX8_countTorn 5 = .ok (.iconst 3, 1) := by decide +kernel
theorem dX8_countTorn_6 : decode cX8_countTorn 6 = .ok (.if_icmp .ge 20, 3) := by decide +kernel
theorem dX8_countTorn_9 : decode cX8_countTorn 9 = .ok (.iload_n 1, 1) := by decide +kernel
theorem dX8_countTorn_10 : decode cX8_countTorn 10 = .ok (.aload_n 0, 1) := by decide +kernel
theorem dX8_countTorn_11 : decode cX8_countTorn 11 = .ok (.iload_n 2, 1) := by decide +kernel
theorem dX8_countTorn_12 : decode cX8_countTorn 12 = .ok (.invokevirtual 65, 3) := by decide +kernel
theorem dX8_countTorn_15 : decode cX8_countTorn 15 = .ok (.invokevirtual 152, 3) := by decide +kernel
theorem dX8_countTorn_18 : decode cX8_countTorn 18 = .ok (.iadd, 1) := by decide +kernel
theorem dX8_countTorn_19 : decode cX8_countTorn 19 = .ok (.istore_n 1, 1) := by decide +kernel
theorem dX8_countTorn_20 : decode cX8_countTorn 20 = .ok (.iinc 2 1, 3) := by decide +kernel
theorem dX8_countTorn_23 : decode cX8_countTorn 23 = .ok (.goto (-19), 3) := by decide +kernel
theorem dX8_countTorn_26 : decode cX8_countTorn 26 = .ok (.iload_n 1, 1) := by decide +kernel
theorem dX8_countTorn_27 : decode cX8_countTorn 27 = .ok (.ireturn, 1) := by decide +kernel
theorem dX8_sumTwine_0 : decode cX8_sumTwine 0 = .ok (.iconst 0, 1) := by decide +kernel
theorem dX8_sumTwine_1 : decode cX8_sumTwine 1 = .ok (.istore_n 1, 1) := by decide +kernel
theorem dX8_sumTwine_2 : decode cX8_sumTwine 2 = .ok (.iconst 0, 1) := by decide +kernel
theorem dX8_sumTwine_3 : decode cX8_sumTwine 3 = .ok (.istore_n 2, 1) := by decide +kernel
theorem dX8_sumTwine_4 : decode cX8_sumTwine 4 = .ok (.iload_n 2, 1) := by decide +kernel
theorem dX8_sumTwine_5 : decode cX8_sumTwine 5 = .ok (.aload_n 0, 1) := by decide +kernel
theorem dX8_sumTwine_6 : decode cX8_sumTwine 6 = .ok (.getfield 29, 3) := by decide +kernel
theorem dX8_sumTwine_9 : decode cX8_sumTwine 9 = .ok (.if_icmp .ge 20, 3) := by decide +kernel
theorem dX8_sumTwine_12 : decode cX8_sumTwine 12 = .ok (.iload_n 1, 1) := by decide +kernel
theorem dX8_sumTwine_13 : decode cX8_sumTwine 13 = .ok (.aload_n 0, 1) := by decide +kernel
theorem dX8_sumTwine_14 : decode cX8_sumTwine 14 = .ok (.iload_n 2, 1) := by decide +kernel
theorem dX8_sumTwine_15 : decode cX8_sumTwine 15 = .ok (.invokevirtual 77, 3) := by decide +kernel
theorem dX8_sumTwine_18 : decode cX8_sumTwine 18 = .ok (.getfield 81, 3) := by decide +kernel
theorem dX8_sumTwine_21 : decode cX8_sumTwine 21 = .ok (.iadd, 1) := by decide +kernel
theorem dX8_sumTwine_22 : decode cX8_sumTwine 22 = .ok (.istore_n 1, 1) := by decide +kernel
theorem dX8_sumTwine_23 : decode cX8_sumTwine 23 = .ok (.iinc 2 1, 3) := by decide +kernel
theorem dX8_sumTwine_26 : decode cX8_sumTwine 26 = .ok (.goto (-22), 3) := by decide +kernel
theorem dX8_sumTwine_29 : decode cX8_sumTwine 29 = .ok (.iload_n 1, 1) := by decide +kernel
theorem dX8_sumTwine_30 : decode cX8_sumTwine 30 = .ok (.ireturn, 1) := by decide +kernel
theorem dX8_countAsNoted_0 : decode cX8_countAsNoted 0 = .ok (.iconst 0, 1) := by decide +kernel
theorem dX8_countAsNoted_1 : decode cX8_countAsNoted 1 = .ok (.istore_n 1, 1) := by decide +kernel
theorem dX8_countAsNoted_2 : decode cX8_countAsNoted 2 = .ok (.iconst 0, 1) := by decide +kernel
theorem dX8_countAsNoted_3 : decode cX8_countAsNoted 3 = .ok (.istore_n 2, 1) := by decide +kernel
theorem dX8_countAsNoted_4 : decode cX8_countAsNoted 4 = .ok (.iload_n 2, 1) := by decide +kernel
theorem dX8_countAsNoted_5 : decode cX8_countAsNoted 5 = .ok (.aload_n 0, 1) := by decide +kernel
theorem dX8_countAsNoted_6 : decode cX8_countAsNoted 6 = .ok (.getfield 33, 3) := by decide +kernel
theorem dX8_countAsNoted_9 : decode cX8_countAsNoted 9 = .ok (.if_icmp .ge 29, 3) := by decide +kernel
theorem dX8_countAsNoted_12 : decode cX8_countAsNoted 12 = .ok (.iload_n 1, 1) := by decide +kernel
theorem dX8_countAsNoted_13 : decode cX8_countAsNoted 13 = .ok (.aload_n 0, 1) := by decide +kernel
theorem dX8_countAsNoted_14 : decode cX8_countAsNoted 14 = .ok (.aload_n 0, 1) := by decide +kernel
theorem dX8_countAsNoted_15 : decode cX8_countAsNoted 15 = .ok (.iload_n 2, 1) := by decide +kernel
theorem dX8_countAsNoted_16 : decode cX8_countAsNoted 16 = .ok (.invokevirtual 91, 3) := by decide +kernel
theorem dX8_countAsNoted_19 : decode cX8_countAsNoted 19 = .ok (.invokevirtual 155, 3) := by decide +kernel
theorem dX8_countAsNoted_22 : decode cX8_countAsNoted 22 = .ok (.ifCond .eq 7, 3) := by decide +kernel
theorem dX8_countAsNoted_25 : decode cX8_countAsNoted 25 = .ok (.iconst 1, 1) := by decide +kernel
theorem dX8_countAsNoted_26 : decode cX8_countAsNoted 26 = .ok (.goto 4, 3) := by decide +kernel
theorem dX8_countAsNoted_29 : decode cX8_countAsNoted 29 = .ok (.iconst 0, 1) := by decide +kernel
theorem dX8_countAsNoted_30 : decode cX8_countAsNoted 30 = .ok (.iadd, 1) := by decide +kernel
theorem dX8_countAsNoted_31 : decode cX8_countAsNoted 31 = .ok (.istore_n 1, 1) := by decide +kernel
theorem dX8_countAsNoted_32 : decode cX8_countAsNoted 32 = .ok (.iinc 2 1, 3) := by decide +kernel
theorem dX8_countAsNoted_35 : decode cX8_countAsNoted 35 = .ok (.goto (-31), 3) := by decide +kernel
theorem dX8_countAsNoted_38 : decode cX8_countAsNoted 38 = .ok (.iload_n 1, 1) := by decide +kernel
theorem dX8_countAsNoted_39 : decode cX8_countAsNoted 39 = .ok (.ireturn, 1) := by decide +kernel
theorem dX8_areChaptersToldAlike_0 : decode cX8_areChaptersToldAlike 0 = .ok (.iconst 0, 1) := by decide +kernel
theorem dX8_areChaptersToldAlike_1 : decode cX8_areChaptersToldAlike 1 = .ok (.istore_n 2, 1) := by decide +kernel
theorem dX8_areChaptersToldAlike_2 : decode cX8_areChaptersToldAlike 2 = .ok (.iconst 0, 1) := by decide +kernel
theorem dX8_areChaptersToldAlike_3 : decode cX8_areChaptersToldAlike 3 = .ok (.istore_n 3, 1) := by decide +kernel
theorem dX8_areChaptersToldAlike_4 : decode cX8_areChaptersToldAlike 4 = .ok (.iload_n 3, 1) := by decide +kernel
theorem dX8_areChaptersToldAlike_5 : decode cX8_areChaptersToldAlike 5 = .ok (.iconst 3, 1) := by decide +kernel
theorem dX8_areChaptersToldAlike_6 : decode cX8_areChaptersToldAlike 6 = .ok (.if_icmp .ge 21, 3) := by decide +kernel
theorem dX8_areChaptersToldAlike_9 : decode cX8_areChaptersToldAlike 9 = .ok (.iload_n 2, 1) := by decide +kernel
theorem dX8_areChaptersToldAlike_10 : decode cX8_areChaptersToldAlike 10 = .ok (.aload_n 0, 1) := by decide +kernel
theorem dX8_areChaptersToldAlike_11 : decode cX8_areChaptersToldAlike 11 = .ok (.iload_n 3, 1) := by decide +kernel
theorem dX8_areChaptersToldAlike_12 : decode cX8_areChaptersToldAlike 12 = .ok (.invokevirtual 65, 3) := by decide +kernel
theorem dX8_areChaptersToldAlike_15 : decode cX8_areChaptersToldAlike 15 = .ok (.aload_n 1, 1) := by decide +kernel
theorem dX8_areChaptersToldAlike_16 : decode cX8_areChaptersToldAlike 16 = .ok (.invokevirtual 159, 3) := by decide +kernel
theorem dX8_areChaptersToldAlike_19 : decode cX8_areChaptersToldAlike 19 = .ok (.iadd, 1) := by decide +kernel
theorem dX8_areChaptersToldAlike_20 : decode cX8_areChaptersToldAlike 20 = .ok (.istore_n 2, 1) := by decide +kernel
theorem dX8_areChaptersToldAlike_21 : decode cX8_areChaptersToldAlike 21 = .ok (.iinc 3 1, 3) := by decide +kernel
theorem dX8_areChaptersToldAlike_24 : decode cX8_areChaptersToldAlike 24 = .ok (.goto (-20), 3) := by decide +kernel
theorem dX8_areChaptersToldAlike_27 : decode cX8_areChaptersToldAlike 27 = .ok (.iload_n 2, 1) := by decide +kernel
theorem dX8_areChaptersToldAlike_28 : decode cX8_areChaptersToldAlike 28 = .ok (.aload_n 0, 1) := by decide +kernel
theorem dX8_areChaptersToldAlike_29 : decode cX8_areChaptersToldAlike 29 = .ok (.invokevirtual 163, 3) := by decide +kernel
theorem dX8_areChaptersToldAlike_32 : decode cX8_areChaptersToldAlike 32 = .ok (.if_icmp .ne 7, 3) := by decide +kernel
theorem dX8_areChaptersToldAlike_35 : decode cX8_areChaptersToldAlike 35 = .ok (.iconst 1, 1) := by decide +kernel
theorem dX8_areChaptersToldAlike_36 : decode cX8_areChaptersToldAlike 36 = .ok (.goto 4, 3) := by decide +kernel
theorem dX8_areChaptersToldAlike_39 : decode cX8_areChaptersToldAlike 39 = .ok (.iconst 0, 1) := by decide +kernel
theorem dX8_areChaptersToldAlike_40 : decode cX8_areChaptersToldAlike 40 = .ok (.ireturn, 1) := by decide +kernel
theorem dX8_areNotesToldAlike_0 : decode cX8_areNotesToldAlike 0 = .ok (.iconst 0, 1) := by decide +kernel
theorem dX8_areNotesToldAlike_1 : decode cX8_areNotesToldAlike 1 = .ok (.istore_n 2, 1) := by decide +kernel
theorem dX8_areNotesToldAlike_2 : decode cX8_areNotesToldAlike 2 = .ok (.iload_n 2, 1) := by decide +kernel
theorem dX8_areNotesToldAlike_3 : decode cX8_areNotesToldAlike 3 = .ok (.aload_n 0, 1) := by decide +kernel
theorem dX8_areNotesToldAlike_4 : decode cX8_areNotesToldAlike 4 = .ok (.getfield 33, 3) := by decide +kernel
theorem dX8_areNotesToldAlike_7 : decode cX8_areNotesToldAlike 7 = .ok (.if_icmp .ge 39, 3) := by decide +kernel
theorem dX8_areNotesToldAlike_10 : decode cX8_areNotesToldAlike 10 = .ok (.aload_n 0, 1) := by decide +kernel
theorem dX8_areNotesToldAlike_11 : decode cX8_areNotesToldAlike 11 = .ok (.iload_n 2, 1) := by decide +kernel
theorem dX8_areNotesToldAlike_12 : decode cX8_areNotesToldAlike 12 = .ok (.invokevirtual 91, 3) := by decide +kernel
theorem dX8_areNotesToldAlike_15 : decode cX8_areNotesToldAlike 15 = .ok (.astore_n 3, 1) := by decide +kernel
theorem dX8_areNotesToldAlike_16 : decode cX8_areNotesToldAlike 16 = .ok (.aload_n 0, 1) := by decide +kernel
theorem dX8_areNotesToldAlike_17 : decode cX8_areNotesToldAlike 17 = .ok (.aload_n 3, 1) := by decide +kernel
theorem dX8_areNotesToldAlike_18 : decode cX8_areNotesToldAlike 18 = .ok (.invokevirtual 166, 3) := by decide +kernel
theorem dX8_areNotesToldAlike_21 : decode cX8_areNotesToldAlike 21 = .ok (.ifCond .eq 19, 3) := by decide +kernel
theorem dX8_areNotesToldAlike_24 : decode cX8_areNotesToldAlike 24 = .ok (.aload_n 0, 1) := by decide +kernel
theorem dX8_areNotesToldAlike_25 : decode cX8_areNotesToldAlike 25 = .ok (.aload_n 3, 1) := by decide +kernel
theorem dX8_areNotesToldAlike_26 : decode cX8_areNotesToldAlike 26 = .ok (.aload_n 1, 1) := by decide +kernel
theorem dX8_areNotesToldAlike_27 : decode cX8_areNotesToldAlike 27 = .ok (.invokevirtual 169, 3) := by decide +kernel
theorem dX8_areNotesToldAlike_30 : decode cX8_areNotesToldAlike 30 = .ok (.aload_n 0, 1) := by decide +kernel
theorem dX8_areNotesToldAlike_31 : decode cX8_areNotesToldAlike 31 = .ok (.aload_n 3, 1) := by decide +kernel
theorem dX8_areNotesToldAlike_32 : decode cX8_areNotesToldAlike 32 = .ok (.invokevirtual 172, 3) := by decide +kernel
theorem dX8_areNotesToldAlike_35 : decode cX8_areNotesToldAlike 35 = .ok (.if_icmp .eq 5, 3) := by decide +kernel
theorem dX8_areNotesToldAlike_38 : decode cX8_areNotesToldAlike 38 = .ok (.iconst 0, 1) := by decide +kernel
theorem dX8_areNotesToldAlike_39 : decode cX8_areNotesToldAlike 39 = .ok (.ireturn, 1) := by decide +kernel
theorem dX8_areNotesToldAlike_40 : decode cX8_areNotesToldAlike 40 = .ok (.iinc 2 1, 3) := by decide +kernel
theorem dX8_areNotesToldAlike_43 : decode cX8_areNotesToldAlike 43 = .ok (.goto (-41), 3) := by decide +kernel
theorem dX8_areNotesToldAlike_46 : decode cX8_areNotesToldAlike 46 = .ok (.iconst 1, 1) := by decide +kernel
theorem dX8_areNotesToldAlike_47 : decode cX8_areNotesToldAlike 47 = .ok (.ireturn, 1) := by decide +kernel
theorem dX9_init_0 : decode cX9_init 0 = .ok (.aload_n 0, 1) := by decide +kernel
theorem dX9_init_1 : decode cX9_init 1 = .ok (.invokespecial 3, 3) := by decide +kernel
theorem dX9_init_4 : decode cX9_init 4 = .ok (.aload_n 0, 1) := by decide +kernel
theorem dX9_init_5 : decode cX9_init 5 = .ok (.new 9, 3) := by decide +kernel
theorem dX9_init_8 : decode cX9_init 8 = .ok (.dup, 1) := by decide +kernel
theorem dX9_init_9 : decode cX9_init 9 = .ok (.invokespecial 11, 3) := by decide +kernel
theorem dX9_init_12 : decode cX9_init 12 = .ok (.putfield 12, 3) := by decide +kernel
theorem dX9_init_15 : decode cX9_init 15 = .ok (.aload_n 0, 1) := by decide +kernel
theorem dX9_init_16 : decode cX9_init 16 = .ok (.new 9, 3) := by decide +kernel
theorem dX9_init_19 : decode cX9_init 19 = .ok (.dup, 1) := by decide +kernel
theorem dX9_init_20 : decode cX9_init 20 = .ok (.invokespecial 11, 3) := by decide +kernel
theorem dX9_init_23 : decode cX9_init 23 = .ok (.putfield 16, 3) := by decide +kernel
theorem dX9_init_26 : decode cX9_init 26 = .ok (.aload_n 0, 1) := by decide +kernel
theorem dX9_init_27 : decode cX9_init 27 = .ok (.new 9, 3) := by decide +kernel
theorem dX9_init_30 : decode cX9_init 30 = .ok (.dup, 1) := by decide +kernel
theorem dX9_init_31 : decode cX9_init 31 = .ok (.invokespecial 11, 3) := by decide +kernel
theorem dX9_init_34 : decode cX9_init 34 = .ok (.putfield 19, 3) := by decide +kernel
theorem dX9_init_37 : decode cX9_init 37 = .ok (.aload_n 0, 1) := by decide +kernel
theorem dX9_init_38 : decode cX9_init 38 = .ok (.iconst 0, 1) := by decide +kernel
theorem dX9_init_39 : decode cX9_init 39 = .ok (.putfield 22, 3) := by decide +kernel
theorem dX9_init_42 : decode cX9_init 42 = .ok (.aload_n 0, 1) := by decide +kernel
theorem dX9_init_43 : decode cX9_init 43 = .ok (.new 26, 3) := by decide +kernel
theorem dX9_init_46 : decode cX9_init 46 = .ok (.dup, 1) := by decide +kernel
theorem dX9_init_47 : decode cX9_init 47 = .ok (.invokespecial 28, 3) := by decide +kernel
theorem dX9_init_50 : decode cX9_init 50 = .ok (.putfield 29, 3) := by decide +kernel
theorem dX9_init_53 : decode cX9_init 53 = .ok (.aload_n 0, 1) := by decide +kernel
theorem dX9_init_54 : decode cX9_init 54 = .ok (.new 33, 3) := by decide +kernel
theorem dX9_init_57 : decode cX9_init 57 = .ok (.dup, 1) := by decide +kernel
theorem dX9_init_58 : decode cX9_init 58 = .ok (.invokespecial 35, 3) := by decide +kernel
theorem dX9_init_61 : decode cX9_init 61 = .ok (.putfield 36, 3) := by decide +kernel
theorem dX9_init_64 : decode cX9_init 64 = .ok (.aload_n 0, 1) := by decide +kernel
theorem dX9_init_65 : decode cX9_init 65 = .ok (.new 40, 3) := by decide +kernel
theorem dX9_init_68 : decode cX9_init 68 = .ok (.dup, 1) := by decide +kernel
theorem dX9_init_69 : decode cX9_init 69 = .ok (.invokespecial 42, 3) := by decide +kernel
theorem dX9_init_72 : decode cX9_init 72 = .ok (.putfield 43, 3) := by decide +kernel
theorem dX9_init_75 : decode cX9_init 75 = .ok (.aload_n 0, 1) := by decide +kernel
theorem dX9_init_76 : decode cX9_init 76 = .ok (.new 47, 3) := by decide +kernel
theorem dX9_init_79 : decode cX9_init 79 = .ok (.dup, 1) := by decide +kernel
theorem dX9_init_80 : decode cX9_init 80 = .ok (.invokespecial 49, 3) := by decide +kernel
theorem dX9_init_83 : decode cX9_init 83 = .ok (.putfield 50, 3) := by decide +kernel
theorem dX9_init_86 : decode cX9_init 86 = .ok (.aload_n 0, 1) := by decide +kernel
theorem dX9_init_87 : decode cX9_init 87 = .ok (.new 54, 3) := by decide +kernel
theorem dX9_init_90 : decode cX9_init 90 = .ok (.dup, 1) := by decide +kernel
theorem dX9_init_91 : decode cX9_init 91 = .ok (.invokespecial 56, 3) := by decide +kernel
theorem dX9_init_94 : decode cX9_init 94 = .ok (.putfield 57, 3) := by decide +kernel
theorem dX9_init_97 : decode cX9_init 97 = .ok (.aload_n 0, 1) := by decide +kernel
theorem dX9_init_98 : decode cX9_init 98 = .ok (.iconst 0, 1) := by decide +kernel
theorem dX9_init_99 : decode cX9_init 99 = .ok (.putfield 61, 3) := by decide +kernel
theorem dX9_init_102 : decode cX9_init 102 = .ok (.aload_n 0, 1) := by decide +kernel
theorem dX9_init_103 : decode cX9_init 103 = .ok (.iconst (-1), 1) := by decide +kernel
theorem dX9_init_104 : decode cX9_init 104 = .ok (.putfield 65, 3) := by decide +kernel
theorem dX9_init_107 : decode cX9_init 107 = .ok (.return_, 1) := by decide +kernel
theorem dX9_knot_0 : decode cX9_knot 0 = .ok (.aload_n 0, 1) := by decide +kernel
theorem dX9_knot_1 : decode cX9_knot 1 = .ok (.aload_n 0, 1) := by decide +kernel
theorem dX9_knot_2 : decode cX9_knot 2 = .ok (.iload_n 1, 1) := by decide +kernel
theorem dX9_knot_3 : decode cX9_knot 3 = .ok (.iload_n 2, 1) := by decide +kernel
theorem dX9_knot_4 : decode cX9_knot 4 = .ok (.iload_n 3, 1) := by decide +kernel
theorem dX9_knot_5 : decode cX9_knot 5 = .ok (.invokevirtual 68, 3) := by decide +kernel
theorem dX9_knot_8 : decode cX9_knot 8 = .ok (.invokevirtual 72, 3) := by decide +kernel
theorem dX9_knot_11 : decode cX9_knot 11 = .ok (.ifCond .eq 13, 3) := by decide +kernel
theorem dX9_knot_14 : decode cX9_knot 14 = .ok (.new 76, 3) := by decide +kernel
theorem dX9_knot_17 : decode cX9_knot 17 = .ok (.dup, 1) := by decide +kernel
theorem dX9_knot_18 : decode cX9_knot 18 = .ok (.ldc 78, 2) := by decide +kernel
theorem dX9_knot_20 : decode cX9_knot 20 = .ok (.invokespecial 80, 3) := by decide +kernel
theorem dX9_knot_23 : decode cX9_knot 23 = .ok (.athrow, 1) := by decide +kernel
theorem dX9_knot_24 : decode cX9_knot 24 = .ok (.aload_n 0, 1) := by decide +kernel
theorem dX9_knot_25 : decode cX9_knot 25 = .ok (.getfield 29, 3) := by decide +kernel
theorem dX9_knot_28 : decode cX9_knot 28 = .ok (.aload_n 0, 1) := by decide +kernel
theorem dX9_knot_29 : decode cX9_knot 29 = .ok (.getfield 12, 3) := by decide +kernel
theorem dX9_knot_32 : decode cX9_knot 32 = .ok (.invokevirtual 83, 3) := by decide +kernel
theorem dX9_knot_35 : decode cX9_knot 35 = .ok (.aload_n 0, 1) := by decide +kernel
theorem dX9_knot_36 : decode cX9_knot 36 = .ok (.getfield 12, 3) := by decide +kernel
theorem dX9_knot_39 : decode cX9_knot 39 = .ok (.iload_n 1, 1) := by decide +kernel
theorem dX9_knot_40 : decode cX9_knot 40 = .ok (.invokevirtual 87, 3) := by decide +kernel
theorem dX9_knot_43 : decode cX9_knot 43 = .ok (.iload_n 2, 1) := by decide +kernel
theorem dX9_knot_44 : decode cX9_knot 44 = .ok (.invokevirtual 91, 3) := by decide +kernel
theorem dX9_knot_47 : decode cX9_knot 47 = .ok (.istore 4, 2) := by decide +kernel
theorem dX9_knot_49 : decode cX9_knot 49 = .ok (.aload_n 0, 1) := by decide +kernel
theorem dX9_knot_50 : decode cX9_knot 50 = .ok (.getfield 12, 3) := by decide +kernel
theorem dX9_knot_53 : decode cX9_knot 53 = .ok (.iload_n 1, 1) := by decide +kernel
theorem dX9_knot_54 : decode cX9_knot 54 = .ok (.invokevirtual 87, 3) := by decide +kernel
theorem dX9_knot_57 : decode cX9_knot 57 = .ok (.iload_n 2, 1) := by decide +kernel
theorem dX9_knot_58 : decode cX9_knot 58 = .ok (.iload_n 3, 1) := by decide +kernel
theorem dX9_knot_59 : decode cX9_knot 59 = .ok (.invokevirtual 97, 3) := by decide +kernel
theorem dX9_knot_62 : decode cX9_knot 62 = .ok (.iload 4, 2) := by decide +kernel
theorem dX9_knot_64 : decode cX9_knot 64 = .ok (.ireturn, 1) := by decide +kernel
theorem dX9_tear_0 : decode cX9_tear 0 = .ok (.aload_n 0, 1) := by decide +kernel
theorem dX9_tear_1 : decode cX9_tear 1 = .ok (.aload_n 0, 1) := by decide +kernel
theorem dX9_tear_2 : decode cX9_tear 2 = .ok (.iload_n 1, 1) := by decide +kernel
theorem dX9_tear_3 : decode cX9_tear 3 = .ok (.iload_n 2, 1) := by decide +kernel
theorem dX9_tear_4 : decode cX9_tear 4 = .ok (.iload_n 3, 1) := by decide +kernel
theorem dX9_tear_5 : decode cX9_tear 5 = .ok (.invokevirtual 101, 3) := by decide +kernel
theorem dX9_tear_8 : decode cX9_tear 8 = .ok (.invokevirtual 72, 3) := by decide +kernel
theorem dX9_tear_11 : decode cX9_tear 11 = .ok (.ifCond .eq 13, 3) := by decide +kernel
theorem dX9_tear_14 : decode cX9_tear 14 = .ok (.new 76, 3) := by decide +kernel
theorem dX9_tear_17 : decode cX9_tear 17 = .ok (.dup, 1) := by decide +kernel
theorem dX9_tear_18 : decode cX9_tear 18 = .ok (.ldc 104, 2) := by decide +kernel
theorem dX9_tear_20 : decode cX9_tear 20 = .ok (.invokespecial 80, 3) := by decide +kernel
theorem dX9_tear_23 : decode cX9_tear 23 = .ok (.athrow, 1) := by decide +kernel
theorem dX9_tear_24 : decode cX9_tear 24 = .ok (.aload_n 0, 1) := by decide +kernel
theorem dX9_tear_25 : decode cX9_tear 25 = .ok (.getfield 29, 3) := by decide +kernel
theorem dX9_tear_28 : decode cX9_tear 28 = .ok (.aload_n 0, 1) := by decide +kernel
theorem dX9_tear_29 : decode cX9_tear 29 = .ok (.getfield 12, 3) := by decide +kernel
theorem dX9_tear_32 : decode cX9_tear 32 = .ok (.invokevirtual 83, 3) := by decide +kernel
theorem dX9_tear_35 : decode cX9_tear 35 = .ok (.aload_n 0, 1) := by decide +kernel
theorem dX9_tear_36 : decode cX9_tear 36 = .ok (.getfield 12, 3) := by decide +kernel
theorem dX9_tear_39 : decode cX9_tear 39 = .ok (.iload_n 1, 1) := by decide +kernel
theorem dX9_tear_40 : decode cX9_tear 40 = .ok (.iload_n 2, 1) := by decide +kernel
theorem dX9_tear_41 : decode cX9_tear 41 = .ok (.iload_n 3, 1) := by decide +kernel
theorem dX9_tear_42 : decode cX9_tear 42 = .ok (.invokevirtual 106, 3) := by decide +kernel
theorem dX9_tear_45 : decode cX9_tear 45 = .ok (.aload_n 0, 1) := by decide +kernel
theorem dX9_tear_46 : decode cX9_tear 46 = .ok (.getfield 12, 3) := by decide +kernel
theorem dX9_tear_49 : decode cX9_tear 49 = .ok (.iload_n 1, 1) := by decide +kernel
theorem dX9_tear_50 : decode cX9_tear 50 = .ok (.invokevirtual 87, 3) := by decide +kernel
theorem dX9_tear_53 : decode cX9_tear 53 = .ok (.invokevirtual 110, 3) := by decide +kernel
theorem dX9_tear_56 : decode cX9_tear 56 = .ok (.ireturn, 1) := by decide +kernel
theorem dX9_mend_0 : decode cX9_mend 0 = .ok (.aload_n 0, 1) := by decide +kernel
theorem dX9_mend_1 : decode cX9_mend 1 = .ok (.aload_n 0, 1) := by decide +kernel
theorem dX9_mend_2 : decode cX9_mend 2 = .ok (.iload_n 1, 1) := by decide +kernel
theorem dX9_mend_3 : decode cX9_mend 3 = .ok (.iload_n 2, 1) := by decide +kernel
theorem dX9_mend_4 : decode cX9_mend 4 = .ok (.iload_n 3, 1) := by decide +kernel
theorem dX9_mend_5 : decode cX9_mend 5 = .ok (.iload 4, 2) := by decide +kernel
theorem dX9_mend_7 : decode cX9_mend 7 = .ok (.invokevirtual 114, 3) := by decide +kernel
theorem dX9_mend_10 : decode cX9_mend 10 = .ok (.invokevirtual 72, 3) := by decide +kernel
theorem dX9_mend_13 : decode cX9_mend 13 = .ok (.ifCond .eq 13, 3) := by decide +kernel
theorem dX9_mend_16 : decode cX9_mend 16 = .ok (.new 76, 3) := by decide +kernel
theorem dX9_mend_19 : decode cX9_mend 19 = .ok (.dup, 1) := by decide +kernel
theorem dX9_mend_20 : decode cX9_mend 20 = .ok (.ldc 118, 2) := by decide +kernel
theorem dX9_mend_22 : decode cX9_mend 22 = .ok (.invokespecial 80, 3) := by decide +kernel
theorem dX9_mend_25 : decode cX9_mend 25 = .ok (.athrow, 1) := by decide +kernel
theorem dX9_mend_26 : decode cX9_mend 26 = .ok (.aload_n 0, 1) := by decide +kernel
theorem dX9_mend_27 : decode cX9_mend 27 = .ok (.getfield 29, 3) := by decide +kernel
theorem dX9_mend_30 : decode cX9_mend 30 = .ok (.aload_n 0, 1) := by decide +kernel
theorem dX9_mend_31 : decode cX9_mend 31 = .ok (.getfield 12, 3) := by decide +kernel
theorem dX9_mend_34 : decode cX9_mend 34 = .ok (.invokevirtual 83, 3) := by decide +kernel
theorem dX9_mend_37 : decode cX9_mend 37 = .ok (.aload_n 0, 1) := by decide +kernel
theorem dX9_mend_38 : decode cX9_mend 38 = .ok (.getfield 12, 3) := by decide +kernel
theorem dX9_mend_41 : decode cX9_mend 41 = .ok (.iload_n 1, 1) := by decide +kernel
theorem dX9_mend_42 : decode cX9_mend 42 = .ok (.iload_n 2, 1) := by decide +kernel
theorem dX9_mend_43 : decode cX9_mend 43 = .ok (.iload_n 3, 1) := by decide +kernel
theorem dX9_mend_44 : decode cX9_mend 44 = .ok (.iload 4, 2) := by decide +kernel
theorem dX9_mend_46 : decode cX9_mend 46 = .ok (.invokevirtual 120, 3) := by decide +kernel
theorem dX9_mend_49 : decode cX9_mend 49 = .ok (.aload_n 0, 1) := by decide +kernel
theorem dX9_mend_50 : decode cX9_mend 50 = .ok (.getfield 12, 3) := by decide +kernel
theorem dX9_mend_53 : decode cX9_mend 53 = .ok (.iload 4, 2) := by decide +kernel
theorem dX9_mend_55 : decode cX9_mend 55 = .ok (.invokevirtual 124, 3) := by decide +kernel
theorem dX9_mend_58 : decode cX9_mend 58 = .ok (.getfield 128, 3) := by decide +kernel
theorem dX9_mend_61 : decode cX9_mend 61 = .ok (.ireturn, 1) := by decide +kernel
theorem dX9_editor_0 : decode cX9_editor 0 = .ok (.aload_n 0, 1) := by decide +kernel
theorem dX9_editor_1 : decode cX9_editor 1 = .ok (.aload_n 0, 1) := by decide +kernel
theorem dX9_editor_2 : decode cX9_editor 2 = .ok (.iload_n 1, 1) := by decide +kernel
theorem dX9_editor_3 : decode cX9_editor 3 = .ok (.invokevirtual 133, 3) := by decide +kernel
theorem dX9_editor_6 : decode cX9_editor 6 = .ok (.invokevirtual 72, 3) := by decide +kernel
theorem dX9_editor_9 : decode cX9_editor 9 = .ok (.ifCond .eq 13, 3) := by decide +kernel
theorem dX9_editor_12 : decode cX9_editor 12 = .ok (.new 76, 3) := by decide +kernel
theorem dX9_editor_15 : decode cX9_editor 15 = .ok (.dup, 1) := by decide +kernel
theorem dX9_editor_16 : decode cX9_editor 16 = .ok (.ldc 136, 2) := by decide +kernel
theorem dX9_editor_18 : decode cX9_editor 18 = .ok (.invokespecial 80, 3) := by decide +kernel
theorem dX9_editor_21 : decode cX9_editor 21 = .ok (.athrow, 1) := by decide +kernel
theorem dX9_editor_22 : decode cX9_editor 22 = .ok (.aload_n 0, 1) := by decide +kernel
theorem dX9_editor_23 : decode cX9_editor 23 = .ok (.getfield 29, 3) := by decide +kernel
theorem dX9_editor_26 : decode cX9_editor 26 = .ok (.aload_n 0, 1) := by decide +kernel
theorem dX9_editor_27 : decode cX9_editor 27 = .ok (.getfield 12, 3) := by decide +kernel
theorem dX9_editor_30 : decode cX9_editor 30 = .ok (.invokevirtual 83, 3) := by decide +kernel
theorem dX9_editor_33 : decode cX9_editor 33 = .ok (.aload_n 0, 1) := by decide +kernel
theorem dX9_editor_34 : decode cX9_editor 34 = .ok (.getfield 12, 3) := by decide +kernel
theorem dX9_editor_37 : decode cX9_editor 37 = .ok (.iload_n 1, 1) := by decide +kernel
theorem dX9_editor_38 : decode cX9_editor 38 = .ok (.invokevirtual 138, 3) := by decide +kernel
theorem dX9_editor_41 : decode cX9_editor 41 = .ok (.aload_n 0, 1) := by decide +kernel
theorem dX9_editor_42 : decode cX9_editor 42 = .ok (.getfield 12, 3) := by decide +kernel
theorem dX9_editor_45 : decode cX9_editor 45 = .ok (.getfield 142, 3) := by decide +kernel
theorem dX9_editor_48 : decode cX9_editor 48 = .ok (.iconst 1, 1) := by decide +kernel
theorem dX9_editor_49 : decode cX9_editor 49 = .ok (.isub, 1) := by decide +kernel
theorem dX9_editor_50 : decode cX9_editor 50 = .ok (.ireturn, 1) := by decide +kernel
theorem dX9_tide_0 : decode cX9_tide 0 = .ok (.aload_n 0, 1) := by decide +kernel
theorem dX9_tide_1 : decode cX9_tide 1 = .ok (.aload_n 0, 1) := by decide +kernel
theorem dX9_tide_2 : decode cX9_tide 2 = .ok (.iload_n 1, 1) := by decide +kernel
theorem dX9_tide_3 : decode cX9_tide 3 = .ok (.invokevirtual 145, 3) := by decide +kernel
theorem dX9_tide_6 : decode cX9_tide 6 = .ok (.invokevirtual 72, 3) := by decide +kernel
theorem dX9_tide_9 : decode cX9_tide 9 = .ok (.ifCond .eq 13, 3) := by decide +kernel
theorem dX9_tide_12 : decode cX9_tide 12 = .ok (.new 76, 3) := by decide +kernel
theorem dX9_tide_15 : decode cX9_tide 15 = .ok (.dup, 1) := by decide +kernel
theorem dX9_tide_16 : decode cX9_tide 16 = .ok (.ldc 148, 2) := by decide +kernel
theorem dX9_tide_18 : decode cX9_tide 18 = .ok (.invokespecial 80, 3) := by decide +kernel
theorem dX9_tide_21 : decode cX9_tide 21 = .ok (.athrow, 1) := by decide +kernel
theorem dX9_tide_22 : decode cX9_tide 22 = .ok (.aload_n 0, 1) := by decide +kernel
theorem dX9_tide_23 : decode cX9_tide 23 = .ok (.getfield 29, 3) := by decide +kernel
theorem dX9_tide_26 : decode cX9_tide 26 = .ok (.aload_n 0, 1) := by decide +kernel
theorem dX9_tide_27 : decode cX9_tide 27 = .ok (.getfield 12, 3) := by decide +kernel
theorem dX9_tide_30 : decode cX9_tide 30 = .ok (.invokevirtual 83, 3) := by decide +kernel
theorem dX9_tide_33 : decode cX9_tide 33 = .ok (.aload_n 0, 1) := by decide +kernel
theorem dX9_tide_34 : decode cX9_tide 34 = .ok (.getfield 12, 3) := by decide +kernel
theorem dX9_tide_37 : decode cX9_tide 37 = .ok (.iload_n 1, 1) := by decide +kernel
theorem dX9_tide_38 : decode cX9_tide 38 = .ok (.putfield 150, 3) := by decide +kernel
theorem dX9_tide_41 : decode cX9_tide 41 = .ok (.aload_n 0, 1) := by decide +kernel
theorem dX9_tide_42 : decode cX9_tide 42 = .ok (.getfield 12, 3) := by decide +kernel
theorem dX9_tide_45 : decode cX9_tide 45 = .ok (.invokevirtual 153, 3) := by decide +kernel
theorem dX9_tide_48 : decode cX9_tide 48 = .ok (.ireturn, 1) := by decide +kernel
theorem dX9_sink_0 : decode cX9_sink 0 = .ok (.aload_n 0, 1) := by decide +kernel
theorem dX9_sink_1 : decode cX9_sink 1 = .ok (.aload_n 0, 1) := by decide +kernel
theorem dX9_sink_2 : decode cX9_sink 2 = .ok (.iload_n 1, 1) := by decide +kernel
theorem dX9_sink_3 : decode cX9_sink 3 = .ok (.iload_n 2, 1) := by decide +kernel
theorem dX9_sink_4 : decode cX9_sink 4 = .ok (.invokevirtual 156, 3) := by decide +kernel
theorem dX9_sink_7 : decode cX9_sink 7 = .ok (.invokevirtual 72, 3) := by decide +kernel
theorem dX9_sink_10 : decode cX9_sink 10 = .ok (.ifCond .eq 13, 3) := by decide +kernel
theorem dX9_sink_13 : decode cX9_sink 13 = .ok (.new 76, 3) := by decide +kernel
theorem dX9_sink_16 : decode cX9_sink 16 = .ok (.dup, 1) := by decide +kernel
theorem dX9_sink_17 : decode cX9_sink 17 = .ok (.ldc 160, 2) := by decide +kernel
theorem dX9_sink_19 : decode cX9_sink 19 = .ok (.invokespecial 80, 3) := by decide +kernel
theorem dX9_sink_22 : decode cX9_sink 22 = .ok (.athrow, 1) := by decide +kernel
theorem dX9_sink_23 : decode cX9_sink 23 = .ok (.aload_n 0, 1) := by decide +kernel
theorem dX9_sink_24 : decode cX9_sink 24 = .ok (.getfield 29, 3) := by decide +kernel
theorem dX9_sink_27 : decode cX9_sink 27 = .ok (.aload_n 0, 1) := by decide +kernel
theorem dX9_sink_28 : decode cX9_sink 28 = .ok (.getfield 12, 3) := by decide +kernel
theorem dX9_sink_31 : decode cX9_sink 31 = .ok (.invokevirtual 83, 3) := by decide +kernel
theorem dX9_sink_34 : decode cX9_sink 34 = .ok (.aload_n 0, 1) := by decide +kernel
theorem dX9_sink_35 : decode cX9_sink 35 = .ok (.getfield 12, 3) := by decide +kernel
theorem dX9_sink_38 : decode cX9_sink 38 = .ok (.iload_n 1, 1) := by decide +kernel
theorem dX9_sink_39 : decode cX9_sink 39 = .ok (.invokevirtual 87, 3) := by decide +kernel
theorem dX9_sink_42 : decode cX9_sink 42 = .ok (.iload_n 2, 1) := by decide +kernel
theorem dX9_sink_43 : decode cX9_sink 43 = .ok (.putfield 162, 3) := by decide +kernel
theorem dX9_sink_46 : decode cX9_sink 46 = .ok (.aload_n 0, 1) := by decide +kernel
theorem dX9_sink_47 : decode cX9_sink 47 = .ok (.getfield 12, 3) := by decide +kernel
theorem dX9_sink_50 : decode cX9_sink 50 = .ok (.iload_n 1, 1) := by decide +kernel
theorem dX9_sink_51 : decode cX9_sink 51 = .ok (.invokevirtual 165, 3) := by decide +kernel
theorem dX9_sink_54 : decode cX9_sink 54 = .ok (.ireturn, 1) := by decide +kernel
theorem dX9_note_0 : decode cX9_note 0 = .ok (.aload_n 0, 1) := by decide +kernel
theorem dX9_note_1 : decode cX9_note 1 = .ok (.aload_n 0, 1) := by decide +kernel
theorem dX9_note_2 : decode cX9_note 2 = .ok (.iload_n 1, 1) := by decide +kernel
theorem dX9_note_3 : decode cX9_note 3 = .ok (.iload_n 2, 1) := by decide +kernel
theorem dX9_note_4 : decode cX9_note 4 = .ok (.invokevirtual 168, 3) := by decide +kernel
theorem dX9_note_7 : decode cX9_note 7 = .ok (.invokevirtual 72, 3) := by decide +kernel
theorem dX9_note_10 : decode cX9_note 10 = .ok (.ifCond .eq 13, 3) := by decide +kernel
theorem dX9_note_13 : decode cX9_note 13 = .ok (.new 76, 3) := by decide +kernel
theorem dX9_note_16 : decode cX9_note 16 = .ok (.dup, 1) := by decide +kernel
theorem dX9_note_17 : decode cX9_note 17 = .ok (.ldc 171, 2) := by decide +kernel
theorem dX9_note_19 : decode cX9_note 19 = .ok (.invokespecial 80, 3) := by decide +kernel
theorem dX9_note_22 : decode cX9_note 22 = .ok (.athrow, 1) := by decide +kernel
theorem dX9_note_23 : decode cX9_note 23 = .ok (.aload_n 0, 1) := by decide +kernel
theorem dX9_note_24 : decode cX9_note 24 = .ok (.getfield 29, 3) := by decide +kernel
theorem dX9_note_27 : decode cX9_note 27 = .ok (.aload_n 0, 1) := by decide +kernel
theorem dX9_note_28 : decode cX9_note 28 = .ok (.getfield 12, 3) := by decide +kernel
theorem dX9_note_31 : decode cX9_note 31 = .ok (.invokevirtual 83, 3) := by decide +kernel
theorem dX9_note_34 : decode cX9_note 34 = .ok (.aload_n 0, 1) := by decide +kernel
theorem dX9_note_35 : decode cX9_note 35 = .ok (.getfield 12, 3) := by decide +kernel
theorem dX9_note_38 : decode cX9_note 38 = .ok (.iload_n 1, 1) := by decide +kernel
theorem dX9_note_39 : decode cX9_note 39 = .ok (.iload_n 2, 1) := by decide +kernel
theorem dX9_note_40 : decode cX9_note 40 = .ok (.invokevirtual 173, 3) := by decide +kernel
theorem dX9_note_43 : decode cX9_note 43 = .ok (.aload_n 0, 1) := by decide +kernel
theorem dX9_note_44 : decode cX9_note 44 = .ok (.getfield 12, 3) := by decide +kernel
theorem dX9_note_47 : decode cX9_note 47 = .ok (.getfield 176, 3) := by decide +kernel
theorem dX9_note_50 : decode cX9_note 50 = .ok (.iconst 1, 1) := by decide +kernel
theorem dX9_note_51 : decode cX9_note 51 = .ok (.isub, 1) := by decide +kernel
theorem dX9_note_52 : decode cX9_note 52 = .ok (.ireturn, 1) := by decide +kernel
theorem dX9_drop_0 : decode cX9_drop 0 = .ok (.aload_n 0, 1) := by decide +kernel
theorem dX9_drop_1 : decode cX9_drop 1 = .ok (.aload_n 0, 1) := by decide +kernel
theorem dX9_drop_2 : decode cX9_drop 2 = .ok (.iload_n 1, 1) := by decide +kernel
theorem dX9_drop_3 : decode cX9_drop 3 = .ok (.invokevirtual 179, 3) := by decide +kernel
theorem dX9_drop_6 : decode cX9_drop 6 = .ok (.invokevirtual 72, 3) := by decide +kernel
theorem dX9_drop_9 : decode cX9_drop 9 = .ok (.ifCond .eq 13, 3) := by decide +kernel
theorem dX9_drop_12 : decode cX9_drop 12 = .ok (.new 76, 3) := by decide +kernel
theorem dX9_drop_15 : decode cX9_drop 15 = .ok (.dup, 1) := by decide +kernel
theorem dX9_drop_16 : decode cX9_drop 16 = .ok (.ldc 182, 2) := by decide +kernel
theorem dX9_drop_18 : decode cX9_drop 18 = .ok (.invokespecial 80, 3) := by decide +kernel
theorem dX9_drop_21 : decode cX9_drop 21 = .ok (.athrow, 1) := by decide +kernel
theorem dX9_drop_22 : decode cX9_drop 22 = .ok (.aload_n 0, 1) := by decide +kernel
theorem dX9_drop_23 : decode cX9_drop 23 = .ok (.getfield 29, 3) := by decide +kernel
theorem dX9_drop_26 : decode cX9_drop 26 = .ok (.aload_n 0, 1) := by decide +kernel
theorem dX9_drop_27 : decode cX9_drop 27 = .ok (.getfield 12, 3) := by decide +kernel
theorem dX9_drop_30 : decode cX9_drop 30 = .ok (.invokevirtual 83, 3) := by decide +kernel
theorem dX9_drop_33 : decode cX9_drop 33 = .ok (.aload_n 0, 1) := by decide +kernel
theorem dX9_drop_34 : decode cX9_drop 34 = .ok (.getfield 12, 3) := by decide +kernel
theorem dX9_drop_37 : decode cX9_drop 37 = .ok (.iload_n 1, 1) := by decide +kernel
theorem dX9_drop_38 : decode cX9_drop 38 = .ok (.invokevirtual 184, 3) := by decide +kernel
theorem dX9_drop_41 : decode cX9_drop 41 = .ok (.aload_n 0, 1) := by decide +kernel
theorem dX9_drop_42 : decode cX9_drop 42 = .ok (.getfield 12, 3) := by decide +kernel
theorem dX9_drop_45 : decode cX9_drop 45 = .ok (.getfield 176, 3) := by decide +kernel
theorem dX9_drop_48 : decode cX9_drop 48 = .ok (.ireturn, 1) := by decide +kernel
theorem dX9_kindOf_0 : decode cX9_kindOf 0 = .ok (.iload_n 1, 1) := by decide +kernel
theorem dX9_kindOf_1 : decode cX9_kindOf 1 = .ok (.invokestatic 187, 3) := by decide +kernel
theorem dX9_kindOf_4 : decode cX9_kindOf 4 = .ok (.ifCond .eq 10, 3) := by decide +kernel
theorem dX9_kindOf_7 : decode cX9_kindOf 7 = .ok (.iload_n 2, 1) := by decide +kernel
theorem dX9_kindOf_8 : decode cX9_kindOf 8 = .ok (.invokestatic 190, 3) := by decide +kernel
theorem dX9_kindOf_11 : decode cX9_kindOf 11 = .ok (.ifCond .ne 13, 3) := by decide +kernel
theorem dX9_kindOf_14 : decode cX9_kindOf 14 = .ok (.new 193, 3) := by decide +kernel
theorem dX9_kindOf_17 : decode cX9_kindOf 17 = .ok (.dup, 1) := by decide +kernel
theorem dX9_kindOf_18 : decode cX9_kindOf 18 = .ok (.ldc 195, 2) := by decide +kernel
theorem dX9_kindOf_20 : decode cX9_kindOf 20 = .ok (.invokespecial 197, 3) := by decide +kernel
theorem dX9_kindOf_23 : decode cX9_kindOf 23 = .ok (.athrow, 1) := by decide +kernel
theorem dX9_kindOf_24 : decode cX9_kindOf 24 = .ok (.aload_n 0, 1) := by decide +kernel
theorem dX9_kindOf_25 : decode cX9_kindOf 25 = .ok (.getfield 12, 3) := by decide +kernel
theorem dX9_kindOf_28 : decode cX9_kindOf 28 = .ok (.iload_n 1, 1) := by decide +kernel
theorem dX9_kindOf_29 : decode cX9_kindOf 29 = .ok (.invokevirtual 87, 3) := by decide +kernel
theorem dX9_kindOf_32 : decode cX9_kindOf 32 = .ok (.iload_n 2, 1) := by decide +kernel
theorem dX9_kindOf_33 : decode cX9_kindOf 33 = .ok (.invokevirtual 91, 3) := by decide +kernel
theorem dX9_kindOf_36 : decode cX9_kindOf 36 = .ok (.ireturn, 1) := by decide +kernel
theorem dX9_isTorn_0 : decode cX9_isTorn 0 = .ok (.iload_n 1, 1) := by decide +kernel
theorem dX9_isTorn_1 : decode cX9_isTorn 1 = .ok (.invokestatic 187, 3) := by decide +kernel
theorem dX9_isTorn_4 : decode cX9_isTorn 4 = .ok (.ifCond .eq 17, 3) := by decide +kernel
theorem dX9_isTorn_7 : decode cX9_isTorn 7 = .ok (.iload_n 2, 1) := by decide +kernel
theorem dX9_isTorn_8 : decode cX9_isTorn 8 = .ok (.invokestatic 190, 3) := by decide +kernel
theorem dX9_isTorn_11 : decode cX9_isTorn 11 = .ok (.ifCond .eq 10, 3) := by decide +kernel
theorem dX9_isTorn_14 : decode cX9_isTorn 14 = .ok (.iload_n 3, 1) := by decide +kernel
theorem dX9_isTorn_15 : decode cX9_isTorn 15 = .ok (.invokestatic 190, 3) := by decide +kernel
theorem dX9_isTorn_18 : decode cX9_isTorn 18 = .ok (.ifCond .ne 13, 3) := by decide +kernel
theorem dX9_isTorn_21 : decode cX9_isTorn 21 = .ok (.new 193, 3) := by decide +kernel
theorem dX9_isTorn_24 : decode cX9_isTorn 24 = .ok (.dup, 1) := by decide +kernel
theorem dX9_isTorn_25 : decode cX9_isTorn 25 = .ok (.ldc 195, 2) := by decide +kernel
theorem dX9_isTorn_27 : decode cX9_isTorn 27 = .ok (.invokespecial 197, 3) := by decide +kernel
theorem dX9_isTorn_30 : decode cX9_isTorn 30 = .ok (.athrow, 1) := by decide +kernel
theorem dX9_isTorn_31 : decode cX9_isTorn 31 = .ok (.iload_n 2, 1) := by decide +kernel
theorem dX9_isTorn_32 : decode cX9_isTorn 32 = .ok (.iload_n 3, 1) := by decide +kernel
theorem dX9_isTorn_33 : decode cX9_isTorn 33 = .ok (.invokestatic 198, 3) := by decide +kernel
theorem dX9_isTorn_36 : decode cX9_isTorn 36 = .ok (.ifCond .ne 13, 3) := by decide +kernel
theorem dX9_isTorn_39 : decode cX9_isTorn 39 = .ok (.new 202, 3) := by decide +kernel
theorem dX9_isTorn_42 : decode cX9_isTorn 42 = .ok (.dup, 1) := by decide +kernel
theorem dX9_isTorn_43 : decode cX9_isTorn 43 = .ok (.ldc 204, 2) := by decide +kernel
theorem dX9_isTorn_45 : decode cX9_isTorn 45 = .ok (.invokespecial 206, 3) := by decide +kernel
theorem dX9_isTorn_48 : decode cX9_isTorn 48 = .ok (.athrow, 1) := by decide +kernel
theorem dX9_isTorn_49 : decode cX9_isTorn 49 = .ok (.aload_n 0, 1) := by decide +kernel
theorem dX9_isTorn_50 : decode cX9_isTorn 50 = .ok (.getfield 12, 3) := by decide +kernel
theorem dX9_isTorn_53 : decode cX9_isTorn 53 = .ok (.iload_n 1, 1) := by decide +kernel
theorem dX9_isTorn_54 : decode cX9_isTorn 54 = .ok (.invokevirtual 87, 3) := by decide +kernel
theorem dX9_isTorn_57 : decode cX9_isTorn 57 = .ok (.iload_n 2, 1) := by decide +kernel
theorem dX9_isTorn_58 : decode cX9_isTorn 58 = .ok (.iload_n 3, 1) := by decide +kernel
theorem dX9_isTorn_59 : decode cX9_isTorn 59 = .ok (.invokevirtual 207, 3) := by decide +kernel
theorem dX9_isTorn_62 : decode cX9_isTorn 62 = .ok (.ireturn, 1) := by decide +kernel
theorem dX9_netOf_0 : decode cX9_netOf 0 = .ok (.iload_n 1, 1) := by decide +kernel
theorem dX9_netOf_1 : decode cX9_netOf 1 = .ok (.invokestatic 187, 3) := by decide +kernel
theorem dX9_netOf_4 : decode cX9_netOf 4 = .ok (.ifCond .ne 13, 3) := by decide +kernel
theorem dX9_netOf_7 : decode cX9_netOf 7 = .ok (.new 193, 3) := by decide +kernel
theorem dX9_netOf_10 : decode cX9_netOf 10 = .ok (.dup, 1) := by decide +kernel
theorem dX9_netOf_11 : decode cX9_netOf 11 = .ok (.ldc 210, 2) := by decide +kernel
theorem dX9_netOf_13 : decode cX9_netOf 13 = .ok (.invokespecial 197, 3) := by decide +kernel
theorem dX9_netOf_16 : decode cX9_netOf 16 = .ok (.athrow, 1) := by decide +kernel
theorem dX9_netOf_17 : decode cX9_netOf 17 = .ok (.aload_n 0, 1) := by decide +kernel
theorem dX9_netOf_18 : decode cX9_netOf 18 = .ok (.getfield 12, 3) := by decide +kernel
theorem dX9_netOf_21 : decode cX9_netOf 21 = .ok (.iload_n 1, 1) := by decide +kernel
theorem dX9_netOf_22 : decode cX9_netOf 22 = .ok (.invokevirtual 87, 3) := by decide +kernel
theorem dX9_netOf_25 : decode cX9_netOf 25 = .ok (.astore_n 3, 1) := by decide +kernel
theorem dX9_netOf_26 : decode cX9_netOf 26 = .ok (.iload_n 2, 1) := by decide +kernel
theorem dX9_netOf_27 : decode cX9_netOf 27 = .ok (.tableswitch 102 0 6 #[41, 49, 66, 71, 76, 85, 97], 41) := by decide +kernel
theorem dX9_netOf_68 : decode cX9_netOf 68 = .ok (.aload_n 3, 1) := by decide +kernel
theorem dX9_netOf_69 : decode cX9_netOf 69 = .ok (.invokevirtual 212, 3) := by decide +kernel
theorem dX9_netOf_72 : decode cX9_netOf 72 = .ok (.invokestatic 215, 3) := by decide +kernel
theorem dX9_netOf_75 : decode cX9_netOf 75 = .ok (.ireturn, 1) := by decide +kernel
theorem dX9_netOf_76 : decode cX9_netOf 76 = .ok (.aload_n 3, 1) := by decide +kernel
theorem dX9_netOf_77 : decode cX9_netOf 77 = .ok (.invokevirtual 212, 3) := by decide +kernel
theorem dX9_netOf_80 : decode cX9_netOf 80 = .ok (.aload_n 0, 1) := by decide +kernel
theorem dX9_netOf_81 : decode cX9_netOf 81 = .ok (.getfield 12, 3) := by decide +kernel
theorem dX9_netOf_84 : decode cX9_netOf 84 = .ok (.iload_n 1, 1) := by decide +kernel
theorem dX9_netOf_85 : decode cX9_netOf 85 = .ok (.invokevirtual 220, 3) := by decide +kernel
theorem dX9_netOf_88 : decode cX9_netOf 88 = .ok (.iand, 1) := by decide +kernel
theorem dX9_netOf_89 : decode cX9_netOf 89 = .ok (.invokestatic 215, 3) := by decide +kernel
theorem dX9_netOf_92 : decode cX9_netOf 92 = .ok (.ireturn, 1) := by decide +kernel
theorem dX9_netOf_93 : decode cX9_netOf 93 = .ok (.aload_n 3, 1) := by decide +kernel
theorem dX9_netOf_94 : decode cX9_netOf 94 = .ok (.invokevirtual 223, 3) := by decide +kernel
theorem dX9_netOf_97 : decode cX9_netOf 97 = .ok (.ireturn, 1) := by decide +kernel
theorem dX9_netOf_98 : decode cX9_netOf 98 = .ok (.aload_n 3, 1) := by decide +kernel
theorem dX9_netOf_99 : decode cX9_netOf 99 = .ok (.getfield 162, 3) := by decide +kernel
theorem dX9_netOf_102 : decode cX9_netOf 102 = .ok (.ireturn, 1) := by decide +kernel
theorem dX9_netOf_103 : decode cX9_netOf 103 = .ok (.aload_n 0, 1) := by decide +kernel
theorem dX9_netOf_104 : decode cX9_netOf 104 = .ok (.getfield 12, 3) := by decide +kernel
theorem dX9_netOf_107 : decode cX9_netOf 107 = .ok (.iload_n 1, 1) := by decide +kernel
theorem dX9_netOf_108 : decode cX9_netOf 108 = .ok (.invokevirtual 165, 3) := by decide +kernel
theorem dX9_netOf_111 : decode cX9_netOf 111 = .ok (.ireturn, 1) := by decide +kernel
theorem dX9_netOf_112 : decode cX9_netOf 112 = .ok (.aload_n 3, 1) := by decide +kernel
theorem dX9_netOf_113 : decode cX9_netOf 113 = .ok (.aload_n 3, 1) := by decide +kernel
theorem dX9_netOf_114 : decode cX9_netOf 114 = .ok (.invokevirtual 212, 3) := by decide +kernel
theorem dX9_netOf_117 : decode cX9_netOf 117 = .ok (.invokevirtual 226, 3) := by decide +kernel
theorem dX9_netOf_120 : decode cX9_netOf 120 = .ok (.invokestatic 215, 3) := by decide +kernel
theorem dX9_netOf_123 : decode cX9_netOf 123 = .ok (.ireturn, 1) := by decide +kernel
theorem dX9_netOf_124 : decode cX9_netOf 124 = .ok (.aload_n 3, 1) := by decide +kernel
theorem dX9_netOf_125 : decode cX9_netOf 125 = .ok (.invokevirtual 229, 3) := by decide +kernel
theorem dX9_netOf_128 : decode cX9_netOf 128 = .ok (.ireturn, 1) := by decide +kernel
theorem dX9_netOf_129 : decode cX9_netOf 129 = .ok (.new 232, 3) := by decide +kernel
theorem dX9_netOf_132 : decode cX9_netOf 132 = .ok (.dup, 1) := by decide +kernel
theorem dX9_netOf_133 : decode cX9_netOf 133 = .ok (.ldc 234, 2) := by decide +kernel
theorem dX9_netOf_135 : decode cX9_netOf 135 = .ok (.invokespecial 236, 3) := by decide +kernel
theorem dX9_netOf_138 : decode cX9_netOf 138 = .ok (.athrow, 1) := by decide +kernel
theorem dX9_chapters_0 : decode cX9_chapters 0 = .ok (.iload_n 1, 1) := by decide +kernel
theorem dX9_chapters_1 : decode cX9_chapters 1 = .ok (.invokestatic 187, 3) := by decide +kernel
theorem dX9_chapters_4 : decode cX9_chapters 4 = .ok (.ifCond .ne 13, 3) := by decide +kernel
theorem dX9_chapters_7 : decode cX9_chapters 7 = .ok (.new 193, 3) := by decide +kernel
theorem dX9_chapters_10 : decode cX9_chapters 10 = .ok (.dup, 1) := by decide +kernel
theorem dX9_chapters_11 : decode cX9_chapters 11 = .ok (.ldc 210, 2) := by decide +kernel
theorem dX9_chapters_13 : decode cX9_chapters 13 = .ok (.invokespecial 197, 3) := by decide +kernel
theorem dX9_chapters_16 : decode cX9_chapters 16 = .ok (.athrow, 1) := by decide +kernel
theorem dX9_chapters_17 : decode cX9_chapters 17 = .ok (.aload_n 0, 1) := by decide +kernel
theorem dX9_chapters_18 : decode cX9_chapters 18 = .ok (.getfield 12, 3) := by decide +kernel
theorem dX9_chapters_21 : decode cX9_chapters 21 = .ok (.iload_n 1, 1) := by decide +kernel
theorem dX9_chapters_22 : decode cX9_chapters 22 = .ok (.invokevirtual 87, 3) := by decide +kernel
theorem dX9_chapters_25 : decode cX9_chapters 25 = .ok (.invokevirtual 110, 3) := by decide +kernel
theorem dX9_chapters_28 : decode cX9_chapters 28 = .ok (.ireturn, 1) := by decide +kernel
theorem dX9_chaptersAgain_0 : decode cX9_chaptersAgain 0 = .ok (.iload_n 1, 1) := by decide +kernel
theorem dX9_chaptersAgain_1 : decode cX9_chaptersAgain 1 = .ok (.invokestatic 187, 3) := by decide +kernel
theorem dX9_chaptersAgain_4 : decode cX9_chaptersAgain 4 = .ok (.ifCond .ne 13, 3) := by decide +kernel
theorem dX9_chaptersAgain_7 : decode cX9_chaptersAgain 7 = .ok (.new 193, 3) := by decide +kernel
theorem dX9_chaptersAgain_10 : decode cX9_chaptersAgain 10 = .ok (.dup, 1) := by decide +kernel
theorem dX9_chaptersAgain_11 : decode cX9_chaptersAgain 11 = .ok (.ldc 210, 2) := by decide +kernel
theorem dX9_chaptersAgain_13 : decode cX9_chaptersAgain 13 = .ok (.invokespecial 197, 3) := by decide +kernel
theorem dX9_chaptersAgain_16 : decode cX9_chaptersAgain 16 = .ok (.athrow, 1) := by decide +kernel
theorem dX9_chaptersAgain_17 : decode cX9_chaptersAgain 17 = .ok (.aload_n 0, 1) := by decide +kernel
theorem dX9_chaptersAgain_18 : decode cX9_chaptersAgain 18 = .ok (.getfield 12, 3) := by decide +kernel
theorem dX9_chaptersAgain_21 : decode cX9_chaptersAgain 21 = .ok (.iload_n 1, 1) := by decide +kernel
theorem dX9_chaptersAgain_22 : decode cX9_chaptersAgain 22 = .ok (.invokevirtual 87, 3) := by decide +kernel
theorem dX9_chaptersAgain_25 : decode cX9_chaptersAgain 25 = .ok (.aload_n 0, 1) := by decide +kernel
theorem dX9_chaptersAgain_26 : decode cX9_chaptersAgain 26 = .ok (.getfield 36, 3) := by decide +kernel
theorem dX9_chaptersAgain_29 : decode cX9_chaptersAgain 29 = .ok (.invokevirtual 237, 3) := by decide +kernel
theorem dX9_chaptersAgain_32 : decode cX9_chaptersAgain 32 = .ok (.ireturn, 1) := by decide +kernel
theorem dX9_chapterOf_0 : decode cX9_chapterOf 0 = .ok (.iload_n 1, 1) := by decide +kernel
theorem dX9_chapterOf_1 : decode cX9_chapterOf 1 = .ok (.invokestatic 187, 3) := by decide +kernel
theorem dX9_chapterOf_4 : decode cX9_chapterOf 4 = .ok (.ifCond .eq 10, 3) := by decide +kernel
theorem dX9_chapterOf_7 : decode cX9_chapterOf 7 = .ok (.iload_n 2, 1) := by decide +kernel
theorem dX9_chapterOf_8 : decode cX9_chapterOf 8 = .ok (.invokestatic 190, 3) := by decide +kernel
theorem dX9_chapterOf_11 : decode cX9_chapterOf 11 = .ok (.ifCond .ne 13, 3) := by decide +kernel
theorem dX9_chapterOf_14 : decode cX9_chapterOf 14 = .ok (.new 193, 3) := by decide +kernel
theorem dX9_chapterOf_17 : decode cX9_chapterOf 17 = .ok (.dup, 1) := by decide +kernel
theorem dX9_chapterOf_18 : decode cX9_chapterOf 18 = .ok (.ldc 195, 2) := by decide +kernel
theorem dX9_chapterOf_20 : decode cX9_chapterOf 20 = .ok (.invokespecial 197, 3) := by decide +kernel
theorem dX9_chapterOf_23 : decode cX9_chapterOf 23 = .ok (.athrow, 1) := by decide +kernel
theorem dX9_chapterOf_24 : decode cX9_chapterOf 24 = .ok (.iload_n 3, 1) := by decide +kernel
theorem dX9_chapterOf_25 : decode cX9_chapterOf 25 = .ok (.ifCond .lt 8, 3) := by decide +kernel
theorem dX9_chapterOf_28 : decode cX9_chapterOf 28 = .ok (.iload_n 3, 1) := by decide +kernel
theorem dX9_chapterOf_29 : decode cX9_chapterOf 29 = .ok (.iconst 3, 1) := by decide +kernel
theorem dX9_chapterOf_30 : decode cX9_chapterOf 30 = .ok (.if_icmp .le 13, 3) := by decide +kernel
theorem dX9_chapterOf_33 : decode cX9_chapterOf 33 = .ok (.new 232, 3) := by decide +kernel
theorem dX9_chapterOf_36 : decode cX9_chapterOf 36 = .ok (.dup, 1) := by decide +kernel
theorem dX9_chapterOf_37 : decode cX9_chapterOf 37 = .ok (.ldc 234, 2) := by decide +kernel
theorem dX9_chapterOf_39 : decode cX9_chapterOf 39 = .ok (.invokespecial 236, 3) := by decide +kernel
theorem dX9_chapterOf_42 : decode cX9_chapterOf 42 = .ok (.athrow, 1) := by decide +kernel
theorem dX9_chapterOf_43 : decode cX9_chapterOf 43 = .ok (.aload_n 0, 1) := by decide +kernel
theorem dX9_chapterOf_44 : decode cX9_chapterOf 44 = .ok (.getfield 12, 3) := by decide +kernel
theorem dX9_chapterOf_47 : decode cX9_chapterOf 47 = .ok (.iload_n 1, 1) := by decide +kernel
theorem dX9_chapterOf_48 : decode cX9_chapterOf 48 = .ok (.invokevirtual 87, 3) := by decide +kernel
theorem dX9_chapterOf_51 : decode cX9_chapterOf 51 = .ok (.iload_n 2, 1) := by decide +kernel
theorem dX9_chapterOf_52 : decode cX9_chapterOf 52 = .ok (.invokevirtual 241, 3) := by decide +kernel
theorem dX9_chapterOf_55 : decode cX9_chapterOf 55 = .ok (.istore 4, 2) := by decide +kernel
theorem dX9_chapterOf_57 : decode cX9_chapterOf 57 = .ok (.iload 4, 2) := by decide +kernel
theorem dX9_chapterOf_59 : decode cX9_chapterOf 59 = .ok (.ifCond .ne 13, 3) := by decide +kernel
theorem dX9_chapterOf_62 : decode cX9_chapterOf 62 = .ok (.new 202, 3) := by decide +kernel
theorem dX9_chapterOf_65 : decode cX9_chapterOf 65 = .ok (.dup, 1) := by decide +kernel
theorem dX9_chapterOf_66 : decode cX9_chapterOf 66 = .ok (.ldc 244, 2) := by decide +kernel
theorem dX9_chapterOf_68 : decode cX9_chapterOf 68 = .ok (.invokespecial 206, 3) := by decide +kernel
theorem dX9_chapterOf_71 : decode cX9_chapterOf 71 = .ok (.athrow, 1) := by decide +kernel
theorem dX9_chapterOf_72 : decode cX9_chapterOf 72 = .ok (.iload_n 3, 1) := by decide +kernel
theorem dX9_chapterOf_73 : decode cX9_chapterOf 73 = .ok (.tableswitch 54 0 2 #[27, 33, 39], 27) := by decide +kernel
theorem dX9_chapterOf_100 : decode cX9_chapterOf 100 = .ok (.iload 4, 2) := by decide +kernel
theorem dX9_chapterOf_102 : decode cX9_chapterOf 102 = .ok (.invokestatic 246, 3) := by decide +kernel
theorem dX9_chapterOf_105 : decode cX9_chapterOf 105 = .ok (.ireturn, 1) := by decide +kernel
theorem dX9_chapterOf_106 : decode cX9_chapterOf 106 = .ok (.iload 4, 2) := by decide +kernel
theorem dX9_chapterOf_108 : decode cX9_chapterOf 108 = .ok (.invokestatic 215, 3) := by decide +kernel
theorem dX9_chapterOf_111 : decode cX9_chapterOf 111 = .ok (.ireturn, 1) := by decide +kernel
theorem dX9_chapterOf_112 : decode cX9_chapterOf 112 = .ok (.iload 4, 2) := by decide +kernel
theorem dX9_chapterOf_114 : decode cX9_chapterOf 114 = .ok (.aload_n 0, 1) := by decide +kernel
theorem dX9_chapterOf_115 : decode cX9_chapterOf 115 = .ok (.getfield 12, 3) := by decide +kernel
theorem dX9_chapterOf_118 : decode cX9_chapterOf 118 = .ok (.iload_n 1, 1) := by decide +kernel
theorem dX9_chapterOf_119 : decode cX9_chapterOf 119 = .ok (.invokevirtual 220, 3) := by decide +kernel
theorem dX9_chapterOf_122 : decode cX9_chapterOf 122 = .ok (.iand, 1) := by decide +kernel
theorem dX9_chapterOf_123 : decode cX9_chapterOf 123 = .ok (.invokestatic 215, 3) := by decide +kernel
theorem dX9_chapterOf_126 : decode cX9_chapterOf 126 = .ok (.ireturn, 1) := by decide +kernel
theorem dX9_chapterOf_127 : decode cX9_chapterOf 127 = .ok (.aload_n 0, 1) := by decide +kernel
theorem dX9_chapterOf_128 : decode cX9_chapterOf 128 = .ok (.getfield 12, 3) := by decide +kernel
theorem dX9_chapterOf_131 : decode cX9_chapterOf 131 = .ok (.iload_n 1, 1) := by decide +kernel
theorem dX9_chapterOf_132 : decode cX9_chapterOf 132 = .ok (.invokevirtual 87, 3) := by decide +kernel
theorem dX9_chapterOf_135 : decode cX9_chapterOf 135 = .ok (.iload 4, 2) := by decide +kernel
theorem dX9_chapterOf_137 : decode cX9_chapterOf 137 = .ok (.invokevirtual 249, 3) := by decide +kernel
theorem dX9_chapterOf_140 : decode cX9_chapterOf 140 = .ok (.ireturn, 1) := by decide +kernel
theorem dX9_noteOf_0 : decode cX9_noteOf 0 = .ok (.aload_n 0, 1) := by decide +kernel
theorem dX9_noteOf_1 : decode cX9_noteOf 1 = .ok (.getfield 12, 3) := by decide +kernel
theorem dX9_noteOf_4 : decode cX9_noteOf 4 = .ok (.iload_n 1, 1) := by decide +kernel
theorem dX9_noteOf_5 : decode cX9_noteOf 5 = .ok (.invokevirtual 252, 3) := by decide +kernel
theorem dX9_noteOf_8 : decode cX9_noteOf 8 = .ok (.ifCond .ne 13, 3) := by decide +kernel
theorem dX9_noteOf_11 : decode cX9_noteOf 11 = .ok (.new 193, 3) := by decide +kernel
theorem dX9_noteOf_14 : decode cX9_noteOf 14 = .ok (.dup, 1) := by decide +kernel
theorem dX9_noteOf_15 : decode cX9_noteOf 15 = .ok (.ldc 255, 2) := by decide +kernel
theorem dX9_noteOf_17 : decode cX9_noteOf 17 = .ok (.invokespecial 197, 3) := by decide +kernel
theorem dX9_noteOf_20 : decode cX9_noteOf 20 = .ok (.athrow, 1) := by decide +kernel
theorem dX9_noteOf_21 : decode cX9_noteOf 21 = .ok (.aload_n 0, 1) := by decide +kernel
theorem dX9_noteOf_22 : decode cX9_noteOf 22 = .ok (.getfield 12, 3) := by decide +kernel
theorem dX9_noteOf_25 : decode cX9_noteOf 25 = .ok (.iload_n 1, 1) := by decide +kernel
theorem dX9_noteOf_26 : decode cX9_noteOf 26 = .ok (.invokevirtual 257, 3) := by decide +kernel
theorem dX9_noteOf_29 : decode cX9_noteOf 29 = .ok (.astore_n 3, 1) := by decide +kernel
theorem dX9_noteOf_30 : decode cX9_noteOf 30 = .ok (.iload_n 2, 1) := by decide +kernel
theorem dX9_noteOf_31 : decode cX9_noteOf 31 = .ok (.tableswitch 67 0 3 #[29, 34, 42, 50], 29) := by decide +kernel
theorem dX9_noteOf_60 : decode cX9_noteOf 60 = .ok (.aload_n 3, 1) := by decide +kernel
theorem dX9_noteOf_61 : decode cX9_noteOf 61 = .ok (.getfield 261, 3) := by decide +kernel
theorem dX9_noteOf_64 : decode cX9_noteOf 64 = .ok (.ireturn, 1) := by decide +kernel
theorem dX9_noteOf_65 : decode cX9_noteOf 65 = .ok (.aload_n 3, 1) := by decide +kernel
theorem dX9_noteOf_66 : decode cX9_noteOf 66 = .ok (.invokevirtual 266, 3) := by decide +kernel
theorem dX9_noteOf_69 : decode cX9_noteOf 69 = .ok (.invokestatic 246, 3) := by decide +kernel
theorem dX9_noteOf_72 : decode cX9_noteOf 72 = .ok (.ireturn, 1) := by decide +kernel
theorem dX9_noteOf_73 : decode cX9_noteOf 73 = .ok (.aload_n 3, 1) := by decide +kernel
theorem dX9_noteOf_74 : decode cX9_noteOf 74 = .ok (.invokevirtual 266, 3) := by decide +kernel
theorem dX9_noteOf_77 : decode cX9_noteOf 77 = .ok (.invokestatic 215, 3) := by decide +kernel
theorem dX9_noteOf_80 : decode cX9_noteOf 80 = .ok (.ireturn, 1) := by decide +kernel
theorem dX9_noteOf_81 : decode cX9_noteOf 81 = .ok (.aload_n 0, 1) := by decide +kernel
theorem dX9_noteOf_82 : decode cX9_noteOf 82 = .ok (.getfield 12, 3) := by decide +kernel
theorem dX9_noteOf_85 : decode cX9_noteOf 85 = .ok (.aload_n 3, 1) := by decide +kernel
theorem dX9_noteOf_86 : decode cX9_noteOf 86 = .ok (.invokevirtual 269, 3) := by decide +kernel
theorem dX9_noteOf_89 : decode cX9_noteOf 89 = .ok (.ifCond .eq 7, 3) := by decide +kernel
theorem dX9_noteOf_92 : decode cX9_noteOf 92 = .ok (.iconst 1, 1) := by decide +kernel
theorem dX9_noteOf_93 : decode cX9_noteOf 93 = .ok (.goto 4, 3) := by decide +kernel
theorem dX9_noteOf_96 : decode cX9_noteOf 96 = .ok (.iconst 0, 1) := by decide +kernel
theorem dX9_noteOf_97 : decode cX9_noteOf 97 = .ok (.ireturn, 1) := by decide +kernel
theorem dX9_noteOf_98 : decode cX9_noteOf 98 = .ok (.new 232, 3) := by decide +kernel
theorem dX9_noteOf_101 : decode cX9_noteOf 101 = .ok (.dup, 1) := by decide +kernel
theorem dX9_noteOf_102 : decode cX9_noteOf 102 = .ok (.ldc 234, 2) := by decide +kernel
theorem dX9_noteOf_104 : decode cX9_noteOf 104 = .ok (.invokespecial 236, 3) := by decide +kernel
theorem dX9_noteOf_107 : decode cX9_noteOf 107 = .ok (.athrow, 1) := by decide +kernel
theorem dX9_least_0 : decode cX9_least 0 = .ok (.aload_n 0, 1) := by decide +kernel
theorem dX9_least_1 : decode cX9_least 1 = .ok (.getfield 12, 3) := by decide +kernel
theorem dX9_least_4 : decode cX9_least 4 = .ok (.iload_n 1, 1) := by decide +kernel
theorem dX9_least_5 : decode cX9_least 5 = .ok (.invokevirtual 252, 3) := by decide +kernel
theorem dX9_least_8 : decode cX9_least 8 = .ok (.ifCond .ne 13, 3) := by decide +kernel
theorem dX9_least_11 : decode cX9_least 11 = .ok (.new 193, 3) := by decide +kernel
theorem dX9_least_14 : decode cX9_least 14 = .ok (.dup, 1) := by decide +kernel
theorem dX9_least_15 : decode cX9_least 15 = .ok (.ldc 255, 2) := by decide +kernel
theorem dX9_least_17 : decode cX9_least 17 = .ok (.invokespecial 197, 3) := by decide +kernel
theorem dX9_least_20 : decode cX9_least 20 = .ok (.athrow, 1) := by decide +kernel
theorem dX9_least_21 : decode cX9_least 21 = .ok (.aload_n 0, 1) := by decide +kernel
theorem dX9_least_22 : decode cX9_least 22 = .ok (.getfield 12, 3) := by decide +kernel
theorem dX9_least_25 : decode cX9_least 25 = .ok (.iload_n 1, 1) := by decide +kernel
theorem dX9_least_26 : decode cX9_least 26 = .ok (.invokevirtual 257, 3) := by decide +kernel
theorem dX9_least_29 : decode cX9_least 29 = .ok (.astore_n 2, 1) := by decide +kernel
theorem dX9_least_30 : decode cX9_least 30 = .ok (.aload_n 0, 1) := by decide +kernel
theorem dX9_least_31 : decode cX9_least 31 = .ok (.getfield 12, 3) := by decide +kernel
theorem dX9_least_34 : decode cX9_least 34 = .ok (.aload_n 2, 1) := by decide +kernel
theorem dX9_least_35 : decode cX9_least 35 = .ok (.invokevirtual 273, 3) := by decide +kernel
theorem dX9_least_38 : decode cX9_least 38 = .ok (.ifCond .ne 14, 3) := by decide +kernel
theorem dX9_least_41 : decode cX9_least 41 = .ok (.new 202, 3) := by decide +kernel
theorem dX9_least_44 : decode cX9_least 44 = .ok (.dup, 1) := by decide +kernel
theorem dX9_least_45 : decode cX9_least 45 = .ok (.ldc_w 276, 3) := by decide +kernel
theorem dX9_least_48 : decode cX9_least 48 = .ok (.invokespecial 206, 3) := by decide +kernel
theorem dX9_least_51 : decode cX9_least 51 = .ok (.athrow, 1) := by decide +kernel
theorem dX9_least_52 : decode cX9_least 52 = .ok (.aload_n 0, 1) := by decide +kernel
theorem dX9_least_53 : decode cX9_least 53 = .ok (.getfield 12, 3) := by decide +kernel
theorem dX9_least_56 : decode cX9_least 56 = .ok (.aload_n 2, 1) := by decide +kernel
theorem dX9_least_57 : decode cX9_least 57 = .ok (.aload_n 0, 1) := by decide +kernel
theorem dX9_least_58 : decode cX9_least 58 = .ok (.getfield 36, 3) := by decide +kernel
theorem dX9_least_61 : decode cX9_least 61 = .ok (.invokevirtual 278, 3) := by decide +kernel
theorem dX9_least_64 : decode cX9_least 64 = .ok (.ireturn, 1) := by decide +kernel
theorem dX9_leastAgain_0 : decode cX9_leastAgain 0 = .ok (.aload_n 0, 1) := by decide +kernel
theorem dX9_leastAgain_1 : decode cX9_leastAgain 1 = .ok (.getfield 12, 3) := by decide +kernel
theorem dX9_leastAgain_4 : decode cX9_leastAgain 4 = .ok (.iload_n 1, 1) := by decide +kernel
theorem dX9_leastAgain_5 : decode cX9_leastAgain 5 = .ok (.invokevirtual 252, 3) := by decide +kernel
theorem dX9_leastAgain_8 : decode cX9_leastAgain 8 = .ok (.ifCond .ne 13, 3) := by decide +kernel
theorem dX9_leastAgain_11 : decode cX9_leastAgain 11 = .ok (.new 193, 3) := by decide +kernel
theorem dX9_leastAgain_14 : decode cX9_leastAgain 14 = .ok (.dup, 1) := by decide +kernel
theorem dX9_leastAgain_15 : decode cX9_leastAgain 15 = .ok (.ldc 255, 2) := by decide +kernel
theorem dX9_leastAgain_17 : decode cX9_leastAgain 17 = .ok (.invokespecial 197, 3) := by decide +kernel
theorem dX9_leastAgain_20 : decode cX9_leastAgain 20 = .ok (.athrow, 1) := by decide +kernel
theorem dX9_leastAgain_21 : decode cX9_leastAgain 21 = .ok (.aload_n 0, 1) := by decide +kernel
theorem dX9_leastAgain_22 : decode cX9_leastAgain 22 = .ok (.getfield 12, 3) := by decide +kernel
theorem dX9_leastAgain_25 : decode cX9_leastAgain 25 = .ok (.iload_n 1, 1) := by decide +kernel
theorem dX9_leastAgain_26 : decode cX9_leastAgain 26 = .ok (.invokevirtual 257, 3) := by decide +kernel
theorem dX9_leastAgain_29 : decode cX9_leastAgain 29 = .ok (.astore_n 2, 1) := by decide +kernel
theorem dX9_leastAgain_30 : decode cX9_leastAgain 30 = .ok (.aload_n 0, 1) := by decide +kernel
theorem dX9_leastAgain_31 : decode cX9_leastAgain 31 = .ok (.getfield 12, 3) := by decide +kernel
theorem dX9_leastAgain_34 : decode cX9_leastAgain 34 = .ok (.aload_n 2, 1) := by decide +kernel
theorem dX9_leastAgain_35 : decode cX9_leastAgain 35 = .ok (.invokevirtual 273, 3) := by decide +kernel
theorem dX9_leastAgain_38 : decode cX9_leastAgain 38 = .ok (.ifCond .ne 14, 3) := by decide +kernel
theorem dX9_leastAgain_41 : decode cX9_leastAgain 41 = .ok (.new 202, 3) := by decide +kernel
theorem dX9_leastAgain_44 : decode cX9_leastAgain 44 = .ok (.dup, 1) := by decide +kernel
theorem dX9_leastAgain_45 : decode cX9_leastAgain 45 = .ok (.ldc_w 276, 3) := by decide +kernel
theorem dX9_leastAgain_48 : decode cX9_leastAgain 48 = .ok (.invokespecial 206, 3) := by decide +kernel
theorem dX9_leastAgain_51 : decode cX9_leastAgain 51 = .ok (.athrow, 1) := by decide +kernel
theorem dX9_leastAgain_52 : decode cX9_leastAgain 52 = .ok (.aload_n 0, 1) := by decide +kernel
theorem dX9_leastAgain_53 : decode cX9_leastAgain 53 = .ok (.getfield 12, 3) := by decide +kernel
theorem dX9_leastAgain_56 : decode cX9_leastAgain 56 = .ok (.aload_n 2, 1) := by decide +kernel
theorem dX9_leastAgain_57 : decode cX9_leastAgain 57 = .ok (.invokevirtual 282, 3) := by decide +kernel
theorem dX9_leastAgain_60 : decode cX9_leastAgain 60 = .ok (.ireturn, 1) := by decide +kernel
theorem dX9_bestMend_0 : decode cX9_bestMend 0 = .ok (.iload_n 1, 1) := by decide +kernel
theorem dX9_bestMend_1 : decode cX9_bestMend 1 = .ok (.invokestatic 187, 3) := by decide +kernel
theorem dX9_bestMend_4 : decode cX9_bestMend 4 = .ok (.ifCond .ne 13, 3) := by decide +kernel
theorem dX9_bestMend_7 : decode cX9_bestMend 7 = .ok (.new 193, 3) := by decide +kernel
theorem dX9_bestMend_10 : decode cX9_bestMend 10 = .ok (.dup, 1) := by decide +kernel
theorem dX9_bestMend_11 : decode cX9_bestMend 11 = .ok (.ldc 210, 2) := by decide +kernel
theorem dX9_bestMend_13 : decode cX9_bestMend 13 = .ok (.invokespecial 197, 3) := by decide +kernel
theorem dX9_bestMend_16 : decode cX9_bestMend 16 = .ok (.athrow, 1) := by decide +kernel
theorem dX9_bestMend_17 : decode cX9_bestMend 17 = .ok (.aload_n 0, 1) := by decide +kernel
theorem dX9_bestMend_18 : decode cX9_bestMend 18 = .ok (.getfield 12, 3) := by decide +kernel
theorem dX9_bestMend_21 : decode cX9_bestMend 21 = .ok (.iload_n 1, 1) := by decide +kernel
theorem dX9_bestMend_22 : decode cX9_bestMend 22 = .ok (.invokevirtual 87, 3) := by decide +kernel
theorem dX9_bestMend_25 : decode cX9_bestMend 25 = .ok (.iload_n 2, 1) := by decide +kernel
theorem dX9_bestMend_26 : decode cX9_bestMend 26 = .ok (.invokevirtual 286, 3) := by decide +kernel
theorem dX9_bestMend_29 : decode cX9_bestMend 29 = .ok (.istore_n 3, 1) := by decide +kernel
theorem dX9_bestMend_30 : decode cX9_bestMend 30 = .ok (.iload_n 3, 1) := by decide +kernel
theorem dX9_bestMend_31 : decode cX9_bestMend 31 = .ok (.iconst (-1), 1) := by decide +kernel
theorem dX9_bestMend_32 : decode cX9_bestMend 32 = .ok (.if_icmp .ne 14, 3) := by decide +kernel
theorem dX9_bestMend_35 : decode cX9_bestMend 35 = .ok (.new 202, 3) := by decide +kernel
theorem dX9_bestMend_38 : decode cX9_bestMend 38 = .ok (.dup, 1) := by decide +kernel
theorem dX9_bestMend_39 : decode cX9_bestMend 39 = .ok (.ldc_w 290, 3) := by decide +kernel
theorem dX9_bestMend_42 : decode cX9_bestMend 42 = .ok (.invokespecial 206, 3) := by decide +kernel
theorem dX9_bestMend_45 : decode cX9_bestMend 45 = .ok (.athrow, 1) := by decide +kernel
theorem dX9_bestMend_46 : decode cX9_bestMend 46 = .ok (.iload_n 3, 1) := by decide +kernel
theorem dX9_bestMend_47 : decode cX9_bestMend 47 = .ok (.ireturn, 1) := by decide +kernel
theorem dX9_ranked_0 : decode cX9_ranked 0 = .ok (.iload_n 1, 1) := by decide +kernel
theorem dX9_ranked_1 : decode cX9_ranked 1 = .ok (.invokestatic 187, 3) := by decide +kernel
theorem dX9_ranked_4 : decode cX9_ranked 4 = .ok (.ifCond .ne 13, 3) := by decide +kernel
theorem dX9_ranked_7 : decode cX9_ranked 7 = .ok (.new 193, 3) := by decide +kernel
theorem dX9_ranked_10 : decode cX9_ranked 10 = .ok (.dup, 1) := by decide +kernel
theorem dX9_ranked_11 : decode cX9_ranked 11 = .ok (.ldc 210, 2) := by decide +kernel
theorem dX9_ranked_13 : decode cX9_ranked 13 = .ok (.invokespecial 197, 3) := by decide +kernel
theorem dX9_ranked_16 : decode cX9_ranked 16 = .ok (.athrow, 1) := by decide +kernel
theorem dX9_ranked_17 : decode cX9_ranked 17 = .ok (.aload_n 0, 1) := by decide +kernel
theorem dX9_ranked_18 : decode cX9_ranked 18 = .ok (.getfield 12, 3) := by decide +kernel
theorem dX9_ranked_21 : decode cX9_ranked 21 = .ok (.iload_n 1, 1) := by decide +kernel
theorem dX9_ranked_22 : decode cX9_ranked 22 = .ok (.invokevirtual 87, 3) := by decide +kernel
theorem dX9_ranked_25 : decode cX9_ranked 25 = .ok (.iload_n 2, 1) := by decide +kernel
theorem dX9_ranked_26 : decode cX9_ranked 26 = .ok (.invokevirtual 292, 3) := by decide +kernel
theorem dX9_ranked_29 : decode cX9_ranked 29 = .ok (.istore_n 3, 1) := by decide +kernel
theorem dX9_ranked_30 : decode cX9_ranked 30 = .ok (.iload_n 3, 1) := by decide +kernel
theorem dX9_ranked_31 : decode cX9_ranked 31 = .ok (.ifCond .ne 14, 3) := by decide +kernel
theorem dX9_ranked_34 : decode cX9_ranked 34 = .ok (.new 202, 3) := by decide +kernel
theorem dX9_ranked_37 : decode cX9_ranked 37 = .ok (.dup, 1) := by decide +kernel
theorem dX9_ranked_38 : decode cX9_ranked 38 = .ok (.ldc_w 295, 3) := by decide +kernel
theorem dX9_ranked_41 : decode cX9_ranked 41 = .ok (.invokespecial 206, 3) := by decide +kernel
theorem dX9_ranked_44 : decode cX9_ranked 44 = .ok (.athrow, 1) := by decide +kernel
theorem dX9_ranked_45 : decode cX9_ranked 45 = .ok (.iload_n 3, 1) := by decide +kernel
theorem dX9_ranked_46 : decode cX9_ranked 46 = .ok (.invokestatic 246, 3) := by decide +kernel
theorem dX9_ranked_49 : decode cX9_ranked 49 = .ok (.ireturn, 1) := by decide +kernel
theorem dX9_editorOf_0 : decode cX9_editorOf 0 = .ok (.aload_n 0, 1) := by decide +kernel
theorem dX9_editorOf_1 : decode cX9_editorOf 1 = .ok (.getfield 12, 3) := by decide +kernel
theorem dX9_editorOf_4 : decode cX9_editorOf 4 = .ok (.iload_n 1, 1) := by decide +kernel
theorem dX9_editorOf_5 : decode cX9_editorOf 5 = .ok (.invokevirtual 297, 3) := by decide +kernel
theorem dX9_editorOf_8 : decode cX9_editorOf 8 = .ok (.ifCond .ne 14, 3) := by decide +kernel
theorem dX9_editorOf_11 : decode cX9_editorOf 11 = .ok (.new 193, 3) := by decide +kernel
theorem dX9_editorOf_14 : decode cX9_editorOf 14 = .ok (.dup, 1) := by decide +kernel
theorem dX9_editorOf_15 : decode cX9_editorOf 15 = .ok (.ldc_w 300, 3) := by decide +kernel
theorem dX9_editorOf_18 : decode cX9_editorOf 18 = .ok (.invokespecial 197, 3) := by decide +kernel
theorem dX9_editorOf_21 : decode cX9_editorOf 21 = .ok (.athrow, 1) := by decide +kernel
theorem dX9_editorOf_22 : decode cX9_editorOf 22 = .ok (.iload_n 2, 1) := by decide +kernel
theorem dX9_editorOf_23 : decode cX9_editorOf 23 = .ok (.lookupswitch 49 #[(0, 25), (1, 37)], 25) := by decide +kernel
theorem dX9_editorOf_48 : decode cX9_editorOf 48 = .ok (.aload_n 0, 1) := by decide +kernel
theorem dX9_editorOf_49 : decode cX9_editorOf 49 = .ok (.getfield 12, 3) := by decide +kernel
theorem dX9_editorOf_52 : decode cX9_editorOf 52 = .ok (.iload_n 1, 1) := by decide +kernel
theorem dX9_editorOf_53 : decode cX9_editorOf 53 = .ok (.invokevirtual 124, 3) := by decide +kernel
theorem dX9_editorOf_56 : decode cX9_editorOf 56 = .ok (.getfield 128, 3) := by decide +kernel
theorem dX9_editorOf_59 : decode cX9_editorOf 59 = .ok (.ireturn, 1) := by decide +kernel
theorem dX9_editorOf_60 : decode cX9_editorOf 60 = .ok (.aload_n 0, 1) := by decide +kernel
theorem dX9_editorOf_61 : decode cX9_editorOf 61 = .ok (.getfield 12, 3) := by decide +kernel
theorem dX9_editorOf_64 : decode cX9_editorOf 64 = .ok (.iload_n 1, 1) := by decide +kernel
theorem dX9_editorOf_65 : decode cX9_editorOf 65 = .ok (.invokevirtual 124, 3) := by decide +kernel
theorem dX9_editorOf_68 : decode cX9_editorOf 68 = .ok (.getfield 302, 3) := by decide +kernel
theorem dX9_editorOf_71 : decode cX9_editorOf 71 = .ok (.ireturn, 1) := by decide +kernel
theorem dX9_editorOf_72 : decode cX9_editorOf 72 = .ok (.new 232, 3) := by decide +kernel
theorem dX9_editorOf_75 : decode cX9_editorOf 75 = .ok (.dup, 1) := by decide +kernel
