theorem dX9_editorOf_76 : decode cX9_editorOf 76 = .ok (.ldc 234, 2) := by decide +kernel
theorem dX9_editorOf_78 : decode cX9_editorOf 78 = .ok (.invokespecial 236, 3) := by decide +kernel
theorem dX9_editorOf_81 : decode cX9_editorOf 81 = .ok (.athrow, 1) := by decide +kernel
theorem dX9_feed_0 : decode cX9_feed 0 = .ok (.aload_n 0, 1) := by decide +kernel
theorem dX9_feed_1 : decode cX9_feed 1 = .ok (.getfield 43, 3) := by decide +kernel
theorem dX9_feed_4 : decode cX9_feed 4 = .ok (.invokevirtual 305, 3) := by decide +kernel
theorem dX9_feed_7 : decode cX9_feed 7 = .ok (.ifCond .eq 14, 3) := by decide +kernel
theorem dX9_feed_10 : decode cX9_feed 10 = .ok (.new 309, 3) := by decide +kernel
theorem dX9_feed_13 : decode cX9_feed 13 = .ok (.dup, 1) := by decide +kernel
theorem dX9_feed_14 : decode cX9_feed 14 = .ok (.ldc_w 311, 3) := by decide +kernel
theorem dX9_feed_17 : decode cX9_feed 17 = .ok (.invokespecial 313, 3) := by decide +kernel
theorem dX9_feed_20 : decode cX9_feed 20 = .ok (.athrow, 1) := by decide +kernel
theorem dX9_feed_21 : decode cX9_feed 21 = .ok (.aload_n 0, 1) := by decide +kernel
theorem dX9_feed_22 : decode cX9_feed 22 = .ok (.getfield 43, 3) := by decide +kernel
theorem dX9_feed_25 : decode cX9_feed 25 = .ok (.iload_n 1, 1) := by decide +kernel
theorem dX9_feed_26 : decode cX9_feed 26 = .ok (.invokevirtual 314, 3) := by decide +kernel
theorem dX9_feed_29 : decode cX9_feed 29 = .ok (.aload_n 0, 1) := by decide +kernel
theorem dX9_feed_30 : decode cX9_feed 30 = .ok (.getfield 43, 3) := by decide +kernel
theorem dX9_feed_33 : decode cX9_feed 33 = .ok (.getfield 318, 3) := by decide +kernel
theorem dX9_feed_36 : decode cX9_feed 36 = .ok (.ireturn, 1) := by decide +kernel
theorem dX9_run_0 : decode cX9_run 0 = .ok (.aload_n 0, 1) := by decide +kernel
theorem dX9_run_1 : decode cX9_run 1 = .ok (.getfield 43, 3) := by decide +kernel
theorem dX9_run_4 : decode cX9_run 4 = .ok (.invokevirtual 321, 3) := by decide +kernel
theorem dX9_run_7 : decode cX9_run 7 = .ok (.istore_n 1, 1) := by decide +kernel
theorem dX9_run_8 : decode cX9_run 8 = .ok (.aload_n 0, 1) := by decide +kernel
theorem dX9_run_9 : decode cX9_run 9 = .ok (.getfield 43, 3) := by decide +kernel
theorem dX9_run_12 : decode cX9_run 12 = .ok (.invokevirtual 324, 3) := by decide +kernel
theorem dX9_run_15 : decode cX9_run 15 = .ok (.iload_n 1, 1) := by decide +kernel
theorem dX9_run_16 : decode cX9_run 16 = .ok (.iconst (-1), 1) := by decide +kernel
theorem dX9_run_17 : decode cX9_run 17 = .ok (.if_icmp .eq 19, 3) := by decide +kernel
theorem dX9_run_20 : decode cX9_run 20 = .ok (.aload_n 0, 1) := by decide +kernel
theorem dX9_run_21 : decode cX9_run 21 = .ok (.iload_n 1, 1) := by decide +kernel
theorem dX9_run_22 : decode cX9_run 22 = .ok (.putfield 65, 3) := by decide +kernel
theorem dX9_run_25 : decode cX9_run 25 = .ok (.new 232, 3) := by decide +kernel
theorem dX9_run_28 : decode cX9_run 28 = .ok (.dup, 1) := by decide +kernel
theorem dX9_run_29 : decode cX9_run 29 = .ok (.ldc_w 327, 3) := by decide +kernel
theorem dX9_run_32 : decode cX9_run 32 = .ok (.invokespecial 236, 3) := by decide +kernel
theorem dX9_run_35 : decode cX9_run 35 = .ok (.athrow, 1) := by decide +kernel
theorem dX9_run_36 : decode cX9_run 36 = .ok (.aload_n 0, 1) := by decide +kernel
theorem dX9_run_37 : decode cX9_run 37 = .ok (.getfield 16, 3) := by decide +kernel
theorem dX9_run_40 : decode cX9_run 40 = .ok (.aload_n 0, 1) := by decide +kernel
theorem dX9_run_41 : decode cX9_run 41 = .ok (.getfield 12, 3) := by decide +kernel
theorem dX9_run_44 : decode cX9_run 44 = .ok (.invokevirtual 329, 3) := by decide +kernel
theorem dX9_run_47 : decode cX9_run 47 = .ok (.iconst 0, 1) := by decide +kernel
theorem dX9_run_48 : decode cX9_run 48 = .ok (.istore_n 2, 1) := by decide +kernel
theorem dX9_run_49 : decode cX9_run 49 = .ok (.iload_n 2, 1) := by decide +kernel
theorem dX9_run_50 : decode cX9_run 50 = .ok (.aload_n 0, 1) := by decide +kernel
theorem dX9_run_51 : decode cX9_run 51 = .ok (.getfield 43, 3) := by decide +kernel
theorem dX9_run_54 : decode cX9_run 54 = .ok (.getfield 332, 3) := by decide +kernel
theorem dX9_run_57 : decode cX9_run 57 = .ok (.if_icmp .ge 59, 3) := by decide +kernel
theorem dX9_run_60 : decode cX9_run 60 = .ok (.aload_n 0, 1) := by decide +kernel
theorem dX9_run_61 : decode cX9_run 61 = .ok (.iload_n 2, 1) := by decide +kernel
theorem dX9_run_62 : decode cX9_run 62 = .ok (.invokevirtual 335, 3) := by decide +kernel
theorem dX9_run_65 : decode cX9_run 65 = .ok (.istore_n 3, 1) := by decide +kernel
theorem dX9_run_66 : decode cX9_run 66 = .ok (.iload_n 3, 1) := by decide +kernel
theorem dX9_run_67 : decode cX9_run 67 = .ok (.ifCond .eq 38, 3) := by decide +kernel
theorem dX9_run_70 : decode cX9_run 70 = .ok (.aload_n 0, 1) := by decide +kernel
theorem dX9_run_71 : decode cX9_run 71 = .ok (.getfield 12, 3) := by decide +kernel
theorem dX9_run_74 : decode cX9_run 74 = .ok (.aload_n 0, 1) := by decide +kernel
theorem dX9_run_75 : decode cX9_run 75 = .ok (.getfield 16, 3) := by decide +kernel
theorem dX9_run_78 : decode cX9_run 78 = .ok (.invokevirtual 329, 3) := by decide +kernel
theorem dX9_run_81 : decode cX9_run 81 = .ok (.aload_n 0, 1) := by decide +kernel
theorem dX9_run_82 : decode cX9_run 82 = .ok (.getfield 57, 3) := by decide +kernel
theorem dX9_run_85 : decode cX9_run 85 = .ok (.iload_n 2, 1) := by decide +kernel
theorem dX9_run_86 : decode cX9_run 86 = .ok (.iload_n 3, 1) := by decide +kernel
theorem dX9_run_87 : decode cX9_run 87 = .ok (.aload_n 0, 1) := by decide +kernel
theorem dX9_run_88 : decode cX9_run 88 = .ok (.getfield 61, 3) := by decide +kernel
theorem dX9_run_91 : decode cX9_run 91 = .ok (.invokevirtual 338, 3) := by decide +kernel
theorem dX9_run_94 : decode cX9_run 94 = .ok (.new 76, 3) := by decide +kernel
theorem dX9_run_97 : decode cX9_run 97 = .ok (.dup, 1) := by decide +kernel
theorem dX9_run_98 : decode cX9_run 98 = .ok (.ldc_w 341, 3) := by decide +kernel
theorem dX9_run_101 : decode cX9_run 101 = .ok (.invokespecial 80, 3) := by decide +kernel
theorem dX9_run_104 : decode cX9_run 104 = .ok (.athrow, 1) := by decide +kernel
theorem dX9_run_105 : decode cX9_run 105 = .ok (.aload_n 0, 1) := by decide +kernel
theorem dX9_run_106 : decode cX9_run 106 = .ok (.iload_n 2, 1) := by decide +kernel
theorem dX9_run_107 : decode cX9_run 107 = .ok (.invokevirtual 343, 3) := by decide +kernel
theorem dX9_run_110 : decode cX9_run 110 = .ok (.iinc 2 1, 3) := by decide +kernel
theorem dX9_run_113 : decode cX9_run 113 = .ok (.goto (-64), 3) := by decide +kernel
theorem dX9_run_116 : decode cX9_run 116 = .ok (.aload_n 0, 1) := by decide +kernel
theorem dX9_run_117 : decode cX9_run 117 = .ok (.getfield 29, 3) := by decide +kernel
theorem dX9_run_120 : decode cX9_run 120 = .ok (.aload_n 0, 1) := by decide +kernel
theorem dX9_run_121 : decode cX9_run 121 = .ok (.getfield 16, 3) := by decide +kernel
theorem dX9_run_124 : decode cX9_run 124 = .ok (.invokevirtual 83, 3) := by decide +kernel
theorem dX9_run_127 : decode cX9_run 127 = .ok (.aload_n 0, 1) := by decide +kernel
theorem dX9_run_128 : decode cX9_run 128 = .ok (.getfield 43, 3) := by decide +kernel
theorem dX9_run_131 : decode cX9_run 131 = .ok (.getfield 332, 3) := by decide +kernel
theorem dX9_run_134 : decode cX9_run 134 = .ok (.ireturn, 1) := by decide +kernel
theorem dX9_line_0 : decode cX9_line 0 = .ok (.iload_n 1, 1) := by decide +kernel
theorem dX9_line_1 : decode cX9_line 1 = .ok (.invokestatic 187, 3) := by decide +kernel
theorem dX9_line_4 : decode cX9_line 4 = .ok (.ifCond .eq 12, 3) := by decide +kernel
theorem dX9_line_7 : decode cX9_line 7 = .ok (.iload_n 2, 1) := by decide +kernel
theorem dX9_line_8 : decode cX9_line 8 = .ok (.ifCond .lt 8, 3) := by decide +kernel
theorem dX9_line_11 : decode cX9_line 11 = .ok (.iload_n 2, 1) := by decide +kernel
theorem dX9_line_12 : decode cX9_line 12 = .ok (.iconst 4, 1) := by decide +kernel
theorem dX9_line_13 : decode cX9_line 13 = .ok (.if_icmp .lt 14, 3) := by decide +kernel
theorem dX9_line_16 : decode cX9_line 16 = .ok (.new 193, 3) := by decide +kernel
theorem dX9_line_19 : decode cX9_line 19 = .ok (.dup, 1) := by decide +kernel
theorem dX9_line_20 : decode cX9_line 20 = .ok (.ldc_w 364, 3) := by decide +kernel
theorem dX9_line_23 : decode cX9_line 23 = .ok (.invokespecial 197, 3) := by decide +kernel
theorem dX9_line_26 : decode cX9_line 26 = .ok (.athrow, 1) := by decide +kernel
theorem dX9_line_27 : decode cX9_line 27 = .ok (.aload_n 0, 1) := by decide +kernel
theorem dX9_line_28 : decode cX9_line 28 = .ok (.getfield 50, 3) := by decide +kernel
theorem dX9_line_31 : decode cX9_line 31 = .ok (.invokevirtual 366, 3) := by decide +kernel
theorem dX9_line_34 : decode cX9_line 34 = .ok (.iload_n 2, 1) := by decide +kernel
theorem dX9_line_35 : decode cX9_line 35 = .ok (.iconst 4, 1) := by decide +kernel
theorem dX9_line_36 : decode cX9_line 36 = .ok (.aload_n 0, 1) := by decide +kernel
theorem dX9_line_37 : decode cX9_line 37 = .ok (.getfield 12, 3) := by decide +kernel
theorem dX9_line_40 : decode cX9_line 40 = .ok (.iload_n 1, 1) := by decide +kernel
theorem dX9_line_41 : decode cX9_line 41 = .ok (.invokevirtual 165, 3) := by decide +kernel
theorem dX9_line_44 : decode cX9_line 44 = .ok (.isub, 1) := by decide +kernel
theorem dX9_line_45 : decode cX9_line 45 = .ok (.if_icmp .lt 12, 3) := by decide +kernel
theorem dX9_line_48 : decode cX9_line 48 = .ok (.aload_n 0, 1) := by decide +kernel
theorem dX9_line_49 : decode cX9_line 49 = .ok (.getfield 50, 3) := by decide +kernel
theorem dX9_line_52 : decode cX9_line 52 = .ok (.bipush 126, 2) := by decide +kernel
theorem dX9_line_54 : decode cX9_line 54 = .ok (.invokevirtual 367, 3) := by decide +kernel
theorem dX9_line_57 : decode cX9_line 57 = .ok (.aload_n 0, 1) := by decide +kernel
theorem dX9_line_58 : decode cX9_line 58 = .ok (.getfield 12, 3) := by decide +kernel
theorem dX9_line_61 : decode cX9_line 61 = .ok (.iload_n 1, 1) := by decide +kernel
theorem dX9_line_62 : decode cX9_line 62 = .ok (.invokevirtual 87, 3) := by decide +kernel
theorem dX9_line_65 : decode cX9_line 65 = .ok (.iload_n 2, 1) := by decide +kernel
theorem dX9_line_66 : decode cX9_line 66 = .ok (.aload_n 0, 1) := by decide +kernel
theorem dX9_line_67 : decode cX9_line 67 = .ok (.getfield 50, 3) := by decide +kernel
theorem dX9_line_70 : decode cX9_line 70 = .ok (.invokevirtual 368, 3) := by decide +kernel
theorem dX9_line_73 : decode cX9_line 73 = .ok (.aload_n 0, 1) := by decide +kernel
theorem dX9_line_74 : decode cX9_line 74 = .ok (.getfield 50, 3) := by decide +kernel
theorem dX9_line_77 : decode cX9_line 77 = .ok (.getfield 372, 3) := by decide +kernel
theorem dX9_line_80 : decode cX9_line 80 = .ok (.ireturn, 1) := by decide +kernel
theorem dX9_chapterLine_0 : decode cX9_chapterLine 0 = .ok (.iload_n 1, 1) := by decide +kernel
theorem dX9_chapterLine_1 : decode cX9_chapterLine 1 = .ok (.invokestatic 187, 3) := by decide +kernel
theorem dX9_chapterLine_4 : decode cX9_chapterLine 4 = .ok (.ifCond .eq 10, 3) := by decide +kernel
theorem dX9_chapterLine_7 : decode cX9_chapterLine 7 = .ok (.iload_n 2, 1) := by decide +kernel
theorem dX9_chapterLine_8 : decode cX9_chapterLine 8 = .ok (.invokestatic 190, 3) := by decide +kernel
theorem dX9_chapterLine_11 : decode cX9_chapterLine 11 = .ok (.ifCond .ne 13, 3) := by decide +kernel
theorem dX9_chapterLine_14 : decode cX9_chapterLine 14 = .ok (.new 193, 3) := by decide +kernel
theorem dX9_chapterLine_17 : decode cX9_chapterLine 17 = .ok (.dup, 1) := by decide +kernel
theorem dX9_chapterLine_18 : decode cX9_chapterLine 18 = .ok (.ldc 195, 2) := by decide +kernel
theorem dX9_chapterLine_20 : decode cX9_chapterLine 20 = .ok (.invokespecial 197, 3) := by decide +kernel
theorem dX9_chapterLine_23 : decode cX9_chapterLine 23 = .ok (.athrow, 1) := by decide +kernel
theorem dX9_chapterLine_24 : decode cX9_chapterLine 24 = .ok (.aload_n 0, 1) := by decide +kernel
theorem dX9_chapterLine_25 : decode cX9_chapterLine 25 = .ok (.getfield 12, 3) := by decide +kernel
theorem dX9_chapterLine_28 : decode cX9_chapterLine 28 = .ok (.iload_n 1, 1) := by decide +kernel
theorem dX9_chapterLine_29 : decode cX9_chapterLine 29 = .ok (.invokevirtual 87, 3) := by decide +kernel
theorem dX9_chapterLine_32 : decode cX9_chapterLine 32 = .ok (.astore_n 3, 1) := by decide +kernel
theorem dX9_chapterLine_33 : decode cX9_chapterLine 33 = .ok (.aload_n 3, 1) := by decide +kernel
theorem dX9_chapterLine_34 : decode cX9_chapterLine 34 = .ok (.iload_n 2, 1) := by decide +kernel
theorem dX9_chapterLine_35 : decode cX9_chapterLine 35 = .ok (.invokevirtual 241, 3) := by decide +kernel
theorem dX9_chapterLine_38 : decode cX9_chapterLine 38 = .ok (.istore 4, 2) := by decide +kernel
theorem dX9_chapterLine_40 : decode cX9_chapterLine 40 = .ok (.iload 4, 2) := by decide +kernel
theorem dX9_chapterLine_42 : decode cX9_chapterLine 42 = .ok (.ifCond .ne 13, 3) := by decide +kernel
theorem dX9_chapterLine_45 : decode cX9_chapterLine 45 = .ok (.new 202, 3) := by decide +kernel
theorem dX9_chapterLine_48 : decode cX9_chapterLine 48 = .ok (.dup, 1) := by decide +kernel
theorem dX9_chapterLine_49 : decode cX9_chapterLine 49 = .ok (.ldc 244, 2) := by decide +kernel
theorem dX9_chapterLine_51 : decode cX9_chapterLine 51 = .ok (.invokespecial 206, 3) := by decide +kernel
theorem dX9_chapterLine_54 : decode cX9_chapterLine 54 = .ok (.athrow, 1) := by decide +kernel
theorem dX9_chapterLine_55 : decode cX9_chapterLine 55 = .ok (.aload_n 0, 1) := by decide +kernel
theorem dX9_chapterLine_56 : decode cX9_chapterLine 56 = .ok (.getfield 50, 3) := by decide +kernel
theorem dX9_chapterLine_59 : decode cX9_chapterLine 59 = .ok (.invokevirtual 366, 3) := by decide +kernel
theorem dX9_chapterLine_62 : decode cX9_chapterLine 62 = .ok (.aload_n 0, 1) := by decide +kernel
theorem dX9_chapterLine_63 : decode cX9_chapterLine 63 = .ok (.getfield 50, 3) := by decide +kernel
theorem dX9_chapterLine_66 : decode cX9_chapterLine 66 = .ok (.aload_n 3, 1) := by decide +kernel
theorem dX9_chapterLine_67 : decode cX9_chapterLine 67 = .ok (.getfield 373, 3) := by decide +kernel
theorem dX9_chapterLine_70 : decode cX9_chapterLine 70 = .ok (.iload 4, 2) := by decide +kernel
theorem dX9_chapterLine_72 : decode cX9_chapterLine 72 = .ok (.iand, 1) := by decide +kernel
theorem dX9_chapterLine_73 : decode cX9_chapterLine 73 = .ok (.aload_n 3, 1) := by decide +kernel
theorem dX9_chapterLine_74 : decode cX9_chapterLine 74 = .ok (.getfield 376, 3) := by decide +kernel
theorem dX9_chapterLine_77 : decode cX9_chapterLine 77 = .ok (.iload 4, 2) := by decide +kernel
theorem dX9_chapterLine_79 : decode cX9_chapterLine 79 = .ok (.iand, 1) := by decide +kernel
theorem dX9_chapterLine_80 : decode cX9_chapterLine 80 = .ok (.invokevirtual 379, 3) := by decide +kernel
theorem dX9_chapterLine_83 : decode cX9_chapterLine 83 = .ok (.aload_n 0, 1) := by decide +kernel
theorem dX9_chapterLine_84 : decode cX9_chapterLine 84 = .ok (.getfield 50, 3) := by decide +kernel
theorem dX9_chapterLine_87 : decode cX9_chapterLine 87 = .ok (.getfield 372, 3) := by decide +kernel
theorem dX9_chapterLine_90 : decode cX9_chapterLine 90 = .ok (.ireturn, 1) := by decide +kernel
theorem dX9_noteLine_0 : decode cX9_noteLine 0 = .ok (.aload_n 0, 1) := by decide +kernel
theorem dX9_noteLine_1 : decode cX9_noteLine 1 = .ok (.getfield 12, 3) := by decide +kernel
theorem dX9_noteLine_4 : decode cX9_noteLine 4 = .ok (.iload_n 1, 1) := by decide +kernel
theorem dX9_noteLine_5 : decode cX9_noteLine 5 = .ok (.invokevirtual 252, 3) := by decide +kernel
theorem dX9_noteLine_8 : decode cX9_noteLine 8 = .ok (.ifCond .ne 13, 3) := by decide +kernel
theorem dX9_noteLine_11 : decode cX9_noteLine 11 = .ok (.new 193, 3) := by decide +kernel
theorem dX9_noteLine_14 : decode cX9_noteLine 14 = .ok (.dup, 1) := by decide +kernel
theorem dX9_noteLine_15 : decode cX9_noteLine 15 = .ok (.ldc 255, 2) := by decide +kernel
theorem dX9_noteLine_17 : decode cX9_noteLine 17 = .ok (.invokespecial 197, 3) := by decide +kernel
theorem dX9_noteLine_20 : decode cX9_noteLine 20 = .ok (.athrow, 1) := by decide +kernel
theorem dX9_noteLine_21 : decode cX9_noteLine 21 = .ok (.aload_n 0, 1) := by decide +kernel
theorem dX9_noteLine_22 : decode cX9_noteLine 22 = .ok (.getfield 12, 3) := by decide +kernel
theorem dX9_noteLine_25 : decode cX9_noteLine 25 = .ok (.iload_n 1, 1) := by decide +kernel
theorem dX9_noteLine_26 : decode cX9_noteLine 26 = .ok (.invokevirtual 257, 3) := by decide +kernel
theorem dX9_noteLine_29 : decode cX9_noteLine 29 = .ok (.astore_n 2, 1) := by decide +kernel
theorem dX9_noteLine_30 : decode cX9_noteLine 30 = .ok (.aload_n 0, 1) := by decide +kernel
theorem dX9_noteLine_31 : decode cX9_noteLine 31 = .ok (.getfield 50, 3) := by decide +kernel
theorem dX9_noteLine_34 : decode cX9_noteLine 34 = .ok (.invokevirtual 366, 3) := by decide +kernel
theorem dX9_noteLine_37 : decode cX9_noteLine 37 = .ok (.aload_n 0, 1) := by decide +kernel
theorem dX9_noteLine_38 : decode cX9_noteLine 38 = .ok (.getfield 50, 3) := by decide +kernel
theorem dX9_noteLine_41 : decode cX9_noteLine 41 = .ok (.aload_n 2, 1) := by decide +kernel
theorem dX9_noteLine_42 : decode cX9_noteLine 42 = .ok (.getfield 382, 3) := by decide +kernel
theorem dX9_noteLine_45 : decode cX9_noteLine 45 = .ok (.aload_n 2, 1) := by decide +kernel
theorem dX9_noteLine_46 : decode cX9_noteLine 46 = .ok (.getfield 383, 3) := by decide +kernel
theorem dX9_noteLine_49 : decode cX9_noteLine 49 = .ok (.invokevirtual 379, 3) := by decide +kernel
theorem dX9_noteLine_52 : decode cX9_noteLine 52 = .ok (.aload_n 0, 1) := by decide +kernel
theorem dX9_noteLine_53 : decode cX9_noteLine 53 = .ok (.getfield 12, 3) := by decide +kernel
theorem dX9_noteLine_56 : decode cX9_noteLine 56 = .ok (.aload_n 2, 1) := by decide +kernel
theorem dX9_noteLine_57 : decode cX9_noteLine 57 = .ok (.invokevirtual 269, 3) := by decide +kernel
theorem dX9_noteLine_60 : decode cX9_noteLine 60 = .ok (.ifCond .ne 12, 3) := by decide +kernel
theorem dX9_noteLine_63 : decode cX9_noteLine 63 = .ok (.aload_n 0, 1) := by decide +kernel
theorem dX9_noteLine_64 : decode cX9_noteLine 64 = .ok (.getfield 50, 3) := by decide +kernel
theorem dX9_noteLine_67 : decode cX9_noteLine 67 = .ok (.bipush 33, 2) := by decide +kernel
theorem dX9_noteLine_69 : decode cX9_noteLine 69 = .ok (.invokevirtual 367, 3) := by decide +kernel
theorem dX9_noteLine_72 : decode cX9_noteLine 72 = .ok (.aload_n 0, 1) := by decide +kernel
theorem dX9_noteLine_73 : decode cX9_noteLine 73 = .ok (.getfield 50, 3) := by decide +kernel
theorem dX9_noteLine_76 : decode cX9_noteLine 76 = .ok (.getfield 372, 3) := by decide +kernel
theorem dX9_noteLine_79 : decode cX9_noteLine 79 = .ok (.ireturn, 1) := by decide +kernel
theorem dX9_meanKnots_0 : decode cX9_meanKnots 0 = .ok (.aload_n 0, 1) := by decide +kernel
theorem dX9_meanKnots_1 : decode cX9_meanKnots 1 = .ok (.getfield 12, 3) := by decide +kernel
theorem dX9_meanKnots_4 : decode cX9_meanKnots 4 = .ok (.invokevirtual 393, 3) := by decide +kernel
theorem dX9_meanKnots_7 : decode cX9_meanKnots 7 = .ok (.istore_n 1, 1) := by decide +kernel
theorem dX9_meanKnots_8 : decode cX9_meanKnots 8 = .ok (.iload_n 1, 1) := by decide +kernel
theorem dX9_meanKnots_9 : decode cX9_meanKnots 9 = .ok (.ifCond .ne 14, 3) := by decide +kernel
theorem dX9_meanKnots_12 : decode cX9_meanKnots 12 = .ok (.new 396, 3) := by decide +kernel
theorem dX9_meanKnots_15 : decode cX9_meanKnots 15 = .ok (.dup, 1) := by decide +kernel
theorem dX9_meanKnots_16 : decode cX9_meanKnots 16 = .ok (.ldc_w 398, 3) := by decide +kernel
theorem dX9_meanKnots_19 : decode cX9_meanKnots 19 = .ok (.invokespecial 400, 3) := by decide +kernel
theorem dX9_meanKnots_22 : decode cX9_meanKnots 22 = .ok (.athrow, 1) := by decide +kernel
theorem dX9_meanKnots_23 : decode cX9_meanKnots 23 = .ok (.aload_n 0, 1) := by decide +kernel
theorem dX9_meanKnots_24 : decode cX9_meanKnots 24 = .ok (.getfield 12, 3) := by decide +kernel
theorem dX9_meanKnots_27 : decode cX9_meanKnots 27 = .ok (.invokevirtual 401, 3) := by decide +kernel
theorem dX9_meanKnots_30 : decode cX9_meanKnots 30 = .ok (.i2d, 1) := by decide +kernel
theorem dX9_meanKnots_31 : decode cX9_meanKnots 31 = .ok (.iload_n 1, 1) := by decide +kernel
theorem dX9_meanKnots_32 : decode cX9_meanKnots 32 = .ok (.i2d, 1) := by decide +kernel
theorem dX9_meanKnots_33 : decode cX9_meanKnots 33 = .ok (.ddiv, 1) := by decide +kernel
theorem dX9_meanKnots_34 : decode cX9_meanKnots 34 = .ok (.dreturn, 1) := by decide +kernel
theorem dX9_readShare_0 : decode cX9_readShare 0 = .ok (.aload_n 0, 1) := by decide +kernel
theorem dX9_readShare_1 : decode cX9_readShare 1 = .ok (.getfield 12, 3) := by decide +kernel
theorem dX9_readShare_4 : decode cX9_readShare 4 = .ok (.invokevirtual 401, 3) := by decide +kernel
theorem dX9_readShare_7 : decode cX9_readShare 7 = .ok (.istore_n 1, 1) := by decide +kernel
theorem dX9_readShare_8 : decode cX9_readShare 8 = .ok (.iload_n 1, 1) := by decide +kernel
theorem dX9_readShare_9 : decode cX9_readShare 9 = .ok (.ifCond .ne 14, 3) := by decide +kernel
theorem dX9_readShare_12 : decode cX9_readShare 12 = .ok (.new 396, 3) := by decide +kernel
theorem dX9_readShare_15 : decode cX9_readShare 15 = .ok (.dup, 1) := by decide +kernel
theorem dX9_readShare_16 : decode cX9_readShare 16 = .ok (.ldc_w 404, 3) := by decide +kernel
theorem dX9_readShare_19 : decode cX9_readShare 19 = .ok (.invokespecial 400, 3) := by decide +kernel
theorem dX9_readShare_22 : decode cX9_readShare 22 = .ok (.athrow, 1) := by decide +kernel
theorem dX9_readShare_23 : decode cX9_readShare 23 = .ok (.aload_n 0, 1) := by decide +kernel
theorem dX9_readShare_24 : decode cX9_readShare 24 = .ok (.getfield 12, 3) := by decide +kernel
theorem dX9_readShare_27 : decode cX9_readShare 27 = .ok (.invokevirtual 153, 3) := by decide +kernel
theorem dX9_readShare_30 : decode cX9_readShare 30 = .ok (.i2f, 1) := by decide +kernel
theorem dX9_readShare_31 : decode cX9_readShare 31 = .ok (.iload_n 1, 1) := by decide +kernel
theorem dX9_readShare_32 : decode cX9_readShare 32 = .ok (.i2f, 1) := by decide +kernel
theorem dX9_readShare_33 : decode cX9_readShare 33 = .ok (.fdiv, 1) := by decide +kernel
theorem dX9_readShare_34 : decode cX9_readShare 34 = .ok (.freturn, 1) := by decide +kernel
theorem dX9_account_0 : decode cX9_account 0 = .ok (.iload_n 1, 1) := by decide +kernel
theorem dX9_account_1 : decode cX9_account 1 = .ok (.tableswitch 171 0 12 #[67, 75, 83, 91, 99, 107, 115, 123, 131, 139, 147, 155, 163], 67) := by decide +kernel
theorem dX9_account_68 : decode cX9_account 68 = .ok (.aload_n 0, 1) := by decide +kernel
theorem dX9_account_69 : decode cX9_account 69 = .ok (.getfield 12, 3) := by decide +kernel
theorem dX9_account_72 : decode cX9_account 72 = .ok (.invokevirtual 401, 3) := by decide +kernel
theorem dX9_account_75 : decode cX9_account 75 = .ok (.ireturn, 1) := by decide +kernel
theorem dX9_account_76 : decode cX9_account 76 = .ok (.aload_n 0, 1) := by decide +kernel
theorem dX9_account_77 : decode cX9_account 77 = .ok (.getfield 12, 3) := by decide +kernel
theorem dX9_account_80 : decode cX9_account 80 = .ok (.invokevirtual 393, 3) := by decide +kernel
theorem dX9_account_83 : decode cX9_account 83 = .ok (.ireturn, 1) := by decide +kernel
theorem dX9_account_84 : decode cX9_account 84 = .ok (.aload_n 0, 1) := by decide +kernel
theorem dX9_account_85 : decode cX9_account 85 = .ok (.getfield 12, 3) := by decide +kernel
theorem dX9_account_88 : decode cX9_account 88 = .ok (.invokevirtual 406, 3) := by decide +kernel
theorem dX9_account_91 : decode cX9_account 91 = .ok (.ireturn, 1) := by decide +kernel
theorem dX9_account_92 : decode cX9_account 92 = .ok (.aload_n 0, 1) := by decide +kernel
theorem dX9_account_93 : decode cX9_account 93 = .ok (.getfield 12, 3) := by decide +kernel
theorem dX9_account_96 : decode cX9_account 96 = .ok (.getfield 142, 3) := by decide +kernel
theorem dX9_account_99 : decode cX9_account 99 = .ok (.ireturn, 1) := by decide +kernel
theorem dX9_account_100 : decode cX9_account 100 = .ok (.aload_n 0, 1) := by decide +kernel
theorem dX9_account_101 : decode cX9_account 101 = .ok (.getfield 12, 3) := by decide +kernel
theorem dX9_account_104 : decode cX9_account 104 = .ok (.invokevirtual 407, 3) := by decide +kernel
theorem dX9_account_107 : decode cX9_account 107 = .ok (.ireturn, 1) := by decide +kernel
theorem dX9_account_108 : decode cX9_account 108 = .ok (.aload_n 0, 1) := by decide +kernel
theorem dX9_account_109 : decode cX9_account 109 = .ok (.getfield 12, 3) := by decide +kernel
theorem dX9_account_112 : decode cX9_account 112 = .ok (.getfield 176, 3) := by decide +kernel
theorem dX9_account_115 : decode cX9_account 115 = .ok (.ireturn, 1) := by decide +kernel
theorem dX9_account_116 : decode cX9_account 116 = .ok (.aload_n 0, 1) := by decide +kernel
theorem dX9_account_117 : decode cX9_account 117 = .ok (.getfield 12, 3) := by decide +kernel
theorem dX9_account_120 : decode cX9_account 120 = .ok (.invokevirtual 410, 3) := by decide +kernel
theorem dX9_account_123 : decode cX9_account 123 = .ok (.ireturn, 1) := by decide +kernel
theorem dX9_account_124 : decode cX9_account 124 = .ok (.aload_n 0, 1) := by decide +kernel
theorem dX9_account_125 : decode cX9_account 125 = .ok (.getfield 12, 3) := by decide +kernel
theorem dX9_account_128 : decode cX9_account 128 = .ok (.getfield 150, 3) := by decide +kernel
theorem dX9_account_131 : decode cX9_account 131 = .ok (.ireturn, 1) := by decide +kernel
theorem dX9_account_132 : decode cX9_account 132 = .ok (.aload_n 0, 1) := by decide +kernel
theorem dX9_account_133 : decode cX9_account 133 = .ok (.getfield 12, 3) := by decide +kernel
theorem dX9_account_136 : decode cX9_account 136 = .ok (.getfield 413, 3) := by decide +kernel
theorem dX9_account_139 : decode cX9_account 139 = .ok (.ireturn, 1) := by decide +kernel
theorem dX9_account_140 : decode cX9_account 140 = .ok (.aload_n 0, 1) := by decide +kernel
theorem dX9_account_141 : decode cX9_account 141 = .ok (.getfield 12, 3) := by decide +kernel
theorem dX9_account_144 : decode cX9_account 144 = .ok (.getfield 416, 3) := by decide +kernel
theorem dX9_account_147 : decode cX9_account 147 = .ok (.ireturn, 1) := by decide +kernel
theorem dX9_account_148 : decode cX9_account 148 = .ok (.aload_n 0, 1) := by decide +kernel
theorem dX9_account_149 : decode cX9_account 149 = .ok (.getfield 12, 3) := by decide +kernel
theorem dX9_account_152 : decode cX9_account 152 = .ok (.getfield 419, 3) := by decide +kernel
theorem dX9_account_155 : decode cX9_account 155 = .ok (.ireturn, 1) := by decide +kernel
theorem dX9_account_156 : decode cX9_account 156 = .ok (.aload_n 0, 1) := by decide +kernel
theorem dX9_account_157 : decode cX9_account 157 = .ok (.getfield 43, 3) := by decide +kernel
theorem dX9_account_160 : decode cX9_account 160 = .ok (.getfield 318, 3) := by decide +kernel
theorem dX9_account_163 : decode cX9_account 163 = .ok (.ireturn, 1) := by decide +kernel
theorem dX9_account_164 : decode cX9_account 164 = .ok (.aload_n 0, 1) := by decide +kernel
theorem dX9_account_165 : decode cX9_account 165 = .ok (.getfield 29, 3) := by decide +kernel
theorem dX9_account_168 : decode cX9_account 168 = .ok (.getfield 422, 3) := by decide +kernel
theorem dX9_account_171 : decode cX9_account 171 = .ok (.ireturn, 1) := by decide +kernel
theorem dX9_account_172 : decode cX9_account 172 = .ok (.new 232, 3) := by decide +kernel
theorem dX9_account_175 : decode cX9_account 175 = .ok (.dup, 1) := by decide +kernel
theorem dX9_account_176 : decode cX9_account 176 = .ok (.ldc 234, 2) := by decide +kernel
theorem dX9_account_178 : decode cX9_account 178 = .ok (.invokespecial 236, 3) := by decide +kernel
theorem dX9_account_181 : decode cX9_account 181 = .ok (.athrow, 1) := by decide +kernel
theorem dX9_isBalanced_0 : decode cX9_isBalanced 0 = .ok (.aload_n 0, 1) := by decide +kernel
theorem dX9_isBalanced_1 : decode cX9_isBalanced 1 = .ok (.getfield 12, 3) := by decide +kernel
theorem dX9_isBalanced_4 : decode cX9_isBalanced 4 = .ok (.aload_n 0, 1) := by decide +kernel
theorem dX9_isBalanced_5 : decode cX9_isBalanced 5 = .ok (.getfield 36, 3) := by decide +kernel
theorem dX9_isBalanced_8 : decode cX9_isBalanced 8 = .ok (.invokevirtual 425, 3) := by decide +kernel
theorem dX9_isBalanced_11 : decode cX9_isBalanced 11 = .ok (.ifCond .eq 46, 3) := by decide +kernel
theorem dX9_isBalanced_14 : decode cX9_isBalanced 14 = .ok (.aload_n 0, 1) := by decide +kernel
theorem dX9_isBalanced_15 : decode cX9_isBalanced 15 = .ok (.getfield 12, 3) := by decide +kernel
theorem dX9_isBalanced_18 : decode cX9_isBalanced 18 = .ok (.aload_n 0, 1) := by decide +kernel
theorem dX9_isBalanced_19 : decode cX9_isBalanced 19 = .ok (.getfield 36, 3) := by decide +kernel
theorem dX9_isBalanced_22 : decode cX9_isBalanced 22 = .ok (.invokevirtual 429, 3) := by decide +kernel
theorem dX9_isBalanced_25 : decode cX9_isBalanced 25 = .ok (.ifCond .eq 32, 3) := by decide +kernel
theorem dX9_isBalanced_28 : decode cX9_isBalanced 28 = .ok (.aload_n 0, 1) := by decide +kernel
theorem dX9_isBalanced_29 : decode cX9_isBalanced 29 = .ok (.getfield 12, 3) := by decide +kernel
theorem dX9_isBalanced_32 : decode cX9_isBalanced 32 = .ok (.getfield 413, 3) := by decide +kernel
theorem dX9_isBalanced_35 : decode cX9_isBalanced 35 = .ok (.aload_n 0, 1) := by decide +kernel
theorem dX9_isBalanced_36 : decode cX9_isBalanced 36 = .ok (.getfield 12, 3) := by decide +kernel
theorem dX9_isBalanced_39 : decode cX9_isBalanced 39 = .ok (.invokevirtual 406, 3) := by decide +kernel
theorem dX9_isBalanced_42 : decode cX9_isBalanced 42 = .ok (.aload_n 0, 1) := by decide +kernel
theorem dX9_isBalanced_43 : decode cX9_isBalanced 43 = .ok (.getfield 12, 3) := by decide +kernel
theorem dX9_isBalanced_46 : decode cX9_isBalanced 46 = .ok (.getfield 416, 3) := by decide +kernel
theorem dX9_isBalanced_49 : decode cX9_isBalanced 49 = .ok (.iadd, 1) := by decide +kernel
theorem dX9_isBalanced_50 : decode cX9_isBalanced 50 = .ok (.if_icmp .ne 7, 3) := by decide +kernel
theorem dX9_isBalanced_53 : decode cX9_isBalanced 53 = .ok (.iconst 1, 1) := by decide +kernel
theorem dX9_isBalanced_54 : decode cX9_isBalanced 54 = .ok (.goto 4, 3) := by decide +kernel
theorem dX9_isBalanced_57 : decode cX9_isBalanced 57 = .ok (.iconst 0, 1) := by decide +kernel
theorem dX9_isBalanced_58 : decode cX9_isBalanced 58 = .ok (.ireturn, 1) := by decide +kernel
theorem dX9_undo_0 : decode cX9_undo 0 = .ok (.aload_n 0, 1) := by decide +kernel
theorem dX9_undo_1 : decode cX9_undo 1 = .ok (.getfield 29, 3) := by decide +kernel
theorem dX9_undo_4 : decode cX9_undo 4 = .ok (.getfield 422, 3) := by decide +kernel
theorem dX9_undo_7 : decode cX9_undo 7 = .ok (.ifCond .ne 14, 3) := by decide +kernel
theorem dX9_undo_10 : decode cX9_undo 10 = .ok (.new 309, 3) := by decide +kernel
theorem dX9_undo_13 : decode cX9_undo 13 = .ok (.dup, 1) := by decide +kernel
theorem dX9_undo_14 : decode cX9_undo 14 = .ok (.ldc_w 432, 3) := by decide +kernel
theorem dX9_undo_17 : decode cX9_undo 17 = .ok (.invokespecial 313, 3) := by decide +kernel
theorem dX9_undo_20 : decode cX9_undo 20 = .ok (.athrow, 1) := by decide +kernel
theorem dX9_undo_21 : decode cX9_undo 21 = .ok (.aload_n 0, 1) := by decide +kernel
theorem dX9_undo_22 : decode cX9_undo 22 = .ok (.getfield 29, 3) := by decide +kernel
theorem dX9_undo_25 : decode cX9_undo 25 = .ok (.aload_n 0, 1) := by decide +kernel
theorem dX9_undo_26 : decode cX9_undo 26 = .ok (.getfield 12, 3) := by decide +kernel
theorem dX9_undo_29 : decode cX9_undo 29 = .ok (.invokevirtual 434, 3) := by decide +kernel
theorem dX9_undo_32 : decode cX9_undo 32 = .ok (.aload_n 0, 1) := by decide +kernel
theorem dX9_undo_33 : decode cX9_undo 33 = .ok (.getfield 29, 3) := by decide +kernel
theorem dX9_undo_36 : decode cX9_undo 36 = .ok (.getfield 422, 3) := by decide +kernel
theorem dX9_undo_39 : decode cX9_undo 39 = .ok (.ireturn, 1) := by decide +kernel
theorem dX9_save_0 : decode cX9_save 0 = .ok (.aload_n 0, 1) := by decide +kernel
theorem dX9_save_1 : decode cX9_save 1 = .ok (.getfield 19, 3) := by decide +kernel
theorem dX9_save_4 : decode cX9_save 4 = .ok (.aload_n 0, 1) := by decide +kernel
theorem dX9_save_5 : decode cX9_save 5 = .ok (.getfield 12, 3) := by decide +kernel
theorem dX9_save_8 : decode cX9_save 8 = .ok (.invokevirtual 329, 3) := by decide +kernel
theorem dX9_save_11 : decode cX9_save 11 = .ok (.aload_n 0, 1) := by decide +kernel
theorem dX9_save_12 : decode cX9_save 12 = .ok (.iconst 1, 1) := by decide +kernel
theorem dX9_save_13 : decode cX9_save 13 = .ok (.putfield 22, 3) := by decide +kernel
theorem dX9_save_16 : decode cX9_save 16 = .ok (.aload_n 0, 1) := by decide +kernel
theorem dX9_save_17 : decode cX9_save 17 = .ok (.getfield 19, 3) := by decide +kernel
theorem dX9_save_20 : decode cX9_save 20 = .ok (.getfield 176, 3) := by decide +kernel
theorem dX9_save_23 : decode cX9_save 23 = .ok (.ireturn, 1) := by decide +kernel
theorem dX9_restore_0 : decode cX9_restore 0 = .ok (.aload_n 0, 1) := by decide +kernel
theorem dX9_restore_1 : decode cX9_restore 1 = .ok (.getfield 22, 3) := by decide +kernel
theorem dX9_restore_4 : decode cX9_restore 4 = .ok (.ifCond .ne 14, 3) := by decide +kernel
theorem dX9_restore_7 : decode cX9_restore 7 = .ok (.new 309, 3) := by decide +kernel
theorem dX9_restore_10 : decode cX9_restore 10 = .ok (.dup, 1) := by decide +kernel
theorem dX9_restore_11 : decode cX9_restore 11 = .ok (.ldc_w 437, 3) := by decide +kernel
theorem dX9_restore_14 : decode cX9_restore 14 = .ok (.invokespecial 313, 3) := by decide +kernel
theorem dX9_restore_17 : decode cX9_restore 17 = .ok (.athrow, 1) := by decide +kernel
theorem dX9_restore_18 : decode cX9_restore 18 = .ok (.aload_n 0, 1) := by decide +kernel
theorem dX9_restore_19 : decode cX9_restore 19 = .ok (.getfield 12, 3) := by decide +kernel
theorem dX9_restore_22 : decode cX9_restore 22 = .ok (.aload_n 0, 1) := by decide +kernel
theorem dX9_restore_23 : decode cX9_restore 23 = .ok (.getfield 19, 3) := by decide +kernel
theorem dX9_restore_26 : decode cX9_restore 26 = .ok (.invokevirtual 329, 3) := by decide +kernel
theorem dX9_restore_29 : decode cX9_restore 29 = .ok (.aload_n 0, 1) := by decide +kernel
theorem dX9_restore_30 : decode cX9_restore 30 = .ok (.getfield 29, 3) := by decide +kernel
theorem dX9_restore_33 : decode cX9_restore 33 = .ok (.invokevirtual 439, 3) := by decide +kernel
theorem dX9_restore_36 : decode cX9_restore 36 = .ok (.aload_n 0, 1) := by decide +kernel
theorem dX9_restore_37 : decode cX9_restore 37 = .ok (.getfield 12, 3) := by decide +kernel
theorem dX9_restore_40 : decode cX9_restore 40 = .ok (.getfield 176, 3) := by decide +kernel
theorem dX9_restore_43 : decode cX9_restore 43 = .ok (.ireturn, 1) := by decide +kernel
theorem dX9_keepsReason_0 : decode cX9_keepsReason 0 = .ok (.iload_n 1, 1) := by decide +kernel
theorem dX9_keepsReason_1 : decode cX9_keepsReason 1 = .ok (.ifCond .ne 5, 3) := by decide +kernel
theorem dX9_keepsReason_4 : decode cX9_keepsReason 4 = .ok (.iconst 0, 1) := by decide +kernel
theorem dX9_keepsReason_5 : decode cX9_keepsReason 5 = .ok (.ireturn, 1) := by decide +kernel
theorem dX9_keepsReason_6 : decode cX9_keepsReason 6 = .ok (.aload_n 0, 1) := by decide +kernel
theorem dX9_keepsReason_7 : decode cX9_keepsReason 7 = .ok (.getfield 57, 3) := by decide +kernel
theorem dX9_keepsReason_10 : decode cX9_keepsReason 10 = .ok (.iload_n 1, 1) := by decide +kernel
theorem dX9_keepsReason_11 : decode cX9_keepsReason 11 = .ok (.aload_n 0, 1) := by decide +kernel
theorem dX9_keepsReason_12 : decode cX9_keepsReason 12 = .ok (.getfield 61, 3) := by decide +kernel
theorem dX9_keepsReason_15 : decode cX9_keepsReason 15 = .ok (.invokevirtual 440, 3) := by decide +kernel
theorem dX9_keepsReason_18 : decode cX9_keepsReason 18 = .ok (.iconst 1, 1) := by decide +kernel
theorem dX9_keepsReason_19 : decode cX9_keepsReason 19 = .ok (.ireturn, 1) := by decide +kernel
theorem dX9_found_0 : decode cX9_found 0 = .ok (.aload_n 0, 1) := by decide +kernel
theorem dX9_found_1 : decode cX9_found 1 = .ok (.iload_n 2, 1) := by decide +kernel
theorem dX9_found_2 : decode cX9_found 2 = .ok (.putfield 61, 3) := by decide +kernel
theorem dX9_found_5 : decode cX9_found 5 = .ok (.iload_n 1, 1) := by decide +kernel
theorem dX9_found_6 : decode cX9_found 6 = .ok (.ireturn, 1) := by decide +kernel
theorem dX9_reasonAgainstKnot_0 : decode cX9_reasonAgainstKnot 0 = .ok (.iload_n 1, 1) := by decide +kernel
theorem dX9_reasonAgainstKnot_1 : decode cX9_reasonAgainstKnot 1 = .ok (.invokestatic 187, 3) := by decide +kernel
theorem dX9_reasonAgainstKnot_4 : decode cX9_reasonAgainstKnot 4 = .ok (.ifCond .ne 10, 3) := by decide +kernel
theorem dX9_reasonAgainstKnot_7 : decode cX9_reasonAgainstKnot 7 = .ok (.aload_n 0, 1) := by decide +kernel
theorem dX9_reasonAgainstKnot_8 : decode cX9_reasonAgainstKnot 8 = .ok (.iconst 2, 1) := by decide +kernel
theorem dX9_reasonAgainstKnot_9 : decode cX9_reasonAgainstKnot 9 = .ok (.iload_n 1, 1) := by decide +kernel
theorem dX9_reasonAgainstKnot_10 : decode cX9_reasonAgainstKnot 10 = .ok (.invokevirtual 443, 3) := by decide +kernel
theorem dX9_reasonAgainstKnot_13 : decode cX9_reasonAgainstKnot 13 = .ok (.ireturn, 1) := by decide +kernel
theorem dX9_reasonAgainstKnot_14 : decode cX9_reasonAgainstKnot 14 = .ok (.iload_n 2, 1) := by decide +kernel
theorem dX9_reasonAgainstKnot_15 : decode cX9_reasonAgainstKnot 15 = .ok (.invokestatic 190, 3) := by decide +kernel
theorem dX9_reasonAgainstKnot_18 : decode cX9_reasonAgainstKnot 18 = .ok (.ifCond .ne 10, 3) := by decide +kernel
theorem dX9_reasonAgainstKnot_21 : decode cX9_reasonAgainstKnot 21 = .ok (.aload_n 0, 1) := by decide +kernel
theorem dX9_reasonAgainstKnot_22 : decode cX9_reasonAgainstKnot 22 = .ok (.iconst 2, 1) := by decide +kernel
theorem dX9_reasonAgainstKnot_23 : decode cX9_reasonAgainstKnot 23 = .ok (.iload_n 2, 1) := by decide +kernel
theorem dX9_reasonAgainstKnot_24 : decode cX9_reasonAgainstKnot 24 = .ok (.invokevirtual 443, 3) := by decide +kernel
theorem dX9_reasonAgainstKnot_27 : decode cX9_reasonAgainstKnot 27 = .ok (.ireturn, 1) := by decide +kernel
theorem dX9_reasonAgainstKnot_28 : decode cX9_reasonAgainstKnot 28 = .ok (.iload_n 3, 1) := by decide +kernel
theorem dX9_reasonAgainstKnot_29 : decode cX9_reasonAgainstKnot 29 = .ok (.ifCond .lt 8, 3) := by decide +kernel
theorem dX9_reasonAgainstKnot_32 : decode cX9_reasonAgainstKnot 32 = .ok (.iload_n 3, 1) := by decide +kernel
theorem dX9_reasonAgainstKnot_33 : decode cX9_reasonAgainstKnot 33 = .ok (.iconst 3, 1) := by decide +kernel
theorem dX9_reasonAgainstKnot_34 : decode cX9_reasonAgainstKnot 34 = .ok (.if_icmp .le 10, 3) := by decide +kernel
theorem dX9_reasonAgainstKnot_37 : decode cX9_reasonAgainstKnot 37 = .ok (.aload_n 0, 1) := by decide +kernel
theorem dX9_reasonAgainstKnot_38 : decode cX9_reasonAgainstKnot 38 = .ok (.iconst 3, 1) := by decide +kernel
theorem dX9_reasonAgainstKnot_39 : decode cX9_reasonAgainstKnot 39 = .ok (.iload_n 3, 1) := by decide +kernel
theorem dX9_reasonAgainstKnot_40 : decode cX9_reasonAgainstKnot 40 = .ok (.invokevirtual 443, 3) := by decide +kernel
theorem dX9_reasonAgainstKnot_43 : decode cX9_reasonAgainstKnot 43 = .ok (.ireturn, 1) := by decide +kernel
theorem dX9_reasonAgainstKnot_44 : decode cX9_reasonAgainstKnot 44 = .ok (.aload_n 0, 1) := by decide +kernel
theorem dX9_reasonAgainstKnot_45 : decode cX9_reasonAgainstKnot 45 = .ok (.getfield 12, 3) := by decide +kernel
theorem dX9_reasonAgainstKnot_48 : decode cX9_reasonAgainstKnot 48 = .ok (.iload_n 1, 1) := by decide +kernel
theorem dX9_reasonAgainstKnot_49 : decode cX9_reasonAgainstKnot 49 = .ok (.invokevirtual 87, 3) := by decide +kernel
theorem dX9_reasonAgainstKnot_52 : decode cX9_reasonAgainstKnot 52 = .ok (.iload_n 2, 1) := by decide +kernel
theorem dX9_reasonAgainstKnot_53 : decode cX9_reasonAgainstKnot 53 = .ok (.invokevirtual 91, 3) := by decide +kernel
theorem dX9_reasonAgainstKnot_56 : decode cX9_reasonAgainstKnot 56 = .ok (.iload_n 3, 1) := by decide +kernel
theorem dX9_reasonAgainstKnot_57 : decode cX9_reasonAgainstKnot 57 = .ok (.if_icmp .ne 10, 3) := by decide +kernel
theorem dX9_reasonAgainstKnot_60 : decode cX9_reasonAgainstKnot 60 = .ok (.aload_n 0, 1) := by decide +kernel
theorem dX9_reasonAgainstKnot_61 : decode cX9_reasonAgainstKnot 61 = .ok (.iconst 4, 1) := by decide +kernel
theorem dX9_reasonAgainstKnot_62 : decode cX9_reasonAgainstKnot 62 = .ok (.iload_n 3, 1) := by decide +kernel
theorem dX9_reasonAgainstKnot_63 : decode cX9_reasonAgainstKnot 63 = .ok (.invokevirtual 443, 3) := by decide +kernel
theorem dX9_reasonAgainstKnot_66 : decode cX9_reasonAgainstKnot 66 = .ok (.ireturn, 1) := by decide +kernel
theorem dX9_reasonAgainstKnot_67 : decode cX9_reasonAgainstKnot 67 = .ok (.iconst 0, 1) := by decide +kernel
theorem dX9_reasonAgainstKnot_68 : decode cX9_reasonAgainstKnot 68 = .ok (.ireturn, 1) := by decide +kernel
theorem dX9_reasonAgainstEnds_0 : decode cX9_reasonAgainstEnds 0 = .ok (.iload_n 1, 1) := by decide +kernel
theorem dX9_reasonAgainstEnds_1 : decode cX9_reasonAgainstEnds 1 = .ok (.invokestatic 187, 3) := by decide +kernel
theorem dX9_reasonAgainstEnds_4 : decode cX9_reasonAgainstEnds 4 = .ok (.ifCond .ne 10, 3) := by decide +kernel
theorem dX9_reasonAgainstEnds_7 : decode cX9_reasonAgainstEnds 7 = .ok (.aload_n 0, 1) := by decide +kernel
theorem dX9_reasonAgainstEnds_8 : decode cX9_reasonAgainstEnds 8 = .ok (.iconst 2, 1) := by decide +kernel
theorem dX9_reasonAgainstEnds_9 : decode cX9_reasonAgainstEnds 9 = .ok (.iload_n 1, 1) := by decide +kernel
theorem dX9_reasonAgainstEnds_10 : decode cX9_reasonAgainstEnds 10 = .ok (.invokevirtual 443, 3) := by decide +kernel
theorem dX9_reasonAgainstEnds_13 : decode cX9_reasonAgainstEnds 13 = .ok (.ireturn, 1) := by decide +kernel
theorem dX9_reasonAgainstEnds_14 : decode cX9_reasonAgainstEnds 14 = .ok (.iload_n 2, 1) := by decide +kernel
theorem dX9_reasonAgainstEnds_15 : decode cX9_reasonAgainstEnds 15 = .ok (.invokestatic 190, 3) := by decide +kernel
theorem dX9_reasonAgainstEnds_18 : decode cX9_reasonAgainstEnds 18 = .ok (.ifCond .ne 10, 3) := by decide +kernel
theorem dX9_reasonAgainstEnds_21 : decode cX9_reasonAgainstEnds 21 = .ok (.aload_n 0, 1) := by decide +kernel
theorem dX9_reasonAgainstEnds_22 : decode cX9_reasonAgainstEnds 22 = .ok (.iconst 2, 1) := by decide +kernel
theorem dX9_reasonAgainstEnds_23 : decode cX9_reasonAgainstEnds 23 = .ok (.iload_n 2, 1) := by decide +kernel
theorem dX9_reasonAgainstEnds_24 : decode cX9_reasonAgainstEnds 24 = .ok (.invokevirtual 443, 3) := by decide +kernel
theorem dX9_reasonAgainstEnds_27 : decode cX9_reasonAgainstEnds 27 = .ok (.ireturn, 1) := by decide +kernel
theorem dX9_reasonAgainstEnds_28 : decode cX9_reasonAgainstEnds 28 = .ok (.iload_n 3, 1) := by decide +kernel
theorem dX9_reasonAgainstEnds_29 : decode cX9_reasonAgainstEnds 29 = .ok (.invokestatic 190, 3) := by decide +kernel
theorem dX9_reasonAgainstEnds_32 : decode cX9_reasonAgainstEnds 32 = .ok (.ifCond .ne 10, 3) := by decide +kernel
theorem dX9_reasonAgainstEnds_35 : decode cX9_reasonAgainstEnds 35 = .ok (.aload_n 0, 1) := by decide +kernel
theorem dX9_reasonAgainstEnds_36 : decode cX9_reasonAgainstEnds 36 = .ok (.iconst 2, 1) := by decide +kernel
theorem dX9_reasonAgainstEnds_37 : decode cX9_reasonAgainstEnds 37 = .ok (.iload_n 3, 1) := by decide +kernel
theorem dX9_reasonAgainstEnds_38 : decode cX9_reasonAgainstEnds 38 = .ok (.invokevirtual 443, 3) := by decide +kernel
theorem dX9_reasonAgainstEnds_41 : decode cX9_reasonAgainstEnds 41 = .ok (.ireturn, 1) := by decide +kernel
theorem dX9_reasonAgainstEnds_42 : decode cX9_reasonAgainstEnds 42 = .ok (.iconst 0, 1) := by decide +kernel
theorem dX9_reasonAgainstEnds_43 : decode cX9_reasonAgainstEnds 43 = .ok (.ireturn, 1) := by decide +kernel
theorem dX9_reasonAgainstString_0 : decode cX9_reasonAgainstString 0 = .ok (.iload_n 2, 1) := by decide +kernel
theorem dX9_reasonAgainstString_1 : decode cX9_reasonAgainstString 1 = .ok (.iload_n 3, 1) := by decide +kernel
theorem dX9_reasonAgainstString_2 : decode cX9_reasonAgainstString 2 = .ok (.invokestatic 198, 3) := by decide +kernel
theorem dX9_reasonAgainstString_5 : decode cX9_reasonAgainstString 5 = .ok (.ifCond .ne 10, 3) := by decide +kernel
theorem dX9_reasonAgainstString_8 : decode cX9_reasonAgainstString 8 = .ok (.aload_n 0, 1) := by decide +kernel
theorem dX9_reasonAgainstString_9 : decode cX9_reasonAgainstString 9 = .ok (.iconst 5, 1) := by decide +kernel
theorem dX9_reasonAgainstString_10 : decode cX9_reasonAgainstString 10 = .ok (.iload_n 3, 1) := by decide +kernel
theorem dX9_reasonAgainstString_11 : decode cX9_reasonAgainstString 11 = .ok (.invokevirtual 443, 3) := by decide +kernel
theorem dX9_reasonAgainstString_14 : decode cX9_reasonAgainstString 14 = .ok (.ireturn, 1) := by decide +kernel
theorem dX9_reasonAgainstString_15 : decode cX9_reasonAgainstString 15 = .ok (.aload_n 0, 1) := by decide +kernel
theorem dX9_reasonAgainstString_16 : decode cX9_reasonAgainstString 16 = .ok (.getfield 12, 3) := by decide +kernel
theorem dX9_reasonAgainstString_19 : decode cX9_reasonAgainstString 19 = .ok (.iload_n 1, 1) := by decide +kernel
theorem dX9_reasonAgainstString_20 : decode cX9_reasonAgainstString 20 = .ok (.invokevirtual 87, 3) := by decide +kernel
theorem dX9_reasonAgainstString_23 : decode cX9_reasonAgainstString 23 = .ok (.iload_n 2, 1) := by decide +kernel
theorem dX9_reasonAgainstString_24 : decode cX9_reasonAgainstString 24 = .ok (.iload_n 3, 1) := by decide +kernel
theorem dX9_reasonAgainstString_25 : decode cX9_reasonAgainstString 25 = .ok (.invokevirtual 207, 3) := by decide +kernel
theorem dX9_reasonAgainstString_28 : decode cX9_reasonAgainstString 28 = .ok (.iload 4, 2) := by decide +kernel
theorem dX9_reasonAgainstString_30 : decode cX9_reasonAgainstString 30 = .ok (.if_icmp .eq 14, 3) := by decide +kernel
theorem dX9_reasonAgainstString_33 : decode cX9_reasonAgainstString 33 = .ok (.aload_n 0, 1) := by decide +kernel
theorem dX9_reasonAgainstString_34 : decode cX9_reasonAgainstString 34 = .ok (.iconst 4, 1) := by decide +kernel
theorem dX9_reasonAgainstString_35 : decode cX9_reasonAgainstString 35 = .ok (.iload_n 2, 1) := by decide +kernel
theorem dX9_reasonAgainstString_36 : decode cX9_reasonAgainstString 36 = .ok (.iload_n 3, 1) := by decide +kernel
theorem dX9_reasonAgainstString_37 : decode cX9_reasonAgainstString 37 = .ok (.invokestatic 446, 3) := by decide +kernel
theorem dX9_reasonAgainstString_40 : decode cX9_reasonAgainstString 40 = .ok (.invokevirtual 443, 3) := by decide +kernel
theorem dX9_reasonAgainstString_43 : decode cX9_reasonAgainstString 43 = .ok (.ireturn, 1) := by decide +kernel
theorem dX9_reasonAgainstString_44 : decode cX9_reasonAgainstString 44 = .ok (.iconst 0, 1) := by decide +kernel
theorem dX9_reasonAgainstString_45 : decode cX9_reasonAgainstString 45 = .ok (.ireturn, 1) := by decide +kernel
theorem dX9_reasonAgainstTear_0 : decode cX9_reasonAgainstTear 0 = .ok (.aload_n 0, 1) := by decide +kernel
theorem dX9_reasonAgainstTear_1 : decode cX9_reasonAgainstTear 1 = .ok (.iload_n 1, 1) := by decide +kernel
theorem dX9_reasonAgainstTear_2 : decode cX9_reasonAgainstTear 2 = .ok (.iload_n 2, 1) := by decide +kernel
theorem dX9_reasonAgainstTear_3 : decode cX9_reasonAgainstTear 3 = .ok (.iload_n 3, 1) := by decide +kernel
theorem dX9_reasonAgainstTear_4 : decode cX9_reasonAgainstTear 4 = .ok (.invokevirtual 451, 3) := by decide +kernel
theorem dX9_reasonAgainstTear_7 : decode cX9_reasonAgainstTear 7 = .ok (.istore 4, 2) := by decide +kernel
theorem dX9_reasonAgainstTear_9 : decode cX9_reasonAgainstTear 9 = .ok (.iload 4, 2) := by decide +kernel
theorem dX9_reasonAgainstTear_11 : decode cX9_reasonAgainstTear 11 = .ok (.ifCond .ne 14, 3) := by decide +kernel
theorem dX9_reasonAgainstTear_14 : decode cX9_reasonAgainstTear 14 = .ok (.aload_n 0, 1) := by decide +kernel
theorem dX9_reasonAgainstTear_15 : decode cX9_reasonAgainstTear 15 = .ok (.iload_n 1, 1) := by decide +kernel
theorem dX9_reasonAgainstTear_16 : decode cX9_reasonAgainstTear 16 = .ok (.iload_n 2, 1) := by decide +kernel
theorem dX9_reasonAgainstTear_17 : decode cX9_reasonAgainstTear 17 = .ok (.iload_n 3, 1) := by decide +kernel
theorem dX9_reasonAgainstTear_18 : decode cX9_reasonAgainstTear 18 = .ok (.iconst 0, 1) := by decide +kernel
theorem dX9_reasonAgainstTear_19 : decode cX9_reasonAgainstTear 19 = .ok (.invokevirtual 454, 3) := by decide +kernel
theorem dX9_reasonAgainstTear_22 : decode cX9_reasonAgainstTear 22 = .ok (.goto 5, 3) := by decide +kernel
theorem dX9_reasonAgainstTear_25 : decode cX9_reasonAgainstTear 25 = .ok (.iload 4, 2) := by decide +kernel
theorem dX9_reasonAgainstTear_27 : decode cX9_reasonAgainstTear 27 = .ok (.ireturn, 1) := by decide +kernel
theorem dX9_reasonAgainstMend_0 : decode cX9_reasonAgainstMend 0 = .ok (.aload_n 0, 1) := by decide +kernel
theorem dX9_reasonAgainstMend_1 : decode cX9_reasonAgainstMend 1 = .ok (.iload_n 1, 1) := by decide +kernel
theorem dX9_reasonAgainstMend_2 : decode cX9_reasonAgainstMend 2 = .ok (.iload_n 2, 1) := by decide +kernel
theorem dX9_reasonAgainstMend_3 : decode cX9_reasonAgainstMend 3 = .ok (.iload_n 3, 1) := by decide +kernel
theorem dX9_reasonAgainstMend_4 : decode cX9_reasonAgainstMend 4 = .ok (.invokevirtual 451, 3) := by decide +kernel
theorem dX9_reasonAgainstMend_7 : decode cX9_reasonAgainstMend 7 = .ok (.istore 5, 2) := by decide +kernel
theorem dX9_reasonAgainstMend_9 : decode cX9_reasonAgainstMend 9 = .ok (.iload 5, 2) := by decide +kernel
theorem dX9_reasonAgainstMend_11 : decode cX9_reasonAgainstMend 11 = .ok (.ifCond .eq 6, 3) := by decide +kernel
theorem dX9_reasonAgainstMend_14 : decode cX9_reasonAgainstMend 14 = .ok (.iload 5, 2) := by decide +kernel
theorem dX9_reasonAgainstMend_16 : decode cX9_reasonAgainstMend 16 = .ok (.ireturn, 1) := by decide +kernel
theorem dX9_reasonAgainstMend_17 : decode cX9_reasonAgainstMend 17 = .ok (.aload_n 0, 1) := by decide +kernel
theorem dX9_reasonAgainstMend_18 : decode cX9_reasonAgainstMend 18 = .ok (.getfield 12, 3) := by decide +kernel
theorem dX9_reasonAgainstMend_21 : decode cX9_reasonAgainstMend 21 = .ok (.iload 4, 2) := by decide +kernel
theorem dX9_reasonAgainstMend_23 : decode cX9_reasonAgainstMend 23 = .ok (.invokevirtual 297, 3) := by decide +kernel
theorem dX9_reasonAgainstMend_26 : decode cX9_reasonAgainstMend 26 = .ok (.ifCond .ne 11, 3) := by decide +kernel
theorem dX9_reasonAgainstMend_29 : decode cX9_reasonAgainstMend 29 = .ok (.aload_n 0, 1) := by decide +kernel
theorem dX9_reasonAgainstMend_30 : decode cX9_reasonAgainstMend 30 = .ok (.iconst 2, 1) := by decide +kernel
theorem dX9_reasonAgainstMend_31 : decode cX9_reasonAgainstMend 31 = .ok (.iload 4, 2) := by decide +kernel
theorem dX9_reasonAgainstMend_33 : decode cX9_reasonAgainstMend 33 = .ok (.invokevirtual 443, 3) := by decide +kernel
theorem dX9_reasonAgainstMend_36 : decode cX9_reasonAgainstMend 36 = .ok (.ireturn, 1) := by decide +kernel
theorem dX9_reasonAgainstMend_37 : decode cX9_reasonAgainstMend 37 = .ok (.aload_n 0, 1) := by decide +kernel
theorem dX9_reasonAgainstMend_38 : decode cX9_reasonAgainstMend 38 = .ok (.iload_n 1, 1) := by decide +kernel
theorem dX9_reasonAgainstMend_39 : decode cX9_reasonAgainstMend 39 = .ok (.iload_n 2, 1) := by decide +kernel
theorem dX9_reasonAgainstMend_40 : decode cX9_reasonAgainstMend 40 = .ok (.iload_n 3, 1) := by decide +kernel
theorem dX9_reasonAgainstMend_41 : decode cX9_reasonAgainstMend 41 = .ok (.iconst 1, 1) := by decide +kernel
theorem dX9_reasonAgainstMend_42 : decode cX9_reasonAgainstMend 42 = .ok (.invokevirtual 454, 3) := by decide +kernel
theorem dX9_reasonAgainstMend_45 : decode cX9_reasonAgainstMend 45 = .ok (.istore 5, 2) := by decide +kernel
theorem dX9_reasonAgainstMend_47 : decode cX9_reasonAgainstMend 47 = .ok (.iload 5, 2) := by decide +kernel
theorem dX9_reasonAgainstMend_49 : decode cX9_reasonAgainstMend 49 = .ok (.ifCond .eq 6, 3) := by decide +kernel
theorem dX9_reasonAgainstMend_52 : decode cX9_reasonAgainstMend 52 = .ok (.iload 5, 2) := by decide +kernel
theorem dX9_reasonAgainstMend_54 : decode cX9_reasonAgainstMend 54 = .ok (.ireturn, 1) := by decide +kernel
theorem dX9_reasonAgainstMend_55 : decode cX9_reasonAgainstMend 55 = .ok (.aload_n 0, 1) := by decide +kernel
theorem dX9_reasonAgainstMend_56 : decode cX9_reasonAgainstMend 56 = .ok (.getfield 12, 3) := by decide +kernel
theorem dX9_reasonAgainstMend_59 : decode cX9_reasonAgainstMend 59 = .ok (.iload 4, 2) := by decide +kernel
theorem dX9_reasonAgainstMend_61 : decode cX9_reasonAgainstMend 61 = .ok (.invokevirtual 124, 3) := by decide +kernel
theorem dX9_reasonAgainstMend_64 : decode cX9_reasonAgainstMend 64 = .ok (.getfield 128, 3) := by decide +kernel
theorem dX9_reasonAgainstMend_67 : decode cX9_reasonAgainstMend 67 = .ok (.istore 6, 2) := by decide +kernel
theorem dX9_reasonAgainstMend_69 : decode cX9_reasonAgainstMend 69 = .ok (.iload 6, 2) := by decide +kernel
theorem dX9_reasonAgainstMend_71 : decode cX9_reasonAgainstMend 71 = .ok (.iload_n 2, 1) := by decide +kernel
theorem dX9_reasonAgainstMend_72 : decode cX9_reasonAgainstMend 72 = .ok (.iload_n 3, 1) := by decide +kernel
theorem dX9_reasonAgainstMend_73 : decode cX9_reasonAgainstMend 73 = .ok (.invokestatic 458, 3) := by decide +kernel
theorem dX9_reasonAgainstMend_76 : decode cX9_reasonAgainstMend 76 = .ok (.if_icmp .ge 14, 3) := by decide +kernel
theorem dX9_reasonAgainstMend_79 : decode cX9_reasonAgainstMend 79 = .ok (.aload_n 0, 1) := by decide +kernel
theorem dX9_reasonAgainstMend_80 : decode cX9_reasonAgainstMend 80 = .ok (.bipush 6, 2) := by decide +kernel
theorem dX9_reasonAgainstMend_82 : decode cX9_reasonAgainstMend 82 = .ok (.iload 6, 2) := by decide +kernel
theorem dX9_reasonAgainstMend_84 : decode cX9_reasonAgainstMend 84 = .ok (.invokevirtual 443, 3) := by decide +kernel
theorem dX9_reasonAgainstMend_87 : decode cX9_reasonAgainstMend 87 = .ok (.goto 4, 3) := by decide +kernel
theorem dX9_reasonAgainstMend_90 : decode cX9_reasonAgainstMend 90 = .ok (.iconst 0, 1) := by decide +kernel
theorem dX9_reasonAgainstMend_91 : decode cX9_reasonAgainstMend 91 = .ok (.ireturn, 1) := by decide +kernel
theorem dX9_reasonAgainstEditor_0 : decode cX9_reasonAgainstEditor 0 = .ok (.iload_n 1, 1) := by decide +kernel
theorem dX9_reasonAgainstEditor_1 : decode cX9_reasonAgainstEditor 1 = .ok (.ifCond .lt 9, 3) := by decide +kernel
theorem dX9_reasonAgainstEditor_4 : decode cX9_reasonAgainstEditor 4 = .ok (.iload_n 1, 1) := by decide +kernel
theorem dX9_reasonAgainstEditor_5 : decode cX9_reasonAgainstEditor 5 = .ok (.bipush 99, 2) := by decide +kernel
theorem dX9_reasonAgainstEditor_7 : decode cX9_reasonAgainstEditor 7 = .ok (.if_icmp .le 10, 3) := by decide +kernel
theorem dX9_reasonAgainstEditor_10 : decode cX9_reasonAgainstEditor 10 = .ok (.aload_n 0, 1) := by decide +kernel
theorem dX9_reasonAgainstEditor_11 : decode cX9_reasonAgainstEditor 11 = .ok (.iconst 3, 1) := by decide +kernel
theorem dX9_reasonAgainstEditor_12 : decode cX9_reasonAgainstEditor 12 = .ok (.iload_n 1, 1) := by decide +kernel
theorem dX9_reasonAgainstEditor_13 : decode cX9_reasonAgainstEditor 13 = .ok (.invokevirtual 443, 3) := by decide +kernel
theorem dX9_reasonAgainstEditor_16 : decode cX9_reasonAgainstEditor 16 = .ok (.ireturn, 1) := by decide +kernel
theorem dX9_reasonAgainstEditor_17 : decode cX9_reasonAgainstEditor 17 = .ok (.aload_n 0, 1) := by decide +kernel
theorem dX9_reasonAgainstEditor_18 : decode cX9_reasonAgainstEditor 18 = .ok (.getfield 12, 3) := by decide +kernel
theorem dX9_reasonAgainstEditor_21 : decode cX9_reasonAgainstEditor 21 = .ok (.getfield 142, 3) := by decide +kernel
theorem dX9_reasonAgainstEditor_24 : decode cX9_reasonAgainstEditor 24 = .ok (.iconst 4, 1) := by decide +kernel
theorem dX9_reasonAgainstEditor_25 : decode cX9_reasonAgainstEditor 25 = .ok (.if_icmp .lt 18, 3) := by decide +kernel
theorem dX9_reasonAgainstEditor_28 : decode cX9_reasonAgainstEditor 28 = .ok (.aload_n 0, 1) := by decide +kernel
theorem dX9_reasonAgainstEditor_29 : decode cX9_reasonAgainstEditor 29 = .ok (.iconst 1, 1) := by decide +kernel
theorem dX9_reasonAgainstEditor_30 : decode cX9_reasonAgainstEditor 30 = .ok (.aload_n 0, 1) := by decide +kernel
theorem dX9_reasonAgainstEditor_31 : decode cX9_reasonAgainstEditor 31 = .ok (.getfield 12, 3) := by decide +kernel
theorem dX9_reasonAgainstEditor_34 : decode cX9_reasonAgainstEditor 34 = .ok (.getfield 142, 3) := by decide +kernel
theorem dX9_reasonAgainstEditor_37 : decode cX9_reasonAgainstEditor 37 = .ok (.invokevirtual 443, 3) := by decide +kernel
theorem dX9_reasonAgainstEditor_40 : decode cX9_reasonAgainstEditor 40 = .ok (.goto 4, 3) := by decide +kernel
theorem dX9_reasonAgainstEditor_43 : decode cX9_reasonAgainstEditor 43 = .ok (.iconst 0, 1) := by decide +kernel
theorem dX9_reasonAgainstEditor_44 : decode cX9_reasonAgainstEditor 44 = .ok (.ireturn, 1) := by decide +kernel
theorem dX9_reasonAgainstTide_0 : decode cX9_reasonAgainstTide 0 = .ok (.iload_n 1, 1) := by decide +kernel
theorem dX9_reasonAgainstTide_1 : decode cX9_reasonAgainstTide 1 = .ok (.ifCond .lt 8, 3) := by decide +kernel
theorem dX9_reasonAgainstTide_4 : decode cX9_reasonAgainstTide 4 = .ok (.iload_n 1, 1) := by decide +kernel
theorem dX9_reasonAgainstTide_5 : decode cX9_reasonAgainstTide 5 = .ok (.iconst 4, 1) := by decide +kernel
theorem dX9_reasonAgainstTide_6 : decode cX9_reasonAgainstTide 6 = .ok (.if_icmp .le 10, 3) := by decide +kernel
theorem dX9_reasonAgainstTide_9 : decode cX9_reasonAgainstTide 9 = .ok (.aload_n 0, 1) := by decide +kernel
theorem dX9_reasonAgainstTide_10 : decode cX9_reasonAgainstTide 10 = .ok (.iconst 3, 1) := by decide +kernel
theorem dX9_reasonAgainstTide_11 : decode cX9_reasonAgainstTide 11 = .ok (.iload_n 1, 1) := by decide +kernel
theorem dX9_reasonAgainstTide_12 : decode cX9_reasonAgainstTide 12 = .ok (.invokevirtual 443, 3) := by decide +kernel
theorem dX9_reasonAgainstTide_15 : decode cX9_reasonAgainstTide 15 = .ok (.ireturn, 1) := by decide +kernel
theorem dX9_reasonAgainstTide_16 : decode cX9_reasonAgainstTide 16 = .ok (.aload_n 0, 1) := by decide +kernel
theorem dX9_reasonAgainstTide_17 : decode cX9_reasonAgainstTide 17 = .ok (.getfield 12, 3) := by decide +kernel
theorem dX9_reasonAgainstTide_20 : decode cX9_reasonAgainstTide 20 = .ok (.getfield 150, 3) := by decide +kernel
theorem dX9_reasonAgainstTide_23 : decode cX9_reasonAgainstTide 23 = .ok (.iload_n 1, 1) := by decide +kernel
theorem dX9_reasonAgainstTide_24 : decode cX9_reasonAgainstTide 24 = .ok (.if_icmp .ne 12, 3) := by decide +kernel
theorem dX9_reasonAgainstTide_27 : decode cX9_reasonAgainstTide 27 = .ok (.aload_n 0, 1) := by decide +kernel
theorem dX9_reasonAgainstTide_28 : decode cX9_reasonAgainstTide 28 = .ok (.iconst 4, 1) := by decide +kernel
theorem dX9_reasonAgainstTide_29 : decode cX9_reasonAgainstTide 29 = .ok (.iload_n 1, 1) := by decide +kernel
theorem dX9_reasonAgainstTide_30 : decode cX9_reasonAgainstTide 30 = .ok (.invokevirtual 443, 3) := by decide +kernel
theorem dX9_reasonAgainstTide_33 : decode cX9_reasonAgainstTide 33 = .ok (.goto 4, 3) := by decide +kernel
theorem dX9_reasonAgainstTide_36 : decode cX9_reasonAgainstTide 36 = .ok (.iconst 0, 1) := by decide +kernel
theorem dX9_reasonAgainstTide_37 : decode cX9_reasonAgainstTide 37 = .ok (.ireturn, 1) := by decide +kernel
theorem dX9_reasonAgainstSink_0 : decode cX9_reasonAgainstSink 0 = .ok (.iload_n 1, 1) := by decide +kernel
theorem dX9_reasonAgainstSink_1 : decode cX9_reasonAgainstSink 1 = .ok (.invokestatic 187, 3) := by decide +kernel
theorem dX9_reasonAgainstSink_4 : decode cX9_reasonAgainstSink 4 = .ok (.ifCond .ne 10, 3) := by decide +kernel
theorem dX9_reasonAgainstSink_7 : decode cX9_reasonAgainstSink 7 = .ok (.aload_n 0, 1) := by decide +kernel
theorem dX9_reasonAgainstSink_8 : decode cX9_reasonAgainstSink 8 = .ok (.iconst 2, 1) := by decide +kernel
theorem dX9_reasonAgainstSink_9 : decode cX9_reasonAgainstSink 9 = .ok (.iload_n 1, 1) := by decide +kernel
theorem dX9_reasonAgainstSink_10 : decode cX9_reasonAgainstSink 10 = .ok (.invokevirtual 443, 3) := by decide +kernel
theorem dX9_reasonAgainstSink_13 : decode cX9_reasonAgainstSink 13 = .ok (.ireturn, 1) := by decide +kernel
theorem dX9_reasonAgainstSink_14 : decode cX9_reasonAgainstSink 14 = .ok (.iload_n 2, 1) := by decide +kernel
theorem dX9_reasonAgainstSink_15 : decode cX9_reasonAgainstSink 15 = .ok (.ifCond .lt 8, 3) := by decide +kernel
theorem dX9_reasonAgainstSink_18 : decode cX9_reasonAgainstSink 18 = .ok (.iload_n 2, 1) := by decide +kernel
theorem dX9_reasonAgainstSink_19 : decode cX9_reasonAgainstSink 19 = .ok (.iconst 4, 1) := by decide +kernel
theorem dX9_reasonAgainstSink_20 : decode cX9_reasonAgainstSink 20 = .ok (.if_icmp .le 10, 3) := by decide +kernel
theorem dX9_reasonAgainstSink_23 : decode cX9_reasonAgainstSink 23 = .ok (.aload_n 0, 1) := by decide +kernel
theorem dX9_reasonAgainstSink_24 : decode cX9_reasonAgainstSink 24 = .ok (.iconst 3, 1) := by decide +kernel
theorem dX9_reasonAgainstSink_25 : decode cX9_reasonAgainstSink 25 = .ok (.iload_n 2, 1) := by decide +kernel
theorem dX9_reasonAgainstSink_26 : decode cX9_reasonAgainstSink 26 = .ok (.invokevirtual 443, 3) := by decide +kernel
theorem dX9_reasonAgainstSink_29 : decode cX9_reasonAgainstSink 29 = .ok (.ireturn, 1) := by decide +kernel
theorem dX9_reasonAgainstSink_30 : decode cX9_reasonAgainstSink 30 = .ok (.aload_n 0, 1) := by decide +kernel
theorem dX9_reasonAgainstSink_31 : decode cX9_reasonAgainstSink 31 = .ok (.getfield 12, 3) := by decide +kernel
theorem dX9_reasonAgainstSink_34 : decode cX9_reasonAgainstSink 34 = .ok (.iload_n 1, 1) := by decide +kernel
theorem dX9_reasonAgainstSink_35 : decode cX9_reasonAgainstSink 35 = .ok (.invokevirtual 87, 3) := by decide +kernel
theorem dX9_reasonAgainstSink_38 : decode cX9_reasonAgainstSink 38 = .ok (.getfield 162, 3) := by decide +kernel
theorem dX9_reasonAgainstSink_41 : decode cX9_reasonAgainstSink 41 = .ok (.iload_n 2, 1) := by decide +kernel
theorem dX9_reasonAgainstSink_42 : decode cX9_reasonAgainstSink 42 = .ok (.if_icmp .ne 7, 3) := by decide +kernel
theorem dX9_reasonAgainstSink_45 : decode cX9_reasonAgainstSink 45 = .ok (.iconst 1, 1) := by decide +kernel
theorem dX9_reasonAgainstSink_46 : decode cX9_reasonAgainstSink 46 = .ok (.goto 4, 3) := by decide +kernel
theorem dX9_reasonAgainstSink_49 : decode cX9_reasonAgainstSink 49 = .ok (.iconst 0, 1) := by decide +kernel
theorem dX9_reasonAgainstSink_50 : decode cX9_reasonAgainstSink 50 = .ok (.istore_n 3, 1) := by decide +kernel
theorem dX9_reasonAgainstSink_51 : decode cX9_reasonAgainstSink 51 = .ok (.iload_n 3, 1) := by decide +kernel
theorem dX9_reasonAgainstSink_52 : decode cX9_reasonAgainstSink 52 = .ok (.ifCond .eq 12, 3) := by decide +kernel
theorem dX9_reasonAgainstSink_55 : decode cX9_reasonAgainstSink 55 = .ok (.aload_n 0, 1) := by decide +kernel
theorem dX9_reasonAgainstSink_56 : decode cX9_reasonAgainstSink 56 = .ok (.iconst 4, 1) := by decide +kernel
theorem dX9_reasonAgainstSink_57 : decode cX9_reasonAgainstSink 57 = .ok (.iload_n 2, 1) := by decide +kernel
theorem dX9_reasonAgainstSink_58 : decode cX9_reasonAgainstSink 58 = .ok (.invokevirtual 443, 3) := by decide +kernel
theorem dX9_reasonAgainstSink_61 : decode cX9_reasonAgainstSink 61 = .ok (.goto 4, 3) := by decide +kernel
theorem dX9_reasonAgainstSink_64 : decode cX9_reasonAgainstSink 64 = .ok (.iconst 0, 1) := by decide +kernel
theorem dX9_reasonAgainstSink_65 : decode cX9_reasonAgainstSink 65 = .ok (.ireturn, 1) := by decide +kernel
theorem dX9_reasonAgainstNote_0 : decode cX9_reasonAgainstNote 0 = .ok (.iload_n 1, 1) := by decide +kernel
theorem dX9_reasonAgainstNote_1 : decode cX9_reasonAgainstNote 1 = .ok (.invokestatic 187, 3) := by decide +kernel
theorem dX9_reasonAgainstNote_4 : decode cX9_reasonAgainstNote 4 = .ok (.ifCond .ne 10, 3) := by decide +kernel
theorem dX9_reasonAgainstNote_7 : decode cX9_reasonAgainstNote 7 = .ok (.aload_n 0, 1) := by decide +kernel
theorem dX9_reasonAgainstNote_8 : decode cX9_reasonAgainstNote 8 = .ok (.iconst 2, 1) := by decide +kernel
theorem dX9_reasonAgainstNote_9 : decode cX9_reasonAgainstNote 9 = .ok (.iload_n 1, 1) := by decide +kernel
theorem dX9_reasonAgainstNote_10 : decode cX9_reasonAgainstNote 10 = .ok (.invokevirtual 443, 3) := by decide +kernel
theorem dX9_reasonAgainstNote_13 : decode cX9_reasonAgainstNote 13 = .ok (.ireturn, 1) := by decide +kernel
theorem dX9_reasonAgainstNote_14 : decode cX9_reasonAgainstNote 14 = .ok (.iload_n 2, 1) := by decide +kernel
theorem dX9_reasonAgainstNote_15 : decode cX9_reasonAgainstNote 15 = .ok (.invokestatic 190, 3) := by decide +kernel
theorem dX9_reasonAgainstNote_18 : decode cX9_reasonAgainstNote 18 = .ok (.ifCond .ne 10, 3) := by decide +kernel
theorem dX9_reasonAgainstNote_21 : decode cX9_reasonAgainstNote 21 = .ok (.aload_n 0, 1) := by decide +kernel
theorem dX9_reasonAgainstNote_22 : decode cX9_reasonAgainstNote 22 = .ok (.iconst 2, 1) := by decide +kernel
theorem dX9_reasonAgainstNote_23 : decode cX9_reasonAgainstNote 23 = .ok (.iload_n 2, 1) := by decide +kernel
theorem dX9_reasonAgainstNote_24 : decode cX9_reasonAgainstNote 24 = .ok (.invokevirtual 443, 3) := by decide +kernel
theorem dX9_reasonAgainstNote_27 : decode cX9_reasonAgainstNote 27 = .ok (.ireturn, 1) := by decide +kernel
theorem dX9_reasonAgainstNote_28 : decode cX9_reasonAgainstNote 28 = .ok (.aload_n 0, 1) := by decide +kernel
theorem dX9_reasonAgainstNote_29 : decode cX9_reasonAgainstNote 29 = .ok (.getfield 12, 3) := by decide +kernel
theorem dX9_reasonAgainstNote_32 : decode cX9_reasonAgainstNote 32 = .ok (.iload_n 1, 1) := by decide +kernel
theorem dX9_reasonAgainstNote_33 : decode cX9_reasonAgainstNote 33 = .ok (.invokevirtual 87, 3) := by decide +kernel
theorem dX9_reasonAgainstNote_36 : decode cX9_reasonAgainstNote 36 = .ok (.iload_n 2, 1) := by decide +kernel
theorem dX9_reasonAgainstNote_37 : decode cX9_reasonAgainstNote 37 = .ok (.invokevirtual 241, 3) := by decide +kernel
theorem dX9_reasonAgainstNote_40 : decode cX9_reasonAgainstNote 40 = .ok (.istore_n 3, 1) := by decide +kernel
theorem dX9_reasonAgainstNote_41 : decode cX9_reasonAgainstNote 41 = .ok (.iload_n 3, 1) := by decide +kernel
theorem dX9_reasonAgainstNote_42 : decode cX9_reasonAgainstNote 42 = .ok (.ifCond .ne 11, 3) := by decide +kernel
theorem dX9_reasonAgainstNote_45 : decode cX9_reasonAgainstNote 45 = .ok (.aload_n 0, 1) := by decide +kernel
theorem dX9_reasonAgainstNote_46 : decode cX9_reasonAgainstNote 46 = .ok (.bipush 7, 2) := by decide +kernel
theorem dX9_reasonAgainstNote_48 : decode cX9_reasonAgainstNote 48 = .ok (.iload_n 2, 1) := by decide +kernel
theorem dX9_reasonAgainstNote_49 : decode cX9_reasonAgainstNote 49 = .ok (.invokevirtual 443, 3) := by decide +kernel
theorem dX9_reasonAgainstNote_52 : decode cX9_reasonAgainstNote 52 = .ok (.ireturn, 1) := by decide +kernel
theorem dX9_reasonAgainstNote_53 : decode cX9_reasonAgainstNote 53 = .ok (.aload_n 0, 1) := by decide +kernel
theorem dX9_reasonAgainstNote_54 : decode cX9_reasonAgainstNote 54 = .ok (.getfield 12, 3) := by decide +kernel
theorem dX9_reasonAgainstNote_57 : decode cX9_reasonAgainstNote 57 = .ok (.iload_n 1, 1) := by decide +kernel
theorem dX9_reasonAgainstNote_58 : decode cX9_reasonAgainstNote 58 = .ok (.iload_n 3, 1) := by decide +kernel
theorem dX9_reasonAgainstNote_59 : decode cX9_reasonAgainstNote 59 = .ok (.invokevirtual 461, 3) := by decide +kernel
theorem dX9_reasonAgainstNote_62 : decode cX9_reasonAgainstNote 62 = .ok (.istore 4, 2) := by decide +kernel
theorem dX9_reasonAgainstNote_64 : decode cX9_reasonAgainstNote 64 = .ok (.iload 4, 2) := by decide +kernel
theorem dX9_reasonAgainstNote_66 : decode cX9_reasonAgainstNote 66 = .ok (.iconst (-1), 1) := by decide +kernel
theorem dX9_reasonAgainstNote_67 : decode cX9_reasonAgainstNote 67 = .ok (.if_icmp .eq 12, 3) := by decide +kernel
theorem dX9_reasonAgainstNote_70 : decode cX9_reasonAgainstNote 70 = .ok (.aload_n 0, 1) := by decide +kernel
theorem dX9_reasonAgainstNote_71 : decode cX9_reasonAgainstNote 71 = .ok (.bipush 8, 2) := by decide +kernel
theorem dX9_reasonAgainstNote_73 : decode cX9_reasonAgainstNote 73 = .ok (.iload 4, 2) := by decide +kernel
theorem dX9_reasonAgainstNote_75 : decode cX9_reasonAgainstNote 75 = .ok (.invokevirtual 443, 3) := by decide +kernel
theorem dX9_reasonAgainstNote_78 : decode cX9_reasonAgainstNote 78 = .ok (.ireturn, 1) := by decide +kernel
theorem dX9_reasonAgainstNote_79 : decode cX9_reasonAgainstNote 79 = .ok (.aload_n 0, 1) := by decide +kernel
theorem dX9_reasonAgainstNote_80 : decode cX9_reasonAgainstNote 80 = .ok (.getfield 12, 3) := by decide +kernel
theorem dX9_reasonAgainstNote_83 : decode cX9_reasonAgainstNote 83 = .ok (.getfield 176, 3) := by decide +kernel
theorem dX9_reasonAgainstNote_86 : decode cX9_reasonAgainstNote 86 = .ok (.bipush 6, 2) := by decide +kernel
theorem dX9_reasonAgainstNote_88 : decode cX9_reasonAgainstNote 88 = .ok (.if_icmp .lt 18, 3) := by decide +kernel
theorem dX9_reasonAgainstNote_91 : decode cX9_reasonAgainstNote 91 = .ok (.aload_n 0, 1) := by decide +kernel
theorem dX9_reasonAgainstNote_92 : decode cX9_reasonAgainstNote 92 = .ok (.iconst 1, 1) := by decide +kernel
theorem dX9_reasonAgainstNote_93 : decode cX9_reasonAgainstNote 93 = .ok (.aload_n 0, 1) := by decide +kernel
theorem dX9_reasonAgainstNote_94 : decode cX9_reasonAgainstNote 94 = .ok (.getfield 12, 3) := by decide +kernel
theorem dX9_reasonAgainstNote_97 : decode cX9_reasonAgainstNote 97 = .ok (.getfield 176, 3) := by decide +kernel
theorem dX9_reasonAgainstNote_100 : decode cX9_reasonAgainstNote 100 = .ok (.invokevirtual 443, 3) := by decide +kernel
theorem dX9_reasonAgainstNote_103 : decode cX9_reasonAgainstNote 103 = .ok (.goto 4, 3) := by decide +kernel
theorem dX9_reasonAgainstNote_106 : decode cX9_reasonAgainstNote 106 = .ok (.iconst 0, 1) := by decide +kernel
theorem dX9_reasonAgainstNote_107 : decode cX9_reasonAgainstNote 107 = .ok (.ireturn, 1) := by decide +kernel
theorem dX9_reasonAgainstDrop_0 : decode cX9_reasonAgainstDrop 0 = .ok (.aload_n 0, 1) := by decide +kernel
theorem dX9_reasonAgainstDrop_1 : decode cX9_reasonAgainstDrop 1 = .ok (.getfield 12, 3) := by decide +kernel
theorem dX9_reasonAgainstDrop_4 : decode cX9_reasonAgainstDrop 4 = .ok (.iload_n 1, 1) := by decide +kernel
theorem dX9_reasonAgainstDrop_5 : decode cX9_reasonAgainstDrop 5 = .ok (.invokevirtual 252, 3) := by decide +kernel
theorem dX9_reasonAgainstDrop_8 : decode cX9_reasonAgainstDrop 8 = .ok (.ifCond .eq 7, 3) := by decide +kernel
theorem dX9_reasonAgainstDrop_11 : decode cX9_reasonAgainstDrop 11 = .ok (.iconst 0, 1) := by decide +kernel
theorem dX9_reasonAgainstDrop_12 : decode cX9_reasonAgainstDrop 12 = .ok (.goto 9, 3) := by decide +kernel
theorem dX9_reasonAgainstDrop_15 : decode cX9_reasonAgainstDrop 15 = .ok (.aload_n 0, 1) := by decide +kernel
theorem dX9_reasonAgainstDrop_16 : decode cX9_reasonAgainstDrop 16 = .ok (.iconst 2, 1) := by decide +kernel
theorem dX9_reasonAgainstDrop_17 : decode cX9_reasonAgainstDrop 17 = .ok (.iload_n 1, 1) := by decide +kernel
theorem dX9_reasonAgainstDrop_18 : decode cX9_reasonAgainstDrop 18 = .ok (.invokevirtual 443, 3) := by decide +kernel
theorem dX9_reasonAgainstDrop_21 : decode cX9_reasonAgainstDrop 21 = .ok (.ireturn, 1) := by decide +kernel
theorem dX9_reasonAgainstOrder_0 : decode cX9_reasonAgainstOrder 0 = .ok (.aload_n 0, 1) := by decide +kernel
theorem dX9_reasonAgainstOrder_1 : decode cX9_reasonAgainstOrder 1 = .ok (.getfield 43, 3) := by decide +kernel
theorem dX9_reasonAgainstOrder_4 : decode cX9_reasonAgainstOrder 4 = .ok (.iload_n 1, 1) := by decide +kernel
theorem dX9_reasonAgainstOrder_5 : decode cX9_reasonAgainstOrder 5 = .ok (.iconst 0, 1) := by decide +kernel
theorem dX9_reasonAgainstOrder_6 : decode cX9_reasonAgainstOrder 6 = .ok (.invokevirtual 464, 3) := by decide +kernel
theorem dX9_reasonAgainstOrder_9 : decode cX9_reasonAgainstOrder 9 = .ok (.istore_n 2, 1) := by decide +kernel
theorem dX9_reasonAgainstOrder_10 : decode cX9_reasonAgainstOrder 10 = .ok (.aload_n 0, 1) := by decide +kernel
theorem dX9_reasonAgainstOrder_11 : decode cX9_reasonAgainstOrder 11 = .ok (.getfield 43, 3) := by decide +kernel
theorem dX9_reasonAgainstOrder_14 : decode cX9_reasonAgainstOrder 14 = .ok (.iload_n 1, 1) := by decide +kernel
theorem dX9_reasonAgainstOrder_15 : decode cX9_reasonAgainstOrder 15 = .ok (.iconst 1, 1) := by decide +kernel
theorem dX9_reasonAgainstOrder_16 : decode cX9_reasonAgainstOrder 16 = .ok (.invokevirtual 464, 3) := by decide +kernel
theorem dX9_reasonAgainstOrder_19 : decode cX9_reasonAgainstOrder 19 = .ok (.istore_n 3, 1) := by decide +kernel
theorem dX9_reasonAgainstOrder_20 : decode cX9_reasonAgainstOrder 20 = .ok (.aload_n 0, 1) := by decide +kernel
theorem dX9_reasonAgainstOrder_21 : decode cX9_reasonAgainstOrder 21 = .ok (.getfield 43, 3) := by decide +kernel
theorem dX9_reasonAgainstOrder_24 : decode cX9_reasonAgainstOrder 24 = .ok (.iload_n 1, 1) := by decide +kernel
theorem dX9_reasonAgainstOrder_25 : decode cX9_reasonAgainstOrder 25 = .ok (.iconst 2, 1) := by decide +kernel
theorem dX9_reasonAgainstOrder_26 : decode cX9_reasonAgainstOrder 26 = .ok (.invokevirtual 464, 3) := by decide +kernel
theorem dX9_reasonAgainstOrder_29 : decode cX9_reasonAgainstOrder 29 = .ok (.istore 4, 2) := by decide +kernel
theorem dX9_reasonAgainstOrder_31 : decode cX9_reasonAgainstOrder 31 = .ok (.aload_n 0, 1) := by decide +kernel
theorem dX9_reasonAgainstOrder_32 : decode cX9_reasonAgainstOrder 32 = .ok (.getfield 43, 3) := by decide +kernel
theorem dX9_reasonAgainstOrder_35 : decode cX9_reasonAgainstOrder 35 = .ok (.iload_n 1, 1) := by decide +kernel
theorem dX9_reasonAgainstOrder_36 : decode cX9_reasonAgainstOrder 36 = .ok (.invokevirtual 467, 3) := by decide +kernel
theorem dX9_reasonAgainstOrder_39 : decode cX9_reasonAgainstOrder 39 = .ok (.tableswitch 103 0 6 #[41, 50, 59, 77, 83, 89, 96], 41) := by decide +kernel
theorem dX9_reasonAgainstOrder_80 : decode cX9_reasonAgainstOrder 80 = .ok (.aload_n 0, 1) := by decide +kernel
theorem dX9_reasonAgainstOrder_81 : decode cX9_reasonAgainstOrder 81 = .ok (.iload_n 2, 1) := by decide +kernel
theorem dX9_reasonAgainstOrder_82 : decode cX9_reasonAgainstOrder 82 = .ok (.iload_n 3, 1) := by decide +kernel
theorem dX9_reasonAgainstOrder_83 : decode cX9_reasonAgainstOrder 83 = .ok (.iload 4, 2) := by decide +kernel
theorem dX9_reasonAgainstOrder_85 : decode cX9_reasonAgainstOrder 85 = .ok (.invokevirtual 68, 3) := by decide +kernel
theorem dX9_reasonAgainstOrder_88 : decode cX9_reasonAgainstOrder 88 = .ok (.ireturn, 1) := by decide +kernel
theorem dX9_reasonAgainstOrder_89 : decode cX9_reasonAgainstOrder 89 = .ok (.aload_n 0, 1) := by decide +kernel
theorem dX9_reasonAgainstOrder_90 : decode cX9_reasonAgainstOrder 90 = .ok (.iload_n 2, 1) := by decide +kernel
theorem dX9_reasonAgainstOrder_91 : decode cX9_reasonAgainstOrder 91 = .ok (.iload_n 3, 1) := by decide +kernel
theorem dX9_reasonAgainstOrder_92 : decode cX9_reasonAgainstOrder 92 = .ok (.iload 4, 2) := by decide +kernel
theorem dX9_reasonAgainstOrder_94 : decode cX9_reasonAgainstOrder 94 = .ok (.invokevirtual 101, 3) := by decide +kernel
theorem dX9_reasonAgainstOrder_97 : decode cX9_reasonAgainstOrder 97 = .ok (.ireturn, 1) := by decide +kernel
theorem dX9_reasonAgainstOrder_98 : decode cX9_reasonAgainstOrder 98 = .ok (.aload_n 0, 1) := by decide +kernel
theorem dX9_reasonAgainstOrder_99 : decode cX9_reasonAgainstOrder 99 = .ok (.iload_n 2, 1) := by decide +kernel
theorem dX9_reasonAgainstOrder_100 : decode cX9_reasonAgainstOrder 100 = .ok (.iload_n 3, 1) := by decide +kernel
theorem dX9_reasonAgainstOrder_101 : decode cX9_reasonAgainstOrder 101 = .ok (.iload 4, 2) := by decide +kernel
theorem dX9_reasonAgainstOrder_103 : decode cX9_reasonAgainstOrder 103 = .ok (.aload_n 0, 1) := by decide +kernel
theorem dX9_reasonAgainstOrder_104 : decode cX9_reasonAgainstOrder 104 = .ok (.getfield 43, 3) := by decide +kernel
theorem dX9_reasonAgainstOrder_107 : decode cX9_reasonAgainstOrder 107 = .ok (.iload_n 1, 1) := by decide +kernel
theorem dX9_reasonAgainstOrder_108 : decode cX9_reasonAgainstOrder 108 = .ok (.iconst 3, 1) := by decide +kernel
theorem dX9_reasonAgainstOrder_109 : decode cX9_reasonAgainstOrder 109 = .ok (.invokevirtual 464, 3) := by decide +kernel
theorem dX9_reasonAgainstOrder_112 : decode cX9_reasonAgainstOrder 112 = .ok (.invokevirtual 114, 3) := by decide +kernel
theorem dX9_reasonAgainstOrder_115 : decode cX9_reasonAgainstOrder 115 = .ok (.ireturn, 1) := by decide +kernel
theorem dX9_reasonAgainstOrder_116 : decode cX9_reasonAgainstOrder 116 = .ok (.aload_n 0, 1) := by decide +kernel
theorem dX9_reasonAgainstOrder_117 : decode cX9_reasonAgainstOrder 117 = .ok (.iload_n 2, 1) := by decide +kernel
theorem dX9_reasonAgainstOrder_118 : decode cX9_reasonAgainstOrder 118 = .ok (.invokevirtual 133, 3) := by decide +kernel
theorem dX9_reasonAgainstOrder_121 : decode cX9_reasonAgainstOrder 121 = .ok (.ireturn, 1) := by decide +kernel
theorem dX9_reasonAgainstOrder_122 : decode cX9_reasonAgainstOrder 122 = .ok (.aload_n 0, 1) := by decide +kernel
theorem dX9_reasonAgainstOrder_123 : decode cX9_reasonAgainstOrder 123 = .ok (.iload_n 2, 1) := by decide +kernel
theorem dX9_reasonAgainstOrder_124 : decode cX9_reasonAgainstOrder 124 = .ok (.invokevirtual 145, 3) := by decide +kernel
theorem dX9_reasonAgainstOrder_127 : decode cX9_reasonAgainstOrder 127 = .ok (.ireturn, 1) := by decide +kernel
theorem dX9_reasonAgainstOrder_128 : decode cX9_reasonAgainstOrder 128 = .ok (.aload_n 0, 1) := by decide +kernel
theorem dX9_reasonAgainstOrder_129 : decode cX9_reasonAgainstOrder 129 = .ok (.iload_n 2, 1) := by decide +kernel
theorem dX9_reasonAgainstOrder_130 : decode cX9_reasonAgainstOrder 130 = .ok (.iload_n 3, 1) := by decide +kernel
theorem dX9_reasonAgainstOrder_131 : decode cX9_reasonAgainstOrder 131 = .ok (.invokevirtual 156, 3) := by decide +kernel
theorem dX9_reasonAgainstOrder_134 : decode cX9_reasonAgainstOrder 134 = .ok (.ireturn, 1) := by decide +kernel
theorem dX9_reasonAgainstOrder_135 : decode cX9_reasonAgainstOrder 135 = .ok (.aload_n 0, 1) := by decide +kernel
theorem dX9_reasonAgainstOrder_136 : decode cX9_reasonAgainstOrder 136 = .ok (.iload_n 2, 1) := by decide +kernel
theorem dX9_reasonAgainstOrder_137 : decode cX9_reasonAgainstOrder 137 = .ok (.iload_n 3, 1) := by decide +kernel
theorem dX9_reasonAgainstOrder_138 : decode cX9_reasonAgainstOrder 138 = .ok (.invokevirtual 168, 3) := by decide +kernel
theorem dX9_reasonAgainstOrder_141 : decode cX9_reasonAgainstOrder 141 = .ok (.ireturn, 1) := by decide +kernel
theorem dX9_reasonAgainstOrder_142 : decode cX9_reasonAgainstOrder 142 = .ok (.aload_n 0, 1) := by decide +kernel
theorem dX9_reasonAgainstOrder_143 : decode cX9_reasonAgainstOrder 143 = .ok (.iload_n 2, 1) := by decide +kernel
theorem dX9_reasonAgainstOrder_144 : decode cX9_reasonAgainstOrder 144 = .ok (.invokevirtual 179, 3) := by decide +kernel
theorem dX9_reasonAgainstOrder_147 : decode cX9_reasonAgainstOrder 147 = .ok (.ireturn, 1) := by decide +kernel
theorem dX9_doOrder_0 : decode cX9_doOrder 0 = .ok (.aload_n 0, 1) := by decide +kernel
theorem dX9_doOrder_1 : decode cX9_doOrder 1 = .ok (.getfield 43, 3) := by decide +kernel
theorem dX9_doOrder_4 : decode cX9_doOrder 4 = .ok (.iload_n 1, 1) := by decide +kernel
theorem dX9_doOrder_5 : decode cX9_doOrder 5 = .ok (.iconst 0, 1) := by decide +kernel
theorem dX9_doOrder_6 : decode cX9_doOrder 6 = .ok (.invokevirtual 464, 3) := by decide +kernel
theorem dX9_doOrder_9 : decode cX9_doOrder 9 = .ok (.istore_n 2, 1) := by decide +kernel
theorem dX9_doOrder_10 : decode cX9_doOrder 10 = .ok (.aload_n 0, 1) := by decide +kernel
theorem dX9_doOrder_11 : decode cX9_doOrder 11 = .ok (.getfield 43, 3) := by decide +kernel
theorem dX9_doOrder_14 : decode cX9_doOrder 14 = .ok (.iload_n 1, 1) := by decide +kernel
theorem dX9_doOrder_15 : decode cX9_doOrder 15 = .ok (.iconst 1, 1) := by decide +kernel
theorem dX9_doOrder_16 : decode cX9_doOrder 16 = .ok (.invokevirtual 464, 3) := by decide +kernel
theorem dX9_doOrder_19 : decode cX9_doOrder 19 = .ok (.istore_n 3, 1) := by decide +kernel
theorem dX9_doOrder_20 : decode cX9_doOrder 20 = .ok (.aload_n 0, 1) := by decide +kernel
theorem dX9_doOrder_21 : decode cX9_doOrder 21 = .ok (.getfield 43, 3) := by decide +kernel
theorem dX9_doOrder_24 : decode cX9_doOrder 24 = .ok (.iload_n 1, 1) := by decide +kernel
theorem dX9_doOrder_25 : decode cX9_doOrder 25 = .ok (.iconst 2, 1) := by decide +kernel
theorem dX9_doOrder_26 : decode cX9_doOrder 26 = .ok (.invokevirtual 464, 3) := by decide +kernel
theorem dX9_doOrder_29 : decode cX9_doOrder 29 = .ok (.istore 4, 2) := by decide +kernel
theorem dX9_doOrder_31 : decode cX9_doOrder 31 = .ok (.aload_n 0, 1) := by decide +kernel
theorem dX9_doOrder_32 : decode cX9_doOrder 32 = .ok (.getfield 43, 3) := by decide +kernel
theorem dX9_doOrder_35 : decode cX9_doOrder 35 = .ok (.iload_n 1, 1) := by decide +kernel
theorem dX9_doOrder_36 : decode cX9_doOrder 36 = .ok (.invokevirtual 467, 3) := by decide +kernel
theorem dX9_doOrder_39 : decode cX9_doOrder 39 = .ok (.tableswitch 144 0 6 #[41, 58, 72, 95, 106, 117, 132], 41) := by decide +kernel
theorem dX9_doOrder_80 : decode cX9_doOrder 80 = .ok (.aload_n 0, 1) := by decide +kernel
theorem dX9_doOrder_81 : decode cX9_doOrder 81 = .ok (.getfield 12, 3) := by decide +kernel
theorem dX9_doOrder_84 : decode cX9_doOrder 84 = .ok (.iload_n 2, 1) := by decide +kernel
theorem dX9_doOrder_85 : decode cX9_doOrder 85 = .ok (.invokevirtual 87, 3) := by decide +kernel
theorem dX9_doOrder_88 : decode cX9_doOrder 88 = .ok (.iload_n 3, 1) := by decide +kernel
theorem dX9_doOrder_89 : decode cX9_doOrder 89 = .ok (.iload 4, 2) := by decide +kernel
theorem dX9_doOrder_91 : decode cX9_doOrder 91 = .ok (.invokevirtual 97, 3) := by decide +kernel
theorem dX9_doOrder_94 : decode cX9_doOrder 94 = .ok (.goto 97, 3) := by decide +kernel
theorem dX9_doOrder_97 : decode cX9_doOrder 97 = .ok (.aload_n 0, 1) := by decide +kernel
theorem dX9_doOrder_98 : decode cX9_doOrder 98 = .ok (.getfield 12, 3) := by decide +kernel
theorem dX9_doOrder_101 : decode cX9_doOrder 101 = .ok (.iload_n 2, 1) := by decide +kernel
theorem dX9_doOrder_102 : decode cX9_doOrder 102 = .ok (.iload_n 3, 1) := by decide +kernel
theorem dX9_doOrder_103 : decode cX9_doOrder 103 = .ok (.iload 4, 2) := by decide +kernel
theorem dX9_doOrder_105 : decode cX9_doOrder 105 = .ok (.invokevirtual 106, 3) := by decide +kernel
theorem dX9_doOrder_108 : decode cX9_doOrder 108 = .ok (.goto 83, 3) := by decide +kernel
theorem dX9_doOrder_111 : decode cX9_doOrder 111 = .ok (.aload_n 0, 1) := by decide +kernel
theorem dX9_doOrder_112 : decode cX9_doOrder 112 = .ok (.getfield 12, 3) := by decide +kernel
theorem dX9_doOrder_115 : decode cX9_doOrder 115 = .ok (.iload_n 2, 1) := by decide +kernel
theorem dX9_doOrder_116 : decode cX9_doOrder 116 = .ok (.iload_n 3, 1) := by decide +kernel
theorem dX9_doOrder_117 : decode cX9_doOrder 117 = .ok (.iload 4, 2) := by decide +kernel
theorem dX9_doOrder_119 : decode cX9_doOrder 119 = .ok (.aload_n 0, 1) := by decide +kernel
theorem dX9_doOrder_120 : decode cX9_doOrder 120 = .ok (.getfield 43, 3) := by decide +kernel
theorem dX9_doOrder_123 : decode cX9_doOrder 123 = .ok (.iload_n 1, 1) := by decide +kernel
theorem dX9_doOrder_124 : decode cX9_doOrder 124 = .ok (.iconst 3, 1) := by decide +kernel
theorem dX9_doOrder_125 : decode cX9_doOrder 125 = .ok (.invokevirtual 464, 3) := by decide +kernel
theorem dX9_doOrder_128 : decode cX9_doOrder 128 = .ok (.invokevirtual 120, 3) := by decide +kernel
theorem dX9_doOrder_131 : decode cX9_doOrder 131 = .ok (.goto 60, 3) := by decide +kernel
theorem dX9_doOrder_134 : decode cX9_doOrder 134 = .ok (.aload_n 0, 1) := by decide +kernel
theorem dX9_doOrder_135 : decode cX9_doOrder 135 = .ok (.getfield 12, 3) := by decide +kernel
theorem dX9_doOrder_138 : decode cX9_doOrder 138 = .ok (.iload_n 2, 1) := by decide +kernel
theorem dX9_doOrder_139 : decode cX9_doOrder 139 = .ok (.invokevirtual 138, 3) := by decide +kernel
theorem dX9_doOrder_142 : decode cX9_doOrder 142 = .ok (.goto 49, 3) := by decide +kernel
theorem dX9_doOrder_145 : decode cX9_doOrder 145 = .ok (.aload_n 0, 1) := by decide +kernel
theorem dX9_doOrder_146 : decode cX9_doOrder 146 = .ok (.getfield 12, 3) := by decide +kernel
theorem dX9_doOrder_149 : decode cX9_doOrder 149 = .ok (.iload_n 2, 1) := by decide +kernel
theorem dX9_doOrder_150 : decode cX9_doOrder 150 = .ok (.putfield 150, 3) := by decide +kernel
theorem dX9_doOrder_153 : decode cX9_doOrder 153 = .ok (.goto 38, 3) := by decide +kernel
theorem dX9_doOrder_156 : decode cX9_doOrder 156 = .ok (.aload_n 0, 1) := by decide +kernel
theorem dX9_doOrder_157 : decode cX9_doOrder 157 = .ok (.getfield 12, 3) := by decide +kernel
theorem dX9_doOrder_160 : decode cX9_doOrder 160 = .ok (.iload_n 2, 1) := by decide +kernel
theorem dX9_doOrder_161 : decode cX9_doOrder 161 = .ok (.invokevirtual 87, 3) := by decide +kernel
theorem dX9_doOrder_164 : decode cX9_doOrder 164 = .ok (.iload_n 3, 1) := by decide +kernel
theorem dX9_doOrder_165 : decode cX9_doOrder 165 = .ok (.putfield 162, 3) := by decide +kernel
theorem dX9_doOrder_168 : decode cX9_doOrder 168 = .ok (.goto 23, 3) := by decide +kernel
theorem dX9_doOrder_171 : decode cX9_doOrder 171 = .ok (.aload_n 0, 1) := by decide +kernel
theorem dX9_doOrder_172 : decode cX9_doOrder 172 = .ok (.getfield 12, 3) := by decide +kernel
theorem dX9_doOrder_175 : decode cX9_doOrder 175 = .ok (.iload_n 2, 1) := by decide +kernel
theorem dX9_doOrder_176 : decode cX9_doOrder 176 = .ok (.iload_n 3, 1) := by decide +kernel
theorem dX9_doOrder_177 : decode cX9_doOrder 177 = .ok (.invokevirtual 173, 3) := by decide +kernel
theorem dX9_doOrder_180 : decode cX9_doOrder 180 = .ok (.goto 11, 3) := by decide +kernel
theorem dX9_doOrder_183 : decode cX9_doOrder 183 = .ok (.aload_n 0, 1) := by decide +kernel
theorem dX9_doOrder_184 : decode cX9_doOrder 184 = .ok (.getfield 12, 3) := by decide +kernel
theorem dX9_doOrder_187 : decode cX9_doOrder 187 = .ok (.iload_n 2, 1) := by decide +kernel
theorem dX9_doOrder_188 : decode cX9_doOrder 188 = .ok (.invokevirtual 184, 3) := by decide +kernel
theorem dX9_doOrder_191 : decode cX9_doOrder 191 = .ok (.return_, 1) := by decide +kernel
theorem dX9_isNet_0 : decode cX9_isNet 0 = .ok (.iload_n 0, 1) := by decide +kernel
theorem dX9_isNet_1 : decode cX9_isNet 1 = .ok (.ifCond .lt 12, 3) := by decide +kernel
theorem dX9_isNet_4 : decode cX9_isNet 4 = .ok (.iload_n 0, 1) := by decide +kernel
theorem dX9_isNet_5 : decode cX9_isNet 5 = .ok (.iconst 3, 1) := by decide +kernel
theorem dX9_isNet_6 : decode cX9_isNet 6 = .ok (.if_icmp .ge 7, 3) := by decide +kernel
theorem dX9_isNet_9 : decode cX9_isNet 9 = .ok (.iconst 1, 1) := by decide +kernel
theorem dX9_isNet_10 : decode cX9_isNet 10 = .ok (.goto 4, 3) := by decide +kernel
theorem dX9_isNet_13 : decode cX9_isNet 13 = .ok (.iconst 0, 1) := by decide +kernel
theorem dX9_isNet_14 : decode cX9_isNet 14 = .ok (.ireturn, 1) := by decide +kernel
theorem dX9_isPlace_0 : decode cX9_isPlace 0 = .ok (.iload_n 0, 1) := by decide +kernel
theorem dX9_isPlace_1 : decode cX9_isPlace 1 = .ok (.ifCond .lt 13, 3) := by decide +kernel
theorem dX9_isPlace_4 : decode cX9_isPlace 4 = .ok (.iload_n 0, 1) := by decide +kernel
theorem dX9_isPlace_5 : decode cX9_isPlace 5 = .ok (.bipush 24, 2) := by decide +kernel
theorem dX9_isPlace_7 : decode cX9_isPlace 7 = .ok (.if_icmp .ge 7, 3) := by decide +kernel
theorem dX9_isPlace_10 : decode cX9_isPlace 10 = .ok (.iconst 1, 1) := by decide +kernel
theorem dX9_isPlace_11 : decode cX9_isPlace 11 = .ok (.goto 4, 3) := by decide +kernel
theorem dX9_isPlace_14 : decode cX9_isPlace 14 = .ok (.iconst 0, 1) := by decide +kernel
theorem dX9_isPlace_15 : decode cX9_isPlace 15 = .ok (.ireturn, 1) := by decide +kernel
theorem dX9_areBeside_0 : decode cX9_areBeside 0 = .ok (.iload_n 0, 1) := by decide +kernel
theorem dX9_areBeside_1 : decode cX9_areBeside 1 = .ok (.invokestatic 190, 3) := by decide +kernel
theorem dX9_areBeside_4 : decode cX9_areBeside 4 = .ok (.ifCond .eq 10, 3) := by decide +kernel
theorem dX9_areBeside_7 : decode cX9_areBeside 7 = .ok (.iload_n 1, 1) := by decide +kernel
theorem dX9_areBeside_8 : decode cX9_areBeside 8 = .ok (.invokestatic 190, 3) := by decide +kernel
theorem dX9_areBeside_11 : decode cX9_areBeside 11 = .ok (.ifCond .ne 5, 3) := by decide +kernel
theorem dX9_areBeside_14 : decode cX9_areBeside 14 = .ok (.iconst 0, 1) := by decide +kernel
theorem dX9_areBeside_15 : decode cX9_areBeside 15 = .ok (.ireturn, 1) := by decide +kernel
theorem dX9_areBeside_16 : decode cX9_areBeside 16 = .ok (.iload_n 0, 1) := by decide +kernel
theorem dX9_areBeside_17 : decode cX9_areBeside 17 = .ok (.iload_n 1, 1) := by decide +kernel
theorem dX9_areBeside_18 : decode cX9_areBeside 18 = .ok (.invokestatic 470, 3) := by decide +kernel
theorem dX9_areBeside_21 : decode cX9_areBeside 21 = .ok (.istore_n 2, 1) := by decide +kernel
theorem dX9_areBeside_22 : decode cX9_areBeside 22 = .ok (.iload_n 0, 1) := by decide +kernel
theorem dX9_areBeside_23 : decode cX9_areBeside 23 = .ok (.iload_n 1, 1) := by decide +kernel
theorem dX9_areBeside_24 : decode cX9_areBeside 24 = .ok (.invokestatic 446, 3) := by decide +kernel
theorem dX9_areBeside_27 : decode cX9_areBeside 27 = .ok (.iload_n 2, 1) := by decide +kernel
theorem dX9_areBeside_28 : decode cX9_areBeside 28 = .ok (.isub, 1) := by decide +kernel
theorem dX9_areBeside_29 : decode cX9_areBeside 29 = .ok (.istore_n 3, 1) := by decide +kernel
theorem dX9_areBeside_30 : decode cX9_areBeside 30 = .ok (.iload_n 3, 1) := by decide +kernel
theorem dX9_areBeside_31 : decode cX9_areBeside 31 = .ok (.iconst 1, 1) := by decide +kernel
theorem dX9_areBeside_32 : decode cX9_areBeside 32 = .ok (.if_icmp .ne 13, 3) := by decide +kernel
theorem dX9_areBeside_35 : decode cX9_areBeside 35 = .ok (.ldc_w 473, 3) := by decide +kernel
theorem dX9_areBeside_38 : decode cX9_areBeside 38 = .ok (.iload_n 2, 1) := by decide +kernel
theorem dX9_areBeside_39 : decode cX9_areBeside 39 = .ok (.invokestatic 474, 3) := by decide +kernel
theorem dX9_areBeside_42 : decode cX9_areBeside 42 = .ok (.ifCond .ne 9, 3) := by decide +kernel
theorem dX9_areBeside_45 : decode cX9_areBeside 45 = .ok (.iload_n 3, 1) := by decide +kernel
theorem dX9_areBeside_46 : decode cX9_areBeside 46 = .ok (.bipush 6, 2) := by decide +kernel
theorem dX9_areBeside_48 : decode cX9_areBeside 48 = .ok (.if_icmp .ne 7, 3) := by decide +kernel
theorem dX9_areBeside_51 : decode cX9_areBeside 51 = .ok (.iconst 1, 1) := by decide +kernel
theorem dX9_areBeside_52 : decode cX9_areBeside 52 = .ok (.goto 4, 3) := by decide +kernel
theorem dX9_areBeside_55 : decode cX9_areBeside 55 = .ok (.iconst 0, 1) := by decide +kernel
theorem dX9_areBeside_56 : decode cX9_areBeside 56 = .ok (.ireturn, 1) := by decide +kernel
theorem dX9_isAcross_0 : decode cX9_isAcross 0 = .ok (.iload_n 0, 1) := by decide +kernel
theorem dX9_isAcross_1 : decode cX9_isAcross 1 = .ok (.iload_n 1, 1) := by decide +kernel
theorem dX9_isAcross_2 : decode cX9_isAcross 2 = .ok (.invokestatic 446, 3) := by decide +kernel
theorem dX9_isAcross_5 : decode cX9_isAcross 5 = .ok (.iload_n 0, 1) := by decide +kernel
theorem dX9_isAcross_6 : decode cX9_isAcross 6 = .ok (.iload_n 1, 1) := by decide +kernel
theorem dX9_isAcross_7 : decode cX9_isAcross 7 = .ok (.invokestatic 470, 3) := by decide +kernel
theorem dX9_isAcross_10 : decode cX9_isAcross 10 = .ok (.isub, 1) := by decide +kernel
theorem dX9_isAcross_11 : decode cX9_isAcross 11 = .ok (.iconst 1, 1) := by decide +kernel
theorem dX9_isAcross_12 : decode cX9_isAcross 12 = .ok (.if_icmp .ne 7, 3) := by decide +kernel
theorem dX9_isAcross_15 : decode cX9_isAcross 15 = .ok (.iconst 1, 1) := by decide +kernel
theorem dX9_isAcross_16 : decode cX9_isAcross 16 = .ok (.goto 4, 3) := by decide +kernel
theorem dX9_isAcross_19 : decode cX9_isAcross 19 = .ok (.iconst 0, 1) := by decide +kernel
theorem dX9_isAcross_20 : decode cX9_isAcross 20 = .ok (.ireturn, 1) := by decide +kernel
theorem dX9_twineFor_0 : decode cX9_twineFor 0 = .ok (.iload_n 0, 1) := by decide +kernel
theorem dX9_twineFor_1 : decode cX9_twineFor 1 = .ok (.iload_n 1, 1) := by decide +kernel
theorem dX9_twineFor_2 : decode cX9_twineFor 2 = .ok (.invokestatic 477, 3) := by decide +kernel
theorem dX9_twineFor_5 : decode cX9_twineFor 5 = .ok (.ifCond .eq 7, 3) := by decide +kernel
theorem dX9_twineFor_8 : decode cX9_twineFor 8 = .ok (.iconst 1, 1) := by decide +kernel
theorem dX9_twineFor_9 : decode cX9_twineFor 9 = .ok (.goto 4, 3) := by decide +kernel
theorem dX9_twineFor_12 : decode cX9_twineFor 12 = .ok (.iconst 2, 1) := by decide +kernel
theorem dX9_twineFor_13 : decode cX9_twineFor 13 = .ok (.ireturn, 1) := by decide +kernel
theorem dX9_isIn_0 : decode cX9_isIn 0 = .ok (.iload_n 0, 1) := by decide +kernel
theorem dX9_isIn_1 : decode cX9_isIn 1 = .ok (.iload_n 1, 1) := by decide +kernel
theorem dX9_isIn_2 : decode cX9_isIn 2 = .ok (.ishr, 1) := by decide +kernel
theorem dX9_isIn_3 : decode cX9_isIn 3 = .ok (.iconst 1, 1) := by decide +kernel
theorem dX9_isIn_4 : decode cX9_isIn 4 = .ok (.iand, 1) := by decide +kernel
theorem dX9_isIn_5 : decode cX9_isIn 5 = .ok (.ifCond .eq 7, 3) := by decide +kernel
theorem dX9_isIn_8 : decode cX9_isIn 8 = .ok (.iconst 1, 1) := by decide +kernel
theorem dX9_isIn_9 : decode cX9_isIn 9 = .ok (.goto 4, 3) := by decide +kernel
theorem dX9_isIn_12 : decode cX9_isIn 12 = .ok (.iconst 0, 1) := by decide +kernel
theorem dX9_isIn_13 : decode cX9_isIn 13 = .ok (.ireturn, 1) := by decide +kernel
theorem dX9_with_0 : decode cX9_with 0 = .ok (.iload_n 2, 1) := by decide +kernel
theorem dX9_with_1 : decode cX9_with 1 = .ok (.ifCond .eq 11, 3) := by decide +kernel
theorem dX9_with_4 : decode cX9_with 4 = .ok (.iload_n 0, 1) := by decide +kernel
theorem dX9_with_5 : decode cX9_with 5 = .ok (.iconst 1, 1) := by decide +kernel
theorem dX9_with_6 : decode cX9_with 6 = .ok (.iload_n 1, 1) := by decide +kernel
theorem dX9_with_7 : decode cX9_with 7 = .ok (.ishl, 1) := by decide +kernel
theorem dX9_with_8 : decode cX9_with 8 = .ok (.ior, 1) := by decide +kernel
theorem dX9_with_9 : decode cX9_with 9 = .ok (.goto 10, 3) := by decide +kernel
theorem dX9_with_12 : decode cX9_with 12 = .ok (.iload_n 0, 1) := by decide +kernel
theorem dX9_with_13 : decode cX9_with 13 = .ok (.iconst 1, 1) := by decide +kernel
theorem dX9_with_14 : decode cX9_with 14 = .ok (.iload_n 1, 1) := by decide +kernel
theorem dX9_with_15 : decode cX9_with 15 = .ok (.ishl, 1) := by decide +kernel
theorem dX9_with_16 : decode cX9_with 16 = .ok (.iconst (-1), 1) := by decide +kernel
theorem dX9_with_17 : decode cX9_with 17 = .ok (.ixor, 1) := by decide +kernel
theorem dX9_with_18 : decode cX9_with 18 = .ok (.iand, 1) := by decide +kernel
theorem dX9_with_19 : decode cX9_with 19 = .ok (.ireturn, 1) := by decide +kernel
theorem dX9_lowestPlace_0 : decode cX9_lowestPlace 0 = .ok (.iload_n 0, 1) := by decide +kernel
theorem dX9_lowestPlace_1 : decode cX9_lowestPlace 1 = .ok (.iload_n 0, 1) := by decide +kernel
theorem dX9_lowestPlace_2 : decode cX9_lowestPlace 2 = .ok (.ineg, 1) := by decide +kernel
theorem dX9_lowestPlace_3 : decode cX9_lowestPlace 3 = .ok (.iand, 1) := by decide +kernel
theorem dX9_lowestPlace_4 : decode cX9_lowestPlace 4 = .ok (.iconst 1, 1) := by decide +kernel
theorem dX9_lowestPlace_5 : decode cX9_lowestPlace 5 = .ok (.isub, 1) := by decide +kernel
theorem dX9_lowestPlace_6 : decode cX9_lowestPlace 6 = .ok (.invokestatic 215, 3) := by decide +kernel
theorem dX9_lowestPlace_9 : decode cX9_lowestPlace 9 = .ok (.ireturn, 1) := by decide +kernel
theorem dX9_beside_0 : decode cX9_beside 0 = .ok (.iload_n 0, 1) := by decide +kernel
theorem dX9_beside_1 : decode cX9_beside 1 = .ok (.iload_n 1, 1) := by decide +kernel
theorem dX9_beside_2 : decode cX9_beside 2 = .ok (.iand, 1) := by decide +kernel
theorem dX9_beside_3 : decode cX9_beside 3 = .ok (.iconst 1, 1) := by decide +kernel
theorem dX9_beside_4 : decode cX9_beside 4 = .ok (.ishl, 1) := by decide +kernel
theorem dX9_beside_5 : decode cX9_beside 5 = .ok (.iload_n 0, 1) := by decide +kernel
theorem dX9_beside_6 : decode cX9_beside 6 = .ok (.iconst 1, 1) := by decide +kernel
theorem dX9_beside_7 : decode cX9_beside 7 = .ok (.ishr, 1) := by decide +kernel
theorem dX9_beside_8 : decode cX9_beside 8 = .ok (.iload_n 1, 1) := by decide +kernel
theorem dX9_beside_9 : decode cX9_beside 9 = .ok (.iand, 1) := by decide +kernel
theorem dX9_beside_10 : decode cX9_beside 10 = .ok (.ior, 1) := by decide +kernel
theorem dX9_beside_11 : decode cX9_beside 11 = .ok (.iload_n 0, 1) := by decide +kernel
theorem dX9_beside_12 : decode cX9_beside 12 = .ok (.iload_n 2, 1) := by decide +kernel
theorem dX9_beside_13 : decode cX9_beside 13 = .ok (.iand, 1) := by decide +kernel
theorem dX9_beside_14 : decode cX9_beside 14 = .ok (.bipush 6, 2) := by decide +kernel
theorem dX9_beside_16 : decode cX9_beside 16 = .ok (.ishl, 1) := by decide +kernel
theorem dX9_beside_17 : decode cX9_beside 17 = .ok (.ior, 1) := by decide +kernel
theorem dX9_beside_18 : decode cX9_beside 18 = .ok (.iload_n 0, 1) := by decide +kernel
theorem dX9_beside_19 : decode cX9_beside 19 = .ok (.bipush 6, 2) := by decide +kernel
theorem dX9_beside_21 : decode cX9_beside 21 = .ok (.ishr, 1) := by decide +kernel
theorem dX9_beside_22 : decode cX9_beside 22 = .ok (.iload_n 2, 1) := by decide +kernel
theorem dX9_beside_23 : decode cX9_beside 23 = .ok (.iand, 1) := by decide +kernel
theorem dX9_beside_24 : decode cX9_beside 24 = .ok (.ior, 1) := by decide +kernel
theorem dX9_beside_25 : decode cX9_beside 25 = .ok (.ireturn, 1) := by decide +kernel
theorem dX9_within_0 : decode cX9_within 0 = .ok (.iload_n 0, 1) := by decide +kernel
theorem dX9_within_1 : decode cX9_within 1 = .ok (.iload_n 0, 1) := by decide +kernel
theorem dX9_within_2 : decode cX9_within 2 = .ok (.iload_n 2, 1) := by decide +kernel
theorem dX9_within_3 : decode cX9_within 3 = .ok (.ishr, 1) := by decide +kernel
theorem dX9_within_4 : decode cX9_within 4 = .ok (.iand, 1) := by decide +kernel
theorem dX9_within_5 : decode cX9_within 5 = .ok (.iload_n 1, 1) := by decide +kernel
theorem dX9_within_6 : decode cX9_within 6 = .ok (.iand, 1) := by decide +kernel
theorem dX9_within_7 : decode cX9_within 7 = .ok (.ireturn, 1) := by decide +kernel
theorem dX9_letterOf_0 : decode cX9_letterOf 0 = .ok (.bipush 97, 2) := by decide +kernel
theorem dX9_letterOf_2 : decode cX9_letterOf 2 = .ok (.iload_n 0, 1) := by decide +kernel
theorem dX9_letterOf_3 : decode cX9_letterOf 3 = .ok (.iadd, 1) := by decide +kernel
theorem dX9_letterOf_4 : decode cX9_letterOf 4 = .ok (.iconst 1, 1) := by decide +kernel
theorem dX9_letterOf_5 : decode cX9_letterOf 5 = .ok (.isub, 1) := by decide +kernel
theorem dX9_letterOf_6 : decode cX9_letterOf 6 = .ok (.i2c, 1) := by decide +kernel
theorem dX9_letterOf_7 : decode cX9_letterOf 7 = .ok (.ireturn, 1) := by decide +kernel
theorem dJ5_init_d00df_0 : decode cJ5_init_d00df 0 = .ok (.aload_n 0, 1) := by decide +kernel
theorem dJ5_init_d00df_1 : decode cJ5_init_d00df 1 = .ok (.invokespecial 3, 3) := by decide +kernel
theorem dJ5_init_d00df_4 : decode cJ5_init_d00df 4 = .ok (.getstatic 18, 3) := by decide +kernel
theorem dJ5_init_d00df_7 : decode cJ5_init_d00df 7 = .ok (.ifCond .eq 18, 3) := by decide +kernel
theorem dJ5_init_d00df_10 : decode cJ5_init_d00df 10 = .ok (.aload_n 0, 1) := by decide +kernel
theorem dJ5_init_d00df_11 : decode cJ5_init_d00df 11 = .ok (.iload_n 1, 1) := by decide +kernel
theorem dJ5_init_d00df_12 : decode cJ5_init_d00df 12 = .ok (.newarray .byte, 2) := by decide +kernel
theorem dJ5_init_d00df_14 : decode cJ5_init_d00df 14 = .ok (.putfield 15, 3) := by decide +kernel
theorem dJ5_init_d00df_17 : decode cJ5_init_d00df 17 = .ok (.aload_n 0, 1) := by decide +kernel
theorem dJ5_init_d00df_18 : decode cJ5_init_d00df 18 = .ok (.iconst 0, 1) := by decide +kernel
theorem dJ5_init_d00df_19 : decode cJ5_init_d00df 19 = .ok (.putfield 22, 3) := by decide +kernel
theorem dJ5_init_d00df_22 : decode cJ5_init_d00df 22 = .ok (.goto 16, 3) := by decide +kernel
theorem dJ5_init_d00df_25 : decode cJ5_init_d00df 25 = .ok (.aload_n 0, 1) := by decide +kernel
theorem dJ5_init_d00df_26 : decode cJ5_init_d00df 26 = .ok (.iload_n 1, 1) := by decide +kernel
theorem dJ5_init_d00df_27 : decode cJ5_init_d00df 27 = .ok (.invokestatic 26, 3) := by decide +kernel
theorem dJ5_init_d00df_30 : decode cJ5_init_d00df 30 = .ok (.putfield 15, 3) := by decide +kernel
theorem dJ5_init_d00df_33 : decode cJ5_init_d00df 33 = .ok (.aload_n 0, 1) := by decide +kernel
theorem dJ5_init_d00df_34 : decode cJ5_init_d00df 34 = .ok (.iconst 1, 1) := by decide +kernel
theorem dJ5_init_d00df_35 : decode cJ5_init_d00df 35 = .ok (.putfield 22, 3) := by decide +kernel
theorem dJ5_init_d00df_38 : decode cJ5_init_d00df 38 = .ok (.return_, 1) := by decide +kernel
theorem dJ5_length_8abf5_0 : decode cJ5_length_8abf5 0 = .ok (.aload_n 0, 1) := by decide +kernel
theorem dJ5_length_8abf5_1 : decode cJ5_length_8abf5 1 = .ok (.getfield 79, 3) := by decide +kernel
theorem dJ5_length_8abf5_4 : decode cJ5_length_8abf5 4 = .ok (.ireturn, 1) := by decide +kernel
theorem dJ5_ensureCapacityInternal_d00df_0 : decode cJ5_ensureCapacityInternal_d00df 0 = .ok (.aload_n 0, 1) := by decide +kernel
theorem dJ5_ensureCapacityInternal_d00df_1 : decode cJ5_ensureCapacityInternal_d00df 1 = .ok (.getfield 15, 3) := by decide +kernel
theorem dJ5_ensureCapacityInternal_d00df_4 : decode cJ5_ensureCapacityInternal_d00df 4 = .ok (.arraylength, 1) := by decide +kernel
theorem dJ5_ensureCapacityInternal_d00df_5 : decode cJ5_ensureCapacityInternal_d00df 5 = .ok (.aload_n 0, 1) := by decide +kernel
theorem dJ5_ensureCapacityInternal_d00df_6 : decode cJ5_ensureCapacityInternal_d00df 6 = .ok (.getfield 22, 3) := by decide +kernel
theorem dJ5_ensureCapacityInternal_d00df_9 : decode cJ5_ensureCapacityInternal_d00df 9 = .ok (.ishr, 1) := by decide +kernel
theorem dJ5_ensureCapacityInternal_d00df_10 : decode cJ5_ensureCapacityInternal_d00df 10 = .ok (.istore_n 2, 1) := by decide +kernel
theorem dJ5_ensureCapacityInternal_d00df_11 : decode cJ5_ensureCapacityInternal_d00df 11 = .ok (.iload_n 1, 1) := by decide +kernel
theorem dJ5_ensureCapacityInternal_d00df_12 : decode cJ5_ensureCapacityInternal_d00df 12 = .ok (.iload_n 2, 1) := by decide +kernel
theorem dJ5_ensureCapacityInternal_d00df_13 : decode cJ5_ensureCapacityInternal_d00df 13 = .ok (.isub, 1) := by decide +kernel
theorem dJ5_ensureCapacityInternal_d00df_14 : decode cJ5_ensureCapacityInternal_d00df 14 = .ok (.ifCond .le 24, 3) := by decide +kernel
theorem dJ5_ensureCapacityInternal_d00df_17 : decode cJ5_ensureCapacityInternal_d00df 17 = .ok (.aload_n 0, 1) := by decide +kernel
theorem dJ5_ensureCapacityInternal_d00df_18 : decode cJ5_ensureCapacityInternal_d00df 18 = .ok (.aload_n 0, 1) := by decide +kernel
theorem dJ5_ensureCapacityInternal_d00df_19 : decode cJ5_ensureCapacityInternal_d00df 19 = .ok (.getfield 15, 3) := by decide +kernel
theorem dJ5_ensureCapacityInternal_d00df_22 : decode cJ5_ensureCapacityInternal_d00df 22 = .ok (.aload_n 0, 1) := by decide +kernel
theorem dJ5_ensureCapacityInternal_d00df_23 : decode cJ5_ensureCapacityInternal_d00df 23 = .ok (.iload_n 1, 1) := by decide +kernel
theorem dJ5_ensureCapacityInternal_d00df_24 : decode cJ5_ensureCapacityInternal_d00df 24 = .ok (.invokevirtual 104, 3) := by decide +kernel
theorem dJ5_ensureCapacityInternal_d00df_27 : decode cJ5_ensureCapacityInternal_d00df 27 = .ok (.aload_n 0, 1) := by decide +kernel
theorem dJ5_ensureCapacityInternal_d00df_28 : decode cJ5_ensureCapacityInternal_d00df 28 = .ok (.getfield 22, 3) := by decide +kernel
theorem dJ5_ensureCapacityInternal_d00df_31 : decode cJ5_ensureCapacityInternal_d00df 31 = .ok (.ishl, 1) := by decide +kernel
theorem dJ5_ensureCapacityInternal_d00df_32 : decode cJ5_ensureCapacityInternal_d00df 32 = .ok (.invokestatic 108, 3) := by decide +kernel
theorem dJ5_ensureCapacityInternal_d00df_35 : decode cJ5_ensureCapacityInternal_d00df 35 = .ok (.putfield 15, 3) := by decide +kernel
theorem dJ5_ensureCapacityInternal_d00df_38 : decode cJ5_ensureCapacityInternal_d00df 38 = .ok (.return_, 1) := by decide +kernel
theorem dJ5_newCapacity_0f7a4_0 : decode cJ5_newCapacity_0f7a4 0 = .ok (.aload_n 0, 1) := by decide +kernel
theorem dJ5_newCapacity_0f7a4_1 : decode cJ5_newCapacity_0f7a4 1 = .ok (.getfield 15, 3) := by decide +kernel
theorem dJ5_newCapacity_0f7a4_4 : decode cJ5_newCapacity_0f7a4 4 = .ok (.arraylength, 1) := by decide +kernel
theorem dJ5_newCapacity_0f7a4_5 : decode cJ5_newCapacity_0f7a4 5 = .ok (.istore_n 2, 1) := by decide +kernel
theorem dJ5_newCapacity_0f7a4_6 : decode cJ5_newCapacity_0f7a4 6 = .ok (.iload_n 1, 1) := by decide +kernel
theorem dJ5_newCapacity_0f7a4_7 : decode cJ5_newCapacity_0f7a4 7 = .ok (.aload_n 0, 1) := by decide +kernel
theorem dJ5_newCapacity_0f7a4_8 : decode cJ5_newCapacity_0f7a4 8 = .ok (.getfield 22, 3) := by decide +kernel
theorem dJ5_newCapacity_0f7a4_11 : decode cJ5_newCapacity_0f7a4 11 = .ok (.ishl, 1) := by decide +kernel
theorem dJ5_newCapacity_0f7a4_12 : decode cJ5_newCapacity_0f7a4 12 = .ok (.istore_n 3, 1) := by decide +kernel
theorem dJ5_newCapacity_0f7a4_13 : decode cJ5_newCapacity_0f7a4 13 = .ok (.iload_n 3, 1) := by decide +kernel
theorem dJ5_newCapacity_0f7a4_14 : decode cJ5_newCapacity_0f7a4 14 = .ok (.iload_n 2, 1) := by decide +kernel
theorem dJ5_newCapacity_0f7a4_15 : decode cJ5_newCapacity_0f7a4 15 = .ok (.isub, 1) := by decide +kernel
theorem dJ5_newCapacity_0f7a4_16 : decode cJ5_newCapacity_0f7a4 16 = .ok (.istore 4, 2) := by decide +kernel
theorem dJ5_newCapacity_0f7a4_18 : decode cJ5_newCapacity_0f7a4 18 = .ok (.iload_n 2, 1) := by decide +kernel
theorem dJ5_newCapacity_0f7a4_19 : decode cJ5_newCapacity_0f7a4 19 = .ok (.iload 4, 2) := by decide +kernel
theorem dJ5_newCapacity_0f7a4_21 : decode cJ5_newCapacity_0f7a4 21 = .ok (.iload_n 2, 1) := by decide +kernel
theorem dJ5_newCapacity_0f7a4_22 : decode cJ5_newCapacity_0f7a4 22 = .ok (.iconst 2, 1) := by decide +kernel
theorem dJ5_newCapacity_0f7a4_23 : decode cJ5_newCapacity_0f7a4 23 = .ok (.aload_n 0, 1) := by decide +kernel
theorem dJ5_newCapacity_0f7a4_24 : decode cJ5_newCapacity_0f7a4 24 = .ok (.getfield 22, 3) := by decide +kernel
theorem dJ5_newCapacity_0f7a4_27 : decode cJ5_newCapacity_0f7a4 27 = .ok (.ishl, 1) := by decide +kernel
theorem dJ5_newCapacity_0f7a4_28 : decode cJ5_newCapacity_0f7a4 28 = .ok (.iadd, 1) := by decide +kernel
theorem dJ5_newCapacity_0f7a4_29 : decode cJ5_newCapacity_0f7a4 29 = .ok (.invokestatic 114, 3) := by decide +kernel
theorem dJ5_newCapacity_0f7a4_32 : decode cJ5_newCapacity_0f7a4 32 = .ok (.istore 5, 2) := by decide +kernel
theorem dJ5_newCapacity_0f7a4_34 : decode cJ5_newCapacity_0f7a4 34 = .ok (.iload 5, 2) := by decide +kernel
theorem dJ5_newCapacity_0f7a4_36 : decode cJ5_newCapacity_0f7a4 36 = .ok (.ldc 39, 2) := by decide +kernel
theorem dJ5_newCapacity_0f7a4_38 : decode cJ5_newCapacity_0f7a4 38 = .ok (.if_icmp .ne 13, 3) := by decide +kernel
theorem dJ5_newCapacity_0f7a4_41 : decode cJ5_newCapacity_0f7a4 41 = .ok (.new 120, 3) := by decide +kernel
theorem dJ5_newCapacity_0f7a4_44 : decode cJ5_newCapacity_0f7a4 44 = .ok (.dup, 1) := by decide +kernel
theorem dJ5_newCapacity_0f7a4_45 : decode cJ5_newCapacity_0f7a4 45 = .ok (.ldc 122, 2) := by decide +kernel
theorem dJ5_newCapacity_0f7a4_47 : decode cJ5_newCapacity_0f7a4 47 = .ok (.invokespecial 124, 3) := by decide +kernel
theorem dJ5_newCapacity_0f7a4_50 : decode cJ5_newCapacity_0f7a4 50 = .ok (.athrow, 1) := by decide +kernel
theorem dJ5_newCapacity_0f7a4_51 : decode cJ5_newCapacity_0f7a4 51 = .ok (.iload 5, 2) := by decide +kernel
theorem dJ5_newCapacity_0f7a4_53 : decode cJ5_newCapacity_0f7a4 53 = .ok (.aload_n 0, 1) := by decide +kernel
theorem dJ5_newCapacity_0f7a4_54 : decode cJ5_newCapacity_0f7a4 54 = .ok (.getfield 22, 3) := by decide +kernel
theorem dJ5_newCapacity_0f7a4_57 : decode cJ5_newCapacity_0f7a4 57 = .ok (.ishr, 1) := by decide +kernel
theorem dJ5_newCapacity_0f7a4_58 : decode cJ5_newCapacity_0f7a4 58 = .ok (.ireturn, 1) := by decide +kernel
theorem dJ5_inflate_da8c8_0 : decode cJ5_inflate_da8c8 0 = .ok (.aload_n 0, 1) := by decide +kernel
theorem dJ5_inflate_da8c8_1 : decode cJ5_inflate_da8c8 1 = .ok (.invokevirtual 83, 3) := by decide +kernel
theorem dJ5_inflate_da8c8_4 : decode cJ5_inflate_da8c8 4 = .ok (.ifCond .ne 4, 3) := by decide +kernel
theorem dJ5_inflate_da8c8_7 : decode cJ5_inflate_da8c8 7 = .ok (.return_, 1) := by decide +kernel
theorem dJ5_inflate_da8c8_8 : decode cJ5_inflate_da8c8 8 = .ok (.aload_n 0, 1) := by decide +kernel
theorem dJ5_inflate_da8c8_9 : decode cJ5_inflate_da8c8 9 = .ok (.getfield 15, 3) := by decide +kernel
theorem dJ5_inflate_da8c8_12 : decode cJ5_inflate_da8c8 12 = .ok (.arraylength, 1) := by decide +kernel
theorem dJ5_inflate_da8c8_13 : decode cJ5_inflate_da8c8 13 = .ok (.invokestatic 26, 3) := by decide +kernel
theorem dJ5_inflate_da8c8_16 : decode cJ5_inflate_da8c8 16 = .ok (.astore_n 1, 1) := by decide +kernel
theorem dJ5_inflate_da8c8_17 : decode cJ5_inflate_da8c8 17 = .ok (.aload_n 0, 1) := by decide +kernel
theorem dJ5_inflate_da8c8_18 : decode cJ5_inflate_da8c8 18 = .ok (.getfield 15, 3) := by decide +kernel
theorem dJ5_inflate_da8c8_21 : decode cJ5_inflate_da8c8 21 = .ok (.iconst 0, 1) := by decide +kernel
theorem dJ5_inflate_da8c8_22 : decode cJ5_inflate_da8c8 22 = .ok (.aload_n 1, 1) := by decide +kernel
theorem dJ5_inflate_da8c8_23 : decode cJ5_inflate_da8c8 23 = .ok (.iconst 0, 1) := by decide +kernel
theorem dJ5_inflate_da8c8_24 : decode cJ5_inflate_da8c8 24 = .ok (.aload_n 0, 1) := by decide +kernel
theorem dJ5_inflate_da8c8_25 : decode cJ5_inflate_da8c8 25 = .ok (.getfield 79, 3) := by decide +kernel
theorem dJ5_inflate_da8c8_28 : decode cJ5_inflate_da8c8 28 = .ok (.invokestatic 125, 3) := by decide +kernel
theorem dJ5_inflate_da8c8_31 : decode cJ5_inflate_da8c8 31 = .ok (.aload_n 0, 1) := by decide +kernel
theorem dJ5_inflate_da8c8_32 : decode cJ5_inflate_da8c8 32 = .ok (.aload_n 1, 1) := by decide +kernel
theorem dJ5_inflate_da8c8_33 : decode cJ5_inflate_da8c8 33 = .ok (.putfield 15, 3) := by decide +kernel
theorem dJ5_inflate_da8c8_36 : decode cJ5_inflate_da8c8 36 = .ok (.aload_n 0, 1) := by decide +kernel
theorem dJ5_inflate_da8c8_37 : decode cJ5_inflate_da8c8 37 = .ok (.iconst 1, 1) := by decide +kernel
theorem dJ5_inflate_da8c8_38 : decode cJ5_inflate_da8c8 38 = .ok (.putfield 22, 3) := by decide +kernel
theorem dJ5_inflate_da8c8_41 : decode cJ5_inflate_da8c8 41 = .ok (.return_, 1) := by decide +kernel
theorem dJ5_append_cf1ce_0 : decode cJ5_append_cf1ce 0 = .ok (.aload_n 1, 1) := by decide +kernel
theorem dJ5_append_cf1ce_1 : decode cJ5_append_cf1ce 1 = .ok (.ifnonnull 8, 3) := by decide +kernel
theorem dJ5_append_cf1ce_4 : decode cJ5_append_cf1ce 4 = .ok (.aload_n 0, 1) := by decide +kernel
theorem dJ5_append_cf1ce_5 : decode cJ5_append_cf1ce 5 = .ok (.invokevirtual 204, 3) := by decide +kernel
theorem dJ5_append_cf1ce_8 : decode cJ5_append_cf1ce 8 = .ok (.areturn, 1) := by decide +kernel
theorem dJ5_append_cf1ce_9 : decode cJ5_append_cf1ce 9 = .ok (.aload_n 1, 1) := by decide +kernel
theorem dJ5_append_cf1ce_10 : decode cJ5_append_cf1ce 10 = .ok (.invokevirtual 32, 3) := by decide +kernel
theorem dJ5_append_cf1ce_13 : decode cJ5_append_cf1ce 13 = .ok (.istore_n 2, 1) := by decide +kernel
theorem dJ5_append_cf1ce_14 : decode cJ5_append_cf1ce 14 = .ok (.aload_n 0, 1) := by decide +kernel
theorem dJ5_append_cf1ce_15 : decode cJ5_append_cf1ce 15 = .ok (.aload_n 0, 1) := by decide +kernel
theorem dJ5_append_cf1ce_16 : decode cJ5_append_cf1ce 16 = .ok (.getfield 79, 3) := by decide +kernel
theorem dJ5_append_cf1ce_19 : decode cJ5_append_cf1ce 19 = .ok (.iload_n 2, 1) := by decide +kernel
theorem dJ5_append_cf1ce_20 : decode cJ5_append_cf1ce 20 = .ok (.iadd, 1) := by decide +kernel
theorem dJ5_append_cf1ce_21 : decode cJ5_append_cf1ce 21 = .ok (.invokevirtual 100, 3) := by decide +kernel
theorem dJ5_append_cf1ce_24 : decode cJ5_append_cf1ce 24 = .ok (.aload_n 0, 1) := by decide +kernel
theorem dJ5_append_cf1ce_25 : decode cJ5_append_cf1ce 25 = .ok (.aload_n 0, 1) := by decide +kernel
theorem dJ5_append_cf1ce_26 : decode cJ5_append_cf1ce 26 = .ok (.getfield 79, 3) := by decide +kernel
theorem dJ5_append_cf1ce_29 : decode cJ5_append_cf1ce 29 = .ok (.aload_n 1, 1) := by decide +kernel
theorem dJ5_append_cf1ce_30 : decode cJ5_append_cf1ce 30 = .ok (.invokevirtual 208, 3) := by decide +kernel
theorem dJ5_append_cf1ce_33 : decode cJ5_append_cf1ce 33 = .ok (.aload_n 0, 1) := by decide +kernel
theorem dJ5_append_cf1ce_34 : decode cJ5_append_cf1ce 34 = .ok (.dup, 1) := by decide +kernel
theorem dJ5_append_cf1ce_35 : decode cJ5_append_cf1ce 35 = .ok (.getfield 79, 3) := by decide +kernel
theorem dJ5_append_cf1ce_38 : decode cJ5_append_cf1ce 38 = .ok (.iload_n 2, 1) := by decide +kernel
theorem dJ5_append_cf1ce_39 : decode cJ5_append_cf1ce 39 = .ok (.iadd, 1) := by decide +kernel
theorem dJ5_append_cf1ce_40 : decode cJ5_append_cf1ce 40 = .ok (.putfield 79, 3) := by decide +kernel
theorem dJ5_append_cf1ce_43 : decode cJ5_append_cf1ce 43 = .ok (.aload_n 0, 1) := by decide +kernel
theorem dJ5_append_cf1ce_44 : decode cJ5_append_cf1ce 44 = .ok (.areturn, 1) := by decide +kernel
theorem dJ5_appendNull_278bc_0 : decode cJ5_appendNull_278bc 0 = .ok (.aload_n 0, 1) := by decide +kernel
theorem dJ5_appendNull_278bc_1 : decode cJ5_appendNull_278bc 1 = .ok (.aload_n 0, 1) := by decide +kernel
theorem dJ5_appendNull_278bc_2 : decode cJ5_appendNull_278bc 2 = .ok (.getfield 79, 3) := by decide +kernel
theorem dJ5_appendNull_278bc_5 : decode cJ5_appendNull_278bc 5 = .ok (.iconst 4, 1) := by decide +kernel
theorem dJ5_appendNull_278bc_6 : decode cJ5_appendNull_278bc 6 = .ok (.iadd, 1) := by decide +kernel
theorem dJ5_appendNull_278bc_7 : decode cJ5_appendNull_278bc 7 = .ok (.invokevirtual 100, 3) := by decide +kernel
theorem dJ5_appendNull_278bc_10 : decode cJ5_appendNull_278bc 10 = .ok (.aload_n 0, 1) := by decide +kernel
theorem dJ5_appendNull_278bc_11 : decode cJ5_appendNull_278bc 11 = .ok (.getfield 79, 3) := by decide +kernel
theorem dJ5_appendNull_278bc_14 : decode cJ5_appendNull_278bc 14 = .ok (.istore_n 1, 1) := by decide +kernel
theorem dJ5_appendNull_278bc_15 : decode cJ5_appendNull_278bc 15 = .ok (.aload_n 0, 1) := by decide +kernel
theorem dJ5_appendNull_278bc_16 : decode cJ5_appendNull_278bc 16 = .ok (.getfield 15, 3) := by decide +kernel
theorem dJ5_appendNull_278bc_19 : decode cJ5_appendNull_278bc 19 = .ok (.astore_n 2, 1) := by decide +kernel
theorem dJ5_appendNull_278bc_20 : decode cJ5_appendNull_278bc 20 = .ok (.aload_n 0, 1) := by decide +kernel
theorem dJ5_appendNull_278bc_21 : decode cJ5_appendNull_278bc 21 = .ok (.invokevirtual 83, 3) := by decide +kernel
theorem dJ5_appendNull_278bc_24 : decode cJ5_appendNull_278bc 24 = .ok (.ifCond .eq 38, 3) := by decide +kernel
theorem dJ5_appendNull_278bc_27 : decode cJ5_appendNull_278bc 27 = .ok (.aload_n 2, 1) := by decide +kernel
theorem dJ5_appendNull_278bc_28 : decode cJ5_appendNull_278bc 28 = .ok (.iload_n 1, 1) := by decide +kernel
theorem dJ5_appendNull_278bc_29 : decode cJ5_appendNull_278bc 29 = .ok (.iinc 1 1, 3) := by decide +kernel
theorem dJ5_appendNull_278bc_32 : decode cJ5_appendNull_278bc 32 = .ok (.bipush 110, 2) := by decide +kernel
theorem dJ5_appendNull_278bc_34 : decode cJ5_appendNull_278bc 34 = .ok (.bastore, 1) := by decide +kernel
theorem dJ5_appendNull_278bc_35 : decode cJ5_appendNull_278bc 35 = .ok (.aload_n 2, 1) := by decide +kernel
theorem dJ5_appendNull_278bc_36 : decode cJ5_appendNull_278bc 36 = .ok (.iload_n 1, 1) := by decide +kernel
theorem dJ5_appendNull_278bc_37 : decode cJ5_appendNull_278bc 37 = .ok (.iinc 1 1, 3) := by decide +kernel
theorem dJ5_appendNull_278bc_40 : decode cJ5_appendNull_278bc 40 = .ok (.bipush 117, 2) := by decide +kernel
theorem dJ5_appendNull_278bc_42 : decode cJ5_appendNull_278bc 42 = .ok (.bastore, 1) := by decide +kernel
theorem dJ5_appendNull_278bc_43 : decode cJ5_appendNull_278bc 43 = .ok (.aload_n 2, 1) := by decide +kernel
theorem dJ5_appendNull_278bc_44 : decode cJ5_appendNull_278bc 44 = .ok (.iload_n 1, 1) := by decide +kernel
theorem dJ5_appendNull_278bc_45 : decode cJ5_appendNull_278bc 45 = .ok (.iinc 1 1, 3) := by decide +kernel
theorem dJ5_appendNull_278bc_48 : decode cJ5_appendNull_278bc 48 = .ok (.bipush 108, 2) := by decide +kernel
theorem dJ5_appendNull_278bc_50 : decode cJ5_appendNull_278bc 50 = .ok (.bastore, 1) := by decide +kernel
theorem dJ5_appendNull_278bc_51 : decode cJ5_appendNull_278bc 51 = .ok (.aload_n 2, 1) := by decide +kernel
theorem dJ5_appendNull_278bc_52 : decode cJ5_appendNull_278bc 52 = .ok (.iload_n 1, 1) := by decide +kernel
theorem dJ5_appendNull_278bc_53 : decode cJ5_appendNull_278bc 53 = .ok (.iinc 1 1, 3) := by decide +kernel
theorem dJ5_appendNull_278bc_56 : decode cJ5_appendNull_278bc 56 = .ok (.bipush 108, 2) := by decide +kernel
theorem dJ5_appendNull_278bc_58 : decode cJ5_appendNull_278bc 58 = .ok (.bastore, 1) := by decide +kernel
theorem dJ5_appendNull_278bc_59 : decode cJ5_appendNull_278bc 59 = .ok (.goto 17, 3) := by decide +kernel
theorem dJ5_appendNull_278bc_62 : decode cJ5_appendNull_278bc 62 = .ok (.aload_n 2, 1) := by decide +kernel
theorem dJ5_appendNull_278bc_63 : decode cJ5_appendNull_278bc 63 = .ok (.iload_n 1, 1) := by decide +kernel
theorem dJ5_appendNull_278bc_64 : decode cJ5_appendNull_278bc 64 = .ok (.bipush 110, 2) := by decide +kernel
theorem dJ5_appendNull_278bc_66 : decode cJ5_appendNull_278bc 66 = .ok (.bipush 117, 2) := by decide +kernel
theorem dJ5_appendNull_278bc_68 : decode cJ5_appendNull_278bc 68 = .ok (.bipush 108, 2) := by decide +kernel
theorem dJ5_appendNull_278bc_70 : decode cJ5_appendNull_278bc 70 = .ok (.bipush 108, 2) := by decide +kernel
theorem dJ5_appendNull_278bc_72 : decode cJ5_appendNull_278bc 72 = .ok (.invokestatic 226, 3) := by decide +kernel
theorem dJ5_appendNull_278bc_75 : decode cJ5_appendNull_278bc 75 = .ok (.istore_n 1, 1) := by decide +kernel
theorem dJ5_appendNull_278bc_76 : decode cJ5_appendNull_278bc 76 = .ok (.aload_n 0, 1) := by decide +kernel
theorem dJ5_appendNull_278bc_77 : decode cJ5_appendNull_278bc 77 = .ok (.iload_n 1, 1) := by decide +kernel
theorem dJ5_appendNull_278bc_78 : decode cJ5_appendNull_278bc 78 = .ok (.putfield 79, 3) := by decide +kernel
theorem dJ5_appendNull_278bc_81 : decode cJ5_appendNull_278bc 81 = .ok (.aload_n 0, 1) := by decide +kernel
theorem dJ5_appendNull_278bc_82 : decode cJ5_appendNull_278bc 82 = .ok (.areturn, 1) := by decide +kernel
theorem dJ5_append_c97b9_0 : decode cJ5_append_c97b9 0 = .ok (.aload_n 0, 1) := by decide +kernel
theorem dJ5_append_c97b9_1 : decode cJ5_append_c97b9 1 = .ok (.getfield 79, 3) := by decide +kernel
theorem dJ5_append_c97b9_4 : decode cJ5_append_c97b9 4 = .ok (.istore_n 2, 1) := by decide +kernel
theorem dJ5_append_c97b9_5 : decode cJ5_append_c97b9 5 = .ok (.iload_n 2, 1) := by decide +kernel
theorem dJ5_append_c97b9_6 : decode cJ5_append_c97b9 6 = .ok (.iload_n 1, 1) := by decide +kernel
theorem dJ5_append_c97b9_7 : decode cJ5_append_c97b9 7 = .ok (.invokestatic 245, 3) := by decide +kernel
theorem dJ5_append_c97b9_10 : decode cJ5_append_c97b9 10 = .ok (.iadd, 1) := by decide +kernel
theorem dJ5_append_c97b9_11 : decode cJ5_append_c97b9 11 = .ok (.istore_n 3, 1) := by decide +kernel
theorem dJ5_append_c97b9_12 : decode cJ5_append_c97b9 12 = .ok (.aload_n 0, 1) := by decide +kernel
theorem dJ5_append_c97b9_13 : decode cJ5_append_c97b9 13 = .ok (.iload_n 3, 1) := by decide +kernel
theorem dJ5_append_c97b9_14 : decode cJ5_append_c97b9 14 = .ok (.invokevirtual 100, 3) := by decide +kernel
theorem dJ5_append_c97b9_17 : decode cJ5_append_c97b9 17 = .ok (.aload_n 0, 1) := by decide +kernel
theorem dJ5_append_c97b9_18 : decode cJ5_append_c97b9 18 = .ok (.invokevirtual 83, 3) := by decide +kernel
theorem dJ5_append_c97b9_21 : decode cJ5_append_c97b9 21 = .ok (.ifCond .eq 16, 3) := by decide +kernel
theorem dJ5_append_c97b9_24 : decode cJ5_append_c97b9 24 = .ok (.iload_n 1, 1) := by decide +kernel
theorem dJ5_append_c97b9_25 : decode cJ5_append_c97b9 25 = .ok (.iload_n 3, 1) := by decide +kernel
theorem dJ5_append_c97b9_26 : decode cJ5_append_c97b9 26 = .ok (.aload_n 0, 1) := by decide +kernel
theorem dJ5_append_c97b9_27 : decode cJ5_append_c97b9 27 = .ok (.getfield 15, 3) := by decide +kernel
theorem dJ5_append_c97b9_30 : decode cJ5_append_c97b9 30 = .ok (.invokestatic 248, 3) := by decide +kernel
theorem dJ5_append_c97b9_33 : decode cJ5_append_c97b9 33 = .ok (.pop, 1) := by decide +kernel
theorem dJ5_append_c97b9_34 : decode cJ5_append_c97b9 34 = .ok (.goto 14, 3) := by decide +kernel
theorem dJ5_append_c97b9_37 : decode cJ5_append_c97b9 37 = .ok (.iload_n 1, 1) := by decide +kernel
theorem dJ5_append_c97b9_38 : decode cJ5_append_c97b9 38 = .ok (.iload_n 2, 1) := by decide +kernel
theorem dJ5_append_c97b9_39 : decode cJ5_append_c97b9 39 = .ok (.iload_n 3, 1) := by decide +kernel
theorem dJ5_append_c97b9_40 : decode cJ5_append_c97b9 40 = .ok (.aload_n 0, 1) := by decide +kernel
theorem dJ5_append_c97b9_41 : decode cJ5_append_c97b9 41 = .ok (.getfield 15, 3) := by decide +kernel
theorem dJ5_append_c97b9_44 : decode cJ5_append_c97b9 44 = .ok (.invokestatic 251, 3) := by decide +kernel
theorem dJ5_append_c97b9_47 : decode cJ5_append_c97b9 47 = .ok (.pop, 1) := by decide +kernel
theorem dJ5_append_c97b9_48 : decode cJ5_append_c97b9 48 = .ok (.aload_n 0, 1) := by decide +kernel
theorem dJ5_append_c97b9_49 : decode cJ5_append_c97b9 49 = .ok (.iload_n 3, 1) := by decide +kernel
theorem dJ5_append_c97b9_50 : decode cJ5_append_c97b9 50 = .ok (.putfield 79, 3) := by decide +kernel
theorem dJ5_append_c97b9_53 : decode cJ5_append_c97b9 53 = .ok (.aload_n 0, 1) := by decide +kernel
theorem dJ5_append_c97b9_54 : decode cJ5_append_c97b9 54 = .ok (.areturn, 1) := by decide +kernel
theorem dJ5_getValue_6d5f1_0 : decode cJ5_getValue_6d5f1 0 = .ok (.aload_n 0, 1) := by decide +kernel
theorem dJ5_getValue_6d5f1_1 : decode cJ5_getValue_6d5f1 1 = .ok (.getfield 15, 3) := by decide +kernel
theorem dJ5_getValue_6d5f1_4 : decode cJ5_getValue_6d5f1 4 = .ok (.areturn, 1) := by decide +kernel
theorem dJ5_isLatin1_aae02_0 : decode cJ5_isLatin1_aae02 0 = .ok (.getstatic 18, 3) := by decide +kernel
theorem dJ5_isLatin1_aae02_3 : decode cJ5_isLatin1_aae02 3 = .ok (.ifCond .eq 14, 3) := by decide +kernel
theorem dJ5_isLatin1_aae02_6 : decode cJ5_isLatin1_aae02 6 = .ok (.aload_n 0, 1) := by decide +kernel
theorem dJ5_isLatin1_aae02_7 : decode cJ5_isLatin1_aae02 7 = .ok (.getfield 22, 3) := by decide +kernel
theorem dJ5_isLatin1_aae02_10 : decode cJ5_isLatin1_aae02 10 = .ok (.ifCond .ne 7, 3) := by decide +kernel
theorem dJ5_isLatin1_aae02_13 : decode cJ5_isLatin1_aae02 13 = .ok (.iconst 1, 1) := by decide +kernel
theorem dJ5_isLatin1_aae02_14 : decode cJ5_isLatin1_aae02 14 = .ok (.goto 4, 3) := by decide +kernel
theorem dJ5_isLatin1_aae02_17 : decode cJ5_isLatin1_aae02 17 = .ok (.iconst 0, 1) := by decide +kernel
theorem dJ5_isLatin1_aae02_18 : decode cJ5_isLatin1_aae02 18 = .ok (.ireturn, 1) := by decide +kernel
theorem dJ5_inflateIfNeededFor_a7421_0 : decode cJ5_inflateIfNeededFor_a7421 0 = .ok (.getstatic 18, 3) := by decide +kernel
theorem dJ5_inflateIfNeededFor_a7421_3 : decode cJ5_inflateIfNeededFor_a7421 3 = .ok (.ifCond .eq 18, 3) := by decide +kernel
theorem dJ5_inflateIfNeededFor_a7421_6 : decode cJ5_inflateIfNeededFor_a7421 6 = .ok (.aload_n 0, 1) := by decide +kernel
theorem dJ5_inflateIfNeededFor_a7421_7 : decode cJ5_inflateIfNeededFor_a7421 7 = .ok (.getfield 22, 3) := by decide +kernel
theorem dJ5_inflateIfNeededFor_a7421_10 : decode cJ5_inflateIfNeededFor_a7421 10 = .ok (.aload_n 1, 1) := by decide +kernel
theorem dJ5_inflateIfNeededFor_a7421_11 : decode cJ5_inflateIfNeededFor_a7421 11 = .ok (.invokevirtual 40, 3) := by decide +kernel
theorem dJ5_inflateIfNeededFor_a7421_14 : decode cJ5_inflateIfNeededFor_a7421 14 = .ok (.if_icmp .eq 7, 3) := by decide +kernel
theorem dJ5_inflateIfNeededFor_a7421_17 : decode cJ5_inflateIfNeededFor_a7421 17 = .ok (.aload_n 0, 1) := by decide +kernel
theorem dJ5_inflateIfNeededFor_a7421_18 : decode cJ5_inflateIfNeededFor_a7421 18 = .ok (.invokevirtual 195, 3) := by decide +kernel
theorem dJ5_inflateIfNeededFor_a7421_21 : decode cJ5_inflateIfNeededFor_a7421 21 = .ok (.return_, 1) := by decide +kernel
theorem dJ5_putStringAt_47b60_0 : decode cJ5_putStringAt_47b60 0 = .ok (.aload_n 0, 1) := by decide +kernel
theorem dJ5_putStringAt_47b60_1 : decode cJ5_putStringAt_47b60 1 = .ok (.aload_n 2, 1) := by decide +kernel
theorem dJ5_putStringAt_47b60_2 : decode cJ5_putStringAt_47b60 2 = .ok (.invokevirtual 397, 3) := by decide +kernel
theorem dJ5_putStringAt_47b60_5 : decode cJ5_putStringAt_47b60 5 = .ok (.aload_n 2, 1) := by decide +kernel
theorem dJ5_putStringAt_47b60_6 : decode cJ5_putStringAt_47b60 6 = .ok (.aload_n 0, 1) := by decide +kernel
theorem dJ5_putStringAt_47b60_7 : decode cJ5_putStringAt_47b60 7 = .ok (.getfield 15, 3) := by decide +kernel
theorem dJ5_putStringAt_47b60_10 : decode cJ5_putStringAt_47b60 10 = .ok (.iload_n 1, 1) := by decide +kernel
theorem dJ5_putStringAt_47b60_11 : decode cJ5_putStringAt_47b60 11 = .ok (.aload_n 0, 1) := by decide +kernel
theorem dJ5_putStringAt_47b60_12 : decode cJ5_putStringAt_47b60 12 = .ok (.getfield 22, 3) := by decide +kernel
theorem dJ5_putStringAt_47b60_15 : decode cJ5_putStringAt_47b60 15 = .ok (.invokevirtual 399, 3) := by decide +kernel
theorem dJ5_putStringAt_47b60_18 : decode cJ5_putStringAt_47b60 18 = .ok (.return_, 1) := by decide +kernel
theorem dJx00060_init_a7421_0 : decode cJx00060_init_a7421 0 = .ok (.aload_n 0, 1) := by decide +kernel
theorem dJx00060_init_a7421_1 : decode cJx00060_init_a7421 1 = .ok (.aload_n 1, 1) := by decide +kernel
theorem dJx00060_init_a7421_2 : decode cJx00060_init_a7421 2 = .ok (.invokespecial 7, 3) := by decide +kernel
theorem dJx00060_init_a7421_5 : decode cJx00060_init_a7421 5 = .ok (.return_, 1) := by decide +kernel
theorem dJ6_getChars_ba4f3_0 : decode cJ6_getChars_ba4f3 0 = .ok (.iload_n 1, 1) := by decide +kernel
theorem dJ6_getChars_ba4f3_1 : decode cJ6_getChars_ba4f3 1 = .ok (.istore 5, 2) := by decide +kernel
theorem dJ6_getChars_ba4f3_3 : decode cJ6_getChars_ba4f3 3 = .ok (.iload_n 0, 1) := by decide +kernel
theorem dJ6_getChars_ba4f3_4 : decode cJ6_getChars_ba4f3 4 = .ok (.ifCond .ge 7, 3) := by decide +kernel
theorem dJ6_getChars_ba4f3_7 : decode cJ6_getChars_ba4f3 7 = .ok (.iconst 1, 1) := by decide +kernel
theorem dJ6_getChars_ba4f3_8 : decode cJ6_getChars_ba4f3 8 = .ok (.goto 4, 3) := by decide +kernel
theorem dJ6_getChars_ba4f3_11 : decode cJ6_getChars_ba4f3 11 = .ok (.iconst 0, 1) := by decide +kernel
theorem dJ6_getChars_ba4f3_12 : decode cJ6_getChars_ba4f3 12 = .ok (.istore 6, 2) := by decide +kernel
theorem dJ6_getChars_ba4f3_14 : decode cJ6_getChars_ba4f3 14 = .ok (.iload 6, 2) := by decide +kernel
theorem dJ6_getChars_ba4f3_16 : decode cJ6_getChars_ba4f3 16 = .ok (.ifCond .ne 6, 3) := by decide +kernel
theorem dJ6_getChars_ba4f3_19 : decode cJ6_getChars_ba4f3 19 = .ok (.iload_n 0, 1) := by decide +kernel
theorem dJ6_getChars_ba4f3_20 : decode cJ6_getChars_ba4f3 20 = .ok (.ineg, 1) := by decide +kernel
theorem dJ6_getChars_ba4f3_21 : decode cJ6_getChars_ba4f3 21 = .ok (.istore_n 0, 1) := by decide +kernel
theorem dJ6_getChars_ba4f3_22 : decode cJ6_getChars_ba4f3 22 = .ok (.iload_n 0, 1) := by decide +kernel
theorem dJ6_getChars_ba4f3_23 : decode cJ6_getChars_ba4f3 23 = .ok (.bipush (-100), 2) := by decide +kernel
theorem dJ6_getChars_ba4f3_25 : decode cJ6_getChars_ba4f3 25 = .ok (.if_icmp .gt 47, 3) := by decide +kernel
theorem dJ6_getChars_ba4f3_28 : decode cJ6_getChars_ba4f3 28 = .ok (.iload_n 0, 1) := by decide +kernel
theorem dJ6_getChars_ba4f3_29 : decode cJ6_getChars_ba4f3 29 = .ok (.bipush 100, 2) := by decide +kernel
