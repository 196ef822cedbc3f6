theorem dX9_isNet_5 : decode cX9_isNet 5 = .ok (.iconst 3, 1) := by decide +kernel
theorem dX9_isNet_6 : decode cX9_isNet 6 = .ok (.if_icmp .ge 7, 3) := by decide +kernel
theorem dX9_isNet_9 : decode cX9_isNet 9 = .ok (.iconst 1, 1) := by decide +kernel
theorem dX9_isNet_10 : decode cX9_isNet 10 = .ok (.goto 4, 3) := by decide +kernel
theorem dX9_isNet_13 : decode cX9_isNet 13 = .ok (.iconst 0, 1) := by decide +kernel
theorem dX9_isNet_14 : decode cX9_isNet 14 = .ok (.ireturn, 1) := by decide +kernel
theorem dX9_isPlace_0 : decode cX9_isPlace 0 = .ok (.iload_n 0, 1) := by decide +kernel
theorem dX9_isPlace_1 : decode cX9_isPlace 1 = .ok (.ifCond .lt 13, 3) := by decide +kernel
theorem dX9_isPlace_4 : decode cX9_isPlace 4 = .ok (.iload_n 0, 1) := by decide +kernel
theorem dX9_isPlace_5 : decode cX9_isPlace 5 = .ok (.bipush 24, 2) := by decide +kernel
theorem dX9_isPlace_7 : decode cX9_isPlace 7 = .ok (.if_icmp .ge 7, 3) := by decide +kernel
theorem dX9_isPlace_10 : decode cX9_isPlace 10 = .ok (.iconst 1, 1) := by decide +kernel
theorem dX9_isPlace_11 : decode cX9_isPlace 11 = .ok (.goto 4, 3) := by decide +kernel
theorem dX9_isPlace_14 : decode cX9_isPlace 14 = .ok (.iconst 0, 1) := by decide +kernel
theorem dX9_isPlace_15 : decode cX9_isPlace 15 = .ok (.ireturn, 1) := by decide +kernel
theorem dX9_areBeside_0 : decode cX9_areBeside 0 = .ok (.iload_n 0, 1) := by decide +kernel
theorem dX9_areBeside_1 : decode cX9_areBeside 1 = .ok (.invokestatic 190, 3) := by decide +kernel
theorem dX9_areBeside_4 : decode cX9_areBeside 4 = .ok (.ifCond .eq 10, 3) := by decide +kernel
theorem dX9_areBeside_7 : decode cX9_areBeside 7 = .ok (.iload_n 1, 1) := by decide +kernel
theorem dX9_areBeside_8 : decode cX9_areBeside 8 = .ok (.invokestatic 190, 3) := by decide +kernel
theorem dX9_areBeside_11 : decode cX9_areBeside 11 = .ok (.ifCond .ne 5, 3) := by decide +kernel
theorem dX9_areBeside_14 : decode cX9_areBeside 14 = .ok (.iconst 0, 1) := by decide +kernel
theorem dX9_areBeside_15 : decode cX9_areBeside 15 = .ok (.ireturn, 1) := by decide +kernel
theorem dX9_areBeside_16 : decode cX9_areBeside 16 = .ok (.iload_n 0, 1) := by decide +kernel
theorem dX9_areBeside_17 : decode cX9_areBeside 17 = .ok (.iload_n 1, 1) := by decide +kernel
theorem dX9_areBeside_18 : decode cX9_areBeside 18 = .ok (.invokestatic 470, 3) := by decide +kernel
theorem dX9_areBeside_21 : decode cX9_areBeside 21 = .ok (.istore_n 2, 1) := by decide +kernel
theorem dX9_areBeside_22 : decode cX9_areBeside 22 = .ok (.iload_n 0, 1) := by decide +kernel
theorem dX9_areBeside_23 : decode cX9_areBeside 23 = .ok (.iload_n 1, 1) := by decide +kernel
theorem dX9_areBeside_24 : decode cX9_areBeside 24 = .ok (.invokestatic 446, 3) := by decide +kernel
theorem dX9_areBeside_27 : decode cX9_areBeside 27 = .ok (.iload_n 2, 1) := by decide +kernel
theorem dX9_areBeside_28 : decode cX9_areBeside 28 = .ok (.isub, 1) := by decide +kernel
theorem dX9_areBeside_29 : decode cX9_areBeside 29 = .ok (.istore_n 3, 1) := by decide +kernel
theorem dX9_areBeside_30 : decode cX9_areBeside 30 = .ok (.iload_n 3, 1) := by decide +kernel
theorem dX9_areBeside_31 : decode cX9_areBeside 31 = .ok (.iconst 1, 1) := by decide +kernel
theorem dX9_areBeside_32 : decode cX9_areBeside 32 = .ok (.if_icmp .ne 13, 3) := by decide +kernel
theorem dX9_areBeside_35 : decode cX9_areBeside 35 = .ok (.ldc_w 473, 3) := by decide +kernel
theorem dX9_areBeside_38 : decode cX9_areBeside 38 = .ok (.iload_n 2, 1) := by decide +kernel
theorem dX9_areBeside_39 : decode cX9_areBeside 39 = .ok (.invokestatic 474, 3) := by decide +kernel
theorem dX9_areBeside_42 : decode cX9_areBeside 42 = .ok (.ifCond .ne 9, 3) := by decide +kernel
theorem dX9_areBeside_45 : decode cX9_areBeside 45 = .ok (.iload_n 3, 1) := by decide +kernel
theorem dX9_areBeside_46 : decode cX9_areBeside 46 = .ok (.bipush 6, 2) := by decide +kernel
theorem dX9_areBeside_48 : decode cX9_areBeside 48 = .ok (.if_icmp .ne 7, 3) := by decide +kernel
theorem dX9_areBeside_51 : decode cX9_areBeside 51 = .ok (.iconst 1, 1) := by decide +kernel
theorem dX9_areBeside_52 : decode cX9_areBeside 52 = .ok (.goto 4, 3) := by decide +kernel
theorem dX9_areBeside_55 : decode cX9_areBeside 55 = .ok (.iconst 0, 1) := by decide +kernel
theorem dX9_areBeside_56 : decode cX9_areBeside 56 = .ok (.ireturn, 1) := by decide +kernel
theorem dX9_isAcross_0 : decode cX9_isAcross 0 = .ok (.iload_n 0, 1) := by decide +kernel
theorem dX9_isAcross_1 : decode cX9_isAcross 1 = .ok (.iload_n 1, 1) := by decide +kernel
theorem dX9_isAcross_2 : decode cX9_isAcross 2 = .ok (.invokestatic 446, 3) := by decide +kernel
theorem dX9_isAcross_5 : decode cX9_isAcross 5 = .ok (.iload_n 0, 1) := by decide +kernel
theorem dX9_isAcross_6 : decode cX9_isAcross 6 = .ok (.iload_n 1, 1) := by decide +kernel
theorem dX9_isAcross_7 : decode cX9_isAcross 7 = .ok (.invokestatic 470, 3) := by decide +kernel
theorem dX9_isAcross_10 : decode cX9_isAcross 10 = .ok (.isub, 1) := by decide +kernel
theorem dX9_isAcross_11 : decode cX9_isAcross 11 = .ok (.iconst 1, 1) := by decide +kernel
theorem dX9_isAcross_12 : decode cX9_isAcross 12 = .ok (.if_icmp .ne 7, 3) := by decide +kernel
theorem dX9_isAcross_15 : decode cX9_isAcross 15 = .ok (.iconst 1, 1) := by decide +kernel
theorem dX9_isAcross_16 : decode cX9_isAcross 16 = .ok (.goto 4, 3) := by decide +kernel
theorem dX9_isAcross_19 : decode cX9_isAcross 19 = .ok (.iconst 0, 1) := by decide +kernel
theorem dX9_isAcross_20 : decode cX9_isAcross 20 = .ok (.ireturn, 1) := by decide +kernel
theorem dX9_twineFor_0 : decode cX9_twineFor 0 = .ok (.iload_n 0, 1) := by decide +kernel
theorem dX9_twineFor_1 : decode cX9_twineFor 1 = .ok (.iload_n 1, 1) := by decide +kernel
theorem dX9_twineFor_2 : decode cX9_twineFor 2 = .ok (.invokestatic 477, 3) := by decide +kernel
theorem dX9_twineFor_5 : decode cX9_twineFor 5 = .ok (.ifCond .eq 7, 3) := by decide +kernel
theorem dX9_twineFor_8 : decode cX9_twineFor 8 = .ok (.iconst 1, 1) := by decide +kernel
theorem dX9_twineFor_9 : decode cX9_twineFor 9 = .ok (.goto 4, 3) := by decide +kernel
theorem dX9_twineFor_12 : decode cX9_twineFor 12 = .ok (.iconst 2, 1) := by decide +kernel
theorem dX9_twineFor_13 : decode cX9_twineFor 13 = .ok (.ireturn, 1) := by decide +kernel
theorem dX9_isIn_0 : decode cX9_isIn 0 = .ok (.iload_n 0, 1) := by decide +kernel
theorem dX9_isIn_1 : decode cX9_isIn 1 = .ok (.iload_n 1, 1) := by decide +kernel
theorem dX9_isIn_2 : decode cX9_isIn 2 = .ok (.ishr, 1) := by decide +kernel
theorem dX9_isIn_3 : decode cX9_isIn 3 = .ok (.iconst 1, 1) := by decide +kernel
theorem dX9_isIn_4 : decode cX9_isIn 4 = .ok (.iand, 1) := by decide +kernel
theorem dX9_isIn_5 : decode cX9_isIn 5 = .ok (.ifCond .eq 7, 3) := by decide +kernel
theorem dX9_isIn_8 : decode cX9_isIn 8 = .ok (.iconst 1, 1) := by decide +kernel
theorem dX9_isIn_9 : decode cX9_isIn 9 = .ok (.goto 4, 3) := by decide +kernel
theorem dX9_isIn_12 : decode cX9_isIn 12 = .ok (.iconst 0, 1) := by decide +kernel
theorem dX9_isIn_13 : decode cX9_isIn 13 = .ok (.ireturn, 1) := by decide +kernel
theorem dX9_with_0 : decode cX9_with 0 = .ok (.iload_n 2, 1) := by decide +kernel
theorem dX9_with_1 : decode cX9_with 1 = .ok (.ifCond .eq 11, 3) := by decide +kernel
theorem dX9_with_4 : decode cX9_with 4 = .ok (.iload_n 0, 1) := by decide +kernel
theorem dX9_with_5 : decode cX9_with 5 = .ok (.iconst 1, 1) := by decide +kernel
theorem dX9_with_6 : decode cX9_with 6 = .ok (.iload_n 1, 1) := by decide +kernel
theorem dX9_with_7 : decode cX9_with 7 = .ok (.ishl, 1) := by decide +kernel
theorem dX9_with_8 : decode cX9_with 8 = .ok (.ior, 1) := by decide +kernel
theorem dX9_with_9 : decode cX9_with 9 = .ok (.goto 10, 3) := by decide +kernel
theorem dX9_with_12 : decode cX9_with 12 = .ok (.iload_n 0, 1) := by decide +kernel
theorem dX9_with_13 : decode cX9_with 13 = .ok (.iconst 1, 1) := by decide +kernel
theorem dX9_with_14 : decode cX9_with 14 = .ok (.iload_n 1, 1) := by decide +kernel
theorem dX9_with_15 : decode cX9_with 15 = .ok (.ishl, 1) := by decide +kernel
theorem dX9_with_16 : decode cX9_with 16 = .ok (.iconst (-1), 1) := by decide +kernel
theorem dX9_with_17 : decode cX9_with 17 = .ok (.ixor, 1) := by decide +kernel
theorem dX9_with_18 : decode cX9_with 18 = .ok (.iand, 1) := by decide +kernel
theorem dX9_with_19 : decode cX9_with 19 = .ok (.ireturn, 1) := by decide +kernel
theorem dX9_lowestPlace_0 : decode cX9_lowestPlace 0 = .ok (.iload_n 0, 1) := by decide +kernel
theorem dX9_lowestPlace_1 : decode cX9_lowestPlace 1 = .ok (.iload_n 0, 1) := by decide +kernel
theorem dX9_lowestPlace_2 : decode cX9_lowestPlace 2 = .ok (.ineg, 1) := by decide +kernel
theorem dX9_lowestPlace_3 : decode cX9_lowestPlace 3 = .ok (.iand, 1) := by decide +kernel
theorem dX9_lowestPlace_4 : decode cX9_lowestPlace 4 = .ok (.iconst 1, 1) := by decide +kernel
theorem dX9_lowestPlace_5 : decode cX9_lowestPlace 5 = .ok (.isub, 1) := by decide +kernel
theorem dX9_lowestPlace_6 : decode cX9_lowestPlace 6 = .ok (.invokestatic 215, 3) := by decide +kernel
theorem dX9_lowestPlace_9 : decode cX9_lowestPlace 9 = .ok (.ireturn, 1) := by decide +kernel
theorem dX9_beside_0 : decode cX9_beside 0 = .ok (.iload_n 0, 1) := by decide +kernel
theorem dX9_beside_1 : decode cX9_beside 1 = .ok (.iload_n 1, 1) := by decide +kernel
theorem dX9_beside_2 : decode cX9_beside 2 = .ok (.iand, 1) := by decide +kernel
theorem dX9_beside_3 : decode cX9_beside 3 = .ok (.iconst 1, 1) := by decide +kernel
theorem dX9_beside_4 : decode cX9_beside 4 = .ok (.ishl, 1) := by decide +kernel
theorem dX9_beside_5 : decode cX9_beside 5 = .ok (.iload_n 0, 1) := by decide +kernel
theorem dX9_beside_6 : decode cX9_beside 6 = .ok (.iconst 1, 1) := by decide +kernel
theorem dX9_beside_7 : decode cX9_beside 7 = .ok (.ishr, 1) := by decide +kernel
theorem dX9_beside_8 : decode cX9_beside 8 = .ok (.iload_n 1, 1) := by decide +kernel
theorem dX9_beside_9 : decode cX9_beside 9 = .ok (.iand, 1) := by decide +kernel
theorem dX9_beside_10 : decode cX9_beside 10 = .ok (.ior, 1) := by decide +kernel
theorem dX9_beside_11 : decode cX9_beside 11 = .ok (.iload_n 0, 1) := by decide +kernel
theorem dX9_beside_12 : decode cX9_beside 12 = .ok (.iload_n 2, 1) := by decide +kernel
theorem dX9_beside_13 : decode cX9_beside 13 = .ok (.iand, 1) := by decide +kernel
theorem dX9_beside_14 : decode cX9_beside 14 = .ok (.bipush 6, 2) := by decide +kernel
theorem dX9_beside_16 : decode cX9_beside 16 = .ok (.ishl, 1) := by decide +kernel
theorem dX9_beside_17 : decode cX9_beside 17 = .ok (.ior, 1) := by decide +kernel
theorem dX9_beside_18 : decode cX9_beside 18 = .ok (.iload_n 0, 1) := by decide +kernel
theorem dX9_beside_19 : decode cX9_beside 19 = .ok (.bipush 6, 2) := by decide +kernel
theorem dX9_beside_21 : decode cX9_beside 21 = .ok (.ishr, 1) := by decide +kernel
theorem dX9_beside_22 : decode cX9_beside 22 = .ok (.iload_n 2, 1) := by decide +kernel
theorem dX9_beside_23 : decode cX9_beside 23 = .ok (.iand, 1) := by decide +kernel
theorem dX9_beside_24 : decode cX9_beside 24 = .ok (.ior, 1) := by decide +kernel
theorem dX9_beside_25 : decode cX9_beside 25 = .ok (.ireturn, 1) := by decide +kernel
theorem dX9_within_0 : decode cX9_within 0 = .ok (.iload_n 0, 1) := by decide +kernel
theorem dX9_within_1 : decode cX9_within 1 = .ok (.iload_n 0, 1) := by decide +kernel
theorem dX9_within_2 : decode cX9_within 2 = .ok (.iload_n 2, 1) := by decide +kernel
theorem dX9_within_3 : decode cX9_within 3 = .ok (.ishr, 1) := by decide +kernel
theorem dX9_within_4 : decode cX9_within 4 = .ok (.iand, 1) := by decide +kernel
theorem dX9_within_5 : decode cX9_within 5 = .ok (.iload_n 1, 1) := by decide +kernel
theorem dX9_within_6 : decode cX9_within 6 = .ok (.iand, 1) := by decide +kernel
theorem dX9_within_7 : decode cX9_within 7 = .ok (.ireturn, 1) := by decide +kernel
theorem dX9_letterOf_0 : decode cX9_letterOf 0 = .ok (.bipush 97, 2) := by decide +kernel
theorem dX9_letterOf_2 : decode cX9_letterOf 2 = .ok (.iload_n 0, 1) := by decide +kernel
theorem dX9_letterOf_3 : decode cX9_letterOf 3 = .ok (.iadd, 1) := by decide +kernel
theorem dX9_letterOf_4 : decode cX9_letterOf 4 = .ok (.iconst 1, 1) := by decide +kernel
theorem dX9_letterOf_5 : decode cX9_letterOf 5 = .ok (.isub, 1) := by decide +kernel
theorem dX9_letterOf_6 : decode cX9_letterOf 6 = .ok (.i2c, 1) := by decide +kernel
theorem dX9_letterOf_7 : decode cX9_letterOf 7 = .ok (.ireturn, 1) := by decide +kernel
theorem dX10_init_0 : decode cX10_init 0 = .ok (.aload_n 0, 1) := by decide +kernel
theorem dX10_init_1 : decode cX10_init 1 = .ok (.invokespecial 1, 3) := by decide +kernel
theorem dX10_init_4 : decode cX10_init 4 = .ok (.aload_n 0, 1) := by decide +kernel
theorem dX10_init_5 : decode cX10_init 5 = .ok (.bipush 53, 2) := by decide +kernel
theorem dX10_init_7 : decode cX10_init 7 = .ok (.newarray .int, 2) := by decide +kernel
theorem dX10_init_9 : decode cX10_init 9 = .ok (.putfield 7, 3) := by decide +kernel
theorem dX10_init_12 : decode cX10_init 12 = .ok (.aload_n 0, 1) := by decide +kernel
theorem dX10_init_13 : decode cX10_init 13 = .ok (.bipush 53, 2) := by decide +kernel
theorem dX10_init_15 : decode cX10_init 15 = .ok (.newarray .int, 2) := by decide +kernel
theorem dX10_init_17 : decode cX10_init 17 = .ok (.putfield 13, 3) := by decide +kernel
theorem dX10_init_20 : decode cX10_init 20 = .ok (.aload_n 0, 1) := by decide +kernel
theorem dX10_init_21 : decode cX10_init 21 = .ok (.bipush 53, 2) := by decide +kernel
theorem dX10_init_23 : decode cX10_init 23 = .ok (.newarray .int, 2) := by decide +kernel
theorem dX10_init_25 : decode cX10_init 25 = .ok (.putfield 16, 3) := by decide +kernel
theorem dX10_init_28 : decode cX10_init 28 = .ok (.aload_n 0, 1) := by decide +kernel
theorem dX10_init_29 : decode cX10_init 29 = .ok (.sipush 424, 3) := by decide +kernel
theorem dX10_init_32 : decode cX10_init 32 = .ok (.newarray .int, 2) := by decide +kernel
theorem dX10_init_34 : decode cX10_init 34 = .ok (.putfield 19, 3) := by decide +kernel
theorem dX10_init_37 : decode cX10_init 37 = .ok (.aload_n 0, 1) := by decide +kernel
theorem dX10_init_38 : decode cX10_init 38 = .ok (.bipush 60, 2) := by decide +kernel
theorem dX10_init_40 : decode cX10_init 40 = .ok (.newarray .int, 2) := by decide +kernel
theorem dX10_init_42 : decode cX10_init 42 = .ok (.putfield 22, 3) := by decide +kernel
theorem dX10_init_45 : decode cX10_init 45 = .ok (.aload_n 0, 1) := by decide +kernel
theorem dX10_init_46 : decode cX10_init 46 = .ok (.sipush 300, 3) := by decide +kernel
theorem dX10_init_49 : decode cX10_init 49 = .ok (.newarray .int, 2) := by decide +kernel
theorem dX10_init_51 : decode cX10_init 51 = .ok (.putfield 25, 3) := by decide +kernel
theorem dX10_init_54 : decode cX10_init 54 = .ok (.aload_n 0, 1) := by decide +kernel
theorem dX10_init_55 : decode cX10_init 55 = .ok (.bipush 60, 2) := by decide +kernel
theorem dX10_init_57 : decode cX10_init 57 = .ok (.newarray .int, 2) := by decide +kernel
theorem dX10_init_59 : decode cX10_init 59 = .ok (.putfield 28, 3) := by decide +kernel
theorem dX10_init_62 : decode cX10_init 62 = .ok (.aload_n 0, 1) := by decide +kernel
theorem dX10_init_63 : decode cX10_init 63 = .ok (.iconst (-1), 1) := by decide +kernel
theorem dX10_init_64 : decode cX10_init 64 = .ok (.putfield 31, 3) := by decide +kernel
theorem dX10_init_67 : decode cX10_init 67 = .ok (.return_, 1) := by decide +kernel
theorem dX10_thrown_0 : decode cX10_thrown 0 = .ok (.aload_n 0, 1) := by decide +kernel
theorem dX10_thrown_1 : decode cX10_thrown 1 = .ok (.getfield 35, 3) := by decide +kernel
theorem dX10_thrown_4 : decode cX10_thrown 4 = .ok (.ireturn, 1) := by decide +kernel
theorem dX10_fails_0 : decode cX10_fails 0 = .ok (.aload_n 0, 1) := by decide +kernel
theorem dX10_fails_1 : decode cX10_fails 1 = .ok (.iload_n 1, 1) := by decide +kernel
theorem dX10_fails_2 : decode cX10_fails 2 = .ok (.putfield 35, 3) := by decide +kernel
theorem dX10_fails_5 : decode cX10_fails 5 = .ok (.iconst 0, 1) := by decide +kernel
theorem dX10_fails_6 : decode cX10_fails 6 = .ok (.ireturn, 1) := by decide +kernel
theorem dX10_in_0 : decode cX10_in 0 = .ok (.iload_n 0, 1) := by decide +kernel
theorem dX10_in_1 : decode cX10_in 1 = .ok (.iload_n 1, 1) := by decide +kernel
theorem dX10_in_2 : decode cX10_in 2 = .ok (.if_icmp .lt 12, 3) := by decide +kernel
theorem dX10_in_5 : decode cX10_in 5 = .ok (.iload_n 0, 1) := by decide +kernel
theorem dX10_in_6 : decode cX10_in 6 = .ok (.iload_n 2, 1) := by decide +kernel
theorem dX10_in_7 : decode cX10_in 7 = .ok (.if_icmp .gt 7, 3) := by decide +kernel
theorem dX10_in_10 : decode cX10_in 10 = .ok (.iconst 1, 1) := by decide +kernel
theorem dX10_in_11 : decode cX10_in 11 = .ok (.goto 4, 3) := by decide +kernel
theorem dX10_in_14 : decode cX10_in 14 = .ok (.iconst 0, 1) := by decide +kernel
theorem dX10_in_15 : decode cX10_in 15 = .ok (.ireturn, 1) := by decide +kernel
theorem dX10_remembers_0 : decode cX10_remembers 0 = .ok (.aload_n 0, 1) := by decide +kernel
theorem dX10_remembers_1 : decode cX10_remembers 1 = .ok (.iconst 0, 1) := by decide +kernel
theorem dX10_remembers_2 : decode cX10_remembers 2 = .ok (.putfield 35, 3) := by decide +kernel
theorem dX10_remembers_5 : decode cX10_remembers 5 = .ok (.iconst 0, 1) := by decide +kernel
theorem dX10_remembers_6 : decode cX10_remembers 6 = .ok (.istore_n 1, 1) := by decide +kernel
theorem dX10_remembers_7 : decode cX10_remembers 7 = .ok (.iload_n 1, 1) := by decide +kernel
theorem dX10_remembers_8 : decode cX10_remembers 8 = .ok (.bipush 53, 2) := by decide +kernel
theorem dX10_remembers_10 : decode cX10_remembers 10 = .ok (.if_icmp .ge 21, 3) := by decide +kernel
theorem dX10_remembers_13 : decode cX10_remembers 13 = .ok (.aload_n 0, 1) := by decide +kernel
theorem dX10_remembers_14 : decode cX10_remembers 14 = .ok (.getfield 13, 3) := by decide +kernel
theorem dX10_remembers_17 : decode cX10_remembers 17 = .ok (.iload_n 1, 1) := by decide +kernel
theorem dX10_remembers_18 : decode cX10_remembers 18 = .ok (.aload_n 0, 1) := by decide +kernel
theorem dX10_remembers_19 : decode cX10_remembers 19 = .ok (.getfield 7, 3) := by decide +kernel
theorem dX10_remembers_22 : decode cX10_remembers 22 = .ok (.iload_n 1, 1) := by decide +kernel
theorem dX10_remembers_23 : decode cX10_remembers 23 = .ok (.iaload, 1) := by decide +kernel
theorem dX10_remembers_24 : decode cX10_remembers 24 = .ok (.iastore, 1) := by decide +kernel
theorem dX10_remembers_25 : decode cX10_remembers 25 = .ok (.iinc 1 1, 3) := by decide +kernel
theorem dX10_remembers_28 : decode cX10_remembers 28 = .ok (.goto (-21), 3) := by decide +kernel
theorem dX10_remembers_31 : decode cX10_remembers 31 = .ok (.return_, 1) := by decide +kernel
theorem dX10_changed_0 : decode cX10_changed 0 = .ok (.aload_n 0, 1) := by decide +kernel
theorem dX10_changed_1 : decode cX10_changed 1 = .ok (.getfield 38, 3) := by decide +kernel
theorem dX10_changed_4 : decode cX10_changed 4 = .ok (.bipush 8, 2) := by decide +kernel
theorem dX10_changed_6 : decode cX10_changed 6 = .ok (.if_icmp .ne 36, 3) := by decide +kernel
theorem dX10_changed_9 : decode cX10_changed 9 = .ok (.iconst 0, 1) := by decide +kernel
theorem dX10_changed_10 : decode cX10_changed 10 = .ok (.istore_n 2, 1) := by decide +kernel
theorem dX10_changed_11 : decode cX10_changed 11 = .ok (.iload_n 2, 1) := by decide +kernel
theorem dX10_changed_12 : decode cX10_changed 12 = .ok (.sipush 371, 3) := by decide +kernel
theorem dX10_changed_15 : decode cX10_changed 15 = .ok (.if_icmp .ge 24, 3) := by decide +kernel
theorem dX10_changed_18 : decode cX10_changed 18 = .ok (.aload_n 0, 1) := by decide +kernel
theorem dX10_changed_19 : decode cX10_changed 19 = .ok (.getfield 19, 3) := by decide +kernel
theorem dX10_changed_22 : decode cX10_changed 22 = .ok (.iload_n 2, 1) := by decide +kernel
theorem dX10_changed_23 : decode cX10_changed 23 = .ok (.aload_n 0, 1) := by decide +kernel
theorem dX10_changed_24 : decode cX10_changed 24 = .ok (.getfield 19, 3) := by decide +kernel
theorem dX10_changed_27 : decode cX10_changed 27 = .ok (.iload_n 2, 1) := by decide +kernel
theorem dX10_changed_28 : decode cX10_changed 28 = .ok (.bipush 53, 2) := by decide +kernel
theorem dX10_changed_30 : decode cX10_changed 30 = .ok (.iadd, 1) := by decide +kernel
theorem dX10_changed_31 : decode cX10_changed 31 = .ok (.iaload, 1) := by decide +kernel
theorem dX10_changed_32 : decode cX10_changed 32 = .ok (.iastore, 1) := by decide +kernel
theorem dX10_changed_33 : decode cX10_changed 33 = .ok (.iinc 2 1, 3) := by decide +kernel
theorem dX10_changed_36 : decode cX10_changed 36 = .ok (.goto (-25), 3) := by decide +kernel
theorem dX10_changed_39 : decode cX10_changed 39 = .ok (.goto 13, 3) := by decide +kernel
theorem dX10_changed_42 : decode cX10_changed 42 = .ok (.aload_n 0, 1) := by decide +kernel
theorem dX10_changed_43 : decode cX10_changed 43 = .ok (.dup, 1) := by decide +kernel
theorem dX10_changed_44 : decode cX10_changed 44 = .ok (.getfield 38, 3) := by decide +kernel
theorem dX10_changed_47 : decode cX10_changed 47 = .ok (.iconst 1, 1) := by decide +kernel
theorem dX10_changed_48 : decode cX10_changed 48 = .ok (.iadd, 1) := by decide +kernel
theorem dX10_changed_49 : decode cX10_changed 49 = .ok (.putfield 38, 3) := by decide +kernel
theorem dX10_changed_52 : decode cX10_changed 52 = .ok (.iconst 0, 1) := by decide +kernel
theorem dX10_changed_53 : decode cX10_changed 53 = .ok (.istore_n 2, 1) := by decide +kernel
theorem dX10_changed_54 : decode cX10_changed 54 = .ok (.iload_n 2, 1) := by decide +kernel
theorem dX10_changed_55 : decode cX10_changed 55 = .ok (.bipush 53, 2) := by decide +kernel
theorem dX10_changed_57 : decode cX10_changed 57 = .ok (.if_icmp .ge 31, 3) := by decide +kernel
theorem dX10_changed_60 : decode cX10_changed 60 = .ok (.aload_n 0, 1) := by decide +kernel
theorem dX10_changed_61 : decode cX10_changed 61 = .ok (.getfield 19, 3) := by decide +kernel
theorem dX10_changed_64 : decode cX10_changed 64 = .ok (.bipush 53, 2) := by decide +kernel
theorem dX10_changed_66 : decode cX10_changed 66 = .ok (.aload_n 0, 1) := by decide +kernel
theorem dX10_changed_67 : decode cX10_changed 67 = .ok (.getfield 38, 3) := by decide +kernel
theorem dX10_changed_70 : decode cX10_changed 70 = .ok (.iconst 1, 1) := by decide +kernel
theorem dX10_changed_71 : decode cX10_changed 71 = .ok (.isub, 1) := by decide +kernel
theorem dX10_changed_72 : decode cX10_changed 72 = .ok (.imul, 1) := by decide +kernel
theorem dX10_changed_73 : decode cX10_changed 73 = .ok (.iload_n 2, 1) := by decide +kernel
theorem dX10_changed_74 : decode cX10_changed 74 = .ok (.iadd, 1) := by decide +kernel
theorem dX10_changed_75 : decode cX10_changed 75 = .ok (.aload_n 0, 1) := by decide +kernel
theorem dX10_changed_76 : decode cX10_changed 76 = .ok (.getfield 13, 3) := by decide +kernel
theorem dX10_changed_79 : decode cX10_changed 79 = .ok (.iload_n 2, 1) := by decide +kernel
theorem dX10_changed_80 : decode cX10_changed 80 = .ok (.iaload, 1) := by decide +kernel
theorem dX10_changed_81 : decode cX10_changed 81 = .ok (.iastore, 1) := by decide +kernel
theorem dX10_changed_82 : decode cX10_changed 82 = .ok (.iinc 2 1, 3) := by decide +kernel
theorem dX10_changed_85 : decode cX10_changed 85 = .ok (.goto (-31), 3) := by decide +kernel
theorem dX10_changed_88 : decode cX10_changed 88 = .ok (.iload_n 1, 1) := by decide +kernel
theorem dX10_changed_89 : decode cX10_changed 89 = .ok (.ireturn, 1) := by decide +kernel
theorem dX10_refused_0 : decode cX10_refused 0 = .ok (.aload_n 0, 1) := by decide +kernel
theorem dX10_refused_1 : decode cX10_refused 1 = .ok (.iload_n 2, 1) := by decide +kernel
theorem dX10_refused_2 : decode cX10_refused 2 = .ok (.putfield 41, 3) := by decide +kernel
theorem dX10_refused_5 : decode cX10_refused 5 = .ok (.iload_n 1, 1) := by decide +kernel
theorem dX10_refused_6 : decode cX10_refused 6 = .ok (.ireturn, 1) := by decide +kernel
theorem dX10_done_0 : decode cX10_done 0 = .ok (.aload_n 0, 1) := by decide +kernel
theorem dX10_done_1 : decode cX10_done 1 = .ok (.iload_n 1, 1) := by decide +kernel
theorem dX10_done_2 : decode cX10_done 2 = .ok (.putfield 44, 3) := by decide +kernel
theorem dX10_done_5 : decode cX10_done 5 = .ok (.iconst 0, 1) := by decide +kernel
theorem dX10_done_6 : decode cX10_done 6 = .ok (.ireturn, 1) := by decide +kernel
theorem dX10_ends_0 : decode cX10_ends 0 = .ok (.iload_n 1, 1) := by decide +kernel
theorem dX10_ends_1 : decode cX10_ends 1 = .ok (.ifCond .ne 12, 3) := by decide +kernel
theorem dX10_ends_4 : decode cX10_ends 4 = .ok (.aload_n 0, 1) := by decide +kernel
theorem dX10_ends_5 : decode cX10_ends 5 = .ok (.aload_n 0, 1) := by decide +kernel
theorem dX10_ends_6 : decode cX10_ends 6 = .ok (.getfield 44, 3) := by decide +kernel
theorem dX10_ends_9 : decode cX10_ends 9 = .ok (.invokevirtual 47, 3) := by decide +kernel
theorem dX10_ends_12 : decode cX10_ends 12 = .ok (.ireturn, 1) := by decide +kernel
theorem dX10_ends_13 : decode cX10_ends 13 = .ok (.aload_n 0, 1) := by decide +kernel
theorem dX10_ends_14 : decode cX10_ends 14 = .ok (.iload_n 1, 1) := by decide +kernel
theorem dX10_ends_15 : decode cX10_ends 15 = .ok (.putfield 51, 3) := by decide +kernel
theorem dX10_ends_18 : decode cX10_ends 18 = .ok (.aload_n 0, 1) := by decide +kernel
theorem dX10_ends_19 : decode cX10_ends 19 = .ok (.aload_n 0, 1) := by decide +kernel
theorem dX10_ends_20 : decode cX10_ends 20 = .ok (.getfield 41, 3) := by decide +kernel
theorem dX10_ends_23 : decode cX10_ends 23 = .ok (.putfield 54, 3) := by decide +kernel
theorem dX10_ends_26 : decode cX10_ends 26 = .ok (.aload_n 0, 1) := by decide +kernel
theorem dX10_ends_27 : decode cX10_ends 27 = .ok (.iconst 0, 1) := by decide +kernel
theorem dX10_ends_28 : decode cX10_ends 28 = .ok (.putfield 57, 3) := by decide +kernel
theorem dX10_ends_31 : decode cX10_ends 31 = .ok (.aload_n 0, 1) := by decide +kernel
theorem dX10_ends_32 : decode cX10_ends 32 = .ok (.iconst 1, 1) := by decide +kernel
theorem dX10_ends_33 : decode cX10_ends 33 = .ok (.invokevirtual 60, 3) := by decide +kernel
theorem dX10_ends_36 : decode cX10_ends 36 = .ok (.ireturn, 1) := by decide +kernel
theorem dX10_isNet_0 : decode cX10_isNet 0 = .ok (.iload_n 0, 1) := by decide +kernel
theorem dX10_isNet_1 : decode cX10_isNet 1 = .ok (.iconst 0, 1) := by decide +kernel
theorem dX10_isNet_2 : decode cX10_isNet 2 = .ok (.iconst 2, 1) := by decide +kernel
theorem dX10_isNet_3 : decode cX10_isNet 3 = .ok (.invokestatic 63, 3) := by decide +kernel
theorem dX10_isNet_6 : decode cX10_isNet 6 = .ok (.ireturn, 1) := by decide +kernel
theorem dX10_isPlace_0 : decode cX10_isPlace 0 = .ok (.iload_n 0, 1) := by decide +kernel
theorem dX10_isPlace_1 : decode cX10_isPlace 1 = .ok (.iconst 0, 1) := by decide +kernel
theorem dX10_isPlace_2 : decode cX10_isPlace 2 = .ok (.bipush 23, 2) := by decide +kernel
theorem dX10_isPlace_4 : decode cX10_isPlace 4 = .ok (.invokestatic 63, 3) := by decide +kernel
theorem dX10_isPlace_7 : decode cX10_isPlace 7 = .ok (.ireturn, 1) := by decide +kernel
theorem dX10_of_0 : decode cX10_of 0 = .ok (.aload_n 0, 1) := by decide +kernel
theorem dX10_of_1 : decode cX10_of 1 = .ok (.getfield 7, 3) := by decide +kernel
theorem dX10_of_4 : decode cX10_of 4 = .ok (.bipush 6, 2) := by decide +kernel
theorem dX10_of_6 : decode cX10_of 6 = .ok (.iconst 5, 1) := by decide +kernel
theorem dX10_of_7 : decode cX10_of 7 = .ok (.iload_n 1, 1) := by decide +kernel
theorem dX10_of_8 : decode cX10_of 8 = .ok (.imul, 1) := by decide +kernel
theorem dX10_of_9 : decode cX10_of 9 = .ok (.iadd, 1) := by decide +kernel
theorem dX10_of_10 : decode cX10_of 10 = .ok (.iload_n 2, 1) := by decide +kernel
theorem dX10_of_11 : decode cX10_of 11 = .ok (.iadd, 1) := by decide +kernel
theorem dX10_of_12 : decode cX10_of 12 = .ok (.iaload, 1) := by decide +kernel
theorem dX10_of_13 : decode cX10_of 13 = .ok (.ireturn, 1) := by decide +kernel
theorem dX10_sets_0 : decode cX10_sets 0 = .ok (.bipush 6, 2) := by decide +kernel
theorem dX10_sets_2 : decode cX10_sets 2 = .ok (.iconst 5, 1) := by decide +kernel
theorem dX10_sets_3 : decode cX10_sets 3 = .ok (.iload_n 1, 1) := by decide +kernel
theorem dX10_sets_4 : decode cX10_sets 4 = .ok (.imul, 1) := by decide +kernel
theorem dX10_sets_5 : decode cX10_sets 5 = .ok (.iadd, 1) := by decide +kernel
theorem dX10_sets_6 : decode cX10_sets 6 = .ok (.iload_n 2, 1) := by decide +kernel
theorem dX10_sets_7 : decode cX10_sets 7 = .ok (.iadd, 1) := by decide +kernel
theorem dX10_sets_8 : decode cX10_sets 8 = .ok (.istore 5, 2) := by decide +kernel
theorem dX10_sets_10 : decode cX10_sets 10 = .ok (.aload_n 0, 1) := by decide +kernel
theorem dX10_sets_11 : decode cX10_sets 11 = .ok (.getfield 7, 3) := by decide +kernel
theorem dX10_sets_14 : decode cX10_sets 14 = .ok (.iload 5, 2) := by decide +kernel
theorem dX10_sets_16 : decode cX10_sets 16 = .ok (.iload 4, 2) := by decide +kernel
theorem dX10_sets_18 : decode cX10_sets 18 = .ok (.ifCond .eq 17, 3) := by decide +kernel
theorem dX10_sets_21 : decode cX10_sets 21 = .ok (.aload_n 0, 1) := by decide +kernel
theorem dX10_sets_22 : decode cX10_sets 22 = .ok (.getfield 7, 3) := by decide +kernel
theorem dX10_sets_25 : decode cX10_sets 25 = .ok (.iload 5, 2) := by decide +kernel
theorem dX10_sets_27 : decode cX10_sets 27 = .ok (.iaload, 1) := by decide +kernel
theorem dX10_sets_28 : decode cX10_sets 28 = .ok (.iconst 1, 1) := by decide +kernel
theorem dX10_sets_29 : decode cX10_sets 29 = .ok (.iload_n 3, 1) := by decide +kernel
theorem dX10_sets_30 : decode cX10_sets 30 = .ok (.ishl, 1) := by decide +kernel
theorem dX10_sets_31 : decode cX10_sets 31 = .ok (.ior, 1) := by decide +kernel
theorem dX10_sets_32 : decode cX10_sets 32 = .ok (.goto 16, 3) := by decide +kernel
theorem dX10_sets_35 : decode cX10_sets 35 = .ok (.aload_n 0, 1) := by decide +kernel
theorem dX10_sets_36 : decode cX10_sets 36 = .ok (.getfield 7, 3) := by decide +kernel
theorem dX10_sets_39 : decode cX10_sets 39 = .ok (.iload 5, 2) := by decide +kernel
theorem dX10_sets_41 : decode cX10_sets 41 = .ok (.iaload, 1) := by decide +kernel
theorem dX10_sets_42 : decode cX10_sets 42 = .ok (.iconst 1, 1) := by decide +kernel
theorem dX10_sets_43 : decode cX10_sets 43 = .ok (.iload_n 3, 1) := by decide +kernel
theorem dX10_sets_44 : decode cX10_sets 44 = .ok (.ishl, 1) := by decide +kernel
theorem dX10_sets_45 : decode cX10_sets 45 = .ok (.iconst (-1), 1) := by decide +kernel
theorem dX10_sets_46 : decode cX10_sets 46 = .ok (.ixor, 1) := by decide +kernel
theorem dX10_sets_47 : decode cX10_sets 47 = .ok (.iand, 1) := by decide +kernel
theorem dX10_sets_48 : decode cX10_sets 48 = .ok (.iastore, 1) := by decide +kernel
theorem dX10_sets_49 : decode cX10_sets 49 = .ok (.return_, 1) := by decide +kernel
theorem dX10_kind_0 : decode cX10_kind 0 = .ok (.aload_n 0, 1) := by decide +kernel
theorem dX10_kind_1 : decode cX10_kind 1 = .ok (.iload_n 1, 1) := by decide +kernel
theorem dX10_kind_2 : decode cX10_kind 2 = .ok (.iconst 0, 1) := by decide +kernel
theorem dX10_kind_3 : decode cX10_kind 3 = .ok (.invokevirtual 67, 3) := by decide +kernel
theorem dX10_kind_6 : decode cX10_kind 6 = .ok (.iload_n 2, 1) := by decide +kernel
theorem dX10_kind_7 : decode cX10_kind 7 = .ok (.ishr, 1) := by decide +kernel
theorem dX10_kind_8 : decode cX10_kind 8 = .ok (.iconst 1, 1) := by decide +kernel
theorem dX10_kind_9 : decode cX10_kind 9 = .ok (.iand, 1) := by decide +kernel
theorem dX10_kind_10 : decode cX10_kind 10 = .ok (.iconst 2, 1) := by decide +kernel
theorem dX10_kind_11 : decode cX10_kind 11 = .ok (.aload_n 0, 1) := by decide +kernel
theorem dX10_kind_12 : decode cX10_kind 12 = .ok (.iload_n 1, 1) := by decide +kernel
theorem dX10_kind_13 : decode cX10_kind 13 = .ok (.iconst 1, 1) := by decide +kernel
theorem dX10_kind_14 : decode cX10_kind 14 = .ok (.invokevirtual 67, 3) := by decide +kernel
theorem dX10_kind_17 : decode cX10_kind 17 = .ok (.iload_n 2, 1) := by decide +kernel
theorem dX10_kind_18 : decode cX10_kind 18 = .ok (.ishr, 1) := by decide +kernel
theorem dX10_kind_19 : decode cX10_kind 19 = .ok (.iconst 1, 1) := by decide +kernel
theorem dX10_kind_20 : decode cX10_kind 20 = .ok (.iand, 1) := by decide +kernel
theorem dX10_kind_21 : decode cX10_kind 21 = .ok (.imul, 1) := by decide +kernel
theorem dX10_kind_22 : decode cX10_kind 22 = .ok (.iadd, 1) := by decide +kernel
theorem dX10_kind_23 : decode cX10_kind 23 = .ok (.ireturn, 1) := by decide +kernel
theorem dX10_bits_0 : decode cX10_bits 0 = .ok (.iconst 0, 1) := by decide +kernel
theorem dX10_bits_1 : decode cX10_bits 1 = .ok (.istore_n 1, 1) := by decide +kernel
theorem dX10_bits_2 : decode cX10_bits 2 = .ok (.iconst 0, 1) := by decide +kernel
theorem dX10_bits_3 : decode cX10_bits 3 = .ok (.istore_n 2, 1) := by decide +kernel
theorem dX10_bits_4 : decode cX10_bits 4 = .ok (.iload_n 2, 1) := by decide +kernel
theorem dX10_bits_5 : decode cX10_bits 5 = .ok (.bipush 24, 2) := by decide +kernel
theorem dX10_bits_7 : decode cX10_bits 7 = .ok (.if_icmp .ge 17, 3) := by decide +kernel
theorem dX10_bits_10 : decode cX10_bits 10 = .ok (.iload_n 1, 1) := by decide +kernel
theorem dX10_bits_11 : decode cX10_bits 11 = .ok (.iload_n 0, 1) := by decide +kernel
theorem dX10_bits_12 : decode cX10_bits 12 = .ok (.iload_n 2, 1) := by decide +kernel
theorem dX10_bits_13 : decode cX10_bits 13 = .ok (.ishr, 1) := by decide +kernel
theorem dX10_bits_14 : decode cX10_bits 14 = .ok (.iconst 1, 1) := by decide +kernel
theorem dX10_bits_15 : decode cX10_bits 15 = .ok (.iand, 1) := by decide +kernel
theorem dX10_bits_16 : decode cX10_bits 16 = .ok (.iadd, 1) := by decide +kernel
theorem dX10_bits_17 : decode cX10_bits 17 = .ok (.istore_n 1, 1) := by decide +kernel
theorem dX10_bits_18 : decode cX10_bits 18 = .ok (.iinc 2 1, 3) := by decide +kernel
theorem dX10_bits_21 : decode cX10_bits 21 = .ok (.goto (-17), 3) := by decide +kernel
theorem dX10_bits_24 : decode cX10_bits 24 = .ok (.iload_n 1, 1) := by decide +kernel
theorem dX10_bits_25 : decode cX10_bits 25 = .ok (.ireturn, 1) := by decide +kernel
theorem dX10_lowest_0 : decode cX10_lowest 0 = .ok (.iconst 0, 1) := by decide +kernel
theorem dX10_lowest_1 : decode cX10_lowest 1 = .ok (.istore_n 1, 1) := by decide +kernel
theorem dX10_lowest_2 : decode cX10_lowest 2 = .ok (.iload_n 1, 1) := by decide +kernel
theorem dX10_lowest_3 : decode cX10_lowest 3 = .ok (.bipush 24, 2) := by decide +kernel
theorem dX10_lowest_5 : decode cX10_lowest 5 = .ok (.if_icmp .ge 20, 3) := by decide +kernel
theorem dX10_lowest_8 : decode cX10_lowest 8 = .ok (.iload_n 0, 1) := by decide +kernel
theorem dX10_lowest_9 : decode cX10_lowest 9 = .ok (.iload_n 1, 1) := by decide +kernel
theorem dX10_lowest_10 : decode cX10_lowest 10 = .ok (.ishr, 1) := by decide +kernel
theorem dX10_lowest_11 : decode cX10_lowest 11 = .ok (.iconst 1, 1) := by decide +kernel
theorem dX10_lowest_12 : decode cX10_lowest 12 = .ok (.iand, 1) := by decide +kernel
theorem dX10_lowest_13 : decode cX10_lowest 13 = .ok (.iconst 1, 1) := by decide +kernel
theorem dX10_lowest_14 : decode cX10_lowest 14 = .ok (.if_icmp .ne 5, 3) := by decide +kernel
theorem dX10_lowest_17 : decode cX10_lowest 17 = .ok (.iload_n 1, 1) := by decide +kernel
theorem dX10_lowest_18 : decode cX10_lowest 18 = .ok (.ireturn, 1) := by decide +kernel
theorem dX10_lowest_19 : decode cX10_lowest 19 = .ok (.iinc 1 1, 3) := by decide +kernel
theorem dX10_lowest_22 : decode cX10_lowest 22 = .ok (.goto (-20), 3) := by decide +kernel
theorem dX10_lowest_25 : decode cX10_lowest 25 = .ok (.iconst (-1), 1) := by decide +kernel
theorem dX10_lowest_26 : decode cX10_lowest 26 = .ok (.ireturn, 1) := by decide +kernel
theorem dX10_looksAt_0 : decode cX10_looksAt 0 = .ok (.aload_n 0, 1) := by decide +kernel
theorem dX10_looksAt_1 : decode cX10_looksAt 1 = .ok (.aload_n 0, 1) := by decide +kernel
theorem dX10_looksAt_2 : decode cX10_looksAt 2 = .ok (.iload_n 1, 1) := by decide +kernel
theorem dX10_looksAt_3 : decode cX10_looksAt 3 = .ok (.iconst 0, 1) := by decide +kernel
theorem dX10_looksAt_4 : decode cX10_looksAt 4 = .ok (.invokevirtual 67, 3) := by decide +kernel
theorem dX10_looksAt_7 : decode cX10_looksAt 7 = .ok (.aload_n 0, 1) := by decide +kernel
theorem dX10_looksAt_8 : decode cX10_looksAt 8 = .ok (.iload_n 1, 1) := by decide +kernel
theorem dX10_looksAt_9 : decode cX10_looksAt 9 = .ok (.iconst 1, 1) := by decide +kernel
theorem dX10_looksAt_10 : decode cX10_looksAt 10 = .ok (.invokevirtual 67, 3) := by decide +kernel
theorem dX10_looksAt_13 : decode cX10_looksAt 13 = .ok (.ior, 1) := by decide +kernel
theorem dX10_looksAt_14 : decode cX10_looksAt 14 = .ok (.putfield 71, 3) := by decide +kernel
theorem dX10_looksAt_17 : decode cX10_looksAt 17 = .ok (.aload_n 0, 1) := by decide +kernel
theorem dX10_looksAt_18 : decode cX10_looksAt 18 = .ok (.ldc 74, 2) := by decide +kernel
theorem dX10_looksAt_20 : decode cX10_looksAt 20 = .ok (.aload_n 0, 1) := by decide +kernel
theorem dX10_looksAt_21 : decode cX10_looksAt 21 = .ok (.iload_n 1, 1) := by decide +kernel
theorem dX10_looksAt_22 : decode cX10_looksAt 22 = .ok (.iconst 2, 1) := by decide +kernel
theorem dX10_looksAt_23 : decode cX10_looksAt 23 = .ok (.invokevirtual 67, 3) := by decide +kernel
theorem dX10_looksAt_26 : decode cX10_looksAt 26 = .ok (.iconst (-1), 1) := by decide +kernel
theorem dX10_looksAt_27 : decode cX10_looksAt 27 = .ok (.ixor, 1) := by decide +kernel
theorem dX10_looksAt_28 : decode cX10_looksAt 28 = .ok (.iand, 1) := by decide +kernel
theorem dX10_looksAt_29 : decode cX10_looksAt 29 = .ok (.putfield 75, 3) := by decide +kernel
theorem dX10_looksAt_32 : decode cX10_looksAt 32 = .ok (.aload_n 0, 1) := by decide +kernel
theorem dX10_looksAt_33 : decode cX10_looksAt 33 = .ok (.ldc 78, 2) := by decide +kernel
theorem dX10_looksAt_35 : decode cX10_looksAt 35 = .ok (.aload_n 0, 1) := by decide +kernel
theorem dX10_looksAt_36 : decode cX10_looksAt 36 = .ok (.iload_n 1, 1) := by decide +kernel
theorem dX10_looksAt_37 : decode cX10_looksAt 37 = .ok (.iconst 3, 1) := by decide +kernel
theorem dX10_looksAt_38 : decode cX10_looksAt 38 = .ok (.invokevirtual 67, 3) := by decide +kernel
theorem dX10_looksAt_41 : decode cX10_looksAt 41 = .ok (.iconst (-1), 1) := by decide +kernel
theorem dX10_looksAt_42 : decode cX10_looksAt 42 = .ok (.ixor, 1) := by decide +kernel
theorem dX10_looksAt_43 : decode cX10_looksAt 43 = .ok (.iand, 1) := by decide +kernel
theorem dX10_looksAt_44 : decode cX10_looksAt 44 = .ok (.putfield 79, 3) := by decide +kernel
theorem dX10_looksAt_47 : decode cX10_looksAt 47 = .ok (.return_, 1) := by decide +kernel
theorem dX10_spread_0 : decode cX10_spread 0 = .ok (.iload_n 1, 1) := by decide +kernel
theorem dX10_spread_1 : decode cX10_spread 1 = .ok (.iload_n 1, 1) := by decide +kernel
theorem dX10_spread_2 : decode cX10_spread 2 = .ok (.aload_n 0, 1) := by decide +kernel
theorem dX10_spread_3 : decode cX10_spread 3 = .ok (.getfield 75, 3) := by decide +kernel
theorem dX10_spread_6 : decode cX10_spread 6 = .ok (.iand, 1) := by decide +kernel
theorem dX10_spread_7 : decode cX10_spread 7 = .ok (.iconst 1, 1) := by decide +kernel
theorem dX10_spread_8 : decode cX10_spread 8 = .ok (.ishl, 1) := by decide +kernel
theorem dX10_spread_9 : decode cX10_spread 9 = .ok (.ior, 1) := by decide +kernel
theorem dX10_spread_10 : decode cX10_spread 10 = .ok (.iload_n 1, 1) := by decide +kernel
theorem dX10_spread_11 : decode cX10_spread 11 = .ok (.iconst 1, 1) := by decide +kernel
theorem dX10_spread_12 : decode cX10_spread 12 = .ok (.ishr, 1) := by decide +kernel
theorem dX10_spread_13 : decode cX10_spread 13 = .ok (.aload_n 0, 1) := by decide +kernel
theorem dX10_spread_14 : decode cX10_spread 14 = .ok (.getfield 75, 3) := by decide +kernel
theorem dX10_spread_17 : decode cX10_spread 17 = .ok (.iand, 1) := by decide +kernel
theorem dX10_spread_18 : decode cX10_spread 18 = .ok (.ior, 1) := by decide +kernel
theorem dX10_spread_19 : decode cX10_spread 19 = .ok (.iload_n 1, 1) := by decide +kernel
theorem dX10_spread_20 : decode cX10_spread 20 = .ok (.aload_n 0, 1) := by decide +kernel
theorem dX10_spread_21 : decode cX10_spread 21 = .ok (.getfield 79, 3) := by decide +kernel
theorem dX10_spread_24 : decode cX10_spread 24 = .ok (.iand, 1) := by decide +kernel
theorem dX10_spread_25 : decode cX10_spread 25 = .ok (.bipush 6, 2) := by decide +kernel
theorem dX10_spread_27 : decode cX10_spread 27 = .ok (.ishl, 1) := by decide +kernel
theorem dX10_spread_28 : decode cX10_spread 28 = .ok (.ior, 1) := by decide +kernel
theorem dX10_spread_29 : decode cX10_spread 29 = .ok (.iload_n 1, 1) := by decide +kernel
theorem dX10_spread_30 : decode cX10_spread 30 = .ok (.bipush 6, 2) := by decide +kernel
theorem dX10_spread_32 : decode cX10_spread 32 = .ok (.ishr, 1) := by decide +kernel
theorem dX10_spread_33 : decode cX10_spread 33 = .ok (.aload_n 0, 1) := by decide +kernel
theorem dX10_spread_34 : decode cX10_spread 34 = .ok (.getfield 79, 3) := by decide +kernel
theorem dX10_spread_37 : decode cX10_spread 37 = .ok (.iand, 1) := by decide +kernel
theorem dX10_spread_38 : decode cX10_spread 38 = .ok (.ior, 1) := by decide +kernel
theorem dX10_spread_39 : decode cX10_spread 39 = .ok (.ireturn, 1) := by decide +kernel
theorem dX10_together_0 : decode cX10_together 0 = .ok (.iconst 1, 1) := by decide +kernel
theorem dX10_together_1 : decode cX10_together 1 = .ok (.iload_n 1, 1) := by decide +kernel
theorem dX10_together_2 : decode cX10_together 2 = .ok (.ishl, 1) := by decide +kernel
theorem dX10_together_3 : decode cX10_together 3 = .ok (.istore_n 3, 1) := by decide +kernel
theorem dX10_together_4 : decode cX10_together 4 = .ok (.aload_n 0, 1) := by decide +kernel
theorem dX10_together_5 : decode cX10_together 5 = .ok (.iload_n 3, 1) := by decide +kernel
theorem dX10_together_6 : decode cX10_together 6 = .ok (.invokevirtual 82, 3) := by decide +kernel
theorem dX10_together_9 : decode cX10_together 9 = .ok (.iload_n 2, 1) := by decide +kernel
theorem dX10_together_10 : decode cX10_together 10 = .ok (.iand, 1) := by decide +kernel
theorem dX10_together_11 : decode cX10_together 11 = .ok (.istore 4, 2) := by decide +kernel
theorem dX10_together_13 : decode cX10_together 13 = .ok (.iload 4, 2) := by decide +kernel
theorem dX10_together_15 : decode cX10_together 15 = .ok (.iload_n 3, 1) := by decide +kernel
theorem dX10_together_16 : decode cX10_together 16 = .ok (.if_icmp .eq 18, 3) := by decide +kernel
theorem dX10_together_19 : decode cX10_together 19 = .ok (.iload 4, 2) := by decide +kernel
theorem dX10_together_21 : decode cX10_together 21 = .ok (.istore_n 3, 1) := by decide +kernel
theorem dX10_together_22 : decode cX10_together 22 = .ok (.aload_n 0, 1) := by decide +kernel
theorem dX10_together_23 : decode cX10_together 23 = .ok (.iload_n 3, 1) := by decide +kernel
theorem dX10_together_24 : decode cX10_together 24 = .ok (.invokevirtual 82, 3) := by decide +kernel
theorem dX10_together_27 : decode cX10_together 27 = .ok (.iload_n 2, 1) := by decide +kernel
theorem dX10_together_28 : decode cX10_together 28 = .ok (.iand, 1) := by decide +kernel
theorem dX10_together_29 : decode cX10_together 29 = .ok (.istore 4, 2) := by decide +kernel
theorem dX10_together_31 : decode cX10_together 31 = .ok (.goto (-18), 3) := by decide +kernel
theorem dX10_together_34 : decode cX10_together 34 = .ok (.iload_n 3, 1) := by decide +kernel
theorem dX10_together_35 : decode cX10_together 35 = .ok (.ireturn, 1) := by decide +kernel
theorem dX10_partsOf_0 : decode cX10_partsOf 0 = .ok (.iload_n 1, 1) := by decide +kernel
theorem dX10_partsOf_1 : decode cX10_partsOf 1 = .ok (.istore_n 2, 1) := by decide +kernel
theorem dX10_partsOf_2 : decode cX10_partsOf 2 = .ok (.iconst 0, 1) := by decide +kernel
theorem dX10_partsOf_3 : decode cX10_partsOf 3 = .ok (.istore_n 3, 1) := by decide +kernel
theorem dX10_partsOf_4 : decode cX10_partsOf 4 = .ok (.iload_n 2, 1) := by decide +kernel
theorem dX10_partsOf_5 : decode cX10_partsOf 5 = .ok (.ifCond .eq 23, 3) := by decide +kernel
theorem dX10_partsOf_8 : decode cX10_partsOf 8 = .ok (.iload_n 2, 1) := by decide +kernel
theorem dX10_partsOf_9 : decode cX10_partsOf 9 = .ok (.aload_n 0, 1) := by decide +kernel
theorem dX10_partsOf_10 : decode cX10_partsOf 10 = .ok (.iload_n 2, 1) := by decide +kernel
theorem dX10_partsOf_11 : decode cX10_partsOf 11 = .ok (.invokestatic 85, 3) := by decide +kernel
theorem dX10_partsOf_14 : decode cX10_partsOf 14 = .ok (.iload_n 1, 1) := by decide +kernel
theorem dX10_partsOf_15 : decode cX10_partsOf 15 = .ok (.invokevirtual 88, 3) := by decide +kernel
theorem dX10_partsOf_18 : decode cX10_partsOf 18 = .ok (.iconst (-1), 1) := by decide +kernel
theorem dX10_partsOf_19 : decode cX10_partsOf 19 = .ok (.ixor, 1) := by decide +kernel
theorem dX10_partsOf_20 : decode cX10_partsOf 20 = .ok (.iand, 1) := by decide +kernel
theorem dX10_partsOf_21 : decode cX10_partsOf 21 = .ok (.istore_n 2, 1) := by decide +kernel
theorem dX10_partsOf_22 : decode cX10_partsOf 22 = .ok (.iinc 3 1, 3) := by decide +kernel
theorem dX10_partsOf_25 : decode cX10_partsOf 25 = .ok (.goto (-21), 3) := by decide +kernel
theorem dX10_partsOf_28 : decode cX10_partsOf 28 = .ok (.iload_n 3, 1) := by decide +kernel
theorem dX10_partsOf_29 : decode cX10_partsOf 29 = .ok (.ireturn, 1) := by decide +kernel
theorem dX10_underWater_0 : decode cX10_underWater 0 = .ok (.aload_n 0, 1) := by decide +kernel
theorem dX10_underWater_1 : decode cX10_underWater 1 = .ok (.getfield 7, 3) := by decide +kernel
theorem dX10_underWater_4 : decode cX10_underWater 4 = .ok (.iconst 0, 1) := by decide +kernel
theorem dX10_underWater_5 : decode cX10_underWater 5 = .ok (.iaload, 1) := by decide +kernel
theorem dX10_underWater_6 : decode cX10_underWater 6 = .ok (.aload_n 0, 1) := by decide +kernel
theorem dX10_underWater_7 : decode cX10_underWater 7 = .ok (.iload_n 1, 1) := by decide +kernel
theorem dX10_underWater_8 : decode cX10_underWater 8 = .ok (.iconst 4, 1) := by decide +kernel
theorem dX10_underWater_9 : decode cX10_underWater 9 = .ok (.invokevirtual 67, 3) := by decide +kernel
theorem dX10_underWater_12 : decode cX10_underWater 12 = .ok (.iadd, 1) := by decide +kernel
theorem dX10_underWater_13 : decode cX10_underWater 13 = .ok (.istore_n 2, 1) := by decide +kernel
theorem dX10_underWater_14 : decode cX10_underWater 14 = .ok (.iload_n 2, 1) := by decide +kernel
theorem dX10_underWater_15 : decode cX10_underWater 15 = .ok (.iconst 4, 1) := by decide +kernel
theorem dX10_underWater_16 : decode cX10_underWater 16 = .ok (.if_icmp .le 7, 3) := by decide +kernel
theorem dX10_underWater_19 : decode cX10_underWater 19 = .ok (.iconst 4, 1) := by decide +kernel
theorem dX10_underWater_20 : decode cX10_underWater 20 = .ok (.goto 4, 3) := by decide +kernel
theorem dX10_underWater_23 : decode cX10_underWater 23 = .ok (.iload_n 2, 1) := by decide +kernel
theorem dX10_underWater_24 : decode cX10_underWater 24 = .ok (.ireturn, 1) := by decide +kernel
theorem dX10_dry_0 : decode cX10_dry 0 = .ok (.iconst 1, 1) := by decide +kernel
theorem dX10_dry_1 : decode cX10_dry 1 = .ok (.bipush 24, 2) := by decide +kernel
theorem dX10_dry_3 : decode cX10_dry 3 = .ok (.bipush 6, 2) := by decide +kernel
theorem dX10_dry_5 : decode cX10_dry 5 = .ok (.aload_n 0, 1) := by decide +kernel
theorem dX10_dry_6 : decode cX10_dry 6 = .ok (.iload_n 1, 1) := by decide +kernel
theorem dX10_dry_7 : decode cX10_dry 7 = .ok (.invokevirtual 91, 3) := by decide +kernel
theorem dX10_dry_10 : decode cX10_dry 10 = .ok (.imul, 1) := by decide +kernel
theorem dX10_dry_11 : decode cX10_dry 11 = .ok (.isub, 1) := by decide +kernel
theorem dX10_dry_12 : decode cX10_dry 12 = .ok (.ishl, 1) := by decide +kernel
theorem dX10_dry_13 : decode cX10_dry 13 = .ok (.iconst 1, 1) := by decide +kernel
theorem dX10_dry_14 : decode cX10_dry 14 = .ok (.isub, 1) := by decide +kernel
theorem dX10_dry_15 : decode cX10_dry 15 = .ok (.ireturn, 1) := by decide +kernel
theorem dX10_ties_0 : decode cX10_ties 0 = .ok (.iload_n 1, 1) := by decide +kernel
theorem dX10_ties_1 : decode cX10_ties 1 = .ok (.invokestatic 94, 3) := by decide +kernel
theorem dX10_ties_4 : decode cX10_ties 4 = .ok (.ifCond .ne 10, 3) := by decide +kernel
theorem dX10_ties_7 : decode cX10_ties 7 = .ok (.aload_n 0, 1) := by decide +kernel
theorem dX10_ties_8 : decode cX10_ties 8 = .ok (.iconst 2, 1) := by decide +kernel
theorem dX10_ties_9 : decode cX10_ties 9 = .ok (.iload_n 1, 1) := by decide +kernel
theorem dX10_ties_10 : decode cX10_ties 10 = .ok (.invokevirtual 98, 3) := by decide +kernel
theorem dX10_ties_13 : decode cX10_ties 13 = .ok (.ireturn, 1) := by decide +kernel
theorem dX10_ties_14 : decode cX10_ties 14 = .ok (.iload_n 2, 1) := by decide +kernel
theorem dX10_ties_15 : decode cX10_ties 15 = .ok (.invokestatic 101, 3) := by decide +kernel
theorem dX10_ties_18 : decode cX10_ties 18 = .ok (.ifCond .ne 10, 3) := by decide +kernel
theorem dX10_ties_21 : decode cX10_ties 21 = .ok (.aload_n 0, 1) := by decide +kernel
theorem dX10_ties_22 : decode cX10_ties 22 = .ok (.iconst 2, 1) := by decide +kernel
theorem dX10_ties_23 : decode cX10_ties 23 = .ok (.iload_n 2, 1) := by decide +kernel
theorem dX10_ties_24 : decode cX10_ties 24 = .ok (.invokevirtual 98, 3) := by decide +kernel
theorem dX10_ties_27 : decode cX10_ties 27 = .ok (.ireturn, 1) := by decide +kernel
theorem dX10_ties_28 : decode cX10_ties 28 = .ok (.iload_n 3, 1) := by decide +kernel
theorem dX10_ties_29 : decode cX10_ties 29 = .ok (.iconst 0, 1) := by decide +kernel
theorem dX10_ties_30 : decode cX10_ties 30 = .ok (.iconst 3, 1) := by decide +kernel
theorem dX10_ties_31 : decode cX10_ties 31 = .ok (.invokestatic 63, 3) := by decide +kernel
theorem dX10_ties_34 : decode cX10_ties 34 = .ok (.ifCond .ne 10, 3) := by decide +kernel
theorem dX10_ties_37 : decode cX10_ties 37 = .ok (.aload_n 0, 1) := by decide +kernel
theorem dX10_ties_38 : decode cX10_ties 38 = .ok (.iconst 3, 1) := by decide +kernel
theorem dX10_ties_39 : decode cX10_ties 39 = .ok (.iload_n 3, 1) := by decide +kernel
theorem dX10_ties_40 : decode cX10_ties 40 = .ok (.invokevirtual 98, 3) := by decide +kernel
theorem dX10_ties_43 : decode cX10_ties 43 = .ok (.ireturn, 1) := by decide +kernel
theorem dX10_ties_44 : decode cX10_ties 44 = .ok (.aload_n 0, 1) := by decide +kernel
theorem dX10_ties_45 : decode cX10_ties 45 = .ok (.iload_n 1, 1) := by decide +kernel
theorem dX10_ties_46 : decode cX10_ties 46 = .ok (.iload_n 2, 1) := by decide +kernel
theorem dX10_ties_47 : decode cX10_ties 47 = .ok (.invokevirtual 104, 3) := by decide +kernel
theorem dX10_ties_50 : decode cX10_ties 50 = .ok (.istore 4, 2) := by decide +kernel
theorem dX10_ties_52 : decode cX10_ties 52 = .ok (.iload 4, 2) := by decide +kernel
theorem dX10_ties_54 : decode cX10_ties 54 = .ok (.iload_n 3, 1) := by decide +kernel
theorem dX10_ties_55 : decode cX10_ties 55 = .ok (.if_icmp .ne 10, 3) := by decide +kernel
theorem dX10_ties_58 : decode cX10_ties 58 = .ok (.aload_n 0, 1) := by decide +kernel
theorem dX10_ties_59 : decode cX10_ties 59 = .ok (.iconst 4, 1) := by decide +kernel
theorem dX10_ties_60 : decode cX10_ties 60 = .ok (.iload_n 3, 1) := by decide +kernel
theorem dX10_ties_61 : decode cX10_ties 61 = .ok (.invokevirtual 98, 3) := by decide +kernel
theorem dX10_ties_64 : decode cX10_ties 64 = .ok (.ireturn, 1) := by decide +kernel
theorem dX10_ties_65 : decode cX10_ties 65 = .ok (.aload_n 0, 1) := by decide +kernel
theorem dX10_ties_66 : decode cX10_ties 66 = .ok (.iload_n 1, 1) := by decide +kernel
theorem dX10_ties_67 : decode cX10_ties 67 = .ok (.iconst 0, 1) := by decide +kernel
theorem dX10_ties_68 : decode cX10_ties 68 = .ok (.iload_n 2, 1) := by decide +kernel
theorem dX10_ties_69 : decode cX10_ties 69 = .ok (.iload_n 3, 1) := by decide +kernel
theorem dX10_ties_70 : decode cX10_ties 70 = .ok (.iconst 1, 1) := by decide +kernel
theorem dX10_ties_71 : decode cX10_ties 71 = .ok (.iand, 1) := by decide +kernel
theorem dX10_ties_72 : decode cX10_ties 72 = .ok (.iconst 1, 1) := by decide +kernel
theorem dX10_ties_73 : decode cX10_ties 73 = .ok (.if_icmp .ne 7, 3) := by decide +kernel
theorem dX10_ties_76 : decode cX10_ties 76 = .ok (.iconst 1, 1) := by decide +kernel
theorem dX10_ties_77 : decode cX10_ties 77 = .ok (.goto 4, 3) := by decide +kernel
theorem dX10_ties_80 : decode cX10_ties 80 = .ok (.iconst 0, 1) := by decide +kernel
theorem dX10_ties_81 : decode cX10_ties 81 = .ok (.invokevirtual 107, 3) := by decide +kernel
theorem dX10_ties_84 : decode cX10_ties 84 = .ok (.aload_n 0, 1) := by decide +kernel
theorem dX10_ties_85 : decode cX10_ties 85 = .ok (.iload_n 1, 1) := by decide +kernel
theorem dX10_ties_86 : decode cX10_ties 86 = .ok (.iconst 1, 1) := by decide +kernel
theorem dX10_ties_87 : decode cX10_ties 87 = .ok (.iload_n 2, 1) := by decide +kernel
theorem dX10_ties_88 : decode cX10_ties 88 = .ok (.iload_n 3, 1) := by decide +kernel
theorem dX10_ties_89 : decode cX10_ties 89 = .ok (.iconst 1, 1) := by decide +kernel
theorem dX10_ties_90 : decode cX10_ties 90 = .ok (.if_icmp .le 7, 3) := by decide +kernel
theorem dX10_ties_93 : decode cX10_ties 93 = .ok (.iconst 1, 1) := by decide +kernel
theorem dX10_ties_94 : decode cX10_ties 94 = .ok (.goto 4, 3) := by decide +kernel
theorem dX10_ties_97 : decode cX10_ties 97 = .ok (.iconst 0, 1) := by decide +kernel
theorem dX10_ties_98 : decode cX10_ties 98 = .ok (.invokevirtual 107, 3) := by decide +kernel
theorem dX10_ties_101 : decode cX10_ties 101 = .ok (.aload_n 0, 1) := by decide +kernel
theorem dX10_ties_102 : decode cX10_ties 102 = .ok (.iload 4, 2) := by decide +kernel
theorem dX10_ties_104 : decode cX10_ties 104 = .ok (.invokevirtual 111, 3) := by decide +kernel
theorem dX10_ties_107 : decode cX10_ties 107 = .ok (.ireturn, 1) := by decide +kernel
theorem dX10_stringFor_0 : decode cX10_stringFor 0 = .ok (.iload_n 0, 1) := by decide +kernel
theorem dX10_stringFor_1 : decode cX10_stringFor 1 = .ok (.iload_n 1, 1) := by decide +kernel
theorem dX10_stringFor_2 : decode cX10_stringFor 2 = .ok (.if_icmp .ge 7, 3) := by decide +kernel
theorem dX10_stringFor_5 : decode cX10_stringFor 5 = .ok (.iload_n 0, 1) := by decide +kernel
theorem dX10_stringFor_6 : decode cX10_stringFor 6 = .ok (.goto 4, 3) := by decide +kernel
theorem dX10_stringFor_9 : decode cX10_stringFor 9 = .ok (.iload_n 1, 1) := by decide +kernel
theorem dX10_stringFor_10 : decode cX10_stringFor 10 = .ok (.istore_n 2, 1) := by decide +kernel
theorem dX10_stringFor_11 : decode cX10_stringFor 11 = .ok (.iload_n 0, 1) := by decide +kernel
theorem dX10_stringFor_12 : decode cX10_stringFor 12 = .ok (.iload_n 1, 1) := by decide +kernel
theorem dX10_stringFor_13 : decode cX10_stringFor 13 = .ok (.if_icmp .ge 7, 3) := by decide +kernel
theorem dX10_stringFor_16 : decode cX10_stringFor 16 = .ok (.iload_n 1, 1) := by decide +kernel
theorem dX10_stringFor_17 : decode cX10_stringFor 17 = .ok (.goto 4, 3) := by decide +kernel
theorem dX10_stringFor_20 : decode cX10_stringFor 20 = .ok (.iload_n 0, 1) := by decide +kernel
theorem dX10_stringFor_21 : decode cX10_stringFor 21 = .ok (.istore_n 3, 1) := by decide +kernel
theorem dX10_stringFor_22 : decode cX10_stringFor 22 = .ok (.iload_n 3, 1) := by decide +kernel
theorem dX10_stringFor_23 : decode cX10_stringFor 23 = .ok (.iload_n 2, 1) := by decide +kernel
theorem dX10_stringFor_24 : decode cX10_stringFor 24 = .ok (.isub, 1) := by decide +kernel
theorem dX10_stringFor_25 : decode cX10_stringFor 25 = .ok (.iconst 1, 1) := by decide +kernel
theorem dX10_stringFor_26 : decode cX10_stringFor 26 = .ok (.if_icmp .ne 14, 3) := by decide +kernel
theorem dX10_stringFor_29 : decode cX10_stringFor 29 = .ok (.iload_n 3, 1) := by decide +kernel
theorem dX10_stringFor_30 : decode cX10_stringFor 30 = .ok (.bipush 6, 2) := by decide +kernel
theorem dX10_stringFor_32 : decode cX10_stringFor 32 = .ok (.irem, 1) := by decide +kernel
theorem dX10_stringFor_33 : decode cX10_stringFor 33 = .ok (.ifCond .eq 7, 3) := by decide +kernel
theorem dX10_stringFor_36 : decode cX10_stringFor 36 = .ok (.iconst 2, 1) := by decide +kernel
theorem dX10_stringFor_37 : decode cX10_stringFor 37 = .ok (.goto 16, 3) := by decide +kernel
theorem dX10_stringFor_40 : decode cX10_stringFor 40 = .ok (.iload_n 3, 1) := by decide +kernel
theorem dX10_stringFor_41 : decode cX10_stringFor 41 = .ok (.iload_n 2, 1) := by decide +kernel
theorem dX10_stringFor_42 : decode cX10_stringFor 42 = .ok (.isub, 1) := by decide +kernel
theorem dX10_stringFor_43 : decode cX10_stringFor 43 = .ok (.bipush 6, 2) := by decide +kernel
theorem dX10_stringFor_45 : decode cX10_stringFor 45 = .ok (.if_icmp .ne 7, 3) := by decide +kernel
theorem dX10_stringFor_48 : decode cX10_stringFor 48 = .ok (.iconst 3, 1) := by decide +kernel
theorem dX10_stringFor_49 : decode cX10_stringFor 49 = .ok (.goto 4, 3) := by decide +kernel
theorem dX10_stringFor_52 : decode cX10_stringFor 52 = .ok (.iconst (-1), 1) := by decide +kernel
theorem dX10_stringFor_53 : decode cX10_stringFor 53 = .ok (.ireturn, 1) := by decide +kernel
theorem dX10_tears_0 : decode cX10_tears 0 = .ok (.iload_n 1, 1) := by decide +kernel
theorem dX10_tears_1 : decode cX10_tears 1 = .ok (.invokestatic 94, 3) := by decide +kernel
theorem dX10_tears_4 : decode cX10_tears 4 = .ok (.ifCond .ne 10, 3) := by decide +kernel
theorem dX10_tears_7 : decode cX10_tears 7 = .ok (.aload_n 0, 1) := by decide +kernel
theorem dX10_tears_8 : decode cX10_tears 8 = .ok (.iconst 2, 1) := by decide +kernel
theorem dX10_tears_9 : decode cX10_tears 9 = .ok (.iload_n 1, 1) := by decide +kernel
theorem dX10_tears_10 : decode cX10_tears 10 = .ok (.invokevirtual 98, 3) := by decide +kernel
theorem dX10_tears_13 : decode cX10_tears 13 = .ok (.ireturn, 1) := by decide +kernel
theorem dX10_tears_14 : decode cX10_tears 14 = .ok (.iload_n 2, 1) := by decide +kernel
theorem dX10_tears_15 : decode cX10_tears 15 = .ok (.invokestatic 101, 3) := by decide +kernel
theorem dX10_tears_18 : decode cX10_tears 18 = .ok (.ifCond .ne 10, 3) := by decide +kernel
theorem dX10_tears_21 : decode cX10_tears 21 = .ok (.aload_n 0, 1) := by decide +kernel
theorem dX10_tears_22 : decode cX10_tears 22 = .ok (.iconst 2, 1) := by decide +kernel
theorem dX10_tears_23 : decode cX10_tears 23 = .ok (.iload_n 2, 1) := by decide +kernel
theorem dX10_tears_24 : decode cX10_tears 24 = .ok (.invokevirtual 98, 3) := by decide +kernel
theorem dX10_tears_27 : decode cX10_tears 27 = .ok (.ireturn, 1) := by decide +kernel
theorem dX10_tears_28 : decode cX10_tears 28 = .ok (.iload_n 3, 1) := by decide +kernel
theorem dX10_tears_29 : decode cX10_tears 29 = .ok (.invokestatic 101, 3) := by decide +kernel
theorem dX10_tears_32 : decode cX10_tears 32 = .ok (.ifCond .ne 10, 3) := by decide +kernel
theorem dX10_tears_35 : decode cX10_tears 35 = .ok (.aload_n 0, 1) := by decide +kernel
theorem dX10_tears_36 : decode cX10_tears 36 = .ok (.iconst 2, 1) := by decide +kernel
theorem dX10_tears_37 : decode cX10_tears 37 = .ok (.iload_n 3, 1) := by decide +kernel
theorem dX10_tears_38 : decode cX10_tears 38 = .ok (.invokevirtual 98, 3) := by decide +kernel
theorem dX10_tears_41 : decode cX10_tears 41 = .ok (.ireturn, 1) := by decide +kernel
theorem dX10_tears_42 : decode cX10_tears 42 = .ok (.iload_n 2, 1) := by decide +kernel
theorem dX10_tears_43 : decode cX10_tears 43 = .ok (.iload_n 3, 1) := by decide +kernel
theorem dX10_tears_44 : decode cX10_tears 44 = .ok (.invokestatic 114, 3) := by decide +kernel
theorem dX10_tears_47 : decode cX10_tears 47 = .ok (.istore 4, 2) := by decide +kernel
theorem dX10_tears_49 : decode cX10_tears 49 = .ok (.iload 4, 2) := by decide +kernel
theorem dX10_tears_51 : decode cX10_tears 51 = .ok (.iconst (-1), 1) := by decide +kernel
theorem dX10_tears_52 : decode cX10_tears 52 = .ok (.if_icmp .ne 10, 3) := by decide +kernel
theorem dX10_tears_55 : decode cX10_tears 55 = .ok (.aload_n 0, 1) := by decide +kernel
theorem dX10_tears_56 : decode cX10_tears 56 = .ok (.iconst 5, 1) := by decide +kernel
theorem dX10_tears_57 : decode cX10_tears 57 = .ok (.iload_n 3, 1) := by decide +kernel
theorem dX10_tears_58 : decode cX10_tears 58 = .ok (.invokevirtual 98, 3) := by decide +kernel
theorem dX10_tears_61 : decode cX10_tears 61 = .ok (.ireturn, 1) := by decide +kernel
theorem dX10_tears_62 : decode cX10_tears 62 = .ok (.iload_n 2, 1) := by decide +kernel
theorem dX10_tears_63 : decode cX10_tears 63 = .ok (.iload_n 3, 1) := by decide +kernel
theorem dX10_tears_64 : decode cX10_tears 64 = .ok (.if_icmp .ge 7, 3) := by decide +kernel
theorem dX10_tears_67 : decode cX10_tears 67 = .ok (.iload_n 2, 1) := by decide +kernel
theorem dX10_tears_68 : decode cX10_tears 68 = .ok (.goto 4, 3) := by decide +kernel
theorem dX10_tears_71 : decode cX10_tears 71 = .ok (.iload_n 3, 1) := by decide +kernel
theorem dX10_tears_72 : decode cX10_tears 72 = .ok (.istore 5, 2) := by decide +kernel
theorem dX10_tears_74 : decode cX10_tears 74 = .ok (.aload_n 0, 1) := by decide +kernel
theorem dX10_tears_75 : decode cX10_tears 75 = .ok (.iload_n 1, 1) := by decide +kernel
theorem dX10_tears_76 : decode cX10_tears 76 = .ok (.iload 4, 2) := by decide +kernel
theorem dX10_tears_78 : decode cX10_tears 78 = .ok (.invokevirtual 67, 3) := by decide +kernel
theorem dX10_tears_81 : decode cX10_tears 81 = .ok (.iload 5, 2) := by decide +kernel
theorem dX10_tears_83 : decode cX10_tears 83 = .ok (.ishr, 1) := by decide +kernel
theorem dX10_tears_84 : decode cX10_tears 84 = .ok (.iconst 1, 1) := by decide +kernel
theorem dX10_tears_85 : decode cX10_tears 85 = .ok (.iand, 1) := by decide +kernel
theorem dX10_tears_86 : decode cX10_tears 86 = .ok (.iconst 1, 1) := by decide +kernel
theorem dX10_tears_87 : decode cX10_tears 87 = .ok (.if_icmp .ne 15, 3) := by decide +kernel
theorem dX10_tears_90 : decode cX10_tears 90 = .ok (.aload_n 0, 1) := by decide +kernel
theorem dX10_tears_91 : decode cX10_tears 91 = .ok (.iconst 4, 1) := by decide +kernel
theorem dX10_tears_92 : decode cX10_tears 92 = .ok (.iload_n 2, 1) := by decide +kernel
theorem dX10_tears_93 : decode cX10_tears 93 = .ok (.iload_n 3, 1) := by decide +kernel
theorem dX10_tears_94 : decode cX10_tears 94 = .ok (.iadd, 1) := by decide +kernel
theorem dX10_tears_95 : decode cX10_tears 95 = .ok (.iload 5, 2) := by decide +kernel
theorem dX10_tears_97 : decode cX10_tears 97 = .ok (.isub, 1) := by decide +kernel
theorem dX10_tears_98 : decode cX10_tears 98 = .ok (.invokevirtual 98, 3) := by decide +kernel
theorem dX10_tears_101 : decode cX10_tears 101 = .ok (.ireturn, 1) := by decide +kernel
theorem dX10_tears_102 : decode cX10_tears 102 = .ok (.aload_n 0, 1) := by decide +kernel
theorem dX10_tears_103 : decode cX10_tears 103 = .ok (.iload_n 1, 1) := by decide +kernel
theorem dX10_tears_104 : decode cX10_tears 104 = .ok (.iload 4, 2) := by decide +kernel
theorem dX10_tears_106 : decode cX10_tears 106 = .ok (.iload 5, 2) := by decide +kernel
theorem dX10_tears_108 : decode cX10_tears 108 = .ok (.iconst 1, 1) := by decide +kernel
theorem dX10_tears_109 : decode cX10_tears 109 = .ok (.invokevirtual 107, 3) := by decide +kernel
theorem dX10_tears_112 : decode cX10_tears 112 = .ok (.aload_n 0, 1) := by decide +kernel
theorem dX10_tears_113 : decode cX10_tears 113 = .ok (.getfield 7, 3) := by decide +kernel
theorem dX10_tears_116 : decode cX10_tears 116 = .ok (.iconst 3, 1) := by decide +kernel
theorem dX10_tears_117 : decode cX10_tears 117 = .ok (.dup2, 1) := by decide +kernel
theorem dX10_tears_118 : decode cX10_tears 118 = .ok (.iaload, 1) := by decide +kernel
theorem dX10_tears_119 : decode cX10_tears 119 = .ok (.iconst 1, 1) := by decide +kernel
theorem dX10_tears_120 : decode cX10_tears 120 = .ok (.iadd, 1) := by decide +kernel
theorem dX10_tears_121 : decode cX10_tears 121 = .ok (.iastore, 1) := by decide +kernel
theorem dX10_tears_122 : decode cX10_tears 122 = .ok (.aload_n 0, 1) := by decide +kernel
theorem dX10_tears_123 : decode cX10_tears 123 = .ok (.iload_n 1, 1) := by decide +kernel
theorem dX10_tears_124 : decode cX10_tears 124 = .ok (.invokevirtual 117, 3) := by decide +kernel
theorem dX10_tears_127 : decode cX10_tears 127 = .ok (.aload_n 0, 1) := by decide +kernel
theorem dX10_tears_128 : decode cX10_tears 128 = .ok (.aload_n 0, 1) := by decide +kernel
theorem dX10_tears_129 : decode cX10_tears 129 = .ok (.aload_n 0, 1) := by decide +kernel
theorem dX10_tears_130 : decode cX10_tears 130 = .ok (.getfield 71, 3) := by decide +kernel
theorem dX10_tears_133 : decode cX10_tears 133 = .ok (.invokevirtual 121, 3) := by decide +kernel
theorem dX10_tears_136 : decode cX10_tears 136 = .ok (.invokevirtual 111, 3) := by decide +kernel
theorem dX10_tears_139 : decode cX10_tears 139 = .ok (.ireturn, 1) := by decide +kernel
theorem dX10_mends_0 : decode cX10_mends 0 = .ok (.iload_n 1, 1) := by decide +kernel
theorem dX10_mends_1 : decode cX10_mends 1 = .ok (.invokestatic 94, 3) := by decide +kernel
theorem dX10_mends_4 : decode cX10_mends 4 = .ok (.ifCond .ne 10, 3) := by decide +kernel
theorem dX10_mends_7 : decode cX10_mends 7 = .ok (.aload_n 0, 1) := by decide +kernel
theorem dX10_mends_8 : decode cX10_mends 8 = .ok (.iconst 2, 1) := by decide +kernel
theorem dX10_mends_9 : decode cX10_mends 9 = .ok (.iload_n 1, 1) := by decide +kernel
theorem dX10_mends_10 : decode cX10_mends 10 = .ok (.invokevirtual 98, 3) := by decide +kernel
theorem dX10_mends_13 : decode cX10_mends 13 = .ok (.ireturn, 1) := by decide +kernel
theorem dX10_mends_14 : decode cX10_mends 14 = .ok (.iload_n 2, 1) := by decide +kernel
theorem dX10_mends_15 : decode cX10_mends 15 = .ok (.invokestatic 101, 3) := by decide +kernel
theorem dX10_mends_18 : decode cX10_mends 18 = .ok (.ifCond .ne 10, 3) := by decide +kernel
theorem dX10_mends_21 : decode cX10_mends 21 = .ok (.aload_n 0, 1) := by decide +kernel
theorem dX10_mends_22 : decode cX10_mends 22 = .ok (.iconst 2, 1) := by decide +kernel
theorem dX10_mends_23 : decode cX10_mends 23 = .ok (.iload_n 2, 1) := by decide +kernel
theorem dX10_mends_24 : decode cX10_mends 24 = .ok (.invokevirtual 98, 3) := by decide +kernel
theorem dX10_mends_27 : decode cX10_mends 27 = .ok (.ireturn, 1) := by decide +kernel
theorem dX10_mends_28 : decode cX10_mends 28 = .ok (.iload_n 3, 1) := by decide +kernel
theorem dX10_mends_29 : decode cX10_mends 29 = .ok (.invokestatic 101, 3) := by decide +kernel
theorem dX10_mends_32 : decode cX10_mends 32 = .ok (.ifCond .ne 10, 3) := by decide +kernel
theorem dX10_mends_35 : decode cX10_mends 35 = .ok (.aload_n 0, 1) := by decide +kernel
theorem dX10_mends_36 : decode cX10_mends 36 = .ok (.iconst 2, 1) := by decide +kernel
theorem dX10_mends_37 : decode cX10_mends 37 = .ok (.iload_n 3, 1) := by decide +kernel
theorem dX10_mends_38 : decode cX10_mends 38 = .ok (.invokevirtual 98, 3) := by decide +kernel
theorem dX10_mends_41 : decode cX10_mends 41 = .ok (.ireturn, 1) := by decide +kernel
theorem dX10_mends_42 : decode cX10_mends 42 = .ok (.iload 4, 2) := by decide +kernel
theorem dX10_mends_44 : decode cX10_mends 44 = .ok (.iconst 0, 1) := by decide +kernel
theorem dX10_mends_45 : decode cX10_mends 45 = .ok (.aload_n 0, 1) := by decide +kernel
theorem dX10_mends_46 : decode cX10_mends 46 = .ok (.getfield 7, 3) := by decide +kernel
theorem dX10_mends_49 : decode cX10_mends 49 = .ok (.iconst 1, 1) := by decide +kernel
theorem dX10_mends_50 : decode cX10_mends 50 = .ok (.iaload, 1) := by decide +kernel
theorem dX10_mends_51 : decode cX10_mends 51 = .ok (.iconst 1, 1) := by decide +kernel
theorem dX10_mends_52 : decode cX10_mends 52 = .ok (.isub, 1) := by decide +kernel
theorem dX10_mends_53 : decode cX10_mends 53 = .ok (.invokestatic 63, 3) := by decide +kernel
theorem dX10_mends_56 : decode cX10_mends 56 = .ok (.ifCond .ne 11, 3) := by decide +kernel
theorem dX10_mends_59 : decode cX10_mends 59 = .ok (.aload_n 0, 1) := by decide +kernel
theorem dX10_mends_60 : decode cX10_mends 60 = .ok (.iconst 2, 1) := by decide +kernel
theorem dX10_mends_61 : decode cX10_mends 61 = .ok (.iload 4, 2) := by decide +kernel
theorem dX10_mends_63 : decode cX10_mends 63 = .ok (.invokevirtual 98, 3) := by decide +kernel
theorem dX10_mends_66 : decode cX10_mends 66 = .ok (.ireturn, 1) := by decide +kernel
theorem dX10_mends_67 : decode cX10_mends 67 = .ok (.iload_n 2, 1) := by decide +kernel
theorem dX10_mends_68 : decode cX10_mends 68 = .ok (.iload_n 3, 1) := by decide +kernel
theorem dX10_mends_69 : decode cX10_mends 69 = .ok (.invokestatic 114, 3) := by decide +kernel
theorem dX10_mends_72 : decode cX10_mends 72 = .ok (.istore 5, 2) := by decide +kernel
theorem dX10_mends_74 : decode cX10_mends 74 = .ok (.iload 5, 2) := by decide +kernel
theorem dX10_mends_76 : decode cX10_mends 76 = .ok (.iconst (-1), 1) := by decide +kernel
theorem dX10_mends_77 : decode cX10_mends 77 = .ok (.if_icmp .ne 10, 3) := by decide +kernel
theorem dX10_mends_80 : decode cX10_mends 80 = .ok (.aload_n 0, 1) := by decide +kernel
theorem dX10_mends_81 : decode cX10_mends 81 = .ok (.iconst 5, 1) := by decide +kernel
theorem dX10_mends_82 : decode cX10_mends 82 = .ok (.iload_n 3, 1) := by decide +kernel
theorem dX10_mends_83 : decode cX10_mends 83 = .ok (.invokevirtual 98, 3) := by decide +kernel
theorem dX10_mends_86 : decode cX10_mends 86 = .ok (.ireturn, 1) := by decide +kernel
theorem dX10_mends_87 : decode cX10_mends 87 = .ok (.iload_n 2, 1) := by decide +kernel
theorem dX10_mends_88 : decode cX10_mends 88 = .ok (.iload_n 3, 1) := by decide +kernel
theorem dX10_mends_89 : decode cX10_mends 89 = .ok (.if_icmp .ge 7, 3) := by decide +kernel
theorem dX10_mends_92 : decode cX10_mends 92 = .ok (.iload_n 2, 1) := by decide +kernel
theorem dX10_mends_93 : decode cX10_mends 93 = .ok (.goto 4, 3) := by decide +kernel
theorem dX10_mends_96 : decode cX10_mends 96 = .ok (.iload_n 3, 1) := by decide +kernel
theorem dX10_mends_97 : decode cX10_mends 97 = .ok (.istore 6, 2) := by decide +kernel
theorem dX10_mends_99 : decode cX10_mends 99 = .ok (.aload_n 0, 1) := by decide +kernel
theorem dX10_mends_100 : decode cX10_mends 100 = .ok (.iload_n 1, 1) := by decide +kernel
theorem dX10_mends_101 : decode cX10_mends 101 = .ok (.iload 5, 2) := by decide +kernel
theorem dX10_mends_103 : decode cX10_mends 103 = .ok (.invokevirtual 67, 3) := by decide +kernel
theorem dX10_mends_106 : decode cX10_mends 106 = .ok (.iload 6, 2) := by decide +kernel
theorem dX10_mends_108 : decode cX10_mends 108 = .ok (.ishr, 1) := by decide +kernel
theorem dX10_mends_109 : decode cX10_mends 109 = .ok (.iconst 1, 1) := by decide +kernel
theorem dX10_mends_110 : decode cX10_mends 110 = .ok (.iand, 1) := by decide +kernel
theorem dX10_mends_111 : decode cX10_mends 111 = .ok (.ifCond .ne 15, 3) := by decide +kernel
theorem dX10_mends_114 : decode cX10_mends 114 = .ok (.aload_n 0, 1) := by decide +kernel
theorem dX10_mends_115 : decode cX10_mends 115 = .ok (.iconst 4, 1) := by decide +kernel
theorem dX10_mends_116 : decode cX10_mends 116 = .ok (.iload_n 2, 1) := by decide +kernel
theorem dX10_mends_117 : decode cX10_mends 117 = .ok (.iload_n 3, 1) := by decide +kernel
theorem dX10_mends_118 : decode cX10_mends 118 = .ok (.iadd, 1) := by decide +kernel
theorem dX10_mends_119 : decode cX10_mends 119 = .ok (.iload 6, 2) := by decide +kernel
theorem dX10_mends_121 : decode cX10_mends 121 = .ok (.isub, 1) := by decide +kernel
theorem dX10_mends_122 : decode cX10_mends 122 = .ok (.invokevirtual 98, 3) := by decide +kernel
theorem dX10_mends_125 : decode cX10_mends 125 = .ok (.ireturn, 1) := by decide +kernel
theorem dX10_mends_126 : decode cX10_mends 126 = .ok (.iload 5, 2) := by decide +kernel
theorem dX10_mends_128 : decode cX10_mends 128 = .ok (.iconst 2, 1) := by decide +kernel
theorem dX10_mends_129 : decode cX10_mends 129 = .ok (.if_icmp .ne 7, 3) := by decide +kernel
theorem dX10_mends_132 : decode cX10_mends 132 = .ok (.iconst 1, 1) := by decide +kernel
theorem dX10_mends_133 : decode cX10_mends 133 = .ok (.goto 4, 3) := by decide +kernel
theorem dX10_mends_136 : decode cX10_mends 136 = .ok (.iconst 2, 1) := by decide +kernel
theorem dX10_mends_137 : decode cX10_mends 137 = .ok (.istore 7, 2) := by decide +kernel
theorem dX10_mends_139 : decode cX10_mends 139 = .ok (.aload_n 0, 1) := by decide +kernel
theorem dX10_mends_140 : decode cX10_mends 140 = .ok (.getfield 7, 3) := by decide +kernel
theorem dX10_mends_143 : decode cX10_mends 143 = .ok (.bipush 21, 2) := by decide +kernel
theorem dX10_mends_145 : decode cX10_mends 145 = .ok (.iconst 2, 1) := by decide +kernel
theorem dX10_mends_146 : decode cX10_mends 146 = .ok (.iload 4, 2) := by decide +kernel
theorem dX10_mends_148 : decode cX10_mends 148 = .ok (.imul, 1) := by decide +kernel
theorem dX10_mends_149 : decode cX10_mends 149 = .ok (.iadd, 1) := by decide +kernel
theorem dX10_mends_150 : decode cX10_mends 150 = .ok (.iaload, 1) := by decide +kernel
theorem dX10_mends_151 : decode cX10_mends 151 = .ok (.istore 8, 2) := by decide +kernel
theorem dX10_mends_153 : decode cX10_mends 153 = .ok (.iload 8, 2) := by decide +kernel
theorem dX10_mends_155 : decode cX10_mends 155 = .ok (.iload 7, 2) := by decide +kernel
theorem dX10_mends_157 : decode cX10_mends 157 = .ok (.if_icmp .ge 12, 3) := by decide +kernel
theorem dX10_mends_160 : decode cX10_mends 160 = .ok (.aload_n 0, 1) := by decide +kernel
theorem dX10_mends_161 : decode cX10_mends 161 = .ok (.bipush 6, 2) := by decide +kernel
theorem dX10_mends_163 : decode cX10_mends 163 = .ok (.iload 8, 2) := by decide +kernel
theorem dX10_mends_165 : decode cX10_mends 165 = .ok (.invokevirtual 98, 3) := by decide +kernel
theorem dX10_mends_168 : decode cX10_mends 168 = .ok (.ireturn, 1) := by decide +kernel
theorem dX10_mends_169 : decode cX10_mends 169 = .ok (.aload_n 0, 1) := by decide +kernel
theorem dX10_mends_170 : decode cX10_mends 170 = .ok (.iload_n 1, 1) := by decide +kernel
theorem dX10_mends_171 : decode cX10_mends 171 = .ok (.iload 5, 2) := by decide +kernel
theorem dX10_mends_173 : decode cX10_mends 173 = .ok (.iload 6, 2) := by decide +kernel
theorem dX10_mends_175 : decode cX10_mends 175 = .ok (.iconst 0, 1) := by decide +kernel
theorem dX10_mends_176 : decode cX10_mends 176 = .ok (.invokevirtual 107, 3) := by decide +kernel
theorem dX10_mends_179 : decode cX10_mends 179 = .ok (.aload_n 0, 1) := by decide +kernel
theorem dX10_mends_180 : decode cX10_mends 180 = .ok (.getfield 7, 3) := by decide +kernel
theorem dX10_mends_183 : decode cX10_mends 183 = .ok (.bipush 21, 2) := by decide +kernel
theorem dX10_mends_185 : decode cX10_mends 185 = .ok (.iconst 2, 1) := by decide +kernel
theorem dX10_mends_186 : decode cX10_mends 186 = .ok (.iload 4, 2) := by decide +kernel
theorem dX10_mends_188 : decode cX10_mends 188 = .ok (.imul, 1) := by decide +kernel
theorem dX10_mends_189 : decode cX10_mends 189 = .ok (.iadd, 1) := by decide +kernel
theorem dX10_mends_190 : decode cX10_mends 190 = .ok (.iload 8, 2) := by decide +kernel
theorem dX10_mends_192 : decode cX10_mends 192 = .ok (.iload 7, 2) := by decide +kernel
theorem dX10_mends_194 : decode cX10_mends 194 = .ok (.isub, 1) := by decide +kernel
theorem dX10_mends_195 : decode cX10_mends 195 = .ok (.iastore, 1) := by decide +kernel
theorem dX10_mends_196 : decode cX10_mends 196 = .ok (.aload_n 0, 1) := by decide +kernel
theorem dX10_mends_197 : decode cX10_mends 197 = .ok (.getfield 7, 3) := by decide +kernel
theorem dX10_mends_200 : decode cX10_mends 200 = .ok (.bipush 21, 2) := by decide +kernel
theorem dX10_mends_202 : decode cX10_mends 202 = .ok (.iconst 2, 1) := by decide +kernel
theorem dX10_mends_203 : decode cX10_mends 203 = .ok (.iload 4, 2) := by decide +kernel
theorem dX10_mends_205 : decode cX10_mends 205 = .ok (.imul, 1) := by decide +kernel
theorem dX10_mends_206 : decode cX10_mends 206 = .ok (.iadd, 1) := by decide +kernel
theorem dX10_mends_207 : decode cX10_mends 207 = .ok (.iconst 1, 1) := by decide +kernel
theorem dX10_mends_208 : decode cX10_mends 208 = .ok (.iadd, 1) := by decide +kernel
theorem dX10_mends_209 : decode cX10_mends 209 = .ok (.dup2, 1) := by decide +kernel
theorem dX10_mends_210 : decode cX10_mends 210 = .ok (.iaload, 1) := by decide +kernel
theorem dX10_mends_211 : decode cX10_mends 211 = .ok (.iconst 1, 1) := by decide +kernel
theorem dX10_mends_212 : decode cX10_mends 212 = .ok (.iadd, 1) := by decide +kernel
theorem dX10_mends_213 : decode cX10_mends 213 = .ok (.iastore, 1) := by decide +kernel
theorem dX10_mends_214 : decode cX10_mends 214 = .ok (.aload_n 0, 1) := by decide +kernel
theorem dX10_mends_215 : decode cX10_mends 215 = .ok (.getfield 7, 3) := by decide +kernel
theorem dX10_mends_218 : decode cX10_mends 218 = .ok (.iconst 4, 1) := by decide +kernel
theorem dX10_mends_219 : decode cX10_mends 219 = .ok (.dup2, 1) := by decide +kernel
theorem dX10_mends_220 : decode cX10_mends 220 = .ok (.iaload, 1) := by decide +kernel
theorem dX10_mends_221 : decode cX10_mends 221 = .ok (.iconst 1, 1) := by decide +kernel
theorem dX10_mends_222 : decode cX10_mends 222 = .ok (.iadd, 1) := by decide +kernel
theorem dX10_mends_223 : decode cX10_mends 223 = .ok (.iastore, 1) := by decide +kernel
theorem dX10_mends_224 : decode cX10_mends 224 = .ok (.aload_n 0, 1) := by decide +kernel
theorem dX10_mends_225 : decode cX10_mends 225 = .ok (.getfield 7, 3) := by decide +kernel
theorem dX10_mends_228 : decode cX10_mends 228 = .ok (.iconst 5, 1) := by decide +kernel
theorem dX10_mends_229 : decode cX10_mends 229 = .ok (.dup2, 1) := by decide +kernel
theorem dX10_mends_230 : decode cX10_mends 230 = .ok (.iaload, 1) := by decide +kernel
theorem dX10_mends_231 : decode cX10_mends 231 = .ok (.iload 7, 2) := by decide +kernel
theorem dX10_mends_233 : decode cX10_mends 233 = .ok (.iadd, 1) := by decide +kernel
theorem dX10_mends_234 : decode cX10_mends 234 = .ok (.iastore, 1) := by decide +kernel
theorem dX10_mends_235 : decode cX10_mends 235 = .ok (.aload_n 0, 1) := by decide +kernel
theorem dX10_mends_236 : decode cX10_mends 236 = .ok (.iload 8, 2) := by decide +kernel
theorem dX10_mends_238 : decode cX10_mends 238 = .ok (.iload 7, 2) := by decide +kernel
theorem dX10_mends_240 : decode cX10_mends 240 = .ok (.isub, 1) := by decide +kernel
theorem dX10_mends_241 : decode cX10_mends 241 = .ok (.invokevirtual 111, 3) := by decide +kernel
theorem dX10_mends_244 : decode cX10_mends 244 = .ok (.ireturn, 1) := by decide +kernel
theorem dX10_comes_0 : decode cX10_comes 0 = .ok (.iload_n 1, 1) := by decide +kernel
theorem dX10_comes_1 : decode cX10_comes 1 = .ok (.iconst 0, 1) := by decide +kernel
theorem dX10_comes_2 : decode cX10_comes 2 = .ok (.bipush 99, 2) := by decide +kernel
theorem dX10_comes_4 : decode cX10_comes 4 = .ok (.invokestatic 63, 3) := by decide +kernel
theorem dX10_comes_7 : decode cX10_comes 7 = .ok (.ifCond .ne 10, 3) := by decide +kernel
theorem dX10_comes_10 : decode cX10_comes 10 = .ok (.aload_n 0, 1) := by decide +kernel
theorem dX10_comes_11 : decode cX10_comes 11 = .ok (.iconst 3, 1) := by decide +kernel
theorem dX10_comes_12 : decode cX10_comes 12 = .ok (.iload_n 1, 1) := by decide +kernel
theorem dX10_comes_13 : decode cX10_comes 13 = .ok (.invokevirtual 98, 3) := by decide +kernel
theorem dX10_comes_16 : decode cX10_comes 16 = .ok (.ireturn, 1) := by decide +kernel
theorem dX10_comes_17 : decode cX10_comes 17 = .ok (.aload_n 0, 1) := by decide +kernel
theorem dX10_comes_18 : decode cX10_comes 18 = .ok (.getfield 7, 3) := by decide +kernel
theorem dX10_comes_21 : decode cX10_comes 21 = .ok (.iconst 1, 1) := by decide +kernel
theorem dX10_comes_22 : decode cX10_comes 22 = .ok (.iaload, 1) := by decide +kernel
theorem dX10_comes_23 : decode cX10_comes 23 = .ok (.istore_n 2, 1) := by decide +kernel
theorem dX10_comes_24 : decode cX10_comes 24 = .ok (.iload_n 2, 1) := by decide +kernel
theorem dX10_comes_25 : decode cX10_comes 25 = .ok (.iconst 4, 1) := by decide +kernel
theorem dX10_comes_26 : decode cX10_comes 26 = .ok (.if_icmp .ne 10, 3) := by decide +kernel
theorem dX10_comes_29 : decode cX10_comes 29 = .ok (.aload_n 0, 1) := by decide +kernel
theorem dX10_comes_30 : decode cX10_comes 30 = .ok (.iconst 1, 1) := by decide +kernel
theorem dX10_comes_31 : decode cX10_comes 31 = .ok (.iconst 4, 1) := by decide +kernel
theorem dX10_comes_32 : decode cX10_comes 32 = .ok (.invokevirtual 98, 3) := by decide +kernel
theorem dX10_comes_35 : decode cX10_comes 35 = .ok (.ireturn, 1) := by decide +kernel
theorem dX10_comes_36 : decode cX10_comes 36 = .ok (.aload_n 0, 1) := by decide +kernel
theorem dX10_comes_37 : decode cX10_comes 37 = .ok (.getfield 7, 3) := by decide +kernel
theorem dX10_comes_40 : decode cX10_comes 40 = .ok (.bipush 21, 2) := by decide +kernel
theorem dX10_comes_42 : decode cX10_comes 42 = .ok (.iconst 2, 1) := by decide +kernel
theorem dX10_comes_43 : decode cX10_comes 43 = .ok (.iload_n 2, 1) := by decide +kernel
theorem dX10_comes_44 : decode cX10_comes 44 = .ok (.imul, 1) := by decide +kernel
theorem dX10_comes_45 : decode cX10_comes 45 = .ok (.iadd, 1) := by decide +kernel
theorem dX10_comes_46 : decode cX10_comes 46 = .ok (.iload_n 1, 1) := by decide +kernel
theorem dX10_comes_47 : decode cX10_comes 47 = .ok (.iastore, 1) := by decide +kernel
theorem dX10_comes_48 : decode cX10_comes 48 = .ok (.aload_n 0, 1) := by decide +kernel
theorem dX10_comes_49 : decode cX10_comes 49 = .ok (.getfield 7, 3) := by decide +kernel
theorem dX10_comes_52 : decode cX10_comes 52 = .ok (.bipush 21, 2) := by decide +kernel
theorem dX10_comes_54 : decode cX10_comes 54 = .ok (.iconst 2, 1) := by decide +kernel
theorem dX10_comes_55 : decode cX10_comes 55 = .ok (.iload_n 2, 1) := by decide +kernel
theorem dX10_comes_56 : decode cX10_comes 56 = .ok (.imul, 1) := by decide +kernel
theorem dX10_comes_57 : decode cX10_comes 57 = .ok (.iadd, 1) := by decide +kernel
theorem dX10_comes_58 : decode cX10_comes 58 = .ok (.iconst 1, 1) := by decide +kernel
theorem dX10_comes_59 : decode cX10_comes 59 = .ok (.iadd, 1) := by decide +kernel
theorem dX10_comes_60 : decode cX10_comes 60 = .ok (.iconst 0, 1) := by decide +kernel
theorem dX10_comes_61 : decode cX10_comes 61 = .ok (.iastore, 1) := by decide +kernel
theorem dX10_comes_62 : decode cX10_comes 62 = .ok (.aload_n 0, 1) := by decide +kernel
theorem dX10_comes_63 : decode cX10_comes 63 = .ok (.getfield 7, 3) := by decide +kernel
theorem dX10_comes_66 : decode cX10_comes 66 = .ok (.iconst 1, 1) := by decide +kernel
theorem dX10_comes_67 : decode cX10_comes 67 = .ok (.iload_n 2, 1) := by decide +kernel
theorem dX10_comes_68 : decode cX10_comes 68 = .ok (.iconst 1, 1) := by decide +kernel
theorem dX10_comes_69 : decode cX10_comes 69 = .ok (.iadd, 1) := by decide +kernel
theorem dX10_comes_70 : decode cX10_comes 70 = .ok (.iastore, 1) := by decide +kernel
theorem dX10_comes_71 : decode cX10_comes 71 = .ok (.aload_n 0, 1) := by decide +kernel
theorem dX10_comes_72 : decode cX10_comes 72 = .ok (.iload_n 2, 1) := by decide +kernel
theorem dX10_comes_73 : decode cX10_comes 73 = .ok (.invokevirtual 111, 3) := by decide +kernel
theorem dX10_comes_76 : decode cX10_comes 76 = .ok (.ireturn, 1) := by decide +kernel
theorem dX10_readable_0 : decode cX10_readable 0 = .ok (.aload_n 0, 1) := by decide +kernel
theorem dX10_readable_1 : decode cX10_readable 1 = .ok (.iload_n 1, 1) := by decide +kernel
theorem dX10_readable_2 : decode cX10_readable 2 = .ok (.iconst 0, 1) := by decide +kernel
theorem dX10_readable_3 : decode cX10_readable 3 = .ok (.invokevirtual 67, 3) := by decide +kernel
theorem dX10_readable_6 : decode cX10_readable 6 = .ok (.aload_n 0, 1) := by decide +kernel
theorem dX10_readable_7 : decode cX10_readable 7 = .ok (.iload_n 1, 1) := by decide +kernel
theorem dX10_readable_8 : decode cX10_readable 8 = .ok (.iconst 1, 1) := by decide +kernel
theorem dX10_readable_9 : decode cX10_readable 9 = .ok (.invokevirtual 67, 3) := by decide +kernel
theorem dX10_readable_12 : decode cX10_readable 12 = .ok (.ior, 1) := by decide +kernel
theorem dX10_readable_13 : decode cX10_readable 13 = .ok (.aload_n 0, 1) := by decide +kernel
theorem dX10_readable_14 : decode cX10_readable 14 = .ok (.iload_n 1, 1) := by decide +kernel
theorem dX10_readable_15 : decode cX10_readable 15 = .ok (.invokevirtual 124, 3) := by decide +kernel
theorem dX10_readable_18 : decode cX10_readable 18 = .ok (.iand, 1) := by decide +kernel
theorem dX10_readable_19 : decode cX10_readable 19 = .ok (.invokestatic 127, 3) := by decide +kernel
theorem dX10_readable_22 : decode cX10_readable 22 = .ok (.ireturn, 1) := by decide +kernel
theorem dX10_turns_0 : decode cX10_turns 0 = .ok (.iload_n 1, 1) := by decide +kernel
theorem dX10_turns_1 : decode cX10_turns 1 = .ok (.iconst 0, 1) := by decide +kernel
theorem dX10_turns_2 : decode cX10_turns 2 = .ok (.iconst 4, 1) := by decide +kernel
theorem dX10_turns_3 : decode cX10_turns 3 = .ok (.invokestatic 63, 3) := by decide +kernel
theorem dX10_turns_6 : decode cX10_turns 6 = .ok (.ifCond .ne 10, 3) := by decide +kernel
theorem dX10_turns_9 : decode cX10_turns 9 = .ok (.aload_n 0, 1) := by decide +kernel
theorem dX10_turns_10 : decode cX10_turns 10 = .ok (.iconst 3, 1) := by decide +kernel
theorem dX10_turns_11 : decode cX10_turns 11 = .ok (.iload_n 1, 1) := by decide +kernel
theorem dX10_turns_12 : decode cX10_turns 12 = .ok (.invokevirtual 98, 3) := by decide +kernel
theorem dX10_turns_15 : decode cX10_turns 15 = .ok (.ireturn, 1) := by decide +kernel
theorem dX10_turns_16 : decode cX10_turns 16 = .ok (.aload_n 0, 1) := by decide +kernel
theorem dX10_turns_17 : decode cX10_turns 17 = .ok (.getfield 7, 3) := by decide +kernel
theorem dX10_turns_20 : decode cX10_turns 20 = .ok (.iconst 0, 1) := by decide +kernel
theorem dX10_turns_21 : decode cX10_turns 21 = .ok (.iaload, 1) := by decide +kernel
theorem dX10_turns_22 : decode cX10_turns 22 = .ok (.iload_n 1, 1) := by decide +kernel
theorem dX10_turns_23 : decode cX10_turns 23 = .ok (.if_icmp .ne 10, 3) := by decide +kernel
theorem dX10_turns_26 : decode cX10_turns 26 = .ok (.aload_n 0, 1) := by decide +kernel
theorem dX10_turns_27 : decode cX10_turns 27 = .ok (.iconst 4, 1) := by decide +kernel
theorem dX10_turns_28 : decode cX10_turns 28 = .ok (.iload_n 1, 1) := by decide +kernel
theorem dX10_turns_29 : decode cX10_turns 29 = .ok (.invokevirtual 98, 3) := by decide +kernel
theorem dX10_turns_32 : decode cX10_turns 32 = .ok (.ireturn, 1) := by decide +kernel
theorem dX10_turns_33 : decode cX10_turns 33 = .ok (.aload_n 0, 1) := by decide +kernel
theorem dX10_turns_34 : decode cX10_turns 34 = .ok (.getfield 7, 3) := by decide +kernel
theorem dX10_turns_37 : decode cX10_turns 37 = .ok (.iconst 0, 1) := by decide +kernel
theorem dX10_turns_38 : decode cX10_turns 38 = .ok (.iload_n 1, 1) := by decide +kernel
theorem dX10_turns_39 : decode cX10_turns 39 = .ok (.iastore, 1) := by decide +kernel
theorem dX10_turns_40 : decode cX10_turns 40 = .ok (.aload_n 0, 1) := by decide +kernel
theorem dX10_turns_41 : decode cX10_turns 41 = .ok (.aload_n 0, 1) := by decide +kernel
theorem dX10_turns_42 : decode cX10_turns 42 = .ok (.iconst 0, 1) := by decide +kernel
theorem dX10_turns_43 : decode cX10_turns 43 = .ok (.invokevirtual 130, 3) := by decide +kernel
theorem dX10_turns_46 : decode cX10_turns 46 = .ok (.aload_n 0, 1) := by decide +kernel
theorem dX10_turns_47 : decode cX10_turns 47 = .ok (.iconst 1, 1) := by decide +kernel
theorem dX10_turns_48 : decode cX10_turns 48 = .ok (.invokevirtual 130, 3) := by decide +kernel
theorem dX10_turns_51 : decode cX10_turns 51 = .ok (.iadd, 1) := by decide +kernel
theorem dX10_turns_52 : decode cX10_turns 52 = .ok (.aload_n 0, 1) := by decide +kernel
theorem dX10_turns_53 : decode cX10_turns 53 = .ok (.iconst 2, 1) := by decide +kernel
theorem dX10_turns_54 : decode cX10_turns 54 = .ok (.invokevirtual 130, 3) := by decide +kernel
theorem dX10_turns_57 : decode cX10_turns 57 = .ok (.iadd, 1) := by decide +kernel
theorem dX10_turns_58 : decode cX10_turns 58 = .ok (.invokevirtual 111, 3) := by decide +kernel
theorem dX10_turns_61 : decode cX10_turns 61 = .ok (.ireturn, 1) := by decide +kernel
theorem dX10_sinks_0 : decode cX10_sinks 0 = .ok (.iload_n 1, 1) := by decide +kernel
theorem dX10_sinks_1 : decode cX10_sinks 1 = .ok (.invokestatic 94, 3) := by decide +kernel
theorem dX10_sinks_4 : decode cX10_sinks 4 = .ok (.ifCond .ne 10, 3) := by decide +kernel
theorem dX10_sinks_7 : decode cX10_sinks 7 = .ok (.aload_n 0, 1) := by decide +kernel
theorem dX10_sinks_8 : decode cX10_sinks 8 = .ok (.iconst 2, 1) := by decide +kernel
theorem dX10_sinks_9 : decode cX10_sinks 9 = .ok (.iload_n 1, 1) := by decide +kernel
theorem dX10_sinks_10 : decode cX10_sinks 10 = .ok (.invokevirtual 98, 3) := by decide +kernel
theorem dX10_sinks_13 : decode cX10_sinks 13 = .ok (.ireturn, 1) := by decide +kernel
theorem dX10_sinks_14 : decode cX10_sinks 14 = .ok (.iload_n 2, 1) := by decide +kernel
theorem dX10_sinks_15 : decode cX10_sinks 15 = .ok (.iconst 0, 1) := by decide +kernel
theorem dX10_sinks_16 : decode cX10_sinks 16 = .ok (.iconst 4, 1) := by decide +kernel
theorem dX10_sinks_17 : decode cX10_sinks 17 = .ok (.invokestatic 63, 3) := by decide +kernel
theorem dX10_sinks_20 : decode cX10_sinks 20 = .ok (.ifCond .ne 10, 3) := by decide +kernel
theorem dX10_sinks_23 : decode cX10_sinks 23 = .ok (.aload_n 0, 1) := by decide +kernel
theorem dX10_sinks_24 : decode cX10_sinks 24 = .ok (.iconst 3, 1) := by decide +kernel
theorem dX10_sinks_25 : decode cX10_sinks 25 = .ok (.iload_n 2, 1) := by decide +kernel
theorem dX10_sinks_26 : decode cX10_sinks 26 = .ok (.invokevirtual 98, 3) := by decide +kernel
theorem dX10_sinks_29 : decode cX10_sinks 29 = .ok (.ireturn, 1) := by decide +kernel
theorem dX10_sinks_30 : decode cX10_sinks 30 = .ok (.aload_n 0, 1) := by decide +kernel
theorem dX10_sinks_31 : decode cX10_sinks 31 = .ok (.iload_n 1, 1) := by decide +kernel
theorem dX10_sinks_32 : decode cX10_sinks 32 = .ok (.iconst 4, 1) := by decide +kernel
theorem dX10_sinks_33 : decode cX10_sinks 33 = .ok (.invokevirtual 67, 3) := by decide +kernel
theorem dX10_sinks_36 : decode cX10_sinks 36 = .ok (.iload_n 2, 1) := by decide +kernel
theorem dX10_sinks_37 : decode cX10_sinks 37 = .ok (.if_icmp .ne 10, 3) := by decide +kernel
theorem dX10_sinks_40 : decode cX10_sinks 40 = .ok (.aload_n 0, 1) := by decide +kernel
theorem dX10_sinks_41 : decode cX10_sinks 41 = .ok (.iconst 4, 1) := by decide +kernel
theorem dX10_sinks_42 : decode cX10_sinks 42 = .ok (.iload_n 2, 1) := by decide +kernel
theorem dX10_sinks_43 : decode cX10_sinks 43 = .ok (.invokevirtual 98, 3) := by decide +kernel
theorem dX10_sinks_46 : decode cX10_sinks 46 = .ok (.ireturn, 1) := by decide +kernel
theorem dX10_sinks_47 : decode cX10_sinks 47 = .ok (.aload_n 0, 1) := by decide +kernel
theorem dX10_sinks_48 : decode cX10_sinks 48 = .ok (.getfield 7, 3) := by decide +kernel
theorem dX10_sinks_51 : decode cX10_sinks 51 = .ok (.bipush 6, 2) := by decide +kernel
theorem dX10_sinks_53 : decode cX10_sinks 53 = .ok (.iconst 5, 1) := by decide +kernel
theorem dX10_sinks_54 : decode cX10_sinks 54 = .ok (.iload_n 1, 1) := by decide +kernel
theorem dX10_sinks_55 : decode cX10_sinks 55 = .ok (.imul, 1) := by decide +kernel
theorem dX10_sinks_56 : decode cX10_sinks 56 = .ok (.iadd, 1) := by decide +kernel
theorem dX10_sinks_57 : decode cX10_sinks 57 = .ok (.iconst 4, 1) := by decide +kernel
theorem dX10_sinks_58 : decode cX10_sinks 58 = .ok (.iadd, 1) := by decide +kernel
theorem dX10_sinks_59 : decode cX10_sinks 59 = .ok (.iload_n 2, 1) := by decide +kernel
theorem dX10_sinks_60 : decode cX10_sinks 60 = .ok (.iastore, 1) := by decide +kernel
theorem dX10_sinks_61 : decode cX10_sinks 61 = .ok (.aload_n 0, 1) := by decide +kernel
theorem dX10_sinks_62 : decode cX10_sinks 62 = .ok (.aload_n 0, 1) := by decide +kernel
theorem dX10_sinks_63 : decode cX10_sinks 63 = .ok (.iload_n 1, 1) := by decide +kernel
theorem dX10_sinks_64 : decode cX10_sinks 64 = .ok (.invokevirtual 91, 3) := by decide +kernel
theorem dX10_sinks_67 : decode cX10_sinks 67 = .ok (.invokevirtual 111, 3) := by decide +kernel
theorem dX10_sinks_70 : decode cX10_sinks 70 = .ok (.ireturn, 1) := by decide +kernel
theorem dX10_ofNote_0 : decode cX10_ofNote 0 = .ok (.aload_n 0, 1) := by decide +kernel
theorem dX10_ofNote_1 : decode cX10_ofNote 1 = .ok (.getfield 7, 3) := by decide +kernel
theorem dX10_ofNote_4 : decode cX10_ofNote 4 = .ok (.bipush 29, 2) := by decide +kernel
theorem dX10_ofNote_6 : decode cX10_ofNote 6 = .ok (.iconst 4, 1) := by decide +kernel
theorem dX10_ofNote_7 : decode cX10_ofNote 7 = .ok (.iload_n 1, 1) := by decide +kernel
theorem dX10_ofNote_8 : decode cX10_ofNote 8 = .ok (.imul, 1) := by decide +kernel
theorem dX10_ofNote_9 : decode cX10_ofNote 9 = .ok (.iadd, 1) := by decide +kernel
theorem dX10_ofNote_10 : decode cX10_ofNote 10 = .ok (.iload_n 2, 1) := by decide +kernel
theorem dX10_ofNote_11 : decode cX10_ofNote 11 = .ok (.iadd, 1) := by decide +kernel
theorem dX10_ofNote_12 : decode cX10_ofNote 12 = .ok (.iaload, 1) := by decide +kernel
theorem dX10_ofNote_13 : decode cX10_ofNote 13 = .ok (.ireturn, 1) := by decide +kernel
theorem dX10_notes_0 : decode cX10_notes 0 = .ok (.iload_n 1, 1) := by decide +kernel
theorem dX10_notes_1 : decode cX10_notes 1 = .ok (.invokestatic 94, 3) := by decide +kernel
theorem dX10_notes_4 : decode cX10_notes 4 = .ok (.ifCond .ne 10, 3) := by decide +kernel
theorem dX10_notes_7 : decode cX10_notes 7 = .ok (.aload_n 0, 1) := by decide +kernel
theorem dX10_notes_8 : decode cX10_notes 8 = .ok (.iconst 2, 1) := by decide +kernel
theorem dX10_notes_9 : decode cX10_notes 9 = .ok (.iload_n 1, 1) := by decide +kernel
theorem dX10_notes_10 : decode cX10_notes 10 = .ok (.invokevirtual 98, 3) := by decide +kernel
theorem dX10_notes_13 : decode cX10_notes 13 = .ok (.ireturn, 1) := by decide +kernel
theorem dX10_notes_14 : decode cX10_notes 14 = .ok (.iload_n 2, 1) := by decide +kernel
theorem dX10_notes_15 : decode cX10_notes 15 = .ok (.invokestatic 101, 3) := by decide +kernel
theorem dX10_notes_18 : decode cX10_notes 18 = .ok (.ifCond .ne 10, 3) := by decide +kernel
theorem dX10_notes_21 : decode cX10_notes 21 = .ok (.aload_n 0, 1) := by decide +kernel
theorem dX10_notes_22 : decode cX10_notes 22 = .ok (.iconst 2, 1) := by decide +kernel
theorem dX10_notes_23 : decode cX10_notes 23 = .ok (.iload_n 2, 1) := by decide +kernel
theorem dX10_notes_24 : decode cX10_notes 24 = .ok (.invokevirtual 98, 3) := by decide +kernel
theorem dX10_notes_27 : decode cX10_notes 27 = .ok (.ireturn, 1) := by decide +kernel
theorem dX10_notes_28 : decode cX10_notes 28 = .ok (.aload_n 0, 1) := by decide +kernel
theorem dX10_notes_29 : decode cX10_notes 29 = .ok (.iload_n 1, 1) := by decide +kernel
theorem dX10_notes_30 : decode cX10_notes 30 = .ok (.iload_n 2, 1) := by decide +kernel
theorem dX10_notes_31 : decode cX10_notes 31 = .ok (.invokevirtual 104, 3) := by decide +kernel
theorem dX10_notes_34 : decode cX10_notes 34 = .ok (.ifCond .ne 11, 3) := by decide +kernel
theorem dX10_notes_37 : decode cX10_notes 37 = .ok (.aload_n 0, 1) := by decide +kernel
theorem dX10_notes_38 : decode cX10_notes 38 = .ok (.bipush 7, 2) := by decide +kernel
theorem dX10_notes_40 : decode cX10_notes 40 = .ok (.iload_n 2, 1) := by decide +kernel
theorem dX10_notes_41 : decode cX10_notes 41 = .ok (.invokevirtual 98, 3) := by decide +kernel
theorem dX10_notes_44 : decode cX10_notes 44 = .ok (.ireturn, 1) := by decide +kernel
theorem dX10_notes_45 : decode cX10_notes 45 = .ok (.aload_n 0, 1) := by decide +kernel
theorem dX10_notes_46 : decode cX10_notes 46 = .ok (.iload_n 1, 1) := by decide +kernel
theorem dX10_notes_47 : decode cX10_notes 47 = .ok (.invokevirtual 117, 3) := by decide +kernel
theorem dX10_notes_50 : decode cX10_notes 50 = .ok (.aload_n 0, 1) := by decide +kernel
theorem dX10_notes_51 : decode cX10_notes 51 = .ok (.iload_n 2, 1) := by decide +kernel
theorem dX10_notes_52 : decode cX10_notes 52 = .ok (.aload_n 0, 1) := by decide +kernel
theorem dX10_notes_53 : decode cX10_notes 53 = .ok (.getfield 71, 3) := by decide +kernel
theorem dX10_notes_56 : decode cX10_notes 56 = .ok (.invokevirtual 88, 3) := by decide +kernel
theorem dX10_notes_59 : decode cX10_notes 59 = .ok (.istore_n 3, 1) := by decide +kernel
theorem dX10_notes_60 : decode cX10_notes 60 = .ok (.aload_n 0, 1) := by decide +kernel
theorem dX10_notes_61 : decode cX10_notes 61 = .ok (.iload_n 1, 1) := by decide +kernel
theorem dX10_notes_62 : decode cX10_notes 62 = .ok (.iconst 0, 1) := by decide +kernel
theorem dX10_notes_63 : decode cX10_notes 63 = .ok (.invokevirtual 67, 3) := by decide +kernel
theorem dX10_notes_66 : decode cX10_notes 66 = .ok (.iload_n 3, 1) := by decide +kernel
theorem dX10_notes_67 : decode cX10_notes 67 = .ok (.iand, 1) := by decide +kernel
theorem dX10_notes_68 : decode cX10_notes 68 = .ok (.istore 4, 2) := by decide +kernel
theorem dX10_notes_70 : decode cX10_notes 70 = .ok (.aload_n 0, 1) := by decide +kernel
theorem dX10_notes_71 : decode cX10_notes 71 = .ok (.iload_n 1, 1) := by decide +kernel
theorem dX10_notes_72 : decode cX10_notes 72 = .ok (.iconst 1, 1) := by decide +kernel
theorem dX10_notes_73 : decode cX10_notes 73 = .ok (.invokevirtual 67, 3) := by decide +kernel
theorem dX10_notes_76 : decode cX10_notes 76 = .ok (.iload_n 3, 1) := by decide +kernel
theorem dX10_notes_77 : decode cX10_notes 77 = .ok (.iand, 1) := by decide +kernel
theorem dX10_notes_78 : decode cX10_notes 78 = .ok (.istore 5, 2) := by decide +kernel
theorem dX10_notes_80 : decode cX10_notes 80 = .ok (.aload_n 0, 1) := by decide +kernel
theorem dX10_notes_81 : decode cX10_notes 81 = .ok (.getfield 7, 3) := by decide +kernel
theorem dX10_notes_84 : decode cX10_notes 84 = .ok (.iconst 2, 1) := by decide +kernel
theorem dX10_notes_85 : decode cX10_notes 85 = .ok (.iaload, 1) := by decide +kernel
theorem dX10_notes_86 : decode cX10_notes 86 = .ok (.istore 6, 2) := by decide +kernel
theorem dX10_notes_88 : decode cX10_notes 88 = .ok (.iconst 0, 1) := by decide +kernel
theorem dX10_notes_89 : decode cX10_notes 89 = .ok (.istore 7, 2) := by decide +kernel
theorem dX10_notes_91 : decode cX10_notes 91 = .ok (.iload 7, 2) := by decide +kernel
theorem dX10_notes_93 : decode cX10_notes 93 = .ok (.iload 6, 2) := by decide +kernel
theorem dX10_notes_95 : decode cX10_notes 95 = .ok (.if_icmp .ge 64, 3) := by decide +kernel
theorem dX10_notes_98 : decode cX10_notes 98 = .ok (.aload_n 0, 1) := by decide +kernel
theorem dX10_notes_99 : decode cX10_notes 99 = .ok (.iload 7, 2) := by decide +kernel
theorem dX10_notes_101 : decode cX10_notes 101 = .ok (.iconst 0, 1) := by decide +kernel
theorem dX10_notes_102 : decode cX10_notes 102 = .ok (.invokevirtual 133, 3) := by decide +kernel
theorem dX10_notes_105 : decode cX10_notes 105 = .ok (.iload_n 1, 1) := by decide +kernel
theorem dX10_notes_106 : decode cX10_notes 106 = .ok (.if_icmp .ne 47, 3) := by decide +kernel
theorem dX10_notes_109 : decode cX10_notes 109 = .ok (.aload_n 0, 1) := by decide +kernel
theorem dX10_notes_110 : decode cX10_notes 110 = .ok (.iload 7, 2) := by decide +kernel
theorem dX10_notes_112 : decode cX10_notes 112 = .ok (.iconst 1, 1) := by decide +kernel
theorem dX10_notes_113 : decode cX10_notes 113 = .ok (.invokevirtual 133, 3) := by decide +kernel
theorem dX10_notes_116 : decode cX10_notes 116 = .ok (.iload_n 3, 1) := by decide +kernel
theorem dX10_notes_117 : decode cX10_notes 117 = .ok (.if_icmp .ne 36, 3) := by decide +kernel
theorem dX10_notes_120 : decode cX10_notes 120 = .ok (.aload_n 0, 1) := by decide +kernel
theorem dX10_notes_121 : decode cX10_notes 121 = .ok (.iload 7, 2) := by decide +kernel
theorem dX10_notes_123 : decode cX10_notes 123 = .ok (.iconst 2, 1) := by decide +kernel
theorem dX10_notes_124 : decode cX10_notes 124 = .ok (.invokevirtual 133, 3) := by decide +kernel
theorem dX10_notes_127 : decode cX10_notes 127 = .ok (.iload 4, 2) := by decide +kernel
theorem dX10_notes_129 : decode cX10_notes 129 = .ok (.if_icmp .ne 24, 3) := by decide +kernel
theorem dX10_notes_132 : decode cX10_notes 132 = .ok (.aload_n 0, 1) := by decide +kernel
theorem dX10_notes_133 : decode cX10_notes 133 = .ok (.iload 7, 2) := by decide +kernel
theorem dX10_notes_135 : decode cX10_notes 135 = .ok (.iconst 3, 1) := by decide +kernel
theorem dX10_notes_136 : decode cX10_notes 136 = .ok (.invokevirtual 133, 3) := by decide +kernel
theorem dX10_notes_139 : decode cX10_notes 139 = .ok (.iload 5, 2) := by decide +kernel
theorem dX10_notes_141 : decode cX10_notes 141 = .ok (.if_icmp .ne 12, 3) := by decide +kernel
theorem dX10_notes_144 : decode cX10_notes 144 = .ok (.aload_n 0, 1) := by decide +kernel
theorem dX10_notes_145 : decode cX10_notes 145 = .ok (.bipush 8, 2) := by decide +kernel
theorem dX10_notes_147 : decode cX10_notes 147 = .ok (.iload 7, 2) := by decide +kernel
theorem dX10_notes_149 : decode cX10_notes 149 = .ok (.invokevirtual 98, 3) := by decide +kernel
theorem dX10_notes_152 : decode cX10_notes 152 = .ok (.ireturn, 1) := by decide +kernel
theorem dX10_notes_153 : decode cX10_notes 153 = .ok (.iinc 7 1, 3) := by decide +kernel
theorem dX10_notes_156 : decode cX10_notes 156 = .ok (.goto (-65), 3) := by decide +kernel
theorem dX10_notes_159 : decode cX10_notes 159 = .ok (.iload 6, 2) := by decide +kernel
theorem dX10_notes_161 : decode cX10_notes 161 = .ok (.bipush 6, 2) := by decide +kernel
theorem dX10_notes_163 : decode cX10_notes 163 = .ok (.if_icmp .ne 11, 3) := by decide +kernel
theorem dX10_notes_166 : decode cX10_notes 166 = .ok (.aload_n 0, 1) := by decide +kernel
theorem dX10_notes_167 : decode cX10_notes 167 = .ok (.iconst 1, 1) := by decide +kernel
theorem dX10_notes_168 : decode cX10_notes 168 = .ok (.bipush 6, 2) := by decide +kernel
theorem dX10_notes_170 : decode cX10_notes 170 = .ok (.invokevirtual 98, 3) := by decide +kernel
theorem dX10_notes_173 : decode cX10_notes 173 = .ok (.ireturn, 1) := by decide +kernel
theorem dX10_notes_174 : decode cX10_notes 174 = .ok (.aload_n 0, 1) := by decide +kernel
theorem dX10_notes_175 : decode cX10_notes 175 = .ok (.getfield 7, 3) := by decide +kernel
theorem dX10_notes_178 : decode cX10_notes 178 = .ok (.bipush 29, 2) := by decide +kernel
theorem dX10_notes_180 : decode cX10_notes 180 = .ok (.iconst 4, 1) := by decide +kernel
theorem dX10_notes_181 : decode cX10_notes 181 = .ok (.iload 6, 2) := by decide +kernel
theorem dX10_notes_183 : decode cX10_notes 183 = .ok (.imul, 1) := by decide +kernel
theorem dX10_notes_184 : decode cX10_notes 184 = .ok (.iadd, 1) := by decide +kernel
theorem dX10_notes_185 : decode cX10_notes 185 = .ok (.iload_n 1, 1) := by decide +kernel
theorem dX10_notes_186 : decode cX10_notes 186 = .ok (.iastore, 1) := by decide +kernel
theorem dX10_notes_187 : decode cX10_notes 187 = .ok (.aload_n 0, 1) := by decide +kernel
theorem dX10_notes_188 : decode cX10_notes 188 = .ok (.getfield 7, 3) := by decide +kernel
theorem dX10_notes_191 : decode cX10_notes 191 = .ok (.bipush 29, 2) := by decide +kernel
theorem dX10_notes_193 : decode cX10_notes 193 = .ok (.iconst 4, 1) := by decide +kernel
theorem dX10_notes_194 : decode cX10_notes 194 = .ok (.iload 6, 2) := by decide +kernel
theorem dX10_notes_196 : decode cX10_notes 196 = .ok (.imul, 1) := by decide +kernel
theorem dX10_notes_197 : decode cX10_notes 197 = .ok (.iadd, 1) := by decide +kernel
theorem dX10_notes_198 : decode cX10_notes 198 = .ok (.iconst 1, 1) := by decide +kernel
theorem dX10_notes_199 : decode cX10_notes 199 = .ok (.iadd, 1) := by decide +kernel
theorem dX10_notes_200 : decode cX10_notes 200 = .ok (.iload_n 3, 1) := by decide +kernel
theorem dX10_notes_201 : decode cX10_notes 201 = .ok (.iastore, 1) := by decide +kernel
theorem dX10_notes_202 : decode cX10_notes 202 = .ok (.aload_n 0, 1) := by decide +kernel
theorem dX10_notes_203 : decode cX10_notes 203 = .ok (.getfield 7, 3) := by decide +kernel
theorem dX10_notes_206 : decode cX10_notes 206 = .ok (.bipush 29, 2) := by decide +kernel
theorem dX10_notes_208 : decode cX10_notes 208 = .ok (.iconst 4, 1) := by decide +kernel
theorem dX10_notes_209 : decode cX10_notes 209 = .ok (.iload 6, 2) := by decide +kernel
theorem dX10_notes_211 : decode cX10_notes 211 = .ok (.imul, 1) := by decide +kernel
theorem dX10_notes_212 : decode cX10_notes 212 = .ok (.iadd, 1) := by decide +kernel
theorem dX10_notes_213 : decode cX10_notes 213 = .ok (.iconst 2, 1) := by decide +kernel
theorem dX10_notes_214 : decode cX10_notes 214 = .ok (.iadd, 1) := by decide +kernel
theorem dX10_notes_215 : decode cX10_notes 215 = .ok (.iload 4, 2) := by decide +kernel
theorem dX10_notes_217 : decode cX10_notes 217 = .ok (.iastore, 1) := by decide +kernel
theorem dX10_notes_218 : decode cX10_notes 218 = .ok (.aload_n 0, 1) := by decide +kernel
theorem dX10_notes_219 : decode cX10_notes 219 = .ok (.getfield 7, 3) := by decide +kernel
theorem dX10_notes_222 : decode cX10_notes 222 = .ok (.bipush 29, 2) := by decide +kernel
theorem dX10_notes_224 : decode cX10_notes 224 = .ok (.iconst 4, 1) := by decide +kernel
theorem dX10_notes_225 : decode cX10_notes 225 = .ok (.iload 6, 2) := by decide +kernel
theorem dX10_notes_227 : decode cX10_notes 227 = .ok (.imul, 1) := by decide +kernel
theorem dX10_notes_228 : decode cX10_notes 228 = .ok (.iadd, 1) := by decide +kernel
theorem dX10_notes_229 : decode cX10_notes 229 = .ok (.iconst 3, 1) := by decide +kernel
theorem dX10_notes_230 : decode cX10_notes 230 = .ok (.iadd, 1) := by decide +kernel
theorem dX10_notes_231 : decode cX10_notes 231 = .ok (.iload 5, 2) := by decide +kernel
theorem dX10_notes_233 : decode cX10_notes 233 = .ok (.iastore, 1) := by decide +kernel
theorem dX10_notes_234 : decode cX10_notes 234 = .ok (.aload_n 0, 1) := by decide +kernel
theorem dX10_notes_235 : decode cX10_notes 235 = .ok (.getfield 7, 3) := by decide +kernel
theorem dX10_notes_238 : decode cX10_notes 238 = .ok (.iconst 2, 1) := by decide +kernel
theorem dX10_notes_239 : decode cX10_notes 239 = .ok (.iload 6, 2) := by decide +kernel
theorem dX10_notes_241 : decode cX10_notes 241 = .ok (.iconst 1, 1) := by decide +kernel
theorem dX10_notes_242 : decode cX10_notes 242 = .ok (.iadd, 1) := by decide +kernel
theorem dX10_notes_243 : decode cX10_notes 243 = .ok (.iastore, 1) := by decide +kernel
theorem dX10_notes_244 : decode cX10_notes 244 = .ok (.aload_n 0, 1) := by decide +kernel
theorem dX10_notes_245 : decode cX10_notes 245 = .ok (.iload 6, 2) := by decide +kernel
theorem dX10_notes_247 : decode cX10_notes 247 = .ok (.invokevirtual 111, 3) := by decide +kernel
theorem dX10_notes_250 : decode cX10_notes 250 = .ok (.ireturn, 1) := by decide +kernel
theorem dX10_drops_0 : decode cX10_drops 0 = .ok (.iload_n 1, 1) := by decide +kernel
theorem dX10_drops_1 : decode cX10_drops 1 = .ok (.iconst 0, 1) := by decide +kernel
theorem dX10_drops_2 : decode cX10_drops 2 = .ok (.aload_n 0, 1) := by decide +kernel
theorem dX10_drops_3 : decode cX10_drops 3 = .ok (.getfield 7, 3) := by decide +kernel
theorem dX10_drops_6 : decode cX10_drops 6 = .ok (.iconst 2, 1) := by decide +kernel
theorem dX10_drops_7 : decode cX10_drops 7 = .ok (.iaload, 1) := by decide +kernel
theorem dX10_drops_8 : decode cX10_drops 8 = .ok (.iconst 1, 1) := by decide +kernel
theorem dX10_drops_9 : decode cX10_drops 9 = .ok (.isub, 1) := by decide +kernel
theorem dX10_drops_10 : decode cX10_drops 10 = .ok (.invokestatic 63, 3) := by decide +kernel
theorem dX10_drops_13 : decode cX10_drops 13 = .ok (.ifCond .ne 10, 3) := by decide +kernel
theorem dX10_drops_16 : decode cX10_drops 16 = .ok (.aload_n 0, 1) := by decide +kernel
theorem dX10_drops_17 : decode cX10_drops 17 = .ok (.iconst 2, 1) := by decide +kernel
theorem dX10_drops_18 : decode cX10_drops 18 = .ok (.iload_n 1, 1) := by decide +kernel
theorem dX10_drops_19 : decode cX10_drops 19 = .ok (.invokevirtual 98, 3) := by decide +kernel
theorem dX10_drops_22 : decode cX10_drops 22 = .ok (.ireturn, 1) := by decide +kernel
theorem dX10_drops_23 : decode cX10_drops 23 = .ok (.aload_n 0, 1) := by decide +kernel
theorem dX10_drops_24 : decode cX10_drops 24 = .ok (.getfield 7, 3) := by decide +kernel
theorem dX10_drops_27 : decode cX10_drops 27 = .ok (.iconst 2, 1) := by decide +kernel
theorem dX10_drops_28 : decode cX10_drops 28 = .ok (.iaload, 1) := by decide +kernel
theorem dX10_drops_29 : decode cX10_drops 29 = .ok (.iconst 1, 1) := by decide +kernel
theorem dX10_drops_30 : decode cX10_drops 30 = .ok (.isub, 1) := by decide +kernel
theorem dX10_drops_31 : decode cX10_drops 31 = .ok (.istore_n 2, 1) := by decide +kernel
theorem dX10_drops_32 : decode cX10_drops 32 = .ok (.iconst 4, 1) := by decide +kernel
theorem dX10_drops_33 : decode cX10_drops 33 = .ok (.iload_n 1, 1) := by decide +kernel
theorem dX10_drops_34 : decode cX10_drops 34 = .ok (.imul, 1) := by decide +kernel
theorem dX10_drops_35 : decode cX10_drops 35 = .ok (.istore_n 3, 1) := by decide +kernel
theorem dX10_drops_36 : decode cX10_drops 36 = .ok (.iload_n 3, 1) := by decide +kernel
theorem dX10_drops_37 : decode cX10_drops 37 = .ok (.iconst 4, 1) := by decide +kernel
theorem dX10_drops_38 : decode cX10_drops 38 = .ok (.iload_n 2, 1) := by decide +kernel
theorem dX10_drops_39 : decode cX10_drops 39 = .ok (.imul, 1) := by decide +kernel
theorem dX10_drops_40 : decode cX10_drops 40 = .ok (.if_icmp .ge 29, 3) := by decide +kernel
theorem dX10_drops_43 : decode cX10_drops 43 = .ok (.aload_n 0, 1) := by decide +kernel
theorem dX10_drops_44 : decode cX10_drops 44 = .ok (.getfield 7, 3) := by decide +kernel
theorem dX10_drops_47 : decode cX10_drops 47 = .ok (.bipush 29, 2) := by decide +kernel
theorem dX10_drops_49 : decode cX10_drops 49 = .ok (.iload_n 3, 1) := by decide +kernel
theorem dX10_drops_50 : decode cX10_drops 50 = .ok (.iadd, 1) := by decide +kernel
theorem dX10_drops_51 : decode cX10_drops 51 = .ok (.aload_n 0, 1) := by decide +kernel
theorem dX10_drops_52 : decode cX10_drops 52 = .ok (.getfield 7, 3) := by decide +kernel
theorem dX10_drops_55 : decode cX10_drops 55 = .ok (.bipush 29, 2) := by decide +kernel
theorem dX10_drops_57 : decode cX10_drops 57 = .ok (.iload_n 3, 1) := by decide +kernel
theorem dX10_drops_58 : decode cX10_drops 58 = .ok (.iadd, 1) := by decide +kernel
theorem dX10_drops_59 : decode cX10_drops 59 = .ok (.iconst 4, 1) := by decide +kernel
theorem dX10_drops_60 : decode cX10_drops 60 = .ok (.iadd, 1) := by decide +kernel
theorem dX10_drops_61 : decode cX10_drops 61 = .ok (.iaload, 1) := by decide +kernel
theorem dX10_drops_62 : decode cX10_drops 62 = .ok (.iastore, 1) := by decide +kernel
theorem dX10_drops_63 : decode cX10_drops 63 = .ok (.iinc 3 1, 3) := by decide +kernel
theorem dX10_drops_66 : decode cX10_drops 66 = .ok (.goto (-30), 3) := by decide +kernel
theorem dX10_drops_69 : decode cX10_drops 69 = .ok (.iconst 0, 1) := by decide +kernel
theorem dX10_drops_70 : decode cX10_drops 70 = .ok (.istore_n 3, 1) := by decide +kernel
theorem dX10_drops_71 : decode cX10_drops 71 = .ok (.iload_n 3, 1) := by decide +kernel
theorem dX10_drops_72 : decode cX10_drops 72 = .ok (.iconst 4, 1) := by decide +kernel
theorem dX10_drops_73 : decode cX10_drops 73 = .ok (.if_icmp .ge 23, 3) := by decide +kernel
theorem dX10_drops_76 : decode cX10_drops 76 = .ok (.aload_n 0, 1) := by decide +kernel
theorem dX10_drops_77 : decode cX10_drops 77 = .ok (.getfield 7, 3) := by decide +kernel
theorem dX10_drops_80 : decode cX10_drops 80 = .ok (.bipush 29, 2) := by decide +kernel
theorem dX10_drops_82 : decode cX10_drops 82 = .ok (.iconst 4, 1) := by decide +kernel
theorem dX10_drops_83 : decode cX10_drops 83 = .ok (.iload_n 2, 1) := by decide +kernel
theorem dX10_drops_84 : decode cX10_drops 84 = .ok (.imul, 1) := by decide +kernel
theorem dX10_drops_85 : decode cX10_drops 85 = .ok (.iadd, 1) := by decide +kernel
theorem dX10_drops_86 : decode cX10_drops 86 = .ok (.iload_n 3, 1) := by decide +kernel
theorem dX10_drops_87 : decode cX10_drops 87 = .ok (.iadd, 1) := by decide +kernel
theorem dX10_drops_88 : decode cX10_drops 88 = .ok (.iconst 0, 1) := by decide +kernel
theorem dX10_drops_89 : decode cX10_drops 89 = .ok (.iastore, 1) := by decide +kernel
theorem dX10_drops_90 : decode cX10_drops 90 = .ok (.iinc 3 1, 3) := by decide +kernel
theorem dX10_drops_93 : decode cX10_drops 93 = .ok (.goto (-22), 3) := by decide +kernel
theorem dX10_drops_96 : decode cX10_drops 96 = .ok (.aload_n 0, 1) := by decide +kernel
theorem dX10_drops_97 : decode cX10_drops 97 = .ok (.getfield 7, 3) := by decide +kernel
theorem dX10_drops_100 : decode cX10_drops 100 = .ok (.iconst 2, 1) := by decide +kernel
theorem dX10_drops_101 : decode cX10_drops 101 = .ok (.iload_n 2, 1) := by decide +kernel
theorem dX10_drops_102 : decode cX10_drops 102 = .ok (.iastore, 1) := by decide +kernel
theorem dX10_drops_103 : decode cX10_drops 103 = .ok (.aload_n 0, 1) := by decide +kernel
theorem dX10_drops_104 : decode cX10_drops 104 = .ok (.iload_n 2, 1) := by decide +kernel
theorem dX10_drops_105 : decode cX10_drops 105 = .ok (.invokevirtual 111, 3) := by decide +kernel
theorem dX10_drops_108 : decode cX10_drops 108 = .ok (.ireturn, 1) := by decide +kernel
theorem dX10_knot_0 : decode cX10_knot 0 = .ok (.aload_n 0, 1) := by decide +kernel
theorem dX10_knot_1 : decode cX10_knot 1 = .ok (.invokevirtual 136, 3) := by decide +kernel
theorem dX10_knot_4 : decode cX10_knot 4 = .ok (.aload_n 0, 1) := by decide +kernel
theorem dX10_knot_5 : decode cX10_knot 5 = .ok (.aload_n 0, 1) := by decide +kernel
theorem dX10_knot_6 : decode cX10_knot 6 = .ok (.iload_n 1, 1) := by decide +kernel
theorem dX10_knot_7 : decode cX10_knot 7 = .ok (.iload_n 2, 1) := by decide +kernel
theorem dX10_knot_8 : decode cX10_knot 8 = .ok (.iload_n 3, 1) := by decide +kernel
theorem dX10_knot_9 : decode cX10_knot 9 = .ok (.invokevirtual 139, 3) := by decide +kernel
theorem dX10_knot_12 : decode cX10_knot 12 = .ok (.invokevirtual 143, 3) := by decide +kernel
theorem dX10_knot_15 : decode cX10_knot 15 = .ok (.ireturn, 1) := by decide +kernel
theorem dX10_tear_0 : decode cX10_tear 0 = .ok (.aload_n 0, 1) := by decide +kernel
theorem dX10_tear_1 : decode cX10_tear 1 = .ok (.invokevirtual 136, 3) := by decide +kernel
theorem dX10_tear_4 : decode cX10_tear 4 = .ok (.aload_n 0, 1) := by decide +kernel
theorem dX10_tear_5 : decode cX10_tear 5 = .ok (.aload_n 0, 1) := by decide +kernel
theorem dX10_tear_6 : decode cX10_tear 6 = .ok (.iload_n 1, 1) := by decide +kernel
theorem dX10_tear_7 : decode cX10_tear 7 = .ok (.iload_n 2, 1) := by decide +kernel
theorem dX10_tear_8 : decode cX10_tear 8 = .ok (.iload_n 3, 1) := by decide +kernel
theorem dX10_tear_9 : decode cX10_tear 9 = .ok (.invokevirtual 146, 3) := by decide +kernel
theorem dX10_tear_12 : decode cX10_tear 12 = .ok (.invokevirtual 143, 3) := by decide +kernel
theorem dX10_tear_15 : decode cX10_tear 15 = .ok (.ireturn, 1) := by decide +kernel
theorem dX10_mend_0 : decode cX10_mend 0 = .ok (.aload_n 0, 1) := by decide +kernel
theorem dX10_mend_1 : decode cX10_mend 1 = .ok (.invokevirtual 136, 3) := by decide +kernel
theorem dX10_mend_4 : decode cX10_mend 4 = .ok (.aload_n 0, 1) := by decide +kernel
theorem dX10_mend_5 : decode cX10_mend 5 = .ok (.aload_n 0, 1) := by decide +kernel
theorem dX10_mend_6 : decode cX10_mend 6 = .ok (.iload_n 1, 1) := by decide +kernel
theorem dX10_mend_7 : decode cX10_mend 7 = .ok (.iload_n 2, 1) := by decide +kernel
theorem dX10_mend_8 : decode cX10_mend 8 = .ok (.iload_n 3, 1) := by decide +kernel
theorem dX10_mend_9 : decode cX10_mend 9 = .ok (.iload 4, 2) := by decide +kernel
theorem dX10_mend_11 : decode cX10_mend 11 = .ok (.invokevirtual 149, 3) := by decide +kernel
theorem dX10_mend_14 : decode cX10_mend 14 = .ok (.invokevirtual 143, 3) := by decide +kernel
theorem dX10_mend_17 : decode cX10_mend 17 = .ok (.ireturn, 1) := by decide +kernel
theorem dX10_editor_0 : decode cX10_editor 0 = .ok (.aload_n 0, 1) := by decide +kernel
theorem dX10_editor_1 : decode cX10_editor 1 = .ok (.invokevirtual 136, 3) := by decide +kernel
theorem dX10_editor_4 : decode cX10_editor 4 = .ok (.aload_n 0, 1) := by decide +kernel
theorem dX10_editor_5 : decode cX10_editor 5 = .ok (.aload_n 0, 1) := by decide +kernel
theorem dX10_editor_6 : decode cX10_editor 6 = .ok (.iload_n 1, 1) := by decide +kernel
theorem dX10_editor_7 : decode cX10_editor 7 = .ok (.invokevirtual 153, 3) := by decide +kernel
theorem dX10_editor_10 : decode cX10_editor 10 = .ok (.invokevirtual 143, 3) := by decide +kernel
theorem dX10_editor_13 : decode cX10_editor 13 = .ok (.ireturn, 1) := by decide +kernel
theorem dX10_tide_0 : decode cX10_tide 0 = .ok (.aload_n 0, 1) := by decide +kernel
theorem dX10_tide_1 : decode cX10_tide 1 = .ok (.invokevirtual 136, 3) := by decide +kernel
theorem dX10_tide_4 : decode cX10_tide 4 = .ok (.aload_n 0, 1) := by decide +kernel
theorem dX10_tide_5 : decode cX10_tide 5 = .ok (.aload_n 0, 1) := by decide +kernel
theorem dX10_tide_6 : decode cX10_tide 6 = .ok (.iload_n 1, 1) := by decide +kernel
theorem dX10_tide_7 : decode cX10_tide 7 = .ok (.invokevirtual 156, 3) := by decide +kernel
theorem dX10_tide_10 : decode cX10_tide 10 = .ok (.invokevirtual 143, 3) := by decide +kernel
theorem dX10_tide_13 : decode cX10_tide 13 = .ok (.ireturn, 1) := by decide +kernel
theorem dX10_sink_0 : decode cX10_sink 0 = .ok (.aload_n 0, 1) := by decide +kernel
theorem dX10_sink_1 : decode cX10_sink 1 = .ok (.invokevirtual 136, 3) := by decide +kernel
theorem dX10_sink_4 : decode cX10_sink 4 = .ok (.aload_n 0, 1) := by decide +kernel
theorem dX10_sink_5 : decode cX10_sink 5 = .ok (.aload_n 0, 1) := by decide +kernel
theorem dX10_sink_6 : decode cX10_sink 6 = .ok (.iload_n 1, 1) := by decide +kernel
theorem dX10_sink_7 : decode cX10_sink 7 = .ok (.iload_n 2, 1) := by decide +kernel
theorem dX10_sink_8 : decode cX10_sink 8 = .ok (.invokevirtual 159, 3) := by decide +kernel
theorem dX10_sink_11 : decode cX10_sink 11 = .ok (.invokevirtual 143, 3) := by decide +kernel
theorem dX10_sink_14 : decode cX10_sink 14 = .ok (.ireturn, 1) := by decide +kernel
theorem dX10_note_0 : decode cX10_note 0 = .ok (.aload_n 0, 1) := by decide +kernel
theorem dX10_note_1 : decode cX10_note 1 = .ok (.invokevirtual 136, 3) := by decide +kernel
theorem dX10_note_4 : decode cX10_note 4 = .ok (.aload_n 0, 1) := by decide +kernel
theorem dX10_note_5 : decode cX10_note 5 = .ok (.aload_n 0, 1) := by decide +kernel
theorem dX10_note_6 : decode cX10_note 6 = .ok (.iload_n 1, 1) := by decide +kernel
theorem dX10_note_7 : decode cX10_note 7 = .ok (.iload_n 2, 1) := by decide +kernel
theorem dX10_note_8 : decode cX10_note 8 = .ok (.invokevirtual 162, 3) := by decide +kernel
theorem dX10_note_11 : decode cX10_note 11 = .ok (.invokevirtual 143, 3) := by decide +kernel
theorem dX10_note_14 : decode cX10_note 14 = .ok (.ireturn, 1) := by decide +kernel
theorem dX10_drop_0 : decode cX10_drop 0 = .ok (.aload_n 0, 1) := by decide +kernel
theorem dX10_drop_1 : decode cX10_drop 1 = .ok (.invokevirtual 136, 3) := by decide +kernel
theorem dX10_drop_4 : decode cX10_drop 4 = .ok (.aload_n 0, 1) := by decide +kernel
theorem dX10_drop_5 : decode cX10_drop 5 = .ok (.aload_n 0, 1) := by decide +kernel
theorem dX10_drop_6 : decode cX10_drop 6 = .ok (.iload_n 1, 1) := by decide +kernel
theorem dX10_drop_7 : decode cX10_drop 7 = .ok (.invokevirtual 165, 3) := by decide +kernel
theorem dX10_drop_10 : decode cX10_drop 10 = .ok (.invokevirtual 143, 3) := by decide +kernel
theorem dX10_drop_13 : decode cX10_drop 13 = .ok (.ireturn, 1) := by decide +kernel
theorem dX10_kindOf_0 : decode cX10_kindOf 0 = .ok (.aload_n 0, 1) := by decide +kernel
theorem dX10_kindOf_1 : decode cX10_kindOf 1 = .ok (.iload_n 1, 1) := by decide +kernel
theorem dX10_kindOf_2 : decode cX10_kindOf 2 = .ok (.invokestatic 94, 3) := by decide +kernel
theorem dX10_kindOf_5 : decode cX10_kindOf 5 = .ok (.ifCond .eq 14, 3) := by decide +kernel
theorem dX10_kindOf_8 : decode cX10_kindOf 8 = .ok (.iload_n 2, 1) := by decide +kernel
theorem dX10_kindOf_9 : decode cX10_kindOf 9 = .ok (.invokestatic 101, 3) := by decide +kernel
theorem dX10_kindOf_12 : decode cX10_kindOf 12 = .ok (.ifCond .eq 7, 3) := by decide +kernel
theorem dX10_kindOf_15 : decode cX10_kindOf 15 = .ok (.iconst 0, 1) := by decide +kernel
theorem dX10_kindOf_16 : decode cX10_kindOf 16 = .ok (.goto 4, 3) := by decide +kernel
theorem dX10_kindOf_19 : decode cX10_kindOf 19 = .ok (.iconst 1, 1) := by decide +kernel
theorem dX10_kindOf_20 : decode cX10_kindOf 20 = .ok (.putfield 35, 3) := by decide +kernel
theorem dX10_kindOf_23 : decode cX10_kindOf 23 = .ok (.aload_n 0, 1) := by decide +kernel
theorem dX10_kindOf_24 : decode cX10_kindOf 24 = .ok (.getfield 35, 3) := by decide +kernel
theorem dX10_kindOf_27 : decode cX10_kindOf 27 = .ok (.ifCond .le 7, 3) := by decide +kernel
theorem dX10_kindOf_30 : decode cX10_kindOf 30 = .ok (.iconst 0, 1) := by decide +kernel
theorem dX10_kindOf_31 : decode cX10_kindOf 31 = .ok (.goto 9, 3) := by decide +kernel
theorem dX10_kindOf_34 : decode cX10_kindOf 34 = .ok (.aload_n 0, 1) := by decide +kernel
theorem dX10_kindOf_35 : decode cX10_kindOf 35 = .ok (.iload_n 1, 1) := by decide +kernel
theorem dX10_kindOf_36 : decode cX10_kindOf 36 = .ok (.iload_n 2, 1) := by decide +kernel
theorem dX10_kindOf_37 : decode cX10_kindOf 37 = .ok (.invokevirtual 104, 3) := by decide +kernel
theorem dX10_kindOf_40 : decode cX10_kindOf 40 = .ok (.ireturn, 1) := by decide +kernel
theorem dX10_isTorn_0 : decode cX10_isTorn 0 = .ok (.aload_n 0, 1) := by decide +kernel
theorem dX10_isTorn_1 : decode cX10_isTorn 1 = .ok (.iload_n 1, 1) := by decide +kernel
theorem dX10_isTorn_2 : decode cX10_isTorn 2 = .ok (.invokestatic 94, 3) := by decide +kernel
theorem dX10_isTorn_5 : decode cX10_isTorn 5 = .ok (.ifCond .eq 17, 3) := by decide +kernel
theorem dX10_isTorn_8 : decode cX10_isTorn 8 = .ok (.iload_n 2, 1) := by decide +kernel
theorem dX10_isTorn_9 : decode cX10_isTorn 9 = .ok (.invokestatic 101, 3) := by decide +kernel
theorem dX10_isTorn_12 : decode cX10_isTorn 12 = .ok (.ifCond .eq 10, 3) := by decide +kernel
theorem dX10_isTorn_15 : decode cX10_isTorn 15 = .ok (.iload_n 3, 1) := by decide +kernel
theorem dX10_isTorn_16 : decode cX10_isTorn 16 = .ok (.invokestatic 101, 3) := by decide +kernel
theorem dX10_isTorn_19 : decode cX10_isTorn 19 = .ok (.ifCond .ne 7, 3) := by decide +kernel
theorem dX10_isTorn_22 : decode cX10_isTorn 22 = .ok (.iconst 1, 1) := by decide +kernel
theorem dX10_isTorn_23 : decode cX10_isTorn 23 = .ok (.goto 17, 3) := by decide +kernel
theorem dX10_isTorn_26 : decode cX10_isTorn 26 = .ok (.iload_n 2, 1) := by decide +kernel
theorem dX10_isTorn_27 : decode cX10_isTorn 27 = .ok (.iload_n 3, 1) := by decide +kernel
theorem dX10_isTorn_28 : decode cX10_isTorn 28 = .ok (.invokestatic 114, 3) := by decide +kernel
theorem dX10_isTorn_31 : decode cX10_isTorn 31 = .ok (.iconst (-1), 1) := by decide +kernel
theorem dX10_isTorn_32 : decode cX10_isTorn 32 = .ok (.if_icmp .ne 7, 3) := by decide +kernel
theorem dX10_isTorn_35 : decode cX10_isTorn 35 = .ok (.iconst 2, 1) := by decide +kernel
theorem dX10_isTorn_36 : decode cX10_isTorn 36 = .ok (.goto 4, 3) := by decide +kernel
theorem dX10_isTorn_39 : decode cX10_isTorn 39 = .ok (.iconst 0, 1) := by decide +kernel
theorem dX10_isTorn_40 : decode cX10_isTorn 40 = .ok (.putfield 35, 3) := by decide +kernel
theorem dX10_isTorn_43 : decode cX10_isTorn 43 = .ok (.aload_n 0, 1) := by decide +kernel
theorem dX10_isTorn_44 : decode cX10_isTorn 44 = .ok (.getfield 35, 3) := by decide +kernel
theorem dX10_isTorn_47 : decode cX10_isTorn 47 = .ok (.ifCond .ne 34, 3) := by decide +kernel
theorem dX10_isTorn_50 : decode cX10_isTorn 50 = .ok (.aload_n 0, 1) := by decide +kernel
theorem dX10_isTorn_51 : decode cX10_isTorn 51 = .ok (.iload_n 1, 1) := by decide +kernel
theorem dX10_isTorn_52 : decode cX10_isTorn 52 = .ok (.iload_n 2, 1) := by decide +kernel
theorem dX10_isTorn_53 : decode cX10_isTorn 53 = .ok (.iload_n 3, 1) := by decide +kernel
theorem dX10_isTorn_54 : decode cX10_isTorn 54 = .ok (.invokestatic 114, 3) := by decide +kernel
theorem dX10_isTorn_57 : decode cX10_isTorn 57 = .ok (.invokevirtual 67, 3) := by decide +kernel
theorem dX10_isTorn_60 : decode cX10_isTorn 60 = .ok (.iload_n 2, 1) := by decide +kernel
theorem dX10_isTorn_61 : decode cX10_isTorn 61 = .ok (.iload_n 3, 1) := by decide +kernel
theorem dX10_isTorn_62 : decode cX10_isTorn 62 = .ok (.if_icmp .ge 7, 3) := by decide +kernel
theorem dX10_isTorn_65 : decode cX10_isTorn 65 = .ok (.iload_n 2, 1) := by decide +kernel
theorem dX10_isTorn_66 : decode cX10_isTorn 66 = .ok (.goto 4, 3) := by decide +kernel
theorem dX10_isTorn_69 : decode cX10_isTorn 69 = .ok (.iload_n 3, 1) := by decide +kernel
theorem dX10_isTorn_70 : decode cX10_isTorn 70 = .ok (.ishr, 1) := by decide +kernel
theorem dX10_isTorn_71 : decode cX10_isTorn 71 = .ok (.iconst 1, 1) := by decide +kernel
theorem dX10_isTorn_72 : decode cX10_isTorn 72 = .ok (.iand, 1) := by decide +kernel
theorem dX10_isTorn_73 : decode cX10_isTorn 73 = .ok (.iconst 1, 1) := by decide +kernel
theorem dX10_isTorn_74 : decode cX10_isTorn 74 = .ok (.if_icmp .ne 7, 3) := by decide +kernel
theorem dX10_isTorn_77 : decode cX10_isTorn 77 = .ok (.iconst 1, 1) := by decide +kernel
theorem dX10_isTorn_78 : decode cX10_isTorn 78 = .ok (.goto 4, 3) := by decide +kernel
theorem dX10_isTorn_81 : decode cX10_isTorn 81 = .ok (.iconst 0, 1) := by decide +kernel
theorem dX10_isTorn_82 : decode cX10_isTorn 82 = .ok (.ireturn, 1) := by decide +kernel
theorem dX10_greatest_0 : decode cX10_greatest 0 = .ok (.aload_n 0, 1) := by decide +kernel
theorem dX10_greatest_1 : decode cX10_greatest 1 = .ok (.iload_n 1, 1) := by decide +kernel
theorem dX10_greatest_2 : decode cX10_greatest 2 = .ok (.invokevirtual 117, 3) := by decide +kernel
theorem dX10_greatest_5 : decode cX10_greatest 5 = .ok (.aload_n 0, 1) := by decide +kernel
theorem dX10_greatest_6 : decode cX10_greatest 6 = .ok (.getfield 71, 3) := by decide +kernel
theorem dX10_greatest_9 : decode cX10_greatest 9 = .ok (.istore_n 2, 1) := by decide +kernel
theorem dX10_greatest_10 : decode cX10_greatest 10 = .ok (.iconst 0, 1) := by decide +kernel
theorem dX10_greatest_11 : decode cX10_greatest 11 = .ok (.istore_n 3, 1) := by decide +kernel
theorem dX10_greatest_12 : decode cX10_greatest 12 = .ok (.iload_n 2, 1) := by decide +kernel
theorem dX10_greatest_13 : decode cX10_greatest 13 = .ok (.ifCond .eq 46, 3) := by decide +kernel
theorem dX10_greatest_16 : decode cX10_greatest 16 = .ok (.aload_n 0, 1) := by decide +kernel
theorem dX10_greatest_17 : decode cX10_greatest 17 = .ok (.iload_n 2, 1) := by decide +kernel
theorem dX10_greatest_18 : decode cX10_greatest 18 = .ok (.invokestatic 85, 3) := by decide +kernel
theorem dX10_greatest_21 : decode cX10_greatest 21 = .ok (.aload_n 0, 1) := by decide +kernel
theorem dX10_greatest_22 : decode cX10_greatest 22 = .ok (.getfield 71, 3) := by decide +kernel
theorem dX10_greatest_25 : decode cX10_greatest 25 = .ok (.invokevirtual 88, 3) := by decide +kernel
theorem dX10_greatest_28 : decode cX10_greatest 28 = .ok (.istore 4, 2) := by decide +kernel
theorem dX10_greatest_30 : decode cX10_greatest 30 = .ok (.iload 4, 2) := by decide +kernel
theorem dX10_greatest_32 : decode cX10_greatest 32 = .ok (.invokestatic 127, 3) := by decide +kernel
theorem dX10_greatest_35 : decode cX10_greatest 35 = .ok (.iload_n 3, 1) := by decide +kernel
theorem dX10_greatest_36 : decode cX10_greatest 36 = .ok (.if_icmp .le 11, 3) := by decide +kernel
theorem dX10_greatest_39 : decode cX10_greatest 39 = .ok (.iload 4, 2) := by decide +kernel
theorem dX10_greatest_41 : decode cX10_greatest 41 = .ok (.invokestatic 127, 3) := by decide +kernel
theorem dX10_greatest_44 : decode cX10_greatest 44 = .ok (.goto 4, 3) := by decide +kernel
theorem dX10_greatest_47 : decode cX10_greatest 47 = .ok (.iload_n 3, 1) := by decide +kernel
theorem dX10_greatest_48 : decode cX10_greatest 48 = .ok (.istore_n 3, 1) := by decide +kernel
theorem dX10_greatest_49 : decode cX10_greatest 49 = .ok (.iload_n 2, 1) := by decide +kernel
theorem dX10_greatest_50 : decode cX10_greatest 50 = .ok (.iload 4, 2) := by decide +kernel
theorem dX10_greatest_52 : decode cX10_greatest 52 = .ok (.iconst (-1), 1) := by decide +kernel
theorem dX10_greatest_53 : decode cX10_greatest 53 = .ok (.ixor, 1) := by decide +kernel
theorem dX10_greatest_54 : decode cX10_greatest 54 = .ok (.iand, 1) := by decide +kernel
theorem dX10_greatest_55 : decode cX10_greatest 55 = .ok (.istore_n 2, 1) := by decide +kernel
theorem dX10_greatest_56 : decode cX10_greatest 56 = .ok (.goto (-44), 3) := by decide +kernel
theorem dX10_greatest_59 : decode cX10_greatest 59 = .ok (.iload_n 3, 1) := by decide +kernel
theorem dX10_greatest_60 : decode cX10_greatest 60 = .ok (.ireturn, 1) := by decide +kernel
theorem dX10_tornIn_0 : decode cX10_tornIn 0 = .ok (.aload_n 0, 1) := by decide +kernel
theorem dX10_tornIn_1 : decode cX10_tornIn 1 = .ok (.iload_n 1, 1) := by decide +kernel
theorem dX10_tornIn_2 : decode cX10_tornIn 2 = .ok (.iconst 2, 1) := by decide +kernel
theorem dX10_tornIn_3 : decode cX10_tornIn 3 = .ok (.invokevirtual 67, 3) := by decide +kernel
theorem dX10_tornIn_6 : decode cX10_tornIn 6 = .ok (.invokestatic 127, 3) := by decide +kernel
theorem dX10_tornIn_9 : decode cX10_tornIn 9 = .ok (.aload_n 0, 1) := by decide +kernel
theorem dX10_tornIn_10 : decode cX10_tornIn 10 = .ok (.iload_n 1, 1) := by decide +kernel
theorem dX10_tornIn_11 : decode cX10_tornIn 11 = .ok (.iconst 3, 1) := by decide +kernel
theorem dX10_tornIn_12 : decode cX10_tornIn 12 = .ok (.invokevirtual 67, 3) := by decide +kernel
theorem dX10_tornIn_15 : decode cX10_tornIn 15 = .ok (.invokestatic 127, 3) := by decide +kernel
theorem dX10_tornIn_18 : decode cX10_tornIn 18 = .ok (.iadd, 1) := by decide +kernel
theorem dX10_tornIn_19 : decode cX10_tornIn 19 = .ok (.ireturn, 1) := by decide +kernel
theorem dX10_netOf_0 : decode cX10_netOf 0 = .ok (.aload_n 0, 1) := by decide +kernel
theorem dX10_netOf_1 : decode cX10_netOf 1 = .ok (.iload_n 1, 1) := by decide +kernel
theorem dX10_netOf_2 : decode cX10_netOf 2 = .ok (.invokestatic 94, 3) := by decide +kernel
theorem dX10_netOf_5 : decode cX10_netOf 5 = .ok (.ifCond .eq 7, 3) := by decide +kernel
theorem dX10_netOf_8 : decode cX10_netOf 8 = .ok (.iconst 0, 1) := by decide +kernel
theorem dX10_netOf_9 : decode cX10_netOf 9 = .ok (.goto 4, 3) := by decide +kernel
theorem dX10_netOf_12 : decode cX10_netOf 12 = .ok (.iconst 1, 1) := by decide +kernel
theorem dX10_netOf_13 : decode cX10_netOf 13 = .ok (.putfield 35, 3) := by decide +kernel
theorem dX10_netOf_16 : decode cX10_netOf 16 = .ok (.aload_n 0, 1) := by decide +kernel
theorem dX10_netOf_17 : decode cX10_netOf 17 = .ok (.getfield 35, 3) := by decide +kernel
theorem dX10_netOf_20 : decode cX10_netOf 20 = .ok (.ifCond .le 5, 3) := by decide +kernel
theorem dX10_netOf_23 : decode cX10_netOf 23 = .ok (.iconst 0, 1) := by decide +kernel
theorem dX10_netOf_24 : decode cX10_netOf 24 = .ok (.ireturn, 1) := by decide +kernel
theorem dX10_netOf_25 : decode cX10_netOf 25 = .ok (.iload_n 2, 1) := by decide +kernel
theorem dX10_netOf_26 : decode cX10_netOf 26 = .ok (.tableswitch 112 0 6 #[42, 59, 65, 71, 78, 84, 90], 42) := by decide +kernel
theorem dX10_netOf_68 : decode cX10_netOf 68 = .ok (.aload_n 0, 1) := by decide +kernel
theorem dX10_netOf_69 : decode cX10_netOf 69 = .ok (.iload_n 1, 1) := by decide +kernel
theorem dX10_netOf_70 : decode cX10_netOf 70 = .ok (.iconst 0, 1) := by decide +kernel
theorem dX10_netOf_71 : decode cX10_netOf 71 = .ok (.invokevirtual 67, 3) := by decide +kernel
theorem dX10_netOf_74 : decode cX10_netOf 74 = .ok (.aload_n 0, 1) := by decide +kernel
theorem dX10_netOf_75 : decode cX10_netOf 75 = .ok (.iload_n 1, 1) := by decide +kernel
theorem dX10_netOf_76 : decode cX10_netOf 76 = .ok (.iconst 1, 1) := by decide +kernel
theorem dX10_netOf_77 : decode cX10_netOf 77 = .ok (.invokevirtual 67, 3) := by decide +kernel
theorem dX10_netOf_80 : decode cX10_netOf 80 = .ok (.ior, 1) := by decide +kernel
theorem dX10_netOf_81 : decode cX10_netOf 81 = .ok (.invokestatic 127, 3) := by decide +kernel
theorem dX10_netOf_84 : decode cX10_netOf 84 = .ok (.ireturn, 1) := by decide +kernel
theorem dX10_netOf_85 : decode cX10_netOf 85 = .ok (.aload_n 0, 1) := by decide +kernel
theorem dX10_netOf_86 : decode cX10_netOf 86 = .ok (.iload_n 1, 1) := by decide +kernel
theorem dX10_netOf_87 : decode cX10_netOf 87 = .ok (.invokevirtual 130, 3) := by decide +kernel
theorem dX10_netOf_90 : decode cX10_netOf 90 = .ok (.ireturn, 1) := by decide +kernel
theorem dX10_netOf_91 : decode cX10_netOf 91 = .ok (.aload_n 0, 1) := by decide +kernel
theorem dX10_netOf_92 : decode cX10_netOf 92 = .ok (.iload_n 1, 1) := by decide +kernel
theorem dX10_netOf_93 : decode cX10_netOf 93 = .ok (.invokevirtual 168, 3) := by decide +kernel
theorem dX10_netOf_96 : decode cX10_netOf 96 = .ok (.ireturn, 1) := by decide +kernel
theorem dX10_netOf_97 : decode cX10_netOf 97 = .ok (.aload_n 0, 1) := by decide +kernel
theorem dX10_netOf_98 : decode cX10_netOf 98 = .ok (.iload_n 1, 1) := by decide +kernel
theorem dX10_netOf_99 : decode cX10_netOf 99 = .ok (.iconst 4, 1) := by decide +kernel
theorem dX10_netOf_100 : decode cX10_netOf 100 = .ok (.invokevirtual 67, 3) := by decide +kernel
theorem dX10_netOf_103 : decode cX10_netOf 103 = .ok (.ireturn, 1) := by decide +kernel
theorem dX10_netOf_104 : decode cX10_netOf 104 = .ok (.aload_n 0, 1) := by decide +kernel
theorem dX10_netOf_105 : decode cX10_netOf 105 = .ok (.iload_n 1, 1) := by decide +kernel
theorem dX10_netOf_106 : decode cX10_netOf 106 = .ok (.invokevirtual 91, 3) := by decide +kernel
theorem dX10_netOf_109 : decode cX10_netOf 109 = .ok (.ireturn, 1) := by decide +kernel
theorem dX10_netOf_110 : decode cX10_netOf 110 = .ok (.aload_n 0, 1) := by decide +kernel
theorem dX10_netOf_111 : decode cX10_netOf 111 = .ok (.iload_n 1, 1) := by decide +kernel
theorem dX10_netOf_112 : decode cX10_netOf 112 = .ok (.invokevirtual 171, 3) := by decide +kernel
theorem dX10_netOf_115 : decode cX10_netOf 115 = .ok (.ireturn, 1) := by decide +kernel
theorem dX10_netOf_116 : decode cX10_netOf 116 = .ok (.aload_n 0, 1) := by decide +kernel
theorem dX10_netOf_117 : decode cX10_netOf 117 = .ok (.iload_n 1, 1) := by decide +kernel
theorem dX10_netOf_118 : decode cX10_netOf 118 = .ok (.iconst 2, 1) := by decide +kernel
theorem dX10_netOf_119 : decode cX10_netOf 119 = .ok (.invokevirtual 67, 3) := by decide +kernel
theorem dX10_netOf_122 : decode cX10_netOf 122 = .ok (.invokestatic 127, 3) := by decide +kernel
theorem dX10_netOf_125 : decode cX10_netOf 125 = .ok (.iconst 2, 1) := by decide +kernel
theorem dX10_netOf_126 : decode cX10_netOf 126 = .ok (.aload_n 0, 1) := by decide +kernel
theorem dX10_netOf_127 : decode cX10_netOf 127 = .ok (.iload_n 1, 1) := by decide +kernel
theorem dX10_netOf_128 : decode cX10_netOf 128 = .ok (.iconst 3, 1) := by decide +kernel
theorem dX10_netOf_129 : decode cX10_netOf 129 = .ok (.invokevirtual 67, 3) := by decide +kernel
theorem dX10_netOf_132 : decode cX10_netOf 132 = .ok (.invokestatic 127, 3) := by decide +kernel
theorem dX10_netOf_135 : decode cX10_netOf 135 = .ok (.imul, 1) := by decide +kernel
theorem dX10_netOf_136 : decode cX10_netOf 136 = .ok (.iadd, 1) := by decide +kernel
theorem dX10_netOf_137 : decode cX10_netOf 137 = .ok (.ireturn, 1) := by decide +kernel
theorem dX10_netOf_138 : decode cX10_netOf 138 = .ok (.aload_n 0, 1) := by decide +kernel
theorem dX10_netOf_139 : decode cX10_netOf 139 = .ok (.iconst 2, 1) := by decide +kernel
theorem dX10_netOf_140 : decode cX10_netOf 140 = .ok (.invokevirtual 60, 3) := by decide +kernel
theorem dX10_netOf_143 : decode cX10_netOf 143 = .ok (.ireturn, 1) := by decide +kernel
theorem dX10_chaptersOf_0 : decode cX10_chaptersOf 0 = .ok (.aload_n 0, 1) := by decide +kernel
theorem dX10_chaptersOf_1 : decode cX10_chaptersOf 1 = .ok (.iload_n 1, 1) := by decide +kernel
theorem dX10_chaptersOf_2 : decode cX10_chaptersOf 2 = .ok (.invokevirtual 117, 3) := by decide +kernel
theorem dX10_chaptersOf_5 : decode cX10_chaptersOf 5 = .ok (.aload_n 0, 1) := by decide +kernel
theorem dX10_chaptersOf_6 : decode cX10_chaptersOf 6 = .ok (.aload_n 0, 1) := by decide +kernel
theorem dX10_chaptersOf_7 : decode cX10_chaptersOf 7 = .ok (.getfield 71, 3) := by decide +kernel
theorem dX10_chaptersOf_10 : decode cX10_chaptersOf 10 = .ok (.invokevirtual 121, 3) := by decide +kernel
theorem dX10_chaptersOf_13 : decode cX10_chaptersOf 13 = .ok (.ireturn, 1) := by decide +kernel
theorem dX10_chapters_0 : decode cX10_chapters 0 = .ok (.aload_n 0, 1) := by decide +kernel
theorem dX10_chapters_1 : decode cX10_chapters 1 = .ok (.iload_n 1, 1) := by decide +kernel
theorem dX10_chapters_2 : decode cX10_chapters 2 = .ok (.invokestatic 94, 3) := by decide +kernel
theorem dX10_chapters_5 : decode cX10_chapters 5 = .ok (.ifCond .eq 7, 3) := by decide +kernel
theorem dX10_chapters_8 : decode cX10_chapters 8 = .ok (.iconst 0, 1) := by decide +kernel
theorem dX10_chapters_9 : decode cX10_chapters 9 = .ok (.goto 4, 3) := by decide +kernel
theorem dX10_chapters_12 : decode cX10_chapters 12 = .ok (.iconst 1, 1) := by decide +kernel
theorem dX10_chapters_13 : decode cX10_chapters 13 = .ok (.putfield 35, 3) := by decide +kernel
theorem dX10_chapters_16 : decode cX10_chapters 16 = .ok (.aload_n 0, 1) := by decide +kernel
theorem dX10_chapters_17 : decode cX10_chapters 17 = .ok (.getfield 35, 3) := by decide +kernel
theorem dX10_chapters_20 : decode cX10_chapters 20 = .ok (.ifCond .le 7, 3) := by decide +kernel
theorem dX10_chapters_23 : decode cX10_chapters 23 = .ok (.iconst 0, 1) := by decide +kernel
theorem dX10_chapters_24 : decode cX10_chapters 24 = .ok (.goto 8, 3) := by decide +kernel
theorem dX10_chapters_27 : decode cX10_chapters 27 = .ok (.aload_n 0, 1) := by decide +kernel
theorem dX10_chapters_28 : decode cX10_chapters 28 = .ok (.iload_n 1, 1) := by decide +kernel
theorem dX10_chapters_29 : decode cX10_chapters 29 = .ok (.invokevirtual 174, 3) := by decide +kernel
theorem dX10_chapters_32 : decode cX10_chapters 32 = .ok (.ireturn, 1) := by decide +kernel
theorem dX10_chaptersAgain_0 : decode cX10_chaptersAgain 0 = .ok (.aload_n 0, 1) := by decide +kernel
theorem dX10_chaptersAgain_1 : decode cX10_chaptersAgain 1 = .ok (.iload_n 1, 1) := by decide +kernel
theorem dX10_chaptersAgain_2 : decode cX10_chaptersAgain 2 = .ok (.invokevirtual 177, 3) := by decide +kernel
theorem dX10_chaptersAgain_5 : decode cX10_chaptersAgain 5 = .ok (.ireturn, 1) := by decide +kernel
theorem dX10_chapterOf_0 : decode cX10_chapterOf 0 = .ok (.aload_n 0, 1) := by decide +kernel
theorem dX10_chapterOf_1 : decode cX10_chapterOf 1 = .ok (.iload_n 1, 1) := by decide +kernel
theorem dX10_chapterOf_2 : decode cX10_chapterOf 2 = .ok (.invokestatic 94, 3) := by decide +kernel
theorem dX10_chapterOf_5 : decode cX10_chapterOf 5 = .ok (.ifCond .eq 10, 3) := by decide +kernel
theorem dX10_chapterOf_8 : decode cX10_chapterOf 8 = .ok (.iload_n 2, 1) := by decide +kernel
theorem dX10_chapterOf_9 : decode cX10_chapterOf 9 = .ok (.invokestatic 101, 3) := by decide +kernel
theorem dX10_chapterOf_12 : decode cX10_chapterOf 12 = .ok (.ifCond .ne 7, 3) := by decide +kernel
theorem dX10_chapterOf_15 : decode cX10_chapterOf 15 = .ok (.iconst 1, 1) := by decide +kernel
theorem dX10_chapterOf_16 : decode cX10_chapterOf 16 = .ok (.goto 30, 3) := by decide +kernel
theorem dX10_chapterOf_19 : decode cX10_chapterOf 19 = .ok (.iload_n 3, 1) := by decide +kernel
theorem dX10_chapterOf_20 : decode cX10_chapterOf 20 = .ok (.iconst 0, 1) := by decide +kernel
theorem dX10_chapterOf_21 : decode cX10_chapterOf 21 = .ok (.iconst 3, 1) := by decide +kernel
theorem dX10_chapterOf_22 : decode cX10_chapterOf 22 = .ok (.invokestatic 63, 3) := by decide +kernel
theorem dX10_chapterOf_25 : decode cX10_chapterOf 25 = .ok (.ifCond .ne 7, 3) := by decide +kernel
theorem dX10_chapterOf_28 : decode cX10_chapterOf 28 = .ok (.iconst 2, 1) := by decide +kernel
theorem dX10_chapterOf_29 : decode cX10_chapterOf 29 = .ok (.goto 17, 3) := by decide +kernel
theorem dX10_chapterOf_32 : decode cX10_chapterOf 32 = .ok (.aload_n 0, 1) := by decide +kernel
theorem dX10_chapterOf_33 : decode cX10_chapterOf 33 = .ok (.iload_n 1, 1) := by decide +kernel
theorem dX10_chapterOf_34 : decode cX10_chapterOf 34 = .ok (.iload_n 2, 1) := by decide +kernel
theorem dX10_chapterOf_35 : decode cX10_chapterOf 35 = .ok (.invokevirtual 104, 3) := by decide +kernel
theorem dX10_chapterOf_38 : decode cX10_chapterOf 38 = .ok (.ifCond .ne 7, 3) := by decide +kernel
theorem dX10_chapterOf_41 : decode cX10_chapterOf 41 = .ok (.iconst 3, 1) := by decide +kernel
theorem dX10_chapterOf_42 : decode cX10_chapterOf 42 = .ok (.goto 4, 3) := by decide +kernel
theorem dX10_chapterOf_45 : decode cX10_chapterOf 45 = .ok (.iconst 0, 1) := by decide +kernel
theorem dX10_chapterOf_46 : decode cX10_chapterOf 46 = .ok (.putfield 35, 3) := by decide +kernel
theorem dX10_chapterOf_49 : decode cX10_chapterOf 49 = .ok (.aload_n 0, 1) := by decide +kernel
theorem dX10_chapterOf_50 : decode cX10_chapterOf 50 = .ok (.getfield 35, 3) := by decide +kernel
theorem dX10_chapterOf_53 : decode cX10_chapterOf 53 = .ok (.ifCond .le 5, 3) := by decide +kernel
theorem dX10_chapterOf_56 : decode cX10_chapterOf 56 = .ok (.iconst 0, 1) := by decide +kernel
theorem dX10_chapterOf_57 : decode cX10_chapterOf 57 = .ok (.ireturn, 1) := by decide +kernel
theorem dX10_chapterOf_58 : decode cX10_chapterOf 58 = .ok (.aload_n 0, 1) := by decide +kernel
theorem dX10_chapterOf_59 : decode cX10_chapterOf 59 = .ok (.iload_n 1, 1) := by decide +kernel
theorem dX10_chapterOf_60 : decode cX10_chapterOf 60 = .ok (.invokevirtual 117, 3) := by decide +kernel
theorem dX10_chapterOf_63 : decode cX10_chapterOf 63 = .ok (.aload_n 0, 1) := by decide +kernel
theorem dX10_chapterOf_64 : decode cX10_chapterOf 64 = .ok (.iload_n 2, 1) := by decide +kernel
theorem dX10_chapterOf_65 : decode cX10_chapterOf 65 = .ok (.aload_n 0, 1) := by decide +kernel
theorem dX10_chapterOf_66 : decode cX10_chapterOf 66 = .ok (.getfield 71, 3) := by decide +kernel
theorem dX10_chapterOf_69 : decode cX10_chapterOf 69 = .ok (.invokevirtual 88, 3) := by decide +kernel
theorem dX10_chapterOf_72 : decode cX10_chapterOf 72 = .ok (.istore 4, 2) := by decide +kernel
theorem dX10_chapterOf_74 : decode cX10_chapterOf 74 = .ok (.iload_n 3, 1) := by decide +kernel
theorem dX10_chapterOf_75 : decode cX10_chapterOf 75 = .ok (.tableswitch 49 0 2 #[25, 31, 37], 25) := by decide +kernel
theorem dX10_chapterOf_100 : decode cX10_chapterOf 100 = .ok (.iload 4, 2) := by decide +kernel
theorem dX10_chapterOf_102 : decode cX10_chapterOf 102 = .ok (.invokestatic 85, 3) := by decide +kernel
theorem dX10_chapterOf_105 : decode cX10_chapterOf 105 = .ok (.ireturn, 1) := by decide +kernel
theorem dX10_chapterOf_106 : decode cX10_chapterOf 106 = .ok (.iload 4, 2) := by decide +kernel
theorem dX10_chapterOf_108 : decode cX10_chapterOf 108 = .ok (.invokestatic 127, 3) := by decide +kernel
theorem dX10_chapterOf_111 : decode cX10_chapterOf 111 = .ok (.ireturn, 1) := by decide +kernel
theorem dX10_chapterOf_112 : decode cX10_chapterOf 112 = .ok (.iload 4, 2) := by decide +kernel
theorem dX10_chapterOf_114 : decode cX10_chapterOf 114 = .ok (.aload_n 0, 1) := by decide +kernel
theorem dX10_chapterOf_115 : decode cX10_chapterOf 115 = .ok (.iload_n 1, 1) := by decide +kernel
theorem dX10_chapterOf_116 : decode cX10_chapterOf 116 = .ok (.invokevirtual 124, 3) := by decide +kernel
theorem dX10_chapterOf_119 : decode cX10_chapterOf 119 = .ok (.iand, 1) := by decide +kernel
theorem dX10_chapterOf_120 : decode cX10_chapterOf 120 = .ok (.invokestatic 127, 3) := by decide +kernel
theorem dX10_chapterOf_123 : decode cX10_chapterOf 123 = .ok (.ireturn, 1) := by decide +kernel
theorem dX10_chapterOf_124 : decode cX10_chapterOf 124 = .ok (.iload 4, 2) := by decide +kernel
theorem dX10_chapterOf_126 : decode cX10_chapterOf 126 = .ok (.iload 4, 2) := by decide +kernel
theorem dX10_chapterOf_128 : decode cX10_chapterOf 128 = .ok (.iconst 1, 1) := by decide +kernel
theorem dX10_chapterOf_129 : decode cX10_chapterOf 129 = .ok (.ishr, 1) := by decide +kernel
theorem dX10_chapterOf_130 : decode cX10_chapterOf 130 = .ok (.iand, 1) := by decide +kernel
theorem dX10_chapterOf_131 : decode cX10_chapterOf 131 = .ok (.aload_n 0, 1) := by decide +kernel
theorem dX10_chapterOf_132 : decode cX10_chapterOf 132 = .ok (.getfield 75, 3) := by decide +kernel
theorem dX10_chapterOf_135 : decode cX10_chapterOf 135 = .ok (.iand, 1) := by decide +kernel
theorem dX10_chapterOf_136 : decode cX10_chapterOf 136 = .ok (.invokestatic 127, 3) := by decide +kernel
theorem dX10_chapterOf_139 : decode cX10_chapterOf 139 = .ok (.iload 4, 2) := by decide +kernel
theorem dX10_chapterOf_141 : decode cX10_chapterOf 141 = .ok (.iload 4, 2) := by decide +kernel
theorem dX10_chapterOf_143 : decode cX10_chapterOf 143 = .ok (.bipush 6, 2) := by decide +kernel
theorem dX10_chapterOf_145 : decode cX10_chapterOf 145 = .ok (.ishr, 1) := by decide +kernel
theorem dX10_chapterOf_146 : decode cX10_chapterOf 146 = .ok (.iand, 1) := by decide +kernel
theorem dX10_chapterOf_147 : decode cX10_chapterOf 147 = .ok (.aload_n 0, 1) := by decide +kernel
theorem dX10_chapterOf_148 : decode cX10_chapterOf 148 = .ok (.getfield 79, 3) := by decide +kernel
theorem dX10_chapterOf_151 : decode cX10_chapterOf 151 = .ok (.iand, 1) := by decide +kernel
theorem dX10_chapterOf_152 : decode cX10_chapterOf 152 = .ok (.invokestatic 127, 3) := by decide +kernel
theorem dX10_chapterOf_155 : decode cX10_chapterOf 155 = .ok (.iadd, 1) := by decide +kernel
theorem dX10_chapterOf_156 : decode cX10_chapterOf 156 = .ok (.ireturn, 1) := by decide +kernel
theorem dX10_isNote_0 : decode cX10_isNote 0 = .ok (.iload_n 1, 1) := by decide +kernel
theorem dX10_isNote_1 : decode cX10_isNote 1 = .ok (.iconst 0, 1) := by decide +kernel
theorem dX10_isNote_2 : decode cX10_isNote 2 = .ok (.aload_n 0, 1) := by decide +kernel
theorem dX10_isNote_3 : decode cX10_isNote 3 = .ok (.getfield 7, 3) := by decide +kernel
theorem dX10_isNote_6 : decode cX10_isNote 6 = .ok (.iconst 2, 1) := by decide +kernel
theorem dX10_isNote_7 : decode cX10_isNote 7 = .ok (.iaload, 1) := by decide +kernel
theorem dX10_isNote_8 : decode cX10_isNote 8 = .ok (.iconst 1, 1) := by decide +kernel
theorem dX10_isNote_9 : decode cX10_isNote 9 = .ok (.isub, 1) := by decide +kernel
theorem dX10_isNote_10 : decode cX10_isNote 10 = .ok (.invokestatic 63, 3) := by decide +kernel
theorem dX10_isNote_13 : decode cX10_isNote 13 = .ok (.ireturn, 1) := by decide +kernel
theorem dX10_hasKinds_0 : decode cX10_hasKinds 0 = .ok (.aload_n 0, 1) := by decide +kernel
theorem dX10_hasKinds_1 : decode cX10_hasKinds 1 = .ok (.iload_n 1, 1) := by decide +kernel
theorem dX10_hasKinds_2 : decode cX10_hasKinds 2 = .ok (.iconst 0, 1) := by decide +kernel
theorem dX10_hasKinds_3 : decode cX10_hasKinds 3 = .ok (.invokevirtual 133, 3) := by decide +kernel
theorem dX10_hasKinds_6 : decode cX10_hasKinds 6 = .ok (.istore_n 2, 1) := by decide +kernel
theorem dX10_hasKinds_7 : decode cX10_hasKinds 7 = .ok (.aload_n 0, 1) := by decide +kernel
theorem dX10_hasKinds_8 : decode cX10_hasKinds 8 = .ok (.iload_n 1, 1) := by decide +kernel
theorem dX10_hasKinds_9 : decode cX10_hasKinds 9 = .ok (.iconst 1, 1) := by decide +kernel
theorem dX10_hasKinds_10 : decode cX10_hasKinds 10 = .ok (.invokevirtual 133, 3) := by decide +kernel
theorem dX10_hasKinds_13 : decode cX10_hasKinds 13 = .ok (.istore_n 3, 1) := by decide +kernel
theorem dX10_hasKinds_14 : decode cX10_hasKinds 14 = .ok (.aload_n 0, 1) := by decide +kernel
theorem dX10_hasKinds_15 : decode cX10_hasKinds 15 = .ok (.iload_n 2, 1) := by decide +kernel
theorem dX10_hasKinds_16 : decode cX10_hasKinds 16 = .ok (.iconst 0, 1) := by decide +kernel
theorem dX10_hasKinds_17 : decode cX10_hasKinds 17 = .ok (.invokevirtual 67, 3) := by decide +kernel
theorem dX10_hasKinds_20 : decode cX10_hasKinds 20 = .ok (.iload_n 3, 1) := by decide +kernel
theorem dX10_hasKinds_21 : decode cX10_hasKinds 21 = .ok (.iand, 1) := by decide +kernel
theorem dX10_hasKinds_22 : decode cX10_hasKinds 22 = .ok (.aload_n 0, 1) := by decide +kernel
theorem dX10_hasKinds_23 : decode cX10_hasKinds 23 = .ok (.iload_n 1, 1) := by decide +kernel
theorem dX10_hasKinds_24 : decode cX10_hasKinds 24 = .ok (.iconst 2, 1) := by decide +kernel
theorem dX10_hasKinds_25 : decode cX10_hasKinds 25 = .ok (.invokevirtual 133, 3) := by decide +kernel
theorem dX10_hasKinds_28 : decode cX10_hasKinds 28 = .ok (.if_icmp .ne 24, 3) := by decide +kernel
theorem dX10_hasKinds_31 : decode cX10_hasKinds 31 = .ok (.aload_n 0, 1) := by decide +kernel
theorem dX10_hasKinds_32 : decode cX10_hasKinds 32 = .ok (.iload_n 2, 1) := by decide +kernel
theorem dX10_hasKinds_33 : decode cX10_hasKinds 33 = .ok (.iconst 1, 1) := by decide +kernel
theorem dX10_hasKinds_34 : decode cX10_hasKinds 34 = .ok (.invokevirtual 67, 3) := by decide +kernel
theorem dX10_hasKinds_37 : decode cX10_hasKinds 37 = .ok (.iload_n 3, 1) := by decide +kernel
theorem dX10_hasKinds_38 : decode cX10_hasKinds 38 = .ok (.iand, 1) := by decide +kernel
theorem dX10_hasKinds_39 : decode cX10_hasKinds 39 = .ok (.aload_n 0, 1) := by decide +kernel
theorem dX10_hasKinds_40 : decode cX10_hasKinds 40 = .ok (.iload_n 1, 1) := by decide +kernel
theorem dX10_hasKinds_41 : decode cX10_hasKinds 41 = .ok (.iconst 3, 1) := by decide +kernel
theorem dX10_hasKinds_42 : decode cX10_hasKinds 42 = .ok (.invokevirtual 133, 3) := by decide +kernel
theorem dX10_hasKinds_45 : decode cX10_hasKinds 45 = .ok (.if_icmp .ne 7, 3) := by decide +kernel
theorem dX10_hasKinds_48 : decode cX10_hasKinds 48 = .ok (.iconst 1, 1) := by decide +kernel
theorem dX10_hasKinds_49 : decode cX10_hasKinds 49 = .ok (.goto 4, 3) := by decide +kernel
theorem dX10_hasKinds_52 : decode cX10_hasKinds 52 = .ok (.iconst 0, 1) := by decide +kernel
theorem dX10_hasKinds_53 : decode cX10_hasKinds 53 = .ok (.ireturn, 1) := by decide +kernel
theorem dX10_readsSo_0 : decode cX10_readsSo 0 = .ok (.aload_n 0, 1) := by decide +kernel
theorem dX10_readsSo_1 : decode cX10_readsSo 1 = .ok (.iload_n 1, 1) := by decide +kernel
theorem dX10_readsSo_2 : decode cX10_readsSo 2 = .ok (.invokevirtual 180, 3) := by decide +kernel
theorem dX10_readsSo_5 : decode cX10_readsSo 5 = .ok (.ifCond .ne 5, 3) := by decide +kernel
theorem dX10_readsSo_8 : decode cX10_readsSo 8 = .ok (.iconst 0, 1) := by decide +kernel
theorem dX10_readsSo_9 : decode cX10_readsSo 9 = .ok (.ireturn, 1) := by decide +kernel
theorem dX10_readsSo_10 : decode cX10_readsSo 10 = .ok (.aload_n 0, 1) := by decide +kernel
theorem dX10_readsSo_11 : decode cX10_readsSo 11 = .ok (.aload_n 0, 1) := by decide +kernel
theorem dX10_readsSo_12 : decode cX10_readsSo 12 = .ok (.iload_n 1, 1) := by decide +kernel
theorem dX10_readsSo_13 : decode cX10_readsSo 13 = .ok (.iconst 0, 1) := by decide +kernel
theorem dX10_readsSo_14 : decode cX10_readsSo 14 = .ok (.invokevirtual 133, 3) := by decide +kernel
theorem dX10_readsSo_17 : decode cX10_readsSo 17 = .ok (.invokevirtual 117, 3) := by decide +kernel
theorem dX10_readsSo_20 : decode cX10_readsSo 20 = .ok (.aload_n 0, 1) := by decide +kernel
theorem dX10_readsSo_21 : decode cX10_readsSo 21 = .ok (.aload_n 0, 1) := by decide +kernel
theorem dX10_readsSo_22 : decode cX10_readsSo 22 = .ok (.iload_n 1, 1) := by decide +kernel
theorem dX10_readsSo_23 : decode cX10_readsSo 23 = .ok (.iconst 1, 1) := by decide +kernel
theorem dX10_readsSo_24 : decode cX10_readsSo 24 = .ok (.invokevirtual 133, 3) := by decide +kernel
theorem dX10_readsSo_27 : decode cX10_readsSo 27 = .ok (.invokestatic 85, 3) := by decide +kernel
theorem dX10_readsSo_30 : decode cX10_readsSo 30 = .ok (.aload_n 0, 1) := by decide +kernel
theorem dX10_readsSo_31 : decode cX10_readsSo 31 = .ok (.getfield 71, 3) := by decide +kernel
theorem dX10_readsSo_34 : decode cX10_readsSo 34 = .ok (.invokevirtual 88, 3) := by decide +kernel
theorem dX10_readsSo_37 : decode cX10_readsSo 37 = .ok (.aload_n 0, 1) := by decide +kernel
theorem dX10_readsSo_38 : decode cX10_readsSo 38 = .ok (.iload_n 1, 1) := by decide +kernel
theorem dX10_readsSo_39 : decode cX10_readsSo 39 = .ok (.iconst 1, 1) := by decide +kernel
theorem dX10_readsSo_40 : decode cX10_readsSo 40 = .ok (.invokevirtual 133, 3) := by decide +kernel
theorem dX10_readsSo_43 : decode cX10_readsSo 43 = .ok (.if_icmp .ne 7, 3) := by decide +kernel
theorem dX10_readsSo_46 : decode cX10_readsSo 46 = .ok (.iconst 1, 1) := by decide +kernel
theorem dX10_readsSo_47 : decode cX10_readsSo 47 = .ok (.goto 4, 3) := by decide +kernel
theorem dX10_readsSo_50 : decode cX10_readsSo 50 = .ok (.iconst 0, 1) := by decide +kernel
theorem dX10_readsSo_51 : decode cX10_readsSo 51 = .ok (.ireturn, 1) := by decide +kernel
theorem dX10_noteOf_0 : decode cX10_noteOf 0 = .ok (.aload_n 0, 1) := by decide +kernel
theorem dX10_noteOf_1 : decode cX10_noteOf 1 = .ok (.aload_n 0, 1) := by decide +kernel
theorem dX10_noteOf_2 : decode cX10_noteOf 2 = .ok (.iload_n 1, 1) := by decide +kernel
theorem dX10_noteOf_3 : decode cX10_noteOf 3 = .ok (.invokevirtual 183, 3) := by decide +kernel
theorem dX10_noteOf_6 : decode cX10_noteOf 6 = .ok (.ifCond .eq 7, 3) := by decide +kernel
theorem dX10_noteOf_9 : decode cX10_noteOf 9 = .ok (.iconst 0, 1) := by decide +kernel
theorem dX10_noteOf_10 : decode cX10_noteOf 10 = .ok (.goto 4, 3) := by decide +kernel
theorem dX10_noteOf_13 : decode cX10_noteOf 13 = .ok (.iconst 1, 1) := by decide +kernel
theorem dX10_noteOf_14 : decode cX10_noteOf 14 = .ok (.putfield 35, 3) := by decide +kernel
theorem dX10_noteOf_17 : decode cX10_noteOf 17 = .ok (.aload_n 0, 1) := by decide +kernel
theorem dX10_noteOf_18 : decode cX10_noteOf 18 = .ok (.getfield 35, 3) := by decide +kernel
theorem dX10_noteOf_21 : decode cX10_noteOf 21 = .ok (.ifCond .le 5, 3) := by decide +kernel
theorem dX10_noteOf_24 : decode cX10_noteOf 24 = .ok (.iconst 0, 1) := by decide +kernel
theorem dX10_noteOf_25 : decode cX10_noteOf 25 = .ok (.ireturn, 1) := by decide +kernel
theorem dX10_noteOf_26 : decode cX10_noteOf 26 = .ok (.iload_n 2, 1) := by decide +kernel
theorem dX10_noteOf_27 : decode cX10_noteOf 27 = .ok (.tableswitch 70 0 3 #[29, 36, 46, 56], 29) := by decide +kernel
theorem dX10_noteOf_56 : decode cX10_noteOf 56 = .ok (.aload_n 0, 1) := by decide +kernel
theorem dX10_noteOf_57 : decode cX10_noteOf 57 = .ok (.iload_n 1, 1) := by decide +kernel
theorem dX10_noteOf_58 : decode cX10_noteOf 58 = .ok (.iconst 0, 1) := by decide +kernel
theorem dX10_noteOf_59 : decode cX10_noteOf 59 = .ok (.invokevirtual 133, 3) := by decide +kernel
theorem dX10_noteOf_62 : decode cX10_noteOf 62 = .ok (.ireturn, 1) := by decide +kernel
theorem dX10_noteOf_63 : decode cX10_noteOf 63 = .ok (.aload_n 0, 1) := by decide +kernel
theorem dX10_noteOf_64 : decode cX10_noteOf 64 = .ok (.iload_n 1, 1) := by decide +kernel
theorem dX10_noteOf_65 : decode cX10_noteOf 65 = .ok (.iconst 1, 1) := by decide +kernel
theorem dX10_noteOf_66 : decode cX10_noteOf 66 = .ok (.invokevirtual 133, 3) := by decide +kernel
theorem dX10_noteOf_69 : decode cX10_noteOf 69 = .ok (.invokestatic 85, 3) := by decide +kernel
theorem dX10_noteOf_72 : decode cX10_noteOf 72 = .ok (.ireturn, 1) := by decide +kernel
theorem dX10_noteOf_73 : decode cX10_noteOf 73 = .ok (.aload_n 0, 1) := by decide +kernel
theorem dX10_noteOf_74 : decode cX10_noteOf 74 = .ok (.iload_n 1, 1) := by decide +kernel
theorem dX10_noteOf_75 : decode cX10_noteOf 75 = .ok (.iconst 1, 1) := by decide +kernel
theorem dX10_noteOf_76 : decode cX10_noteOf 76 = .ok (.invokevirtual 133, 3) := by decide +kernel
theorem dX10_noteOf_79 : decode cX10_noteOf 79 = .ok (.invokestatic 127, 3) := by decide +kernel
theorem dX10_noteOf_82 : decode cX10_noteOf 82 = .ok (.ireturn, 1) := by decide +kernel
theorem dX10_noteOf_83 : decode cX10_noteOf 83 = .ok (.aload_n 0, 1) := by decide +kernel
theorem dX10_noteOf_84 : decode cX10_noteOf 84 = .ok (.iload_n 1, 1) := by decide +kernel
theorem dX10_noteOf_85 : decode cX10_noteOf 85 = .ok (.invokevirtual 186, 3) := by decide +kernel
theorem dX10_noteOf_88 : decode cX10_noteOf 88 = .ok (.ifCond .eq 7, 3) := by decide +kernel
theorem dX10_noteOf_91 : decode cX10_noteOf 91 = .ok (.iconst 1, 1) := by decide +kernel
theorem dX10_noteOf_92 : decode cX10_noteOf 92 = .ok (.goto 4, 3) := by decide +kernel
theorem dX10_noteOf_95 : decode cX10_noteOf 95 = .ok (.iconst 0, 1) := by decide +kernel
theorem dX10_noteOf_96 : decode cX10_noteOf 96 = .ok (.ireturn, 1) := by decide +kernel
theorem dX10_noteOf_97 : decode cX10_noteOf 97 = .ok (.aload_n 0, 1) := by decide +kernel
theorem dX10_noteOf_98 : decode cX10_noteOf 98 = .ok (.iconst 2, 1) := by decide +kernel
theorem dX10_noteOf_99 : decode cX10_noteOf 99 = .ok (.invokevirtual 60, 3) := by decide +kernel
theorem dX10_noteOf_102 : decode cX10_noteOf 102 = .ok (.ireturn, 1) := by decide +kernel
theorem dX10_little_0 : decode cX10_little 0 = .ok (.aload_n 0, 1) := by decide +kernel
theorem dX10_little_1 : decode cX10_little 1 = .ok (.iload_n 1, 1) := by decide +kernel
theorem dX10_little_2 : decode cX10_little 2 = .ok (.invokevirtual 180, 3) := by decide +kernel
theorem dX10_little_5 : decode cX10_little 5 = .ok (.ifCond .ne 5, 3) := by decide +kernel
theorem dX10_little_8 : decode cX10_little 8 = .ok (.iconst (-1), 1) := by decide +kernel
theorem dX10_little_9 : decode cX10_little 9 = .ok (.ireturn, 1) := by decide +kernel
