theorem dX0_init_0 : decode cX0_init 0 = .ok (.aload_n 0, 1) := by decide +kernel
theorem dX0_init_1 : decode cX0_init 1 = .ok (.invokespecial 1, 3) := by decide +kernel
theorem dX0_init_4 : decode cX0_init 4 = .ok (.aload_n 0, 1) := by decide +kernel
theorem dX0_init_5 : decode cX0_init 5 = .ok (.iconst 0, 1) := by decide +kernel
theorem dX0_init_6 : decode cX0_init 6 = .ok (.putfield 7, 3) := by decide +kernel
theorem dX0_init_9 : decode cX0_init 9 = .ok (.aload_n 0, 1) := by decide +kernel
theorem dX0_init_10 : decode cX0_init 10 = .ok (.iconst 0, 1) := by decide +kernel
theorem dX0_init_11 : decode cX0_init 11 = .ok (.putfield 13, 3) := by decide +kernel
theorem dX0_init_14 : decode cX0_init 14 = .ok (.return_, 1) := by decide +kernel
theorem dX0_copyFrom_0 : decode cX0_copyFrom 0 = .ok (.aload_n 0, 1) := by decide +kernel
theorem dX0_copyFrom_1 : decode cX0_copyFrom 1 = .ok (.aload_n 1, 1) := by decide +kernel
theorem dX0_copyFrom_2 : decode cX0_copyFrom 2 = .ok (.getfield 7, 3) := by decide +kernel
theorem dX0_copyFrom_5 : decode cX0_copyFrom 5 = .ok (.putfield 7, 3) := by decide +kernel
theorem dX0_copyFrom_8 : decode cX0_copyFrom 8 = .ok (.aload_n 0, 1) := by decide +kernel
theorem dX0_copyFrom_9 : decode cX0_copyFrom 9 = .ok (.aload_n 1, 1) := by decide +kernel
theorem dX0_copyFrom_10 : decode cX0_copyFrom 10 = .ok (.getfield 13, 3) := by decide +kernel
theorem dX0_copyFrom_13 : decode cX0_copyFrom 13 = .ok (.putfield 13, 3) := by decide +kernel
theorem dX0_copyFrom_16 : decode cX0_copyFrom 16 = .ok (.return_, 1) := by decide +kernel
theorem dX1_init_0 : decode cX1_init 0 = .ok (.aload_n 0, 1) := by decide +kernel
theorem dX1_init_1 : decode cX1_init 1 = .ok (.invokespecial 3, 3) := by decide +kernel
theorem dX1_init_4 : decode cX1_init 4 = .ok (.aload_n 0, 1) := by decide +kernel
theorem dX1_init_5 : decode cX1_init 5 = .ok (.bipush 8, 2) := by decide +kernel
theorem dX1_init_7 : decode cX1_init 7 = .ok (.anewarray 9, 3) := by decide +kernel
theorem dX1_init_10 : decode cX1_init 10 = .ok (.putfield 11, 3) := by decide +kernel
theorem dX1_init_13 : decode cX1_init 13 = .ok (.aload_n 0, 1) := by decide +kernel
theorem dX1_init_14 : decode cX1_init 14 = .ok (.iconst 0, 1) := by decide +kernel
theorem dX1_init_15 : decode cX1_init 15 = .ok (.putfield 17, 3) := by decide +kernel
theorem dX1_init_18 : decode cX1_init 18 = .ok (.aload_n 0, 1) := by decide +kernel
theorem dX1_init_19 : decode cX1_init 19 = .ok (.iconst 0, 1) := by decide +kernel
theorem dX1_init_20 : decode cX1_init 20 = .ok (.putfield 21, 3) := by decide +kernel
theorem dX1_init_23 : decode cX1_init 23 = .ok (.iconst 0, 1) := by decide +kernel
theorem dX1_init_24 : decode cX1_init 24 = .ok (.istore_n 1, 1) := by decide +kernel
theorem dX1_init_25 : decode cX1_init 25 = .ok (.iload_n 1, 1) := by decide +kernel
theorem dX1_init_26 : decode cX1_init 26 = .ok (.bipush 8, 2) := by decide +kernel
theorem dX1_init_28 : decode cX1_init 28 = .ok (.if_icmp .ge 22, 3) := by decide +kernel
theorem dX1_init_31 : decode cX1_init 31 = .ok (.aload_n 0, 1) := by decide +kernel
theorem dX1_init_32 : decode cX1_init 32 = .ok (.getfield 11, 3) := by decide +kernel
theorem dX1_init_35 : decode cX1_init 35 = .ok (.iload_n 1, 1) := by decide +kernel
theorem dX1_init_36 : decode cX1_init 36 = .ok (.new 9, 3) := by decide +kernel
theorem dX1_init_39 : decode cX1_init 39 = .ok (.dup, 1) := by decide +kernel
theorem dX1_init_40 : decode cX1_init 40 = .ok (.invokespecial 24, 3) := by decide +kernel
theorem dX1_init_43 : decode cX1_init 43 = .ok (.aastore, 1) := by decide +kernel
theorem dX1_init_44 : decode cX1_init 44 = .ok (.iinc 1 1, 3) := by decide +kernel
theorem dX1_init_47 : decode cX1_init 47 = .ok (.goto (-22), 3) := by decide +kernel
theorem dX1_init_50 : decode cX1_init 50 = .ok (.return_, 1) := by decide +kernel
theorem dX1_push_0 : decode cX1_push 0 = .ok (.aload_n 0, 1) := by decide +kernel
theorem dX1_push_1 : decode cX1_push 1 = .ok (.getfield 11, 3) := by decide +kernel
theorem dX1_push_4 : decode cX1_push 4 = .ok (.aload_n 0, 1) := by decide +kernel
theorem dX1_push_5 : decode cX1_push 5 = .ok (.getfield 17, 3) := by decide +kernel
theorem dX1_push_8 : decode cX1_push 8 = .ok (.aload_n 0, 1) := by decide +kernel
theorem dX1_push_9 : decode cX1_push 9 = .ok (.getfield 21, 3) := by decide +kernel
theorem dX1_push_12 : decode cX1_push 12 = .ok (.iadd, 1) := by decide +kernel
theorem dX1_push_13 : decode cX1_push 13 = .ok (.bipush 8, 2) := by decide +kernel
theorem dX1_push_15 : decode cX1_push 15 = .ok (.invokestatic 25, 3) := by decide +kernel
theorem dX1_push_18 : decode cX1_push 18 = .ok (.aaload, 1) := by decide +kernel
theorem dX1_push_19 : decode cX1_push 19 = .ok (.aload_n 1, 1) := by decide +kernel
theorem dX1_push_20 : decode cX1_push 20 = .ok (.invokevirtual 31, 3) := by decide +kernel
theorem dX1_push_23 : decode cX1_push 23 = .ok (.aload_n 0, 1) := by decide +kernel
theorem dX1_push_24 : decode cX1_push 24 = .ok (.getfield 21, 3) := by decide +kernel
theorem dX1_push_27 : decode cX1_push 27 = .ok (.bipush 8, 2) := by decide +kernel
theorem dX1_push_29 : decode cX1_push 29 = .ok (.if_icmp .ge 16, 3) := by decide +kernel
theorem dX1_push_32 : decode cX1_push 32 = .ok (.aload_n 0, 1) := by decide +kernel
theorem dX1_push_33 : decode cX1_push 33 = .ok (.dup, 1) := by decide +kernel
theorem dX1_push_34 : decode cX1_push 34 = .ok (.getfield 21, 3) := by decide +kernel
theorem dX1_push_37 : decode cX1_push 37 = .ok (.iconst 1, 1) := by decide +kernel
theorem dX1_push_38 : decode cX1_push 38 = .ok (.iadd, 1) := by decide +kernel
theorem dX1_push_39 : decode cX1_push 39 = .ok (.putfield 21, 3) := by decide +kernel
theorem dX1_push_42 : decode cX1_push 42 = .ok (.goto 18, 3) := by decide +kernel
theorem dX1_push_45 : decode cX1_push 45 = .ok (.aload_n 0, 1) := by decide +kernel
theorem dX1_push_46 : decode cX1_push 46 = .ok (.aload_n 0, 1) := by decide +kernel
theorem dX1_push_47 : decode cX1_push 47 = .ok (.getfield 17, 3) := by decide +kernel
theorem dX1_push_50 : decode cX1_push 50 = .ok (.iconst 1, 1) := by decide +kernel
theorem dX1_push_51 : decode cX1_push 51 = .ok (.iadd, 1) := by decide +kernel
theorem dX1_push_52 : decode cX1_push 52 = .ok (.bipush 8, 2) := by decide +kernel
theorem dX1_push_54 : decode cX1_push 54 = .ok (.invokestatic 25, 3) := by decide +kernel
theorem dX1_push_57 : decode cX1_push 57 = .ok (.putfield 17, 3) := by decide +kernel
theorem dX1_push_60 : decode cX1_push 60 = .ok (.return_, 1) := by decide +kernel
theorem dX1_popInto_0 : decode cX1_popInto 0 = .ok (.aload_n 0, 1) := by decide +kernel
theorem dX1_popInto_1 : decode cX1_popInto 1 = .ok (.getfield 21, 3) := by decide +kernel
theorem dX1_popInto_4 : decode cX1_popInto 4 = .ok (.ifCond .le 36, 3) := by decide +kernel
theorem dX1_popInto_7 : decode cX1_popInto 7 = .ok (.aload_n 0, 1) := by decide +kernel
theorem dX1_popInto_8 : decode cX1_popInto 8 = .ok (.dup, 1) := by decide +kernel
theorem dX1_popInto_9 : decode cX1_popInto 9 = .ok (.getfield 21, 3) := by decide +kernel
theorem dX1_popInto_12 : decode cX1_popInto 12 = .ok (.iconst 1, 1) := by decide +kernel
theorem dX1_popInto_13 : decode cX1_popInto 13 = .ok (.isub, 1) := by decide +kernel
theorem dX1_popInto_14 : decode cX1_popInto 14 = .ok (.putfield 21, 3) := by decide +kernel
theorem dX1_popInto_17 : decode cX1_popInto 17 = .ok (.aload_n 1, 1) := by decide +kernel
theorem dX1_popInto_18 : decode cX1_popInto 18 = .ok (.aload_n 0, 1) := by decide +kernel
theorem dX1_popInto_19 : decode cX1_popInto 19 = .ok (.getfield 11, 3) := by decide +kernel
theorem dX1_popInto_22 : decode cX1_popInto 22 = .ok (.aload_n 0, 1) := by decide +kernel
theorem dX1_popInto_23 : decode cX1_popInto 23 = .ok (.getfield 17, 3) := by decide +kernel
theorem dX1_popInto_26 : decode cX1_popInto 26 = .ok (.aload_n 0, 1) := by decide +kernel
theorem dX1_popInto_27 : decode cX1_popInto 27 = .ok (.getfield 21, 3) := by decide +kernel
theorem dX1_popInto_30 : decode cX1_popInto 30 = .ok (.iadd, 1) := by decide +kernel
theorem dX1_popInto_31 : decode cX1_popInto 31 = .ok (.bipush 8, 2) := by decide +kernel
theorem dX1_popInto_33 : decode cX1_popInto 33 = .ok (.invokestatic 25, 3) := by decide +kernel
theorem dX1_popInto_36 : decode cX1_popInto 36 = .ok (.aaload, 1) := by decide +kernel
theorem dX1_popInto_37 : decode cX1_popInto 37 = .ok (.invokevirtual 31, 3) := by decide +kernel
theorem dX1_popInto_40 : decode cX1_popInto 40 = .ok (.return_, 1) := by decide +kernel
theorem dX1_clear_0 : decode cX1_clear 0 = .ok (.aload_n 0, 1) := by decide +kernel
theorem dX1_clear_1 : decode cX1_clear 1 = .ok (.iconst 0, 1) := by decide +kernel
theorem dX1_clear_2 : decode cX1_clear 2 = .ok (.putfield 21, 3) := by decide +kernel
theorem dX1_clear_5 : decode cX1_clear 5 = .ok (.return_, 1) := by decide +kernel
theorem dX2_init_0 : decode cX2_init 0 = .ok (.aload_n 0, 1) := by decide +kernel
theorem dX2_init_1 : decode cX2_init 1 = .ok (.invokespecial 3, 3) := by decide +kernel
theorem dX2_init_4 : decode cX2_init 4 = .ok (.aload_n 0, 1) := by decide +kernel
theorem dX2_init_5 : decode cX2_init 5 = .ok (.bipush 25, 2) := by decide +kernel
theorem dX2_init_7 : decode cX2_init 7 = .ok (.newarray .char, 2) := by decide +kernel
theorem dX2_init_9 : decode cX2_init 9 = .ok (.putfield 9, 3) := by decide +kernel
theorem dX2_init_12 : decode cX2_init 12 = .ok (.aload_n 0, 1) := by decide +kernel
theorem dX2_init_13 : decode cX2_init 13 = .ok (.iconst 0, 1) := by decide +kernel
theorem dX2_init_14 : decode cX2_init 14 = .ok (.putfield 15, 3) := by decide +kernel
theorem dX2_init_17 : decode cX2_init 17 = .ok (.return_, 1) := by decide +kernel
theorem dX2_clear_0 : decode cX2_clear 0 = .ok (.aload_n 0, 1) := by decide +kernel
theorem dX2_clear_1 : decode cX2_clear 1 = .ok (.iconst 0, 1) := by decide +kernel
theorem dX2_clear_2 : decode cX2_clear 2 = .ok (.putfield 15, 3) := by decide +kernel
theorem dX2_clear_5 : decode cX2_clear 5 = .ok (.return_, 1) := by decide +kernel
theorem dX2_append_0 : decode cX2_append 0 = .ok (.aload_n 0, 1) := by decide +kernel
theorem dX2_append_1 : decode cX2_append 1 = .ok (.getfield 15, 3) := by decide +kernel
theorem dX2_append_4 : decode cX2_append 4 = .ok (.ifCond .lt 32, 3) := by decide +kernel
theorem dX2_append_7 : decode cX2_append 7 = .ok (.aload_n 0, 1) := by decide +kernel
theorem dX2_append_8 : decode cX2_append 8 = .ok (.getfield 15, 3) := by decide +kernel
theorem dX2_append_11 : decode cX2_append 11 = .ok (.bipush 25, 2) := by decide +kernel
theorem dX2_append_13 : decode cX2_append 13 = .ok (.if_icmp .ge 23, 3) := by decide +kernel
theorem dX2_append_16 : decode cX2_append 16 = .ok (.aload_n 0, 1) := by decide +kernel
theorem dX2_append_17 : decode cX2_append 17 = .ok (.getfield 9, 3) := by decide +kernel
theorem dX2_append_20 : decode cX2_append 20 = .ok (.aload_n 0, 1) := by decide +kernel
theorem dX2_append_21 : decode cX2_append 21 = .ok (.getfield 15, 3) := by decide +kernel
theorem dX2_append_24 : decode cX2_append 24 = .ok (.iload_n 1, 1) := by decide +kernel
theorem dX2_append_25 : decode cX2_append 25 = .ok (.castore, 1) := by decide +kernel
theorem dX2_append_26 : decode cX2_append 26 = .ok (.aload_n 0, 1) := by decide +kernel
theorem dX2_append_27 : decode cX2_append 27 = .ok (.dup, 1) := by decide +kernel
theorem dX2_append_28 : decode cX2_append 28 = .ok (.getfield 15, 3) := by decide +kernel
theorem dX2_append_31 : decode cX2_append 31 = .ok (.iconst 1, 1) := by decide +kernel
theorem dX2_append_32 : decode cX2_append 32 = .ok (.iadd, 1) := by decide +kernel
theorem dX2_append_33 : decode cX2_append 33 = .ok (.putfield 15, 3) := by decide +kernel
theorem dX2_append_36 : decode cX2_append 36 = .ok (.return_, 1) := by decide +kernel
theorem dX2_appendKnots_0 : decode cX2_appendKnots 0 = .ok (.iconst 0, 1) := by decide +kernel
theorem dX2_appendKnots_1 : decode cX2_appendKnots 1 = .ok (.istore_n 3, 1) := by decide +kernel
theorem dX2_appendKnots_2 : decode cX2_appendKnots 2 = .ok (.iload_n 3, 1) := by decide +kernel
theorem dX2_appendKnots_3 : decode cX2_appendKnots 3 = .ok (.bipush 24, 2) := by decide +kernel
theorem dX2_appendKnots_5 : decode cX2_appendKnots 5 = .ok (.if_icmp .ge 52, 3) := by decide +kernel
theorem dX2_appendKnots_8 : decode cX2_appendKnots 8 = .ok (.iload_n 1, 1) := by decide +kernel
theorem dX2_appendKnots_9 : decode cX2_appendKnots 9 = .ok (.iload_n 3, 1) := by decide +kernel
theorem dX2_appendKnots_10 : decode cX2_appendKnots 10 = .ok (.invokestatic 19, 3) := by decide +kernel
theorem dX2_appendKnots_13 : decode cX2_appendKnots 13 = .ok (.ifCond .eq 7, 3) := by decide +kernel
theorem dX2_appendKnots_16 : decode cX2_appendKnots 16 = .ok (.iconst 1, 1) := by decide +kernel
theorem dX2_appendKnots_17 : decode cX2_appendKnots 17 = .ok (.goto 4, 3) := by decide +kernel
theorem dX2_appendKnots_20 : decode cX2_appendKnots 20 = .ok (.iconst 0, 1) := by decide +kernel
theorem dX2_appendKnots_21 : decode cX2_appendKnots 21 = .ok (.iload_n 2, 1) := by decide +kernel
theorem dX2_appendKnots_22 : decode cX2_appendKnots 22 = .ok (.iload_n 3, 1) := by decide +kernel
theorem dX2_appendKnots_23 : decode cX2_appendKnots 23 = .ok (.invokestatic 19, 3) := by decide +kernel
theorem dX2_appendKnots_26 : decode cX2_appendKnots 26 = .ok (.ifCond .eq 7, 3) := by decide +kernel
theorem dX2_appendKnots_29 : decode cX2_appendKnots 29 = .ok (.iconst 2, 1) := by decide +kernel
theorem dX2_appendKnots_30 : decode cX2_appendKnots 30 = .ok (.goto 4, 3) := by decide +kernel
theorem dX2_appendKnots_33 : decode cX2_appendKnots 33 = .ok (.iconst 0, 1) := by decide +kernel
theorem dX2_appendKnots_34 : decode cX2_appendKnots 34 = .ok (.iadd, 1) := by decide +kernel
theorem dX2_appendKnots_35 : decode cX2_appendKnots 35 = .ok (.istore 4, 2) := by decide +kernel
theorem dX2_appendKnots_37 : decode cX2_appendKnots 37 = .ok (.iload 4, 2) := by decide +kernel
theorem dX2_appendKnots_39 : decode cX2_appendKnots 39 = .ok (.ifCond .eq 12, 3) := by decide +kernel
theorem dX2_appendKnots_42 : decode cX2_appendKnots 42 = .ok (.aload_n 0, 1) := by decide +kernel
theorem dX2_appendKnots_43 : decode cX2_appendKnots 43 = .ok (.iload 4, 2) := by decide +kernel
theorem dX2_appendKnots_45 : decode cX2_appendKnots 45 = .ok (.invokestatic 23, 3) := by decide +kernel
theorem dX2_appendKnots_48 : decode cX2_appendKnots 48 = .ok (.invokevirtual 27, 3) := by decide +kernel
theorem dX2_appendKnots_51 : decode cX2_appendKnots 51 = .ok (.iinc 3 1, 3) := by decide +kernel
theorem dX2_appendKnots_54 : decode cX2_appendKnots 54 = .ok (.goto (-52), 3) := by decide +kernel
theorem dX2_appendKnots_57 : decode cX2_appendKnots 57 = .ok (.return_, 1) := by decide +kernel
theorem dX3_init_0 : decode cX3_init 0 = .ok (.aload_n 0, 1) := by decide +kernel
theorem dX3_init_1 : decode cX3_init 1 = .ok (.invokespecial 3, 3) := by decide +kernel
theorem dX3_init_4 : decode cX3_init 4 = .ok (.aload_n 0, 1) := by decide +kernel
theorem dX3_init_5 : decode cX3_init 5 = .ok (.iconst 0, 1) := by decide +kernel
theorem dX3_init_6 : decode cX3_init 6 = .ok (.putfield 9, 3) := by decide +kernel
theorem dX3_init_9 : decode cX3_init 9 = .ok (.aload_n 0, 1) := by decide +kernel
theorem dX3_init_10 : decode cX3_init 10 = .ok (.iconst 0, 1) := by decide +kernel
theorem dX3_init_11 : decode cX3_init 11 = .ok (.putfield 15, 3) := by decide +kernel
theorem dX3_init_14 : decode cX3_init 14 = .ok (.aload_n 0, 1) := by decide +kernel
theorem dX3_init_15 : decode cX3_init 15 = .ok (.iconst 0, 1) := by decide +kernel
theorem dX3_init_16 : decode cX3_init 16 = .ok (.putfield 18, 3) := by decide +kernel
theorem dX3_init_19 : decode cX3_init 19 = .ok (.aload_n 0, 1) := by decide +kernel
theorem dX3_init_20 : decode cX3_init 20 = .ok (.iconst 0, 1) := by decide +kernel
theorem dX3_init_21 : decode cX3_init 21 = .ok (.putfield 21, 3) := by decide +kernel
theorem dX3_init_24 : decode cX3_init 24 = .ok (.aload_n 0, 1) := by decide +kernel
theorem dX3_init_25 : decode cX3_init 25 = .ok (.iconst 0, 1) := by decide +kernel
theorem dX3_init_26 : decode cX3_init 26 = .ok (.putfield 24, 3) := by decide +kernel
theorem dX3_init_29 : decode cX3_init 29 = .ok (.return_, 1) := by decide +kernel
theorem dX3_copyFrom_0 : decode cX3_copyFrom 0 = .ok (.aload_n 0, 1) := by decide +kernel
theorem dX3_copyFrom_1 : decode cX3_copyFrom 1 = .ok (.aload_n 1, 1) := by decide +kernel
theorem dX3_copyFrom_2 : decode cX3_copyFrom 2 = .ok (.getfield 9, 3) := by decide +kernel
theorem dX3_copyFrom_5 : decode cX3_copyFrom 5 = .ok (.putfield 9, 3) := by decide +kernel
theorem dX3_copyFrom_8 : decode cX3_copyFrom 8 = .ok (.aload_n 0, 1) := by decide +kernel
theorem dX3_copyFrom_9 : decode cX3_copyFrom 9 = .ok (.aload_n 1, 1) := by decide +kernel
theorem dX3_copyFrom_10 : decode cX3_copyFrom 10 = .ok (.getfield 15, 3) := by decide +kernel
theorem dX3_copyFrom_13 : decode cX3_copyFrom 13 = .ok (.putfield 15, 3) := by decide +kernel
theorem dX3_copyFrom_16 : decode cX3_copyFrom 16 = .ok (.aload_n 0, 1) := by decide +kernel
theorem dX3_copyFrom_17 : decode cX3_copyFrom 17 = .ok (.aload_n 1, 1) := by decide +kernel
theorem dX3_copyFrom_18 : decode cX3_copyFrom 18 = .ok (.getfield 18, 3) := by decide +kernel
theorem dX3_copyFrom_21 : decode cX3_copyFrom 21 = .ok (.putfield 18, 3) := by decide +kernel
theorem dX3_copyFrom_24 : decode cX3_copyFrom 24 = .ok (.aload_n 0, 1) := by decide +kernel
theorem dX3_copyFrom_25 : decode cX3_copyFrom 25 = .ok (.aload_n 1, 1) := by decide +kernel
theorem dX3_copyFrom_26 : decode cX3_copyFrom 26 = .ok (.getfield 21, 3) := by decide +kernel
theorem dX3_copyFrom_29 : decode cX3_copyFrom 29 = .ok (.putfield 21, 3) := by decide +kernel
theorem dX3_copyFrom_32 : decode cX3_copyFrom 32 = .ok (.aload_n 0, 1) := by decide +kernel
theorem dX3_copyFrom_33 : decode cX3_copyFrom 33 = .ok (.aload_n 1, 1) := by decide +kernel
theorem dX3_copyFrom_34 : decode cX3_copyFrom 34 = .ok (.getfield 24, 3) := by decide +kernel
theorem dX3_copyFrom_37 : decode cX3_copyFrom 37 = .ok (.putfield 24, 3) := by decide +kernel
theorem dX3_copyFrom_40 : decode cX3_copyFrom 40 = .ok (.return_, 1) := by decide +kernel
theorem dX3_knots_0 : decode cX3_knots 0 = .ok (.aload_n 0, 1) := by decide +kernel
theorem dX3_knots_1 : decode cX3_knots 1 = .ok (.getfield 9, 3) := by decide +kernel
theorem dX3_knots_4 : decode cX3_knots 4 = .ok (.aload_n 0, 1) := by decide +kernel
theorem dX3_knots_5 : decode cX3_knots 5 = .ok (.getfield 15, 3) := by decide +kernel
theorem dX3_knots_8 : decode cX3_knots 8 = .ok (.ior, 1) := by decide +kernel
theorem dX3_knots_9 : decode cX3_knots 9 = .ok (.ireturn, 1) := by decide +kernel
theorem dX3_kindAt_0 : decode cX3_kindAt 0 = .ok (.aload_n 0, 1) := by decide +kernel
theorem dX3_kindAt_1 : decode cX3_kindAt 1 = .ok (.getfield 9, 3) := by decide +kernel
theorem dX3_kindAt_4 : decode cX3_kindAt 4 = .ok (.iload_n 1, 1) := by decide +kernel
theorem dX3_kindAt_5 : decode cX3_kindAt 5 = .ok (.invokestatic 27, 3) := by decide +kernel
theorem dX3_kindAt_8 : decode cX3_kindAt 8 = .ok (.ifCond .eq 7, 3) := by decide +kernel
theorem dX3_kindAt_11 : decode cX3_kindAt 11 = .ok (.iconst 1, 1) := by decide +kernel
theorem dX3_kindAt_12 : decode cX3_kindAt 12 = .ok (.goto 4, 3) := by decide +kernel
theorem dX3_kindAt_15 : decode cX3_kindAt 15 = .ok (.iconst 0, 1) := by decide +kernel
theorem dX3_kindAt_16 : decode cX3_kindAt 16 = .ok (.aload_n 0, 1) := by decide +kernel
theorem dX3_kindAt_17 : decode cX3_kindAt 17 = .ok (.getfield 15, 3) := by decide +kernel
theorem dX3_kindAt_20 : decode cX3_kindAt 20 = .ok (.iload_n 1, 1) := by decide +kernel
theorem dX3_kindAt_21 : decode cX3_kindAt 21 = .ok (.invokestatic 27, 3) := by decide +kernel
theorem dX3_kindAt_24 : decode cX3_kindAt 24 = .ok (.ifCond .eq 7, 3) := by decide +kernel
theorem dX3_kindAt_27 : decode cX3_kindAt 27 = .ok (.iconst 2, 1) := by decide +kernel
theorem dX3_kindAt_28 : decode cX3_kindAt 28 = .ok (.goto 4, 3) := by decide +kernel
theorem dX3_kindAt_31 : decode cX3_kindAt 31 = .ok (.iconst 0, 1) := by decide +kernel
theorem dX3_kindAt_32 : decode cX3_kindAt 32 = .ok (.iadd, 1) := by decide +kernel
theorem dX3_kindAt_33 : decode cX3_kindAt 33 = .ok (.ireturn, 1) := by decide +kernel
theorem dX3_tie_0 : decode cX3_tie 0 = .ok (.aload_n 0, 1) := by decide +kernel
theorem dX3_tie_1 : decode cX3_tie 1 = .ok (.aload_n 0, 1) := by decide +kernel
theorem dX3_tie_2 : decode cX3_tie 2 = .ok (.getfield 9, 3) := by decide +kernel
theorem dX3_tie_5 : decode cX3_tie 5 = .ok (.iload_n 1, 1) := by decide +kernel
theorem dX3_tie_6 : decode cX3_tie 6 = .ok (.iload_n 2, 1) := by decide +kernel
theorem dX3_tie_7 : decode cX3_tie 7 = .ok (.iconst 1, 1) := by decide +kernel
theorem dX3_tie_8 : decode cX3_tie 8 = .ok (.iand, 1) := by decide +kernel
theorem dX3_tie_9 : decode cX3_tie 9 = .ok (.ifCond .eq 7, 3) := by decide +kernel
theorem dX3_tie_12 : decode cX3_tie 12 = .ok (.iconst 1, 1) := by decide +kernel
theorem dX3_tie_13 : decode cX3_tie 13 = .ok (.goto 4, 3) := by decide +kernel
theorem dX3_tie_16 : decode cX3_tie 16 = .ok (.iconst 0, 1) := by decide +kernel
theorem dX3_tie_17 : decode cX3_tie 17 = .ok (.invokestatic 31, 3) := by decide +kernel
theorem dX3_tie_20 : decode cX3_tie 20 = .ok (.putfield 9, 3) := by decide +kernel
theorem dX3_tie_23 : decode cX3_tie 23 = .ok (.aload_n 0, 1) := by decide +kernel
theorem dX3_tie_24 : decode cX3_tie 24 = .ok (.aload_n 0, 1) := by decide +kernel
theorem dX3_tie_25 : decode cX3_tie 25 = .ok (.getfield 15, 3) := by decide +kernel
theorem dX3_tie_28 : decode cX3_tie 28 = .ok (.iload_n 1, 1) := by decide +kernel
theorem dX3_tie_29 : decode cX3_tie 29 = .ok (.iload_n 2, 1) := by decide +kernel
theorem dX3_tie_30 : decode cX3_tie 30 = .ok (.iconst 2, 1) := by decide +kernel
theorem dX3_tie_31 : decode cX3_tie 31 = .ok (.iand, 1) := by decide +kernel
theorem dX3_tie_32 : decode cX3_tie 32 = .ok (.ifCond .eq 7, 3) := by decide +kernel
theorem dX3_tie_35 : decode cX3_tie 35 = .ok (.iconst 1, 1) := by decide +kernel
theorem dX3_tie_36 : decode cX3_tie 36 = .ok (.goto 4, 3) := by decide +kernel
theorem dX3_tie_39 : decode cX3_tie 39 = .ok (.iconst 0, 1) := by decide +kernel
theorem dX3_tie_40 : decode cX3_tie 40 = .ok (.invokestatic 31, 3) := by decide +kernel
theorem dX3_tie_43 : decode cX3_tie 43 = .ok (.putfield 15, 3) := by decide +kernel
theorem dX3_tie_46 : decode cX3_tie 46 = .ok (.return_, 1) := by decide +kernel
theorem dX3_wholeAcross_0 : decode cX3_wholeAcross 0 = .ok (.ldc 35, 2) := by decide +kernel
theorem dX3_wholeAcross_2 : decode cX3_wholeAcross 2 = .ok (.aload_n 0, 1) := by decide +kernel
theorem dX3_wholeAcross_3 : decode cX3_wholeAcross 3 = .ok (.getfield 18, 3) := by decide +kernel
theorem dX3_wholeAcross_6 : decode cX3_wholeAcross 6 = .ok (.iconst (-1), 1) := by decide +kernel
theorem dX3_wholeAcross_7 : decode cX3_wholeAcross 7 = .ok (.ixor, 1) := by decide +kernel
theorem dX3_wholeAcross_8 : decode cX3_wholeAcross 8 = .ok (.iand, 1) := by decide +kernel
theorem dX3_wholeAcross_9 : decode cX3_wholeAcross 9 = .ok (.ireturn, 1) := by decide +kernel
theorem dX3_wholeDown_0 : decode cX3_wholeDown 0 = .ok (.ldc 36, 2) := by decide +kernel
theorem dX3_wholeDown_2 : decode cX3_wholeDown 2 = .ok (.aload_n 0, 1) := by decide +kernel
theorem dX3_wholeDown_3 : decode cX3_wholeDown 3 = .ok (.getfield 21, 3) := by decide +kernel
theorem dX3_wholeDown_6 : decode cX3_wholeDown 6 = .ok (.iconst (-1), 1) := by decide +kernel
theorem dX3_wholeDown_7 : decode cX3_wholeDown 7 = .ok (.ixor, 1) := by decide +kernel
theorem dX3_wholeDown_8 : decode cX3_wholeDown 8 = .ok (.iand, 1) := by decide +kernel
theorem dX3_wholeDown_9 : decode cX3_wholeDown 9 = .ok (.ireturn, 1) := by decide +kernel
theorem dX3_isTornBetween_0 : decode cX3_isTornBetween 0 = .ok (.iload_n 1, 1) := by decide +kernel
theorem dX3_isTornBetween_1 : decode cX3_isTornBetween 1 = .ok (.iload_n 2, 1) := by decide +kernel
theorem dX3_isTornBetween_2 : decode cX3_isTornBetween 2 = .ok (.invokestatic 37, 3) := by decide +kernel
theorem dX3_isTornBetween_5 : decode cX3_isTornBetween 5 = .ok (.ifCond .eq 10, 3) := by decide +kernel
theorem dX3_isTornBetween_8 : decode cX3_isTornBetween 8 = .ok (.aload_n 0, 1) := by decide +kernel
theorem dX3_isTornBetween_9 : decode cX3_isTornBetween 9 = .ok (.getfield 18, 3) := by decide +kernel
theorem dX3_isTornBetween_12 : decode cX3_isTornBetween 12 = .ok (.goto 7, 3) := by decide +kernel
theorem dX3_isTornBetween_15 : decode cX3_isTornBetween 15 = .ok (.aload_n 0, 1) := by decide +kernel
theorem dX3_isTornBetween_16 : decode cX3_isTornBetween 16 = .ok (.getfield 21, 3) := by decide +kernel
theorem dX3_isTornBetween_19 : decode cX3_isTornBetween 19 = .ok (.iload_n 1, 1) := by decide +kernel
theorem dX3_isTornBetween_20 : decode cX3_isTornBetween 20 = .ok (.iload_n 2, 1) := by decide +kernel
theorem dX3_isTornBetween_21 : decode cX3_isTornBetween 21 = .ok (.invokestatic 40, 3) := by decide +kernel
theorem dX3_isTornBetween_24 : decode cX3_isTornBetween 24 = .ok (.invokestatic 27, 3) := by decide +kernel
theorem dX3_isTornBetween_27 : decode cX3_isTornBetween 27 = .ok (.ireturn, 1) := by decide +kernel
theorem dX3_putString_0 : decode cX3_putString 0 = .ok (.iload_n 1, 1) := by decide +kernel
theorem dX3_putString_1 : decode cX3_putString 1 = .ok (.iload_n 2, 1) := by decide +kernel
theorem dX3_putString_2 : decode cX3_putString 2 = .ok (.invokestatic 40, 3) := by decide +kernel
theorem dX3_putString_5 : decode cX3_putString 5 = .ok (.istore 4, 2) := by decide +kernel
theorem dX3_putString_7 : decode cX3_putString 7 = .ok (.iload_n 1, 1) := by decide +kernel
theorem dX3_putString_8 : decode cX3_putString 8 = .ok (.iload_n 2, 1) := by decide +kernel
theorem dX3_putString_9 : decode cX3_putString 9 = .ok (.invokestatic 37, 3) := by decide +kernel
theorem dX3_putString_12 : decode cX3_putString 12 = .ok (.ifCond .eq 20, 3) := by decide +kernel
theorem dX3_putString_15 : decode cX3_putString 15 = .ok (.aload_n 0, 1) := by decide +kernel
theorem dX3_putString_16 : decode cX3_putString 16 = .ok (.aload_n 0, 1) := by decide +kernel
theorem dX3_putString_17 : decode cX3_putString 17 = .ok (.getfield 18, 3) := by decide +kernel
theorem dX3_putString_20 : decode cX3_putString 20 = .ok (.iload 4, 2) := by decide +kernel
theorem dX3_putString_22 : decode cX3_putString 22 = .ok (.iload_n 3, 1) := by decide +kernel
theorem dX3_putString_23 : decode cX3_putString 23 = .ok (.invokestatic 31, 3) := by decide +kernel
theorem dX3_putString_26 : decode cX3_putString 26 = .ok (.putfield 18, 3) := by decide +kernel
theorem dX3_putString_29 : decode cX3_putString 29 = .ok (.goto 17, 3) := by decide +kernel
theorem dX3_putString_32 : decode cX3_putString 32 = .ok (.aload_n 0, 1) := by decide +kernel
theorem dX3_putString_33 : decode cX3_putString 33 = .ok (.aload_n 0, 1) := by decide +kernel
theorem dX3_putString_34 : decode cX3_putString 34 = .ok (.getfield 21, 3) := by decide +kernel
theorem dX3_putString_37 : decode cX3_putString 37 = .ok (.iload 4, 2) := by decide +kernel
theorem dX3_putString_39 : decode cX3_putString 39 = .ok (.iload_n 3, 1) := by decide +kernel
theorem dX3_putString_40 : decode cX3_putString 40 = .ok (.invokestatic 31, 3) := by decide +kernel
theorem dX3_putString_43 : decode cX3_putString 43 = .ok (.putfield 21, 3) := by decide +kernel
theorem dX3_putString_46 : decode cX3_putString 46 = .ok (.return_, 1) := by decide +kernel
theorem dX3_countTorn_0 : decode cX3_countTorn 0 = .ok (.aload_n 0, 1) := by decide +kernel
theorem dX3_countTorn_1 : decode cX3_countTorn 1 = .ok (.getfield 18, 3) := by decide +kernel
theorem dX3_countTorn_4 : decode cX3_countTorn 4 = .ok (.invokestatic 46, 3) := by decide +kernel
theorem dX3_countTorn_7 : decode cX3_countTorn 7 = .ok (.aload_n 0, 1) := by decide +kernel
theorem dX3_countTorn_8 : decode cX3_countTorn 8 = .ok (.getfield 21, 3) := by decide +kernel
theorem dX3_countTorn_11 : decode cX3_countTorn 11 = .ok (.invokestatic 46, 3) := by decide +kernel
theorem dX3_countTorn_14 : decode cX3_countTorn 14 = .ok (.iadd, 1) := by decide +kernel
theorem dX3_countTorn_15 : decode cX3_countTorn 15 = .ok (.ireturn, 1) := by decide +kernel
theorem dX3_twineForAll_0 : decode cX3_twineForAll 0 = .ok (.iconst 1, 1) := by decide +kernel
theorem dX3_twineForAll_1 : decode cX3_twineForAll 1 = .ok (.aload_n 0, 1) := by decide +kernel
theorem dX3_twineForAll_2 : decode cX3_twineForAll 2 = .ok (.getfield 18, 3) := by decide +kernel
theorem dX3_twineForAll_5 : decode cX3_twineForAll 5 = .ok (.invokestatic 46, 3) := by decide +kernel
theorem dX3_twineForAll_8 : decode cX3_twineForAll 8 = .ok (.imul, 1) := by decide +kernel
theorem dX3_twineForAll_9 : decode cX3_twineForAll 9 = .ok (.iconst 2, 1) := by decide +kernel
theorem dX3_twineForAll_10 : decode cX3_twineForAll 10 = .ok (.aload_n 0, 1) := by decide +kernel
theorem dX3_twineForAll_11 : decode cX3_twineForAll 11 = .ok (.getfield 21, 3) := by decide +kernel
theorem dX3_twineForAll_14 : decode cX3_twineForAll 14 = .ok (.invokestatic 46, 3) := by decide +kernel
theorem dX3_twineForAll_17 : decode cX3_twineForAll 17 = .ok (.imul, 1) := by decide +kernel
theorem dX3_twineForAll_18 : decode cX3_twineForAll 18 = .ok (.iadd, 1) := by decide +kernel
theorem dX3_twineForAll_19 : decode cX3_twineForAll 19 = .ok (.ireturn, 1) := by decide +kernel
theorem dX3_countWholeWithin_0 : decode cX3_countWholeWithin 0 = .ok (.iload_n 1, 1) := by decide +kernel
theorem dX3_countWholeWithin_1 : decode cX3_countWholeWithin 1 = .ok (.aload_n 0, 1) := by decide +kernel
theorem dX3_countWholeWithin_2 : decode cX3_countWholeWithin 2 = .ok (.invokevirtual 52, 3) := by decide +kernel
theorem dX3_countWholeWithin_5 : decode cX3_countWholeWithin 5 = .ok (.iconst 1, 1) := by decide +kernel
theorem dX3_countWholeWithin_6 : decode cX3_countWholeWithin 6 = .ok (.invokestatic 56, 3) := by decide +kernel
theorem dX3_countWholeWithin_9 : decode cX3_countWholeWithin 9 = .ok (.invokestatic 46, 3) := by decide +kernel
theorem dX3_countWholeWithin_12 : decode cX3_countWholeWithin 12 = .ok (.iload_n 1, 1) := by decide +kernel
theorem dX3_countWholeWithin_13 : decode cX3_countWholeWithin 13 = .ok (.aload_n 0, 1) := by decide +kernel
theorem dX3_countWholeWithin_14 : decode cX3_countWholeWithin 14 = .ok (.invokevirtual 60, 3) := by decide +kernel
theorem dX3_countWholeWithin_17 : decode cX3_countWholeWithin 17 = .ok (.bipush 6, 2) := by decide +kernel
theorem dX3_countWholeWithin_19 : decode cX3_countWholeWithin 19 = .ok (.invokestatic 56, 3) := by decide +kernel
theorem dX3_countWholeWithin_22 : decode cX3_countWholeWithin 22 = .ok (.invokestatic 46, 3) := by decide +kernel
theorem dX3_countWholeWithin_25 : decode cX3_countWholeWithin 25 = .ok (.iadd, 1) := by decide +kernel
theorem dX3_countWholeWithin_26 : decode cX3_countWholeWithin 26 = .ok (.ireturn, 1) := by decide +kernel
theorem dX3_chapterAt_0 : decode cX3_chapterAt 0 = .ok (.aload_n 0, 1) := by decide +kernel
theorem dX3_chapterAt_1 : decode cX3_chapterAt 1 = .ok (.invokevirtual 63, 3) := by decide +kernel
theorem dX3_chapterAt_4 : decode cX3_chapterAt 4 = .ok (.iconst 1, 1) := by decide +kernel
theorem dX3_chapterAt_5 : decode cX3_chapterAt 5 = .ok (.iload_n 1, 1) := by decide +kernel
theorem dX3_chapterAt_6 : decode cX3_chapterAt 6 = .ok (.ishl, 1) := by decide +kernel
theorem dX3_chapterAt_7 : decode cX3_chapterAt 7 = .ok (.iand, 1) := by decide +kernel
theorem dX3_chapterAt_8 : decode cX3_chapterAt 8 = .ok (.istore_n 2, 1) := by decide +kernel
theorem dX3_chapterAt_9 : decode cX3_chapterAt 9 = .ok (.iconst 0, 1) := by decide +kernel
theorem dX3_chapterAt_10 : decode cX3_chapterAt 10 = .ok (.istore_n 3, 1) := by decide +kernel
theorem dX3_chapterAt_11 : decode cX3_chapterAt 11 = .ok (.iload_n 3, 1) := by decide +kernel
theorem dX3_chapterAt_12 : decode cX3_chapterAt 12 = .ok (.bipush 24, 2) := by decide +kernel
theorem dX3_chapterAt_14 : decode cX3_chapterAt 14 = .ok (.if_icmp .ge 41, 3) := by decide +kernel
theorem dX3_chapterAt_17 : decode cX3_chapterAt 17 = .ok (.iload_n 2, 1) := by decide +kernel
theorem dX3_chapterAt_18 : decode cX3_chapterAt 18 = .ok (.iload_n 2, 1) := by decide +kernel
theorem dX3_chapterAt_19 : decode cX3_chapterAt 19 = .ok (.aload_n 0, 1) := by decide +kernel
theorem dX3_chapterAt_20 : decode cX3_chapterAt 20 = .ok (.invokevirtual 52, 3) := by decide +kernel
theorem dX3_chapterAt_23 : decode cX3_chapterAt 23 = .ok (.aload_n 0, 1) := by decide +kernel
theorem dX3_chapterAt_24 : decode cX3_chapterAt 24 = .ok (.invokevirtual 60, 3) := by decide +kernel
theorem dX3_chapterAt_27 : decode cX3_chapterAt 27 = .ok (.invokestatic 66, 3) := by decide +kernel
theorem dX3_chapterAt_30 : decode cX3_chapterAt 30 = .ok (.aload_n 0, 1) := by decide +kernel
theorem dX3_chapterAt_31 : decode cX3_chapterAt 31 = .ok (.invokevirtual 63, 3) := by decide +kernel
theorem dX3_chapterAt_34 : decode cX3_chapterAt 34 = .ok (.iand, 1) := by decide +kernel
theorem dX3_chapterAt_35 : decode cX3_chapterAt 35 = .ok (.ior, 1) := by decide +kernel
theorem dX3_chapterAt_36 : decode cX3_chapterAt 36 = .ok (.istore 4, 2) := by decide +kernel
theorem dX3_chapterAt_38 : decode cX3_chapterAt 38 = .ok (.iload 4, 2) := by decide +kernel
theorem dX3_chapterAt_40 : decode cX3_chapterAt 40 = .ok (.iload_n 2, 1) := by decide +kernel
theorem dX3_chapterAt_41 : decode cX3_chapterAt 41 = .ok (.if_icmp .ne 5, 3) := by decide +kernel
theorem dX3_chapterAt_44 : decode cX3_chapterAt 44 = .ok (.iload_n 2, 1) := by decide +kernel
theorem dX3_chapterAt_45 : decode cX3_chapterAt 45 = .ok (.ireturn, 1) := by decide +kernel
theorem dX3_chapterAt_46 : decode cX3_chapterAt 46 = .ok (.iload 4, 2) := by decide +kernel
theorem dX3_chapterAt_48 : decode cX3_chapterAt 48 = .ok (.istore_n 2, 1) := by decide +kernel
theorem dX3_chapterAt_49 : decode cX3_chapterAt 49 = .ok (.iinc 3 1, 3) := by decide +kernel
theorem dX3_chapterAt_52 : decode cX3_chapterAt 52 = .ok (.goto (-41), 3) := by decide +kernel
theorem dX3_chapterAt_55 : decode cX3_chapterAt 55 = .ok (.iload_n 2, 1) := by decide +kernel
theorem dX3_chapterAt_56 : decode cX3_chapterAt 56 = .ok (.ireturn, 1) := by decide +kernel
theorem dX3_countChapters_0 : decode cX3_countChapters 0 = .ok (.aload_n 0, 1) := by decide +kernel
theorem dX3_countChapters_1 : decode cX3_countChapters 1 = .ok (.invokevirtual 63, 3) := by decide +kernel
theorem dX3_countChapters_4 : decode cX3_countChapters 4 = .ok (.istore_n 1, 1) := by decide +kernel
theorem dX3_countChapters_5 : decode cX3_countChapters 5 = .ok (.iconst 0, 1) := by decide +kernel
theorem dX3_countChapters_6 : decode cX3_countChapters 6 = .ok (.istore_n 2, 1) := by decide +kernel
theorem dX3_countChapters_7 : decode cX3_countChapters 7 = .ok (.iload_n 1, 1) := by decide +kernel
theorem dX3_countChapters_8 : decode cX3_countChapters 8 = .ok (.ifCond .eq 28, 3) := by decide +kernel
theorem dX3_countChapters_11 : decode cX3_countChapters 11 = .ok (.iload_n 2, 1) := by decide +kernel
theorem dX3_countChapters_12 : decode cX3_countChapters 12 = .ok (.bipush 24, 2) := by decide +kernel
theorem dX3_countChapters_14 : decode cX3_countChapters 14 = .ok (.if_icmp .ge 22, 3) := by decide +kernel
theorem dX3_countChapters_17 : decode cX3_countChapters 17 = .ok (.iload_n 1, 1) := by decide +kernel
theorem dX3_countChapters_18 : decode cX3_countChapters 18 = .ok (.aload_n 0, 1) := by decide +kernel
theorem dX3_countChapters_19 : decode cX3_countChapters 19 = .ok (.iload_n 1, 1) := by decide +kernel
theorem dX3_countChapters_20 : decode cX3_countChapters 20 = .ok (.invokestatic 69, 3) := by decide +kernel
theorem dX3_countChapters_23 : decode cX3_countChapters 23 = .ok (.invokevirtual 72, 3) := by decide +kernel
theorem dX3_countChapters_26 : decode cX3_countChapters 26 = .ok (.iconst (-1), 1) := by decide +kernel
theorem dX3_countChapters_27 : decode cX3_countChapters 27 = .ok (.ixor, 1) := by decide +kernel
theorem dX3_countChapters_28 : decode cX3_countChapters 28 = .ok (.iand, 1) := by decide +kernel
theorem dX3_countChapters_29 : decode cX3_countChapters 29 = .ok (.istore_n 1, 1) := by decide +kernel
theorem dX3_countChapters_30 : decode cX3_countChapters 30 = .ok (.iinc 2 1, 3) := by decide +kernel
theorem dX3_countChapters_33 : decode cX3_countChapters 33 = .ok (.goto (-26), 3) := by decide +kernel
theorem dX3_countChapters_36 : decode cX3_countChapters 36 = .ok (.iload_n 2, 1) := by decide +kernel
theorem dX3_countChapters_37 : decode cX3_countChapters 37 = .ok (.ireturn, 1) := by decide +kernel
theorem dX3_countChaptersByStrings_0 : decode cX3_countChaptersByStrings 0 = .ok (.aload_n 1, 1) := by decide +kernel
theorem dX3_countChaptersByStrings_1 : decode cX3_countChaptersByStrings 1 = .ok (.invokevirtual 75, 3) := by decide +kernel
theorem dX3_countChaptersByStrings_4 : decode cX3_countChaptersByStrings 4 = .ok (.aload_n 0, 1) := by decide +kernel
theorem dX3_countChaptersByStrings_5 : decode cX3_countChaptersByStrings 5 = .ok (.invokevirtual 63, 3) := by decide +kernel
theorem dX3_countChaptersByStrings_8 : decode cX3_countChaptersByStrings 8 = .ok (.invokestatic 46, 3) := by decide +kernel
theorem dX3_countChaptersByStrings_11 : decode cX3_countChaptersByStrings 11 = .ok (.aload_n 1, 1) := by decide +kernel
theorem dX3_countChaptersByStrings_12 : decode cX3_countChaptersByStrings 12 = .ok (.aload_n 0, 1) := by decide +kernel
theorem dX3_countChaptersByStrings_13 : decode cX3_countChaptersByStrings 13 = .ok (.invokevirtual 63, 3) := by decide +kernel
theorem dX3_countChaptersByStrings_16 : decode cX3_countChaptersByStrings 16 = .ok (.aload_n 0, 1) := by decide +kernel
theorem dX3_countChaptersByStrings_17 : decode cX3_countChaptersByStrings 17 = .ok (.invokevirtual 52, 3) := by decide +kernel
theorem dX3_countChaptersByStrings_20 : decode cX3_countChaptersByStrings 20 = .ok (.iconst 1, 1) := by decide +kernel
theorem dX3_countChaptersByStrings_21 : decode cX3_countChaptersByStrings 21 = .ok (.invokestatic 56, 3) := by decide +kernel
theorem dX3_countChaptersByStrings_24 : decode cX3_countChaptersByStrings 24 = .ok (.iconst 1, 1) := by decide +kernel
theorem dX3_countChaptersByStrings_25 : decode cX3_countChaptersByStrings 25 = .ok (.invokevirtual 80, 3) := by decide +kernel
theorem dX3_countChaptersByStrings_28 : decode cX3_countChaptersByStrings 28 = .ok (.isub, 1) := by decide +kernel
theorem dX3_countChaptersByStrings_29 : decode cX3_countChaptersByStrings 29 = .ok (.aload_n 1, 1) := by decide +kernel
theorem dX3_countChaptersByStrings_30 : decode cX3_countChaptersByStrings 30 = .ok (.aload_n 0, 1) := by decide +kernel
theorem dX3_countChaptersByStrings_31 : decode cX3_countChaptersByStrings 31 = .ok (.invokevirtual 63, 3) := by decide +kernel
theorem dX3_countChaptersByStrings_34 : decode cX3_countChaptersByStrings 34 = .ok (.aload_n 0, 1) := by decide +kernel
theorem dX3_countChaptersByStrings_35 : decode cX3_countChaptersByStrings 35 = .ok (.invokevirtual 60, 3) := by decide +kernel
theorem dX3_countChaptersByStrings_38 : decode cX3_countChaptersByStrings 38 = .ok (.bipush 6, 2) := by decide +kernel
theorem dX3_countChaptersByStrings_40 : decode cX3_countChaptersByStrings 40 = .ok (.invokestatic 56, 3) := by decide +kernel
theorem dX3_countChaptersByStrings_43 : decode cX3_countChaptersByStrings 43 = .ok (.bipush 6, 2) := by decide +kernel
theorem dX3_countChaptersByStrings_45 : decode cX3_countChaptersByStrings 45 = .ok (.invokevirtual 80, 3) := by decide +kernel
theorem dX3_countChaptersByStrings_48 : decode cX3_countChaptersByStrings 48 = .ok (.isub, 1) := by decide +kernel
theorem dX3_countChaptersByStrings_49 : decode cX3_countChaptersByStrings 49 = .ok (.ireturn, 1) := by decide +kernel
theorem dX3_greatestChapter_0 : decode cX3_greatestChapter 0 = .ok (.iload_n 1, 1) := by decide +kernel
theorem dX3_greatestChapter_1 : decode cX3_greatestChapter 1 = .ok (.istore_n 2, 1) := by decide +kernel
theorem dX3_greatestChapter_2 : decode cX3_greatestChapter 2 = .ok (.iconst 0, 1) := by decide +kernel
theorem dX3_greatestChapter_3 : decode cX3_greatestChapter 3 = .ok (.istore_n 3, 1) := by decide +kernel
theorem dX3_greatestChapter_4 : decode cX3_greatestChapter 4 = .ok (.iconst 0, 1) := by decide +kernel
theorem dX3_greatestChapter_5 : decode cX3_greatestChapter 5 = .ok (.istore 4, 2) := by decide +kernel
theorem dX3_greatestChapter_7 : decode cX3_greatestChapter 7 = .ok (.iload 4, 2) := by decide +kernel
theorem dX3_greatestChapter_9 : decode cX3_greatestChapter 9 = .ok (.bipush 24, 2) := by decide +kernel
theorem dX3_greatestChapter_11 : decode cX3_greatestChapter 11 = .ok (.if_icmp .ge 45, 3) := by decide +kernel
theorem dX3_greatestChapter_14 : decode cX3_greatestChapter 14 = .ok (.iload_n 2, 1) := by decide +kernel
theorem dX3_greatestChapter_15 : decode cX3_greatestChapter 15 = .ok (.ifCond .eq 41, 3) := by decide +kernel
theorem dX3_greatestChapter_18 : decode cX3_greatestChapter 18 = .ok (.aload_n 0, 1) := by decide +kernel
theorem dX3_greatestChapter_19 : decode cX3_greatestChapter 19 = .ok (.iload_n 2, 1) := by decide +kernel
theorem dX3_greatestChapter_20 : decode cX3_greatestChapter 20 = .ok (.invokestatic 69, 3) := by decide +kernel
theorem dX3_greatestChapter_23 : decode cX3_greatestChapter 23 = .ok (.invokevirtual 72, 3) := by decide +kernel
theorem dX3_greatestChapter_26 : decode cX3_greatestChapter 26 = .ok (.istore 5, 2) := by decide +kernel
theorem dX3_greatestChapter_28 : decode cX3_greatestChapter 28 = .ok (.iload 5, 2) := by decide +kernel
theorem dX3_greatestChapter_30 : decode cX3_greatestChapter 30 = .ok (.invokestatic 46, 3) := by decide +kernel
theorem dX3_greatestChapter_33 : decode cX3_greatestChapter 33 = .ok (.iload_n 3, 1) := by decide +kernel
theorem dX3_greatestChapter_34 : decode cX3_greatestChapter 34 = .ok (.invokestatic 46, 3) := by decide +kernel
theorem dX3_greatestChapter_37 : decode cX3_greatestChapter 37 = .ok (.if_icmp .le 6, 3) := by decide +kernel
theorem dX3_greatestChapter_40 : decode cX3_greatestChapter 40 = .ok (.iload 5, 2) := by decide +kernel
theorem dX3_greatestChapter_42 : decode cX3_greatestChapter 42 = .ok (.istore_n 3, 1) := by decide +kernel
theorem dX3_greatestChapter_43 : decode cX3_greatestChapter 43 = .ok (.iload_n 2, 1) := by decide +kernel
theorem dX3_greatestChapter_44 : decode cX3_greatestChapter 44 = .ok (.iload 5, 2) := by decide +kernel
theorem dX3_greatestChapter_46 : decode cX3_greatestChapter 46 = .ok (.iconst (-1), 1) := by decide +kernel
theorem dX3_greatestChapter_47 : decode cX3_greatestChapter 47 = .ok (.ixor, 1) := by decide +kernel
theorem dX3_greatestChapter_48 : decode cX3_greatestChapter 48 = .ok (.iand, 1) := by decide +kernel
theorem dX3_greatestChapter_49 : decode cX3_greatestChapter 49 = .ok (.istore_n 2, 1) := by decide +kernel
theorem dX3_greatestChapter_50 : decode cX3_greatestChapter 50 = .ok (.iinc 4 1, 3) := by decide +kernel
theorem dX3_greatestChapter_53 : decode cX3_greatestChapter 53 = .ok (.goto (-46), 3) := by decide +kernel
theorem dX3_greatestChapter_56 : decode cX3_greatestChapter 56 = .ok (.iload_n 3, 1) := by decide +kernel
theorem dX3_greatestChapter_57 : decode cX3_greatestChapter 57 = .ok (.ireturn, 1) := by decide +kernel
theorem dX3_chapterRanked_0 : decode cX3_chapterRanked 0 = .ok (.iload_n 1, 1) := by decide +kernel
theorem dX3_chapterRanked_1 : decode cX3_chapterRanked 1 = .ok (.ifCond .lt 9, 3) := by decide +kernel
theorem dX3_chapterRanked_4 : decode cX3_chapterRanked 4 = .ok (.iload_n 1, 1) := by decide +kernel
theorem dX3_chapterRanked_5 : decode cX3_chapterRanked 5 = .ok (.bipush 24, 2) := by decide +kernel
theorem dX3_chapterRanked_7 : decode cX3_chapterRanked 7 = .ok (.if_icmp .lt 5, 3) := by decide +kernel
theorem dX3_chapterRanked_10 : decode cX3_chapterRanked 10 = .ok (.iconst 0, 1) := by decide +kernel
theorem dX3_chapterRanked_11 : decode cX3_chapterRanked 11 = .ok (.ireturn, 1) := by decide +kernel
theorem dX3_chapterRanked_12 : decode cX3_chapterRanked 12 = .ok (.aload_n 0, 1) := by decide +kernel
theorem dX3_chapterRanked_13 : decode cX3_chapterRanked 13 = .ok (.invokevirtual 63, 3) := by decide +kernel
theorem dX3_chapterRanked_16 : decode cX3_chapterRanked 16 = .ok (.istore_n 2, 1) := by decide +kernel
theorem dX3_chapterRanked_17 : decode cX3_chapterRanked 17 = .ok (.iconst 0, 1) := by decide +kernel
theorem dX3_chapterRanked_18 : decode cX3_chapterRanked 18 = .ok (.istore_n 3, 1) := by decide +kernel
theorem dX3_chapterRanked_19 : decode cX3_chapterRanked 19 = .ok (.iload_n 3, 1) := by decide +kernel
theorem dX3_chapterRanked_20 : decode cX3_chapterRanked 20 = .ok (.iload_n 1, 1) := by decide +kernel
theorem dX3_chapterRanked_21 : decode cX3_chapterRanked 21 = .ok (.if_icmp .ge 19, 3) := by decide +kernel
theorem dX3_chapterRanked_24 : decode cX3_chapterRanked 24 = .ok (.iload_n 2, 1) := by decide +kernel
theorem dX3_chapterRanked_25 : decode cX3_chapterRanked 25 = .ok (.aload_n 0, 1) := by decide +kernel
theorem dX3_chapterRanked_26 : decode cX3_chapterRanked 26 = .ok (.iload_n 2, 1) := by decide +kernel
theorem dX3_chapterRanked_27 : decode cX3_chapterRanked 27 = .ok (.invokevirtual 83, 3) := by decide +kernel
theorem dX3_chapterRanked_30 : decode cX3_chapterRanked 30 = .ok (.iconst (-1), 1) := by decide +kernel
theorem dX3_chapterRanked_31 : decode cX3_chapterRanked 31 = .ok (.ixor, 1) := by decide +kernel
theorem dX3_chapterRanked_32 : decode cX3_chapterRanked 32 = .ok (.iand, 1) := by decide +kernel
theorem dX3_chapterRanked_33 : decode cX3_chapterRanked 33 = .ok (.istore_n 2, 1) := by decide +kernel
theorem dX3_chapterRanked_34 : decode cX3_chapterRanked 34 = .ok (.iinc 3 1, 3) := by decide +kernel
theorem dX3_chapterRanked_37 : decode cX3_chapterRanked 37 = .ok (.goto (-18), 3) := by decide +kernel
theorem dX3_chapterRanked_40 : decode cX3_chapterRanked 40 = .ok (.aload_n 0, 1) := by decide +kernel
theorem dX3_chapterRanked_41 : decode cX3_chapterRanked 41 = .ok (.iload_n 2, 1) := by decide +kernel
theorem dX3_chapterRanked_42 : decode cX3_chapterRanked 42 = .ok (.invokevirtual 83, 3) := by decide +kernel
theorem dX3_chapterRanked_45 : decode cX3_chapterRanked 45 = .ok (.ireturn, 1) := by decide +kernel
theorem dX3_knotsJoinedBy_0 : decode cX3_knotsJoinedBy 0 = .ok (.iload_n 1, 1) := by decide +kernel
theorem dX3_knotsJoinedBy_1 : decode cX3_knotsJoinedBy 1 = .ok (.iload_n 2, 1) := by decide +kernel
theorem dX3_knotsJoinedBy_2 : decode cX3_knotsJoinedBy 2 = .ok (.invokestatic 86, 3) := by decide +kernel
theorem dX3_knotsJoinedBy_5 : decode cX3_knotsJoinedBy 5 = .ok (.ifCond .eq 12, 3) := by decide +kernel
theorem dX3_knotsJoinedBy_8 : decode cX3_knotsJoinedBy 8 = .ok (.aload_n 0, 1) := by decide +kernel
theorem dX3_knotsJoinedBy_9 : decode cX3_knotsJoinedBy 9 = .ok (.iload_n 1, 1) := by decide +kernel
theorem dX3_knotsJoinedBy_10 : decode cX3_knotsJoinedBy 10 = .ok (.iload_n 2, 1) := by decide +kernel
theorem dX3_knotsJoinedBy_11 : decode cX3_knotsJoinedBy 11 = .ok (.invokevirtual 89, 3) := by decide +kernel
theorem dX3_knotsJoinedBy_14 : decode cX3_knotsJoinedBy 14 = .ok (.ifCond .ne 5, 3) := by decide +kernel
theorem dX3_knotsJoinedBy_17 : decode cX3_knotsJoinedBy 17 = .ok (.iconst 0, 1) := by decide +kernel
theorem dX3_knotsJoinedBy_18 : decode cX3_knotsJoinedBy 18 = .ok (.ireturn, 1) := by decide +kernel
theorem dX3_knotsJoinedBy_19 : decode cX3_knotsJoinedBy 19 = .ok (.aload_n 0, 1) := by decide +kernel
theorem dX3_knotsJoinedBy_20 : decode cX3_knotsJoinedBy 20 = .ok (.iload_n 1, 1) := by decide +kernel
theorem dX3_knotsJoinedBy_21 : decode cX3_knotsJoinedBy 21 = .ok (.invokevirtual 72, 3) := by decide +kernel
theorem dX3_knotsJoinedBy_24 : decode cX3_knotsJoinedBy 24 = .ok (.istore_n 3, 1) := by decide +kernel
theorem dX3_knotsJoinedBy_25 : decode cX3_knotsJoinedBy 25 = .ok (.aload_n 0, 1) := by decide +kernel
theorem dX3_knotsJoinedBy_26 : decode cX3_knotsJoinedBy 26 = .ok (.iload_n 2, 1) := by decide +kernel
theorem dX3_knotsJoinedBy_27 : decode cX3_knotsJoinedBy 27 = .ok (.invokevirtual 72, 3) := by decide +kernel
theorem dX3_knotsJoinedBy_30 : decode cX3_knotsJoinedBy 30 = .ok (.istore 4, 2) := by decide +kernel
theorem dX3_knotsJoinedBy_32 : decode cX3_knotsJoinedBy 32 = .ok (.iload_n 3, 1) := by decide +kernel
theorem dX3_knotsJoinedBy_33 : decode cX3_knotsJoinedBy 33 = .ok (.ifCond .eq 14, 3) := by decide +kernel
theorem dX3_knotsJoinedBy_36 : decode cX3_knotsJoinedBy 36 = .ok (.iload 4, 2) := by decide +kernel
theorem dX3_knotsJoinedBy_38 : decode cX3_knotsJoinedBy 38 = .ok (.ifCond .eq 9, 3) := by decide +kernel
theorem dX3_knotsJoinedBy_41 : decode cX3_knotsJoinedBy 41 = .ok (.iload_n 3, 1) := by decide +kernel
theorem dX3_knotsJoinedBy_42 : decode cX3_knotsJoinedBy 42 = .ok (.iload 4, 2) := by decide +kernel
theorem dX3_knotsJoinedBy_44 : decode cX3_knotsJoinedBy 44 = .ok (.if_icmp .ne 5, 3) := by decide +kernel
theorem dX3_knotsJoinedBy_47 : decode cX3_knotsJoinedBy 47 = .ok (.iconst 0, 1) := by decide +kernel
theorem dX3_knotsJoinedBy_48 : decode cX3_knotsJoinedBy 48 = .ok (.ireturn, 1) := by decide +kernel
theorem dX3_knotsJoinedBy_49 : decode cX3_knotsJoinedBy 49 = .ok (.iload_n 3, 1) := by decide +kernel
theorem dX3_knotsJoinedBy_50 : decode cX3_knotsJoinedBy 50 = .ok (.iload 4, 2) := by decide +kernel
theorem dX3_knotsJoinedBy_52 : decode cX3_knotsJoinedBy 52 = .ok (.ior, 1) := by decide +kernel
theorem dX3_knotsJoinedBy_53 : decode cX3_knotsJoinedBy 53 = .ok (.invokestatic 46, 3) := by decide +kernel
theorem dX3_knotsJoinedBy_56 : decode cX3_knotsJoinedBy 56 = .ok (.ireturn, 1) := by decide +kernel
theorem dX3_bestTornString_0 : decode cX3_bestTornString 0 = .ok (.iconst (-1), 1) := by decide +kernel
theorem dX3_bestTornString_1 : decode cX3_bestTornString 1 = .ok (.istore_n 2, 1) := by decide +kernel
theorem dX3_bestTornString_2 : decode cX3_bestTornString 2 = .ok (.iconst 0, 1) := by decide +kernel
theorem dX3_bestTornString_3 : decode cX3_bestTornString 3 = .ok (.istore_n 3, 1) := by decide +kernel
theorem dX3_bestTornString_4 : decode cX3_bestTornString 4 = .ok (.iconst 0, 1) := by decide +kernel
theorem dX3_bestTornString_5 : decode cX3_bestTornString 5 = .ok (.istore 4, 2) := by decide +kernel
theorem dX3_bestTornString_7 : decode cX3_bestTornString 7 = .ok (.iconst 0, 1) := by decide +kernel
theorem dX3_bestTornString_8 : decode cX3_bestTornString 8 = .ok (.istore 5, 2) := by decide +kernel
theorem dX3_bestTornString_10 : decode cX3_bestTornString 10 = .ok (.iload 5, 2) := by decide +kernel
theorem dX3_bestTornString_12 : decode cX3_bestTornString 12 = .ok (.bipush 24, 2) := by decide +kernel
theorem dX3_bestTornString_14 : decode cX3_bestTornString 14 = .ok (.if_icmp .ge 89, 3) := by decide +kernel
theorem dX3_bestTornString_17 : decode cX3_bestTornString 17 = .ok (.iconst 1, 1) := by decide +kernel
theorem dX3_bestTornString_18 : decode cX3_bestTornString 18 = .ok (.istore 6, 2) := by decide +kernel
theorem dX3_bestTornString_20 : decode cX3_bestTornString 20 = .ok (.iload 6, 2) := by decide +kernel
theorem dX3_bestTornString_22 : decode cX3_bestTornString 22 = .ok (.bipush 6, 2) := by decide +kernel
theorem dX3_bestTornString_24 : decode cX3_bestTornString 24 = .ok (.if_icmp .gt 73, 3) := by decide +kernel
theorem dX3_bestTornString_27 : decode cX3_bestTornString 27 = .ok (.iload 5, 2) := by decide +kernel
theorem dX3_bestTornString_29 : decode cX3_bestTornString 29 = .ok (.iload 6, 2) := by decide +kernel
theorem dX3_bestTornString_31 : decode cX3_bestTornString 31 = .ok (.iadd, 1) := by decide +kernel
theorem dX3_bestTornString_32 : decode cX3_bestTornString 32 = .ok (.istore 7, 2) := by decide +kernel
theorem dX3_bestTornString_34 : decode cX3_bestTornString 34 = .ok (.aload_n 0, 1) := by decide +kernel
theorem dX3_bestTornString_35 : decode cX3_bestTornString 35 = .ok (.iload 5, 2) := by decide +kernel
theorem dX3_bestTornString_37 : decode cX3_bestTornString 37 = .ok (.iload 7, 2) := by decide +kernel
theorem dX3_bestTornString_39 : decode cX3_bestTornString 39 = .ok (.invokevirtual 92, 3) := by decide +kernel
theorem dX3_bestTornString_42 : decode cX3_bestTornString 42 = .ok (.istore 8, 2) := by decide +kernel
theorem dX3_bestTornString_44 : decode cX3_bestTornString 44 = .ok (.iload 5, 2) := by decide +kernel
theorem dX3_bestTornString_46 : decode cX3_bestTornString 46 = .ok (.iload 7, 2) := by decide +kernel
theorem dX3_bestTornString_48 : decode cX3_bestTornString 48 = .ok (.invokestatic 95, 3) := by decide +kernel
theorem dX3_bestTornString_51 : decode cX3_bestTornString 51 = .ok (.istore 9, 2) := by decide +kernel
theorem dX3_bestTornString_53 : decode cX3_bestTornString 53 = .ok (.iload 8, 2) := by decide +kernel
theorem dX3_bestTornString_55 : decode cX3_bestTornString 55 = .ok (.iload_n 3, 1) := by decide +kernel
theorem dX3_bestTornString_56 : decode cX3_bestTornString 56 = .ok (.if_icmp .gt 16, 3) := by decide +kernel
theorem dX3_bestTornString_59 : decode cX3_bestTornString 59 = .ok (.iload 8, 2) := by decide +kernel
theorem dX3_bestTornString_61 : decode cX3_bestTornString 61 = .ok (.iload_n 3, 1) := by decide +kernel
theorem dX3_bestTornString_62 : decode cX3_bestTornString 62 = .ok (.if_icmp .ne 29, 3) := by decide +kernel
theorem dX3_bestTornString_65 : decode cX3_bestTornString 65 = .ok (.iload 9, 2) := by decide +kernel
theorem dX3_bestTornString_67 : decode cX3_bestTornString 67 = .ok (.iload 4, 2) := by decide +kernel
theorem dX3_bestTornString_69 : decode cX3_bestTornString 69 = .ok (.if_icmp .ge 22, 3) := by decide +kernel
theorem dX3_bestTornString_72 : decode cX3_bestTornString 72 = .ok (.iload_n 1, 1) := by decide +kernel
theorem dX3_bestTornString_73 : decode cX3_bestTornString 73 = .ok (.ifCond .eq 8, 3) := by decide +kernel
theorem dX3_bestTornString_76 : decode cX3_bestTornString 76 = .ok (.iload 7, 2) := by decide +kernel
theorem dX3_bestTornString_78 : decode cX3_bestTornString 78 = .ok (.goto 5, 3) := by decide +kernel
theorem dX3_bestTornString_81 : decode cX3_bestTornString 81 = .ok (.iload 5, 2) := by decide +kernel
theorem dX3_bestTornString_83 : decode cX3_bestTornString 83 = .ok (.istore_n 2, 1) := by decide +kernel
theorem dX3_bestTornString_84 : decode cX3_bestTornString 84 = .ok (.iload 8, 2) := by decide +kernel
theorem dX3_bestTornString_86 : decode cX3_bestTornString 86 = .ok (.istore_n 3, 1) := by decide +kernel
theorem dX3_bestTornString_87 : decode cX3_bestTornString 87 = .ok (.iload 9, 2) := by decide +kernel
theorem dX3_bestTornString_89 : decode cX3_bestTornString 89 = .ok (.istore 4, 2) := by decide +kernel
theorem dX3_bestTornString_91 : decode cX3_bestTornString 91 = .ok (.iinc 6 5, 3) := by decide +kernel
theorem dX3_bestTornString_94 : decode cX3_bestTornString 94 = .ok (.goto (-74), 3) := by decide +kernel
theorem dX3_bestTornString_97 : decode cX3_bestTornString 97 = .ok (.iinc 5 1, 3) := by decide +kernel
theorem dX3_bestTornString_100 : decode cX3_bestTornString 100 = .ok (.goto (-90), 3) := by decide +kernel
theorem dX3_bestTornString_103 : decode cX3_bestTornString 103 = .ok (.iload_n 2, 1) := by decide +kernel
theorem dX3_bestTornString_104 : decode cX3_bestTornString 104 = .ok (.ireturn, 1) := by decide +kernel
theorem dX3_hasStringOutOf_0 : decode cX3_hasStringOutOf 0 = .ok (.iload_n 1, 1) := by decide +kernel
theorem dX3_hasStringOutOf_1 : decode cX3_hasStringOutOf 1 = .ok (.aload_n 0, 1) := by decide +kernel
theorem dX3_hasStringOutOf_2 : decode cX3_hasStringOutOf 2 = .ok (.invokevirtual 52, 3) := by decide +kernel
theorem dX3_hasStringOutOf_5 : decode cX3_hasStringOutOf 5 = .ok (.aload_n 0, 1) := by decide +kernel
theorem dX3_hasStringOutOf_6 : decode cX3_hasStringOutOf 6 = .ok (.invokevirtual 60, 3) := by decide +kernel
theorem dX3_hasStringOutOf_9 : decode cX3_hasStringOutOf 9 = .ok (.invokestatic 66, 3) := by decide +kernel
theorem dX3_hasStringOutOf_12 : decode cX3_hasStringOutOf 12 = .ok (.aload_n 0, 1) := by decide +kernel
theorem dX3_hasStringOutOf_13 : decode cX3_hasStringOutOf 13 = .ok (.invokevirtual 63, 3) := by decide +kernel
theorem dX3_hasStringOutOf_16 : decode cX3_hasStringOutOf 16 = .ok (.iand, 1) := by decide +kernel
theorem dX3_hasStringOutOf_17 : decode cX3_hasStringOutOf 17 = .ok (.iload_n 1, 1) := by decide +kernel
theorem dX3_hasStringOutOf_18 : decode cX3_hasStringOutOf 18 = .ok (.iconst (-1), 1) := by decide +kernel
theorem dX3_hasStringOutOf_19 : decode cX3_hasStringOutOf 19 = .ok (.ixor, 1) := by decide +kernel
theorem dX3_hasStringOutOf_20 : decode cX3_hasStringOutOf 20 = .ok (.iand, 1) := by decide +kernel
theorem dX3_hasStringOutOf_21 : decode cX3_hasStringOutOf 21 = .ok (.ifCond .eq 7, 3) := by decide +kernel
theorem dX3_hasStringOutOf_24 : decode cX3_hasStringOutOf 24 = .ok (.iconst 1, 1) := by decide +kernel
theorem dX3_hasStringOutOf_25 : decode cX3_hasStringOutOf 25 = .ok (.goto 4, 3) := by decide +kernel
theorem dX3_hasStringOutOf_28 : decode cX3_hasStringOutOf 28 = .ok (.iconst 0, 1) := by decide +kernel
theorem dX3_hasStringOutOf_29 : decode cX3_hasStringOutOf 29 = .ok (.ireturn, 1) := by decide +kernel
theorem dX3_leastByStrings_0 : decode cX3_leastByStrings 0 = .ok (.aload_n 2, 1) := by decide +kernel
theorem dX3_leastByStrings_1 : decode cX3_leastByStrings 1 = .ok (.invokevirtual 75, 3) := by decide +kernel
theorem dX3_leastByStrings_4 : decode cX3_leastByStrings 4 = .ok (.aload_n 2, 1) := by decide +kernel
theorem dX3_leastByStrings_5 : decode cX3_leastByStrings 5 = .ok (.iload_n 1, 1) := by decide +kernel
theorem dX3_leastByStrings_6 : decode cX3_leastByStrings 6 = .ok (.aload_n 0, 1) := by decide +kernel
theorem dX3_leastByStrings_7 : decode cX3_leastByStrings 7 = .ok (.invokevirtual 52, 3) := by decide +kernel
theorem dX3_leastByStrings_10 : decode cX3_leastByStrings 10 = .ok (.iconst 1, 1) := by decide +kernel
theorem dX3_leastByStrings_11 : decode cX3_leastByStrings 11 = .ok (.invokestatic 56, 3) := by decide +kernel
theorem dX3_leastByStrings_14 : decode cX3_leastByStrings 14 = .ok (.iconst 1, 1) := by decide +kernel
theorem dX3_leastByStrings_15 : decode cX3_leastByStrings 15 = .ok (.invokevirtual 80, 3) := by decide +kernel
theorem dX3_leastByStrings_18 : decode cX3_leastByStrings 18 = .ok (.pop, 1) := by decide +kernel
theorem dX3_leastByStrings_19 : decode cX3_leastByStrings 19 = .ok (.aload_n 2, 1) := by decide +kernel
theorem dX3_leastByStrings_20 : decode cX3_leastByStrings 20 = .ok (.iload_n 1, 1) := by decide +kernel
theorem dX3_leastByStrings_21 : decode cX3_leastByStrings 21 = .ok (.aload_n 0, 1) := by decide +kernel
theorem dX3_leastByStrings_22 : decode cX3_leastByStrings 22 = .ok (.invokevirtual 60, 3) := by decide +kernel
theorem dX3_leastByStrings_25 : decode cX3_leastByStrings 25 = .ok (.bipush 6, 2) := by decide +kernel
theorem dX3_leastByStrings_27 : decode cX3_leastByStrings 27 = .ok (.invokestatic 56, 3) := by decide +kernel
theorem dX3_leastByStrings_30 : decode cX3_leastByStrings 30 = .ok (.bipush 6, 2) := by decide +kernel
theorem dX3_leastByStrings_32 : decode cX3_leastByStrings 32 = .ok (.invokevirtual 80, 3) := by decide +kernel
theorem dX3_leastByStrings_35 : decode cX3_leastByStrings 35 = .ok (.pop, 1) := by decide +kernel
theorem dX3_leastByStrings_36 : decode cX3_leastByStrings 36 = .ok (.iconst 1, 1) := by decide +kernel
theorem dX3_leastByStrings_37 : decode cX3_leastByStrings 37 = .ok (.aload_n 2, 1) := by decide +kernel
theorem dX3_leastByStrings_38 : decode cX3_leastByStrings 38 = .ok (.iload_n 1, 1) := by decide +kernel
theorem dX3_leastByStrings_39 : decode cX3_leastByStrings 39 = .ok (.aload_n 0, 1) := by decide +kernel
theorem dX3_leastByStrings_40 : decode cX3_leastByStrings 40 = .ok (.getfield 18, 3) := by decide +kernel
theorem dX3_leastByStrings_43 : decode cX3_leastByStrings 43 = .ok (.iconst 1, 1) := by decide +kernel
theorem dX3_leastByStrings_44 : decode cX3_leastByStrings 44 = .ok (.invokestatic 56, 3) := by decide +kernel
theorem dX3_leastByStrings_47 : decode cX3_leastByStrings 47 = .ok (.iconst 1, 1) := by decide +kernel
theorem dX3_leastByStrings_48 : decode cX3_leastByStrings 48 = .ok (.invokevirtual 80, 3) := by decide +kernel
theorem dX3_leastByStrings_51 : decode cX3_leastByStrings 51 = .ok (.imul, 1) := by decide +kernel
theorem dX3_leastByStrings_52 : decode cX3_leastByStrings 52 = .ok (.iconst 2, 1) := by decide +kernel
theorem dX3_leastByStrings_53 : decode cX3_leastByStrings 53 = .ok (.aload_n 2, 1) := by decide +kernel
theorem dX3_leastByStrings_54 : decode cX3_leastByStrings 54 = .ok (.iload_n 1, 1) := by decide +kernel
theorem dX3_leastByStrings_55 : decode cX3_leastByStrings 55 = .ok (.aload_n 0, 1) := by decide +kernel
theorem dX3_leastByStrings_56 : decode cX3_leastByStrings 56 = .ok (.getfield 21, 3) := by decide +kernel
theorem dX3_leastByStrings_59 : decode cX3_leastByStrings 59 = .ok (.bipush 6, 2) := by decide +kernel
theorem dX3_leastByStrings_61 : decode cX3_leastByStrings 61 = .ok (.invokestatic 56, 3) := by decide +kernel
theorem dX3_leastByStrings_64 : decode cX3_leastByStrings 64 = .ok (.bipush 6, 2) := by decide +kernel
theorem dX3_leastByStrings_66 : decode cX3_leastByStrings 66 = .ok (.invokevirtual 80, 3) := by decide +kernel
theorem dX3_leastByStrings_69 : decode cX3_leastByStrings 69 = .ok (.imul, 1) := by decide +kernel
theorem dX3_leastByStrings_70 : decode cX3_leastByStrings 70 = .ok (.iadd, 1) := by decide +kernel
theorem dX3_leastByStrings_71 : decode cX3_leastByStrings 71 = .ok (.ireturn, 1) := by decide +kernel
theorem dX3_leastByPlaces_0 : decode cX3_leastByPlaces 0 = .ok (.iload_n 1, 1) := by decide +kernel
theorem dX3_leastByPlaces_1 : decode cX3_leastByPlaces 1 = .ok (.iload_n 1, 1) := by decide +kernel
theorem dX3_leastByPlaces_2 : decode cX3_leastByPlaces 2 = .ok (.ineg, 1) := by decide +kernel
theorem dX3_leastByPlaces_3 : decode cX3_leastByPlaces 3 = .ok (.iand, 1) := by decide +kernel
theorem dX3_leastByPlaces_4 : decode cX3_leastByPlaces 4 = .ok (.istore_n 2, 1) := by decide +kernel
theorem dX3_leastByPlaces_5 : decode cX3_leastByPlaces 5 = .ok (.iconst 0, 1) := by decide +kernel
theorem dX3_leastByPlaces_6 : decode cX3_leastByPlaces 6 = .ok (.istore_n 3, 1) := by decide +kernel
theorem dX3_leastByPlaces_7 : decode cX3_leastByPlaces 7 = .ok (.iconst 0, 1) := by decide +kernel
theorem dX3_leastByPlaces_8 : decode cX3_leastByPlaces 8 = .ok (.istore 4, 2) := by decide +kernel
theorem dX3_leastByPlaces_10 : decode cX3_leastByPlaces 10 = .ok (.iload 4, 2) := by decide +kernel
theorem dX3_leastByPlaces_12 : decode cX3_leastByPlaces 12 = .ok (.bipush 24, 2) := by decide +kernel
theorem dX3_leastByPlaces_14 : decode cX3_leastByPlaces 14 = .ok (.if_icmp .ge 99, 3) := by decide +kernel
theorem dX3_leastByPlaces_17 : decode cX3_leastByPlaces 17 = .ok (.iload_n 2, 1) := by decide +kernel
theorem dX3_leastByPlaces_18 : decode cX3_leastByPlaces 18 = .ok (.iload_n 1, 1) := by decide +kernel
theorem dX3_leastByPlaces_19 : decode cX3_leastByPlaces 19 = .ok (.if_icmp .eq 94, 3) := by decide +kernel
theorem dX3_leastByPlaces_22 : decode cX3_leastByPlaces 22 = .ok (.iload_n 1, 1) := by decide +kernel
theorem dX3_leastByPlaces_23 : decode cX3_leastByPlaces 23 = .ok (.iload_n 2, 1) := by decide +kernel
theorem dX3_leastByPlaces_24 : decode cX3_leastByPlaces 24 = .ok (.iconst (-1), 1) := by decide +kernel
theorem dX3_leastByPlaces_25 : decode cX3_leastByPlaces 25 = .ok (.ixor, 1) := by decide +kernel
theorem dX3_leastByPlaces_26 : decode cX3_leastByPlaces 26 = .ok (.iand, 1) := by decide +kernel
theorem dX3_leastByPlaces_27 : decode cX3_leastByPlaces 27 = .ok (.istore 5, 2) := by decide +kernel
theorem dX3_leastByPlaces_29 : decode cX3_leastByPlaces 29 = .ok (.iload_n 2, 1) := by decide +kernel
theorem dX3_leastByPlaces_30 : decode cX3_leastByPlaces 30 = .ok (.aload_n 0, 1) := by decide +kernel
theorem dX3_leastByPlaces_31 : decode cX3_leastByPlaces 31 = .ok (.invokevirtual 52, 3) := by decide +kernel
theorem dX3_leastByPlaces_34 : decode cX3_leastByPlaces 34 = .ok (.aload_n 0, 1) := by decide +kernel
theorem dX3_leastByPlaces_35 : decode cX3_leastByPlaces 35 = .ok (.invokevirtual 60, 3) := by decide +kernel
theorem dX3_leastByPlaces_38 : decode cX3_leastByPlaces 38 = .ok (.invokestatic 66, 3) := by decide +kernel
theorem dX3_leastByPlaces_41 : decode cX3_leastByPlaces 41 = .ok (.iload 5, 2) := by decide +kernel
theorem dX3_leastByPlaces_43 : decode cX3_leastByPlaces 43 = .ok (.iand, 1) := by decide +kernel
theorem dX3_leastByPlaces_44 : decode cX3_leastByPlaces 44 = .ok (.istore 6, 2) := by decide +kernel
theorem dX3_leastByPlaces_46 : decode cX3_leastByPlaces 46 = .ok (.iconst 0, 1) := by decide +kernel
theorem dX3_leastByPlaces_47 : decode cX3_leastByPlaces 47 = .ok (.istore 7, 2) := by decide +kernel
theorem dX3_leastByPlaces_49 : decode cX3_leastByPlaces 49 = .ok (.iload 6, 2) := by decide +kernel
theorem dX3_leastByPlaces_51 : decode cX3_leastByPlaces 51 = .ok (.ifCond .ne 20, 3) := by decide +kernel
theorem dX3_leastByPlaces_54 : decode cX3_leastByPlaces 54 = .ok (.iload_n 2, 1) := by decide +kernel
theorem dX3_leastByPlaces_55 : decode cX3_leastByPlaces 55 = .ok (.aload_n 0, 1) := by decide +kernel
theorem dX3_leastByPlaces_56 : decode cX3_leastByPlaces 56 = .ok (.getfield 18, 3) := by decide +kernel
theorem dX3_leastByPlaces_59 : decode cX3_leastByPlaces 59 = .ok (.iconst 0, 1) := by decide +kernel
theorem dX3_leastByPlaces_60 : decode cX3_leastByPlaces 60 = .ok (.invokestatic 66, 3) := by decide +kernel
theorem dX3_leastByPlaces_63 : decode cX3_leastByPlaces 63 = .ok (.iload 5, 2) := by decide +kernel
theorem dX3_leastByPlaces_65 : decode cX3_leastByPlaces 65 = .ok (.iand, 1) := by decide +kernel
theorem dX3_leastByPlaces_66 : decode cX3_leastByPlaces 66 = .ok (.istore 6, 2) := by decide +kernel
theorem dX3_leastByPlaces_68 : decode cX3_leastByPlaces 68 = .ok (.iconst 1, 1) := by decide +kernel
theorem dX3_leastByPlaces_69 : decode cX3_leastByPlaces 69 = .ok (.istore 7, 2) := by decide +kernel
theorem dX3_leastByPlaces_71 : decode cX3_leastByPlaces 71 = .ok (.iload 6, 2) := by decide +kernel
theorem dX3_leastByPlaces_73 : decode cX3_leastByPlaces 73 = .ok (.ifCond .ne 20, 3) := by decide +kernel
theorem dX3_leastByPlaces_76 : decode cX3_leastByPlaces 76 = .ok (.iload_n 2, 1) := by decide +kernel
theorem dX3_leastByPlaces_77 : decode cX3_leastByPlaces 77 = .ok (.iconst 0, 1) := by decide +kernel
theorem dX3_leastByPlaces_78 : decode cX3_leastByPlaces 78 = .ok (.aload_n 0, 1) := by decide +kernel
theorem dX3_leastByPlaces_79 : decode cX3_leastByPlaces 79 = .ok (.getfield 21, 3) := by decide +kernel
theorem dX3_leastByPlaces_82 : decode cX3_leastByPlaces 82 = .ok (.invokestatic 66, 3) := by decide +kernel
theorem dX3_leastByPlaces_85 : decode cX3_leastByPlaces 85 = .ok (.iload 5, 2) := by decide +kernel
theorem dX3_leastByPlaces_87 : decode cX3_leastByPlaces 87 = .ok (.iand, 1) := by decide +kernel
theorem dX3_leastByPlaces_88 : decode cX3_leastByPlaces 88 = .ok (.istore 6, 2) := by decide +kernel
theorem dX3_leastByPlaces_90 : decode cX3_leastByPlaces 90 = .ok (.iconst 2, 1) := by decide +kernel
theorem dX3_leastByPlaces_91 : decode cX3_leastByPlaces 91 = .ok (.istore 7, 2) := by decide +kernel
theorem dX3_leastByPlaces_93 : decode cX3_leastByPlaces 93 = .ok (.iload_n 2, 1) := by decide +kernel
theorem dX3_leastByPlaces_94 : decode cX3_leastByPlaces 94 = .ok (.iload 6, 2) := by decide +kernel
theorem dX3_leastByPlaces_96 : decode cX3_leastByPlaces 96 = .ok (.iload 6, 2) := by decide +kernel
theorem dX3_leastByPlaces_98 : decode cX3_leastByPlaces 98 = .ok (.ineg, 1) := by decide +kernel
theorem dX3_leastByPlaces_99 : decode cX3_leastByPlaces 99 = .ok (.iand, 1) := by decide +kernel
theorem dX3_leastByPlaces_100 : decode cX3_leastByPlaces 100 = .ok (.ior, 1) := by decide +kernel
theorem dX3_leastByPlaces_101 : decode cX3_leastByPlaces 101 = .ok (.istore_n 2, 1) := by decide +kernel
theorem dX3_leastByPlaces_102 : decode cX3_leastByPlaces 102 = .ok (.iload_n 3, 1) := by decide +kernel
theorem dX3_leastByPlaces_103 : decode cX3_leastByPlaces 103 = .ok (.iload 7, 2) := by decide +kernel
theorem dX3_leastByPlaces_105 : decode cX3_leastByPlaces 105 = .ok (.iadd, 1) := by decide +kernel
theorem dX3_leastByPlaces_106 : decode cX3_leastByPlaces 106 = .ok (.istore_n 3, 1) := by decide +kernel
theorem dX3_leastByPlaces_107 : decode cX3_leastByPlaces 107 = .ok (.iinc 4 1, 3) := by decide +kernel
theorem dX3_leastByPlaces_110 : decode cX3_leastByPlaces 110 = .ok (.goto (-100), 3) := by decide +kernel
theorem dX3_leastByPlaces_113 : decode cX3_leastByPlaces 113 = .ok (.iload_n 3, 1) := by decide +kernel
theorem dX3_leastByPlaces_114 : decode cX3_leastByPlaces 114 = .ok (.ireturn, 1) := by decide +kernel
theorem dX3_writeLine_0 : decode cX3_writeLine 0 = .ok (.iconst 0, 1) := by decide +kernel
theorem dX3_writeLine_1 : decode cX3_writeLine 1 = .ok (.istore_n 3, 1) := by decide +kernel
theorem dX3_writeLine_2 : decode cX3_writeLine 2 = .ok (.iload_n 3, 1) := by decide +kernel
theorem dX3_writeLine_3 : decode cX3_writeLine 3 = .ok (.bipush 6, 2) := by decide +kernel
theorem dX3_writeLine_5 : decode cX3_writeLine 5 = .ok (.if_icmp .ge 72, 3) := by decide +kernel
theorem dX3_writeLine_8 : decode cX3_writeLine 8 = .ok (.iload_n 1, 1) := by decide +kernel
theorem dX3_writeLine_9 : decode cX3_writeLine 9 = .ok (.bipush 6, 2) := by decide +kernel
theorem dX3_writeLine_11 : decode cX3_writeLine 11 = .ok (.imul, 1) := by decide +kernel
theorem dX3_writeLine_12 : decode cX3_writeLine 12 = .ok (.iload_n 3, 1) := by decide +kernel
theorem dX3_writeLine_13 : decode cX3_writeLine 13 = .ok (.iadd, 1) := by decide +kernel
theorem dX3_writeLine_14 : decode cX3_writeLine 14 = .ok (.istore 4, 2) := by decide +kernel
theorem dX3_writeLine_16 : decode cX3_writeLine 16 = .ok (.iload_n 3, 1) := by decide +kernel
theorem dX3_writeLine_17 : decode cX3_writeLine 17 = .ok (.ifCond .le 27, 3) := by decide +kernel
theorem dX3_writeLine_20 : decode cX3_writeLine 20 = .ok (.aload_n 2, 1) := by decide +kernel
theorem dX3_writeLine_21 : decode cX3_writeLine 21 = .ok (.aload_n 0, 1) := by decide +kernel
theorem dX3_writeLine_22 : decode cX3_writeLine 22 = .ok (.iload 4, 2) := by decide +kernel
theorem dX3_writeLine_24 : decode cX3_writeLine 24 = .ok (.iconst 1, 1) := by decide +kernel
theorem dX3_writeLine_25 : decode cX3_writeLine 25 = .ok (.isub, 1) := by decide +kernel
theorem dX3_writeLine_26 : decode cX3_writeLine 26 = .ok (.iload 4, 2) := by decide +kernel
theorem dX3_writeLine_28 : decode cX3_writeLine 28 = .ok (.invokevirtual 89, 3) := by decide +kernel
theorem dX3_writeLine_31 : decode cX3_writeLine 31 = .ok (.ifCond .eq 8, 3) := by decide +kernel
theorem dX3_writeLine_34 : decode cX3_writeLine 34 = .ok (.bipush 47, 2) := by decide +kernel
theorem dX3_writeLine_36 : decode cX3_writeLine 36 = .ok (.goto 5, 3) := by decide +kernel
theorem dX3_writeLine_39 : decode cX3_writeLine 39 = .ok (.bipush 45, 2) := by decide +kernel
theorem dX3_writeLine_41 : decode cX3_writeLine 41 = .ok (.invokevirtual 98, 3) := by decide +kernel
theorem dX3_writeLine_44 : decode cX3_writeLine 44 = .ok (.aload_n 0, 1) := by decide +kernel
theorem dX3_writeLine_45 : decode cX3_writeLine 45 = .ok (.iload 4, 2) := by decide +kernel
theorem dX3_writeLine_47 : decode cX3_writeLine 47 = .ok (.invokevirtual 104, 3) := by decide +kernel
theorem dX3_writeLine_50 : decode cX3_writeLine 50 = .ok (.istore 5, 2) := by decide +kernel
theorem dX3_writeLine_52 : decode cX3_writeLine 52 = .ok (.aload_n 2, 1) := by decide +kernel
theorem dX3_writeLine_53 : decode cX3_writeLine 53 = .ok (.iload 5, 2) := by decide +kernel
theorem dX3_writeLine_55 : decode cX3_writeLine 55 = .ok (.ifCond .ne 8, 3) := by decide +kernel
theorem dX3_writeLine_58 : decode cX3_writeLine 58 = .ok (.bipush 46, 2) := by decide +kernel
theorem dX3_writeLine_60 : decode cX3_writeLine 60 = .ok (.goto 8, 3) := by decide +kernel
theorem dX3_writeLine_63 : decode cX3_writeLine 63 = .ok (.iload 5, 2) := by decide +kernel
theorem dX3_writeLine_65 : decode cX3_writeLine 65 = .ok (.invokestatic 107, 3) := by decide +kernel
theorem dX3_writeLine_68 : decode cX3_writeLine 68 = .ok (.invokevirtual 98, 3) := by decide +kernel
theorem dX3_writeLine_71 : decode cX3_writeLine 71 = .ok (.iinc 3 1, 3) := by decide +kernel
theorem dX3_writeLine_74 : decode cX3_writeLine 74 = .ok (.goto (-72), 3) := by decide +kernel
theorem dX3_writeLine_77 : decode cX3_writeLine 77 = .ok (.return_, 1) := by decide +kernel
theorem dX4_init_0 : decode cX4_init 0 = .ok (.aload_n 0, 1) := by decide +kernel
theorem dX4_init_1 : decode cX4_init 1 = .ok (.invokespecial 1, 3) := by decide +kernel
theorem dX4_init_4 : decode cX4_init 4 = .ok (.aload_n 0, 1) := by decide +kernel
theorem dX4_init_5 : decode cX4_init 5 = .ok (.iconst 0, 1) := by decide +kernel
theorem dX4_init_6 : decode cX4_init 6 = .ok (.putfield 7, 3) := by decide +kernel
theorem dX4_init_9 : decode cX4_init 9 = .ok (.aload_n 0, 1) := by decide +kernel
theorem dX4_init_10 : decode cX4_init 10 = .ok (.iconst 0, 1) := by decide +kernel
theorem dX4_init_11 : decode cX4_init 11 = .ok (.putfield 13, 3) := by decide +kernel
theorem dX4_init_14 : decode cX4_init 14 = .ok (.aload_n 0, 1) := by decide +kernel
theorem dX4_init_15 : decode cX4_init 15 = .ok (.iconst 0, 1) := by decide +kernel
theorem dX4_init_16 : decode cX4_init 16 = .ok (.putfield 16, 3) := by decide +kernel
theorem dX4_init_19 : decode cX4_init 19 = .ok (.return_, 1) := by decide +kernel
theorem dX4_copyFrom_0 : decode cX4_copyFrom 0 = .ok (.aload_n 0, 1) := by decide +kernel
theorem dX4_copyFrom_1 : decode cX4_copyFrom 1 = .ok (.aload_n 1, 1) := by decide +kernel
theorem dX4_copyFrom_2 : decode cX4_copyFrom 2 = .ok (.getfield 7, 3) := by decide +kernel
theorem dX4_copyFrom_5 : decode cX4_copyFrom 5 = .ok (.putfield 7, 3) := by decide +kernel
theorem dX4_copyFrom_8 : decode cX4_copyFrom 8 = .ok (.aload_n 0, 1) := by decide +kernel
theorem dX4_copyFrom_9 : decode cX4_copyFrom 9 = .ok (.aload_n 1, 1) := by decide +kernel
theorem dX4_copyFrom_10 : decode cX4_copyFrom 10 = .ok (.getfield 13, 3) := by decide +kernel
theorem dX4_copyFrom_13 : decode cX4_copyFrom 13 = .ok (.putfield 13, 3) := by decide +kernel
theorem dX4_copyFrom_16 : decode cX4_copyFrom 16 = .ok (.aload_n 0, 1) := by decide +kernel
theorem dX4_copyFrom_17 : decode cX4_copyFrom 17 = .ok (.aload_n 1, 1) := by decide +kernel
theorem dX4_copyFrom_18 : decode cX4_copyFrom 18 = .ok (.getfield 16, 3) := by decide +kernel
theorem dX4_copyFrom_21 : decode cX4_copyFrom 21 = .ok (.putfield 16, 3) := by decide +kernel
theorem dX4_copyFrom_24 : decode cX4_copyFrom 24 = .ok (.return_, 1) := by decide +kernel
theorem dX4_places_0 : decode cX4_places 0 = .ok (.aload_n 0, 1) := by decide +kernel
theorem dX4_places_1 : decode cX4_places 1 = .ok (.getfield 13, 3) := by decide +kernel
theorem dX4_places_4 : decode cX4_places 4 = .ok (.aload_n 0, 1) := by decide +kernel
theorem dX4_places_5 : decode cX4_places 5 = .ok (.getfield 16, 3) := by decide +kernel
theorem dX4_places_8 : decode cX4_places 8 = .ok (.ior, 1) := by decide +kernel
theorem dX4_places_9 : decode cX4_places 9 = .ok (.ireturn, 1) := by decide +kernel
theorem dX4_isOf_0 : decode cX4_isOf 0 = .ok (.aload_n 1, 1) := by decide +kernel
theorem dX4_isOf_1 : decode cX4_isOf 1 = .ok (.getfield 19, 3) := by decide +kernel
theorem dX4_isOf_4 : decode cX4_isOf 4 = .ok (.iload_n 2, 1) := by decide +kernel
theorem dX4_isOf_5 : decode cX4_isOf 5 = .ok (.iand, 1) := by decide +kernel
theorem dX4_isOf_6 : decode cX4_isOf 6 = .ok (.aload_n 0, 1) := by decide +kernel
theorem dX4_isOf_7 : decode cX4_isOf 7 = .ok (.getfield 13, 3) := by decide +kernel
theorem dX4_isOf_10 : decode cX4_isOf 10 = .ok (.if_icmp .ne 20, 3) := by decide +kernel
theorem dX4_isOf_13 : decode cX4_isOf 13 = .ok (.aload_n 1, 1) := by decide +kernel
theorem dX4_isOf_14 : decode cX4_isOf 14 = .ok (.getfield 22, 3) := by decide +kernel
theorem dX4_isOf_17 : decode cX4_isOf 17 = .ok (.iload_n 2, 1) := by decide +kernel
theorem dX4_isOf_18 : decode cX4_isOf 18 = .ok (.iand, 1) := by decide +kernel
theorem dX4_isOf_19 : decode cX4_isOf 19 = .ok (.aload_n 0, 1) := by decide +kernel
theorem dX4_isOf_20 : decode cX4_isOf 20 = .ok (.getfield 16, 3) := by decide +kernel
theorem dX4_isOf_23 : decode cX4_isOf 23 = .ok (.if_icmp .ne 7, 3) := by decide +kernel
theorem dX4_isOf_26 : decode cX4_isOf 26 = .ok (.iconst 1, 1) := by decide +kernel
theorem dX4_isOf_27 : decode cX4_isOf 27 = .ok (.goto 4, 3) := by decide +kernel
theorem dX4_isOf_30 : decode cX4_isOf 30 = .ok (.iconst 0, 1) := by decide +kernel
theorem dX4_isOf_31 : decode cX4_isOf 31 = .ok (.ireturn, 1) := by decide +kernel
theorem dX5_init_0 : decode cX5_init 0 = .ok (.aload_n 0, 1) := by decide +kernel
theorem dX5_init_1 : decode cX5_init 1 = .ok (.invokespecial 3, 3) := by decide +kernel
theorem dX5_init_4 : decode cX5_init 4 = .ok (.aload_n 0, 1) := by decide +kernel
theorem dX5_init_5 : decode cX5_init 5 = .ok (.bipush 24, 2) := by decide +kernel
theorem dX5_init_7 : decode cX5_init 7 = .ok (.newarray .int, 2) := by decide +kernel
theorem dX5_init_9 : decode cX5_init 9 = .ok (.putfield 9, 3) := by decide +kernel
theorem dX5_init_12 : decode cX5_init 12 = .ok (.return_, 1) := by decide +kernel
theorem dX5_separate_0 : decode cX5_separate 0 = .ok (.iconst 0, 1) := by decide +kernel
theorem dX5_separate_1 : decode cX5_separate 1 = .ok (.istore_n 1, 1) := by decide +kernel
theorem dX5_separate_2 : decode cX5_separate 2 = .ok (.iload_n 1, 1) := by decide +kernel
theorem dX5_separate_3 : decode cX5_separate 3 = .ok (.bipush 24, 2) := by decide +kernel
theorem dX5_separate_5 : decode cX5_separate 5 = .ok (.if_icmp .ge 16, 3) := by decide +kernel
theorem dX5_separate_8 : decode cX5_separate 8 = .ok (.aload_n 0, 1) := by decide +kernel
theorem dX5_separate_9 : decode cX5_separate 9 = .ok (.getfield 9, 3) := by decide +kernel
theorem dX5_separate_12 : decode cX5_separate 12 = .ok (.iload_n 1, 1) := by decide +kernel
theorem dX5_separate_13 : decode cX5_separate 13 = .ok (.iload_n 1, 1) := by decide +kernel
theorem dX5_separate_14 : decode cX5_separate 14 = .ok (.iastore, 1) := by decide +kernel
theorem dX5_separate_15 : decode cX5_separate 15 = .ok (.iinc 1 1, 3) := by decide +kernel
theorem dX5_separate_18 : decode cX5_separate 18 = .ok (.goto (-16), 3) := by decide +kernel
theorem dX5_separate_21 : decode cX5_separate 21 = .ok (.return_, 1) := by decide +kernel
theorem dX5_joinAll_0 : decode cX5_joinAll 0 = .ok (.iconst 0, 1) := by decide +kernel
theorem dX5_joinAll_1 : decode cX5_joinAll 1 = .ok (.istore_n 3, 1) := by decide +kernel
theorem dX5_joinAll_2 : decode cX5_joinAll 2 = .ok (.iconst 0, 1) := by decide +kernel
theorem dX5_joinAll_3 : decode cX5_joinAll 3 = .ok (.istore 4, 2) := by decide +kernel
theorem dX5_joinAll_5 : decode cX5_joinAll 5 = .ok (.iload 4, 2) := by decide +kernel
theorem dX5_joinAll_7 : decode cX5_joinAll 7 = .ok (.bipush 24, 2) := by decide +kernel
theorem dX5_joinAll_9 : decode cX5_joinAll 9 = .ok (.if_icmp .ge 34, 3) := by decide +kernel
theorem dX5_joinAll_12 : decode cX5_joinAll 12 = .ok (.iload_n 1, 1) := by decide +kernel
theorem dX5_joinAll_13 : decode cX5_joinAll 13 = .ok (.iload 4, 2) := by decide +kernel
theorem dX5_joinAll_15 : decode cX5_joinAll 15 = .ok (.invokestatic 15, 3) := by decide +kernel
theorem dX5_joinAll_18 : decode cX5_joinAll 18 = .ok (.ifCond .eq 19, 3) := by decide +kernel
theorem dX5_joinAll_21 : decode cX5_joinAll 21 = .ok (.aload_n 0, 1) := by decide +kernel
theorem dX5_joinAll_22 : decode cX5_joinAll 22 = .ok (.iload 4, 2) := by decide +kernel
theorem dX5_joinAll_24 : decode cX5_joinAll 24 = .ok (.iload 4, 2) := by decide +kernel
theorem dX5_joinAll_26 : decode cX5_joinAll 26 = .ok (.iload_n 2, 1) := by decide +kernel
theorem dX5_joinAll_27 : decode cX5_joinAll 27 = .ok (.iadd, 1) := by decide +kernel
theorem dX5_joinAll_28 : decode cX5_joinAll 28 = .ok (.invokevirtual 19, 3) := by decide +kernel
theorem dX5_joinAll_31 : decode cX5_joinAll 31 = .ok (.ifCond .eq 6, 3) := by decide +kernel
theorem dX5_joinAll_34 : decode cX5_joinAll 34 = .ok (.iinc 3 1, 3) := by decide +kernel
theorem dX5_joinAll_37 : decode cX5_joinAll 37 = .ok (.iinc 4 1, 3) := by decide +kernel
theorem dX5_joinAll_40 : decode cX5_joinAll 40 = .ok (.goto (-35), 3) := by decide +kernel
theorem dX5_joinAll_43 : decode cX5_joinAll 43 = .ok (.iload_n 3, 1) := by decide +kernel
theorem dX5_joinAll_44 : decode cX5_joinAll 44 = .ok (.ireturn, 1) := by decide +kernel
theorem dX5_join_0 : decode cX5_join 0 = .ok (.iload_n 1, 1) := by decide +kernel
theorem dX5_join_1 : decode cX5_join 1 = .ok (.invokestatic 22, 3) := by decide +kernel
theorem dX5_join_4 : decode cX5_join 4 = .ok (.ifCond .eq 25, 3) := by decide +kernel
theorem dX5_join_7 : decode cX5_join 7 = .ok (.iload_n 2, 1) := by decide +kernel
theorem dX5_join_8 : decode cX5_join 8 = .ok (.invokestatic 22, 3) := by decide +kernel
theorem dX5_join_11 : decode cX5_join 11 = .ok (.ifCond .eq 18, 3) := by decide +kernel
theorem dX5_join_14 : decode cX5_join 14 = .ok (.aload_n 0, 1) := by decide +kernel
theorem dX5_join_15 : decode cX5_join 15 = .ok (.getfield 9, 3) := by decide +kernel
theorem dX5_join_18 : decode cX5_join 18 = .ok (.iload_n 1, 1) := by decide +kernel
theorem dX5_join_19 : decode cX5_join 19 = .ok (.iaload, 1) := by decide +kernel
theorem dX5_join_20 : decode cX5_join 20 = .ok (.aload_n 0, 1) := by decide +kernel
theorem dX5_join_21 : decode cX5_join 21 = .ok (.getfield 9, 3) := by decide +kernel
theorem dX5_join_24 : decode cX5_join 24 = .ok (.iload_n 2, 1) := by decide +kernel
theorem dX5_join_25 : decode cX5_join 25 = .ok (.iaload, 1) := by decide +kernel
theorem dX5_join_26 : decode cX5_join 26 = .ok (.if_icmp .ne 5, 3) := by decide +kernel
theorem dX5_join_29 : decode cX5_join 29 = .ok (.iconst 0, 1) := by decide +kernel
theorem dX5_join_30 : decode cX5_join 30 = .ok (.ireturn, 1) := by decide +kernel
theorem dX5_join_31 : decode cX5_join 31 = .ok (.aload_n 0, 1) := by decide +kernel
theorem dX5_join_32 : decode cX5_join 32 = .ok (.getfield 9, 3) := by decide +kernel
theorem dX5_join_35 : decode cX5_join 35 = .ok (.iload_n 1, 1) := by decide +kernel
theorem dX5_join_36 : decode cX5_join 36 = .ok (.iaload, 1) := by decide +kernel
theorem dX5_join_37 : decode cX5_join 37 = .ok (.istore_n 3, 1) := by decide +kernel
theorem dX5_join_38 : decode cX5_join 38 = .ok (.aload_n 0, 1) := by decide +kernel
theorem dX5_join_39 : decode cX5_join 39 = .ok (.getfield 9, 3) := by decide +kernel
theorem dX5_join_42 : decode cX5_join 42 = .ok (.iload_n 2, 1) := by decide +kernel
theorem dX5_join_43 : decode cX5_join 43 = .ok (.iaload, 1) := by decide +kernel
theorem dX5_join_44 : decode cX5_join 44 = .ok (.istore 4, 2) := by decide +kernel
theorem dX5_join_46 : decode cX5_join 46 = .ok (.iconst 0, 1) := by decide +kernel
theorem dX5_join_47 : decode cX5_join 47 = .ok (.istore 5, 2) := by decide +kernel
theorem dX5_join_49 : decode cX5_join 49 = .ok (.iload 5, 2) := by decide +kernel
theorem dX5_join_51 : decode cX5_join 51 = .ok (.bipush 24, 2) := by decide +kernel
theorem dX5_join_53 : decode cX5_join 53 = .ok (.if_icmp .ge 29, 3) := by decide +kernel
theorem dX5_join_56 : decode cX5_join 56 = .ok (.aload_n 0, 1) := by decide +kernel
theorem dX5_join_57 : decode cX5_join 57 = .ok (.getfield 9, 3) := by decide +kernel
theorem dX5_join_60 : decode cX5_join 60 = .ok (.iload 5, 2) := by decide +kernel
theorem dX5_join_62 : decode cX5_join 62 = .ok (.iaload, 1) := by decide +kernel
theorem dX5_join_63 : decode cX5_join 63 = .ok (.iload 4, 2) := by decide +kernel
theorem dX5_join_65 : decode cX5_join 65 = .ok (.if_icmp .ne 11, 3) := by decide +kernel
theorem dX5_join_68 : decode cX5_join 68 = .ok (.aload_n 0, 1) := by decide +kernel
theorem dX5_join_69 : decode cX5_join 69 = .ok (.getfield 9, 3) := by decide +kernel
theorem dX5_join_72 : decode cX5_join 72 = .ok (.iload 5, 2) := by decide +kernel
theorem dX5_join_74 : decode cX5_join 74 = .ok (.iload_n 3, 1) := by decide +kernel
theorem dX5_join_75 : decode cX5_join 75 = .ok (.iastore, 1) := by decide +kernel
theorem dX5_join_76 : decode cX5_join 76 = .ok (.iinc 5 1, 3) := by decide +kernel
theorem dX5_join_79 : decode cX5_join 79 = .ok (.goto (-30), 3) := by decide +kernel
theorem dX5_join_82 : decode cX5_join 82 = .ok (.iconst 1, 1) := by decide +kernel
theorem dX5_join_83 : decode cX5_join 83 = .ok (.ireturn, 1) := by decide +kernel
theorem dX6_init_0 : decode cX6_init 0 = .ok (.aload_n 0, 1) := by decide +kernel
theorem dX6_init_1 : decode cX6_init 1 = .ok (.invokespecial 3, 3) := by decide +kernel
theorem dX6_init_4 : decode cX6_init 4 = .ok (.aload_n 0, 1) := by decide +kernel
theorem dX6_init_5 : decode cX6_init 5 = .ok (.iconst 0, 1) := by decide +kernel
theorem dX6_init_6 : decode cX6_init 6 = .ok (.putfield 9, 3) := by decide +kernel
theorem dX6_init_9 : decode cX6_init 9 = .ok (.aload_n 0, 1) := by decide +kernel
theorem dX6_init_10 : decode cX6_init 10 = .ok (.iconst 0, 1) := by decide +kernel
theorem dX6_init_11 : decode cX6_init 11 = .ok (.putfield 15, 3) := by decide +kernel
theorem dX6_init_14 : decode cX6_init 14 = .ok (.aload_n 0, 1) := by decide +kernel
theorem dX6_init_15 : decode cX6_init 15 = .ok (.iconst 0, 1) := by decide +kernel
theorem dX6_init_16 : decode cX6_init 16 = .ok (.putfield 18, 3) := by decide +kernel
theorem dX6_init_19 : decode cX6_init 19 = .ok (.aload_n 0, 1) := by decide +kernel
theorem dX6_init_20 : decode cX6_init 20 = .ok (.iconst 0, 1) := by decide +kernel
theorem dX6_init_21 : decode cX6_init 21 = .ok (.putfield 21, 3) := by decide +kernel
theorem dX6_init_24 : decode cX6_init 24 = .ok (.return_, 1) := by decide +kernel
theorem dX6_keepAlone_0 : decode cX6_keepAlone 0 = .ok (.aload_n 0, 1) := by decide +kernel
theorem dX6_keepAlone_1 : decode cX6_keepAlone 1 = .ok (.iload_n 1, 1) := by decide +kernel
theorem dX6_keepAlone_2 : decode cX6_keepAlone 2 = .ok (.putfield 9, 3) := by decide +kernel
theorem dX6_keepAlone_5 : decode cX6_keepAlone 5 = .ok (.aload_n 0, 1) := by decide +kernel
theorem dX6_keepAlone_6 : decode cX6_keepAlone 6 = .ok (.iload_n 2, 1) := by decide +kernel
theorem dX6_keepAlone_7 : decode cX6_keepAlone 7 = .ok (.putfield 15, 3) := by decide +kernel
theorem dX6_keepAlone_10 : decode cX6_keepAlone 10 = .ok (.aload_n 0, 1) := by decide +kernel
theorem dX6_keepAlone_11 : decode cX6_keepAlone 11 = .ok (.iconst 0, 1) := by decide +kernel
theorem dX6_keepAlone_12 : decode cX6_keepAlone 12 = .ok (.putfield 18, 3) := by decide +kernel
theorem dX6_keepAlone_15 : decode cX6_keepAlone 15 = .ok (.aload_n 0, 1) := by decide +kernel
theorem dX6_keepAlone_16 : decode cX6_keepAlone 16 = .ok (.iconst 0, 1) := by decide +kernel
theorem dX6_keepAlone_17 : decode cX6_keepAlone 17 = .ok (.putfield 21, 3) := by decide +kernel
theorem dX6_keepAlone_20 : decode cX6_keepAlone 20 = .ok (.return_, 1) := by decide +kernel
theorem dX6_keepOrder_0 : decode cX6_keepOrder 0 = .ok (.aload_n 0, 1) := by decide +kernel
theorem dX6_keepOrder_1 : decode cX6_keepOrder 1 = .ok (.bipush 9, 2) := by decide +kernel
theorem dX6_keepOrder_3 : decode cX6_keepOrder 3 = .ok (.putfield 9, 3) := by decide +kernel
theorem dX6_keepOrder_6 : decode cX6_keepOrder 6 = .ok (.aload_n 0, 1) := by decide +kernel
theorem dX6_keepOrder_7 : decode cX6_keepOrder 7 = .ok (.iload_n 1, 1) := by decide +kernel
theorem dX6_keepOrder_8 : decode cX6_keepOrder 8 = .ok (.putfield 15, 3) := by decide +kernel
theorem dX6_keepOrder_11 : decode cX6_keepOrder 11 = .ok (.aload_n 0, 1) := by decide +kernel
theorem dX6_keepOrder_12 : decode cX6_keepOrder 12 = .ok (.iload_n 2, 1) := by decide +kernel
theorem dX6_keepOrder_13 : decode cX6_keepOrder 13 = .ok (.putfield 18, 3) := by decide +kernel
theorem dX6_keepOrder_16 : decode cX6_keepOrder 16 = .ok (.aload_n 0, 1) := by decide +kernel
theorem dX6_keepOrder_17 : decode cX6_keepOrder 17 = .ok (.iload_n 3, 1) := by decide +kernel
theorem dX6_keepOrder_18 : decode cX6_keepOrder 18 = .ok (.putfield 21, 3) := by decide +kernel
theorem dX6_keepOrder_21 : decode cX6_keepOrder 21 = .ok (.return_, 1) := by decide +kernel
theorem dX7_init_0 : decode cX7_init 0 = .ok (.aload_n 0, 1) := by decide +kernel
theorem dX7_init_1 : decode cX7_init 1 = .ok (.invokespecial 3, 3) := by decide +kernel
theorem dX7_init_4 : decode cX7_init 4 = .ok (.aload_n 0, 1) := by decide +kernel
theorem dX7_init_5 : decode cX7_init 5 = .ok (.bipush 60, 2) := by decide +kernel
theorem dX7_init_7 : decode cX7_init 7 = .ok (.newarray .char, 2) := by decide +kernel
theorem dX7_init_9 : decode cX7_init 9 = .ok (.putfield 9, 3) := by decide +kernel
theorem dX7_init_12 : decode cX7_init 12 = .ok (.aload_n 0, 1) := by decide +kernel
theorem dX7_init_13 : decode cX7_init 13 = .ok (.iconst 0, 1) := by decide +kernel
theorem dX7_init_14 : decode cX7_init 14 = .ok (.putfield 15, 3) := by decide +kernel
theorem dX7_init_17 : decode cX7_init 17 = .ok (.aload_n 0, 1) := by decide +kernel
theorem dX7_init_18 : decode cX7_init 18 = .ok (.iconst 0, 1) := by decide +kernel
theorem dX7_init_19 : decode cX7_init 19 = .ok (.putfield 19, 3) := by decide +kernel
theorem dX7_init_22 : decode cX7_init 22 = .ok (.aload_n 0, 1) := by decide +kernel
theorem dX7_init_23 : decode cX7_init 23 = .ok (.bipush 9, 2) := by decide +kernel
theorem dX7_init_25 : decode cX7_init 25 = .ok (.newarray .int, 2) := by decide +kernel
theorem dX7_init_27 : decode cX7_init 27 = .ok (.putfield 22, 3) := by decide +kernel
theorem dX7_init_30 : decode cX7_init 30 = .ok (.aload_n 0, 1) := by decide +kernel
theorem dX7_init_31 : decode cX7_init 31 = .ok (.bipush 9, 2) := by decide +kernel
theorem dX7_init_33 : decode cX7_init 33 = .ok (.iconst 4, 1) := by decide +kernel
theorem dX7_init_34 : decode cX7_init 34 = .ok (.multianewarray 26 2, 4) := by decide +kernel
theorem dX7_init_38 : decode cX7_init 38 = .ok (.putfield 28, 3) := by decide +kernel
theorem dX7_init_41 : decode cX7_init 41 = .ok (.aload_n 0, 1) := by decide +kernel
theorem dX7_init_42 : decode cX7_init 42 = .ok (.iconst 0, 1) := by decide +kernel
theorem dX7_init_43 : decode cX7_init 43 = .ok (.putfield 31, 3) := by decide +kernel
theorem dX7_init_46 : decode cX7_init 46 = .ok (.return_, 1) := by decide +kernel
theorem dX7_isFull_0 : decode cX7_isFull 0 = .ok (.aload_n 0, 1) := by decide +kernel
theorem dX7_isFull_1 : decode cX7_isFull 1 = .ok (.getfield 15, 3) := by decide +kernel
theorem dX7_isFull_4 : decode cX7_isFull 4 = .ok (.bipush 60, 2) := by decide +kernel
theorem dX7_isFull_6 : decode cX7_isFull 6 = .ok (.if_icmp .lt 7, 3) := by decide +kernel
theorem dX7_isFull_9 : decode cX7_isFull 9 = .ok (.iconst 1, 1) := by decide +kernel
theorem dX7_isFull_10 : decode cX7_isFull 10 = .ok (.goto 4, 3) := by decide +kernel
theorem dX7_isFull_13 : decode cX7_isFull 13 = .ok (.iconst 0, 1) := by decide +kernel
theorem dX7_isFull_14 : decode cX7_isFull 14 = .ok (.ireturn, 1) := by decide +kernel
theorem dX7_append_0 : decode cX7_append 0 = .ok (.aload_n 0, 1) := by decide +kernel
theorem dX7_append_1 : decode cX7_append 1 = .ok (.getfield 15, 3) := by decide +kernel
theorem dX7_append_4 : decode cX7_append 4 = .ok (.ifCond .lt 32, 3) := by decide +kernel
theorem dX7_append_7 : decode cX7_append 7 = .ok (.aload_n 0, 1) := by decide +kernel
theorem dX7_append_8 : decode cX7_append 8 = .ok (.getfield 15, 3) := by decide +kernel
theorem dX7_append_11 : decode cX7_append 11 = .ok (.bipush 60, 2) := by decide +kernel
theorem dX7_append_13 : decode cX7_append 13 = .ok (.if_icmp .ge 23, 3) := by decide +kernel
theorem dX7_append_16 : decode cX7_append 16 = .ok (.aload_n 0, 1) := by decide +kernel
theorem dX7_append_17 : decode cX7_append 17 = .ok (.getfield 9, 3) := by decide +kernel
theorem dX7_append_20 : decode cX7_append 20 = .ok (.aload_n 0, 1) := by decide +kernel
theorem dX7_append_21 : decode cX7_append 21 = .ok (.getfield 15, 3) := by decide +kernel
theorem dX7_append_24 : decode cX7_append 24 = .ok (.iload_n 1, 1) := by decide +kernel
theorem dX7_append_25 : decode cX7_append 25 = .ok (.castore, 1) := by decide +kernel
theorem dX7_append_26 : decode cX7_append 26 = .ok (.aload_n 0, 1) := by decide +kernel
theorem dX7_append_27 : decode cX7_append 27 = .ok (.dup, 1) := by decide +kernel
theorem dX7_append_28 : decode cX7_append 28 = .ok (.getfield 15, 3) := by decide +kernel
theorem dX7_append_31 : decode cX7_append 31 = .ok (.iconst 1, 1) := by decide +kernel
theorem dX7_append_32 : decode cX7_append 32 = .ok (.iadd, 1) := by decide +kernel
theorem dX7_append_33 : decode cX7_append 33 = .ok (.putfield 15, 3) := by decide +kernel
theorem dX7_append_36 : decode cX7_append 36 = .ok (.return_, 1) := by decide +kernel
theorem dX7_clear_0 : decode cX7_clear 0 = .ok (.aload_n 0, 1) := by decide +kernel
theorem dX7_clear_1 : decode cX7_clear 1 = .ok (.iconst 0, 1) := by decide +kernel
theorem dX7_clear_2 : decode cX7_clear 2 = .ok (.putfield 15, 3) := by decide +kernel
theorem dX7_clear_5 : decode cX7_clear 5 = .ok (.return_, 1) := by decide +kernel
theorem dX7_wordAt_0 : decode cX7_wordAt 0 = .ok (.iload_n 1, 1) := by decide +kernel
theorem dX7_wordAt_1 : decode cX7_wordAt 1 = .ok (.ifCond .lt 18, 3) := by decide +kernel
theorem dX7_wordAt_4 : decode cX7_wordAt 4 = .ok (.iload_n 1, 1) := by decide +kernel
theorem dX7_wordAt_5 : decode cX7_wordAt 5 = .ok (.bipush 9, 2) := by decide +kernel
theorem dX7_wordAt_7 : decode cX7_wordAt 7 = .ok (.if_icmp .ge 12, 3) := by decide +kernel
theorem dX7_wordAt_10 : decode cX7_wordAt 10 = .ok (.aload_n 0, 1) := by decide +kernel
theorem dX7_wordAt_11 : decode cX7_wordAt 11 = .ok (.getfield 22, 3) := by decide +kernel
theorem dX7_wordAt_14 : decode cX7_wordAt 14 = .ok (.iload_n 1, 1) := by decide +kernel
theorem dX7_wordAt_15 : decode cX7_wordAt 15 = .ok (.iaload, 1) := by decide +kernel
theorem dX7_wordAt_16 : decode cX7_wordAt 16 = .ok (.goto 4, 3) := by decide +kernel
theorem dX7_wordAt_19 : decode cX7_wordAt 19 = .ok (.iconst (-1), 1) := by decide +kernel
theorem dX7_wordAt_20 : decode cX7_wordAt 20 = .ok (.ireturn, 1) := by decide +kernel
theorem dX7_putWord_0 : decode cX7_putWord 0 = .ok (.iload_n 1, 1) := by decide +kernel
theorem dX7_putWord_1 : decode cX7_putWord 1 = .ok (.ifCond .lt 16, 3) := by decide +kernel
theorem dX7_putWord_4 : decode cX7_putWord 4 = .ok (.iload_n 1, 1) := by decide +kernel
theorem dX7_putWord_5 : decode cX7_putWord 5 = .ok (.bipush 9, 2) := by decide +kernel
theorem dX7_putWord_7 : decode cX7_putWord 7 = .ok (.if_icmp .ge 10, 3) := by decide +kernel
theorem dX7_putWord_10 : decode cX7_putWord 10 = .ok (.aload_n 0, 1) := by decide +kernel
theorem dX7_putWord_11 : decode cX7_putWord 11 = .ok (.getfield 22, 3) := by decide +kernel
theorem dX7_putWord_14 : decode cX7_putWord 14 = .ok (.iload_n 1, 1) := by decide +kernel
theorem dX7_putWord_15 : decode cX7_putWord 15 = .ok (.iload_n 2, 1) := by decide +kernel
theorem dX7_putWord_16 : decode cX7_putWord 16 = .ok (.iastore, 1) := by decide +kernel
theorem dX7_putWord_17 : decode cX7_putWord 17 = .ok (.return_, 1) := by decide +kernel
theorem dX7_numberAt_0 : decode cX7_numberAt 0 = .ok (.iload_n 1, 1) := by decide +kernel
theorem dX7_numberAt_1 : decode cX7_numberAt 1 = .ok (.ifCond .lt 18, 3) := by decide +kernel
theorem dX7_numberAt_4 : decode cX7_numberAt 4 = .ok (.iload_n 1, 1) := by decide +kernel
theorem dX7_numberAt_5 : decode cX7_numberAt 5 = .ok (.bipush 9, 2) := by decide +kernel
theorem dX7_numberAt_7 : decode cX7_numberAt 7 = .ok (.if_icmp .ge 12, 3) := by decide +kernel
theorem dX7_numberAt_10 : decode cX7_numberAt 10 = .ok (.iload_n 2, 1) := by decide +kernel
theorem dX7_numberAt_11 : decode cX7_numberAt 11 = .ok (.ifCond .lt 8, 3) := by decide +kernel
theorem dX7_numberAt_14 : decode cX7_numberAt 14 = .ok (.iload_n 2, 1) := by decide +kernel
theorem dX7_numberAt_15 : decode cX7_numberAt 15 = .ok (.iconst 4, 1) := by decide +kernel
theorem dX7_numberAt_16 : decode cX7_numberAt 16 = .ok (.if_icmp .lt 5, 3) := by decide +kernel
theorem dX7_numberAt_19 : decode cX7_numberAt 19 = .ok (.iconst (-1), 1) := by decide +kernel
theorem dX7_numberAt_20 : decode cX7_numberAt 20 = .ok (.ireturn, 1) := by decide +kernel
theorem dX7_numberAt_21 : decode cX7_numberAt 21 = .ok (.aload_n 0, 1) := by decide +kernel
theorem dX7_numberAt_22 : decode cX7_numberAt 22 = .ok (.getfield 28, 3) := by decide +kernel
theorem dX7_numberAt_25 : decode cX7_numberAt 25 = .ok (.iload_n 1, 1) := by decide +kernel
theorem dX7_numberAt_26 : decode cX7_numberAt 26 = .ok (.aaload, 1) := by decide +kernel
theorem dX7_numberAt_27 : decode cX7_numberAt 27 = .ok (.iload_n 2, 1) := by decide +kernel
theorem dX7_numberAt_28 : decode cX7_numberAt 28 = .ok (.iaload, 1) := by decide +kernel
theorem dX7_numberAt_29 : decode cX7_numberAt 29 = .ok (.ireturn, 1) := by decide +kernel
theorem dX7_putNumber_0 : decode cX7_putNumber 0 = .ok (.iload_n 1, 1) := by decide +kernel
theorem dX7_putNumber_1 : decode cX7_putNumber 1 = .ok (.ifCond .lt 27, 3) := by decide +kernel
theorem dX7_putNumber_4 : decode cX7_putNumber 4 = .ok (.iload_n 1, 1) := by decide +kernel
theorem dX7_putNumber_5 : decode cX7_putNumber 5 = .ok (.bipush 9, 2) := by decide +kernel
theorem dX7_putNumber_7 : decode cX7_putNumber 7 = .ok (.if_icmp .ge 21, 3) := by decide +kernel
theorem dX7_putNumber_10 : decode cX7_putNumber 10 = .ok (.iload_n 2, 1) := by decide +kernel
theorem dX7_putNumber_11 : decode cX7_putNumber 11 = .ok (.ifCond .lt 17, 3) := by decide +kernel
theorem dX7_putNumber_14 : decode cX7_putNumber 14 = .ok (.iload_n 2, 1) := by decide +kernel
theorem dX7_putNumber_15 : decode cX7_putNumber 15 = .ok (.iconst 4, 1) := by decide +kernel
theorem dX7_putNumber_16 : decode cX7_putNumber 16 = .ok (.if_icmp .ge 12, 3) := by decide +kernel
theorem dX7_putNumber_19 : decode cX7_putNumber 19 = .ok (.aload_n 0, 1) := by decide +kernel
theorem dX7_putNumber_20 : decode cX7_putNumber 20 = .ok (.getfield 28, 3) := by decide +kernel
theorem dX7_putNumber_23 : decode cX7_putNumber 23 = .ok (.iload_n 1, 1) := by decide +kernel
theorem dX7_putNumber_24 : decode cX7_putNumber 24 = .ok (.aaload, 1) := by decide +kernel
theorem dX7_putNumber_25 : decode cX7_putNumber 25 = .ok (.iload_n 2, 1) := by decide +kernel
theorem dX7_putNumber_26 : decode cX7_putNumber 26 = .ok (.iload_n 3, 1) := by decide +kernel
theorem dX7_putNumber_27 : decode cX7_putNumber 27 = .ok (.iastore, 1) := by decide +kernel
theorem dX7_putNumber_28 : decode cX7_putNumber 28 = .ok (.return_, 1) := by decide +kernel
theorem dX7_findFault_0 : decode cX7_findFault 0 = .ok (.aload_n 0, 1) := by decide +kernel
theorem dX7_findFault_1 : decode cX7_findFault 1 = .ok (.iconst 0, 1) := by decide +kernel
theorem dX7_findFault_2 : decode cX7_findFault 2 = .ok (.putfield 19, 3) := by decide +kernel
theorem dX7_findFault_5 : decode cX7_findFault 5 = .ok (.aload_n 0, 1) := by decide +kernel
theorem dX7_findFault_6 : decode cX7_findFault 6 = .ok (.iconst 0, 1) := by decide +kernel
theorem dX7_findFault_7 : decode cX7_findFault 7 = .ok (.putfield 31, 3) := by decide +kernel
theorem dX7_findFault_10 : decode cX7_findFault 10 = .ok (.iconst 0, 1) := by decide +kernel
theorem dX7_findFault_11 : decode cX7_findFault 11 = .ok (.istore_n 1, 1) := by decide +kernel
theorem dX7_findFault_12 : decode cX7_findFault 12 = .ok (.iload_n 1, 1) := by decide +kernel
theorem dX7_findFault_13 : decode cX7_findFault 13 = .ok (.bipush 9, 2) := by decide +kernel
theorem dX7_findFault_15 : decode cX7_findFault 15 = .ok (.if_icmp .ge 69, 3) := by decide +kernel
theorem dX7_findFault_18 : decode cX7_findFault 18 = .ok (.aload_n 0, 1) := by decide +kernel
theorem dX7_findFault_19 : decode cX7_findFault 19 = .ok (.iload_n 1, 1) := by decide +kernel
theorem dX7_findFault_20 : decode cX7_findFault 20 = .ok (.invokevirtual 34, 3) := by decide +kernel
theorem dX7_findFault_23 : decode cX7_findFault 23 = .ok (.ifCond .ne 8, 3) := by decide +kernel
theorem dX7_findFault_26 : decode cX7_findFault 26 = .ok (.aload_n 0, 1) := by decide +kernel
theorem dX7_findFault_27 : decode cX7_findFault 27 = .ok (.getfield 19, 3) := by decide +kernel
theorem dX7_findFault_30 : decode cX7_findFault 30 = .ok (.ireturn, 1) := by decide +kernel
theorem dX7_findFault_31 : decode cX7_findFault 31 = .ok (.aload_n 0, 1) := by decide +kernel
theorem dX7_findFault_32 : decode cX7_findFault 32 = .ok (.dup, 1) := by decide +kernel
theorem dX7_findFault_33 : decode cX7_findFault 33 = .ok (.getfield 31, 3) := by decide +kernel
theorem dX7_findFault_36 : decode cX7_findFault 36 = .ok (.iconst 1, 1) := by decide +kernel
theorem dX7_findFault_37 : decode cX7_findFault 37 = .ok (.iadd, 1) := by decide +kernel
theorem dX7_findFault_38 : decode cX7_findFault 38 = .ok (.putfield 31, 3) := by decide +kernel
theorem dX7_findFault_41 : decode cX7_findFault 41 = .ok (.aload_n 0, 1) := by decide +kernel
theorem dX7_findFault_42 : decode cX7_findFault 42 = .ok (.getfield 19, 3) := by decide +kernel
theorem dX7_findFault_45 : decode cX7_findFault 45 = .ok (.aload_n 0, 1) := by decide +kernel
theorem dX7_findFault_46 : decode cX7_findFault 46 = .ok (.getfield 15, 3) := by decide +kernel
theorem dX7_findFault_49 : decode cX7_findFault 49 = .ok (.if_icmp .lt 5, 3) := by decide +kernel
theorem dX7_findFault_52 : decode cX7_findFault 52 = .ok (.iconst (-1), 1) := by decide +kernel
theorem dX7_findFault_53 : decode cX7_findFault 53 = .ok (.ireturn, 1) := by decide +kernel
theorem dX7_findFault_54 : decode cX7_findFault 54 = .ok (.aload_n 0, 1) := by decide +kernel
theorem dX7_findFault_55 : decode cX7_findFault 55 = .ok (.bipush 59, 2) := by decide +kernel
theorem dX7_findFault_57 : decode cX7_findFault 57 = .ok (.invokevirtual 38, 3) := by decide +kernel
theorem dX7_findFault_60 : decode cX7_findFault 60 = .ok (.ifCond .ne 8, 3) := by decide +kernel
theorem dX7_findFault_63 : decode cX7_findFault 63 = .ok (.aload_n 0, 1) := by decide +kernel
theorem dX7_findFault_64 : decode cX7_findFault 64 = .ok (.getfield 19, 3) := by decide +kernel
theorem dX7_findFault_67 : decode cX7_findFault 67 = .ok (.ireturn, 1) := by decide +kernel
theorem dX7_findFault_68 : decode cX7_findFault 68 = .ok (.aload_n 0, 1) := by decide +kernel
theorem dX7_findFault_69 : decode cX7_findFault 69 = .ok (.dup, 1) := by decide +kernel
theorem dX7_findFault_70 : decode cX7_findFault 70 = .ok (.getfield 19, 3) := by decide +kernel
theorem dX7_findFault_73 : decode cX7_findFault 73 = .ok (.iconst 1, 1) := by decide +kernel
theorem dX7_findFault_74 : decode cX7_findFault 74 = .ok (.iadd, 1) := by decide +kernel
theorem dX7_findFault_75 : decode cX7_findFault 75 = .ok (.putfield 19, 3) := by decide +kernel
theorem dX7_findFault_78 : decode cX7_findFault 78 = .ok (.iinc 1 1, 3) := by decide +kernel
theorem dX7_findFault_81 : decode cX7_findFault 81 = .ok (.goto (-69), 3) := by decide +kernel
theorem dX7_findFault_84 : decode cX7_findFault 84 = .ok (.aload_n 0, 1) := by decide +kernel
theorem dX7_findFault_85 : decode cX7_findFault 85 = .ok (.getfield 19, 3) := by decide +kernel
theorem dX7_findFault_88 : decode cX7_findFault 88 = .ok (.ireturn, 1) := by decide +kernel
theorem dX7_readOrder_0 : decode cX7_readOrder 0 = .ok (.aload_n 0, 1) := by decide +kernel
theorem dX7_readOrder_1 : decode cX7_readOrder 1 = .ok (.getfield 19, 3) := by decide +kernel
theorem dX7_readOrder_4 : decode cX7_readOrder 4 = .ok (.istore_n 2, 1) := by decide +kernel
theorem dX7_readOrder_5 : decode cX7_readOrder 5 = .ok (.aload_n 0, 1) := by decide +kernel
theorem dX7_readOrder_6 : decode cX7_readOrder 6 = .ok (.getfield 19, 3) := by decide +kernel
theorem dX7_readOrder_9 : decode cX7_readOrder 9 = .ok (.istore_n 3, 1) := by decide +kernel
theorem dX7_readOrder_10 : decode cX7_readOrder 10 = .ok (.iconst 0, 1) := by decide +kernel
theorem dX7_readOrder_11 : decode cX7_readOrder 11 = .ok (.istore 4, 2) := by decide +kernel
theorem dX7_readOrder_13 : decode cX7_readOrder 13 = .ok (.iload 4, 2) := by decide +kernel
theorem dX7_readOrder_15 : decode cX7_readOrder 15 = .ok (.bipush 8, 2) := by decide +kernel
theorem dX7_readOrder_17 : decode cX7_readOrder 17 = .ok (.if_icmp .ge 45, 3) := by decide +kernel
theorem dX7_readOrder_20 : decode cX7_readOrder 20 = .ok (.aload_n 0, 1) := by decide +kernel
theorem dX7_readOrder_21 : decode cX7_readOrder 21 = .ok (.iload_n 2, 1) := by decide +kernel
theorem dX7_readOrder_22 : decode cX7_readOrder 22 = .ok (.putfield 19, 3) := by decide +kernel
theorem dX7_readOrder_25 : decode cX7_readOrder 25 = .ok (.aload_n 0, 1) := by decide +kernel
theorem dX7_readOrder_26 : decode cX7_readOrder 26 = .ok (.iload 4, 2) := by decide +kernel
theorem dX7_readOrder_28 : decode cX7_readOrder 28 = .ok (.invokestatic 42, 3) := by decide +kernel
theorem dX7_readOrder_31 : decode cX7_readOrder 31 = .ok (.iload_n 1, 1) := by decide +kernel
theorem dX7_readOrder_32 : decode cX7_readOrder 32 = .ok (.invokevirtual 46, 3) := by decide +kernel
theorem dX7_readOrder_35 : decode cX7_readOrder 35 = .ok (.ifCond .eq 12, 3) := by decide +kernel
theorem dX7_readOrder_38 : decode cX7_readOrder 38 = .ok (.aload_n 0, 1) := by decide +kernel
theorem dX7_readOrder_39 : decode cX7_readOrder 39 = .ok (.iload_n 1, 1) := by decide +kernel
theorem dX7_readOrder_40 : decode cX7_readOrder 40 = .ok (.iload 4, 2) := by decide +kernel
theorem dX7_readOrder_42 : decode cX7_readOrder 42 = .ok (.invokevirtual 50, 3) := by decide +kernel
theorem dX7_readOrder_45 : decode cX7_readOrder 45 = .ok (.iconst 1, 1) := by decide +kernel
theorem dX7_readOrder_46 : decode cX7_readOrder 46 = .ok (.ireturn, 1) := by decide +kernel
theorem dX7_readOrder_47 : decode cX7_readOrder 47 = .ok (.iload_n 3, 1) := by decide +kernel
theorem dX7_readOrder_48 : decode cX7_readOrder 48 = .ok (.aload_n 0, 1) := by decide +kernel
theorem dX7_readOrder_49 : decode cX7_readOrder 49 = .ok (.getfield 19, 3) := by decide +kernel
theorem dX7_readOrder_52 : decode cX7_readOrder 52 = .ok (.invokestatic 54, 3) := by decide +kernel
theorem dX7_readOrder_55 : decode cX7_readOrder 55 = .ok (.istore_n 3, 1) := by decide +kernel
theorem dX7_readOrder_56 : decode cX7_readOrder 56 = .ok (.iinc 4 1, 3) := by decide +kernel
theorem dX7_readOrder_59 : decode cX7_readOrder 59 = .ok (.goto (-46), 3) := by decide +kernel
theorem dX7_readOrder_62 : decode cX7_readOrder 62 = .ok (.aload_n 0, 1) := by decide +kernel
theorem dX7_readOrder_63 : decode cX7_readOrder 63 = .ok (.iload_n 3, 1) := by decide +kernel
theorem dX7_readOrder_64 : decode cX7_readOrder 64 = .ok (.putfield 19, 3) := by decide +kernel
theorem dX7_readOrder_67 : decode cX7_readOrder 67 = .ok (.iconst 0, 1) := by decide +kernel
theorem dX7_readOrder_68 : decode cX7_readOrder 68 = .ok (.ireturn, 1) := by decide +kernel
theorem dX7_formOf_0 : decode cX7_formOf 0 = .ok (.iload_n 0, 1) := by decide +kernel
theorem dX7_formOf_1 : decode cX7_formOf 1 = .ok (.tableswitch 64 0 6 #[43, 46, 49, 52, 55, 58, 61], 43) := by decide +kernel
theorem dX7_formOf_44 : decode cX7_formOf 44 = .ok (.ldc 60, 2) := by decide +kernel
theorem dX7_formOf_46 : decode cX7_formOf 46 = .ok (.areturn, 1) := by decide +kernel
theorem dX7_formOf_47 : decode cX7_formOf 47 = .ok (.ldc 62, 2) := by decide +kernel
theorem dX7_formOf_49 : decode cX7_formOf 49 = .ok (.areturn, 1) := by decide +kernel
theorem dX7_formOf_50 : decode cX7_formOf 50 = .ok (.ldc 64, 2) := by decide +kernel
theorem dX7_formOf_52 : decode cX7_formOf 52 = .ok (.areturn, 1) := by decide +kernel
theorem dX7_formOf_53 : decode cX7_formOf 53 = .ok (.ldc 66, 2) := by decide +kernel
theorem dX7_formOf_55 : decode cX7_formOf 55 = .ok (.areturn, 1) := by decide +kernel
theorem dX7_formOf_56 : decode cX7_formOf 56 = .ok (.ldc 68, 2) := by decide +kernel
theorem dX7_formOf_58 : decode cX7_formOf 58 = .ok (.areturn, 1) := by decide +kernel
theorem dX7_formOf_59 : decode cX7_formOf 59 = .ok (.ldc 70, 2) := by decide +kernel
theorem dX7_formOf_61 : decode cX7_formOf 61 = .ok (.areturn, 1) := by decide +kernel
theorem dX7_formOf_62 : decode cX7_formOf 62 = .ok (.ldc 72, 2) := by decide +kernel
theorem dX7_formOf_64 : decode cX7_formOf 64 = .ok (.areturn, 1) := by decide +kernel
theorem dX7_formOf_65 : decode cX7_formOf 65 = .ok (.ldc 74, 2) := by decide +kernel
theorem dX7_formOf_67 : decode cX7_formOf 67 = .ok (.areturn, 1) := by decide +kernel
theorem dX7_readForm_0 : decode cX7_readForm 0 = .ok (.iconst 0, 1) := by decide +kernel
theorem dX7_readForm_1 : decode cX7_readForm 1 = .ok (.istore_n 3, 1) := by decide +kernel
theorem dX7_readForm_2 : decode cX7_readForm 2 = .ok (.iconst 0, 1) := by decide +kernel
theorem dX7_readForm_3 : decode cX7_readForm 3 = .ok (.istore 4, 2) := by decide +kernel
theorem dX7_readForm_5 : decode cX7_readForm 5 = .ok (.iload 4, 2) := by decide +kernel
theorem dX7_readForm_7 : decode cX7_readForm 7 = .ok (.aload_n 1, 1) := by decide +kernel
theorem dX7_readForm_8 : decode cX7_readForm 8 = .ok (.invokevirtual 76, 3) := by decide +kernel
theorem dX7_readForm_11 : decode cX7_readForm 11 = .ok (.if_icmp .ge 92, 3) := by decide +kernel
theorem dX7_readForm_14 : decode cX7_readForm 14 = .ok (.aload_n 1, 1) := by decide +kernel
theorem dX7_readForm_15 : decode cX7_readForm 15 = .ok (.iload 4, 2) := by decide +kernel
theorem dX7_readForm_17 : decode cX7_readForm 17 = .ok (.invokevirtual 81, 3) := by decide +kernel
theorem dX7_readForm_20 : decode cX7_readForm 20 = .ok (.istore 5, 2) := by decide +kernel
theorem dX7_readForm_22 : decode cX7_readForm 22 = .ok (.iload 5, 2) := by decide +kernel
theorem dX7_readForm_24 : decode cX7_readForm 24 = .ok (.bipush 68, 2) := by decide +kernel
theorem dX7_readForm_26 : decode cX7_readForm 26 = .ok (.if_icmp .eq 10, 3) := by decide +kernel
theorem dX7_readForm_29 : decode cX7_readForm 29 = .ok (.iload 5, 2) := by decide +kernel
theorem dX7_readForm_31 : decode cX7_readForm 31 = .ok (.bipush 78, 2) := by decide +kernel
theorem dX7_readForm_33 : decode cX7_readForm 33 = .ok (.if_icmp .ne 40, 3) := by decide +kernel
theorem dX7_readForm_36 : decode cX7_readForm 36 = .ok (.aload_n 0, 1) := by decide +kernel
theorem dX7_readForm_37 : decode cX7_readForm 37 = .ok (.invokevirtual 85, 3) := by decide +kernel
theorem dX7_readForm_40 : decode cX7_readForm 40 = .ok (.ifCond .ne 5, 3) := by decide +kernel
theorem dX7_readForm_43 : decode cX7_readForm 43 = .ok (.iconst 0, 1) := by decide +kernel
theorem dX7_readForm_44 : decode cX7_readForm 44 = .ok (.ireturn, 1) := by decide +kernel
theorem dX7_readForm_45 : decode cX7_readForm 45 = .ok (.aload_n 0, 1) := by decide +kernel
theorem dX7_readForm_46 : decode cX7_readForm 46 = .ok (.iload_n 2, 1) := by decide +kernel
theorem dX7_readForm_47 : decode cX7_readForm 47 = .ok (.iload_n 3, 1) := by decide +kernel
theorem dX7_readForm_48 : decode cX7_readForm 48 = .ok (.aload_n 0, 1) := by decide +kernel
theorem dX7_readForm_49 : decode cX7_readForm 49 = .ok (.iload 5, 2) := by decide +kernel
theorem dX7_readForm_51 : decode cX7_readForm 51 = .ok (.bipush 78, 2) := by decide +kernel
theorem dX7_readForm_53 : decode cX7_readForm 53 = .ok (.if_icmp .ne 7, 3) := by decide +kernel
theorem dX7_readForm_56 : decode cX7_readForm 56 = .ok (.iconst 1, 1) := by decide +kernel
theorem dX7_readForm_57 : decode cX7_readForm 57 = .ok (.goto 4, 3) := by decide +kernel
theorem dX7_readForm_60 : decode cX7_readForm 60 = .ok (.iconst 0, 1) := by decide +kernel
theorem dX7_readForm_61 : decode cX7_readForm 61 = .ok (.invokevirtual 89, 3) := by decide +kernel
theorem dX7_readForm_64 : decode cX7_readForm 64 = .ok (.invokevirtual 93, 3) := by decide +kernel
theorem dX7_readForm_67 : decode cX7_readForm 67 = .ok (.iinc 3 1, 3) := by decide +kernel
theorem dX7_readForm_70 : decode cX7_readForm 70 = .ok (.goto 27, 3) := by decide +kernel
theorem dX7_readForm_73 : decode cX7_readForm 73 = .ok (.aload_n 0, 1) := by decide +kernel
theorem dX7_readForm_74 : decode cX7_readForm 74 = .ok (.iload 5, 2) := by decide +kernel
theorem dX7_readForm_76 : decode cX7_readForm 76 = .ok (.invokevirtual 38, 3) := by decide +kernel
theorem dX7_readForm_79 : decode cX7_readForm 79 = .ok (.ifCond .eq 16, 3) := by decide +kernel
theorem dX7_readForm_82 : decode cX7_readForm 82 = .ok (.aload_n 0, 1) := by decide +kernel
theorem dX7_readForm_83 : decode cX7_readForm 83 = .ok (.dup, 1) := by decide +kernel
theorem dX7_readForm_84 : decode cX7_readForm 84 = .ok (.getfield 19, 3) := by decide +kernel
theorem dX7_readForm_87 : decode cX7_readForm 87 = .ok (.iconst 1, 1) := by decide +kernel
theorem dX7_readForm_88 : decode cX7_readForm 88 = .ok (.iadd, 1) := by decide +kernel
theorem dX7_readForm_89 : decode cX7_readForm 89 = .ok (.putfield 19, 3) := by decide +kernel
theorem dX7_readForm_92 : decode cX7_readForm 92 = .ok (.goto 5, 3) := by decide +kernel
theorem dX7_readForm_95 : decode cX7_readForm 95 = .ok (.iconst 0, 1) := by decide +kernel
theorem dX7_readForm_96 : decode cX7_readForm 96 = .ok (.ireturn, 1) := by decide +kernel
theorem dX7_readForm_97 : decode cX7_readForm 97 = .ok (.iinc 4 1, 3) := by decide +kernel
theorem dX7_readForm_100 : decode cX7_readForm 100 = .ok (.goto (-95), 3) := by decide +kernel
theorem dX7_readForm_103 : decode cX7_readForm 103 = .ok (.iconst 1, 1) := by decide +kernel
theorem dX7_readForm_104 : decode cX7_readForm 104 = .ok (.ireturn, 1) := by decide +kernel
theorem dX7_readNumber_0 : decode cX7_readNumber 0 = .ok (.iconst 0, 1) := by decide +kernel
theorem dX7_readNumber_1 : decode cX7_readNumber 1 = .ok (.istore_n 2, 1) := by decide +kernel
theorem dX7_readNumber_2 : decode cX7_readNumber 2 = .ok (.iload_n 1, 1) := by decide +kernel
theorem dX7_readNumber_3 : decode cX7_readNumber 3 = .ok (.ifCond .eq 7, 3) := by decide +kernel
theorem dX7_readNumber_6 : decode cX7_readNumber 6 = .ok (.iconst 2, 1) := by decide +kernel
theorem dX7_readNumber_7 : decode cX7_readNumber 7 = .ok (.goto 4, 3) := by decide +kernel
theorem dX7_readNumber_10 : decode cX7_readNumber 10 = .ok (.iconst 1, 1) := by decide +kernel
theorem dX7_readNumber_11 : decode cX7_readNumber 11 = .ok (.istore_n 3, 1) := by decide +kernel
theorem dX7_readNumber_12 : decode cX7_readNumber 12 = .ok (.iconst 0, 1) := by decide +kernel
theorem dX7_readNumber_13 : decode cX7_readNumber 13 = .ok (.istore 4, 2) := by decide +kernel
theorem dX7_readNumber_15 : decode cX7_readNumber 15 = .ok (.iload 4, 2) := by decide +kernel
theorem dX7_readNumber_17 : decode cX7_readNumber 17 = .ok (.iload_n 3, 1) := by decide +kernel
theorem dX7_readNumber_18 : decode cX7_readNumber 18 = .ok (.if_icmp .ge 44, 3) := by decide +kernel
theorem dX7_readNumber_21 : decode cX7_readNumber 21 = .ok (.aload_n 0, 1) := by decide +kernel
theorem dX7_readNumber_22 : decode cX7_readNumber 22 = .ok (.invokevirtual 85, 3) := by decide +kernel
theorem dX7_readNumber_25 : decode cX7_readNumber 25 = .ok (.ifCond .eq 37, 3) := by decide +kernel
theorem dX7_readNumber_28 : decode cX7_readNumber 28 = .ok (.bipush 10, 2) := by decide +kernel
theorem dX7_readNumber_30 : decode cX7_readNumber 30 = .ok (.iload_n 2, 1) := by decide +kernel
theorem dX7_readNumber_31 : decode cX7_readNumber 31 = .ok (.imul, 1) := by decide +kernel
theorem dX7_readNumber_32 : decode cX7_readNumber 32 = .ok (.aload_n 0, 1) := by decide +kernel
theorem dX7_readNumber_33 : decode cX7_readNumber 33 = .ok (.getfield 9, 3) := by decide +kernel
theorem dX7_readNumber_36 : decode cX7_readNumber 36 = .ok (.aload_n 0, 1) := by decide +kernel
theorem dX7_readNumber_37 : decode cX7_readNumber 37 = .ok (.getfield 19, 3) := by decide +kernel
theorem dX7_readNumber_40 : decode cX7_readNumber 40 = .ok (.caload, 1) := by decide +kernel
theorem dX7_readNumber_41 : decode cX7_readNumber 41 = .ok (.bipush 48, 2) := by decide +kernel
theorem dX7_readNumber_43 : decode cX7_readNumber 43 = .ok (.isub, 1) := by decide +kernel
theorem dX7_readNumber_44 : decode cX7_readNumber 44 = .ok (.iadd, 1) := by decide +kernel
theorem dX7_readNumber_45 : decode cX7_readNumber 45 = .ok (.istore_n 2, 1) := by decide +kernel
theorem dX7_readNumber_46 : decode cX7_readNumber 46 = .ok (.aload_n 0, 1) := by decide +kernel
theorem dX7_readNumber_47 : decode cX7_readNumber 47 = .ok (.dup, 1) := by decide +kernel
theorem dX7_readNumber_48 : decode cX7_readNumber 48 = .ok (.getfield 19, 3) := by decide +kernel
theorem dX7_readNumber_51 : decode cX7_readNumber 51 = .ok (.iconst 1, 1) := by decide +kernel
theorem dX7_readNumber_52 : decode cX7_readNumber 52 = .ok (.iadd, 1) := by decide +kernel
theorem dX7_readNumber_53 : decode cX7_readNumber 53 = .ok (.putfield 19, 3) := by decide +kernel
theorem dX7_readNumber_56 : decode cX7_readNumber 56 = .ok (.iinc 4 1, 3) := by decide +kernel
theorem dX7_readNumber_59 : decode cX7_readNumber 59 = .ok (.goto (-44), 3) := by decide +kernel
theorem dX7_readNumber_62 : decode cX7_readNumber 62 = .ok (.iload_n 2, 1) := by decide +kernel
theorem dX7_readNumber_63 : decode cX7_readNumber 63 = .ok (.ireturn, 1) := by decide +kernel
theorem dX7_isInText_0 : decode cX7_isInText 0 = .ok (.aload_n 0, 1) := by decide +kernel
theorem dX7_isInText_1 : decode cX7_isInText 1 = .ok (.getfield 19, 3) := by decide +kernel
theorem dX7_isInText_4 : decode cX7_isInText 4 = .ok (.ifCond .lt 27, 3) := by decide +kernel
theorem dX7_isInText_7 : decode cX7_isInText 7 = .ok (.aload_n 0, 1) := by decide +kernel
theorem dX7_isInText_8 : decode cX7_isInText 8 = .ok (.getfield 19, 3) := by decide +kernel
theorem dX7_isInText_11 : decode cX7_isInText 11 = .ok (.aload_n 0, 1) := by decide +kernel
theorem dX7_isInText_12 : decode cX7_isInText 12 = .ok (.getfield 15, 3) := by decide +kernel
theorem dX7_isInText_15 : decode cX7_isInText 15 = .ok (.if_icmp .ge 16, 3) := by decide +kernel
theorem dX7_isInText_18 : decode cX7_isInText 18 = .ok (.aload_n 0, 1) := by decide +kernel
theorem dX7_isInText_19 : decode cX7_isInText 19 = .ok (.getfield 19, 3) := by decide +kernel
theorem dX7_isInText_22 : decode cX7_isInText 22 = .ok (.bipush 60, 2) := by decide +kernel
theorem dX7_isInText_24 : decode cX7_isInText 24 = .ok (.if_icmp .ge 7, 3) := by decide +kernel
theorem dX7_isInText_27 : decode cX7_isInText 27 = .ok (.iconst 1, 1) := by decide +kernel
theorem dX7_isInText_28 : decode cX7_isInText 28 = .ok (.goto 4, 3) := by decide +kernel
theorem dX7_isInText_31 : decode cX7_isInText 31 = .ok (.iconst 0, 1) := by decide +kernel
theorem dX7_isInText_32 : decode cX7_isInText 32 = .ok (.ireturn, 1) := by decide +kernel
theorem dX7_isNext_0 : decode cX7_isNext 0 = .ok (.aload_n 0, 1) := by decide +kernel
theorem dX7_isNext_1 : decode cX7_isNext 1 = .ok (.invokevirtual 97, 3) := by decide +kernel
theorem dX7_isNext_4 : decode cX7_isNext 4 = .ok (.ifCond .eq 20, 3) := by decide +kernel
theorem dX7_isNext_7 : decode cX7_isNext 7 = .ok (.aload_n 0, 1) := by decide +kernel
theorem dX7_isNext_8 : decode cX7_isNext 8 = .ok (.getfield 9, 3) := by decide +kernel
theorem dX7_isNext_11 : decode cX7_isNext 11 = .ok (.aload_n 0, 1) := by decide +kernel
theorem dX7_isNext_12 : decode cX7_isNext 12 = .ok (.getfield 19, 3) := by decide +kernel
theorem dX7_isNext_15 : decode cX7_isNext 15 = .ok (.caload, 1) := by decide +kernel
theorem dX7_isNext_16 : decode cX7_isNext 16 = .ok (.iload_n 1, 1) := by decide +kernel
theorem dX7_isNext_17 : decode cX7_isNext 17 = .ok (.if_icmp .ne 7, 3) := by decide +kernel
theorem dX7_isNext_20 : decode cX7_isNext 20 = .ok (.iconst 1, 1) := by decide +kernel
theorem dX7_isNext_21 : decode cX7_isNext 21 = .ok (.goto 4, 3) := by decide +kernel
theorem dX7_isNext_24 : decode cX7_isNext 24 = .ok (.iconst 0, 1) := by decide +kernel
theorem dX7_isNext_25 : decode cX7_isNext 25 = .ok (.ireturn, 1) := by decide +kernel
theorem dX7_isDigitNext_0 : decode cX7_isDigitNext 0 = .ok (.aload_n 0, 1) := by decide +kernel
theorem dX7_isDigitNext_1 : decode cX7_isDigitNext 1 = .ok (.invokevirtual 97, 3) := by decide +kernel
theorem dX7_isDigitNext_4 : decode cX7_isDigitNext 4 = .ok (.ifCond .eq 35, 3) := by decide +kernel
theorem dX7_isDigitNext_7 : decode cX7_isDigitNext 7 = .ok (.aload_n 0, 1) := by decide +kernel
