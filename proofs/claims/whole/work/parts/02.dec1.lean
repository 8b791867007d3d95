theorem dX1_costByPolicy_1 : decode cX1_costByPolicy 1 = .ok (.istore_n 2, 1) := by decide +kernel
theorem dX1_costByPolicy_2 : decode cX1_costByPolicy 2 = .ok (.iconst 0, 1) := by decide +kernel
theorem dX1_costByPolicy_3 : decode cX1_costByPolicy 3 = .ok (.istore_n 3, 1) := by decide +kernel
theorem dX1_costByPolicy_4 : decode cX1_costByPolicy 4 = .ok (.iconst 0, 1) := by decide +kernel
theorem dX1_costByPolicy_5 : decode cX1_costByPolicy 5 = .ok (.istore 4, 2) := by decide +kernel
theorem dX1_costByPolicy_7 : decode cX1_costByPolicy 7 = .ok (.iload 4, 2) := by decide +kernel
theorem dX1_costByPolicy_9 : decode cX1_costByPolicy 9 = .ok (.iload_n 1, 1) := by decide +kernel
theorem dX1_costByPolicy_10 : decode cX1_costByPolicy 10 = .ok (.if_icmp .ge 27, 3) := by decide +kernel
theorem dX1_costByPolicy_13 : decode cX1_costByPolicy 13 = .ok (.aload_n 0, 1) := by decide +kernel
theorem dX1_costByPolicy_14 : decode cX1_costByPolicy 14 = .ok (.iload 4, 2) := by decide +kernel
theorem dX1_costByPolicy_16 : decode cX1_costByPolicy 16 = .ok (.bipush (-6), 2) := by decide +kernel
theorem dX1_costByPolicy_18 : decode cX1_costByPolicy 18 = .ok (.invokevirtual 54, 3) := by decide +kernel
theorem dX1_costByPolicy_21 : decode cX1_costByPolicy 21 = .ok (.istore_n 3, 1) := by decide +kernel
theorem dX1_costByPolicy_22 : decode cX1_costByPolicy 22 = .ok (.iload_n 2, 1) := by decide +kernel
theorem dX1_costByPolicy_23 : decode cX1_costByPolicy 23 = .ok (.aload_n 0, 1) := by decide +kernel
theorem dX1_costByPolicy_24 : decode cX1_costByPolicy 24 = .ok (.getfield 9, 3) := by decide +kernel
theorem dX1_costByPolicy_27 : decode cX1_costByPolicy 27 = .ok (.iload_n 3, 1) := by decide +kernel
theorem dX1_costByPolicy_28 : decode cX1_costByPolicy 28 = .ok (.iaload, 1) := by decide +kernel
theorem dX1_costByPolicy_29 : decode cX1_costByPolicy 29 = .ok (.iadd, 1) := by decide +kernel
theorem dX1_costByPolicy_30 : decode cX1_costByPolicy 30 = .ok (.istore_n 2, 1) := by decide +kernel
theorem dX1_costByPolicy_31 : decode cX1_costByPolicy 31 = .ok (.iinc 4 1, 3) := by decide +kernel
theorem dX1_costByPolicy_34 : decode cX1_costByPolicy 34 = .ok (.goto (-27), 3) := by decide +kernel
theorem dX1_costByPolicy_37 : decode cX1_costByPolicy 37 = .ok (.iload_n 2, 1) := by decide +kernel
theorem dX1_costByPolicy_38 : decode cX1_costByPolicy 38 = .ok (.aload_n 0, 1) := by decide +kernel
theorem dX1_costByPolicy_39 : decode cX1_costByPolicy 39 = .ok (.getfield 15, 3) := by decide +kernel
theorem dX1_costByPolicy_42 : decode cX1_costByPolicy 42 = .ok (.iload_n 3, 1) := by decide +kernel
theorem dX1_costByPolicy_43 : decode cX1_costByPolicy 43 = .ok (.iaload, 1) := by decide +kernel
theorem dX1_costByPolicy_44 : decode cX1_costByPolicy 44 = .ok (.iadd, 1) := by decide +kernel
theorem dX1_costByPolicy_45 : decode cX1_costByPolicy 45 = .ok (.ireturn, 1) := by decide +kernel
theorem dX1_worstTicks_0 : decode cX1_worstTicks 0 = .ok (.iconst 1, 1) := by decide +kernel
theorem dX1_worstTicks_1 : decode cX1_worstTicks 1 = .ok (.istore_n 2, 1) := by decide +kernel
theorem dX1_worstTicks_2 : decode cX1_worstTicks 2 = .ok (.lconst 0, 1) := by decide +kernel
theorem dX1_worstTicks_3 : decode cX1_worstTicks 3 = .ok (.lstore_n 3, 1) := by decide +kernel
theorem dX1_worstTicks_4 : decode cX1_worstTicks 4 = .ok (.lconst 1, 1) := by decide +kernel
theorem dX1_worstTicks_5 : decode cX1_worstTicks 5 = .ok (.lstore 5, 2) := by decide +kernel
theorem dX1_worstTicks_7 : decode cX1_worstTicks 7 = .ok (.iconst 0, 1) := by decide +kernel
theorem dX1_worstTicks_8 : decode cX1_worstTicks 8 = .ok (.istore 7, 2) := by decide +kernel
theorem dX1_worstTicks_10 : decode cX1_worstTicks 10 = .ok (.iconst 1, 1) := by decide +kernel
theorem dX1_worstTicks_11 : decode cX1_worstTicks 11 = .ok (.istore 8, 2) := by decide +kernel
theorem dX1_worstTicks_13 : decode cX1_worstTicks 13 = .ok (.iload 8, 2) := by decide +kernel
theorem dX1_worstTicks_15 : decode cX1_worstTicks 15 = .ok (.iload_n 1, 1) := by decide +kernel
theorem dX1_worstTicks_16 : decode cX1_worstTicks 16 = .ok (.if_icmp .gt 78, 3) := by decide +kernel
theorem dX1_worstTicks_19 : decode cX1_worstTicks 19 = .ok (.aload_n 0, 1) := by decide +kernel
theorem dX1_worstTicks_20 : decode cX1_worstTicks 20 = .ok (.iload 8, 2) := by decide +kernel
theorem dX1_worstTicks_22 : decode cX1_worstTicks 22 = .ok (.iconst 1, 1) := by decide +kernel
theorem dX1_worstTicks_23 : decode cX1_worstTicks 23 = .ok (.isub, 1) := by decide +kernel
theorem dX1_worstTicks_24 : decode cX1_worstTicks 24 = .ok (.bipush (-6), 2) := by decide +kernel
theorem dX1_worstTicks_26 : decode cX1_worstTicks 26 = .ok (.invokevirtual 54, 3) := by decide +kernel
theorem dX1_worstTicks_29 : decode cX1_worstTicks 29 = .ok (.istore 9, 2) := by decide +kernel
theorem dX1_worstTicks_31 : decode cX1_worstTicks 31 = .ok (.iload 7, 2) := by decide +kernel
theorem dX1_worstTicks_33 : decode cX1_worstTicks 33 = .ok (.aload_n 0, 1) := by decide +kernel
theorem dX1_worstTicks_34 : decode cX1_worstTicks 34 = .ok (.getfield 9, 3) := by decide +kernel
theorem dX1_worstTicks_37 : decode cX1_worstTicks 37 = .ok (.iload 9, 2) := by decide +kernel
theorem dX1_worstTicks_39 : decode cX1_worstTicks 39 = .ok (.iaload, 1) := by decide +kernel
theorem dX1_worstTicks_40 : decode cX1_worstTicks 40 = .ok (.iadd, 1) := by decide +kernel
theorem dX1_worstTicks_41 : decode cX1_worstTicks 41 = .ok (.istore 7, 2) := by decide +kernel
theorem dX1_worstTicks_43 : decode cX1_worstTicks 43 = .ok (.iload 7, 2) := by decide +kernel
theorem dX1_worstTicks_45 : decode cX1_worstTicks 45 = .ok (.aload_n 0, 1) := by decide +kernel
theorem dX1_worstTicks_46 : decode cX1_worstTicks 46 = .ok (.getfield 15, 3) := by decide +kernel
theorem dX1_worstTicks_49 : decode cX1_worstTicks 49 = .ok (.iload 9, 2) := by decide +kernel
theorem dX1_worstTicks_51 : decode cX1_worstTicks 51 = .ok (.iaload, 1) := by decide +kernel
theorem dX1_worstTicks_52 : decode cX1_worstTicks 52 = .ok (.iadd, 1) := by decide +kernel
theorem dX1_worstTicks_53 : decode cX1_worstTicks 53 = .ok (.i2l, 1) := by decide +kernel
theorem dX1_worstTicks_54 : decode cX1_worstTicks 54 = .ok (.lstore 10, 2) := by decide +kernel
theorem dX1_worstTicks_56 : decode cX1_worstTicks 56 = .ok (.aload_n 0, 1) := by decide +kernel
theorem dX1_worstTicks_57 : decode cX1_worstTicks 57 = .ok (.iload 8, 2) := by decide +kernel
theorem dX1_worstTicks_59 : decode cX1_worstTicks 59 = .ok (.invokevirtual 57, 3) := by decide +kernel
theorem dX1_worstTicks_62 : decode cX1_worstTicks 62 = .ok (.i2l, 1) := by decide +kernel
theorem dX1_worstTicks_63 : decode cX1_worstTicks 63 = .ok (.lstore 12, 2) := by decide +kernel
theorem dX1_worstTicks_65 : decode cX1_worstTicks 65 = .ok (.lload 10, 2) := by decide +kernel
theorem dX1_worstTicks_67 : decode cX1_worstTicks 67 = .ok (.lload 5, 2) := by decide +kernel
theorem dX1_worstTicks_69 : decode cX1_worstTicks 69 = .ok (.lmul, 1) := by decide +kernel
theorem dX1_worstTicks_70 : decode cX1_worstTicks 70 = .ok (.lload_n 3, 1) := by decide +kernel
theorem dX1_worstTicks_71 : decode cX1_worstTicks 71 = .ok (.lload 12, 2) := by decide +kernel
theorem dX1_worstTicks_73 : decode cX1_worstTicks 73 = .ok (.lmul, 1) := by decide +kernel
theorem dX1_worstTicks_74 : decode cX1_worstTicks 74 = .ok (.lcmp, 1) := by decide +kernel
theorem dX1_worstTicks_75 : decode cX1_worstTicks 75 = .ok (.ifCond .le 13, 3) := by decide +kernel
theorem dX1_worstTicks_78 : decode cX1_worstTicks 78 = .ok (.lload 10, 2) := by decide +kernel
theorem dX1_worstTicks_80 : decode cX1_worstTicks 80 = .ok (.lstore_n 3, 1) := by decide +kernel
theorem dX1_worstTicks_81 : decode cX1_worstTicks 81 = .ok (.lload 12, 2) := by decide +kernel
theorem dX1_worstTicks_83 : decode cX1_worstTicks 83 = .ok (.lstore 5, 2) := by decide +kernel
theorem dX1_worstTicks_85 : decode cX1_worstTicks 85 = .ok (.iload 8, 2) := by decide +kernel
theorem dX1_worstTicks_87 : decode cX1_worstTicks 87 = .ok (.istore_n 2, 1) := by decide +kernel
theorem dX1_worstTicks_88 : decode cX1_worstTicks 88 = .ok (.iinc 8 1, 3) := by decide +kernel
theorem dX1_worstTicks_91 : decode cX1_worstTicks 91 = .ok (.goto (-78), 3) := by decide +kernel
theorem dX1_worstTicks_94 : decode cX1_worstTicks 94 = .ok (.iload_n 2, 1) := by decide +kernel
theorem dX1_worstTicks_95 : decode cX1_worstTicks 95 = .ok (.ireturn, 1) := by decide +kernel
theorem dX1_agesDrawn_0 : decode cX1_agesDrawn 0 = .ok (.iconst 1, 1) := by decide +kernel
theorem dX1_agesDrawn_1 : decode cX1_agesDrawn 1 = .ok (.aload_n 0, 1) := by decide +kernel
theorem dX1_agesDrawn_2 : decode cX1_agesDrawn 2 = .ok (.getfield 9, 3) := by decide +kernel
theorem dX1_agesDrawn_5 : decode cX1_agesDrawn 5 = .ok (.iconst 0, 1) := by decide +kernel
theorem dX1_agesDrawn_6 : decode cX1_agesDrawn 6 = .ok (.iaload, 1) := by decide +kernel
theorem dX1_agesDrawn_7 : decode cX1_agesDrawn 7 = .ok (.aload_n 0, 1) := by decide +kernel
theorem dX1_agesDrawn_8 : decode cX1_agesDrawn 8 = .ok (.getfield 9, 3) := by decide +kernel
theorem dX1_agesDrawn_11 : decode cX1_agesDrawn 11 = .ok (.iload_n 1, 1) := by decide +kernel
theorem dX1_agesDrawn_12 : decode cX1_agesDrawn 12 = .ok (.iaload, 1) := by decide +kernel
theorem dX1_agesDrawn_13 : decode cX1_agesDrawn 13 = .ok (.isub, 1) := by decide +kernel
theorem dX1_agesDrawn_14 : decode cX1_agesDrawn 14 = .ok (.invokestatic 38, 3) := by decide +kernel
theorem dX1_agesDrawn_17 : decode cX1_agesDrawn 17 = .ok (.istore_n 2, 1) := by decide +kernel
theorem dX1_agesDrawn_18 : decode cX1_agesDrawn 18 = .ok (.aload_n 0, 1) := by decide +kernel
theorem dX1_agesDrawn_19 : decode cX1_agesDrawn 19 = .ok (.getfield 15, 3) := by decide +kernel
theorem dX1_agesDrawn_22 : decode cX1_agesDrawn 22 = .ok (.iload_n 1, 1) := by decide +kernel
theorem dX1_agesDrawn_23 : decode cX1_agesDrawn 23 = .ok (.iaload, 1) := by decide +kernel
theorem dX1_agesDrawn_24 : decode cX1_agesDrawn 24 = .ok (.iload_n 2, 1) := by decide +kernel
theorem dX1_agesDrawn_25 : decode cX1_agesDrawn 25 = .ok (.iadd, 1) := by decide +kernel
theorem dX1_agesDrawn_26 : decode cX1_agesDrawn 26 = .ok (.iconst 1, 1) := by decide +kernel
theorem dX1_agesDrawn_27 : decode cX1_agesDrawn 27 = .ok (.isub, 1) := by decide +kernel
theorem dX1_agesDrawn_28 : decode cX1_agesDrawn 28 = .ok (.iload_n 2, 1) := by decide +kernel
theorem dX1_agesDrawn_29 : decode cX1_agesDrawn 29 = .ok (.idiv, 1) := by decide +kernel
theorem dX1_agesDrawn_30 : decode cX1_agesDrawn 30 = .ok (.ireturn, 1) := by decide +kernel
theorem dX1_costOfAllDrawn_0 : decode cX1_costOfAllDrawn 0 = .ok (.iconst 0, 1) := by decide +kernel
theorem dX1_costOfAllDrawn_1 : decode cX1_costOfAllDrawn 1 = .ok (.istore 4, 2) := by decide +kernel
theorem dX1_costOfAllDrawn_3 : decode cX1_costOfAllDrawn 3 = .ok (.iconst 0, 1) := by decide +kernel
theorem dX1_costOfAllDrawn_4 : decode cX1_costOfAllDrawn 4 = .ok (.istore 5, 2) := by decide +kernel
theorem dX1_costOfAllDrawn_6 : decode cX1_costOfAllDrawn 6 = .ok (.iload 5, 2) := by decide +kernel
theorem dX1_costOfAllDrawn_8 : decode cX1_costOfAllDrawn 8 = .ok (.iload_n 3, 1) := by decide +kernel
theorem dX1_costOfAllDrawn_9 : decode cX1_costOfAllDrawn 9 = .ok (.if_icmp .ge 50, 3) := by decide +kernel
theorem dX1_costOfAllDrawn_12 : decode cX1_costOfAllDrawn 12 = .ok (.iload 4, 2) := by decide +kernel
theorem dX1_costOfAllDrawn_14 : decode cX1_costOfAllDrawn 14 = .ok (.iload_n 2, 1) := by decide +kernel
theorem dX1_costOfAllDrawn_15 : decode cX1_costOfAllDrawn 15 = .ok (.iload 5, 2) := by decide +kernel
theorem dX1_costOfAllDrawn_17 : decode cX1_costOfAllDrawn 17 = .ok (.if_icmp .gt 14, 3) := by decide +kernel
theorem dX1_costOfAllDrawn_20 : decode cX1_costOfAllDrawn 20 = .ok (.aload_n 0, 1) := by decide +kernel
theorem dX1_costOfAllDrawn_21 : decode cX1_costOfAllDrawn 21 = .ok (.getfield 9, 3) := by decide +kernel
theorem dX1_costOfAllDrawn_24 : decode cX1_costOfAllDrawn 24 = .ok (.iconst 0, 1) := by decide +kernel
theorem dX1_costOfAllDrawn_25 : decode cX1_costOfAllDrawn 25 = .ok (.iaload, 1) := by decide +kernel
theorem dX1_costOfAllDrawn_26 : decode cX1_costOfAllDrawn 26 = .ok (.iload_n 2, 1) := by decide +kernel
theorem dX1_costOfAllDrawn_27 : decode cX1_costOfAllDrawn 27 = .ok (.imul, 1) := by decide +kernel
theorem dX1_costOfAllDrawn_28 : decode cX1_costOfAllDrawn 28 = .ok (.goto 22, 3) := by decide +kernel
theorem dX1_costOfAllDrawn_31 : decode cX1_costOfAllDrawn 31 = .ok (.aload_n 0, 1) := by decide +kernel
theorem dX1_costOfAllDrawn_32 : decode cX1_costOfAllDrawn 32 = .ok (.getfield 9, 3) := by decide +kernel
theorem dX1_costOfAllDrawn_35 : decode cX1_costOfAllDrawn 35 = .ok (.iconst 0, 1) := by decide +kernel
theorem dX1_costOfAllDrawn_36 : decode cX1_costOfAllDrawn 36 = .ok (.iaload, 1) := by decide +kernel
theorem dX1_costOfAllDrawn_37 : decode cX1_costOfAllDrawn 37 = .ok (.iload 5, 2) := by decide +kernel
theorem dX1_costOfAllDrawn_39 : decode cX1_costOfAllDrawn 39 = .ok (.imul, 1) := by decide +kernel
theorem dX1_costOfAllDrawn_40 : decode cX1_costOfAllDrawn 40 = .ok (.aload_n 0, 1) := by decide +kernel
theorem dX1_costOfAllDrawn_41 : decode cX1_costOfAllDrawn 41 = .ok (.iload_n 1, 1) := by decide +kernel
theorem dX1_costOfAllDrawn_42 : decode cX1_costOfAllDrawn 42 = .ok (.iload_n 2, 1) := by decide +kernel
theorem dX1_costOfAllDrawn_43 : decode cX1_costOfAllDrawn 43 = .ok (.iload 5, 2) := by decide +kernel
theorem dX1_costOfAllDrawn_45 : decode cX1_costOfAllDrawn 45 = .ok (.isub, 1) := by decide +kernel
theorem dX1_costOfAllDrawn_46 : decode cX1_costOfAllDrawn 46 = .ok (.invokevirtual 51, 3) := by decide +kernel
theorem dX1_costOfAllDrawn_49 : decode cX1_costOfAllDrawn 49 = .ok (.iadd, 1) := by decide +kernel
theorem dX1_costOfAllDrawn_50 : decode cX1_costOfAllDrawn 50 = .ok (.iadd, 1) := by decide +kernel
theorem dX1_costOfAllDrawn_51 : decode cX1_costOfAllDrawn 51 = .ok (.istore 4, 2) := by decide +kernel
theorem dX1_costOfAllDrawn_53 : decode cX1_costOfAllDrawn 53 = .ok (.iinc 5 1, 3) := by decide +kernel
theorem dX1_costOfAllDrawn_56 : decode cX1_costOfAllDrawn 56 = .ok (.goto (-50), 3) := by decide +kernel
theorem dX1_costOfAllDrawn_59 : decode cX1_costOfAllDrawn 59 = .ok (.iload 4, 2) := by decide +kernel
theorem dX1_costOfAllDrawn_61 : decode cX1_costOfAllDrawn 61 = .ok (.ireturn, 1) := by decide +kernel
theorem dX2_init_0 : decode cX2_init 0 = .ok (.aload_n 0, 1) := by decide +kernel
theorem dX2_init_1 : decode cX2_init 1 = .ok (.invokespecial 3, 3) := by decide +kernel
theorem dX2_init_4 : decode cX2_init 4 = .ok (.aload_n 0, 1) := by decide +kernel
theorem dX2_init_5 : decode cX2_init 5 = .ok (.bipush 40, 2) := by decide +kernel
theorem dX2_init_7 : decode cX2_init 7 = .ok (.newarray .int, 2) := by decide +kernel
theorem dX2_init_9 : decode cX2_init 9 = .ok (.putfield 9, 3) := by decide +kernel
theorem dX2_init_12 : decode cX2_init 12 = .ok (.aload_n 0, 1) := by decide +kernel
theorem dX2_init_13 : decode cX2_init 13 = .ok (.bipush 41, 2) := by decide +kernel
theorem dX2_init_15 : decode cX2_init 15 = .ok (.newarray .int, 2) := by decide +kernel
theorem dX2_init_17 : decode cX2_init 17 = .ok (.putfield 15, 3) := by decide +kernel
theorem dX2_init_20 : decode cX2_init 20 = .ok (.aload_n 0, 1) := by decide +kernel
theorem dX2_init_21 : decode cX2_init 21 = .ok (.bipush 41, 2) := by decide +kernel
theorem dX2_init_23 : decode cX2_init 23 = .ok (.newarray .int, 2) := by decide +kernel
theorem dX2_init_25 : decode cX2_init 25 = .ok (.putfield 18, 3) := by decide +kernel
theorem dX2_init_28 : decode cX2_init 28 = .ok (.aload_n 0, 1) := by decide +kernel
theorem dX2_init_29 : decode cX2_init 29 = .ok (.bipush 41, 2) := by decide +kernel
theorem dX2_init_31 : decode cX2_init 31 = .ok (.newarray .int, 2) := by decide +kernel
theorem dX2_init_33 : decode cX2_init 33 = .ok (.putfield 21, 3) := by decide +kernel
theorem dX2_init_36 : decode cX2_init 36 = .ok (.return_, 1) := by decide +kernel
theorem dX2_find_0 : decode cX2_find 0 = .ok (.aload_n 1, 1) := by decide +kernel
theorem dX2_find_1 : decode cX2_find 1 = .ok (.getfield 24, 3) := by decide +kernel
theorem dX2_find_4 : decode cX2_find 4 = .ok (.astore_n 3, 1) := by decide +kernel
theorem dX2_find_5 : decode cX2_find 5 = .ok (.aload_n 1, 1) := by decide +kernel
theorem dX2_find_6 : decode cX2_find 6 = .ok (.getfield 30, 3) := by decide +kernel
theorem dX2_find_9 : decode cX2_find 9 = .ok (.iload_n 2, 1) := by decide +kernel
theorem dX2_find_10 : decode cX2_find 10 = .ok (.aaload, 1) := by decide +kernel
theorem dX2_find_11 : decode cX2_find 11 = .ok (.astore 4, 2) := by decide +kernel
theorem dX2_find_13 : decode cX2_find 13 = .ok (.aload_n 3, 1) := by decide +kernel
theorem dX2_find_14 : decode cX2_find 14 = .ok (.aload_n 0, 1) := by decide +kernel
theorem dX2_find_15 : decode cX2_find 15 = .ok (.getfield 9, 3) := by decide +kernel
theorem dX2_find_18 : decode cX2_find 18 = .ok (.invokevirtual 34, 3) := by decide +kernel
theorem dX2_find_21 : decode cX2_find 21 = .ok (.aload_n 0, 1) := by decide +kernel
theorem dX2_find_22 : decode cX2_find 22 = .ok (.iconst 0, 1) := by decide +kernel
theorem dX2_find_23 : decode cX2_find 23 = .ok (.putfield 40, 3) := by decide +kernel
theorem dX2_find_26 : decode cX2_find 26 = .ok (.iconst 0, 1) := by decide +kernel
theorem dX2_find_27 : decode cX2_find 27 = .ok (.istore 5, 2) := by decide +kernel
theorem dX2_find_29 : decode cX2_find 29 = .ok (.iconst 0, 1) := by decide +kernel
theorem dX2_find_30 : decode cX2_find 30 = .ok (.istore 6, 2) := by decide +kernel
theorem dX2_find_32 : decode cX2_find 32 = .ok (.iload 6, 2) := by decide +kernel
theorem dX2_find_34 : decode cX2_find 34 = .ok (.aload_n 3, 1) := by decide +kernel
theorem dX2_find_35 : decode cX2_find 35 = .ok (.getfield 44, 3) := by decide +kernel
theorem dX2_find_38 : decode cX2_find 38 = .ok (.if_icmp .ge 88, 3) := by decide +kernel
theorem dX2_find_41 : decode cX2_find 41 = .ok (.aload_n 3, 1) := by decide +kernel
theorem dX2_find_42 : decode cX2_find 42 = .ok (.getfield 45, 3) := by decide +kernel
theorem dX2_find_45 : decode cX2_find 45 = .ok (.aload_n 0, 1) := by decide +kernel
theorem dX2_find_46 : decode cX2_find 46 = .ok (.getfield 9, 3) := by decide +kernel
theorem dX2_find_49 : decode cX2_find 49 = .ok (.iload 6, 2) := by decide +kernel
theorem dX2_find_51 : decode cX2_find 51 = .ok (.iaload, 1) := by decide +kernel
theorem dX2_find_52 : decode cX2_find 52 = .ok (.iaload, 1) := by decide +kernel
theorem dX2_find_53 : decode cX2_find 53 = .ok (.istore 7, 2) := by decide +kernel
theorem dX2_find_55 : decode cX2_find 55 = .ok (.aload_n 3, 1) := by decide +kernel
theorem dX2_find_56 : decode cX2_find 56 = .ok (.getfield 48, 3) := by decide +kernel
theorem dX2_find_59 : decode cX2_find 59 = .ok (.aload_n 0, 1) := by decide +kernel
theorem dX2_find_60 : decode cX2_find 60 = .ok (.getfield 9, 3) := by decide +kernel
theorem dX2_find_63 : decode cX2_find 63 = .ok (.iload 6, 2) := by decide +kernel
theorem dX2_find_65 : decode cX2_find 65 = .ok (.iaload, 1) := by decide +kernel
theorem dX2_find_66 : decode cX2_find 66 = .ok (.iaload, 1) := by decide +kernel
theorem dX2_find_67 : decode cX2_find 67 = .ok (.iload_n 2, 1) := by decide +kernel
theorem dX2_find_68 : decode cX2_find 68 = .ok (.if_icmp .ne 52, 3) := by decide +kernel
theorem dX2_find_71 : decode cX2_find 71 = .ok (.iload 7, 2) := by decide +kernel
theorem dX2_find_73 : decode cX2_find 73 = .ok (.aload_n 1, 1) := by decide +kernel
theorem dX2_find_74 : decode cX2_find 74 = .ok (.getfield 50, 3) := by decide +kernel
theorem dX2_find_77 : decode cX2_find 77 = .ok (.if_icmp .ge 43, 3) := by decide +kernel
theorem dX2_find_80 : decode cX2_find 80 = .ok (.iload 7, 2) := by decide +kernel
theorem dX2_find_82 : decode cX2_find 82 = .ok (.iload 5, 2) := by decide +kernel
theorem dX2_find_84 : decode cX2_find 84 = .ok (.if_icmp .le 36, 3) := by decide +kernel
theorem dX2_find_87 : decode cX2_find 87 = .ok (.aload_n 0, 1) := by decide +kernel
theorem dX2_find_88 : decode cX2_find 88 = .ok (.iload 7, 2) := by decide +kernel
theorem dX2_find_90 : decode cX2_find 90 = .ok (.aload 4, 2) := by decide +kernel
theorem dX2_find_92 : decode cX2_find 92 = .ok (.getfield 53, 3) := by decide +kernel
theorem dX2_find_95 : decode cX2_find 95 = .ok (.iconst 0, 1) := by decide +kernel
theorem dX2_find_96 : decode cX2_find 96 = .ok (.iaload, 1) := by decide +kernel
theorem dX2_find_97 : decode cX2_find 97 = .ok (.iload 7, 2) := by decide +kernel
theorem dX2_find_99 : decode cX2_find 99 = .ok (.iload 5, 2) := by decide +kernel
theorem dX2_find_101 : decode cX2_find 101 = .ok (.isub, 1) := by decide +kernel
theorem dX2_find_102 : decode cX2_find 102 = .ok (.imul, 1) := by decide +kernel
theorem dX2_find_103 : decode cX2_find 103 = .ok (.aload 4, 2) := by decide +kernel
theorem dX2_find_105 : decode cX2_find 105 = .ok (.iload 7, 2) := by decide +kernel
theorem dX2_find_107 : decode cX2_find 107 = .ok (.iload 5, 2) := by decide +kernel
theorem dX2_find_109 : decode cX2_find 109 = .ok (.isub, 1) := by decide +kernel
theorem dX2_find_110 : decode cX2_find 110 = .ok (.invokevirtual 58, 3) := by decide +kernel
theorem dX2_find_113 : decode cX2_find 113 = .ok (.invokevirtual 62, 3) := by decide +kernel
theorem dX2_find_116 : decode cX2_find 116 = .ok (.iload 7, 2) := by decide +kernel
theorem dX2_find_118 : decode cX2_find 118 = .ok (.istore 5, 2) := by decide +kernel
theorem dX2_find_120 : decode cX2_find 120 = .ok (.iinc 6 1, 3) := by decide +kernel
theorem dX2_find_123 : decode cX2_find 123 = .ok (.goto (-91), 3) := by decide +kernel
theorem dX2_find_126 : decode cX2_find 126 = .ok (.aload_n 1, 1) := by decide +kernel
theorem dX2_find_127 : decode cX2_find 127 = .ok (.getfield 50, 3) := by decide +kernel
theorem dX2_find_130 : decode cX2_find 130 = .ok (.iload 5, 2) := by decide +kernel
theorem dX2_find_132 : decode cX2_find 132 = .ok (.isub, 1) := by decide +kernel
theorem dX2_find_133 : decode cX2_find 133 = .ok (.istore 6, 2) := by decide +kernel
theorem dX2_find_135 : decode cX2_find 135 = .ok (.aload_n 0, 1) := by decide +kernel
theorem dX2_find_136 : decode cX2_find 136 = .ok (.aload_n 1, 1) := by decide +kernel
theorem dX2_find_137 : decode cX2_find 137 = .ok (.getfield 50, 3) := by decide +kernel
theorem dX2_find_140 : decode cX2_find 140 = .ok (.aload 4, 2) := by decide +kernel
theorem dX2_find_142 : decode cX2_find 142 = .ok (.getfield 53, 3) := by decide +kernel
theorem dX2_find_145 : decode cX2_find 145 = .ok (.iconst 0, 1) := by decide +kernel
theorem dX2_find_146 : decode cX2_find 146 = .ok (.iaload, 1) := by decide +kernel
theorem dX2_find_147 : decode cX2_find 147 = .ok (.iload 6, 2) := by decide +kernel
theorem dX2_find_149 : decode cX2_find 149 = .ok (.imul, 1) := by decide +kernel
theorem dX2_find_150 : decode cX2_find 150 = .ok (.aload 4, 2) := by decide +kernel
theorem dX2_find_152 : decode cX2_find 152 = .ok (.iload 6, 2) := by decide +kernel
theorem dX2_find_154 : decode cX2_find 154 = .ok (.invokevirtual 66, 3) := by decide +kernel
theorem dX2_find_157 : decode cX2_find 157 = .ok (.invokevirtual 62, 3) := by decide +kernel
theorem dX2_find_160 : decode cX2_find 160 = .ok (.return_, 1) := by decide +kernel
theorem dX2_add_0 : decode cX2_add 0 = .ok (.aload_n 0, 1) := by decide +kernel
theorem dX2_add_1 : decode cX2_add 1 = .ok (.getfield 15, 3) := by decide +kernel
theorem dX2_add_4 : decode cX2_add 4 = .ok (.aload_n 0, 1) := by decide +kernel
theorem dX2_add_5 : decode cX2_add 5 = .ok (.getfield 40, 3) := by decide +kernel
theorem dX2_add_8 : decode cX2_add 8 = .ok (.iload_n 1, 1) := by decide +kernel
theorem dX2_add_9 : decode cX2_add 9 = .ok (.iastore, 1) := by decide +kernel
theorem dX2_add_10 : decode cX2_add 10 = .ok (.aload_n 0, 1) := by decide +kernel
theorem dX2_add_11 : decode cX2_add 11 = .ok (.getfield 18, 3) := by decide +kernel
theorem dX2_add_14 : decode cX2_add 14 = .ok (.aload_n 0, 1) := by decide +kernel
theorem dX2_add_15 : decode cX2_add 15 = .ok (.getfield 40, 3) := by decide +kernel
theorem dX2_add_18 : decode cX2_add 18 = .ok (.iload_n 2, 1) := by decide +kernel
theorem dX2_add_19 : decode cX2_add 19 = .ok (.iastore, 1) := by decide +kernel
theorem dX2_add_20 : decode cX2_add 20 = .ok (.aload_n 0, 1) := by decide +kernel
theorem dX2_add_21 : decode cX2_add 21 = .ok (.getfield 21, 3) := by decide +kernel
theorem dX2_add_24 : decode cX2_add 24 = .ok (.aload_n 0, 1) := by decide +kernel
theorem dX2_add_25 : decode cX2_add 25 = .ok (.getfield 40, 3) := by decide +kernel
theorem dX2_add_28 : decode cX2_add 28 = .ok (.iload_n 2, 1) := by decide +kernel
theorem dX2_add_29 : decode cX2_add 29 = .ok (.iload_n 3, 1) := by decide +kernel
theorem dX2_add_30 : decode cX2_add 30 = .ok (.isub, 1) := by decide +kernel
theorem dX2_add_31 : decode cX2_add 31 = .ok (.iastore, 1) := by decide +kernel
theorem dX2_add_32 : decode cX2_add 32 = .ok (.aload_n 0, 1) := by decide +kernel
theorem dX2_add_33 : decode cX2_add 33 = .ok (.dup, 1) := by decide +kernel
theorem dX2_add_34 : decode cX2_add 34 = .ok (.getfield 40, 3) := by decide +kernel
theorem dX2_add_37 : decode cX2_add 37 = .ok (.iconst 1, 1) := by decide +kernel
theorem dX2_add_38 : decode cX2_add 38 = .ok (.iadd, 1) := by decide +kernel
theorem dX2_add_39 : decode cX2_add 39 = .ok (.putfield 40, 3) := by decide +kernel
theorem dX2_add_42 : decode cX2_add 42 = .ok (.return_, 1) := by decide +kernel
theorem dX2_costAwake_0 : decode cX2_costAwake 0 = .ok (.aload_n 0, 1) := by decide +kernel
theorem dX2_costAwake_1 : decode cX2_costAwake 1 = .ok (.aload_n 0, 1) := by decide +kernel
theorem dX2_costAwake_2 : decode cX2_costAwake 2 = .ok (.getfield 18, 3) := by decide +kernel
theorem dX2_costAwake_5 : decode cX2_costAwake 5 = .ok (.invokevirtual 69, 3) := by decide +kernel
theorem dX2_costAwake_8 : decode cX2_costAwake 8 = .ok (.ireturn, 1) := by decide +kernel
theorem dX2_savedByAll_0 : decode cX2_savedByAll 0 = .ok (.aload_n 0, 1) := by decide +kernel
theorem dX2_savedByAll_1 : decode cX2_savedByAll 1 = .ok (.aload_n 0, 1) := by decide +kernel
theorem dX2_savedByAll_2 : decode cX2_savedByAll 2 = .ok (.getfield 21, 3) := by decide +kernel
theorem dX2_savedByAll_5 : decode cX2_savedByAll 5 = .ok (.invokevirtual 69, 3) := by decide +kernel
theorem dX2_savedByAll_8 : decode cX2_savedByAll 8 = .ok (.ireturn, 1) := by decide +kernel
theorem dX2_sumOf_0 : decode cX2_sumOf 0 = .ok (.iconst 0, 1) := by decide +kernel
theorem dX2_sumOf_1 : decode cX2_sumOf 1 = .ok (.istore_n 2, 1) := by decide +kernel
theorem dX2_sumOf_2 : decode cX2_sumOf 2 = .ok (.iconst 0, 1) := by decide +kernel
theorem dX2_sumOf_3 : decode cX2_sumOf 3 = .ok (.istore_n 3, 1) := by decide +kernel
theorem dX2_sumOf_4 : decode cX2_sumOf 4 = .ok (.iload_n 3, 1) := by decide +kernel
theorem dX2_sumOf_5 : decode cX2_sumOf 5 = .ok (.aload_n 0, 1) := by decide +kernel
theorem dX2_sumOf_6 : decode cX2_sumOf 6 = .ok (.getfield 40, 3) := by decide +kernel
theorem dX2_sumOf_9 : decode cX2_sumOf 9 = .ok (.if_icmp .ge 15, 3) := by decide +kernel
theorem dX2_sumOf_12 : decode cX2_sumOf 12 = .ok (.iload_n 2, 1) := by decide +kernel
theorem dX2_sumOf_13 : decode cX2_sumOf 13 = .ok (.aload_n 1, 1) := by decide +kernel
theorem dX2_sumOf_14 : decode cX2_sumOf 14 = .ok (.iload_n 3, 1) := by decide +kernel
theorem dX2_sumOf_15 : decode cX2_sumOf 15 = .ok (.iaload, 1) := by decide +kernel
theorem dX2_sumOf_16 : decode cX2_sumOf 16 = .ok (.iadd, 1) := by decide +kernel
theorem dX2_sumOf_17 : decode cX2_sumOf 17 = .ok (.istore_n 2, 1) := by decide +kernel
theorem dX2_sumOf_18 : decode cX2_sumOf 18 = .ok (.iinc 3 1, 3) := by decide +kernel
theorem dX2_sumOf_21 : decode cX2_sumOf 21 = .ok (.goto (-17), 3) := by decide +kernel
theorem dX2_sumOf_24 : decode cX2_sumOf 24 = .ok (.iload_n 2, 1) := by decide +kernel
theorem dX2_sumOf_25 : decode cX2_sumOf 25 = .ok (.ireturn, 1) := by decide +kernel
theorem dX2_worthSleeping_0 : decode cX2_worthSleeping 0 = .ok (.iconst 0, 1) := by decide +kernel
theorem dX2_worthSleeping_1 : decode cX2_worthSleeping 1 = .ok (.istore_n 1, 1) := by decide +kernel
theorem dX2_worthSleeping_2 : decode cX2_worthSleeping 2 = .ok (.iconst 0, 1) := by decide +kernel
theorem dX2_worthSleeping_3 : decode cX2_worthSleeping 3 = .ok (.istore_n 2, 1) := by decide +kernel
theorem dX2_worthSleeping_4 : decode cX2_worthSleeping 4 = .ok (.iload_n 2, 1) := by decide +kernel
theorem dX2_worthSleeping_5 : decode cX2_worthSleeping 5 = .ok (.aload_n 0, 1) := by decide +kernel
theorem dX2_worthSleeping_6 : decode cX2_worthSleeping 6 = .ok (.getfield 40, 3) := by decide +kernel
theorem dX2_worthSleeping_9 : decode cX2_worthSleeping 9 = .ok (.if_icmp .ge 21, 3) := by decide +kernel
theorem dX2_worthSleeping_12 : decode cX2_worthSleeping 12 = .ok (.aload_n 0, 1) := by decide +kernel
theorem dX2_worthSleeping_13 : decode cX2_worthSleeping 13 = .ok (.getfield 21, 3) := by decide +kernel
theorem dX2_worthSleeping_16 : decode cX2_worthSleeping 16 = .ok (.iload_n 2, 1) := by decide +kernel
theorem dX2_worthSleeping_17 : decode cX2_worthSleeping 17 = .ok (.iaload, 1) := by decide +kernel
theorem dX2_worthSleeping_18 : decode cX2_worthSleeping 18 = .ok (.ifCond .le 6, 3) := by decide +kernel
theorem dX2_worthSleeping_21 : decode cX2_worthSleeping 21 = .ok (.iinc 1 1, 3) := by decide +kernel
theorem dX2_worthSleeping_24 : decode cX2_worthSleeping 24 = .ok (.iinc 2 1, 3) := by decide +kernel
theorem dX2_worthSleeping_27 : decode cX2_worthSleeping 27 = .ok (.goto (-23), 3) := by decide +kernel
theorem dX2_worthSleeping_30 : decode cX2_worthSleeping 30 = .ok (.iload_n 1, 1) := by decide +kernel
theorem dX2_worthSleeping_31 : decode cX2_worthSleeping 31 = .ok (.ireturn, 1) := by decide +kernel
theorem dX2_savedByFew_0 : decode cX2_savedByFew 0 = .ok (.iconst 0, 1) := by decide +kernel
theorem dX2_savedByFew_1 : decode cX2_savedByFew 1 = .ok (.istore_n 3, 1) := by decide +kernel
theorem dX2_savedByFew_2 : decode cX2_savedByFew 2 = .ok (.iconst 0, 1) := by decide +kernel
theorem dX2_savedByFew_3 : decode cX2_savedByFew 3 = .ok (.istore 4, 2) := by decide +kernel
theorem dX2_savedByFew_5 : decode cX2_savedByFew 5 = .ok (.iload 4, 2) := by decide +kernel
theorem dX2_savedByFew_7 : decode cX2_savedByFew 7 = .ok (.aload_n 0, 1) := by decide +kernel
theorem dX2_savedByFew_8 : decode cX2_savedByFew 8 = .ok (.getfield 40, 3) := by decide +kernel
theorem dX2_savedByFew_11 : decode cX2_savedByFew 11 = .ok (.if_icmp .ge 45, 3) := by decide +kernel
theorem dX2_savedByFew_14 : decode cX2_savedByFew 14 = .ok (.iload 4, 2) := by decide +kernel
theorem dX2_savedByFew_16 : decode cX2_savedByFew 16 = .ok (.aload_n 0, 1) := by decide +kernel
theorem dX2_savedByFew_17 : decode cX2_savedByFew 17 = .ok (.getfield 40, 3) := by decide +kernel
theorem dX2_savedByFew_20 : decode cX2_savedByFew 20 = .ok (.iconst 1, 1) := by decide +kernel
theorem dX2_savedByFew_21 : decode cX2_savedByFew 21 = .ok (.isub, 1) := by decide +kernel
theorem dX2_savedByFew_22 : decode cX2_savedByFew 22 = .ok (.if_icmp .eq 18, 3) := by decide +kernel
theorem dX2_savedByFew_25 : decode cX2_savedByFew 25 = .ok (.aload_n 0, 1) := by decide +kernel
theorem dX2_savedByFew_26 : decode cX2_savedByFew 26 = .ok (.iload 4, 2) := by decide +kernel
theorem dX2_savedByFew_28 : decode cX2_savedByFew 28 = .ok (.iconst 1, 1) := by decide +kernel
theorem dX2_savedByFew_29 : decode cX2_savedByFew 29 = .ok (.iload_n 1, 1) := by decide +kernel
theorem dX2_savedByFew_30 : decode cX2_savedByFew 30 = .ok (.invokestatic 73, 3) := by decide +kernel
theorem dX2_savedByFew_33 : decode cX2_savedByFew 33 = .ok (.invokevirtual 79, 3) := by decide +kernel
theorem dX2_savedByFew_36 : decode cX2_savedByFew 36 = .ok (.iload_n 2, 1) := by decide +kernel
theorem dX2_savedByFew_37 : decode cX2_savedByFew 37 = .ok (.if_icmp .ge 13, 3) := by decide +kernel
theorem dX2_savedByFew_40 : decode cX2_savedByFew 40 = .ok (.iload_n 3, 1) := by decide +kernel
theorem dX2_savedByFew_41 : decode cX2_savedByFew 41 = .ok (.aload_n 0, 1) := by decide +kernel
theorem dX2_savedByFew_42 : decode cX2_savedByFew 42 = .ok (.getfield 21, 3) := by decide +kernel
theorem dX2_savedByFew_45 : decode cX2_savedByFew 45 = .ok (.iload 4, 2) := by decide +kernel
theorem dX2_savedByFew_47 : decode cX2_savedByFew 47 = .ok (.iaload, 1) := by decide +kernel
theorem dX2_savedByFew_48 : decode cX2_savedByFew 48 = .ok (.iadd, 1) := by decide +kernel
theorem dX2_savedByFew_49 : decode cX2_savedByFew 49 = .ok (.istore_n 3, 1) := by decide +kernel
theorem dX2_savedByFew_50 : decode cX2_savedByFew 50 = .ok (.iinc 4 1, 3) := by decide +kernel
theorem dX2_savedByFew_53 : decode cX2_savedByFew 53 = .ok (.goto (-48), 3) := by decide +kernel
theorem dX2_savedByFew_56 : decode cX2_savedByFew 56 = .ok (.iload_n 3, 1) := by decide +kernel
theorem dX2_savedByFew_57 : decode cX2_savedByFew 57 = .ok (.ireturn, 1) := by decide +kernel
theorem dX2_betterOfSameDay_0 : decode cX2_betterOfSameDay 0 = .ok (.iconst 0, 1) := by decide +kernel
theorem dX2_betterOfSameDay_1 : decode cX2_betterOfSameDay 1 = .ok (.istore_n 3, 1) := by decide +kernel
theorem dX2_betterOfSameDay_2 : decode cX2_betterOfSameDay 2 = .ok (.iconst 0, 1) := by decide +kernel
theorem dX2_betterOfSameDay_3 : decode cX2_betterOfSameDay 3 = .ok (.istore 4, 2) := by decide +kernel
theorem dX2_betterOfSameDay_5 : decode cX2_betterOfSameDay 5 = .ok (.iload 4, 2) := by decide +kernel
theorem dX2_betterOfSameDay_7 : decode cX2_betterOfSameDay 7 = .ok (.aload_n 0, 1) := by decide +kernel
theorem dX2_betterOfSameDay_8 : decode cX2_betterOfSameDay 8 = .ok (.getfield 40, 3) := by decide +kernel
theorem dX2_betterOfSameDay_11 : decode cX2_betterOfSameDay 11 = .ok (.iconst 1, 1) := by decide +kernel
theorem dX2_betterOfSameDay_12 : decode cX2_betterOfSameDay 12 = .ok (.isub, 1) := by decide +kernel
theorem dX2_betterOfSameDay_13 : decode cX2_betterOfSameDay 13 = .ok (.if_icmp .ge 82, 3) := by decide +kernel
theorem dX2_betterOfSameDay_16 : decode cX2_betterOfSameDay 16 = .ok (.aload_n 0, 1) := by decide +kernel
theorem dX2_betterOfSameDay_17 : decode cX2_betterOfSameDay 17 = .ok (.getfield 21, 3) := by decide +kernel
theorem dX2_betterOfSameDay_20 : decode cX2_betterOfSameDay 20 = .ok (.iload 4, 2) := by decide +kernel
theorem dX2_betterOfSameDay_22 : decode cX2_betterOfSameDay 22 = .ok (.iaload, 1) := by decide +kernel
theorem dX2_betterOfSameDay_23 : decode cX2_betterOfSameDay 23 = .ok (.aload_n 0, 1) := by decide +kernel
theorem dX2_betterOfSameDay_24 : decode cX2_betterOfSameDay 24 = .ok (.getfield 21, 3) := by decide +kernel
theorem dX2_betterOfSameDay_27 : decode cX2_betterOfSameDay 27 = .ok (.iload_n 1, 1) := by decide +kernel
theorem dX2_betterOfSameDay_28 : decode cX2_betterOfSameDay 28 = .ok (.iaload, 1) := by decide +kernel
theorem dX2_betterOfSameDay_29 : decode cX2_betterOfSameDay 29 = .ok (.if_icmp .gt 25, 3) := by decide +kernel
theorem dX2_betterOfSameDay_32 : decode cX2_betterOfSameDay 32 = .ok (.aload_n 0, 1) := by decide +kernel
theorem dX2_betterOfSameDay_33 : decode cX2_betterOfSameDay 33 = .ok (.getfield 21, 3) := by decide +kernel
theorem dX2_betterOfSameDay_36 : decode cX2_betterOfSameDay 36 = .ok (.iload 4, 2) := by decide +kernel
theorem dX2_betterOfSameDay_38 : decode cX2_betterOfSameDay 38 = .ok (.iaload, 1) := by decide +kernel
theorem dX2_betterOfSameDay_39 : decode cX2_betterOfSameDay 39 = .ok (.aload_n 0, 1) := by decide +kernel
theorem dX2_betterOfSameDay_40 : decode cX2_betterOfSameDay 40 = .ok (.getfield 21, 3) := by decide +kernel
theorem dX2_betterOfSameDay_43 : decode cX2_betterOfSameDay 43 = .ok (.iload_n 1, 1) := by decide +kernel
theorem dX2_betterOfSameDay_44 : decode cX2_betterOfSameDay 44 = .ok (.iaload, 1) := by decide +kernel
theorem dX2_betterOfSameDay_45 : decode cX2_betterOfSameDay 45 = .ok (.if_icmp .ne 13, 3) := by decide +kernel
theorem dX2_betterOfSameDay_48 : decode cX2_betterOfSameDay 48 = .ok (.iload 4, 2) := by decide +kernel
theorem dX2_betterOfSameDay_50 : decode cX2_betterOfSameDay 50 = .ok (.iload_n 1, 1) := by decide +kernel
theorem dX2_betterOfSameDay_51 : decode cX2_betterOfSameDay 51 = .ok (.if_icmp .ge 7, 3) := by decide +kernel
theorem dX2_betterOfSameDay_54 : decode cX2_betterOfSameDay 54 = .ok (.iconst 1, 1) := by decide +kernel
theorem dX2_betterOfSameDay_55 : decode cX2_betterOfSameDay 55 = .ok (.goto 4, 3) := by decide +kernel
theorem dX2_betterOfSameDay_58 : decode cX2_betterOfSameDay 58 = .ok (.iconst 0, 1) := by decide +kernel
theorem dX2_betterOfSameDay_59 : decode cX2_betterOfSameDay 59 = .ok (.istore 5, 2) := by decide +kernel
theorem dX2_betterOfSameDay_61 : decode cX2_betterOfSameDay 61 = .ok (.iload 5, 2) := by decide +kernel
theorem dX2_betterOfSameDay_63 : decode cX2_betterOfSameDay 63 = .ok (.ifCond .eq 26, 3) := by decide +kernel
theorem dX2_betterOfSameDay_66 : decode cX2_betterOfSameDay 66 = .ok (.aload_n 0, 1) := by decide +kernel
theorem dX2_betterOfSameDay_67 : decode cX2_betterOfSameDay 67 = .ok (.getfield 15, 3) := by decide +kernel
theorem dX2_betterOfSameDay_70 : decode cX2_betterOfSameDay 70 = .ok (.iload 4, 2) := by decide +kernel
theorem dX2_betterOfSameDay_72 : decode cX2_betterOfSameDay 72 = .ok (.iaload, 1) := by decide +kernel
theorem dX2_betterOfSameDay_73 : decode cX2_betterOfSameDay 73 = .ok (.iload_n 2, 1) := by decide +kernel
theorem dX2_betterOfSameDay_74 : decode cX2_betterOfSameDay 74 = .ok (.idiv, 1) := by decide +kernel
theorem dX2_betterOfSameDay_75 : decode cX2_betterOfSameDay 75 = .ok (.aload_n 0, 1) := by decide +kernel
theorem dX2_betterOfSameDay_76 : decode cX2_betterOfSameDay 76 = .ok (.getfield 15, 3) := by decide +kernel
theorem dX2_betterOfSameDay_79 : decode cX2_betterOfSameDay 79 = .ok (.iload_n 1, 1) := by decide +kernel
theorem dX2_betterOfSameDay_80 : decode cX2_betterOfSameDay 80 = .ok (.iaload, 1) := by decide +kernel
theorem dX2_betterOfSameDay_81 : decode cX2_betterOfSameDay 81 = .ok (.iload_n 2, 1) := by decide +kernel
theorem dX2_betterOfSameDay_82 : decode cX2_betterOfSameDay 82 = .ok (.idiv, 1) := by decide +kernel
theorem dX2_betterOfSameDay_83 : decode cX2_betterOfSameDay 83 = .ok (.if_icmp .ne 6, 3) := by decide +kernel
theorem dX2_betterOfSameDay_86 : decode cX2_betterOfSameDay 86 = .ok (.iinc 3 1, 3) := by decide +kernel
theorem dX2_betterOfSameDay_89 : decode cX2_betterOfSameDay 89 = .ok (.iinc 4 1, 3) := by decide +kernel
theorem dX2_betterOfSameDay_92 : decode cX2_betterOfSameDay 92 = .ok (.goto (-87), 3) := by decide +kernel
theorem dX2_betterOfSameDay_95 : decode cX2_betterOfSameDay 95 = .ok (.iload_n 3, 1) := by decide +kernel
theorem dX2_betterOfSameDay_96 : decode cX2_betterOfSameDay 96 = .ok (.ireturn, 1) := by decide +kernel
theorem dX3_init_0 : decode cX3_init 0 = .ok (.aload_n 0, 1) := by decide +kernel
theorem dX3_init_1 : decode cX3_init 1 = .ok (.invokespecial 3, 3) := by decide +kernel
theorem dX3_init_4 : decode cX3_init 4 = .ok (.aload_n 0, 1) := by decide +kernel
theorem dX3_init_5 : decode cX3_init 5 = .ok (.bipush 40, 2) := by decide +kernel
theorem dX3_init_7 : decode cX3_init 7 = .ok (.newarray .int, 2) := by decide +kernel
theorem dX3_init_9 : decode cX3_init 9 = .ok (.putfield 9, 3) := by decide +kernel
theorem dX3_init_12 : decode cX3_init 12 = .ok (.aload_n 0, 1) := by decide +kernel
theorem dX3_init_13 : decode cX3_init 13 = .ok (.bipush 40, 2) := by decide +kernel
theorem dX3_init_15 : decode cX3_init 15 = .ok (.newarray .int, 2) := by decide +kernel
theorem dX3_init_17 : decode cX3_init 17 = .ok (.putfield 15, 3) := by decide +kernel
theorem dX3_init_20 : decode cX3_init 20 = .ok (.aload_n 0, 1) := by decide +kernel
theorem dX3_init_21 : decode cX3_init 21 = .ok (.bipush 40, 2) := by decide +kernel
theorem dX3_init_23 : decode cX3_init 23 = .ok (.newarray .int, 2) := by decide +kernel
theorem dX3_init_25 : decode cX3_init 25 = .ok (.putfield 18, 3) := by decide +kernel
theorem dX3_init_28 : decode cX3_init 28 = .ok (.return_, 1) := by decide +kernel
theorem dX3_copyFrom_0 : decode cX3_copyFrom 0 = .ok (.aload_n 1, 1) := by decide +kernel
theorem dX3_copyFrom_1 : decode cX3_copyFrom 1 = .ok (.getfield 9, 3) := by decide +kernel
theorem dX3_copyFrom_4 : decode cX3_copyFrom 4 = .ok (.iconst 0, 1) := by decide +kernel
theorem dX3_copyFrom_5 : decode cX3_copyFrom 5 = .ok (.aload_n 0, 1) := by decide +kernel
theorem dX3_copyFrom_6 : decode cX3_copyFrom 6 = .ok (.getfield 9, 3) := by decide +kernel
theorem dX3_copyFrom_9 : decode cX3_copyFrom 9 = .ok (.iconst 0, 1) := by decide +kernel
theorem dX3_copyFrom_10 : decode cX3_copyFrom 10 = .ok (.bipush 40, 2) := by decide +kernel
theorem dX3_copyFrom_12 : decode cX3_copyFrom 12 = .ok (.invokestatic 21, 3) := by decide +kernel
theorem dX3_copyFrom_15 : decode cX3_copyFrom 15 = .ok (.aload_n 1, 1) := by decide +kernel
theorem dX3_copyFrom_16 : decode cX3_copyFrom 16 = .ok (.getfield 15, 3) := by decide +kernel
theorem dX3_copyFrom_19 : decode cX3_copyFrom 19 = .ok (.iconst 0, 1) := by decide +kernel
theorem dX3_copyFrom_20 : decode cX3_copyFrom 20 = .ok (.aload_n 0, 1) := by decide +kernel
theorem dX3_copyFrom_21 : decode cX3_copyFrom 21 = .ok (.getfield 15, 3) := by decide +kernel
theorem dX3_copyFrom_24 : decode cX3_copyFrom 24 = .ok (.iconst 0, 1) := by decide +kernel
theorem dX3_copyFrom_25 : decode cX3_copyFrom 25 = .ok (.bipush 40, 2) := by decide +kernel
theorem dX3_copyFrom_27 : decode cX3_copyFrom 27 = .ok (.invokestatic 21, 3) := by decide +kernel
theorem dX3_copyFrom_30 : decode cX3_copyFrom 30 = .ok (.aload_n 1, 1) := by decide +kernel
theorem dX3_copyFrom_31 : decode cX3_copyFrom 31 = .ok (.getfield 18, 3) := by decide +kernel
theorem dX3_copyFrom_34 : decode cX3_copyFrom 34 = .ok (.iconst 0, 1) := by decide +kernel
theorem dX3_copyFrom_35 : decode cX3_copyFrom 35 = .ok (.aload_n 0, 1) := by decide +kernel
theorem dX3_copyFrom_36 : decode cX3_copyFrom 36 = .ok (.getfield 18, 3) := by decide +kernel
theorem dX3_copyFrom_39 : decode cX3_copyFrom 39 = .ok (.iconst 0, 1) := by decide +kernel
theorem dX3_copyFrom_40 : decode cX3_copyFrom 40 = .ok (.bipush 40, 2) := by decide +kernel
theorem dX3_copyFrom_42 : decode cX3_copyFrom 42 = .ok (.invokestatic 21, 3) := by decide +kernel
theorem dX3_copyFrom_45 : decode cX3_copyFrom 45 = .ok (.aload_n 0, 1) := by decide +kernel
theorem dX3_copyFrom_46 : decode cX3_copyFrom 46 = .ok (.aload_n 1, 1) := by decide +kernel
theorem dX3_copyFrom_47 : decode cX3_copyFrom 47 = .ok (.getfield 27, 3) := by decide +kernel
theorem dX3_copyFrom_50 : decode cX3_copyFrom 50 = .ok (.putfield 27, 3) := by decide +kernel
theorem dX3_copyFrom_53 : decode cX3_copyFrom 53 = .ok (.return_, 1) := by decide +kernel
theorem dX3_has_0 : decode cX3_has 0 = .ok (.iload_n 1, 1) := by decide +kernel
theorem dX3_has_1 : decode cX3_has 1 = .ok (.iconst 0, 1) := by decide +kernel
theorem dX3_has_2 : decode cX3_has 2 = .ok (.aload_n 0, 1) := by decide +kernel
theorem dX3_has_3 : decode cX3_has 3 = .ok (.getfield 27, 3) := by decide +kernel
theorem dX3_has_6 : decode cX3_has 6 = .ok (.iconst 1, 1) := by decide +kernel
theorem dX3_has_7 : decode cX3_has 7 = .ok (.isub, 1) := by decide +kernel
theorem dX3_has_8 : decode cX3_has 8 = .ok (.invokestatic 31, 3) := by decide +kernel
theorem dX3_has_11 : decode cX3_has 11 = .ok (.ireturn, 1) := by decide +kernel
theorem dX3_add_0 : decode cX3_add 0 = .ok (.aload_n 0, 1) := by decide +kernel
theorem dX3_add_1 : decode cX3_add 1 = .ok (.getfield 9, 3) := by decide +kernel
theorem dX3_add_4 : decode cX3_add 4 = .ok (.aload_n 0, 1) := by decide +kernel
theorem dX3_add_5 : decode cX3_add 5 = .ok (.getfield 27, 3) := by decide +kernel
theorem dX3_add_8 : decode cX3_add 8 = .ok (.iload_n 1, 1) := by decide +kernel
theorem dX3_add_9 : decode cX3_add 9 = .ok (.iastore, 1) := by decide +kernel
theorem dX3_add_10 : decode cX3_add 10 = .ok (.aload_n 0, 1) := by decide +kernel
theorem dX3_add_11 : decode cX3_add 11 = .ok (.getfield 15, 3) := by decide +kernel
theorem dX3_add_14 : decode cX3_add 14 = .ok (.aload_n 0, 1) := by decide +kernel
theorem dX3_add_15 : decode cX3_add 15 = .ok (.getfield 27, 3) := by decide +kernel
theorem dX3_add_18 : decode cX3_add 18 = .ok (.iload_n 2, 1) := by decide +kernel
theorem dX3_add_19 : decode cX3_add 19 = .ok (.iastore, 1) := by decide +kernel
theorem dX3_add_20 : decode cX3_add 20 = .ok (.aload_n 0, 1) := by decide +kernel
theorem dX3_add_21 : decode cX3_add 21 = .ok (.getfield 18, 3) := by decide +kernel
theorem dX3_add_24 : decode cX3_add 24 = .ok (.aload_n 0, 1) := by decide +kernel
theorem dX3_add_25 : decode cX3_add 25 = .ok (.getfield 27, 3) := by decide +kernel
theorem dX3_add_28 : decode cX3_add 28 = .ok (.iload_n 3, 1) := by decide +kernel
theorem dX3_add_29 : decode cX3_add 29 = .ok (.iastore, 1) := by decide +kernel
theorem dX3_add_30 : decode cX3_add 30 = .ok (.aload_n 0, 1) := by decide +kernel
theorem dX3_add_31 : decode cX3_add 31 = .ok (.dup, 1) := by decide +kernel
theorem dX3_add_32 : decode cX3_add 32 = .ok (.getfield 27, 3) := by decide +kernel
theorem dX3_add_35 : decode cX3_add 35 = .ok (.iconst 1, 1) := by decide +kernel
theorem dX3_add_36 : decode cX3_add 36 = .ok (.iadd, 1) := by decide +kernel
theorem dX3_add_37 : decode cX3_add 37 = .ok (.putfield 27, 3) := by decide +kernel
theorem dX3_add_40 : decode cX3_add 40 = .ok (.return_, 1) := by decide +kernel
theorem dX3_drop_0 : decode cX3_drop 0 = .ok (.aload_n 0, 1) := by decide +kernel
theorem dX3_drop_1 : decode cX3_drop 1 = .ok (.dup, 1) := by decide +kernel
theorem dX3_drop_2 : decode cX3_drop 2 = .ok (.getfield 27, 3) := by decide +kernel
theorem dX3_drop_5 : decode cX3_drop 5 = .ok (.iconst 1, 1) := by decide +kernel
theorem dX3_drop_6 : decode cX3_drop 6 = .ok (.isub, 1) := by decide +kernel
theorem dX3_drop_7 : decode cX3_drop 7 = .ok (.putfield 27, 3) := by decide +kernel
theorem dX3_drop_10 : decode cX3_drop 10 = .ok (.iload_n 1, 1) := by decide +kernel
theorem dX3_drop_11 : decode cX3_drop 11 = .ok (.istore_n 2, 1) := by decide +kernel
theorem dX3_drop_12 : decode cX3_drop 12 = .ok (.iload_n 2, 1) := by decide +kernel
theorem dX3_drop_13 : decode cX3_drop 13 = .ok (.aload_n 0, 1) := by decide +kernel
theorem dX3_drop_14 : decode cX3_drop 14 = .ok (.getfield 27, 3) := by decide +kernel
theorem dX3_drop_17 : decode cX3_drop 17 = .ok (.if_icmp .ge 51, 3) := by decide +kernel
theorem dX3_drop_20 : decode cX3_drop 20 = .ok (.aload_n 0, 1) := by decide +kernel
theorem dX3_drop_21 : decode cX3_drop 21 = .ok (.getfield 9, 3) := by decide +kernel
theorem dX3_drop_24 : decode cX3_drop 24 = .ok (.iload_n 2, 1) := by decide +kernel
theorem dX3_drop_25 : decode cX3_drop 25 = .ok (.aload_n 0, 1) := by decide +kernel
theorem dX3_drop_26 : decode cX3_drop 26 = .ok (.getfield 9, 3) := by decide +kernel
theorem dX3_drop_29 : decode cX3_drop 29 = .ok (.iload_n 2, 1) := by decide +kernel
theorem dX3_drop_30 : decode cX3_drop 30 = .ok (.iconst 1, 1) := by decide +kernel
theorem dX3_drop_31 : decode cX3_drop 31 = .ok (.iadd, 1) := by decide +kernel
theorem dX3_drop_32 : decode cX3_drop 32 = .ok (.iaload, 1) := by decide +kernel
theorem dX3_drop_33 : decode cX3_drop 33 = .ok (.iastore, 1) := by decide +kernel
theorem dX3_drop_34 : decode cX3_drop 34 = .ok (.aload_n 0, 1) := by decide +kernel
theorem dX3_drop_35 : decode cX3_drop 35 = .ok (.getfield 15, 3) := by decide +kernel
theorem dX3_drop_38 : decode cX3_drop 38 = .ok (.iload_n 2, 1) := by decide +kernel
theorem dX3_drop_39 : decode cX3_drop 39 = .ok (.aload_n 0, 1) := by decide +kernel
theorem dX3_drop_40 : decode cX3_drop 40 = .ok (.getfield 15, 3) := by decide +kernel
theorem dX3_drop_43 : decode cX3_drop 43 = .ok (.iload_n 2, 1) := by decide +kernel
theorem dX3_drop_44 : decode cX3_drop 44 = .ok (.iconst 1, 1) := by decide +kernel
theorem dX3_drop_45 : decode cX3_drop 45 = .ok (.iadd, 1) := by decide +kernel
theorem dX3_drop_46 : decode cX3_drop 46 = .ok (.iaload, 1) := by decide +kernel
theorem dX3_drop_47 : decode cX3_drop 47 = .ok (.iastore, 1) := by decide +kernel
theorem dX3_drop_48 : decode cX3_drop 48 = .ok (.aload_n 0, 1) := by decide +kernel
theorem dX3_drop_49 : decode cX3_drop 49 = .ok (.getfield 18, 3) := by decide +kernel
theorem dX3_drop_52 : decode cX3_drop 52 = .ok (.iload_n 2, 1) := by decide +kernel
theorem dX3_drop_53 : decode cX3_drop 53 = .ok (.aload_n 0, 1) := by decide +kernel
theorem dX3_drop_54 : decode cX3_drop 54 = .ok (.getfield 18, 3) := by decide +kernel
theorem dX3_drop_57 : decode cX3_drop 57 = .ok (.iload_n 2, 1) := by decide +kernel
theorem dX3_drop_58 : decode cX3_drop 58 = .ok (.iconst 1, 1) := by decide +kernel
theorem dX3_drop_59 : decode cX3_drop 59 = .ok (.iadd, 1) := by decide +kernel
theorem dX3_drop_60 : decode cX3_drop 60 = .ok (.iaload, 1) := by decide +kernel
theorem dX3_drop_61 : decode cX3_drop 61 = .ok (.iastore, 1) := by decide +kernel
theorem dX3_drop_62 : decode cX3_drop 62 = .ok (.iinc 2 1, 3) := by decide +kernel
theorem dX3_drop_65 : decode cX3_drop 65 = .ok (.goto (-53), 3) := by decide +kernel
theorem dX3_drop_68 : decode cX3_drop 68 = .ok (.return_, 1) := by decide +kernel
theorem dX3_putInOrder_0 : decode cX3_putInOrder 0 = .ok (.iconst 0, 1) := by decide +kernel
theorem dX3_putInOrder_1 : decode cX3_putInOrder 1 = .ok (.istore_n 2, 1) := by decide +kernel
theorem dX3_putInOrder_2 : decode cX3_putInOrder 2 = .ok (.iload_n 2, 1) := by decide +kernel
theorem dX3_putInOrder_3 : decode cX3_putInOrder 3 = .ok (.aload_n 0, 1) := by decide +kernel
theorem dX3_putInOrder_4 : decode cX3_putInOrder 4 = .ok (.getfield 27, 3) := by decide +kernel
theorem dX3_putInOrder_7 : decode cX3_putInOrder 7 = .ok (.if_icmp .ge 52, 3) := by decide +kernel
theorem dX3_putInOrder_10 : decode cX3_putInOrder 10 = .ok (.iload_n 2, 1) := by decide +kernel
theorem dX3_putInOrder_11 : decode cX3_putInOrder 11 = .ok (.istore_n 3, 1) := by decide +kernel
theorem dX3_putInOrder_12 : decode cX3_putInOrder 12 = .ok (.iload_n 3, 1) := by decide +kernel
theorem dX3_putInOrder_13 : decode cX3_putInOrder 13 = .ok (.ifCond .le 36, 3) := by decide +kernel
theorem dX3_putInOrder_16 : decode cX3_putInOrder 16 = .ok (.aload_n 0, 1) := by decide +kernel
theorem dX3_putInOrder_17 : decode cX3_putInOrder 17 = .ok (.getfield 9, 3) := by decide +kernel
theorem dX3_putInOrder_20 : decode cX3_putInOrder 20 = .ok (.aload_n 1, 1) := by decide +kernel
theorem dX3_putInOrder_21 : decode cX3_putInOrder 21 = .ok (.iload_n 3, 1) := by decide +kernel
theorem dX3_putInOrder_22 : decode cX3_putInOrder 22 = .ok (.iconst 1, 1) := by decide +kernel
theorem dX3_putInOrder_23 : decode cX3_putInOrder 23 = .ok (.isub, 1) := by decide +kernel
theorem dX3_putInOrder_24 : decode cX3_putInOrder 24 = .ok (.iaload, 1) := by decide +kernel
theorem dX3_putInOrder_25 : decode cX3_putInOrder 25 = .ok (.iaload, 1) := by decide +kernel
theorem dX3_putInOrder_26 : decode cX3_putInOrder 26 = .ok (.aload_n 0, 1) := by decide +kernel
theorem dX3_putInOrder_27 : decode cX3_putInOrder 27 = .ok (.getfield 9, 3) := by decide +kernel
theorem dX3_putInOrder_30 : decode cX3_putInOrder 30 = .ok (.iload_n 2, 1) := by decide +kernel
theorem dX3_putInOrder_31 : decode cX3_putInOrder 31 = .ok (.iaload, 1) := by decide +kernel
theorem dX3_putInOrder_32 : decode cX3_putInOrder 32 = .ok (.if_icmp .le 17, 3) := by decide +kernel
theorem dX3_putInOrder_35 : decode cX3_putInOrder 35 = .ok (.aload_n 1, 1) := by decide +kernel
theorem dX3_putInOrder_36 : decode cX3_putInOrder 36 = .ok (.iload_n 3, 1) := by decide +kernel
theorem dX3_putInOrder_37 : decode cX3_putInOrder 37 = .ok (.aload_n 1, 1) := by decide +kernel
theorem dX3_putInOrder_38 : decode cX3_putInOrder 38 = .ok (.iload_n 3, 1) := by decide +kernel
theorem dX3_putInOrder_39 : decode cX3_putInOrder 39 = .ok (.iconst 1, 1) := by decide +kernel
theorem dX3_putInOrder_40 : decode cX3_putInOrder 40 = .ok (.isub, 1) := by decide +kernel
theorem dX3_putInOrder_41 : decode cX3_putInOrder 41 = .ok (.iaload, 1) := by decide +kernel
theorem dX3_putInOrder_42 : decode cX3_putInOrder 42 = .ok (.iastore, 1) := by decide +kernel
theorem dX3_putInOrder_43 : decode cX3_putInOrder 43 = .ok (.iinc 3 (-1), 3) := by decide +kernel
theorem dX3_putInOrder_46 : decode cX3_putInOrder 46 = .ok (.goto (-34), 3) := by decide +kernel
theorem dX3_putInOrder_49 : decode cX3_putInOrder 49 = .ok (.aload_n 1, 1) := by decide +kernel
theorem dX3_putInOrder_50 : decode cX3_putInOrder 50 = .ok (.iload_n 3, 1) := by decide +kernel
theorem dX3_putInOrder_51 : decode cX3_putInOrder 51 = .ok (.iload_n 2, 1) := by decide +kernel
theorem dX3_putInOrder_52 : decode cX3_putInOrder 52 = .ok (.iastore, 1) := by decide +kernel
theorem dX3_putInOrder_53 : decode cX3_putInOrder 53 = .ok (.iinc 2 1, 3) := by decide +kernel
theorem dX3_putInOrder_56 : decode cX3_putInOrder 56 = .ok (.goto (-54), 3) := by decide +kernel
theorem dX3_putInOrder_59 : decode cX3_putInOrder 59 = .ok (.return_, 1) := by decide +kernel
theorem dX4_init_0 : decode cX4_init 0 = .ok (.aload_n 0, 1) := by decide +kernel
theorem dX4_init_1 : decode cX4_init 1 = .ok (.invokespecial 3, 3) := by decide +kernel
theorem dX4_init_4 : decode cX4_init 4 = .ok (.aload_n 0, 1) := by decide +kernel
theorem dX4_init_5 : decode cX4_init 5 = .ok (.iconst 4, 1) := by decide +kernel
theorem dX4_init_6 : decode cX4_init 6 = .ok (.anewarray 9, 3) := by decide +kernel
theorem dX4_init_9 : decode cX4_init 9 = .ok (.putfield 11, 3) := by decide +kernel
theorem dX4_init_12 : decode cX4_init 12 = .ok (.aload_n 0, 1) := by decide +kernel
theorem dX4_init_13 : decode cX4_init 13 = .ok (.bipush 40, 2) := by decide +kernel
theorem dX4_init_15 : decode cX4_init 15 = .ok (.newarray .int, 2) := by decide +kernel
theorem dX4_init_17 : decode cX4_init 17 = .ok (.putfield 17, 3) := by decide +kernel
theorem dX4_init_20 : decode cX4_init 20 = .ok (.aload_n 0, 1) := by decide +kernel
theorem dX4_init_21 : decode cX4_init 21 = .ok (.bipush 40, 2) := by decide +kernel
theorem dX4_init_23 : decode cX4_init 23 = .ok (.newarray .int, 2) := by decide +kernel
theorem dX4_init_25 : decode cX4_init 25 = .ok (.putfield 21, 3) := by decide +kernel
theorem dX4_init_28 : decode cX4_init 28 = .ok (.aload_n 0, 1) := by decide +kernel
theorem dX4_init_29 : decode cX4_init 29 = .ok (.bipush 8, 2) := by decide +kernel
theorem dX4_init_31 : decode cX4_init 31 = .ok (.newarray .int, 2) := by decide +kernel
theorem dX4_init_33 : decode cX4_init 33 = .ok (.putfield 24, 3) := by decide +kernel
theorem dX4_init_36 : decode cX4_init 36 = .ok (.aload_n 0, 1) := by decide +kernel
theorem dX4_init_37 : decode cX4_init 37 = .ok (.iconst 1, 1) := by decide +kernel
theorem dX4_init_38 : decode cX4_init 38 = .ok (.putfield 27, 3) := by decide +kernel
theorem dX4_init_41 : decode cX4_init 41 = .ok (.iconst 0, 1) := by decide +kernel
theorem dX4_init_42 : decode cX4_init 42 = .ok (.istore_n 1, 1) := by decide +kernel
theorem dX4_init_43 : decode cX4_init 43 = .ok (.iload_n 1, 1) := by decide +kernel
theorem dX4_init_44 : decode cX4_init 44 = .ok (.iconst 4, 1) := by decide +kernel
theorem dX4_init_45 : decode cX4_init 45 = .ok (.if_icmp .ge 22, 3) := by decide +kernel
theorem dX4_init_48 : decode cX4_init 48 = .ok (.aload_n 0, 1) := by decide +kernel
theorem dX4_init_49 : decode cX4_init 49 = .ok (.getfield 11, 3) := by decide +kernel
theorem dX4_init_52 : decode cX4_init 52 = .ok (.iload_n 1, 1) := by decide +kernel
theorem dX4_init_53 : decode cX4_init 53 = .ok (.new 9, 3) := by decide +kernel
theorem dX4_init_56 : decode cX4_init 56 = .ok (.dup, 1) := by decide +kernel
theorem dX4_init_57 : decode cX4_init 57 = .ok (.invokespecial 31, 3) := by decide +kernel
theorem dX4_init_60 : decode cX4_init 60 = .ok (.aastore, 1) := by decide +kernel
theorem dX4_init_61 : decode cX4_init 61 = .ok (.iinc 1 1, 3) := by decide +kernel
theorem dX4_init_64 : decode cX4_init 64 = .ok (.goto (-21), 3) := by decide +kernel
theorem dX4_init_67 : decode cX4_init 67 = .ok (.return_, 1) := by decide +kernel
theorem dX4_makeStale_0 : decode cX4_makeStale 0 = .ok (.aload_n 0, 1) := by decide +kernel
theorem dX4_makeStale_1 : decode cX4_makeStale 1 = .ok (.iconst 1, 1) := by decide +kernel
theorem dX4_makeStale_2 : decode cX4_makeStale 2 = .ok (.putfield 27, 3) := by decide +kernel
theorem dX4_makeStale_5 : decode cX4_makeStale 5 = .ok (.return_, 1) := by decide +kernel
theorem dX4_goOnTo_0 : decode cX4_goOnTo 0 = .ok (.aload_n 0, 1) := by decide +kernel
theorem dX4_goOnTo_1 : decode cX4_goOnTo 1 = .ok (.getfield 27, 3) := by decide +kernel
theorem dX4_goOnTo_4 : decode cX4_goOnTo 4 = .ok (.ifCond .ne 11, 3) := by decide +kernel
theorem dX4_goOnTo_7 : decode cX4_goOnTo 7 = .ok (.aload_n 0, 1) := by decide +kernel
theorem dX4_goOnTo_8 : decode cX4_goOnTo 8 = .ok (.getfield 32, 3) := by decide +kernel
theorem dX4_goOnTo_11 : decode cX4_goOnTo 11 = .ok (.iload_n 2, 1) := by decide +kernel
theorem dX4_goOnTo_12 : decode cX4_goOnTo 12 = .ok (.if_icmp .le 11, 3) := by decide +kernel
theorem dX4_goOnTo_15 : decode cX4_goOnTo 15 = .ok (.aload_n 0, 1) := by decide +kernel
theorem dX4_goOnTo_16 : decode cX4_goOnTo 16 = .ok (.aload_n 1, 1) := by decide +kernel
theorem dX4_goOnTo_17 : decode cX4_goOnTo 17 = .ok (.getfield 36, 3) := by decide +kernel
theorem dX4_goOnTo_20 : decode cX4_goOnTo 20 = .ok (.invokevirtual 42, 3) := by decide +kernel
theorem dX4_goOnTo_23 : decode cX4_goOnTo 23 = .ok (.aload_n 0, 1) := by decide +kernel
theorem dX4_goOnTo_24 : decode cX4_goOnTo 24 = .ok (.getfield 32, 3) := by decide +kernel
theorem dX4_goOnTo_27 : decode cX4_goOnTo 27 = .ok (.istore_n 3, 1) := by decide +kernel
theorem dX4_goOnTo_28 : decode cX4_goOnTo 28 = .ok (.iload_n 3, 1) := by decide +kernel
theorem dX4_goOnTo_29 : decode cX4_goOnTo 29 = .ok (.iload_n 2, 1) := by decide +kernel
theorem dX4_goOnTo_30 : decode cX4_goOnTo 30 = .ok (.if_icmp .ge 47, 3) := by decide +kernel
theorem dX4_goOnTo_33 : decode cX4_goOnTo 33 = .ok (.aload_n 0, 1) := by decide +kernel
theorem dX4_goOnTo_34 : decode cX4_goOnTo 34 = .ok (.aload_n 1, 1) := by decide +kernel
theorem dX4_goOnTo_35 : decode cX4_goOnTo 35 = .ok (.iload_n 3, 1) := by decide +kernel
theorem dX4_goOnTo_36 : decode cX4_goOnTo 36 = .ok (.invokevirtual 46, 3) := by decide +kernel
theorem dX4_goOnTo_39 : decode cX4_goOnTo 39 = .ok (.iconst 0, 1) := by decide +kernel
theorem dX4_goOnTo_40 : decode cX4_goOnTo 40 = .ok (.istore 4, 2) := by decide +kernel
theorem dX4_goOnTo_42 : decode cX4_goOnTo 42 = .ok (.iload 4, 2) := by decide +kernel
theorem dX4_goOnTo_44 : decode cX4_goOnTo 44 = .ok (.iconst 4, 1) := by decide +kernel
theorem dX4_goOnTo_45 : decode cX4_goOnTo 45 = .ok (.if_icmp .ge 26, 3) := by decide +kernel
theorem dX4_goOnTo_48 : decode cX4_goOnTo 48 = .ok (.aload_n 0, 1) := by decide +kernel
theorem dX4_goOnTo_49 : decode cX4_goOnTo 49 = .ok (.getfield 11, 3) := by decide +kernel
theorem dX4_goOnTo_52 : decode cX4_goOnTo 52 = .ok (.iload 4, 2) := by decide +kernel
theorem dX4_goOnTo_54 : decode cX4_goOnTo 54 = .ok (.aaload, 1) := by decide +kernel
theorem dX4_goOnTo_55 : decode cX4_goOnTo 55 = .ok (.aload_n 1, 1) := by decide +kernel
theorem dX4_goOnTo_56 : decode cX4_goOnTo 56 = .ok (.getfield 50, 3) := by decide +kernel
theorem dX4_goOnTo_59 : decode cX4_goOnTo 59 = .ok (.iload 4, 2) := by decide +kernel
theorem dX4_goOnTo_61 : decode cX4_goOnTo 61 = .ok (.aaload, 1) := by decide +kernel
theorem dX4_goOnTo_62 : decode cX4_goOnTo 62 = .ok (.invokevirtual 54, 3) := by decide +kernel
theorem dX4_goOnTo_65 : decode cX4_goOnTo 65 = .ok (.iinc 4 1, 3) := by decide +kernel
theorem dX4_goOnTo_68 : decode cX4_goOnTo 68 = .ok (.goto (-26), 3) := by decide +kernel
theorem dX4_goOnTo_71 : decode cX4_goOnTo 71 = .ok (.iinc 3 1, 3) := by decide +kernel
theorem dX4_goOnTo_74 : decode cX4_goOnTo 74 = .ok (.goto (-46), 3) := by decide +kernel
theorem dX4_goOnTo_77 : decode cX4_goOnTo 77 = .ok (.aload_n 0, 1) := by decide +kernel
theorem dX4_goOnTo_78 : decode cX4_goOnTo 78 = .ok (.iload_n 2, 1) := by decide +kernel
theorem dX4_goOnTo_79 : decode cX4_goOnTo 79 = .ok (.putfield 32, 3) := by decide +kernel
theorem dX4_goOnTo_82 : decode cX4_goOnTo 82 = .ok (.return_, 1) := by decide +kernel
theorem dX4_begin_0 : decode cX4_begin 0 = .ok (.iconst 0, 1) := by decide +kernel
theorem dX4_begin_1 : decode cX4_begin 1 = .ok (.istore_n 2, 1) := by decide +kernel
theorem dX4_begin_2 : decode cX4_begin 2 = .ok (.iload_n 2, 1) := by decide +kernel
theorem dX4_begin_3 : decode cX4_begin 3 = .ok (.iconst 4, 1) := by decide +kernel
theorem dX4_begin_4 : decode cX4_begin 4 = .ok (.if_icmp .ge 18, 3) := by decide +kernel
theorem dX4_begin_7 : decode cX4_begin 7 = .ok (.aload_n 0, 1) := by decide +kernel
theorem dX4_begin_8 : decode cX4_begin 8 = .ok (.getfield 11, 3) := by decide +kernel
theorem dX4_begin_11 : decode cX4_begin 11 = .ok (.iload_n 2, 1) := by decide +kernel
theorem dX4_begin_12 : decode cX4_begin 12 = .ok (.aaload, 1) := by decide +kernel
theorem dX4_begin_13 : decode cX4_begin 13 = .ok (.invokevirtual 58, 3) := by decide +kernel
theorem dX4_begin_16 : decode cX4_begin 16 = .ok (.iinc 2 1, 3) := by decide +kernel
theorem dX4_begin_19 : decode cX4_begin 19 = .ok (.goto (-17), 3) := by decide +kernel
theorem dX4_begin_22 : decode cX4_begin 22 = .ok (.iconst 0, 1) := by decide +kernel
theorem dX4_begin_23 : decode cX4_begin 23 = .ok (.istore_n 2, 1) := by decide +kernel
theorem dX4_begin_24 : decode cX4_begin 24 = .ok (.iload_n 2, 1) := by decide +kernel
theorem dX4_begin_25 : decode cX4_begin 25 = .ok (.bipush 40, 2) := by decide +kernel
theorem dX4_begin_27 : decode cX4_begin 27 = .ok (.if_icmp .ge 16, 3) := by decide +kernel
theorem dX4_begin_30 : decode cX4_begin 30 = .ok (.aload_n 0, 1) := by decide +kernel
theorem dX4_begin_31 : decode cX4_begin 31 = .ok (.getfield 21, 3) := by decide +kernel
theorem dX4_begin_34 : decode cX4_begin 34 = .ok (.iload_n 2, 1) := by decide +kernel
theorem dX4_begin_35 : decode cX4_begin 35 = .ok (.iconst 0, 1) := by decide +kernel
theorem dX4_begin_36 : decode cX4_begin 36 = .ok (.iastore, 1) := by decide +kernel
theorem dX4_begin_37 : decode cX4_begin 37 = .ok (.iinc 2 1, 3) := by decide +kernel
theorem dX4_begin_40 : decode cX4_begin 40 = .ok (.goto (-16), 3) := by decide +kernel
theorem dX4_begin_43 : decode cX4_begin 43 = .ok (.aload_n 1, 1) := by decide +kernel
theorem dX4_begin_44 : decode cX4_begin 44 = .ok (.aload_n 0, 1) := by decide +kernel
theorem dX4_begin_45 : decode cX4_begin 45 = .ok (.getfield 17, 3) := by decide +kernel
theorem dX4_begin_48 : decode cX4_begin 48 = .ok (.invokevirtual 60, 3) := by decide +kernel
theorem dX4_begin_51 : decode cX4_begin 51 = .ok (.aload_n 0, 1) := by decide +kernel
theorem dX4_begin_52 : decode cX4_begin 52 = .ok (.iconst 0, 1) := by decide +kernel
theorem dX4_begin_53 : decode cX4_begin 53 = .ok (.putfield 66, 3) := by decide +kernel
theorem dX4_begin_56 : decode cX4_begin 56 = .ok (.aload_n 0, 1) := by decide +kernel
theorem dX4_begin_57 : decode cX4_begin 57 = .ok (.iconst 0, 1) := by decide +kernel
theorem dX4_begin_58 : decode cX4_begin 58 = .ok (.putfield 69, 3) := by decide +kernel
theorem dX4_begin_61 : decode cX4_begin 61 = .ok (.aload_n 0, 1) := by decide +kernel
theorem dX4_begin_62 : decode cX4_begin 62 = .ok (.iconst 0, 1) := by decide +kernel
theorem dX4_begin_63 : decode cX4_begin 63 = .ok (.putfield 72, 3) := by decide +kernel
theorem dX4_begin_66 : decode cX4_begin 66 = .ok (.aload_n 0, 1) := by decide +kernel
theorem dX4_begin_67 : decode cX4_begin 67 = .ok (.iconst 0, 1) := by decide +kernel
theorem dX4_begin_68 : decode cX4_begin 68 = .ok (.putfield 32, 3) := by decide +kernel
theorem dX4_begin_71 : decode cX4_begin 71 = .ok (.aload_n 0, 1) := by decide +kernel
theorem dX4_begin_72 : decode cX4_begin 72 = .ok (.iconst 0, 1) := by decide +kernel
theorem dX4_begin_73 : decode cX4_begin 73 = .ok (.putfield 27, 3) := by decide +kernel
theorem dX4_begin_76 : decode cX4_begin 76 = .ok (.return_, 1) := by decide +kernel
theorem dX4_serveAllOf_0 : decode cX4_serveAllOf 0 = .ok (.aload_n 1, 1) := by decide +kernel
theorem dX4_serveAllOf_1 : decode cX4_serveAllOf 1 = .ok (.getfield 36, 3) := by decide +kernel
theorem dX4_serveAllOf_4 : decode cX4_serveAllOf 4 = .ok (.astore_n 3, 1) := by decide +kernel
theorem dX4_serveAllOf_5 : decode cX4_serveAllOf 5 = .ok (.aload_n 0, 1) := by decide +kernel
theorem dX4_serveAllOf_6 : decode cX4_serveAllOf 6 = .ok (.getfield 72, 3) := by decide +kernel
theorem dX4_serveAllOf_9 : decode cX4_serveAllOf 9 = .ok (.istore 4, 2) := by decide +kernel
theorem dX4_serveAllOf_11 : decode cX4_serveAllOf 11 = .ok (.iload 4, 2) := by decide +kernel
theorem dX4_serveAllOf_13 : decode cX4_serveAllOf 13 = .ok (.aload_n 3, 1) := by decide +kernel
theorem dX4_serveAllOf_14 : decode cX4_serveAllOf 14 = .ok (.getfield 75, 3) := by decide +kernel
theorem dX4_serveAllOf_17 : decode cX4_serveAllOf 17 = .ok (.if_icmp .ge 37, 3) := by decide +kernel
theorem dX4_serveAllOf_20 : decode cX4_serveAllOf 20 = .ok (.aload_n 3, 1) := by decide +kernel
theorem dX4_serveAllOf_21 : decode cX4_serveAllOf 21 = .ok (.getfield 76, 3) := by decide +kernel
theorem dX4_serveAllOf_24 : decode cX4_serveAllOf 24 = .ok (.aload_n 0, 1) := by decide +kernel
theorem dX4_serveAllOf_25 : decode cX4_serveAllOf 25 = .ok (.getfield 17, 3) := by decide +kernel
theorem dX4_serveAllOf_28 : decode cX4_serveAllOf 28 = .ok (.iload 4, 2) := by decide +kernel
theorem dX4_serveAllOf_30 : decode cX4_serveAllOf 30 = .ok (.iaload, 1) := by decide +kernel
theorem dX4_serveAllOf_31 : decode cX4_serveAllOf 31 = .ok (.iaload, 1) := by decide +kernel
theorem dX4_serveAllOf_32 : decode cX4_serveAllOf 32 = .ok (.iload_n 2, 1) := by decide +kernel
theorem dX4_serveAllOf_33 : decode cX4_serveAllOf 33 = .ok (.if_icmp .ne 21, 3) := by decide +kernel
theorem dX4_serveAllOf_36 : decode cX4_serveAllOf 36 = .ok (.aload_n 0, 1) := by decide +kernel
theorem dX4_serveAllOf_37 : decode cX4_serveAllOf 37 = .ok (.aload_n 1, 1) := by decide +kernel
theorem dX4_serveAllOf_38 : decode cX4_serveAllOf 38 = .ok (.aload_n 0, 1) := by decide +kernel
theorem dX4_serveAllOf_39 : decode cX4_serveAllOf 39 = .ok (.getfield 17, 3) := by decide +kernel
theorem dX4_serveAllOf_42 : decode cX4_serveAllOf 42 = .ok (.iload 4, 2) := by decide +kernel
theorem dX4_serveAllOf_44 : decode cX4_serveAllOf 44 = .ok (.iaload, 1) := by decide +kernel
theorem dX4_serveAllOf_45 : decode cX4_serveAllOf 45 = .ok (.invokevirtual 79, 3) := by decide +kernel
theorem dX4_serveAllOf_48 : decode cX4_serveAllOf 48 = .ok (.iinc 4 1, 3) := by decide +kernel
theorem dX4_serveAllOf_51 : decode cX4_serveAllOf 51 = .ok (.goto (-40), 3) := by decide +kernel
theorem dX4_serveAllOf_54 : decode cX4_serveAllOf 54 = .ok (.aload_n 0, 1) := by decide +kernel
theorem dX4_serveAllOf_55 : decode cX4_serveAllOf 55 = .ok (.iload 4, 2) := by decide +kernel
theorem dX4_serveAllOf_57 : decode cX4_serveAllOf 57 = .ok (.putfield 72, 3) := by decide +kernel
theorem dX4_serveAllOf_60 : decode cX4_serveAllOf 60 = .ok (.return_, 1) := by decide +kernel
theorem dX4_serve_0 : decode cX4_serve 0 = .ok (.aload_n 1, 1) := by decide +kernel
theorem dX4_serve_1 : decode cX4_serve 1 = .ok (.getfield 36, 3) := by decide +kernel
theorem dX4_serve_4 : decode cX4_serve 4 = .ok (.getfield 82, 3) := by decide +kernel
theorem dX4_serve_7 : decode cX4_serve 7 = .ok (.iload_n 2, 1) := by decide +kernel
theorem dX4_serve_8 : decode cX4_serve 8 = .ok (.iaload, 1) := by decide +kernel
theorem dX4_serve_9 : decode cX4_serve 9 = .ok (.istore_n 3, 1) := by decide +kernel
theorem dX4_serve_10 : decode cX4_serve 10 = .ok (.aload_n 1, 1) := by decide +kernel
theorem dX4_serve_11 : decode cX4_serve 11 = .ok (.getfield 36, 3) := by decide +kernel
theorem dX4_serve_14 : decode cX4_serve 14 = .ok (.getfield 84, 3) := by decide +kernel
theorem dX4_serve_17 : decode cX4_serve 17 = .ok (.iload_n 2, 1) := by decide +kernel
theorem dX4_serve_18 : decode cX4_serve 18 = .ok (.iaload, 1) := by decide +kernel
theorem dX4_serve_19 : decode cX4_serve 19 = .ok (.iconst 1, 1) := by decide +kernel
theorem dX4_serve_20 : decode cX4_serve 20 = .ok (.if_icmp .ne 7, 3) := by decide +kernel
theorem dX4_serve_23 : decode cX4_serve 23 = .ok (.iconst 1, 1) := by decide +kernel
theorem dX4_serve_24 : decode cX4_serve 24 = .ok (.goto 4, 3) := by decide +kernel
theorem dX4_serve_27 : decode cX4_serve 27 = .ok (.iconst 0, 1) := by decide +kernel
theorem dX4_serve_28 : decode cX4_serve 28 = .ok (.istore 4, 2) := by decide +kernel
theorem dX4_serve_30 : decode cX4_serve 30 = .ok (.aload_n 0, 1) := by decide +kernel
theorem dX4_serve_31 : decode cX4_serve 31 = .ok (.getfield 11, 3) := by decide +kernel
theorem dX4_serve_34 : decode cX4_serve 34 = .ok (.iload_n 3, 1) := by decide +kernel
theorem dX4_serve_35 : decode cX4_serve 35 = .ok (.aaload, 1) := by decide +kernel
theorem dX4_serve_36 : decode cX4_serve 36 = .ok (.astore 5, 2) := by decide +kernel
theorem dX4_serve_38 : decode cX4_serve 38 = .ok (.aload 5, 2) := by decide +kernel
theorem dX4_serve_40 : decode cX4_serve 40 = .ok (.invokevirtual 87, 3) := by decide +kernel
theorem dX4_serve_43 : decode cX4_serve 43 = .ok (.istore 6, 2) := by decide +kernel
theorem dX4_serve_45 : decode cX4_serve 45 = .ok (.iload 4, 2) := by decide +kernel
theorem dX4_serve_47 : decode cX4_serve 47 = .ok (.ifCond .eq 32, 3) := by decide +kernel
theorem dX4_serve_50 : decode cX4_serve 50 = .ok (.iload 6, 2) := by decide +kernel
theorem dX4_serve_52 : decode cX4_serve 52 = .ok (.ifCond .eq 27, 3) := by decide +kernel
theorem dX4_serve_55 : decode cX4_serve 55 = .ok (.aload_n 0, 1) := by decide +kernel
theorem dX4_serve_56 : decode cX4_serve 56 = .ok (.getfield 66, 3) := by decide +kernel
theorem dX4_serve_59 : decode cX4_serve 59 = .ok (.aload_n 1, 1) := by decide +kernel
theorem dX4_serve_60 : decode cX4_serve 60 = .ok (.getfield 91, 3) := by decide +kernel
theorem dX4_serve_63 : decode cX4_serve 63 = .ok (.bipush 8, 2) := by decide +kernel
theorem dX4_serve_65 : decode cX4_serve 65 = .ok (.invokestatic 94, 3) := by decide +kernel
theorem dX4_serve_68 : decode cX4_serve 68 = .ok (.if_icmp .ge 11, 3) := by decide +kernel
theorem dX4_serve_71 : decode cX4_serve 71 = .ok (.aload_n 0, 1) := by decide +kernel
theorem dX4_serve_72 : decode cX4_serve 72 = .ok (.aload 5, 2) := by decide +kernel
theorem dX4_serve_74 : decode cX4_serve 74 = .ok (.iload_n 2, 1) := by decide +kernel
theorem dX4_serve_75 : decode cX4_serve 75 = .ok (.invokevirtual 100, 3) := by decide +kernel
theorem dX4_serve_78 : decode cX4_serve 78 = .ok (.return_, 1) := by decide +kernel
theorem dX4_serve_79 : decode cX4_serve 79 = .ok (.iload 6, 2) := by decide +kernel
theorem dX4_serve_81 : decode cX4_serve 81 = .ok (.ifCond .eq 9, 3) := by decide +kernel
theorem dX4_serve_84 : decode cX4_serve 84 = .ok (.aload_n 0, 1) := by decide +kernel
theorem dX4_serve_85 : decode cX4_serve 85 = .ok (.aload_n 1, 1) := by decide +kernel
theorem dX4_serve_86 : decode cX4_serve 86 = .ok (.iload_n 3, 1) := by decide +kernel
theorem dX4_serve_87 : decode cX4_serve 87 = .ok (.invokevirtual 104, 3) := by decide +kernel
theorem dX4_serve_90 : decode cX4_serve 90 = .ok (.aload 5, 2) := by decide +kernel
theorem dX4_serve_92 : decode cX4_serve 92 = .ok (.aload_n 1, 1) := by decide +kernel
theorem dX4_serve_93 : decode cX4_serve 93 = .ok (.getfield 50, 3) := by decide +kernel
theorem dX4_serve_96 : decode cX4_serve 96 = .ok (.iload_n 3, 1) := by decide +kernel
theorem dX4_serve_97 : decode cX4_serve 97 = .ok (.aaload, 1) := by decide +kernel
theorem dX4_serve_98 : decode cX4_serve 98 = .ok (.invokevirtual 107, 3) := by decide +kernel
theorem dX4_serve_101 : decode cX4_serve 101 = .ok (.invokevirtual 113, 3) := by decide +kernel
theorem dX4_serve_104 : decode cX4_serve 104 = .ok (.iload 4, 2) := by decide +kernel
theorem dX4_serve_106 : decode cX4_serve 106 = .ok (.ifCond .eq 34, 3) := by decide +kernel
theorem dX4_serve_109 : decode cX4_serve 109 = .ok (.aload 5, 2) := by decide +kernel
theorem dX4_serve_111 : decode cX4_serve 111 = .ok (.dup, 1) := by decide +kernel
theorem dX4_serve_112 : decode cX4_serve 112 = .ok (.getfield 117, 3) := by decide +kernel
theorem dX4_serve_115 : decode cX4_serve 115 = .ok (.iconst 1, 1) := by decide +kernel
theorem dX4_serve_116 : decode cX4_serve 116 = .ok (.iadd, 1) := by decide +kernel
theorem dX4_serve_117 : decode cX4_serve 117 = .ok (.putfield 117, 3) := by decide +kernel
theorem dX4_serve_120 : decode cX4_serve 120 = .ok (.aload_n 0, 1) := by decide +kernel
theorem dX4_serve_121 : decode cX4_serve 121 = .ok (.getfield 21, 3) := by decide +kernel
theorem dX4_serve_124 : decode cX4_serve 124 = .ok (.iload_n 2, 1) := by decide +kernel
theorem dX4_serve_125 : decode cX4_serve 125 = .ok (.iload 6, 2) := by decide +kernel
theorem dX4_serve_127 : decode cX4_serve 127 = .ok (.ifCond .eq 8, 3) := by decide +kernel
theorem dX4_serve_130 : decode cX4_serve 130 = .ok (.bipush 6, 2) := by decide +kernel
theorem dX4_serve_132 : decode cX4_serve 132 = .ok (.goto 4, 3) := by decide +kernel
theorem dX4_serve_135 : decode cX4_serve 135 = .ok (.iconst 3, 1) := by decide +kernel
theorem dX4_serve_136 : decode cX4_serve 136 = .ok (.iastore, 1) := by decide +kernel
theorem dX4_serve_137 : decode cX4_serve 137 = .ok (.goto 30, 3) := by decide +kernel
theorem dX4_serve_140 : decode cX4_serve 140 = .ok (.aload 5, 2) := by decide +kernel
theorem dX4_serve_142 : decode cX4_serve 142 = .ok (.dup, 1) := by decide +kernel
theorem dX4_serve_143 : decode cX4_serve 143 = .ok (.getfield 120, 3) := by decide +kernel
theorem dX4_serve_146 : decode cX4_serve 146 = .ok (.iconst 1, 1) := by decide +kernel
theorem dX4_serve_147 : decode cX4_serve 147 = .ok (.iadd, 1) := by decide +kernel
theorem dX4_serve_148 : decode cX4_serve 148 = .ok (.putfield 120, 3) := by decide +kernel
theorem dX4_serve_151 : decode cX4_serve 151 = .ok (.aload_n 0, 1) := by decide +kernel
theorem dX4_serve_152 : decode cX4_serve 152 = .ok (.getfield 21, 3) := by decide +kernel
theorem dX4_serve_155 : decode cX4_serve 155 = .ok (.iload_n 2, 1) := by decide +kernel
theorem dX4_serve_156 : decode cX4_serve 156 = .ok (.iload 6, 2) := by decide +kernel
theorem dX4_serve_158 : decode cX4_serve 158 = .ok (.ifCond .eq 7, 3) := by decide +kernel
theorem dX4_serve_161 : decode cX4_serve 161 = .ok (.iconst 2, 1) := by decide +kernel
theorem dX4_serve_162 : decode cX4_serve 162 = .ok (.goto 4, 3) := by decide +kernel
theorem dX4_serve_165 : decode cX4_serve 165 = .ok (.iconst 1, 1) := by decide +kernel
theorem dX4_serve_166 : decode cX4_serve 166 = .ok (.iastore, 1) := by decide +kernel
theorem dX4_serve_167 : decode cX4_serve 167 = .ok (.return_, 1) := by decide +kernel
theorem dX4_enter_0 : decode cX4_enter 0 = .ok (.aload_n 0, 1) := by decide +kernel
theorem dX4_enter_1 : decode cX4_enter 1 = .ok (.getfield 24, 3) := by decide +kernel
theorem dX4_enter_4 : decode cX4_enter 4 = .ok (.aload_n 0, 1) := by decide +kernel
theorem dX4_enter_5 : decode cX4_enter 5 = .ok (.getfield 66, 3) := by decide +kernel
theorem dX4_enter_8 : decode cX4_enter 8 = .ok (.iload_n 2, 1) := by decide +kernel
theorem dX4_enter_9 : decode cX4_enter 9 = .ok (.iastore, 1) := by decide +kernel
theorem dX4_enter_10 : decode cX4_enter 10 = .ok (.aload_n 0, 1) := by decide +kernel
theorem dX4_enter_11 : decode cX4_enter 11 = .ok (.dup, 1) := by decide +kernel
theorem dX4_enter_12 : decode cX4_enter 12 = .ok (.getfield 66, 3) := by decide +kernel
theorem dX4_enter_15 : decode cX4_enter 15 = .ok (.iconst 1, 1) := by decide +kernel
theorem dX4_enter_16 : decode cX4_enter 16 = .ok (.iadd, 1) := by decide +kernel
theorem dX4_enter_17 : decode cX4_enter 17 = .ok (.putfield 66, 3) := by decide +kernel
theorem dX4_enter_20 : decode cX4_enter 20 = .ok (.aload_n 0, 1) := by decide +kernel
theorem dX4_enter_21 : decode cX4_enter 21 = .ok (.aload_n 0, 1) := by decide +kernel
theorem dX4_enter_22 : decode cX4_enter 22 = .ok (.getfield 69, 3) := by decide +kernel
theorem dX4_enter_25 : decode cX4_enter 25 = .ok (.aload_n 0, 1) := by decide +kernel
theorem dX4_enter_26 : decode cX4_enter 26 = .ok (.getfield 66, 3) := by decide +kernel
theorem dX4_enter_29 : decode cX4_enter 29 = .ok (.invokestatic 123, 3) := by decide +kernel
theorem dX4_enter_32 : decode cX4_enter 32 = .ok (.putfield 69, 3) := by decide +kernel
theorem dX4_enter_35 : decode cX4_enter 35 = .ok (.aload_n 1, 1) := by decide +kernel
theorem dX4_enter_36 : decode cX4_enter 36 = .ok (.dup, 1) := by decide +kernel
theorem dX4_enter_37 : decode cX4_enter 37 = .ok (.getfield 126, 3) := by decide +kernel
theorem dX4_enter_40 : decode cX4_enter 40 = .ok (.iconst 1, 1) := by decide +kernel
theorem dX4_enter_41 : decode cX4_enter 41 = .ok (.iadd, 1) := by decide +kernel
theorem dX4_enter_42 : decode cX4_enter 42 = .ok (.putfield 126, 3) := by decide +kernel
theorem dX4_enter_45 : decode cX4_enter 45 = .ok (.aload_n 0, 1) := by decide +kernel
theorem dX4_enter_46 : decode cX4_enter 46 = .ok (.getfield 21, 3) := by decide +kernel
theorem dX4_enter_49 : decode cX4_enter 49 = .ok (.iload_n 2, 1) := by decide +kernel
theorem dX4_enter_50 : decode cX4_enter 50 = .ok (.iconst 5, 1) := by decide +kernel
theorem dX4_enter_51 : decode cX4_enter 51 = .ok (.iastore, 1) := by decide +kernel
theorem dX4_enter_52 : decode cX4_enter 52 = .ok (.return_, 1) := by decide +kernel
theorem dX4_wakeUp_0 : decode cX4_wakeUp 0 = .ok (.aload_n 0, 1) := by decide +kernel
theorem dX4_wakeUp_1 : decode cX4_wakeUp 1 = .ok (.getfield 11, 3) := by decide +kernel
theorem dX4_wakeUp_4 : decode cX4_wakeUp 4 = .ok (.iload_n 2, 1) := by decide +kernel
theorem dX4_wakeUp_5 : decode cX4_wakeUp 5 = .ok (.aaload, 1) := by decide +kernel
theorem dX4_wakeUp_6 : decode cX4_wakeUp 6 = .ok (.astore_n 3, 1) := by decide +kernel
theorem dX4_wakeUp_7 : decode cX4_wakeUp 7 = .ok (.aload_n 3, 1) := by decide +kernel
theorem dX4_wakeUp_8 : decode cX4_wakeUp 8 = .ok (.dup, 1) := by decide +kernel
theorem dX4_wakeUp_9 : decode cX4_wakeUp 9 = .ok (.getfield 129, 3) := by decide +kernel
theorem dX4_wakeUp_12 : decode cX4_wakeUp 12 = .ok (.aload_n 1, 1) := by decide +kernel
theorem dX4_wakeUp_13 : decode cX4_wakeUp 13 = .ok (.getfield 50, 3) := by decide +kernel
theorem dX4_wakeUp_16 : decode cX4_wakeUp 16 = .ok (.iload_n 2, 1) := by decide +kernel
theorem dX4_wakeUp_17 : decode cX4_wakeUp 17 = .ok (.aaload, 1) := by decide +kernel
theorem dX4_wakeUp_18 : decode cX4_wakeUp 18 = .ok (.getfield 132, 3) := by decide +kernel
theorem dX4_wakeUp_21 : decode cX4_wakeUp 21 = .ok (.aload_n 3, 1) := by decide +kernel
theorem dX4_wakeUp_22 : decode cX4_wakeUp 22 = .ok (.getfield 135, 3) := by decide +kernel
theorem dX4_wakeUp_25 : decode cX4_wakeUp 25 = .ok (.iaload, 1) := by decide +kernel
theorem dX4_wakeUp_26 : decode cX4_wakeUp 26 = .ok (.iadd, 1) := by decide +kernel
theorem dX4_wakeUp_27 : decode cX4_wakeUp 27 = .ok (.putfield 129, 3) := by decide +kernel
theorem dX4_wakeUp_30 : decode cX4_wakeUp 30 = .ok (.aload_n 3, 1) := by decide +kernel
theorem dX4_wakeUp_31 : decode cX4_wakeUp 31 = .ok (.dup, 1) := by decide +kernel
theorem dX4_wakeUp_32 : decode cX4_wakeUp 32 = .ok (.getfield 138, 3) := by decide +kernel
theorem dX4_wakeUp_35 : decode cX4_wakeUp 35 = .ok (.iconst 1, 1) := by decide +kernel
theorem dX4_wakeUp_36 : decode cX4_wakeUp 36 = .ok (.iadd, 1) := by decide +kernel
theorem dX4_wakeUp_37 : decode cX4_wakeUp 37 = .ok (.putfield 138, 3) := by decide +kernel
theorem dX4_wakeUp_40 : decode cX4_wakeUp 40 = .ok (.aload_n 0, 1) := by decide +kernel
theorem dX4_wakeUp_41 : decode cX4_wakeUp 41 = .ok (.aload_n 1, 1) := by decide +kernel
theorem dX4_wakeUp_42 : decode cX4_wakeUp 42 = .ok (.getfield 36, 3) := by decide +kernel
theorem dX4_wakeUp_45 : decode cX4_wakeUp 45 = .ok (.iload_n 2, 1) := by decide +kernel
theorem dX4_wakeUp_46 : decode cX4_wakeUp 46 = .ok (.invokevirtual 141, 3) := by decide +kernel
theorem dX4_wakeUp_49 : decode cX4_wakeUp 49 = .ok (.return_, 1) := by decide +kernel
theorem dX4_letEntriesLeave_0 : decode cX4_letEntriesLeave 0 = .ok (.iconst 0, 1) := by decide +kernel
theorem dX4_letEntriesLeave_1 : decode cX4_letEntriesLeave 1 = .ok (.istore_n 3, 1) := by decide +kernel
theorem dX4_letEntriesLeave_2 : decode cX4_letEntriesLeave 2 = .ok (.iconst 0, 1) := by decide +kernel
theorem dX4_letEntriesLeave_3 : decode cX4_letEntriesLeave 3 = .ok (.istore 4, 2) := by decide +kernel
theorem dX4_letEntriesLeave_5 : decode cX4_letEntriesLeave 5 = .ok (.iload 4, 2) := by decide +kernel
theorem dX4_letEntriesLeave_7 : decode cX4_letEntriesLeave 7 = .ok (.aload_n 0, 1) := by decide +kernel
theorem dX4_letEntriesLeave_8 : decode cX4_letEntriesLeave 8 = .ok (.getfield 66, 3) := by decide +kernel
theorem dX4_letEntriesLeave_11 : decode cX4_letEntriesLeave 11 = .ok (.if_icmp .ge 51, 3) := by decide +kernel
theorem dX4_letEntriesLeave_14 : decode cX4_letEntriesLeave 14 = .ok (.aload_n 0, 1) := by decide +kernel
theorem dX4_letEntriesLeave_15 : decode cX4_letEntriesLeave 15 = .ok (.getfield 24, 3) := by decide +kernel
theorem dX4_letEntriesLeave_18 : decode cX4_letEntriesLeave 18 = .ok (.iload 4, 2) := by decide +kernel
theorem dX4_letEntriesLeave_20 : decode cX4_letEntriesLeave 20 = .ok (.iaload, 1) := by decide +kernel
theorem dX4_letEntriesLeave_21 : decode cX4_letEntriesLeave 21 = .ok (.istore 5, 2) := by decide +kernel
theorem dX4_letEntriesLeave_23 : decode cX4_letEntriesLeave 23 = .ok (.aload_n 1, 1) := by decide +kernel
theorem dX4_letEntriesLeave_24 : decode cX4_letEntriesLeave 24 = .ok (.getfield 82, 3) := by decide +kernel
theorem dX4_letEntriesLeave_27 : decode cX4_letEntriesLeave 27 = .ok (.iload 5, 2) := by decide +kernel
theorem dX4_letEntriesLeave_29 : decode cX4_letEntriesLeave 29 = .ok (.iaload, 1) := by decide +kernel
