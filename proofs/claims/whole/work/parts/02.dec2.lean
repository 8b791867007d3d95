theorem dX4_letEntriesLeave_30 : decode cX4_letEntriesLeave 30 = .ok (.iload_n 2, 1) := by decide +kernel
theorem dX4_letEntriesLeave_31 : decode cX4_letEntriesLeave 31 = .ok (.if_icmp .ne 14, 3) := by decide +kernel
theorem dX4_letEntriesLeave_34 : decode cX4_letEntriesLeave 34 = .ok (.aload_n 0, 1) := by decide +kernel
theorem dX4_letEntriesLeave_35 : decode cX4_letEntriesLeave 35 = .ok (.getfield 21, 3) := by decide +kernel
theorem dX4_letEntriesLeave_38 : decode cX4_letEntriesLeave 38 = .ok (.iload 5, 2) := by decide +kernel
theorem dX4_letEntriesLeave_40 : decode cX4_letEntriesLeave 40 = .ok (.iconst 4, 1) := by decide +kernel
theorem dX4_letEntriesLeave_41 : decode cX4_letEntriesLeave 41 = .ok (.iastore, 1) := by decide +kernel
theorem dX4_letEntriesLeave_42 : decode cX4_letEntriesLeave 42 = .ok (.goto 14, 3) := by decide +kernel
theorem dX4_letEntriesLeave_45 : decode cX4_letEntriesLeave 45 = .ok (.aload_n 0, 1) := by decide +kernel
theorem dX4_letEntriesLeave_46 : decode cX4_letEntriesLeave 46 = .ok (.getfield 24, 3) := by decide +kernel
theorem dX4_letEntriesLeave_49 : decode cX4_letEntriesLeave 49 = .ok (.iload_n 3, 1) := by decide +kernel
theorem dX4_letEntriesLeave_50 : decode cX4_letEntriesLeave 50 = .ok (.iload 5, 2) := by decide +kernel
theorem dX4_letEntriesLeave_52 : decode cX4_letEntriesLeave 52 = .ok (.iastore, 1) := by decide +kernel
theorem dX4_letEntriesLeave_53 : decode cX4_letEntriesLeave 53 = .ok (.iinc 3 1, 3) := by decide +kernel
theorem dX4_letEntriesLeave_56 : decode cX4_letEntriesLeave 56 = .ok (.iinc 4 1, 3) := by decide +kernel
theorem dX4_letEntriesLeave_59 : decode cX4_letEntriesLeave 59 = .ok (.goto (-54), 3) := by decide +kernel
theorem dX4_letEntriesLeave_62 : decode cX4_letEntriesLeave 62 = .ok (.aload_n 0, 1) := by decide +kernel
theorem dX4_letEntriesLeave_63 : decode cX4_letEntriesLeave 63 = .ok (.iload_n 3, 1) := by decide +kernel
theorem dX4_letEntriesLeave_64 : decode cX4_letEntriesLeave 64 = .ok (.putfield 66, 3) := by decide +kernel
theorem dX4_letEntriesLeave_67 : decode cX4_letEntriesLeave 67 = .ok (.return_, 1) := by decide +kernel
theorem dX4_entriesOf_0 : decode cX4_entriesOf 0 = .ok (.iconst 0, 1) := by decide +kernel
theorem dX4_entriesOf_1 : decode cX4_entriesOf 1 = .ok (.istore_n 3, 1) := by decide +kernel
theorem dX4_entriesOf_2 : decode cX4_entriesOf 2 = .ok (.iconst 0, 1) := by decide +kernel
theorem dX4_entriesOf_3 : decode cX4_entriesOf 3 = .ok (.istore 4, 2) := by decide +kernel
theorem dX4_entriesOf_5 : decode cX4_entriesOf 5 = .ok (.iload 4, 2) := by decide +kernel
theorem dX4_entriesOf_7 : decode cX4_entriesOf 7 = .ok (.aload_n 0, 1) := by decide +kernel
theorem dX4_entriesOf_8 : decode cX4_entriesOf 8 = .ok (.getfield 66, 3) := by decide +kernel
theorem dX4_entriesOf_11 : decode cX4_entriesOf 11 = .ok (.if_icmp .ge 28, 3) := by decide +kernel
theorem dX4_entriesOf_14 : decode cX4_entriesOf 14 = .ok (.aload_n 1, 1) := by decide +kernel
theorem dX4_entriesOf_15 : decode cX4_entriesOf 15 = .ok (.getfield 82, 3) := by decide +kernel
theorem dX4_entriesOf_18 : decode cX4_entriesOf 18 = .ok (.aload_n 0, 1) := by decide +kernel
theorem dX4_entriesOf_19 : decode cX4_entriesOf 19 = .ok (.getfield 24, 3) := by decide +kernel
theorem dX4_entriesOf_22 : decode cX4_entriesOf 22 = .ok (.iload 4, 2) := by decide +kernel
theorem dX4_entriesOf_24 : decode cX4_entriesOf 24 = .ok (.iaload, 1) := by decide +kernel
theorem dX4_entriesOf_25 : decode cX4_entriesOf 25 = .ok (.iaload, 1) := by decide +kernel
theorem dX4_entriesOf_26 : decode cX4_entriesOf 26 = .ok (.iload_n 2, 1) := by decide +kernel
theorem dX4_entriesOf_27 : decode cX4_entriesOf 27 = .ok (.if_icmp .ne 6, 3) := by decide +kernel
theorem dX4_entriesOf_30 : decode cX4_entriesOf 30 = .ok (.iinc 3 1, 3) := by decide +kernel
theorem dX4_entriesOf_33 : decode cX4_entriesOf 33 = .ok (.iinc 4 1, 3) := by decide +kernel
theorem dX4_entriesOf_36 : decode cX4_entriesOf 36 = .ok (.goto (-31), 3) := by decide +kernel
theorem dX4_entriesOf_39 : decode cX4_entriesOf 39 = .ok (.iload_n 3, 1) := by decide +kernel
theorem dX4_entriesOf_40 : decode cX4_entriesOf 40 = .ok (.ireturn, 1) := by decide +kernel
theorem dX4_energyOfAll_0 : decode cX4_energyOfAll 0 = .ok (.iconst 0, 1) := by decide +kernel
theorem dX4_energyOfAll_1 : decode cX4_energyOfAll 1 = .ok (.istore_n 1, 1) := by decide +kernel
theorem dX4_energyOfAll_2 : decode cX4_energyOfAll 2 = .ok (.iconst 0, 1) := by decide +kernel
theorem dX4_energyOfAll_3 : decode cX4_energyOfAll 3 = .ok (.istore_n 2, 1) := by decide +kernel
theorem dX4_energyOfAll_4 : decode cX4_energyOfAll 4 = .ok (.iload_n 2, 1) := by decide +kernel
theorem dX4_energyOfAll_5 : decode cX4_energyOfAll 5 = .ok (.iconst 4, 1) := by decide +kernel
theorem dX4_energyOfAll_6 : decode cX4_energyOfAll 6 = .ok (.if_icmp .ge 21, 3) := by decide +kernel
theorem dX4_energyOfAll_9 : decode cX4_energyOfAll 9 = .ok (.iload_n 1, 1) := by decide +kernel
theorem dX4_energyOfAll_10 : decode cX4_energyOfAll 10 = .ok (.aload_n 0, 1) := by decide +kernel
theorem dX4_energyOfAll_11 : decode cX4_energyOfAll 11 = .ok (.getfield 11, 3) := by decide +kernel
theorem dX4_energyOfAll_14 : decode cX4_energyOfAll 14 = .ok (.iload_n 2, 1) := by decide +kernel
theorem dX4_energyOfAll_15 : decode cX4_energyOfAll 15 = .ok (.aaload, 1) := by decide +kernel
theorem dX4_energyOfAll_16 : decode cX4_energyOfAll 16 = .ok (.getfield 129, 3) := by decide +kernel
theorem dX4_energyOfAll_19 : decode cX4_energyOfAll 19 = .ok (.iadd, 1) := by decide +kernel
theorem dX4_energyOfAll_20 : decode cX4_energyOfAll 20 = .ok (.istore_n 1, 1) := by decide +kernel
theorem dX4_energyOfAll_21 : decode cX4_energyOfAll 21 = .ok (.iinc 2 1, 3) := by decide +kernel
theorem dX4_energyOfAll_24 : decode cX4_energyOfAll 24 = .ok (.goto (-20), 3) := by decide +kernel
theorem dX4_energyOfAll_27 : decode cX4_energyOfAll 27 = .ok (.iload_n 1, 1) := by decide +kernel
theorem dX4_energyOfAll_28 : decode cX4_energyOfAll 28 = .ok (.ireturn, 1) := by decide +kernel
theorem dX5_init_0 : decode cX5_init 0 = .ok (.aload_n 0, 1) := by decide +kernel
theorem dX5_init_1 : decode cX5_init 1 = .ok (.invokespecial 3, 3) := by decide +kernel
theorem dX5_init_4 : decode cX5_init 4 = .ok (.aload_n 0, 1) := by decide +kernel
theorem dX5_init_5 : decode cX5_init 5 = .ok (.iconst 4, 1) := by decide +kernel
theorem dX5_init_6 : decode cX5_init 6 = .ok (.anewarray 9, 3) := by decide +kernel
theorem dX5_init_9 : decode cX5_init 9 = .ok (.putfield 11, 3) := by decide +kernel
theorem dX5_init_12 : decode cX5_init 12 = .ok (.aload_n 0, 1) := by decide +kernel
theorem dX5_init_13 : decode cX5_init 13 = .ok (.new 17, 3) := by decide +kernel
theorem dX5_init_16 : decode cX5_init 16 = .ok (.dup, 1) := by decide +kernel
theorem dX5_init_17 : decode cX5_init 17 = .ok (.invokespecial 19, 3) := by decide +kernel
theorem dX5_init_20 : decode cX5_init 20 = .ok (.putfield 20, 3) := by decide +kernel
theorem dX5_init_23 : decode cX5_init 23 = .ok (.aload_n 0, 1) := by decide +kernel
theorem dX5_init_24 : decode cX5_init 24 = .ok (.bipush 100, 2) := by decide +kernel
theorem dX5_init_26 : decode cX5_init 26 = .ok (.putfield 24, 3) := by decide +kernel
theorem dX5_init_29 : decode cX5_init 29 = .ok (.iconst 0, 1) := by decide +kernel
theorem dX5_init_30 : decode cX5_init 30 = .ok (.istore_n 1, 1) := by decide +kernel
theorem dX5_init_31 : decode cX5_init 31 = .ok (.iload_n 1, 1) := by decide +kernel
theorem dX5_init_32 : decode cX5_init 32 = .ok (.iconst 4, 1) := by decide +kernel
theorem dX5_init_33 : decode cX5_init 33 = .ok (.if_icmp .ge 22, 3) := by decide +kernel
theorem dX5_init_36 : decode cX5_init 36 = .ok (.aload_n 0, 1) := by decide +kernel
theorem dX5_init_37 : decode cX5_init 37 = .ok (.getfield 11, 3) := by decide +kernel
theorem dX5_init_40 : decode cX5_init 40 = .ok (.iload_n 1, 1) := by decide +kernel
theorem dX5_init_41 : decode cX5_init 41 = .ok (.new 9, 3) := by decide +kernel
theorem dX5_init_44 : decode cX5_init 44 = .ok (.dup, 1) := by decide +kernel
theorem dX5_init_45 : decode cX5_init 45 = .ok (.invokespecial 28, 3) := by decide +kernel
theorem dX5_init_48 : decode cX5_init 48 = .ok (.aastore, 1) := by decide +kernel
theorem dX5_init_49 : decode cX5_init 49 = .ok (.iinc 1 1, 3) := by decide +kernel
theorem dX5_init_52 : decode cX5_init 52 = .ok (.goto (-21), 3) := by decide +kernel
theorem dX5_init_55 : decode cX5_init 55 = .ok (.return_, 1) := by decide +kernel
theorem dX5_copyFrom_0 : decode cX5_copyFrom 0 = .ok (.iconst 0, 1) := by decide +kernel
theorem dX5_copyFrom_1 : decode cX5_copyFrom 1 = .ok (.istore_n 2, 1) := by decide +kernel
theorem dX5_copyFrom_2 : decode cX5_copyFrom 2 = .ok (.iload_n 2, 1) := by decide +kernel
theorem dX5_copyFrom_3 : decode cX5_copyFrom 3 = .ok (.iconst 4, 1) := by decide +kernel
theorem dX5_copyFrom_4 : decode cX5_copyFrom 4 = .ok (.if_icmp .ge 24, 3) := by decide +kernel
theorem dX5_copyFrom_7 : decode cX5_copyFrom 7 = .ok (.aload_n 0, 1) := by decide +kernel
theorem dX5_copyFrom_8 : decode cX5_copyFrom 8 = .ok (.getfield 11, 3) := by decide +kernel
theorem dX5_copyFrom_11 : decode cX5_copyFrom 11 = .ok (.iload_n 2, 1) := by decide +kernel
theorem dX5_copyFrom_12 : decode cX5_copyFrom 12 = .ok (.aaload, 1) := by decide +kernel
theorem dX5_copyFrom_13 : decode cX5_copyFrom 13 = .ok (.aload_n 1, 1) := by decide +kernel
theorem dX5_copyFrom_14 : decode cX5_copyFrom 14 = .ok (.getfield 11, 3) := by decide +kernel
theorem dX5_copyFrom_17 : decode cX5_copyFrom 17 = .ok (.iload_n 2, 1) := by decide +kernel
theorem dX5_copyFrom_18 : decode cX5_copyFrom 18 = .ok (.aaload, 1) := by decide +kernel
theorem dX5_copyFrom_19 : decode cX5_copyFrom 19 = .ok (.invokevirtual 29, 3) := by decide +kernel
theorem dX5_copyFrom_22 : decode cX5_copyFrom 22 = .ok (.iinc 2 1, 3) := by decide +kernel
theorem dX5_copyFrom_25 : decode cX5_copyFrom 25 = .ok (.goto (-23), 3) := by decide +kernel
theorem dX5_copyFrom_28 : decode cX5_copyFrom 28 = .ok (.aload_n 0, 1) := by decide +kernel
theorem dX5_copyFrom_29 : decode cX5_copyFrom 29 = .ok (.getfield 20, 3) := by decide +kernel
theorem dX5_copyFrom_32 : decode cX5_copyFrom 32 = .ok (.aload_n 1, 1) := by decide +kernel
theorem dX5_copyFrom_33 : decode cX5_copyFrom 33 = .ok (.getfield 20, 3) := by decide +kernel
theorem dX5_copyFrom_36 : decode cX5_copyFrom 36 = .ok (.invokevirtual 33, 3) := by decide +kernel
theorem dX5_copyFrom_39 : decode cX5_copyFrom 39 = .ok (.aload_n 0, 1) := by decide +kernel
theorem dX5_copyFrom_40 : decode cX5_copyFrom 40 = .ok (.aload_n 1, 1) := by decide +kernel
theorem dX5_copyFrom_41 : decode cX5_copyFrom 41 = .ok (.getfield 24, 3) := by decide +kernel
theorem dX5_copyFrom_44 : decode cX5_copyFrom 44 = .ok (.putfield 24, 3) := by decide +kernel
theorem dX5_copyFrom_47 : decode cX5_copyFrom 47 = .ok (.aload_n 0, 1) := by decide +kernel
theorem dX5_copyFrom_48 : decode cX5_copyFrom 48 = .ok (.aload_n 1, 1) := by decide +kernel
theorem dX5_copyFrom_49 : decode cX5_copyFrom 49 = .ok (.getfield 36, 3) := by decide +kernel
theorem dX5_copyFrom_52 : decode cX5_copyFrom 52 = .ok (.putfield 36, 3) := by decide +kernel
theorem dX5_copyFrom_55 : decode cX5_copyFrom 55 = .ok (.return_, 1) := by decide +kernel
theorem dX6_init_0 : decode cX6_init 0 = .ok (.aload_n 0, 1) := by decide +kernel
theorem dX6_init_1 : decode cX6_init 1 = .ok (.invokespecial 1, 3) := by decide +kernel
theorem dX6_init_4 : decode cX6_init 4 = .ok (.aload_n 0, 1) := by decide +kernel
theorem dX6_init_5 : decode cX6_init 5 = .ok (.new 7, 3) := by decide +kernel
theorem dX6_init_8 : decode cX6_init 8 = .ok (.dup, 1) := by decide +kernel
theorem dX6_init_9 : decode cX6_init 9 = .ok (.invokespecial 9, 3) := by decide +kernel
theorem dX6_init_12 : decode cX6_init 12 = .ok (.putfield 10, 3) := by decide +kernel
theorem dX6_init_15 : decode cX6_init 15 = .ok (.aload_n 0, 1) := by decide +kernel
theorem dX6_init_16 : decode cX6_init 16 = .ok (.iconst 2, 1) := by decide +kernel
theorem dX6_init_17 : decode cX6_init 17 = .ok (.anewarray 7, 3) := by decide +kernel
theorem dX6_init_20 : decode cX6_init 20 = .ok (.putfield 16, 3) := by decide +kernel
theorem dX6_init_23 : decode cX6_init 23 = .ok (.aload_n 0, 1) := by decide +kernel
theorem dX6_init_24 : decode cX6_init 24 = .ok (.iconst 2, 1) := by decide +kernel
theorem dX6_init_25 : decode cX6_init 25 = .ok (.newarray .boolean, 2) := by decide +kernel
theorem dX6_init_27 : decode cX6_init 27 = .ok (.putfield 20, 3) := by decide +kernel
theorem dX6_init_30 : decode cX6_init 30 = .ok (.aload_n 0, 1) := by decide +kernel
theorem dX6_init_31 : decode cX6_init 31 = .ok (.new 24, 3) := by decide +kernel
theorem dX6_init_34 : decode cX6_init 34 = .ok (.dup, 1) := by decide +kernel
theorem dX6_init_35 : decode cX6_init 35 = .ok (.invokespecial 26, 3) := by decide +kernel
theorem dX6_init_38 : decode cX6_init 38 = .ok (.putfield 27, 3) := by decide +kernel
theorem dX6_init_41 : decode cX6_init 41 = .ok (.aload_n 0, 1) := by decide +kernel
theorem dX6_init_42 : decode cX6_init 42 = .ok (.new 31, 3) := by decide +kernel
theorem dX6_init_45 : decode cX6_init 45 = .ok (.dup, 1) := by decide +kernel
theorem dX6_init_46 : decode cX6_init 46 = .ok (.invokespecial 33, 3) := by decide +kernel
theorem dX6_init_49 : decode cX6_init 49 = .ok (.putfield 34, 3) := by decide +kernel
theorem dX6_init_52 : decode cX6_init 52 = .ok (.iconst 0, 1) := by decide +kernel
theorem dX6_init_53 : decode cX6_init 53 = .ok (.istore_n 1, 1) := by decide +kernel
theorem dX6_init_54 : decode cX6_init 54 = .ok (.iload_n 1, 1) := by decide +kernel
theorem dX6_init_55 : decode cX6_init 55 = .ok (.iconst 2, 1) := by decide +kernel
theorem dX6_init_56 : decode cX6_init 56 = .ok (.if_icmp .ge 22, 3) := by decide +kernel
theorem dX6_init_59 : decode cX6_init 59 = .ok (.aload_n 0, 1) := by decide +kernel
theorem dX6_init_60 : decode cX6_init 60 = .ok (.getfield 16, 3) := by decide +kernel
theorem dX6_init_63 : decode cX6_init 63 = .ok (.iload_n 1, 1) := by decide +kernel
theorem dX6_init_64 : decode cX6_init 64 = .ok (.new 7, 3) := by decide +kernel
theorem dX6_init_67 : decode cX6_init 67 = .ok (.dup, 1) := by decide +kernel
theorem dX6_init_68 : decode cX6_init 68 = .ok (.invokespecial 9, 3) := by decide +kernel
theorem dX6_init_71 : decode cX6_init 71 = .ok (.aastore, 1) := by decide +kernel
theorem dX6_init_72 : decode cX6_init 72 = .ok (.iinc 1 1, 3) := by decide +kernel
theorem dX6_init_75 : decode cX6_init 75 = .ok (.goto (-21), 3) := by decide +kernel
theorem dX6_init_78 : decode cX6_init 78 = .ok (.return_, 1) := by decide +kernel
theorem dX6_power_0 : decode cX6_power 0 = .ok (.iload_n 1, 1) := by decide +kernel
theorem dX6_power_1 : decode cX6_power 1 = .ok (.invokestatic 38, 3) := by decide +kernel
theorem dX6_power_4 : decode cX6_power 4 = .ok (.ifCond .ne 5, 3) := by decide +kernel
theorem dX6_power_7 : decode cX6_power 7 = .ok (.iconst (-1), 1) := by decide +kernel
theorem dX6_power_8 : decode cX6_power 8 = .ok (.ireturn, 1) := by decide +kernel
theorem dX6_power_9 : decode cX6_power 9 = .ok (.iload_n 2, 1) := by decide +kernel
theorem dX6_power_10 : decode cX6_power 10 = .ok (.iconst 1, 1) := by decide +kernel
theorem dX6_power_11 : decode cX6_power 11 = .ok (.bipush 100, 2) := by decide +kernel
theorem dX6_power_13 : decode cX6_power 13 = .ok (.invokestatic 42, 3) := by decide +kernel
theorem dX6_power_16 : decode cX6_power 16 = .ok (.ifCond .ne 6, 3) := by decide +kernel
theorem dX6_power_19 : decode cX6_power 19 = .ok (.bipush (-2), 2) := by decide +kernel
theorem dX6_power_21 : decode cX6_power 21 = .ok (.ireturn, 1) := by decide +kernel
theorem dX6_power_22 : decode cX6_power 22 = .ok (.aload_n 0, 1) := by decide +kernel
theorem dX6_power_23 : decode cX6_power 23 = .ok (.getfield 10, 3) := by decide +kernel
theorem dX6_power_26 : decode cX6_power 26 = .ok (.getfield 46, 3) := by decide +kernel
theorem dX6_power_29 : decode cX6_power 29 = .ok (.iload_n 1, 1) := by decide +kernel
theorem dX6_power_30 : decode cX6_power 30 = .ok (.aaload, 1) := by decide +kernel
theorem dX6_power_31 : decode cX6_power 31 = .ok (.astore_n 3, 1) := by decide +kernel
theorem dX6_power_32 : decode cX6_power 32 = .ok (.aload_n 3, 1) := by decide +kernel
theorem dX6_power_33 : decode cX6_power 33 = .ok (.getfield 50, 3) := by decide +kernel
theorem dX6_power_36 : decode cX6_power 36 = .ok (.iconst 0, 1) := by decide +kernel
theorem dX6_power_37 : decode cX6_power 37 = .ok (.iaload, 1) := by decide +kernel
theorem dX6_power_38 : decode cX6_power 38 = .ok (.istore 4, 2) := by decide +kernel
theorem dX6_power_40 : decode cX6_power 40 = .ok (.aload_n 3, 1) := by decide +kernel
theorem dX6_power_41 : decode cX6_power 41 = .ok (.getfield 50, 3) := by decide +kernel
theorem dX6_power_44 : decode cX6_power 44 = .ok (.iconst 0, 1) := by decide +kernel
theorem dX6_power_45 : decode cX6_power 45 = .ok (.iload_n 2, 1) := by decide +kernel
theorem dX6_power_46 : decode cX6_power 46 = .ok (.iastore, 1) := by decide +kernel
theorem dX6_power_47 : decode cX6_power 47 = .ok (.aload_n 3, 1) := by decide +kernel
theorem dX6_power_48 : decode cX6_power 48 = .ok (.iconst 0, 1) := by decide +kernel
theorem dX6_power_49 : decode cX6_power 49 = .ok (.putfield 56, 3) := by decide +kernel
theorem dX6_power_52 : decode cX6_power 52 = .ok (.aload_n 0, 1) := by decide +kernel
theorem dX6_power_53 : decode cX6_power 53 = .ok (.getfield 27, 3) := by decide +kernel
theorem dX6_power_56 : decode cX6_power 56 = .ok (.invokevirtual 60, 3) := by decide +kernel
theorem dX6_power_59 : decode cX6_power 59 = .ok (.iload 4, 2) := by decide +kernel
theorem dX6_power_61 : decode cX6_power 61 = .ok (.ireturn, 1) := by decide +kernel
theorem dX6_deeper_0 : decode cX6_deeper 0 = .ok (.iload_n 1, 1) := by decide +kernel
theorem dX6_deeper_1 : decode cX6_deeper 1 = .ok (.invokestatic 38, 3) := by decide +kernel
theorem dX6_deeper_4 : decode cX6_deeper 4 = .ok (.ifCond .ne 5, 3) := by decide +kernel
theorem dX6_deeper_7 : decode cX6_deeper 7 = .ok (.iconst (-1), 1) := by decide +kernel
theorem dX6_deeper_8 : decode cX6_deeper 8 = .ok (.ireturn, 1) := by decide +kernel
theorem dX6_deeper_9 : decode cX6_deeper 9 = .ok (.iload_n 2, 1) := by decide +kernel
theorem dX6_deeper_10 : decode cX6_deeper 10 = .ok (.iconst 0, 1) := by decide +kernel
theorem dX6_deeper_11 : decode cX6_deeper 11 = .ok (.bipush 99, 2) := by decide +kernel
theorem dX6_deeper_13 : decode cX6_deeper 13 = .ok (.invokestatic 42, 3) := by decide +kernel
theorem dX6_deeper_16 : decode cX6_deeper 16 = .ok (.ifCond .eq 14, 3) := by decide +kernel
theorem dX6_deeper_19 : decode cX6_deeper 19 = .ok (.iload_n 3, 1) := by decide +kernel
theorem dX6_deeper_20 : decode cX6_deeper 20 = .ok (.iconst 1, 1) := by decide +kernel
theorem dX6_deeper_21 : decode cX6_deeper 21 = .ok (.sipush 999, 3) := by decide +kernel
theorem dX6_deeper_24 : decode cX6_deeper 24 = .ok (.invokestatic 42, 3) := by decide +kernel
theorem dX6_deeper_27 : decode cX6_deeper 27 = .ok (.ifCond .ne 6, 3) := by decide +kernel
theorem dX6_deeper_30 : decode cX6_deeper 30 = .ok (.bipush (-2), 2) := by decide +kernel
theorem dX6_deeper_32 : decode cX6_deeper 32 = .ok (.ireturn, 1) := by decide +kernel
theorem dX6_deeper_33 : decode cX6_deeper 33 = .ok (.aload_n 0, 1) := by decide +kernel
theorem dX6_deeper_34 : decode cX6_deeper 34 = .ok (.getfield 10, 3) := by decide +kernel
theorem dX6_deeper_37 : decode cX6_deeper 37 = .ok (.getfield 46, 3) := by decide +kernel
theorem dX6_deeper_40 : decode cX6_deeper 40 = .ok (.iload_n 1, 1) := by decide +kernel
theorem dX6_deeper_41 : decode cX6_deeper 41 = .ok (.aaload, 1) := by decide +kernel
theorem dX6_deeper_42 : decode cX6_deeper 42 = .ok (.astore 4, 2) := by decide +kernel
theorem dX6_deeper_44 : decode cX6_deeper 44 = .ok (.iload_n 2, 1) := by decide +kernel
theorem dX6_deeper_45 : decode cX6_deeper 45 = .ok (.aload 4, 2) := by decide +kernel
theorem dX6_deeper_47 : decode cX6_deeper 47 = .ok (.getfield 50, 3) := by decide +kernel
theorem dX6_deeper_50 : decode cX6_deeper 50 = .ok (.aload 4, 2) := by decide +kernel
theorem dX6_deeper_52 : decode cX6_deeper 52 = .ok (.getfield 56, 3) := by decide +kernel
theorem dX6_deeper_55 : decode cX6_deeper 55 = .ok (.iaload, 1) := by decide +kernel
theorem dX6_deeper_56 : decode cX6_deeper 56 = .ok (.if_icmp .ge 18, 3) := by decide +kernel
theorem dX6_deeper_59 : decode cX6_deeper 59 = .ok (.iload_n 3, 1) := by decide +kernel
theorem dX6_deeper_60 : decode cX6_deeper 60 = .ok (.aload 4, 2) := by decide +kernel
theorem dX6_deeper_62 : decode cX6_deeper 62 = .ok (.getfield 63, 3) := by decide +kernel
theorem dX6_deeper_65 : decode cX6_deeper 65 = .ok (.aload 4, 2) := by decide +kernel
theorem dX6_deeper_67 : decode cX6_deeper 67 = .ok (.getfield 56, 3) := by decide +kernel
theorem dX6_deeper_70 : decode cX6_deeper 70 = .ok (.iaload, 1) := by decide +kernel
theorem dX6_deeper_71 : decode cX6_deeper 71 = .ok (.if_icmp .gt 6, 3) := by decide +kernel
theorem dX6_deeper_74 : decode cX6_deeper 74 = .ok (.bipush (-5), 2) := by decide +kernel
theorem dX6_deeper_76 : decode cX6_deeper 76 = .ok (.ireturn, 1) := by decide +kernel
theorem dX6_deeper_77 : decode cX6_deeper 77 = .ok (.aload 4, 2) := by decide +kernel
theorem dX6_deeper_79 : decode cX6_deeper 79 = .ok (.getfield 56, 3) := by decide +kernel
theorem dX6_deeper_82 : decode cX6_deeper 82 = .ok (.iconst 3, 1) := by decide +kernel
theorem dX6_deeper_83 : decode cX6_deeper 83 = .ok (.if_icmp .lt 6, 3) := by decide +kernel
theorem dX6_deeper_86 : decode cX6_deeper 86 = .ok (.bipush (-4), 2) := by decide +kernel
theorem dX6_deeper_88 : decode cX6_deeper 88 = .ok (.ireturn, 1) := by decide +kernel
theorem dX6_deeper_89 : decode cX6_deeper 89 = .ok (.aload 4, 2) := by decide +kernel
theorem dX6_deeper_91 : decode cX6_deeper 91 = .ok (.iload_n 2, 1) := by decide +kernel
theorem dX6_deeper_92 : decode cX6_deeper 92 = .ok (.iload_n 3, 1) := by decide +kernel
theorem dX6_deeper_93 : decode cX6_deeper 93 = .ok (.invokevirtual 66, 3) := by decide +kernel
theorem dX6_deeper_96 : decode cX6_deeper 96 = .ok (.aload_n 0, 1) := by decide +kernel
theorem dX6_deeper_97 : decode cX6_deeper 97 = .ok (.getfield 27, 3) := by decide +kernel
theorem dX6_deeper_100 : decode cX6_deeper 100 = .ok (.invokevirtual 60, 3) := by decide +kernel
theorem dX6_deeper_103 : decode cX6_deeper 103 = .ok (.aload 4, 2) := by decide +kernel
theorem dX6_deeper_105 : decode cX6_deeper 105 = .ok (.getfield 56, 3) := by decide +kernel
theorem dX6_deeper_108 : decode cX6_deeper 108 = .ok (.ireturn, 1) := by decide +kernel
theorem dX6_level_0 : decode cX6_level 0 = .ok (.iload_n 1, 1) := by decide +kernel
theorem dX6_level_1 : decode cX6_level 1 = .ok (.invokestatic 38, 3) := by decide +kernel
theorem dX6_level_4 : decode cX6_level 4 = .ok (.ifCond .eq 19, 3) := by decide +kernel
theorem dX6_level_7 : decode cX6_level 7 = .ok (.aload_n 0, 1) := by decide +kernel
theorem dX6_level_8 : decode cX6_level 8 = .ok (.getfield 10, 3) := by decide +kernel
theorem dX6_level_11 : decode cX6_level 11 = .ok (.getfield 46, 3) := by decide +kernel
theorem dX6_level_14 : decode cX6_level 14 = .ok (.iload_n 1, 1) := by decide +kernel
theorem dX6_level_15 : decode cX6_level 15 = .ok (.aaload, 1) := by decide +kernel
theorem dX6_level_16 : decode cX6_level 16 = .ok (.iload_n 2, 1) := by decide +kernel
theorem dX6_level_17 : decode cX6_level 17 = .ok (.invokevirtual 70, 3) := by decide +kernel
theorem dX6_level_20 : decode cX6_level 20 = .ok (.ifCond .ne 5, 3) := by decide +kernel
theorem dX6_level_23 : decode cX6_level 23 = .ok (.iconst (-1), 1) := by decide +kernel
theorem dX6_level_24 : decode cX6_level 24 = .ok (.ireturn, 1) := by decide +kernel
theorem dX6_level_25 : decode cX6_level 25 = .ok (.iload_n 3, 1) := by decide +kernel
theorem dX6_level_26 : decode cX6_level 26 = .ok (.lookupswitch 56 #[(0, 26), (1, 41)], 26) := by decide +kernel
theorem dX6_level_52 : decode cX6_level 52 = .ok (.aload_n 0, 1) := by decide +kernel
theorem dX6_level_53 : decode cX6_level 53 = .ok (.getfield 10, 3) := by decide +kernel
theorem dX6_level_56 : decode cX6_level 56 = .ok (.getfield 46, 3) := by decide +kernel
theorem dX6_level_59 : decode cX6_level 59 = .ok (.iload_n 1, 1) := by decide +kernel
theorem dX6_level_60 : decode cX6_level 60 = .ok (.aaload, 1) := by decide +kernel
theorem dX6_level_61 : decode cX6_level 61 = .ok (.getfield 50, 3) := by decide +kernel
theorem dX6_level_64 : decode cX6_level 64 = .ok (.iload_n 2, 1) := by decide +kernel
theorem dX6_level_65 : decode cX6_level 65 = .ok (.iaload, 1) := by decide +kernel
theorem dX6_level_66 : decode cX6_level 66 = .ok (.ireturn, 1) := by decide +kernel
theorem dX6_level_67 : decode cX6_level 67 = .ok (.aload_n 0, 1) := by decide +kernel
theorem dX6_level_68 : decode cX6_level 68 = .ok (.getfield 10, 3) := by decide +kernel
theorem dX6_level_71 : decode cX6_level 71 = .ok (.getfield 46, 3) := by decide +kernel
theorem dX6_level_74 : decode cX6_level 74 = .ok (.iload_n 1, 1) := by decide +kernel
theorem dX6_level_75 : decode cX6_level 75 = .ok (.aaload, 1) := by decide +kernel
theorem dX6_level_76 : decode cX6_level 76 = .ok (.getfield 63, 3) := by decide +kernel
theorem dX6_level_79 : decode cX6_level 79 = .ok (.iload_n 2, 1) := by decide +kernel
theorem dX6_level_80 : decode cX6_level 80 = .ok (.iaload, 1) := by decide +kernel
theorem dX6_level_81 : decode cX6_level 81 = .ok (.ireturn, 1) := by decide +kernel
theorem dX6_level_82 : decode cX6_level 82 = .ok (.bipush (-2), 2) := by decide +kernel
theorem dX6_level_84 : decode cX6_level 84 = .ok (.ireturn, 1) := by decide +kernel
theorem dX6_policy_0 : decode cX6_policy 0 = .ok (.iload_n 1, 1) := by decide +kernel
theorem dX6_policy_1 : decode cX6_policy 1 = .ok (.invokestatic 38, 3) := by decide +kernel
theorem dX6_policy_4 : decode cX6_policy 4 = .ok (.ifCond .ne 5, 3) := by decide +kernel
theorem dX6_policy_7 : decode cX6_policy 7 = .ok (.iconst (-1), 1) := by decide +kernel
theorem dX6_policy_8 : decode cX6_policy 8 = .ok (.ireturn, 1) := by decide +kernel
theorem dX6_policy_9 : decode cX6_policy 9 = .ok (.iload_n 2, 1) := by decide +kernel
theorem dX6_policy_10 : decode cX6_policy 10 = .ok (.iload_n 3, 1) := by decide +kernel
theorem dX6_policy_11 : decode cX6_policy 11 = .ok (.invokestatic 73, 3) := by decide +kernel
theorem dX6_policy_14 : decode cX6_policy 14 = .ok (.ifCond .ne 6, 3) := by decide +kernel
theorem dX6_policy_17 : decode cX6_policy 17 = .ok (.bipush (-2), 2) := by decide +kernel
theorem dX6_policy_19 : decode cX6_policy 19 = .ok (.ireturn, 1) := by decide +kernel
theorem dX6_policy_20 : decode cX6_policy 20 = .ok (.aload_n 0, 1) := by decide +kernel
theorem dX6_policy_21 : decode cX6_policy 21 = .ok (.getfield 10, 3) := by decide +kernel
theorem dX6_policy_24 : decode cX6_policy 24 = .ok (.getfield 46, 3) := by decide +kernel
theorem dX6_policy_27 : decode cX6_policy 27 = .ok (.iload_n 1, 1) := by decide +kernel
theorem dX6_policy_28 : decode cX6_policy 28 = .ok (.aaload, 1) := by decide +kernel
theorem dX6_policy_29 : decode cX6_policy 29 = .ok (.astore 4, 2) := by decide +kernel
theorem dX6_policy_31 : decode cX6_policy 31 = .ok (.aload 4, 2) := by decide +kernel
theorem dX6_policy_33 : decode cX6_policy 33 = .ok (.getfield 77, 3) := by decide +kernel
theorem dX6_policy_36 : decode cX6_policy 36 = .ok (.istore 5, 2) := by decide +kernel
theorem dX6_policy_38 : decode cX6_policy 38 = .ok (.aload 4, 2) := by decide +kernel
theorem dX6_policy_40 : decode cX6_policy 40 = .ok (.iload_n 2, 1) := by decide +kernel
theorem dX6_policy_41 : decode cX6_policy 41 = .ok (.putfield 77, 3) := by decide +kernel
theorem dX6_policy_44 : decode cX6_policy 44 = .ok (.aload 4, 2) := by decide +kernel
theorem dX6_policy_46 : decode cX6_policy 46 = .ok (.iload_n 3, 1) := by decide +kernel
theorem dX6_policy_47 : decode cX6_policy 47 = .ok (.putfield 80, 3) := by decide +kernel
theorem dX6_policy_50 : decode cX6_policy 50 = .ok (.aload_n 0, 1) := by decide +kernel
theorem dX6_policy_51 : decode cX6_policy 51 = .ok (.getfield 27, 3) := by decide +kernel
theorem dX6_policy_54 : decode cX6_policy 54 = .ok (.invokevirtual 60, 3) := by decide +kernel
theorem dX6_policy_57 : decode cX6_policy 57 = .ok (.iload 5, 2) := by decide +kernel
theorem dX6_policy_59 : decode cX6_policy 59 = .ok (.ireturn, 1) := by decide +kernel
theorem dX6_request_0 : decode cX6_request 0 = .ok (.iload_n 2, 1) := by decide +kernel
theorem dX6_request_1 : decode cX6_request 1 = .ok (.invokestatic 38, 3) := by decide +kernel
theorem dX6_request_4 : decode cX6_request 4 = .ok (.ifCond .ne 5, 3) := by decide +kernel
theorem dX6_request_7 : decode cX6_request 7 = .ok (.iconst (-1), 1) := by decide +kernel
theorem dX6_request_8 : decode cX6_request 8 = .ok (.ireturn, 1) := by decide +kernel
theorem dX6_request_9 : decode cX6_request 9 = .ok (.iload_n 1, 1) := by decide +kernel
theorem dX6_request_10 : decode cX6_request 10 = .ok (.iconst 0, 1) := by decide +kernel
theorem dX6_request_11 : decode cX6_request 11 = .ok (.sipush 999, 3) := by decide +kernel
theorem dX6_request_14 : decode cX6_request 14 = .ok (.invokestatic 42, 3) := by decide +kernel
theorem dX6_request_17 : decode cX6_request 17 = .ok (.ifCond .eq 12, 3) := by decide +kernel
theorem dX6_request_20 : decode cX6_request 20 = .ok (.iload_n 3, 1) := by decide +kernel
theorem dX6_request_21 : decode cX6_request 21 = .ok (.iconst 0, 1) := by decide +kernel
theorem dX6_request_22 : decode cX6_request 22 = .ok (.iconst 1, 1) := by decide +kernel
theorem dX6_request_23 : decode cX6_request 23 = .ok (.invokestatic 42, 3) := by decide +kernel
theorem dX6_request_26 : decode cX6_request 26 = .ok (.ifCond .ne 6, 3) := by decide +kernel
theorem dX6_request_29 : decode cX6_request 29 = .ok (.bipush (-2), 2) := by decide +kernel
theorem dX6_request_31 : decode cX6_request 31 = .ok (.ireturn, 1) := by decide +kernel
theorem dX6_request_32 : decode cX6_request 32 = .ok (.aload_n 0, 1) := by decide +kernel
theorem dX6_request_33 : decode cX6_request 33 = .ok (.getfield 10, 3) := by decide +kernel
theorem dX6_request_36 : decode cX6_request 36 = .ok (.getfield 83, 3) := by decide +kernel
theorem dX6_request_39 : decode cX6_request 39 = .ok (.getfield 87, 3) := by decide +kernel
theorem dX6_request_42 : decode cX6_request 42 = .ok (.bipush 40, 2) := by decide +kernel
theorem dX6_request_44 : decode cX6_request 44 = .ok (.if_icmp .lt 6, 3) := by decide +kernel
theorem dX6_request_47 : decode cX6_request 47 = .ok (.bipush (-4), 2) := by decide +kernel
theorem dX6_request_49 : decode cX6_request 49 = .ok (.ireturn, 1) := by decide +kernel
theorem dX6_request_50 : decode cX6_request 50 = .ok (.aload_n 0, 1) := by decide +kernel
theorem dX6_request_51 : decode cX6_request 51 = .ok (.getfield 10, 3) := by decide +kernel
theorem dX6_request_54 : decode cX6_request 54 = .ok (.getfield 83, 3) := by decide +kernel
theorem dX6_request_57 : decode cX6_request 57 = .ok (.iload_n 1, 1) := by decide +kernel
theorem dX6_request_58 : decode cX6_request 58 = .ok (.iload_n 2, 1) := by decide +kernel
theorem dX6_request_59 : decode cX6_request 59 = .ok (.iload_n 3, 1) := by decide +kernel
theorem dX6_request_60 : decode cX6_request 60 = .ok (.invokevirtual 92, 3) := by decide +kernel
theorem dX6_request_63 : decode cX6_request 63 = .ok (.aload_n 0, 1) := by decide +kernel
theorem dX6_request_64 : decode cX6_request 64 = .ok (.getfield 27, 3) := by decide +kernel
theorem dX6_request_67 : decode cX6_request 67 = .ok (.invokevirtual 60, 3) := by decide +kernel
theorem dX6_request_70 : decode cX6_request 70 = .ok (.aload_n 0, 1) := by decide +kernel
theorem dX6_request_71 : decode cX6_request 71 = .ok (.getfield 10, 3) := by decide +kernel
theorem dX6_request_74 : decode cX6_request 74 = .ok (.getfield 83, 3) := by decide +kernel
theorem dX6_request_77 : decode cX6_request 77 = .ok (.getfield 87, 3) := by decide +kernel
theorem dX6_request_80 : decode cX6_request 80 = .ok (.iconst 1, 1) := by decide +kernel
theorem dX6_request_81 : decode cX6_request 81 = .ok (.isub, 1) := by decide +kernel
theorem dX6_request_82 : decode cX6_request 82 = .ok (.ireturn, 1) := by decide +kernel
theorem dX6_forget_0 : decode cX6_forget 0 = .ok (.aload_n 0, 1) := by decide +kernel
theorem dX6_forget_1 : decode cX6_forget 1 = .ok (.getfield 10, 3) := by decide +kernel
theorem dX6_forget_4 : decode cX6_forget 4 = .ok (.getfield 83, 3) := by decide +kernel
theorem dX6_forget_7 : decode cX6_forget 7 = .ok (.iload_n 1, 1) := by decide +kernel
theorem dX6_forget_8 : decode cX6_forget 8 = .ok (.invokevirtual 96, 3) := by decide +kernel
theorem dX6_forget_11 : decode cX6_forget 11 = .ok (.ifCond .ne 5, 3) := by decide +kernel
theorem dX6_forget_14 : decode cX6_forget 14 = .ok (.iconst (-1), 1) := by decide +kernel
theorem dX6_forget_15 : decode cX6_forget 15 = .ok (.ireturn, 1) := by decide +kernel
theorem dX6_forget_16 : decode cX6_forget 16 = .ok (.aload_n 0, 1) := by decide +kernel
theorem dX6_forget_17 : decode cX6_forget 17 = .ok (.getfield 10, 3) := by decide +kernel
theorem dX6_forget_20 : decode cX6_forget 20 = .ok (.getfield 83, 3) := by decide +kernel
theorem dX6_forget_23 : decode cX6_forget 23 = .ok (.iload_n 1, 1) := by decide +kernel
theorem dX6_forget_24 : decode cX6_forget 24 = .ok (.invokevirtual 99, 3) := by decide +kernel
theorem dX6_forget_27 : decode cX6_forget 27 = .ok (.aload_n 0, 1) := by decide +kernel
theorem dX6_forget_28 : decode cX6_forget 28 = .ok (.getfield 27, 3) := by decide +kernel
theorem dX6_forget_31 : decode cX6_forget 31 = .ok (.invokevirtual 60, 3) := by decide +kernel
theorem dX6_forget_34 : decode cX6_forget 34 = .ok (.aload_n 0, 1) := by decide +kernel
theorem dX6_forget_35 : decode cX6_forget 35 = .ok (.getfield 10, 3) := by decide +kernel
theorem dX6_forget_38 : decode cX6_forget 38 = .ok (.getfield 83, 3) := by decide +kernel
theorem dX6_forget_41 : decode cX6_forget 41 = .ok (.getfield 87, 3) := by decide +kernel
theorem dX6_forget_44 : decode cX6_forget 44 = .ok (.ireturn, 1) := by decide +kernel
theorem dX6_told_0 : decode cX6_told 0 = .ok (.aload_n 0, 1) := by decide +kernel
theorem dX6_told_1 : decode cX6_told 1 = .ok (.getfield 10, 3) := by decide +kernel
theorem dX6_told_4 : decode cX6_told 4 = .ok (.getfield 83, 3) := by decide +kernel
theorem dX6_told_7 : decode cX6_told 7 = .ok (.iload_n 1, 1) := by decide +kernel
theorem dX6_told_8 : decode cX6_told 8 = .ok (.invokevirtual 96, 3) := by decide +kernel
theorem dX6_told_11 : decode cX6_told 11 = .ok (.ifCond .ne 5, 3) := by decide +kernel
theorem dX6_told_14 : decode cX6_told 14 = .ok (.iconst (-1), 1) := by decide +kernel
theorem dX6_told_15 : decode cX6_told 15 = .ok (.ireturn, 1) := by decide +kernel
theorem dX6_told_16 : decode cX6_told 16 = .ok (.iload_n 2, 1) := by decide +kernel
theorem dX6_told_17 : decode cX6_told 17 = .ok (.tableswitch 66 0 2 #[27, 40, 53], 27) := by decide +kernel
theorem dX6_told_44 : decode cX6_told 44 = .ok (.aload_n 0, 1) := by decide +kernel
theorem dX6_told_45 : decode cX6_told 45 = .ok (.getfield 10, 3) := by decide +kernel
theorem dX6_told_48 : decode cX6_told 48 = .ok (.getfield 83, 3) := by decide +kernel
theorem dX6_told_51 : decode cX6_told 51 = .ok (.getfield 103, 3) := by decide +kernel
theorem dX6_told_54 : decode cX6_told 54 = .ok (.iload_n 1, 1) := by decide +kernel
theorem dX6_told_55 : decode cX6_told 55 = .ok (.iaload, 1) := by decide +kernel
theorem dX6_told_56 : decode cX6_told 56 = .ok (.ireturn, 1) := by decide +kernel
theorem dX6_told_57 : decode cX6_told 57 = .ok (.aload_n 0, 1) := by decide +kernel
theorem dX6_told_58 : decode cX6_told 58 = .ok (.getfield 10, 3) := by decide +kernel
theorem dX6_told_61 : decode cX6_told 61 = .ok (.getfield 83, 3) := by decide +kernel
theorem dX6_told_64 : decode cX6_told 64 = .ok (.getfield 106, 3) := by decide +kernel
theorem dX6_told_67 : decode cX6_told 67 = .ok (.iload_n 1, 1) := by decide +kernel
theorem dX6_told_68 : decode cX6_told 68 = .ok (.iaload, 1) := by decide +kernel
theorem dX6_told_69 : decode cX6_told 69 = .ok (.ireturn, 1) := by decide +kernel
theorem dX6_told_70 : decode cX6_told 70 = .ok (.aload_n 0, 1) := by decide +kernel
theorem dX6_told_71 : decode cX6_told 71 = .ok (.getfield 10, 3) := by decide +kernel
theorem dX6_told_74 : decode cX6_told 74 = .ok (.getfield 83, 3) := by decide +kernel
theorem dX6_told_77 : decode cX6_told 77 = .ok (.getfield 108, 3) := by decide +kernel
theorem dX6_told_80 : decode cX6_told 80 = .ok (.iload_n 1, 1) := by decide +kernel
theorem dX6_told_81 : decode cX6_told 81 = .ok (.iaload, 1) := by decide +kernel
theorem dX6_told_82 : decode cX6_told 82 = .ok (.ireturn, 1) := by decide +kernel
theorem dX6_told_83 : decode cX6_told 83 = .ok (.bipush (-2), 2) := by decide +kernel
theorem dX6_told_85 : decode cX6_told 85 = .ok (.ireturn, 1) := by decide +kernel
theorem dX6_end_0 : decode cX6_end 0 = .ok (.iload_n 1, 1) := by decide +kernel
theorem dX6_end_1 : decode cX6_end 1 = .ok (.iconst 1, 1) := by decide +kernel
theorem dX6_end_2 : decode cX6_end 2 = .ok (.sipush 1000, 3) := by decide +kernel
theorem dX6_end_5 : decode cX6_end 5 = .ok (.invokestatic 42, 3) := by decide +kernel
theorem dX6_end_8 : decode cX6_end 8 = .ok (.ifCond .ne 6, 3) := by decide +kernel
theorem dX6_end_11 : decode cX6_end 11 = .ok (.bipush (-2), 2) := by decide +kernel
theorem dX6_end_13 : decode cX6_end 13 = .ok (.ireturn, 1) := by decide +kernel
theorem dX6_end_14 : decode cX6_end 14 = .ok (.aload_n 0, 1) := by decide +kernel
theorem dX6_end_15 : decode cX6_end 15 = .ok (.getfield 10, 3) := by decide +kernel
theorem dX6_end_18 : decode cX6_end 18 = .ok (.getfield 111, 3) := by decide +kernel
theorem dX6_end_21 : decode cX6_end 21 = .ok (.istore_n 2, 1) := by decide +kernel
theorem dX6_end_22 : decode cX6_end 22 = .ok (.aload_n 0, 1) := by decide +kernel
theorem dX6_end_23 : decode cX6_end 23 = .ok (.getfield 10, 3) := by decide +kernel
theorem dX6_end_26 : decode cX6_end 26 = .ok (.iload_n 1, 1) := by decide +kernel
theorem dX6_end_27 : decode cX6_end 27 = .ok (.putfield 111, 3) := by decide +kernel
theorem dX6_end_30 : decode cX6_end 30 = .ok (.aload_n 0, 1) := by decide +kernel
theorem dX6_end_31 : decode cX6_end 31 = .ok (.getfield 27, 3) := by decide +kernel
theorem dX6_end_34 : decode cX6_end 34 = .ok (.invokevirtual 60, 3) := by decide +kernel
theorem dX6_end_37 : decode cX6_end 37 = .ok (.iload_n 2, 1) := by decide +kernel
theorem dX6_end_38 : decode cX6_end 38 = .ok (.ireturn, 1) := by decide +kernel
theorem dX6_journal_0 : decode cX6_journal 0 = .ok (.iload_n 1, 1) := by decide +kernel
theorem dX6_journal_1 : decode cX6_journal 1 = .ok (.iconst 0, 1) := by decide +kernel
theorem dX6_journal_2 : decode cX6_journal 2 = .ok (.bipush 8, 2) := by decide +kernel
theorem dX6_journal_4 : decode cX6_journal 4 = .ok (.invokestatic 42, 3) := by decide +kernel
theorem dX6_journal_7 : decode cX6_journal 7 = .ok (.ifCond .ne 6, 3) := by decide +kernel
theorem dX6_journal_10 : decode cX6_journal 10 = .ok (.bipush (-2), 2) := by decide +kernel
theorem dX6_journal_12 : decode cX6_journal 12 = .ok (.ireturn, 1) := by decide +kernel
theorem dX6_journal_13 : decode cX6_journal 13 = .ok (.aload_n 0, 1) := by decide +kernel
theorem dX6_journal_14 : decode cX6_journal 14 = .ok (.getfield 10, 3) := by decide +kernel
theorem dX6_journal_17 : decode cX6_journal 17 = .ok (.getfield 114, 3) := by decide +kernel
theorem dX6_journal_20 : decode cX6_journal 20 = .ok (.istore_n 2, 1) := by decide +kernel
theorem dX6_journal_21 : decode cX6_journal 21 = .ok (.aload_n 0, 1) := by decide +kernel
theorem dX6_journal_22 : decode cX6_journal 22 = .ok (.getfield 10, 3) := by decide +kernel
theorem dX6_journal_25 : decode cX6_journal 25 = .ok (.iload_n 1, 1) := by decide +kernel
theorem dX6_journal_26 : decode cX6_journal 26 = .ok (.putfield 114, 3) := by decide +kernel
theorem dX6_journal_29 : decode cX6_journal 29 = .ok (.aload_n 0, 1) := by decide +kernel
theorem dX6_journal_30 : decode cX6_journal 30 = .ok (.getfield 27, 3) := by decide +kernel
theorem dX6_journal_33 : decode cX6_journal 33 = .ok (.invokevirtual 60, 3) := by decide +kernel
theorem dX6_journal_36 : decode cX6_journal 36 = .ok (.iload_n 2, 1) := by decide +kernel
theorem dX6_journal_37 : decode cX6_journal 37 = .ok (.ireturn, 1) := by decide +kernel
theorem dX6_disk_0 : decode cX6_disk 0 = .ok (.iload_n 1, 1) := by decide +kernel
theorem dX6_disk_1 : decode cX6_disk 1 = .ok (.invokestatic 38, 3) := by decide +kernel
theorem dX6_disk_4 : decode cX6_disk 4 = .ok (.ifCond .ne 5, 3) := by decide +kernel
theorem dX6_disk_7 : decode cX6_disk 7 = .ok (.iconst (-1), 1) := by decide +kernel
theorem dX6_disk_8 : decode cX6_disk 8 = .ok (.ireturn, 1) := by decide +kernel
theorem dX6_disk_9 : decode cX6_disk 9 = .ok (.iload_n 2, 1) := by decide +kernel
theorem dX6_disk_10 : decode cX6_disk 10 = .ok (.iconst 0, 1) := by decide +kernel
theorem dX6_disk_11 : decode cX6_disk 11 = .ok (.bipush 9, 2) := by decide +kernel
theorem dX6_disk_13 : decode cX6_disk 13 = .ok (.invokestatic 42, 3) := by decide +kernel
theorem dX6_disk_16 : decode cX6_disk 16 = .ok (.ifCond .ne 6, 3) := by decide +kernel
theorem dX6_disk_19 : decode cX6_disk 19 = .ok (.bipush (-2), 2) := by decide +kernel
theorem dX6_disk_21 : decode cX6_disk 21 = .ok (.ireturn, 1) := by decide +kernel
theorem dX6_disk_22 : decode cX6_disk 22 = .ok (.aload_n 0, 1) := by decide +kernel
theorem dX6_disk_23 : decode cX6_disk 23 = .ok (.invokevirtual 117, 3) := by decide +kernel
theorem dX6_disk_26 : decode cX6_disk 26 = .ok (.getfield 121, 3) := by decide +kernel
theorem dX6_disk_29 : decode cX6_disk 29 = .ok (.iload_n 1, 1) := by decide +kernel
theorem dX6_disk_30 : decode cX6_disk 30 = .ok (.aaload, 1) := by decide +kernel
theorem dX6_disk_31 : decode cX6_disk 31 = .ok (.astore_n 3, 1) := by decide +kernel
theorem dX6_disk_32 : decode cX6_disk 32 = .ok (.iload_n 2, 1) := by decide +kernel
theorem dX6_disk_33 : decode cX6_disk 33 = .ok (.tableswitch 107 0 8 #[51, 56, 61, 66, 71, 76, 92, 97, 102], 51) := by decide +kernel
theorem dX6_disk_84 : decode cX6_disk 84 = .ok (.aload_n 3, 1) := by decide +kernel
theorem dX6_disk_85 : decode cX6_disk 85 = .ok (.getfield 125, 3) := by decide +kernel
theorem dX6_disk_88 : decode cX6_disk 88 = .ok (.ireturn, 1) := by decide +kernel
theorem dX6_disk_89 : decode cX6_disk 89 = .ok (.aload_n 3, 1) := by decide +kernel
theorem dX6_disk_90 : decode cX6_disk 90 = .ok (.getfield 130, 3) := by decide +kernel
theorem dX6_disk_93 : decode cX6_disk 93 = .ok (.ireturn, 1) := by decide +kernel
theorem dX6_disk_94 : decode cX6_disk 94 = .ok (.aload_n 3, 1) := by decide +kernel
theorem dX6_disk_95 : decode cX6_disk 95 = .ok (.getfield 133, 3) := by decide +kernel
theorem dX6_disk_98 : decode cX6_disk 98 = .ok (.ireturn, 1) := by decide +kernel
theorem dX6_disk_99 : decode cX6_disk 99 = .ok (.aload_n 3, 1) := by decide +kernel
theorem dX6_disk_100 : decode cX6_disk 100 = .ok (.getfield 136, 3) := by decide +kernel
theorem dX6_disk_103 : decode cX6_disk 103 = .ok (.ireturn, 1) := by decide +kernel
theorem dX6_disk_104 : decode cX6_disk 104 = .ok (.aload_n 3, 1) := by decide +kernel
theorem dX6_disk_105 : decode cX6_disk 105 = .ok (.getfield 139, 3) := by decide +kernel
theorem dX6_disk_108 : decode cX6_disk 108 = .ok (.ireturn, 1) := by decide +kernel
theorem dX6_disk_109 : decode cX6_disk 109 = .ok (.aload_n 0, 1) := by decide +kernel
theorem dX6_disk_110 : decode cX6_disk 110 = .ok (.getfield 27, 3) := by decide +kernel
theorem dX6_disk_113 : decode cX6_disk 113 = .ok (.aload_n 0, 1) := by decide +kernel
theorem dX6_disk_114 : decode cX6_disk 114 = .ok (.getfield 10, 3) := by decide +kernel
theorem dX6_disk_117 : decode cX6_disk 117 = .ok (.getfield 83, 3) := by decide +kernel
theorem dX6_disk_120 : decode cX6_disk 120 = .ok (.iload_n 1, 1) := by decide +kernel
theorem dX6_disk_121 : decode cX6_disk 121 = .ok (.invokevirtual 142, 3) := by decide +kernel
theorem dX6_disk_124 : decode cX6_disk 124 = .ok (.ireturn, 1) := by decide +kernel
theorem dX6_disk_125 : decode cX6_disk 125 = .ok (.aload_n 3, 1) := by decide +kernel
theorem dX6_disk_126 : decode cX6_disk 126 = .ok (.getfield 146, 3) := by decide +kernel
theorem dX6_disk_129 : decode cX6_disk 129 = .ok (.ireturn, 1) := by decide +kernel
theorem dX6_disk_130 : decode cX6_disk 130 = .ok (.aload_n 3, 1) := by decide +kernel
theorem dX6_disk_131 : decode cX6_disk 131 = .ok (.getfield 149, 3) := by decide +kernel
theorem dX6_disk_134 : decode cX6_disk 134 = .ok (.ireturn, 1) := by decide +kernel
theorem dX6_disk_135 : decode cX6_disk 135 = .ok (.aload_n 3, 1) := by decide +kernel
theorem dX6_disk_136 : decode cX6_disk 136 = .ok (.getfield 152, 3) := by decide +kernel
theorem dX6_disk_139 : decode cX6_disk 139 = .ok (.ireturn, 1) := by decide +kernel
theorem dX6_disk_140 : decode cX6_disk 140 = .ok (.aload_n 3, 1) := by decide +kernel
theorem dX6_disk_141 : decode cX6_disk 141 = .ok (.getfield 155, 3) := by decide +kernel
theorem dX6_disk_144 : decode cX6_disk 144 = .ok (.ireturn, 1) := by decide +kernel
theorem dX6_at_0 : decode cX6_at 0 = .ok (.iload_n 1, 1) := by decide +kernel
theorem dX6_at_1 : decode cX6_at 1 = .ok (.invokestatic 38, 3) := by decide +kernel
theorem dX6_at_4 : decode cX6_at 4 = .ok (.ifCond .ne 5, 3) := by decide +kernel
theorem dX6_at_7 : decode cX6_at 7 = .ok (.iconst (-1), 1) := by decide +kernel
theorem dX6_at_8 : decode cX6_at 8 = .ok (.ireturn, 1) := by decide +kernel
theorem dX6_at_9 : decode cX6_at 9 = .ok (.iload_n 2, 1) := by decide +kernel
theorem dX6_at_10 : decode cX6_at 10 = .ok (.iconst 0, 1) := by decide +kernel
theorem dX6_at_11 : decode cX6_at 11 = .ok (.aload_n 0, 1) := by decide +kernel
theorem dX6_at_12 : decode cX6_at 12 = .ok (.getfield 10, 3) := by decide +kernel
theorem dX6_at_15 : decode cX6_at 15 = .ok (.getfield 111, 3) := by decide +kernel
theorem dX6_at_18 : decode cX6_at 18 = .ok (.iconst 1, 1) := by decide +kernel
theorem dX6_at_19 : decode cX6_at 19 = .ok (.isub, 1) := by decide +kernel
theorem dX6_at_20 : decode cX6_at 20 = .ok (.invokestatic 42, 3) := by decide +kernel
theorem dX6_at_23 : decode cX6_at 23 = .ok (.ifCond .eq 12, 3) := by decide +kernel
theorem dX6_at_26 : decode cX6_at 26 = .ok (.iload_n 3, 1) := by decide +kernel
theorem dX6_at_27 : decode cX6_at 27 = .ok (.iconst 0, 1) := by decide +kernel
theorem dX6_at_28 : decode cX6_at 28 = .ok (.iconst 2, 1) := by decide +kernel
theorem dX6_at_29 : decode cX6_at 29 = .ok (.invokestatic 42, 3) := by decide +kernel
theorem dX6_at_32 : decode cX6_at 32 = .ok (.ifCond .ne 6, 3) := by decide +kernel
theorem dX6_at_35 : decode cX6_at 35 = .ok (.bipush (-2), 2) := by decide +kernel
theorem dX6_at_37 : decode cX6_at 37 = .ok (.ireturn, 1) := by decide +kernel
theorem dX6_at_38 : decode cX6_at 38 = .ok (.aload_n 0, 1) := by decide +kernel
theorem dX6_at_39 : decode cX6_at 39 = .ok (.getfield 27, 3) := by decide +kernel
theorem dX6_at_42 : decode cX6_at 42 = .ok (.aload_n 0, 1) := by decide +kernel
theorem dX6_at_43 : decode cX6_at 43 = .ok (.getfield 10, 3) := by decide +kernel
theorem dX6_at_46 : decode cX6_at 46 = .ok (.iload_n 2, 1) := by decide +kernel
theorem dX6_at_47 : decode cX6_at 47 = .ok (.iconst 1, 1) := by decide +kernel
theorem dX6_at_48 : decode cX6_at 48 = .ok (.iadd, 1) := by decide +kernel
theorem dX6_at_49 : decode cX6_at 49 = .ok (.invokevirtual 158, 3) := by decide +kernel
theorem dX6_at_52 : decode cX6_at 52 = .ok (.aload_n 0, 1) := by decide +kernel
theorem dX6_at_53 : decode cX6_at 53 = .ok (.getfield 27, 3) := by decide +kernel
theorem dX6_at_56 : decode cX6_at 56 = .ok (.getfield 121, 3) := by decide +kernel
theorem dX6_at_59 : decode cX6_at 59 = .ok (.iload_n 1, 1) := by decide +kernel
theorem dX6_at_60 : decode cX6_at 60 = .ok (.aaload, 1) := by decide +kernel
theorem dX6_at_61 : decode cX6_at 61 = .ok (.astore 4, 2) := by decide +kernel
theorem dX6_at_63 : decode cX6_at 63 = .ok (.iload_n 3, 1) := by decide +kernel
theorem dX6_at_64 : decode cX6_at 64 = .ok (.lookupswitch 42 #[(0, 28), (1, 34)], 28) := by decide +kernel
theorem dX6_at_92 : decode cX6_at 92 = .ok (.aload 4, 2) := by decide +kernel
theorem dX6_at_94 : decode cX6_at 94 = .ok (.getfield 152, 3) := by decide +kernel
theorem dX6_at_97 : decode cX6_at 97 = .ok (.ireturn, 1) := by decide +kernel
theorem dX6_at_98 : decode cX6_at 98 = .ok (.aload 4, 2) := by decide +kernel
theorem dX6_at_100 : decode cX6_at 100 = .ok (.getfield 149, 3) := by decide +kernel
theorem dX6_at_103 : decode cX6_at 103 = .ok (.iconst 1, 1) := by decide +kernel
theorem dX6_at_104 : decode cX6_at 104 = .ok (.isub, 1) := by decide +kernel
theorem dX6_at_105 : decode cX6_at 105 = .ok (.ireturn, 1) := by decide +kernel
theorem dX6_at_106 : decode cX6_at 106 = .ok (.aload 4, 2) := by decide +kernel
theorem dX6_at_108 : decode cX6_at 108 = .ok (.getfield 125, 3) := by decide +kernel
theorem dX6_at_111 : decode cX6_at 111 = .ok (.ireturn, 1) := by decide +kernel
theorem dX6_fate_0 : decode cX6_fate 0 = .ok (.aload_n 0, 1) := by decide +kernel
theorem dX6_fate_1 : decode cX6_fate 1 = .ok (.getfield 10, 3) := by decide +kernel
theorem dX6_fate_4 : decode cX6_fate 4 = .ok (.getfield 83, 3) := by decide +kernel
theorem dX6_fate_7 : decode cX6_fate 7 = .ok (.iload_n 1, 1) := by decide +kernel
theorem dX6_fate_8 : decode cX6_fate 8 = .ok (.invokevirtual 96, 3) := by decide +kernel
theorem dX6_fate_11 : decode cX6_fate 11 = .ok (.ifCond .ne 5, 3) := by decide +kernel
theorem dX6_fate_14 : decode cX6_fate 14 = .ok (.iconst (-1), 1) := by decide +kernel
theorem dX6_fate_15 : decode cX6_fate 15 = .ok (.ireturn, 1) := by decide +kernel
theorem dX6_fate_16 : decode cX6_fate 16 = .ok (.aload_n 0, 1) := by decide +kernel
theorem dX6_fate_17 : decode cX6_fate 17 = .ok (.invokevirtual 117, 3) := by decide +kernel
theorem dX6_fate_20 : decode cX6_fate 20 = .ok (.getfield 162, 3) := by decide +kernel
theorem dX6_fate_23 : decode cX6_fate 23 = .ok (.iload_n 1, 1) := by decide +kernel
theorem dX6_fate_24 : decode cX6_fate 24 = .ok (.iaload, 1) := by decide +kernel
theorem dX6_fate_25 : decode cX6_fate 25 = .ok (.ireturn, 1) := by decide +kernel
theorem dX6_waiting_0 : decode cX6_waiting 0 = .ok (.aload_n 0, 1) := by decide +kernel
theorem dX6_waiting_1 : decode cX6_waiting 1 = .ok (.invokevirtual 117, 3) := by decide +kernel
theorem dX6_waiting_4 : decode cX6_waiting 4 = .ok (.astore_n 2, 1) := by decide +kernel
theorem dX6_waiting_5 : decode cX6_waiting 5 = .ok (.iload_n 1, 1) := by decide +kernel
theorem dX6_waiting_6 : decode cX6_waiting 6 = .ok (.iconst 0, 1) := by decide +kernel
theorem dX6_waiting_7 : decode cX6_waiting 7 = .ok (.aload_n 2, 1) := by decide +kernel
theorem dX6_waiting_8 : decode cX6_waiting 8 = .ok (.getfield 165, 3) := by decide +kernel
theorem dX6_waiting_11 : decode cX6_waiting 11 = .ok (.iconst 1, 1) := by decide +kernel
theorem dX6_waiting_12 : decode cX6_waiting 12 = .ok (.isub, 1) := by decide +kernel
theorem dX6_waiting_13 : decode cX6_waiting 13 = .ok (.invokestatic 42, 3) := by decide +kernel
theorem dX6_waiting_16 : decode cX6_waiting 16 = .ok (.ifCond .eq 12, 3) := by decide +kernel
theorem dX6_waiting_19 : decode cX6_waiting 19 = .ok (.aload_n 2, 1) := by decide +kernel
theorem dX6_waiting_20 : decode cX6_waiting 20 = .ok (.getfield 166, 3) := by decide +kernel
theorem dX6_waiting_23 : decode cX6_waiting 23 = .ok (.iload_n 1, 1) := by decide +kernel
theorem dX6_waiting_24 : decode cX6_waiting 24 = .ok (.iaload, 1) := by decide +kernel
theorem dX6_waiting_25 : decode cX6_waiting 25 = .ok (.goto 5, 3) := by decide +kernel
theorem dX6_waiting_28 : decode cX6_waiting 28 = .ok (.bipush (-6), 2) := by decide +kernel
theorem dX6_waiting_30 : decode cX6_waiting 30 = .ok (.ireturn, 1) := by decide +kernel
theorem dX6_least_0 : decode cX6_least 0 = .ok (.iload_n 1, 1) := by decide +kernel
theorem dX6_least_1 : decode cX6_least 1 = .ok (.invokestatic 38, 3) := by decide +kernel
theorem dX6_least_4 : decode cX6_least 4 = .ok (.ifCond .ne 5, 3) := by decide +kernel
theorem dX6_least_7 : decode cX6_least 7 = .ok (.iconst (-1), 1) := by decide +kernel
theorem dX6_least_8 : decode cX6_least 8 = .ok (.ireturn, 1) := by decide +kernel
theorem dX6_least_9 : decode cX6_least 9 = .ok (.iload_n 2, 1) := by decide +kernel
theorem dX6_least_10 : decode cX6_least 10 = .ok (.iconst 0, 1) := by decide +kernel
theorem dX6_least_11 : decode cX6_least 11 = .ok (.iconst 2, 1) := by decide +kernel
theorem dX6_least_12 : decode cX6_least 12 = .ok (.invokestatic 42, 3) := by decide +kernel
theorem dX6_least_15 : decode cX6_least 15 = .ok (.ifCond .ne 6, 3) := by decide +kernel
theorem dX6_least_18 : decode cX6_least 18 = .ok (.bipush (-2), 2) := by decide +kernel
theorem dX6_least_20 : decode cX6_least 20 = .ok (.ireturn, 1) := by decide +kernel
theorem dX6_least_21 : decode cX6_least 21 = .ok (.aload_n 0, 1) := by decide +kernel
theorem dX6_least_22 : decode cX6_least 22 = .ok (.getfield 34, 3) := by decide +kernel
theorem dX6_least_25 : decode cX6_least 25 = .ok (.aload_n 0, 1) := by decide +kernel
theorem dX6_least_26 : decode cX6_least 26 = .ok (.getfield 10, 3) := by decide +kernel
theorem dX6_least_29 : decode cX6_least 29 = .ok (.iload_n 1, 1) := by decide +kernel
theorem dX6_least_30 : decode cX6_least 30 = .ok (.invokevirtual 169, 3) := by decide +kernel
theorem dX6_least_33 : decode cX6_least 33 = .ok (.iload_n 2, 1) := by decide +kernel
theorem dX6_least_34 : decode cX6_least 34 = .ok (.lookupswitch 50 #[(0, 26), (1, 42)], 26) := by decide +kernel
theorem dX6_least_60 : decode cX6_least 60 = .ok (.aload_n 0, 1) := by decide +kernel
theorem dX6_least_61 : decode cX6_least 61 = .ok (.getfield 34, 3) := by decide +kernel
theorem dX6_least_64 : decode cX6_least 64 = .ok (.invokevirtual 172, 3) := by decide +kernel
theorem dX6_least_67 : decode cX6_least 67 = .ok (.aload_n 0, 1) := by decide +kernel
theorem dX6_least_68 : decode cX6_least 68 = .ok (.getfield 34, 3) := by decide +kernel
theorem dX6_least_71 : decode cX6_least 71 = .ok (.invokevirtual 176, 3) := by decide +kernel
theorem dX6_least_74 : decode cX6_least 74 = .ok (.isub, 1) := by decide +kernel
theorem dX6_least_75 : decode cX6_least 75 = .ok (.ireturn, 1) := by decide +kernel
theorem dX6_least_76 : decode cX6_least 76 = .ok (.aload_n 0, 1) := by decide +kernel
theorem dX6_least_77 : decode cX6_least 77 = .ok (.getfield 34, 3) := by decide +kernel
theorem dX6_least_80 : decode cX6_least 80 = .ok (.getfield 179, 3) := by decide +kernel
theorem dX6_least_83 : decode cX6_least 83 = .ok (.ireturn, 1) := by decide +kernel
theorem dX6_least_84 : decode cX6_least 84 = .ok (.aload_n 0, 1) := by decide +kernel
theorem dX6_least_85 : decode cX6_least 85 = .ok (.getfield 34, 3) := by decide +kernel
theorem dX6_least_88 : decode cX6_least 88 = .ok (.invokevirtual 180, 3) := by decide +kernel
theorem dX6_least_91 : decode cX6_least 91 = .ok (.ireturn, 1) := by decide +kernel
theorem dX6_limited_0 : decode cX6_limited 0 = .ok (.iload_n 1, 1) := by decide +kernel
theorem dX6_limited_1 : decode cX6_limited 1 = .ok (.invokestatic 38, 3) := by decide +kernel
theorem dX6_limited_4 : decode cX6_limited 4 = .ok (.ifCond .ne 5, 3) := by decide +kernel
theorem dX6_limited_7 : decode cX6_limited 7 = .ok (.iconst (-1), 1) := by decide +kernel
theorem dX6_limited_8 : decode cX6_limited 8 = .ok (.ireturn, 1) := by decide +kernel
theorem dX6_limited_9 : decode cX6_limited 9 = .ok (.iload_n 2, 1) := by decide +kernel
theorem dX6_limited_10 : decode cX6_limited 10 = .ok (.iconst 1, 1) := by decide +kernel
theorem dX6_limited_11 : decode cX6_limited 11 = .ok (.sipush 1000, 3) := by decide +kernel
theorem dX6_limited_14 : decode cX6_limited 14 = .ok (.invokestatic 42, 3) := by decide +kernel
theorem dX6_limited_17 : decode cX6_limited 17 = .ok (.ifCond .eq 13, 3) := by decide +kernel
theorem dX6_limited_20 : decode cX6_limited 20 = .ok (.iload_n 3, 1) := by decide +kernel
theorem dX6_limited_21 : decode cX6_limited 21 = .ok (.iconst 0, 1) := by decide +kernel
theorem dX6_limited_22 : decode cX6_limited 22 = .ok (.bipush 40, 2) := by decide +kernel
theorem dX6_limited_24 : decode cX6_limited 24 = .ok (.invokestatic 42, 3) := by decide +kernel
theorem dX6_limited_27 : decode cX6_limited 27 = .ok (.ifCond .ne 6, 3) := by decide +kernel
theorem dX6_limited_30 : decode cX6_limited 30 = .ok (.bipush (-2), 2) := by decide +kernel
theorem dX6_limited_32 : decode cX6_limited 32 = .ok (.ireturn, 1) := by decide +kernel
theorem dX6_limited_33 : decode cX6_limited 33 = .ok (.aload_n 0, 1) := by decide +kernel
theorem dX6_limited_34 : decode cX6_limited 34 = .ok (.getfield 34, 3) := by decide +kernel
theorem dX6_limited_37 : decode cX6_limited 37 = .ok (.aload_n 0, 1) := by decide +kernel
theorem dX6_limited_38 : decode cX6_limited 38 = .ok (.getfield 10, 3) := by decide +kernel
theorem dX6_limited_41 : decode cX6_limited 41 = .ok (.iload_n 1, 1) := by decide +kernel
theorem dX6_limited_42 : decode cX6_limited 42 = .ok (.invokevirtual 169, 3) := by decide +kernel
theorem dX6_limited_45 : decode cX6_limited 45 = .ok (.aload_n 0, 1) := by decide +kernel
theorem dX6_limited_46 : decode cX6_limited 46 = .ok (.getfield 34, 3) := by decide +kernel
theorem dX6_limited_49 : decode cX6_limited 49 = .ok (.invokevirtual 172, 3) := by decide +kernel
theorem dX6_limited_52 : decode cX6_limited 52 = .ok (.aload_n 0, 1) := by decide +kernel
theorem dX6_limited_53 : decode cX6_limited 53 = .ok (.getfield 34, 3) := by decide +kernel
theorem dX6_limited_56 : decode cX6_limited 56 = .ok (.iload_n 2, 1) := by decide +kernel
theorem dX6_limited_57 : decode cX6_limited 57 = .ok (.iload_n 3, 1) := by decide +kernel
theorem dX6_limited_58 : decode cX6_limited 58 = .ok (.invokevirtual 183, 3) := by decide +kernel
theorem dX6_limited_61 : decode cX6_limited 61 = .ok (.isub, 1) := by decide +kernel
theorem dX6_limited_62 : decode cX6_limited 62 = .ok (.ireturn, 1) := by decide +kernel
theorem dX6_costs_0 : decode cX6_costs 0 = .ok (.iload_n 1, 1) := by decide +kernel
theorem dX6_costs_1 : decode cX6_costs 1 = .ok (.invokestatic 38, 3) := by decide +kernel
theorem dX6_costs_4 : decode cX6_costs 4 = .ok (.ifCond .ne 5, 3) := by decide +kernel
theorem dX6_costs_7 : decode cX6_costs 7 = .ok (.iconst (-1), 1) := by decide +kernel
theorem dX6_costs_8 : decode cX6_costs 8 = .ok (.ireturn, 1) := by decide +kernel
theorem dX6_costs_9 : decode cX6_costs 9 = .ok (.iload_n 2, 1) := by decide +kernel
theorem dX6_costs_10 : decode cX6_costs 10 = .ok (.iconst 1, 1) := by decide +kernel
theorem dX6_costs_11 : decode cX6_costs 11 = .ok (.sipush 1000, 3) := by decide +kernel
theorem dX6_costs_14 : decode cX6_costs 14 = .ok (.invokestatic 42, 3) := by decide +kernel
theorem dX6_costs_17 : decode cX6_costs 17 = .ok (.ifCond .ne 6, 3) := by decide +kernel
theorem dX6_costs_20 : decode cX6_costs 20 = .ok (.bipush (-2), 2) := by decide +kernel
theorem dX6_costs_22 : decode cX6_costs 22 = .ok (.ireturn, 1) := by decide +kernel
theorem dX6_costs_23 : decode cX6_costs 23 = .ok (.aload_n 0, 1) := by decide +kernel
theorem dX6_costs_24 : decode cX6_costs 24 = .ok (.getfield 10, 3) := by decide +kernel
theorem dX6_costs_27 : decode cX6_costs 27 = .ok (.getfield 46, 3) := by decide +kernel
theorem dX6_costs_30 : decode cX6_costs 30 = .ok (.iload_n 1, 1) := by decide +kernel
theorem dX6_costs_31 : decode cX6_costs 31 = .ok (.aaload, 1) := by decide +kernel
theorem dX6_costs_32 : decode cX6_costs 32 = .ok (.getfield 77, 3) := by decide +kernel
theorem dX6_costs_35 : decode cX6_costs 35 = .ok (.iconst 3, 1) := by decide +kernel
theorem dX6_costs_36 : decode cX6_costs 36 = .ok (.if_icmp .ne 6, 3) := by decide +kernel
theorem dX6_costs_39 : decode cX6_costs 39 = .ok (.bipush (-3), 2) := by decide +kernel
theorem dX6_costs_41 : decode cX6_costs 41 = .ok (.ireturn, 1) := by decide +kernel
theorem dX6_costs_42 : decode cX6_costs 42 = .ok (.aload_n 0, 1) := by decide +kernel
theorem dX6_costs_43 : decode cX6_costs 43 = .ok (.getfield 10, 3) := by decide +kernel
theorem dX6_costs_46 : decode cX6_costs 46 = .ok (.getfield 46, 3) := by decide +kernel
theorem dX6_costs_49 : decode cX6_costs 49 = .ok (.iload_n 1, 1) := by decide +kernel
theorem dX6_costs_50 : decode cX6_costs 50 = .ok (.aaload, 1) := by decide +kernel
theorem dX6_costs_51 : decode cX6_costs 51 = .ok (.iload_n 2, 1) := by decide +kernel
theorem dX6_costs_52 : decode cX6_costs 52 = .ok (.invokevirtual 187, 3) := by decide +kernel
theorem dX6_costs_55 : decode cX6_costs 55 = .ok (.ireturn, 1) := by decide +kernel
theorem dX6_worst_0 : decode cX6_worst 0 = .ok (.iload_n 1, 1) := by decide +kernel
theorem dX6_worst_1 : decode cX6_worst 1 = .ok (.invokestatic 38, 3) := by decide +kernel
theorem dX6_worst_4 : decode cX6_worst 4 = .ok (.ifCond .ne 5, 3) := by decide +kernel
theorem dX6_worst_7 : decode cX6_worst 7 = .ok (.iconst (-1), 1) := by decide +kernel
theorem dX6_worst_8 : decode cX6_worst 8 = .ok (.ireturn, 1) := by decide +kernel
theorem dX6_worst_9 : decode cX6_worst 9 = .ok (.iload_n 2, 1) := by decide +kernel
theorem dX6_worst_10 : decode cX6_worst 10 = .ok (.iconst 1, 1) := by decide +kernel
theorem dX6_worst_11 : decode cX6_worst 11 = .ok (.sipush 1000, 3) := by decide +kernel
theorem dX6_worst_14 : decode cX6_worst 14 = .ok (.invokestatic 42, 3) := by decide +kernel
theorem dX6_worst_17 : decode cX6_worst 17 = .ok (.ifCond .eq 12, 3) := by decide +kernel
theorem dX6_worst_20 : decode cX6_worst 20 = .ok (.iload_n 3, 1) := by decide +kernel
theorem dX6_worst_21 : decode cX6_worst 21 = .ok (.iconst 0, 1) := by decide +kernel
theorem dX6_worst_22 : decode cX6_worst 22 = .ok (.iconst 2, 1) := by decide +kernel
theorem dX6_worst_23 : decode cX6_worst 23 = .ok (.invokestatic 42, 3) := by decide +kernel
theorem dX6_worst_26 : decode cX6_worst 26 = .ok (.ifCond .ne 6, 3) := by decide +kernel
theorem dX6_worst_29 : decode cX6_worst 29 = .ok (.bipush (-2), 2) := by decide +kernel
theorem dX6_worst_31 : decode cX6_worst 31 = .ok (.ireturn, 1) := by decide +kernel
theorem dX6_worst_32 : decode cX6_worst 32 = .ok (.aload_n 0, 1) := by decide +kernel
theorem dX6_worst_33 : decode cX6_worst 33 = .ok (.getfield 10, 3) := by decide +kernel
theorem dX6_worst_36 : decode cX6_worst 36 = .ok (.getfield 46, 3) := by decide +kernel
theorem dX6_worst_39 : decode cX6_worst 39 = .ok (.iload_n 1, 1) := by decide +kernel
theorem dX6_worst_40 : decode cX6_worst 40 = .ok (.aaload, 1) := by decide +kernel
theorem dX6_worst_41 : decode cX6_worst 41 = .ok (.astore 4, 2) := by decide +kernel
theorem dX6_worst_43 : decode cX6_worst 43 = .ok (.aload 4, 2) := by decide +kernel
theorem dX6_worst_45 : decode cX6_worst 45 = .ok (.getfield 77, 3) := by decide +kernel
theorem dX6_worst_48 : decode cX6_worst 48 = .ok (.iconst 3, 1) := by decide +kernel
theorem dX6_worst_49 : decode cX6_worst 49 = .ok (.if_icmp .ne 6, 3) := by decide +kernel
theorem dX6_worst_52 : decode cX6_worst 52 = .ok (.bipush (-3), 2) := by decide +kernel
theorem dX6_worst_54 : decode cX6_worst 54 = .ok (.ireturn, 1) := by decide +kernel
theorem dX6_worst_55 : decode cX6_worst 55 = .ok (.aload 4, 2) := by decide +kernel
theorem dX6_worst_57 : decode cX6_worst 57 = .ok (.iload_n 2, 1) := by decide +kernel
theorem dX6_worst_58 : decode cX6_worst 58 = .ok (.invokevirtual 191, 3) := by decide +kernel
theorem dX6_worst_61 : decode cX6_worst 61 = .ok (.istore 5, 2) := by decide +kernel
theorem dX6_worst_63 : decode cX6_worst 63 = .ok (.iload_n 3, 1) := by decide +kernel
theorem dX6_worst_64 : decode cX6_worst 64 = .ok (.iconst 2, 1) := by decide +kernel
theorem dX6_worst_65 : decode cX6_worst 65 = .ok (.if_icmp .ne 6, 3) := by decide +kernel
theorem dX6_worst_68 : decode cX6_worst 68 = .ok (.iload 5, 2) := by decide +kernel
theorem dX6_worst_70 : decode cX6_worst 70 = .ok (.ireturn, 1) := by decide +kernel
theorem dX6_worst_71 : decode cX6_worst 71 = .ok (.aload 4, 2) := by decide +kernel
theorem dX6_worst_73 : decode cX6_worst 73 = .ok (.iload 5, 2) := by decide +kernel
theorem dX6_worst_75 : decode cX6_worst 75 = .ok (.invokevirtual 187, 3) := by decide +kernel
theorem dX6_worst_78 : decode cX6_worst 78 = .ok (.aload 4, 2) := by decide +kernel
theorem dX6_worst_80 : decode cX6_worst 80 = .ok (.iload 5, 2) := by decide +kernel
theorem dX6_worst_82 : decode cX6_worst 82 = .ok (.invokevirtual 194, 3) := by decide +kernel
theorem dX6_worst_85 : decode cX6_worst 85 = .ok (.iload_n 3, 1) := by decide +kernel
theorem dX6_worst_86 : decode cX6_worst 86 = .ok (.invokestatic 197, 3) := by decide +kernel
theorem dX6_worst_89 : decode cX6_worst 89 = .ok (.ireturn, 1) := by decide +kernel
theorem dX6_drawn_0 : decode cX6_drawn 0 = .ok (.iload_n 1, 1) := by decide +kernel
theorem dX6_drawn_1 : decode cX6_drawn 1 = .ok (.invokestatic 38, 3) := by decide +kernel
theorem dX6_drawn_4 : decode cX6_drawn 4 = .ok (.ifCond .eq 23, 3) := by decide +kernel
theorem dX6_drawn_7 : decode cX6_drawn 7 = .ok (.iload_n 2, 1) := by decide +kernel
theorem dX6_drawn_8 : decode cX6_drawn 8 = .ok (.ifCond .eq 19, 3) := by decide +kernel
theorem dX6_drawn_11 : decode cX6_drawn 11 = .ok (.aload_n 0, 1) := by decide +kernel
theorem dX6_drawn_12 : decode cX6_drawn 12 = .ok (.getfield 10, 3) := by decide +kernel
theorem dX6_drawn_15 : decode cX6_drawn 15 = .ok (.getfield 46, 3) := by decide +kernel
theorem dX6_drawn_18 : decode cX6_drawn 18 = .ok (.iload_n 1, 1) := by decide +kernel
theorem dX6_drawn_19 : decode cX6_drawn 19 = .ok (.aaload, 1) := by decide +kernel
theorem dX6_drawn_20 : decode cX6_drawn 20 = .ok (.iload_n 2, 1) := by decide +kernel
theorem dX6_drawn_21 : decode cX6_drawn 21 = .ok (.invokevirtual 70, 3) := by decide +kernel
theorem dX6_drawn_24 : decode cX6_drawn 24 = .ok (.ifCond .ne 5, 3) := by decide +kernel
theorem dX6_drawn_27 : decode cX6_drawn 27 = .ok (.iconst (-1), 1) := by decide +kernel
theorem dX6_drawn_28 : decode cX6_drawn 28 = .ok (.ireturn, 1) := by decide +kernel
theorem dX6_drawn_29 : decode cX6_drawn 29 = .ok (.iload_n 3, 1) := by decide +kernel
theorem dX6_drawn_30 : decode cX6_drawn 30 = .ok (.iconst 1, 1) := by decide +kernel
theorem dX6_drawn_31 : decode cX6_drawn 31 = .ok (.sipush 1000, 3) := by decide +kernel
theorem dX6_drawn_34 : decode cX6_drawn 34 = .ok (.invokestatic 42, 3) := by decide +kernel
theorem dX6_drawn_37 : decode cX6_drawn 37 = .ok (.ifCond .eq 13, 3) := by decide +kernel
theorem dX6_drawn_40 : decode cX6_drawn 40 = .ok (.iload 4, 2) := by decide +kernel
theorem dX6_drawn_42 : decode cX6_drawn 42 = .ok (.iconst 0, 1) := by decide +kernel
theorem dX6_drawn_43 : decode cX6_drawn 43 = .ok (.iconst 2, 1) := by decide +kernel
theorem dX6_drawn_44 : decode cX6_drawn 44 = .ok (.invokestatic 42, 3) := by decide +kernel
theorem dX6_drawn_47 : decode cX6_drawn 47 = .ok (.ifCond .ne 6, 3) := by decide +kernel
theorem dX6_drawn_50 : decode cX6_drawn 50 = .ok (.bipush (-2), 2) := by decide +kernel
theorem dX6_drawn_52 : decode cX6_drawn 52 = .ok (.ireturn, 1) := by decide +kernel
theorem dX6_drawn_53 : decode cX6_drawn 53 = .ok (.aload_n 0, 1) := by decide +kernel
theorem dX6_drawn_54 : decode cX6_drawn 54 = .ok (.getfield 10, 3) := by decide +kernel
theorem dX6_drawn_57 : decode cX6_drawn 57 = .ok (.getfield 46, 3) := by decide +kernel
theorem dX6_drawn_60 : decode cX6_drawn 60 = .ok (.iload_n 1, 1) := by decide +kernel
theorem dX6_drawn_61 : decode cX6_drawn 61 = .ok (.aaload, 1) := by decide +kernel
theorem dX6_drawn_62 : decode cX6_drawn 62 = .ok (.iload_n 2, 1) := by decide +kernel
theorem dX6_drawn_63 : decode cX6_drawn 63 = .ok (.invokevirtual 201, 3) := by decide +kernel
theorem dX6_drawn_66 : decode cX6_drawn 66 = .ok (.istore 5, 2) := by decide +kernel
theorem dX6_drawn_68 : decode cX6_drawn 68 = .ok (.iload 4, 2) := by decide +kernel
theorem dX6_drawn_70 : decode cX6_drawn 70 = .ok (.iconst 2, 1) := by decide +kernel
theorem dX6_drawn_71 : decode cX6_drawn 71 = .ok (.if_icmp .ne 6, 3) := by decide +kernel
theorem dX6_drawn_74 : decode cX6_drawn 74 = .ok (.iload 5, 2) := by decide +kernel
theorem dX6_drawn_76 : decode cX6_drawn 76 = .ok (.ireturn, 1) := by decide +kernel
theorem dX6_drawn_77 : decode cX6_drawn 77 = .ok (.aload_n 0, 1) := by decide +kernel
theorem dX6_drawn_78 : decode cX6_drawn 78 = .ok (.getfield 10, 3) := by decide +kernel
theorem dX6_drawn_81 : decode cX6_drawn 81 = .ok (.getfield 46, 3) := by decide +kernel
theorem dX6_drawn_84 : decode cX6_drawn 84 = .ok (.iload_n 1, 1) := by decide +kernel
theorem dX6_drawn_85 : decode cX6_drawn 85 = .ok (.aaload, 1) := by decide +kernel
theorem dX6_drawn_86 : decode cX6_drawn 86 = .ok (.iload_n 2, 1) := by decide +kernel
theorem dX6_drawn_87 : decode cX6_drawn 87 = .ok (.iload_n 3, 1) := by decide +kernel
theorem dX6_drawn_88 : decode cX6_drawn 88 = .ok (.iload 5, 2) := by decide +kernel
theorem dX6_drawn_90 : decode cX6_drawn 90 = .ok (.invokevirtual 204, 3) := by decide +kernel
theorem dX6_drawn_93 : decode cX6_drawn 93 = .ok (.iload 5, 2) := by decide +kernel
theorem dX6_drawn_95 : decode cX6_drawn 95 = .ok (.iload 4, 2) := by decide +kernel
theorem dX6_drawn_97 : decode cX6_drawn 97 = .ok (.invokestatic 197, 3) := by decide +kernel
theorem dX6_drawn_100 : decode cX6_drawn 100 = .ok (.ireturn, 1) := by decide +kernel
theorem dX6_count_0 : decode cX6_count 0 = .ok (.iload_n 1, 1) := by decide +kernel
theorem dX6_count_1 : decode cX6_count 1 = .ok (.tableswitch 124 0 6 #[43, 54, 62, 70, 78, 86, 94], 43) := by decide +kernel
theorem dX6_count_44 : decode cX6_count 44 = .ok (.aload_n 0, 1) := by decide +kernel
theorem dX6_count_45 : decode cX6_count 45 = .ok (.getfield 10, 3) := by decide +kernel
theorem dX6_count_48 : decode cX6_count 48 = .ok (.getfield 83, 3) := by decide +kernel
theorem dX6_count_51 : decode cX6_count 51 = .ok (.getfield 87, 3) := by decide +kernel
theorem dX6_count_54 : decode cX6_count 54 = .ok (.ireturn, 1) := by decide +kernel
theorem dX6_count_55 : decode cX6_count 55 = .ok (.aload_n 0, 1) := by decide +kernel
theorem dX6_count_56 : decode cX6_count 56 = .ok (.getfield 10, 3) := by decide +kernel
theorem dX6_count_59 : decode cX6_count 59 = .ok (.getfield 111, 3) := by decide +kernel
theorem dX6_count_62 : decode cX6_count 62 = .ok (.ireturn, 1) := by decide +kernel
theorem dX6_count_63 : decode cX6_count 63 = .ok (.aload_n 0, 1) := by decide +kernel
theorem dX6_count_64 : decode cX6_count 64 = .ok (.getfield 10, 3) := by decide +kernel
theorem dX6_count_67 : decode cX6_count 67 = .ok (.getfield 114, 3) := by decide +kernel
theorem dX6_count_70 : decode cX6_count 70 = .ok (.ireturn, 1) := by decide +kernel
theorem dX6_count_71 : decode cX6_count 71 = .ok (.aload_n 0, 1) := by decide +kernel
theorem dX6_count_72 : decode cX6_count 72 = .ok (.invokevirtual 117, 3) := by decide +kernel
theorem dX6_count_75 : decode cX6_count 75 = .ok (.invokevirtual 207, 3) := by decide +kernel
theorem dX6_count_78 : decode cX6_count 78 = .ok (.ireturn, 1) := by decide +kernel
theorem dX6_count_79 : decode cX6_count 79 = .ok (.aload_n 0, 1) := by decide +kernel
theorem dX6_count_80 : decode cX6_count 80 = .ok (.invokevirtual 117, 3) := by decide +kernel
theorem dX6_count_83 : decode cX6_count 83 = .ok (.getfield 165, 3) := by decide +kernel
theorem dX6_count_86 : decode cX6_count 86 = .ok (.ireturn, 1) := by decide +kernel
theorem dX6_count_87 : decode cX6_count 87 = .ok (.aload_n 0, 1) := by decide +kernel
theorem dX6_count_88 : decode cX6_count 88 = .ok (.invokevirtual 117, 3) := by decide +kernel
theorem dX6_count_91 : decode cX6_count 91 = .ok (.getfield 210, 3) := by decide +kernel
theorem dX6_count_94 : decode cX6_count 94 = .ok (.ireturn, 1) := by decide +kernel
theorem dX6_count_95 : decode cX6_count 95 = .ok (.aload_n 0, 1) := by decide +kernel
theorem dX6_count_96 : decode cX6_count 96 = .ok (.getfield 20, 3) := by decide +kernel
theorem dX6_count_99 : decode cX6_count 99 = .ok (.iconst 0, 1) := by decide +kernel
theorem dX6_count_100 : decode cX6_count 100 = .ok (.baload, 1) := by decide +kernel
theorem dX6_count_101 : decode cX6_count 101 = .ok (.ifCond .eq 7, 3) := by decide +kernel
theorem dX6_count_104 : decode cX6_count 104 = .ok (.iconst 1, 1) := by decide +kernel
theorem dX6_count_105 : decode cX6_count 105 = .ok (.goto 4, 3) := by decide +kernel
theorem dX6_count_108 : decode cX6_count 108 = .ok (.iconst 0, 1) := by decide +kernel
theorem dX6_count_109 : decode cX6_count 109 = .ok (.aload_n 0, 1) := by decide +kernel
theorem dX6_count_110 : decode cX6_count 110 = .ok (.getfield 20, 3) := by decide +kernel
theorem dX6_count_113 : decode cX6_count 113 = .ok (.iconst 1, 1) := by decide +kernel
theorem dX6_count_114 : decode cX6_count 114 = .ok (.baload, 1) := by decide +kernel
theorem dX6_count_115 : decode cX6_count 115 = .ok (.ifCond .eq 7, 3) := by decide +kernel
theorem dX6_count_118 : decode cX6_count 118 = .ok (.iconst 2, 1) := by decide +kernel
theorem dX6_count_119 : decode cX6_count 119 = .ok (.goto 4, 3) := by decide +kernel
theorem dX6_count_122 : decode cX6_count 122 = .ok (.iconst 0, 1) := by decide +kernel
theorem dX6_count_123 : decode cX6_count 123 = .ok (.iadd, 1) := by decide +kernel
theorem dX6_count_124 : decode cX6_count 124 = .ok (.ireturn, 1) := by decide +kernel
theorem dX6_count_125 : decode cX6_count 125 = .ok (.bipush (-2), 2) := by decide +kernel
theorem dX6_count_127 : decode cX6_count 127 = .ok (.ireturn, 1) := by decide +kernel
theorem dX6_image_0 : decode cX6_image 0 = .ok (.iload_n 1, 1) := by decide +kernel
theorem dX6_image_1 : decode cX6_image 1 = .ok (.iconst 0, 1) := by decide +kernel
theorem dX6_image_2 : decode cX6_image 2 = .ok (.iconst 1, 1) := by decide +kernel
theorem dX6_image_3 : decode cX6_image 3 = .ok (.invokestatic 42, 3) := by decide +kernel
theorem dX6_image_6 : decode cX6_image 6 = .ok (.ifCond .ne 6, 3) := by decide +kernel
theorem dX6_image_9 : decode cX6_image 9 = .ok (.bipush (-2), 2) := by decide +kernel
theorem dX6_image_11 : decode cX6_image 11 = .ok (.ireturn, 1) := by decide +kernel
theorem dX6_image_12 : decode cX6_image 12 = .ok (.aload_n 0, 1) := by decide +kernel
theorem dX6_image_13 : decode cX6_image 13 = .ok (.getfield 16, 3) := by decide +kernel
theorem dX6_image_16 : decode cX6_image 16 = .ok (.iload_n 1, 1) := by decide +kernel
theorem dX6_image_17 : decode cX6_image 17 = .ok (.aaload, 1) := by decide +kernel
theorem dX6_image_18 : decode cX6_image 18 = .ok (.aload_n 0, 1) := by decide +kernel
theorem dX6_image_19 : decode cX6_image 19 = .ok (.getfield 10, 3) := by decide +kernel
theorem dX6_image_22 : decode cX6_image 22 = .ok (.invokevirtual 213, 3) := by decide +kernel
theorem dX6_image_25 : decode cX6_image 25 = .ok (.aload_n 0, 1) := by decide +kernel
theorem dX6_image_26 : decode cX6_image 26 = .ok (.getfield 20, 3) := by decide +kernel
theorem dX6_image_29 : decode cX6_image 29 = .ok (.iload_n 1, 1) := by decide +kernel
theorem dX6_image_30 : decode cX6_image 30 = .ok (.iconst 1, 1) := by decide +kernel
theorem dX6_image_31 : decode cX6_image 31 = .ok (.bastore, 1) := by decide +kernel
theorem dX6_image_32 : decode cX6_image 32 = .ok (.iconst 1, 1) := by decide +kernel
theorem dX6_image_33 : decode cX6_image 33 = .ok (.ireturn, 1) := by decide +kernel
theorem dX6_restore_0 : decode cX6_restore 0 = .ok (.iload_n 1, 1) := by decide +kernel
theorem dX6_restore_1 : decode cX6_restore 1 = .ok (.iconst 0, 1) := by decide +kernel
theorem dX6_restore_2 : decode cX6_restore 2 = .ok (.iconst 1, 1) := by decide +kernel
theorem dX6_restore_3 : decode cX6_restore 3 = .ok (.invokestatic 42, 3) := by decide +kernel
theorem dX6_restore_6 : decode cX6_restore 6 = .ok (.ifCond .ne 6, 3) := by decide +kernel
theorem dX6_restore_9 : decode cX6_restore 9 = .ok (.bipush (-2), 2) := by decide +kernel
theorem dX6_restore_11 : decode cX6_restore 11 = .ok (.ireturn, 1) := by decide +kernel
theorem dX6_restore_12 : decode cX6_restore 12 = .ok (.aload_n 0, 1) := by decide +kernel
theorem dX6_restore_13 : decode cX6_restore 13 = .ok (.getfield 20, 3) := by decide +kernel
theorem dX6_restore_16 : decode cX6_restore 16 = .ok (.iload_n 1, 1) := by decide +kernel
theorem dX6_restore_17 : decode cX6_restore 17 = .ok (.baload, 1) := by decide +kernel
theorem dX6_restore_18 : decode cX6_restore 18 = .ok (.ifCond .ne 6, 3) := by decide +kernel
theorem dX6_restore_21 : decode cX6_restore 21 = .ok (.bipush (-3), 2) := by decide +kernel
theorem dX6_restore_23 : decode cX6_restore 23 = .ok (.ireturn, 1) := by decide +kernel
theorem dX6_restore_24 : decode cX6_restore 24 = .ok (.aload_n 0, 1) := by decide +kernel
theorem dX6_restore_25 : decode cX6_restore 25 = .ok (.getfield 10, 3) := by decide +kernel
theorem dX6_restore_28 : decode cX6_restore 28 = .ok (.aload_n 0, 1) := by decide +kernel
theorem dX6_restore_29 : decode cX6_restore 29 = .ok (.getfield 16, 3) := by decide +kernel
theorem dX6_restore_32 : decode cX6_restore 32 = .ok (.iload_n 1, 1) := by decide +kernel
theorem dX6_restore_33 : decode cX6_restore 33 = .ok (.aaload, 1) := by decide +kernel
theorem dX6_restore_34 : decode cX6_restore 34 = .ok (.invokevirtual 213, 3) := by decide +kernel
theorem dX6_restore_37 : decode cX6_restore 37 = .ok (.aload_n 0, 1) := by decide +kernel
theorem dX6_restore_38 : decode cX6_restore 38 = .ok (.getfield 27, 3) := by decide +kernel
theorem dX6_restore_41 : decode cX6_restore 41 = .ok (.invokevirtual 60, 3) := by decide +kernel
theorem dX6_restore_44 : decode cX6_restore 44 = .ok (.iconst 1, 1) := by decide +kernel
theorem dX6_restore_45 : decode cX6_restore 45 = .ok (.ireturn, 1) := by decide +kernel
theorem dX6_within_0 : decode cX6_within 0 = .ok (.iload_n 0, 1) := by decide +kernel
theorem dX6_within_1 : decode cX6_within 1 = .ok (.iload_n 1, 1) := by decide +kernel
theorem dX6_within_2 : decode cX6_within 2 = .ok (.if_icmp .lt 12, 3) := by decide +kernel
theorem dX6_within_5 : decode cX6_within 5 = .ok (.iload_n 0, 1) := by decide +kernel
theorem dX6_within_6 : decode cX6_within 6 = .ok (.iload_n 2, 1) := by decide +kernel
theorem dX6_within_7 : decode cX6_within 7 = .ok (.if_icmp .gt 7, 3) := by decide +kernel
theorem dX6_within_10 : decode cX6_within 10 = .ok (.iconst 1, 1) := by decide +kernel
theorem dX6_within_11 : decode cX6_within 11 = .ok (.goto 4, 3) := by decide +kernel
theorem dX6_within_14 : decode cX6_within 14 = .ok (.iconst 0, 1) := by decide +kernel
theorem dX6_within_15 : decode cX6_within 15 = .ok (.ireturn, 1) := by decide +kernel
theorem dX6_isDisk_0 : decode cX6_isDisk 0 = .ok (.iload_n 0, 1) := by decide +kernel
theorem dX6_isDisk_1 : decode cX6_isDisk 1 = .ok (.iconst 0, 1) := by decide +kernel
theorem dX6_isDisk_2 : decode cX6_isDisk 2 = .ok (.iconst 3, 1) := by decide +kernel
theorem dX6_isDisk_3 : decode cX6_isDisk 3 = .ok (.invokestatic 42, 3) := by decide +kernel
theorem dX6_isDisk_6 : decode cX6_isDisk 6 = .ok (.ireturn, 1) := by decide +kernel
theorem dX6_isPolicy_0 : decode cX6_isPolicy 0 = .ok (.iload_n 0, 1) := by decide +kernel
theorem dX6_isPolicy_1 : decode cX6_isPolicy 1 = .ok (.lookupswitch 43 #[(1, 27), (3, 36)], 27) := by decide +kernel
theorem dX6_isPolicy_28 : decode cX6_isPolicy 28 = .ok (.iload_n 1, 1) := by decide +kernel
theorem dX6_isPolicy_29 : decode cX6_isPolicy 29 = .ok (.iconst 1, 1) := by decide +kernel
