theorem d_Table_init_0 : decode b_Table_init 0 = .ok (.aload_n 0, 1) := by decide +kernel
theorem d_Table_init_1 : decode b_Table_init 1 = .ok (.invokespecial 3, 3) := by decide +kernel
theorem d_Table_init_4 : decode b_Table_init 4 = .ok (.aload_n 0, 1) := by decide +kernel
theorem d_Table_init_5 : decode b_Table_init 5 = .ok (.sipush 16384, 3) := by decide +kernel
theorem d_Table_init_8 : decode b_Table_init 8 = .ok (.newarray .int, 2) := by decide +kernel
theorem d_Table_init_10 : decode b_Table_init 10 = .ok (.putfield 9, 3) := by decide +kernel
theorem d_Table_init_13 : decode b_Table_init 13 = .ok (.aload_n 0, 1) := by decide +kernel
theorem d_Table_init_14 : decode b_Table_init 14 = .ok (.sipush 16384, 3) := by decide +kernel
theorem d_Table_init_17 : decode b_Table_init 17 = .ok (.newarray .int, 2) := by decide +kernel
theorem d_Table_init_19 : decode b_Table_init 19 = .ok (.putfield 15, 3) := by decide +kernel
theorem d_Table_init_22 : decode b_Table_init 22 = .ok (.aload_n 0, 1) := by decide +kernel
theorem d_Table_init_23 : decode b_Table_init 23 = .ok (.sipush 16384, 3) := by decide +kernel
theorem d_Table_init_26 : decode b_Table_init 26 = .ok (.newarray .int, 2) := by decide +kernel
theorem d_Table_init_28 : decode b_Table_init 28 = .ok (.putfield 18, 3) := by decide +kernel
theorem d_Table_init_31 : decode b_Table_init 31 = .ok (.aload_n 0, 1) := by decide +kernel
theorem d_Table_init_32 : decode b_Table_init 32 = .ok (.sipush 16384, 3) := by decide +kernel
theorem d_Table_init_35 : decode b_Table_init 35 = .ok (.newarray .int, 2) := by decide +kernel
theorem d_Table_init_37 : decode b_Table_init 37 = .ok (.putfield 21, 3) := by decide +kernel
theorem d_Table_init_40 : decode b_Table_init 40 = .ok (.return_, 1) := by decide +kernel
theorem d_Table_build_0 : decode b_Table_build 0 = .ok (.aload_n 0, 1) := by decide +kernel
theorem d_Table_build_1 : decode b_Table_build 1 = .ok (.iconst 0, 1) := by decide +kernel
theorem d_Table_build_2 : decode b_Table_build 2 = .ok (.putfield 24, 3) := by decide +kernel
theorem d_Table_build_5 : decode b_Table_build 5 = .ok (.aload_n 0, 1) := by decide +kernel
theorem d_Table_build_6 : decode b_Table_build 6 = .ok (.getfield 9, 3) := by decide +kernel
theorem d_Table_build_9 : decode b_Table_build 9 = .ok (.iconst (-1), 1) := by decide +kernel
theorem d_Table_build_10 : decode b_Table_build 10 = .ok (.invokestatic 28, 3) := by decide +kernel
theorem d_Table_build_13 : decode b_Table_build 13 = .ok (.iconst 0, 1) := by decide +kernel
theorem d_Table_build_14 : decode b_Table_build 14 = .ok (.istore_n 3, 1) := by decide +kernel
theorem d_Table_build_15 : decode b_Table_build 15 = .ok (.iload_n 3, 1) := by decide +kernel
theorem d_Table_build_16 : decode b_Table_build 16 = .ok (.aload_n 1, 1) := by decide +kernel
theorem d_Table_build_17 : decode b_Table_build 17 = .ok (.getfield 34, 3) := by decide +kernel
theorem d_Table_build_20 : decode b_Table_build 20 = .ok (.if_icmp .ge 72, 3) := by decide +kernel
theorem d_Table_build_23 : decode b_Table_build 23 = .ok (.iload_n 3, 1) := by decide +kernel
theorem d_Table_build_24 : decode b_Table_build 24 = .ok (.invokestatic 37, 3) := by decide +kernel
theorem d_Table_build_27 : decode b_Table_build 27 = .ok (.ifCond .eq 65, 3) := by decide +kernel
theorem d_Table_build_30 : decode b_Table_build 30 = .ok (.aload_n 0, 1) := by decide +kernel
theorem d_Table_build_31 : decode b_Table_build 31 = .ok (.getfield 9, 3) := by decide +kernel
theorem d_Table_build_34 : decode b_Table_build 34 = .ok (.iload_n 3, 1) := by decide +kernel
theorem d_Table_build_35 : decode b_Table_build 35 = .ok (.iaload, 1) := by decide +kernel
theorem d_Table_build_36 : decode b_Table_build 36 = .ok (.iconst (-1), 1) := by decide +kernel
theorem d_Table_build_37 : decode b_Table_build 37 = .ok (.if_icmp .ne 49, 3) := by decide +kernel
theorem d_Table_build_40 : decode b_Table_build 40 = .ok (.aload_n 0, 1) := by decide +kernel
theorem d_Table_build_41 : decode b_Table_build 41 = .ok (.getfield 24, 3) := by decide +kernel
theorem d_Table_build_44 : decode b_Table_build 44 = .ok (.invokestatic 37, 3) := by decide +kernel
theorem d_Table_build_47 : decode b_Table_build 47 = .ok (.ifCond .eq 39, 3) := by decide +kernel
theorem d_Table_build_50 : decode b_Table_build 50 = .ok (.aload_n 0, 1) := by decide +kernel
theorem d_Table_build_51 : decode b_Table_build 51 = .ok (.getfield 15, 3) := by decide +kernel
theorem d_Table_build_54 : decode b_Table_build 54 = .ok (.aload_n 0, 1) := by decide +kernel
theorem d_Table_build_55 : decode b_Table_build 55 = .ok (.getfield 24, 3) := by decide +kernel
theorem d_Table_build_58 : decode b_Table_build 58 = .ok (.iload_n 3, 1) := by decide +kernel
theorem d_Table_build_59 : decode b_Table_build 59 = .ok (.iastore, 1) := by decide +kernel
theorem d_Table_build_60 : decode b_Table_build 60 = .ok (.aload_n 0, 1) := by decide +kernel
theorem d_Table_build_61 : decode b_Table_build 61 = .ok (.getfield 18, 3) := by decide +kernel
theorem d_Table_build_64 : decode b_Table_build 64 = .ok (.aload_n 0, 1) := by decide +kernel
theorem d_Table_build_65 : decode b_Table_build 65 = .ok (.getfield 24, 3) := by decide +kernel
theorem d_Table_build_68 : decode b_Table_build 68 = .ok (.aload_n 0, 1) := by decide +kernel
theorem d_Table_build_69 : decode b_Table_build 69 = .ok (.iload_n 3, 1) := by decide +kernel
theorem d_Table_build_70 : decode b_Table_build 70 = .ok (.aload_n 1, 1) := by decide +kernel
theorem d_Table_build_71 : decode b_Table_build 71 = .ok (.aload_n 2, 1) := by decide +kernel
theorem d_Table_build_72 : decode b_Table_build 72 = .ok (.invokevirtual 41, 3) := by decide +kernel
theorem d_Table_build_75 : decode b_Table_build 75 = .ok (.iastore, 1) := by decide +kernel
theorem d_Table_build_76 : decode b_Table_build 76 = .ok (.aload_n 0, 1) := by decide +kernel
theorem d_Table_build_77 : decode b_Table_build 77 = .ok (.dup, 1) := by decide +kernel
theorem d_Table_build_78 : decode b_Table_build 78 = .ok (.getfield 24, 3) := by decide +kernel
theorem d_Table_build_81 : decode b_Table_build 81 = .ok (.iconst 1, 1) := by decide +kernel
theorem d_Table_build_82 : decode b_Table_build 82 = .ok (.iadd, 1) := by decide +kernel
theorem d_Table_build_83 : decode b_Table_build 83 = .ok (.putfield 24, 3) := by decide +kernel
theorem d_Table_build_86 : decode b_Table_build 86 = .ok (.iinc 3 1, 3) := by decide +kernel
theorem d_Table_build_89 : decode b_Table_build 89 = .ok (.goto (-74), 3) := by decide +kernel
theorem d_Table_build_92 : decode b_Table_build 92 = .ok (.return_, 1) := by decide +kernel
theorem d_Table_flood_0 : decode b_Table_flood 0 = .ok (.aload_n 0, 1) := by decide +kernel
theorem d_Table_flood_1 : decode b_Table_flood 1 = .ok (.iconst 0, 1) := by decide +kernel
theorem d_Table_flood_2 : decode b_Table_flood 2 = .ok (.putfield 45, 3) := by decide +kernel
theorem d_Table_flood_5 : decode b_Table_flood 5 = .ok (.aload_n 0, 1) := by decide +kernel
theorem d_Table_flood_6 : decode b_Table_flood 6 = .ok (.iload_n 1, 1) := by decide +kernel
theorem d_Table_flood_7 : decode b_Table_flood 7 = .ok (.invokevirtual 48, 3) := by decide +kernel
theorem d_Table_flood_10 : decode b_Table_flood 10 = .ok (.iconst 0, 1) := by decide +kernel
theorem d_Table_flood_11 : decode b_Table_flood 11 = .ok (.istore 4, 2) := by decide +kernel
theorem d_Table_flood_13 : decode b_Table_flood 13 = .ok (.iload 4, 2) := by decide +kernel
theorem d_Table_flood_15 : decode b_Table_flood 15 = .ok (.aload_n 0, 1) := by decide +kernel
theorem d_Table_flood_16 : decode b_Table_flood 16 = .ok (.getfield 45, 3) := by decide +kernel
theorem d_Table_flood_19 : decode b_Table_flood 19 = .ok (.if_icmp .ge 65, 3) := by decide +kernel
theorem d_Table_flood_22 : decode b_Table_flood 22 = .ok (.iload 4, 2) := by decide +kernel
theorem d_Table_flood_24 : decode b_Table_flood 24 = .ok (.sipush 16384, 3) := by decide +kernel
theorem d_Table_flood_27 : decode b_Table_flood 27 = .ok (.if_icmp .ge 57, 3) := by decide +kernel
theorem d_Table_flood_30 : decode b_Table_flood 30 = .ok (.aload_n 2, 1) := by decide +kernel
theorem d_Table_flood_31 : decode b_Table_flood 31 = .ok (.aload_n 0, 1) := by decide +kernel
theorem d_Table_flood_32 : decode b_Table_flood 32 = .ok (.getfield 21, 3) := by decide +kernel
theorem d_Table_flood_35 : decode b_Table_flood 35 = .ok (.iload 4, 2) := by decide +kernel
theorem d_Table_flood_37 : decode b_Table_flood 37 = .ok (.iaload, 1) := by decide +kernel
theorem d_Table_flood_38 : decode b_Table_flood 38 = .ok (.invokevirtual 52, 3) := by decide +kernel
theorem d_Table_flood_41 : decode b_Table_flood 41 = .ok (.istore 5, 2) := by decide +kernel
theorem d_Table_flood_43 : decode b_Table_flood 43 = .ok (.iconst 0, 1) := by decide +kernel
theorem d_Table_flood_44 : decode b_Table_flood 44 = .ok (.istore 6, 2) := by decide +kernel
theorem d_Table_flood_46 : decode b_Table_flood 46 = .ok (.iload 6, 2) := by decide +kernel
theorem d_Table_flood_48 : decode b_Table_flood 48 = .ok (.aload_n 3, 1) := by decide +kernel
theorem d_Table_flood_49 : decode b_Table_flood 49 = .ok (.getfield 56, 3) := by decide +kernel
theorem d_Table_flood_52 : decode b_Table_flood 52 = .ok (.if_icmp .ge 26, 3) := by decide +kernel
theorem d_Table_flood_55 : decode b_Table_flood 55 = .ok (.aload_n 0, 1) := by decide +kernel
theorem d_Table_flood_56 : decode b_Table_flood 56 = .ok (.aload_n 2, 1) := by decide +kernel
theorem d_Table_flood_57 : decode b_Table_flood 57 = .ok (.iload 5, 2) := by decide +kernel
theorem d_Table_flood_59 : decode b_Table_flood 59 = .ok (.aload_n 3, 1) := by decide +kernel
theorem d_Table_flood_60 : decode b_Table_flood 60 = .ok (.getfield 59, 3) := by decide +kernel
theorem d_Table_flood_63 : decode b_Table_flood 63 = .ok (.iload 6, 2) := by decide +kernel
theorem d_Table_flood_65 : decode b_Table_flood 65 = .ok (.iaload, 1) := by decide +kernel
theorem d_Table_flood_66 : decode b_Table_flood 66 = .ok (.invokevirtual 62, 3) := by decide +kernel
theorem d_Table_flood_69 : decode b_Table_flood 69 = .ok (.invokevirtual 48, 3) := by decide +kernel
theorem d_Table_flood_72 : decode b_Table_flood 72 = .ok (.iinc 6 1, 3) := by decide +kernel
theorem d_Table_flood_75 : decode b_Table_flood 75 = .ok (.goto (-29), 3) := by decide +kernel
theorem d_Table_flood_78 : decode b_Table_flood 78 = .ok (.iinc 4 1, 3) := by decide +kernel
theorem d_Table_flood_81 : decode b_Table_flood 81 = .ok (.goto (-68), 3) := by decide +kernel
theorem d_Table_flood_84 : decode b_Table_flood 84 = .ok (.aload_n 0, 1) := by decide +kernel
theorem d_Table_flood_85 : decode b_Table_flood 85 = .ok (.getfield 45, 3) := by decide +kernel
theorem d_Table_flood_88 : decode b_Table_flood 88 = .ok (.ireturn, 1) := by decide +kernel
theorem d_Table_find_0 : decode b_Table_find 0 = .ok (.iload_n 1, 1) := by decide +kernel
theorem d_Table_find_1 : decode b_Table_find 1 = .ok (.invokestatic 37, 3) := by decide +kernel
theorem d_Table_find_4 : decode b_Table_find 4 = .ok (.ifCond .eq 53, 3) := by decide +kernel
theorem d_Table_find_7 : decode b_Table_find 7 = .ok (.aload_n 0, 1) := by decide +kernel
theorem d_Table_find_8 : decode b_Table_find 8 = .ok (.getfield 9, 3) := by decide +kernel
theorem d_Table_find_11 : decode b_Table_find 11 = .ok (.iload_n 1, 1) := by decide +kernel
theorem d_Table_find_12 : decode b_Table_find 12 = .ok (.iaload, 1) := by decide +kernel
theorem d_Table_find_13 : decode b_Table_find 13 = .ok (.iconst (-1), 1) := by decide +kernel
theorem d_Table_find_14 : decode b_Table_find 14 = .ok (.if_icmp .ne 43, 3) := by decide +kernel
theorem d_Table_find_17 : decode b_Table_find 17 = .ok (.aload_n 0, 1) := by decide +kernel
theorem d_Table_find_18 : decode b_Table_find 18 = .ok (.getfield 45, 3) := by decide +kernel
theorem d_Table_find_21 : decode b_Table_find 21 = .ok (.invokestatic 37, 3) := by decide +kernel
theorem d_Table_find_24 : decode b_Table_find 24 = .ok (.ifCond .eq 33, 3) := by decide +kernel
theorem d_Table_find_27 : decode b_Table_find 27 = .ok (.aload_n 0, 1) := by decide +kernel
theorem d_Table_find_28 : decode b_Table_find 28 = .ok (.getfield 9, 3) := by decide +kernel
theorem d_Table_find_31 : decode b_Table_find 31 = .ok (.iload_n 1, 1) := by decide +kernel
theorem d_Table_find_32 : decode b_Table_find 32 = .ok (.aload_n 0, 1) := by decide +kernel
theorem d_Table_find_33 : decode b_Table_find 33 = .ok (.getfield 24, 3) := by decide +kernel
theorem d_Table_find_36 : decode b_Table_find 36 = .ok (.iastore, 1) := by decide +kernel
theorem d_Table_find_37 : decode b_Table_find 37 = .ok (.aload_n 0, 1) := by decide +kernel
theorem d_Table_find_38 : decode b_Table_find 38 = .ok (.getfield 21, 3) := by decide +kernel
theorem d_Table_find_41 : decode b_Table_find 41 = .ok (.aload_n 0, 1) := by decide +kernel
theorem d_Table_find_42 : decode b_Table_find 42 = .ok (.getfield 45, 3) := by decide +kernel
theorem d_Table_find_45 : decode b_Table_find 45 = .ok (.iload_n 1, 1) := by decide +kernel
theorem d_Table_find_46 : decode b_Table_find 46 = .ok (.iastore, 1) := by decide +kernel
theorem d_Table_find_47 : decode b_Table_find 47 = .ok (.aload_n 0, 1) := by decide +kernel
theorem d_Table_find_48 : decode b_Table_find 48 = .ok (.dup, 1) := by decide +kernel
theorem d_Table_find_49 : decode b_Table_find 49 = .ok (.getfield 45, 3) := by decide +kernel
theorem d_Table_find_52 : decode b_Table_find 52 = .ok (.iconst 1, 1) := by decide +kernel
theorem d_Table_find_53 : decode b_Table_find 53 = .ok (.iadd, 1) := by decide +kernel
theorem d_Table_find_54 : decode b_Table_find 54 = .ok (.putfield 45, 3) := by decide +kernel
theorem d_Table_find_57 : decode b_Table_find 57 = .ok (.return_, 1) := by decide +kernel
theorem d_Table_isCell_0 : decode b_Table_isCell 0 = .ok (.iload_n 0, 1) := by decide +kernel
theorem d_Table_isCell_1 : decode b_Table_isCell 1 = .ok (.ifCond .lt 14, 3) := by decide +kernel
theorem d_Table_isCell_4 : decode b_Table_isCell 4 = .ok (.iload_n 0, 1) := by decide +kernel
theorem d_Table_isCell_5 : decode b_Table_isCell 5 = .ok (.sipush 16384, 3) := by decide +kernel
theorem d_Table_isCell_8 : decode b_Table_isCell 8 = .ok (.if_icmp .ge 7, 3) := by decide +kernel
theorem d_Table_isCell_11 : decode b_Table_isCell 11 = .ok (.iconst 1, 1) := by decide +kernel
theorem d_Table_isCell_12 : decode b_Table_isCell 12 = .ok (.goto 4, 3) := by decide +kernel
theorem d_Table_isCell_15 : decode b_Table_isCell 15 = .ok (.iconst 0, 1) := by decide +kernel
theorem d_Table_isCell_16 : decode b_Table_isCell 16 = .ok (.ireturn, 1) := by decide +kernel
theorem d_Table_rankOf_0 : decode b_Table_rankOf 0 = .ok (.iload_n 1, 1) := by decide +kernel
theorem d_Table_rankOf_1 : decode b_Table_rankOf 1 = .ok (.invokestatic 37, 3) := by decide +kernel
theorem d_Table_rankOf_4 : decode b_Table_rankOf 4 = .ok (.ifCond .eq 12, 3) := by decide +kernel
theorem d_Table_rankOf_7 : decode b_Table_rankOf 7 = .ok (.aload_n 0, 1) := by decide +kernel
theorem d_Table_rankOf_8 : decode b_Table_rankOf 8 = .ok (.getfield 9, 3) := by decide +kernel
theorem d_Table_rankOf_11 : decode b_Table_rankOf 11 = .ok (.iload_n 1, 1) := by decide +kernel
theorem d_Table_rankOf_12 : decode b_Table_rankOf 12 = .ok (.iaload, 1) := by decide +kernel
theorem d_Table_rankOf_13 : decode b_Table_rankOf 13 = .ok (.goto 4, 3) := by decide +kernel
theorem d_Table_rankOf_16 : decode b_Table_rankOf 16 = .ok (.iconst (-1), 1) := by decide +kernel
theorem d_Table_rankOf_17 : decode b_Table_rankOf 17 = .ok (.ireturn, 1) := by decide +kernel
theorem d_Table_headAt_0 : decode b_Table_headAt 0 = .ok (.iload_n 1, 1) := by decide +kernel
theorem d_Table_headAt_1 : decode b_Table_headAt 1 = .ok (.ifCond .lt 20, 3) := by decide +kernel
theorem d_Table_headAt_4 : decode b_Table_headAt 4 = .ok (.iload_n 1, 1) := by decide +kernel
theorem d_Table_headAt_5 : decode b_Table_headAt 5 = .ok (.aload_n 0, 1) := by decide +kernel
theorem d_Table_headAt_6 : decode b_Table_headAt 6 = .ok (.getfield 24, 3) := by decide +kernel
theorem d_Table_headAt_9 : decode b_Table_headAt 9 = .ok (.if_icmp .ge 12, 3) := by decide +kernel
theorem d_Table_headAt_12 : decode b_Table_headAt 12 = .ok (.aload_n 0, 1) := by decide +kernel
theorem d_Table_headAt_13 : decode b_Table_headAt 13 = .ok (.getfield 15, 3) := by decide +kernel
theorem d_Table_headAt_16 : decode b_Table_headAt 16 = .ok (.iload_n 1, 1) := by decide +kernel
theorem d_Table_headAt_17 : decode b_Table_headAt 17 = .ok (.iaload, 1) := by decide +kernel
theorem d_Table_headAt_18 : decode b_Table_headAt 18 = .ok (.goto 4, 3) := by decide +kernel
theorem d_Table_headAt_21 : decode b_Table_headAt 21 = .ok (.iconst (-1), 1) := by decide +kernel
theorem d_Table_headAt_22 : decode b_Table_headAt 22 = .ok (.ireturn, 1) := by decide +kernel
theorem d_Table_sizeAt_0 : decode b_Table_sizeAt 0 = .ok (.iload_n 1, 1) := by decide +kernel
theorem d_Table_sizeAt_1 : decode b_Table_sizeAt 1 = .ok (.ifCond .lt 20, 3) := by decide +kernel
theorem d_Table_sizeAt_4 : decode b_Table_sizeAt 4 = .ok (.iload_n 1, 1) := by decide +kernel
theorem d_Table_sizeAt_5 : decode b_Table_sizeAt 5 = .ok (.aload_n 0, 1) := by decide +kernel
theorem d_Table_sizeAt_6 : decode b_Table_sizeAt 6 = .ok (.getfield 24, 3) := by decide +kernel
theorem d_Table_sizeAt_9 : decode b_Table_sizeAt 9 = .ok (.if_icmp .ge 12, 3) := by decide +kernel
theorem d_Table_sizeAt_12 : decode b_Table_sizeAt 12 = .ok (.aload_n 0, 1) := by decide +kernel
theorem d_Table_sizeAt_13 : decode b_Table_sizeAt 13 = .ok (.getfield 18, 3) := by decide +kernel
theorem d_Table_sizeAt_16 : decode b_Table_sizeAt 16 = .ok (.iload_n 1, 1) := by decide +kernel
theorem d_Table_sizeAt_17 : decode b_Table_sizeAt 17 = .ok (.iaload, 1) := by decide +kernel
theorem d_Table_sizeAt_18 : decode b_Table_sizeAt 18 = .ok (.goto 4, 3) := by decide +kernel
theorem d_Table_sizeAt_21 : decode b_Table_sizeAt 21 = .ok (.iconst (-1), 1) := by decide +kernel
theorem d_Table_sizeAt_22 : decode b_Table_sizeAt 22 = .ok (.ireturn, 1) := by decide +kernel
theorem d_Table_countOfSize_0 : decode b_Table_countOfSize 0 = .ok (.iconst 0, 1) := by decide +kernel
theorem d_Table_countOfSize_1 : decode b_Table_countOfSize 1 = .ok (.istore_n 2, 1) := by decide +kernel
theorem d_Table_countOfSize_2 : decode b_Table_countOfSize 2 = .ok (.iconst 0, 1) := by decide +kernel
theorem d_Table_countOfSize_3 : decode b_Table_countOfSize 3 = .ok (.istore_n 3, 1) := by decide +kernel
theorem d_Table_countOfSize_4 : decode b_Table_countOfSize 4 = .ok (.iload_n 3, 1) := by decide +kernel
theorem d_Table_countOfSize_5 : decode b_Table_countOfSize 5 = .ok (.aload_n 0, 1) := by decide +kernel
theorem d_Table_countOfSize_6 : decode b_Table_countOfSize 6 = .ok (.getfield 24, 3) := by decide +kernel
theorem d_Table_countOfSize_9 : decode b_Table_countOfSize 9 = .ok (.if_icmp .ge 22, 3) := by decide +kernel
theorem d_Table_countOfSize_12 : decode b_Table_countOfSize 12 = .ok (.aload_n 0, 1) := by decide +kernel
theorem d_Table_countOfSize_13 : decode b_Table_countOfSize 13 = .ok (.getfield 18, 3) := by decide +kernel
theorem d_Table_countOfSize_16 : decode b_Table_countOfSize 16 = .ok (.iload_n 3, 1) := by decide +kernel
theorem d_Table_countOfSize_17 : decode b_Table_countOfSize 17 = .ok (.iaload, 1) := by decide +kernel
theorem d_Table_countOfSize_18 : decode b_Table_countOfSize 18 = .ok (.iload_n 1, 1) := by decide +kernel
theorem d_Table_countOfSize_19 : decode b_Table_countOfSize 19 = .ok (.if_icmp .ne 6, 3) := by decide +kernel
theorem d_Table_countOfSize_22 : decode b_Table_countOfSize 22 = .ok (.iinc 2 1, 3) := by decide +kernel
theorem d_Table_countOfSize_25 : decode b_Table_countOfSize 25 = .ok (.iinc 3 1, 3) := by decide +kernel
theorem d_Table_countOfSize_28 : decode b_Table_countOfSize 28 = .ok (.goto (-24), 3) := by decide +kernel
theorem d_Table_countOfSize_31 : decode b_Table_countOfSize 31 = .ok (.iload_n 2, 1) := by decide +kernel
theorem d_Table_countOfSize_32 : decode b_Table_countOfSize 32 = .ok (.ireturn, 1) := by decide +kernel

-- SwapOrbits$OrbitTable.isCell(I)Z
abbrev rm_Table_isCell : Room := { frames := 0, cells := 0, slots := 0, locals := 0 }
def wp_Table_isCell (post : Int32 → Prop) (a1 : Int32) : Prop := (a1 < 0 → post (0 : Int32)) ∧ (¬ a1 < 0 → ((16384 : Int32) ≤ a1 → post (0 : Int32)) ∧ (¬ (16384 : Int32) ≤ a1 → post (1 : Int32)))
set_option maxHeartbeats 4000000 in
set_option maxRecDepth 100000 in
theorem met_Table_isCell (l : Launch) (dC : Nat → ClassId) (dI : Nat → Nat → Nat) (cI cZ : ClassId) (a1 : Int32) (post : Int32 → Prop) (hw : wp_Table_isCell post a1) : Met l y_Table_isCell (Cond.code y_Table_isCell b_Table_isCell 1 (some .boolean) :: gw) rm_Table_isCell (va_Pc [.int a1] (fun U => EV (dC, dI) cI cZ U ∧ va_P (dC, dI) classes [] U.heap)) (vp_Si post) 0 0 (fun _ => False) := by
  refine Met.ofW (cc := b_Table_isCell) (maxL := 1) (ret := (some .boolean)) (by decide) rfl ?_
  intro p e s m args below meth c s₁ B hml hv
  obtain ⟨rfl, hE, hP⟩ := hv
  have C := CX.of (own := R_Table) (D := (dC, dI)) (cI := cI) (cZ := cZ) B hml rfl hE
  obtain ⟨hx, hb, hr, -, hown, hts, hlocks, -⟩ := id C
  have hl := lv_entry ([.int a1]) (n := 1) (Nat.le_of_ble_eq_true rfl)
  rw [lg_entry_eq]
  generalize (lg_sl ([.int a1]) ++ List.replicate (1 - (lg_sl ([.int a1])).length) Slot.unset).toArray = ls at hl ⊢
  have hl : lv_has ls 1 [(0, .int a1)] := hl
  unfold wp_Table_isCell at hw
  refine lv_iload_n hx hb d_Table_isCell_0 rfl (lv_at hl 0 rfl) ?_
  refine lv_if_lt (tgt := 15) hx hb d_Table_isCell_1 (by decide) (fun c1 => ?_) (fun c1 => ?_)
  · have hw := hw.1 c1
    refine lv_iconst (v := (0 : Int32)) hx hb d_Table_isCell_15 (by decide) ?_
    exact W.zret (v := (0 : Int32)) hx hb hr rfl (fun t ht hW => ⟨(0 : Int32), rfl, hw, by rw [ht]⟩) (fun _ h => by cases h) d_Table_isCell_16
  · have hw := hw.2 c1
    refine lv_iload_n hx hb d_Table_isCell_4 rfl (lv_at hl 0 rfl) ?_
    refine lv_sipush (v := (16384 : Int32)) hx hb d_Table_isCell_5 (by decide) ?_
    refine lv_icmp_ge (tgt := 15) hx hb d_Table_isCell_8 (by decide) (fun c8 => ?_) (fun c8 => ?_)
    · have hw := hw.1 c8
      refine lv_iconst (v := (0 : Int32)) hx hb d_Table_isCell_15 (by decide) ?_
      exact W.zret (v := (0 : Int32)) hx hb hr rfl (fun t ht hW => ⟨(0 : Int32), rfl, hw, by rw [ht]⟩) (fun _ h => by cases h) d_Table_isCell_16
    · have hw := hw.2 c8
      refine lv_iconst (v := (1 : Int32)) hx hb d_Table_isCell_11 (by decide) ?_
      refine lv_goto (tgt := 16) hx hb d_Table_isCell_12 (by decide) ?_
      exact W.zret (v := (1 : Int32)) hx hb hr rfl (fun t ht hW => ⟨(1 : Int32), rfl, hw, by rw [ht]⟩) (fun _ h => by cases h) d_Table_isCell_16

-- SwapOrbits$OrbitTable.find(I)V
abbrev rm_Table_find : Room := { frames := 1, cells := 0, slots := 0, locals := 20 }
abbrev QM_Table_find (dC : Nat → ClassId) (dI : Nat → Nat → Nat) (cI cZ : ClassId) (h_t h_t_ranks h_t_heads h_t_sizes h_t_found : Nat) (t_count : Int32) (t_heads : Nat → Int32) (t_sizes : Nat → Int32) (post : Int32 → (Nat → Int32) → (Nat → Int32) → Prop) (A : Nat → Prop) : Array Value → State → Outcome → State → Prop := va_Qv (fun u : Int32 × (Nat → Int32) × (Nat → Int32) => post u.1 u.2.1 u.2.2) (fun u t => va_P (dC, dI) classes [(h_t, .inr (5, [.ref h_t_ranks, .ref h_t_heads, .ref h_t_sizes, .ref h_t_found, .int u.1, .int t_count])), (h_t_ranks, .inl (cI, 16384, .inl u.2.1)), (h_t_heads, .inl (cI, 16384, .inl t_heads)), (h_t_sizes, .inl (cI, 16384, .inl t_sizes)), (h_t_found, .inl (cI, 16384, .inl u.2.2))] t.heap ∧ va_D A [(h_t, .inr (5, [.ref h_t_ranks, .ref h_t_heads, .ref h_t_sizes, .ref h_t_found, .int u.1, .int t_count])), (h_t_ranks, .inl (cI, 16384, .inl u.2.1)), (h_t_heads, .inl (cI, 16384, .inl t_heads)), (h_t_sizes, .inl (cI, 16384, .inl t_sizes)), (h_t_found, .inl (cI, 16384, .inl u.2.2))]) A
def wp_Table_find (post : Int32 → (Nat → Int32) → (Nat → Int32) → Prop) (t_foundCount : Int32) (t_count : Int32) (t_ranks : Nat → Int32) (t_found : Nat → Int32) (a1 : Int32) : Prop := wp_Table_isCell (fun r1 => (r1 = 0 → post t_foundCount t_ranks t_found) ∧ (¬ r1 = 0 → vp_in a1 16384 ∧ (((t_ranks a1.toNatClampNeg) = (-1 : Int32) → wp_Table_isCell (fun r21 => (r21 = 0 → post t_foundCount t_ranks t_found) ∧ (¬ r21 = 0 → vp_in a1 16384 ∧ (vp_in t_foundCount 16384 ∧ (∀ f54 : Int32, f54 = t_foundCount + (1 : Int32) → (post f54 (upd t_ranks a1.toNatClampNeg t_count) (upd t_found t_foundCount.toNatClampNeg a1)))))) t_foundCount) ∧ (¬ (t_ranks a1.toNatClampNeg) = (-1 : Int32) → post t_foundCount t_ranks t_found)))) a1
set_option maxHeartbeats 4000000 in
set_option maxRecDepth 100000 in
theorem met_Table_find (l : Launch) (dC : Nat → ClassId) (dI : Nat → Nat → Nat) (cI cZ : ClassId) (h_t h_t_ranks h_t_heads h_t_sizes h_t_found : Nat) (sz : Nat) (t_foundCount : Int32) (t_count : Int32) (t_ranks : Nat → Int32) (t_heads : Nat → Int32) (t_sizes : Nat → Int32) (t_found : Nat → Int32) (a1 : Int32) (post : Int32 → (Nat → Int32) → (Nat → Int32) → Prop) (hw : wp_Table_find post t_foundCount t_count t_ranks t_found a1) : Met l y_Table_find (Cond.code y_Table_find b_Table_find 2 none :: gw) rm_Table_find (va_Pc [.ref h_t, .int a1] (fun U => U.heap.size = sz ∧ EV (dC, dI) cI cZ U ∧ va_P (dC, dI) classes [(h_t, .inr (5, [.ref h_t_ranks, .ref h_t_heads, .ref h_t_sizes, .ref h_t_found, .int t_foundCount, .int t_count])), (h_t_ranks, .inl (cI, 16384, .inl t_ranks)), (h_t_heads, .inl (cI, 16384, .inl t_heads)), (h_t_sizes, .inl (cI, 16384, .inl t_sizes)), (h_t_found, .inl (cI, 16384, .inl t_found))] U.heap ∧ va_D (fun _ => True) [(h_t, .inr (5, [.ref h_t_ranks, .ref h_t_heads, .ref h_t_sizes, .ref h_t_found, .int t_foundCount, .int t_count])), (h_t_ranks, .inl (cI, 16384, .inl t_ranks)), (h_t_heads, .inl (cI, 16384, .inl t_heads)), (h_t_sizes, .inl (cI, 16384, .inl t_sizes)), (h_t_found, .inl (cI, 16384, .inl t_found))])) (QM_Table_find dC dI cI cZ h_t h_t_ranks h_t_heads h_t_sizes h_t_found t_count t_heads t_sizes post (va_A [(h_t, .inr (5, [.ref h_t_ranks, .ref h_t_heads, .ref h_t_sizes, .ref h_t_found, .int t_foundCount, .int t_count])), (h_t_ranks, .inl (cI, 16384, .inl t_ranks)), (h_t_heads, .inl (cI, 16384, .inl t_heads)), (h_t_sizes, .inl (cI, 16384, .inl t_sizes)), (h_t_found, .inl (cI, 16384, .inl t_found))] sz)) 0 0 (va_A [(h_t, .inr (5, [.ref h_t_ranks, .ref h_t_heads, .ref h_t_sizes, .ref h_t_found, .int t_foundCount, .int t_count])), (h_t_ranks, .inl (cI, 16384, .inl t_ranks)), (h_t_heads, .inl (cI, 16384, .inl t_heads)), (h_t_sizes, .inl (cI, 16384, .inl t_sizes)), (h_t_found, .inl (cI, 16384, .inl t_found))] sz) := by
  refine Met.ofW (cc := b_Table_find) (maxL := 2) (ret := none) (by decide) rfl ?_
  intro p e s m args below meth c s₁ B hml hv
  obtain ⟨rfl, hsz, hE, hP, hD0⟩ := hv
  have C := CX.of (own := R_Table) (D := (dC, dI)) (cI := cI) (cZ := cZ) B hml rfl hE
  obtain ⟨hx, hb, hr, -, hown, hts, hlocks, -⟩ := id C
  subst hsz
  have hD := hD0.self (sz := s.heap.size)
  generalize hAe : va_A [(h_t, .inr (5, [.ref h_t_ranks, .ref h_t_heads, .ref h_t_sizes, .ref h_t_found, .int t_foundCount, .int t_count])), (h_t_ranks, .inl (cI, 16384, .inl t_ranks)), (h_t_heads, .inl (cI, 16384, .inl t_heads)), (h_t_sizes, .inl (cI, 16384, .inl t_sizes)), (h_t_found, .inl (cI, 16384, .inl t_found))] s.heap.size = A at hD ⊢
  have hA : ∀ q : Nat, s.heap.size ≤ q → A q := fun q h => by rw [← hAe]; exact Or.inr h
  have hS : va_S A s.heap s.heap [] := va_S.rf
  have hP : va_P (dC, dI) classes [(h_t, .inr (5, [.ref h_t_ranks, .ref h_t_heads, .ref h_t_sizes, .ref h_t_found, .int t_foundCount, .int t_count])), (h_t_ranks, .inl (cI, 16384, .inl t_ranks)), (h_t_heads, .inl (cI, 16384, .inl t_heads)), (h_t_sizes, .inl (cI, 16384, .inl t_sizes)), (h_t_found, .inl (cI, 16384, .inl t_found))] s.heap := hP
  have hl := lv_entry ([.ref h_t, .int a1]) (n := 2) (Nat.le_of_ble_eq_true rfl)
  rw [lg_entry_eq]
  generalize (lg_sl ([.ref h_t, .int a1]) ++ List.replicate (2 - (lg_sl ([.ref h_t, .int a1])).length) Slot.unset).toArray = ls at hl ⊢
  have hl : lv_has ls 2 [(0, .ref h_t), (1, .int a1)] := hl
  refine keyL (P := fun H locs => va_P (dC, dI) classes [(h_t, .inr (5, [.ref h_t_ranks, .ref h_t_heads, .ref h_t_sizes, .ref h_t_found, .int t_foundCount, .int t_count])), (h_t_ranks, .inl (cI, 16384, .inl t_ranks)), (h_t_heads, .inl (cI, 16384, .inl t_heads)), (h_t_sizes, .inl (cI, 16384, .inl t_sizes)), (h_t_found, .inl (cI, 16384, .inl t_found))] H ∧ va_D A [(h_t, .inr (5, [.ref h_t_ranks, .ref h_t_heads, .ref h_t_sizes, .ref h_t_found, .int t_foundCount, .int t_count])), (h_t_ranks, .inl (cI, 16384, .inl t_ranks)), (h_t_heads, .inl (cI, 16384, .inl t_heads)), (h_t_sizes, .inl (cI, 16384, .inl t_sizes)), (h_t_found, .inl (cI, 16384, .inl t_found))] ∧ va_S A s.heap H locs) ⟨hP, hD, hS⟩ (fun H locs hPP => ?_)
  clear hP hD hS
  obtain ⟨hP, hD, hS⟩ := hPP
  unfold wp_Table_find at hw
  refine lv_iload_n hx hb d_Table_find_0 rfl (lv_at hl 1 rfl) ?_
  have hPc := hP.sub (ws' := []) [] rfl
  refine vp_callSi (va_Run.run (va_runS (As := [.int a1]) (rest := []) ⟨hx, hb, hml, hown, hts⟩ (met_Table_isCell l dC dI cI cZ  a1 _ hw) ⟨cB 1 hts kc_Table_isCell ki_Table kl_Table_37 hd_Table_isCell ⟨Nat.le_of_ble_eq_true rfl, Nat.le_of_ble_eq_true rfl⟩, hts _ ks_Table_isCell⟩ (preS_ro hE hPc) rfl rfl hl.1 rfl (lv_room (Nat.le_of_ble_eq_true rfl)) d_Table_find_1 ⟨Nat.le_of_ble_eq_true rfl, Nat.le_of_ble_eq_true rfl⟩)) (fun r1 hw => ?_)
  refine lv_if_eq (tgt := 57) hx hb d_Table_find_4 (by decide) (fun c4 => ?_) (fun c4 => ?_)
  · have hw := hw.1 c4
    exact W.vret hx hb hr (fun t ht hW => ⟨⟨(t_foundCount, t_ranks, t_found), rfl, hw, by rw [ht]; exact hP, hD⟩, hS.F ht⟩) hS.2.2 d_Table_find_57
  · have hw := hw.2 c4
    refine lv_aload_n hx hb d_Table_find_7 rfl (lv_at hl 0 rfl) ?_
    refine va_get (D := (dC, dI)) (ci := 5) (v := .ref h_t_ranks) (C := R_Table) (T := F_Table) (N := 6) hx hb hts i_Table hown hE.1 hP 0 rfl rfl 0 (by decide) (hts _ kf_Table_9) (fun _ h9 => h9) rfl d_Table_find_8 ?_
    refine lv_iload_n hx hb d_Table_find_11 rfl (lv_at hl 1 rfl) ?_
    have hz := hw.1
    have hw := hw.2
    refine va_iald hx hb hE.1 hP 1 0 rfl rfl hz d_Table_find_12 ?_
    refine lv_iconst (v := (-1 : Int32)) hx hb d_Table_find_13 (by decide) ?_
    refine lv_icmp_ne (tgt := 57) hx hb d_Table_find_14 (by decide) (fun c14 => ?_) (fun c14 => ?_)
    · have hw := hw.2 c14
      exact W.vret hx hb hr (fun t ht hW => ⟨⟨(t_foundCount, t_ranks, t_found), rfl, hw, by rw [ht]; exact hP, hD⟩, hS.F ht⟩) hS.2.2 d_Table_find_57
    · have hw := hw.1 c14
      refine lv_aload_n hx hb d_Table_find_17 rfl (lv_at hl 0 rfl) ?_
      refine va_get (D := (dC, dI)) (ci := 5) (v := .int t_foundCount) (C := R_Table) (T := F_Table) (N := 6) hx hb hts i_Table hown hE.1 hP 0 rfl rfl 4 (by decide) (hts _ kf_Table_45) (fun _ h9 => h9) rfl d_Table_find_18 ?_
      have hPc := hP.sub (ws' := []) [] rfl
      refine vp_callSi (va_Run.run (va_runS (As := [.int t_foundCount]) (rest := []) ⟨hx, hb, hml, hown, hts⟩ (met_Table_isCell l dC dI cI cZ  t_foundCount _ hw) ⟨cB 1 hts kc_Table_isCell ki_Table kl_Table_37 hd_Table_isCell ⟨Nat.le_of_ble_eq_true rfl, Nat.le_of_ble_eq_true rfl⟩, hts _ ks_Table_isCell⟩ (preS_ro hE hPc) rfl rfl hl.1 rfl (lv_room (Nat.le_of_ble_eq_true rfl)) d_Table_find_21 ⟨Nat.le_of_ble_eq_true rfl, Nat.le_of_ble_eq_true rfl⟩)) (fun r21 hw => ?_)
      refine lv_if_eq (tgt := 57) hx hb d_Table_find_24 (by decide) (fun c24 => ?_) (fun c24 => ?_)
      · have hw := hw.1 c24
        exact W.vret hx hb hr (fun t ht hW => ⟨⟨(t_foundCount, t_ranks, t_found), rfl, hw, by rw [ht]; exact hP, hD⟩, hS.F ht⟩) hS.2.2 d_Table_find_57
      · have hw := hw.2 c24
        refine lv_aload_n hx hb d_Table_find_27 rfl (lv_at hl 0 rfl) ?_
        refine va_get (D := (dC, dI)) (ci := 5) (v := .ref h_t_ranks) (C := R_Table) (T := F_Table) (N := 6) hx hb hts i_Table hown hE.1 hP 0 rfl rfl 0 (by decide) (hts _ kf_Table_9) (fun _ h9 => h9) rfl d_Table_find_28 ?_
        refine lv_iload_n hx hb d_Table_find_31 rfl (lv_at hl 1 rfl) ?_
        refine lv_aload_n hx hb d_Table_find_32 rfl (lv_at hl 0 rfl) ?_
        refine va_get (D := (dC, dI)) (ci := 5) (v := .int t_count) (C := R_Table) (T := F_Table) (N := 6) hx hb hts i_Table hown hE.1 hP 0 rfl rfl 5 (by decide) (hts _ kf_Table_24) (fun _ h9 => h9) rfl d_Table_find_33 ?_
        have hz := hw.1
        have hw := hw.2
        refine va_iast hx hb hE.1 hP hD hS 1 0 rfl rfl hz d_Table_find_36 (fun H locs hP hD hS => ?_)
        have hP : va_P (dC, dI) classes [(h_t, .inr (5, [.ref h_t_ranks, .ref h_t_heads, .ref h_t_sizes, .ref h_t_found, .int t_foundCount, .int t_count])), (h_t_ranks, .inl (cI, 16384, .inl (upd t_ranks a1.toNatClampNeg t_count))), (h_t_heads, .inl (cI, 16384, .inl t_heads)), (h_t_sizes, .inl (cI, 16384, .inl t_sizes)), (h_t_found, .inl (cI, 16384, .inl t_found))] H := hP
        have hD : va_D A [(h_t, .inr (5, [.ref h_t_ranks, .ref h_t_heads, .ref h_t_sizes, .ref h_t_found, .int t_foundCount, .int t_count])), (h_t_ranks, .inl (cI, 16384, .inl (upd t_ranks a1.toNatClampNeg t_count))), (h_t_heads, .inl (cI, 16384, .inl t_heads)), (h_t_sizes, .inl (cI, 16384, .inl t_sizes)), (h_t_found, .inl (cI, 16384, .inl t_found))] := hD
        refine lv_aload_n hx hb d_Table_find_37 rfl (lv_at hl 0 rfl) ?_
        refine va_get (D := (dC, dI)) (ci := 5) (v := .ref h_t_found) (C := R_Table) (T := F_Table) (N := 6) hx hb hts i_Table hown hE.1 hP 0 rfl rfl 3 (by decide) (hts _ kf_Table_21) (fun _ h9 => h9) rfl d_Table_find_38 ?_
        refine lv_aload_n hx hb d_Table_find_41 rfl (lv_at hl 0 rfl) ?_
        refine va_get (D := (dC, dI)) (ci := 5) (v := .int t_foundCount) (C := R_Table) (T := F_Table) (N := 6) hx hb hts i_Table hown hE.1 hP 0 rfl rfl 4 (by decide) (hts _ kf_Table_45) (fun _ h9 => h9) rfl d_Table_find_42 ?_
        refine lv_iload_n hx hb d_Table_find_45 rfl (lv_at hl 1 rfl) ?_
        have hz := hw.1
        have hw := hw.2
        refine va_iast hx hb hE.1 hP hD hS 4 0 rfl rfl hz d_Table_find_46 (fun H locs hP hD hS => ?_)
        have hP : va_P (dC, dI) classes [(h_t, .inr (5, [.ref h_t_ranks, .ref h_t_heads, .ref h_t_sizes, .ref h_t_found, .int t_foundCount, .int t_count])), (h_t_ranks, .inl (cI, 16384, .inl (upd t_ranks a1.toNatClampNeg t_count))), (h_t_heads, .inl (cI, 16384, .inl t_heads)), (h_t_sizes, .inl (cI, 16384, .inl t_sizes)), (h_t_found, .inl (cI, 16384, .inl (upd t_found t_foundCount.toNatClampNeg a1)))] H := hP
        have hD : va_D A [(h_t, .inr (5, [.ref h_t_ranks, .ref h_t_heads, .ref h_t_sizes, .ref h_t_found, .int t_foundCount, .int t_count])), (h_t_ranks, .inl (cI, 16384, .inl (upd t_ranks a1.toNatClampNeg t_count))), (h_t_heads, .inl (cI, 16384, .inl t_heads)), (h_t_sizes, .inl (cI, 16384, .inl t_sizes)), (h_t_found, .inl (cI, 16384, .inl (upd t_found t_foundCount.toNatClampNeg a1)))] := hD
        refine lv_aload_n hx hb d_Table_find_47 rfl (lv_at hl 0 rfl) ?_
        refine lv_dup hx hb d_Table_find_48 rfl ?_
        refine va_get (D := (dC, dI)) (ci := 5) (v := .int t_foundCount) (C := R_Table) (T := F_Table) (N := 6) hx hb hts i_Table hown hE.1 hP 0 rfl rfl 4 (by decide) (hts _ kf_Table_45) (fun _ h9 => h9) rfl d_Table_find_49 ?_
        refine lv_iconst (v := (1 : Int32)) hx hb d_Table_find_52 (by decide) ?_
        refine lv_iadd hx hb d_Table_find_53 ?_
        refine lv_topi (fun f54 ef54 => ?_)
        have hw := hw f54 ef54
        refine va_put (D := (dC, dI)) (ci := 5) (v := .int f54) (ty := .int) (C := R_Table) (T := F_Table) (N := 6) hx hb hts i_Table t_Table t_Table_ok n_Table hown hE.1 hP hD hS 0 rfl rfl 4 (by decide) (hts _ kf_Table_45) (fun _ h9 => h9) rfl (by decide +kernel) rfl rfl (Nat.le_of_ble_eq_true rfl) d_Table_find_54 (fun H locs hP hD hS => ?_)
        have hP : va_P (dC, dI) classes [(h_t, .inr (5, [.ref h_t_ranks, .ref h_t_heads, .ref h_t_sizes, .ref h_t_found, .int f54, .int t_count])), (h_t_ranks, .inl (cI, 16384, .inl (upd t_ranks a1.toNatClampNeg t_count))), (h_t_heads, .inl (cI, 16384, .inl t_heads)), (h_t_sizes, .inl (cI, 16384, .inl t_sizes)), (h_t_found, .inl (cI, 16384, .inl (upd t_found t_foundCount.toNatClampNeg a1)))] H := hP
        have hD : va_D A [(h_t, .inr (5, [.ref h_t_ranks, .ref h_t_heads, .ref h_t_sizes, .ref h_t_found, .int f54, .int t_count])), (h_t_ranks, .inl (cI, 16384, .inl (upd t_ranks a1.toNatClampNeg t_count))), (h_t_heads, .inl (cI, 16384, .inl t_heads)), (h_t_sizes, .inl (cI, 16384, .inl t_sizes)), (h_t_found, .inl (cI, 16384, .inl (upd t_found t_foundCount.toNatClampNeg a1)))] := hD
        exact W.vret hx hb hr (fun t ht hW => ⟨⟨(f54, upd t_ranks a1.toNatClampNeg t_count, upd t_found t_foundCount.toNatClampNeg a1), rfl, hw, by rw [ht]; exact hP, hD⟩, hS.F ht⟩) hS.2.2 d_Table_find_57

-- SwapOrbits$OrbitTable.flood(ILSwapOrbits$Plans;LSwapOrbits$Moves;)I
abbrev rm_Table_flood : Room := { frames := 2, cells := 0, slots := 0, locals := 45 }
abbrev QM_Table_flood (dC : Nat → ClassId) (dI : Nat → Nat → Nat) (cI cZ : ClassId) (h_t h_t_ranks h_t_heads h_t_sizes h_t_found h_a2 h_a2_units h_a3 h_a3_rows : Nat) (t_count : Int32) (t_heads : Nat → Int32) (t_sizes : Nat → Int32) (a2_points : Int32) (a2_colours : Int32) (a2_count : Int32) (a2_units : Nat → Int32) (a3_count : Int32) (a3_rows : Nat → Int32) (post : Int32 → Int32 → (Nat → Int32) → (Nat → Int32) → Prop) (A : Nat → Prop) : Array Value → State → Outcome → State → Prop := va_Qi (fun r (u : Int32 × (Nat → Int32) × (Nat → Int32)) => post r u.1 u.2.1 u.2.2) (fun u t => va_P (dC, dI) classes [(h_t, .inr (5, [.ref h_t_ranks, .ref h_t_heads, .ref h_t_sizes, .ref h_t_found, .int u.1, .int t_count])), (h_t_ranks, .inl (cI, 16384, .inl u.2.1)), (h_t_heads, .inl (cI, 16384, .inl t_heads)), (h_t_sizes, .inl (cI, 16384, .inl t_sizes)), (h_t_found, .inl (cI, 16384, .inl u.2.2)), (h_a2, .inr (4, [.ref h_a2_units, .int a2_points, .int a2_colours, .int a2_count])), (h_a2_units, .inl (cI, 8, .inl a2_units)), (h_a3, .inr (1, [.ref h_a3_rows, .int a3_count])), (h_a3_rows, .inl (cI, 5, .inl a3_rows))] t.heap ∧ va_D A [(h_t, .inr (5, [.ref h_t_ranks, .ref h_t_heads, .ref h_t_sizes, .ref h_t_found, .int u.1, .int t_count])), (h_t_ranks, .inl (cI, 16384, .inl u.2.1)), (h_t_heads, .inl (cI, 16384, .inl t_heads)), (h_t_sizes, .inl (cI, 16384, .inl t_sizes)), (h_t_found, .inl (cI, 16384, .inl u.2.2)), (h_a2, .inr (4, [.ref h_a2_units, .int a2_points, .int a2_colours, .int a2_count])), (h_a2_units, .inl (cI, 8, .inl a2_units)), (h_a3, .inr (1, [.ref h_a3_rows, .int a3_count])), (h_a3_rows, .inl (cI, 5, .inl a3_rows))]) A
def L_Table_flood_46b (K13 : Int32 → (Nat → Int32) → (Nat → Int32) → Int32 → Prop) (t_count : Int32) (a2_points : Int32) (a2_units : Nat → Int32) (a3_count : Int32) (a3_rows : Nat → Int32) (v4 : Int32) (v5 : Int32) (K46 : Int32 → (Nat → Int32) → (Nat → Int32) → Int32 → Prop) (t_foundCount : Int32) (t_ranks : Nat → Int32) (t_found : Nat → Int32) (v6 : Int32) : Prop := (a3_count ≤ v6 → ∀ x4_78 : Int32, x4_78 = v4 + 1 → (K13 t_foundCount t_ranks t_found x4_78)) ∧ (¬ a3_count ≤ v6 → vp_in v6 5 ∧ (wp_Plans_moved (fun r66 => wp_Table_find (fun t_foundCount_69 t_ranks_69 t_found_69 => ∀ x6_72 : Int32, x6_72 = v6 + 1 → (K46 t_foundCount_69 t_ranks_69 t_found_69 x6_72)) t_foundCount t_count t_ranks t_found r66) a2_points a2_units v5 (a3_rows v6.toNatClampNeg)))
def L_Table_flood_46 (K13 : Int32 → (Nat → Int32) → (Nat → Int32) → Int32 → Prop) (t_count : Int32) (a2_points : Int32) (a2_units : Nat → Int32) (a3_count : Int32) (a3_rows : Nat → Int32) (v4 : Int32) (v5 : Int32) : Nat → Int32 → (Nat → Int32) → (Nat → Int32) → Int32 → Prop
  | 0, _, _, _, _ => False
  | n + 1, t_foundCount, t_ranks, t_found, v6 => L_Table_flood_46b K13 t_count a2_points a2_units a3_count a3_rows v4 v5 (L_Table_flood_46 K13 t_count a2_points a2_units a3_count a3_rows v4 v5 n) t_foundCount t_ranks t_found v6
def L_Table_flood_13b (post : Int32 → Int32 → (Nat → Int32) → (Nat → Int32) → Prop) (t_count : Int32) (a2_points : Int32) (a2_colours : Int32) (a2_units : Nat → Int32) (a3_count : Int32) (a3_rows : Nat → Int32) (K13 : Int32 → (Nat → Int32) → (Nat → Int32) → Int32 → Prop) (t_foundCount : Int32) (t_ranks : Nat → Int32) (t_found : Nat → Int32) (v4 : Int32) : Prop := (t_foundCount ≤ v4 → post t_foundCount t_foundCount t_ranks t_found) ∧ (¬ t_foundCount ≤ v4 → ((16384 : Int32) ≤ v4 → post t_foundCount t_foundCount t_ranks t_found) ∧ (¬ (16384 : Int32) ≤ v4 → vp_in v4 16384 ∧ (wp_Plans_spread (fun r38 => ∃ n, L_Table_flood_46 K13 t_count a2_points a2_units a3_count a3_rows v4 r38 n t_foundCount t_ranks t_found (0 : Int32)) a2_points a2_colours (t_found v4.toNatClampNeg))))
def L_Table_flood_13 (post : Int32 → Int32 → (Nat → Int32) → (Nat → Int32) → Prop) (t_count : Int32) (a2_points : Int32) (a2_colours : Int32) (a2_units : Nat → Int32) (a3_count : Int32) (a3_rows : Nat → Int32) : Nat → Int32 → (Nat → Int32) → (Nat → Int32) → Int32 → Prop
  | 0, _, _, _, _ => False
  | n + 1, t_foundCount, t_ranks, t_found, v4 => L_Table_flood_13b post t_count a2_points a2_colours a2_units a3_count a3_rows (L_Table_flood_13 post t_count a2_points a2_colours a2_units a3_count a3_rows n) t_foundCount t_ranks t_found v4
def wp_Table_flood (post : Int32 → Int32 → (Nat → Int32) → (Nat → Int32) → Prop) (t_count : Int32) (t_ranks : Nat → Int32) (t_found : Nat → Int32) (a2_points : Int32) (a2_colours : Int32) (a2_units : Nat → Int32) (a3_count : Int32) (a3_rows : Nat → Int32) (a1 : Int32) : Prop := wp_Table_find (fun t_foundCount_7 t_ranks_7 t_found_7 => ∃ n, L_Table_flood_13 post t_count a2_points a2_colours a2_units a3_count a3_rows n t_foundCount_7 t_ranks_7 t_found_7 (0 : Int32)) (0 : Int32) t_count t_ranks t_found a1
set_option maxHeartbeats 4000000 in
set_option maxRecDepth 100000 in
theorem qL_Table_flood_46 {p : Program} {l : Launch} {e : Env} {s : State} {m : MethodId} {args : Array Value} {below : List Frame} {meth : Method} {c : Code} {dC : Nat → ClassId} {dI : Nat → Nat → Nat} {cI cZ : ClassId} (C : CX p s m args meth c R_Table b_Table_flood 7 (some .int) (dC, dI) cI cZ) {h_t h_t_ranks h_t_heads h_t_sizes h_t_found h_a2 h_a2_units h_a3 h_a3_rows : Nat} {A : Nat → Prop} (hA : ∀ q : Nat, s.heap.size ≤ q → A q) (post : Int32 → Int32 → (Nat → Int32) → (Nat → Int32) → Prop) (K13 : Int32 → (Nat → Int32) → (Nat → Int32) → Int32 → Prop) (t_count : Int32) (t_heads : Nat → Int32) (t_sizes : Nat → Int32) (a2_points : Int32) (a2_colours : Int32) (a2_count : Int32) (a2_units : Nat → Int32) (a3_count : Int32) (a3_rows : Nat → Int32) (v4 : Int32) (v5 : Int32) (hK13 : ∀ (t_foundCount : Int32) (t_ranks : Nat → Int32) (t_found : Nat → Int32) (v4 : Int32), K13 t_foundCount t_ranks t_found v4 → ∀ (H : Heap) (locs : List Loc), va_P (dC, dI) classes [(h_t, .inr (5, [.ref h_t_ranks, .ref h_t_heads, .ref h_t_sizes, .ref h_t_found, .int t_foundCount, .int t_count])), (h_t_ranks, .inl (cI, 16384, .inl t_ranks)), (h_t_heads, .inl (cI, 16384, .inl t_heads)), (h_t_sizes, .inl (cI, 16384, .inl t_sizes)), (h_t_found, .inl (cI, 16384, .inl t_found)), (h_a2, .inr (4, [.ref h_a2_units, .int a2_points, .int a2_colours, .int a2_count])), (h_a2_units, .inl (cI, 8, .inl a2_units)), (h_a3, .inr (1, [.ref h_a3_rows, .int a3_count])), (h_a3_rows, .inl (cI, 5, .inl a3_rows))] H → va_D A [(h_t, .inr (5, [.ref h_t_ranks, .ref h_t_heads, .ref h_t_sizes, .ref h_t_found, .int t_foundCount, .int t_count])), (h_t_ranks, .inl (cI, 16384, .inl t_ranks)), (h_t_heads, .inl (cI, 16384, .inl t_heads)), (h_t_sizes, .inl (cI, 16384, .inl t_sizes)), (h_t_found, .inl (cI, 16384, .inl t_found)), (h_a2, .inr (4, [.ref h_a2_units, .int a2_points, .int a2_colours, .int a2_count])), (h_a2_units, .inl (cI, 8, .inl a2_units)), (h_a3, .inr (1, [.ref h_a3_rows, .int a3_count])), (h_a3_rows, .inl (cI, 5, .inl a3_rows))] → va_S A s.heap H locs → ∀ (ls : Array Slot), lv_has ls 7 [(0, .ref h_t), (2, .ref h_a2), (3, .ref h_a3), (4, .int v4)] → W p l e rm_Table_flood s m args below meth c H locs 0 0 (MQ below (QM_Table_flood dC dI cI cZ h_t h_t_ranks h_t_heads h_t_sizes h_t_found h_a2 h_a2_units h_a3 h_a3_rows t_count t_heads t_sizes a2_points a2_colours a2_count a2_units a3_count a3_rows post A) args s 0 0 A) (F0 m 13 ls [])) : ∀ (n : Nat) (t_foundCount : Int32) (t_ranks : Nat → Int32) (t_found : Nat → Int32) (v6 : Int32) , L_Table_flood_46 K13 t_count a2_points a2_units a3_count a3_rows v4 v5 n t_foundCount t_ranks t_found v6 → ∀ (H : Heap) (locs : List Loc), va_P (dC, dI) classes [(h_t, .inr (5, [.ref h_t_ranks, .ref h_t_heads, .ref h_t_sizes, .ref h_t_found, .int t_foundCount, .int t_count])), (h_t_ranks, .inl (cI, 16384, .inl t_ranks)), (h_t_heads, .inl (cI, 16384, .inl t_heads)), (h_t_sizes, .inl (cI, 16384, .inl t_sizes)), (h_t_found, .inl (cI, 16384, .inl t_found)), (h_a2, .inr (4, [.ref h_a2_units, .int a2_points, .int a2_colours, .int a2_count])), (h_a2_units, .inl (cI, 8, .inl a2_units)), (h_a3, .inr (1, [.ref h_a3_rows, .int a3_count])), (h_a3_rows, .inl (cI, 5, .inl a3_rows))] H → va_D A [(h_t, .inr (5, [.ref h_t_ranks, .ref h_t_heads, .ref h_t_sizes, .ref h_t_found, .int t_foundCount, .int t_count])), (h_t_ranks, .inl (cI, 16384, .inl t_ranks)), (h_t_heads, .inl (cI, 16384, .inl t_heads)), (h_t_sizes, .inl (cI, 16384, .inl t_sizes)), (h_t_found, .inl (cI, 16384, .inl t_found)), (h_a2, .inr (4, [.ref h_a2_units, .int a2_points, .int a2_colours, .int a2_count])), (h_a2_units, .inl (cI, 8, .inl a2_units)), (h_a3, .inr (1, [.ref h_a3_rows, .int a3_count])), (h_a3_rows, .inl (cI, 5, .inl a3_rows))] → va_S A s.heap H locs → ∀ (ls : Array Slot), lv_has ls 7 [(0, .ref h_t), (2, .ref h_a2), (3, .ref h_a3), (4, .int v4), (5, .int v5), (6, .int v6)] → W p l e rm_Table_flood s m args below meth c H locs 0 0 (MQ below (QM_Table_flood dC dI cI cZ h_t h_t_ranks h_t_heads h_t_sizes h_t_found h_a2 h_a2_units h_a3 h_a3_rows t_count t_heads t_sizes a2_points a2_colours a2_count a2_units a3_count a3_rows post A) args s 0 0 A) (F0 m 46 ls []) := by
  obtain ⟨hx, hb, hr, hml, hown, hts, hlocks, hE⟩ := id C
  intro n
  induction n with
  | zero =>
    intro t_foundCount t_ranks t_found v6 hw
    exact (show False from hw).elim
  | succ n ih =>
    intro t_foundCount t_ranks t_found v6 hw H locs hP hD hS ls hl
    have hw : L_Table_flood_46b K13 t_count a2_points a2_units a3_count a3_rows v4 v5 (L_Table_flood_46 K13 t_count a2_points a2_units a3_count a3_rows v4 v5 n) t_foundCount t_ranks t_found v6 := hw
    unfold L_Table_flood_46b at hw
    refine lv_iload hx hb d_Table_flood_46 (lv_at hl 5 rfl) ?_
    refine lv_aload_n hx hb d_Table_flood_48 rfl (lv_at hl 2 rfl) ?_
    refine va_getN (D := (dC, dI)) (ci := 1) (v := .int a3_count) (C := R_Moves) (T := F_Moves) (N := 2) hx hb hts i_Moves hown hE.1 hP 7 rfl rfl 1 (by decide) (va_Nw.use rfl (hE.2 _ kf_Table_56 rfl)) (fun _ h9 => h9) rfl d_Table_flood_49 ?_
    refine lv_icmp_ge (tgt := 78) hx hb d_Table_flood_52 (by decide) (fun c52 => ?_) (fun c52 => ?_)
    · have hw := hw.1 c52
      obtain ⟨x4_78, ex4_78⟩ : ∃ y : Int32, y = v4 + 1 := ⟨_, rfl⟩
      have hw := hw x4_78 ex4_78
      refine lv_iinc (v := x4_78) (lv' := [(4, .int x4_78), (0, .ref h_t), (2, .ref h_a2), (3, .ref h_a3), (5, .int v5), (6, .int v6)]) hx hb d_Table_flood_78 hl (k := 3) rfl (by rw [ex4_78]; rfl) (by decide) rfl (fun ls hl => ?_)
      refine lv_goto (tgt := 13) hx hb d_Table_flood_81 (by decide) ?_
      exact hK13 t_foundCount t_ranks t_found x4_78 hw H locs hP hD hS ls (lv_sub hl [1, 2, 3, 0] rfl)
    · have hw := hw.2 c52
      refine lv_aload_n hx hb d_Table_flood_55 rfl (lv_at hl 0 rfl) ?_
      refine lv_aload_n hx hb d_Table_flood_56 rfl (lv_at hl 1 rfl) ?_
      refine lv_iload hx hb d_Table_flood_57 (lv_at hl 4 rfl) ?_
      refine lv_aload_n hx hb d_Table_flood_59 rfl (lv_at hl 2 rfl) ?_
      refine va_getN (D := (dC, dI)) (ci := 1) (v := .ref h_a3_rows) (C := R_Moves) (T := F_Moves) (N := 2) hx hb hts i_Moves hown hE.1 hP 7 rfl rfl 0 (by decide) (va_Nw.use rfl (hE.2 _ kf_Table_59 rfl)) (fun _ h9 => h9) rfl d_Table_flood_60 ?_
      refine lv_iload hx hb d_Table_flood_63 (lv_at hl 5 rfl) ?_
      have hz := hw.1
      have hw := hw.2
      refine va_iald hx hb hE.1 hP 8 0 rfl rfl hz d_Table_flood_65 ?_
      have hPc := hP.sub (ws' := [(h_a2, .inr (4, [.ref h_a2_units, .int a2_points, .int a2_colours, .int a2_count])), (h_a2_units, .inl (cI, 8, .inl a2_units))]) [5, 6] rfl
      refine vp_callSi (va_Run.run (va_runV (As := [.int v5, .int (a3_rows v6.toNatClampNeg)]) (rest := [.ref h_t]) ⟨hx, hb, hml, hown, hts⟩ (met_Plans_moved l dC dI cI cZ h_a2 h_a2_units  a2_points a2_colours a2_count a2_units v5 (a3_rows v6.toNatClampNeg) _ hw) ⟨cB 2 hts kc_Plans_moved ki_Plans kl_Table_62 hd_Plans_moved ⟨Nat.le_of_ble_eq_true rfl, Nat.le_of_ble_eq_true rfl⟩, hts _ kn_Plans_moved, hts _ ke_Plans_moved⟩ (preV_ro hE hPc (va_recv hE.1 hPc (ci := 4) (q0 := 0) rfl rfl)) rfl rfl hl.1 rfl (lv_room (Nat.le_of_ble_eq_true rfl)) d_Table_flood_66 ⟨Nat.le_of_ble_eq_true rfl, Nat.le_of_ble_eq_true rfl⟩)) (fun r66 hw => ?_)
      have hPc := hP.sub (ws' := [(h_t, .inr (5, [.ref h_t_ranks, .ref h_t_heads, .ref h_t_sizes, .ref h_t_found, .int t_foundCount, .int t_count])), (h_t_ranks, .inl (cI, 16384, .inl t_ranks)), (h_t_heads, .inl (cI, 16384, .inl t_heads)), (h_t_sizes, .inl (cI, 16384, .inl t_sizes)), (h_t_found, .inl (cI, 16384, .inl t_found))]) [0, 1, 2, 3, 4] rfl
      have hDc := hD.sub (ws' := [(h_t, .inr (5, [.ref h_t_ranks, .ref h_t_heads, .ref h_t_sizes, .ref h_t_found, .int t_foundCount, .int t_count])), (h_t_ranks, .inl (cI, 16384, .inl t_ranks)), (h_t_heads, .inl (cI, 16384, .inl t_heads)), (h_t_sizes, .inl (cI, 16384, .inl t_sizes)), (h_t_found, .inl (cI, 16384, .inl t_found))]) [0, 1, 2, 3, 4] (by decide) rfl
      have hFc := va_free (wc := [(h_t, .inr (5, [.ref h_t_ranks, .ref h_t_heads, .ref h_t_sizes, .ref h_t_found, .int t_foundCount, .int t_count])), (h_t_ranks, .inl (cI, 16384, .inl t_ranks)), (h_t_heads, .inl (cI, 16384, .inl t_heads)), (h_t_sizes, .inl (cI, 16384, .inl t_sizes)), (h_t_found, .inl (cI, 16384, .inl t_found))]) hD hS hA [0, 1, 2, 3, 4] rfl
      refine va_callv (va_runV (As := [.int r66]) (rest := []) ⟨hx, hb, hml, hown, hts⟩ (met_Table_find l dC dI cI cZ h_t h_t_ranks h_t_heads h_t_sizes h_t_found H.size  t_foundCount t_count t_ranks t_heads t_sizes t_found r66 _ hw) ⟨cB 1 hts kc_Table_find ki_Table kl_Table_48 hd_Table_find ⟨Nat.le_of_ble_eq_true rfl, Nat.le_of_ble_eq_true rfl⟩, hts _ kn_Table_find, hts _ ke_Table_find⟩ (preV_mu hE hPc hDc (va_recv hE.1 hPc (ci := 5) (q0 := 0) rfl rfl)) rfl rfl hl.1 rfl (lv_room (Nat.le_of_ble_eq_true rfl)) d_Table_flood_69 ⟨Nat.le_of_ble_eq_true rfl, Nat.le_of_ble_eq_true rfl⟩) hS (fun q _ h => hFc q h) hFc (fun u t H locs ht hvm hw hB hz1 hk1 hS => ?_)
      obtain ⟨t_foundCount_69, t_ranks_69, t_found_69⟩ := u
      obtain ⟨hP1, hD1⟩ := hB
      rw [ht] at hP1
      try dsimp only at hw
      obtain ⟨hP, hD⟩ := va_join (wr := [(h_a2, .inr (4, [.ref h_a2_units, .int a2_points, .int a2_colours, .int a2_count])), (h_a2_units, .inl (cI, 8, .inl a2_units)), (h_a3, .inr (1, [.ref h_a3_rows, .int a3_count])), (h_a3_rows, .inl (cI, 5, .inl a3_rows))]) (w1 := [(h_t, .inr (5, [.ref h_t_ranks, .ref h_t_heads, .ref h_t_sizes, .ref h_t_found, .int t_foundCount_69, .int t_count])), (h_t_ranks, .inl (cI, 16384, .inl t_ranks_69)), (h_t_heads, .inl (cI, 16384, .inl t_heads)), (h_t_sizes, .inl (cI, 16384, .inl t_sizes)), (h_t_found, .inl (cI, 16384, .inl t_found_69))]) hP hD [0, 1, 2, 3, 4] [5, 6, 7, 8] rfl rfl (by decide) (by decide) hk1 hFc hP1 hD1
      have hP : va_P (dC, dI) classes [(h_t, .inr (5, [.ref h_t_ranks, .ref h_t_heads, .ref h_t_sizes, .ref h_t_found, .int t_foundCount_69, .int t_count])), (h_t_ranks, .inl (cI, 16384, .inl t_ranks_69)), (h_t_heads, .inl (cI, 16384, .inl t_heads)), (h_t_sizes, .inl (cI, 16384, .inl t_sizes)), (h_t_found, .inl (cI, 16384, .inl t_found_69)), (h_a2, .inr (4, [.ref h_a2_units, .int a2_points, .int a2_colours, .int a2_count])), (h_a2_units, .inl (cI, 8, .inl a2_units)), (h_a3, .inr (1, [.ref h_a3_rows, .int a3_count])), (h_a3_rows, .inl (cI, 5, .inl a3_rows))] H := hP.sub [4, 5, 6, 7, 8, 0, 1, 2, 3] rfl
      have hD : va_D A [(h_t, .inr (5, [.ref h_t_ranks, .ref h_t_heads, .ref h_t_sizes, .ref h_t_found, .int t_foundCount_69, .int t_count])), (h_t_ranks, .inl (cI, 16384, .inl t_ranks_69)), (h_t_heads, .inl (cI, 16384, .inl t_heads)), (h_t_sizes, .inl (cI, 16384, .inl t_sizes)), (h_t_found, .inl (cI, 16384, .inl t_found_69)), (h_a2, .inr (4, [.ref h_a2_units, .int a2_points, .int a2_colours, .int a2_count])), (h_a2_units, .inl (cI, 8, .inl a2_units)), (h_a3, .inr (1, [.ref h_a3_rows, .int a3_count])), (h_a3_rows, .inl (cI, 5, .inl a3_rows))] := hD.sub [4, 5, 6, 7, 8, 0, 1, 2, 3] (by decide) rfl
      refine W.widen (k := 0) (n := 0) (Nat.le_refl _) (Nat.le_refl _) ?_
      obtain ⟨x6_72, ex6_72⟩ : ∃ y : Int32, y = v6 + 1 := ⟨_, rfl⟩
      have hw := hw x6_72 ex6_72
      refine lv_iinc (v := x6_72) (lv' := [(6, .int x6_72), (0, .ref h_t), (2, .ref h_a2), (3, .ref h_a3), (4, .int v4), (5, .int v5)]) hx hb d_Table_flood_72 hl (k := 5) rfl (by rw [ex6_72]; rfl) (by decide) rfl (fun ls hl => ?_)
      refine lv_goto (tgt := 46) hx hb d_Table_flood_75 (by decide) ?_
      exact ih t_foundCount_69 t_ranks_69 t_found_69 x6_72 hw H locs hP hD hS ls (lv_sub hl [1, 2, 3, 4, 5, 0] rfl)
set_option maxHeartbeats 4000000 in
set_option maxRecDepth 100000 in
theorem qL_Table_flood_13 {p : Program} {l : Launch} {e : Env} {s : State} {m : MethodId} {args : Array Value} {below : List Frame} {meth : Method} {c : Code} {dC : Nat → ClassId} {dI : Nat → Nat → Nat} {cI cZ : ClassId} (C : CX p s m args meth c R_Table b_Table_flood 7 (some .int) (dC, dI) cI cZ) {h_t h_t_ranks h_t_heads h_t_sizes h_t_found h_a2 h_a2_units h_a3 h_a3_rows : Nat} {A : Nat → Prop} (hA : ∀ q : Nat, s.heap.size ≤ q → A q) (post : Int32 → Int32 → (Nat → Int32) → (Nat → Int32) → Prop) (t_count : Int32) (t_heads : Nat → Int32) (t_sizes : Nat → Int32) (a2_points : Int32) (a2_colours : Int32) (a2_count : Int32) (a2_units : Nat → Int32) (a3_count : Int32) (a3_rows : Nat → Int32) : ∀ (n : Nat) (t_foundCount : Int32) (t_ranks : Nat → Int32) (t_found : Nat → Int32) (v4 : Int32) , L_Table_flood_13 post t_count a2_points a2_colours a2_units a3_count a3_rows n t_foundCount t_ranks t_found v4 → ∀ (H : Heap) (locs : List Loc), va_P (dC, dI) classes [(h_t, .inr (5, [.ref h_t_ranks, .ref h_t_heads, .ref h_t_sizes, .ref h_t_found, .int t_foundCount, .int t_count])), (h_t_ranks, .inl (cI, 16384, .inl t_ranks)), (h_t_heads, .inl (cI, 16384, .inl t_heads)), (h_t_sizes, .inl (cI, 16384, .inl t_sizes)), (h_t_found, .inl (cI, 16384, .inl t_found)), (h_a2, .inr (4, [.ref h_a2_units, .int a2_points, .int a2_colours, .int a2_count])), (h_a2_units, .inl (cI, 8, .inl a2_units)), (h_a3, .inr (1, [.ref h_a3_rows, .int a3_count])), (h_a3_rows, .inl (cI, 5, .inl a3_rows))] H → va_D A [(h_t, .inr (5, [.ref h_t_ranks, .ref h_t_heads, .ref h_t_sizes, .ref h_t_found, .int t_foundCount, .int t_count])), (h_t_ranks, .inl (cI, 16384, .inl t_ranks)), (h_t_heads, .inl (cI, 16384, .inl t_heads)), (h_t_sizes, .inl (cI, 16384, .inl t_sizes)), (h_t_found, .inl (cI, 16384, .inl t_found)), (h_a2, .inr (4, [.ref h_a2_units, .int a2_points, .int a2_colours, .int a2_count])), (h_a2_units, .inl (cI, 8, .inl a2_units)), (h_a3, .inr (1, [.ref h_a3_rows, .int a3_count])), (h_a3_rows, .inl (cI, 5, .inl a3_rows))] → va_S A s.heap H locs → ∀ (ls : Array Slot), lv_has ls 7 [(0, .ref h_t), (2, .ref h_a2), (3, .ref h_a3), (4, .int v4)] → W p l e rm_Table_flood s m args below meth c H locs 0 0 (MQ below (QM_Table_flood dC dI cI cZ h_t h_t_ranks h_t_heads h_t_sizes h_t_found h_a2 h_a2_units h_a3 h_a3_rows t_count t_heads t_sizes a2_points a2_colours a2_count a2_units a3_count a3_rows post A) args s 0 0 A) (F0 m 13 ls []) := by
  obtain ⟨hx, hb, hr, hml, hown, hts, hlocks, hE⟩ := id C
  intro n
  induction n with
  | zero =>
    intro t_foundCount t_ranks t_found v4 hw
    exact (show False from hw).elim
  | succ n ih =>
    intro t_foundCount t_ranks t_found v4 hw H locs hP hD hS ls hl
    have hw : L_Table_flood_13b post t_count a2_points a2_colours a2_units a3_count a3_rows (L_Table_flood_13 post t_count a2_points a2_colours a2_units a3_count a3_rows n) t_foundCount t_ranks t_found v4 := hw
    unfold L_Table_flood_13b at hw
    refine lv_iload hx hb d_Table_flood_13 (lv_at hl 3 rfl) ?_
    refine lv_aload_n hx hb d_Table_flood_15 rfl (lv_at hl 0 rfl) ?_
    refine va_get (D := (dC, dI)) (ci := 5) (v := .int t_foundCount) (C := R_Table) (T := F_Table) (N := 6) hx hb hts i_Table hown hE.1 hP 0 rfl rfl 4 (by decide) (hts _ kf_Table_45) (fun _ h9 => h9) rfl d_Table_flood_16 ?_
    refine lv_icmp_ge (tgt := 84) hx hb d_Table_flood_19 (by decide) (fun c19 => ?_) (fun c19 => ?_)
    · have hw := hw.1 c19
      refine lv_aload_n hx hb d_Table_flood_84 rfl (lv_at hl 0 rfl) ?_
      refine va_get (D := (dC, dI)) (ci := 5) (v := .int t_foundCount) (C := R_Table) (T := F_Table) (N := 6) hx hb hts i_Table hown hE.1 hP 0 rfl rfl 4 (by decide) (hts _ kf_Table_45) (fun _ h9 => h9) rfl d_Table_flood_85 ?_
      exact W.iret (v := t_foundCount) hx hb hr (fun t ht hW => ⟨⟨t_foundCount, (t_foundCount, t_ranks, t_found), rfl, hw, by rw [ht]; exact hP, hD⟩, hS.F ht⟩) hS.2.2 d_Table_flood_88
    · have hw := hw.2 c19
      refine lv_iload hx hb d_Table_flood_22 (lv_at hl 3 rfl) ?_
      refine lv_sipush (v := (16384 : Int32)) hx hb d_Table_flood_24 (by decide) ?_
      refine lv_icmp_ge (tgt := 84) hx hb d_Table_flood_27 (by decide) (fun c27 => ?_) (fun c27 => ?_)
      · have hw := hw.1 c27
        refine lv_aload_n hx hb d_Table_flood_84 rfl (lv_at hl 0 rfl) ?_
        refine va_get (D := (dC, dI)) (ci := 5) (v := .int t_foundCount) (C := R_Table) (T := F_Table) (N := 6) hx hb hts i_Table hown hE.1 hP 0 rfl rfl 4 (by decide) (hts _ kf_Table_45) (fun _ h9 => h9) rfl d_Table_flood_85 ?_
        exact W.iret (v := t_foundCount) hx hb hr (fun t ht hW => ⟨⟨t_foundCount, (t_foundCount, t_ranks, t_found), rfl, hw, by rw [ht]; exact hP, hD⟩, hS.F ht⟩) hS.2.2 d_Table_flood_88
      · have hw := hw.2 c27
        refine lv_aload_n hx hb d_Table_flood_30 rfl (lv_at hl 1 rfl) ?_
        refine lv_aload_n hx hb d_Table_flood_31 rfl (lv_at hl 0 rfl) ?_
        refine va_get (D := (dC, dI)) (ci := 5) (v := .ref h_t_found) (C := R_Table) (T := F_Table) (N := 6) hx hb hts i_Table hown hE.1 hP 0 rfl rfl 3 (by decide) (hts _ kf_Table_21) (fun _ h9 => h9) rfl d_Table_flood_32 ?_
        refine lv_iload hx hb d_Table_flood_35 (lv_at hl 3 rfl) ?_
        have hz := hw.1
        have hw := hw.2
        refine va_iald hx hb hE.1 hP 4 0 rfl rfl hz d_Table_flood_37 ?_
        have hPc := hP.sub (ws' := [(h_a2, .inr (4, [.ref h_a2_units, .int a2_points, .int a2_colours, .int a2_count])), (h_a2_units, .inl (cI, 8, .inl a2_units))]) [5, 6] rfl
        refine vp_callSi (va_Run.run (va_runV (As := [.int (t_found v4.toNatClampNeg)]) (rest := []) ⟨hx, hb, hml, hown, hts⟩ (met_Plans_spread l dC dI cI cZ h_a2 h_a2_units  a2_points a2_colours a2_count a2_units (t_found v4.toNatClampNeg) _ hw) ⟨cB 1 hts kc_Plans_spread ki_Plans kl_Table_52 hd_Plans_spread ⟨Nat.le_of_ble_eq_true rfl, Nat.le_of_ble_eq_true rfl⟩, hts _ kn_Plans_spread, hts _ ke_Plans_spread⟩ (preV_ro hE hPc (va_recv hE.1 hPc (ci := 4) (q0 := 0) rfl rfl)) rfl rfl hl.1 rfl (lv_room (Nat.le_of_ble_eq_true rfl)) d_Table_flood_38 ⟨Nat.le_of_ble_eq_true rfl, Nat.le_of_ble_eq_true rfl⟩)) (fun r38 hw => ?_)
        refine lv_istore (lv' := [(5, .int r38), (0, .ref h_t), (2, .ref h_a2), (3, .ref h_a3), (4, .int v4)]) hx hb d_Table_flood_41 hl (by decide) rfl (fun ls hl => ?_)
        refine lv_iconst (v := (0 : Int32)) hx hb d_Table_flood_43 (by decide) ?_
        refine lv_istore (lv' := [(6, .int (0 : Int32)), (5, .int r38), (0, .ref h_t), (2, .ref h_a2), (3, .ref h_a3), (4, .int v4)]) hx hb d_Table_flood_44 hl (by decide) rfl (fun ls hl => ?_)
        obtain ⟨n46, hw⟩ := hw
        exact qL_Table_flood_46 C hA post _ t_count t_heads t_sizes a2_points a2_colours a2_count a2_units a3_count a3_rows v4 r38 ih n46 t_foundCount t_ranks t_found (0 : Int32) hw H locs hP hD hS ls (lv_sub hl [2, 3, 4, 5, 1, 0] rfl)
set_option maxHeartbeats 4000000 in
set_option maxRecDepth 100000 in
theorem met_Table_flood (l : Launch) (dC : Nat → ClassId) (dI : Nat → Nat → Nat) (cI cZ : ClassId) (h_t h_t_ranks h_t_heads h_t_sizes h_t_found h_a2 h_a2_units h_a3 h_a3_rows : Nat) (sz : Nat) (t_foundCount : Int32) (t_count : Int32) (t_ranks : Nat → Int32) (t_heads : Nat → Int32) (t_sizes : Nat → Int32) (t_found : Nat → Int32) (a2_points : Int32) (a2_colours : Int32) (a2_count : Int32) (a2_units : Nat → Int32) (a3_count : Int32) (a3_rows : Nat → Int32) (a1 : Int32) (post : Int32 → Int32 → (Nat → Int32) → (Nat → Int32) → Prop) (hw : wp_Table_flood post t_count t_ranks t_found a2_points a2_colours a2_units a3_count a3_rows a1) : Met l y_Table_flood (Cond.code y_Table_flood b_Table_flood 7 (some .int) :: gw) rm_Table_flood (va_Pc [.ref h_t, .int a1, .ref h_a2, .ref h_a3] (fun U => U.heap.size = sz ∧ EV (dC, dI) cI cZ U ∧ va_P (dC, dI) classes [(h_t, .inr (5, [.ref h_t_ranks, .ref h_t_heads, .ref h_t_sizes, .ref h_t_found, .int t_foundCount, .int t_count])), (h_t_ranks, .inl (cI, 16384, .inl t_ranks)), (h_t_heads, .inl (cI, 16384, .inl t_heads)), (h_t_sizes, .inl (cI, 16384, .inl t_sizes)), (h_t_found, .inl (cI, 16384, .inl t_found)), (h_a2, .inr (4, [.ref h_a2_units, .int a2_points, .int a2_colours, .int a2_count])), (h_a2_units, .inl (cI, 8, .inl a2_units)), (h_a3, .inr (1, [.ref h_a3_rows, .int a3_count])), (h_a3_rows, .inl (cI, 5, .inl a3_rows))] U.heap ∧ va_D (fun _ => True) [(h_t, .inr (5, [.ref h_t_ranks, .ref h_t_heads, .ref h_t_sizes, .ref h_t_found, .int t_foundCount, .int t_count])), (h_t_ranks, .inl (cI, 16384, .inl t_ranks)), (h_t_heads, .inl (cI, 16384, .inl t_heads)), (h_t_sizes, .inl (cI, 16384, .inl t_sizes)), (h_t_found, .inl (cI, 16384, .inl t_found)), (h_a2, .inr (4, [.ref h_a2_units, .int a2_points, .int a2_colours, .int a2_count])), (h_a2_units, .inl (cI, 8, .inl a2_units)), (h_a3, .inr (1, [.ref h_a3_rows, .int a3_count])), (h_a3_rows, .inl (cI, 5, .inl a3_rows))])) (QM_Table_flood dC dI cI cZ h_t h_t_ranks h_t_heads h_t_sizes h_t_found h_a2 h_a2_units h_a3 h_a3_rows t_count t_heads t_sizes a2_points a2_colours a2_count a2_units a3_count a3_rows post (va_A [(h_t, .inr (5, [.ref h_t_ranks, .ref h_t_heads, .ref h_t_sizes, .ref h_t_found, .int t_foundCount, .int t_count])), (h_t_ranks, .inl (cI, 16384, .inl t_ranks)), (h_t_heads, .inl (cI, 16384, .inl t_heads)), (h_t_sizes, .inl (cI, 16384, .inl t_sizes)), (h_t_found, .inl (cI, 16384, .inl t_found)), (h_a2, .inr (4, [.ref h_a2_units, .int a2_points, .int a2_colours, .int a2_count])), (h_a2_units, .inl (cI, 8, .inl a2_units)), (h_a3, .inr (1, [.ref h_a3_rows, .int a3_count])), (h_a3_rows, .inl (cI, 5, .inl a3_rows))] sz)) 0 0 (va_A [(h_t, .inr (5, [.ref h_t_ranks, .ref h_t_heads, .ref h_t_sizes, .ref h_t_found, .int t_foundCount, .int t_count])), (h_t_ranks, .inl (cI, 16384, .inl t_ranks)), (h_t_heads, .inl (cI, 16384, .inl t_heads)), (h_t_sizes, .inl (cI, 16384, .inl t_sizes)), (h_t_found, .inl (cI, 16384, .inl t_found)), (h_a2, .inr (4, [.ref h_a2_units, .int a2_points, .int a2_colours, .int a2_count])), (h_a2_units, .inl (cI, 8, .inl a2_units)), (h_a3, .inr (1, [.ref h_a3_rows, .int a3_count])), (h_a3_rows, .inl (cI, 5, .inl a3_rows))] sz) := by
  refine Met.ofW (cc := b_Table_flood) (maxL := 7) (ret := (some .int)) (by decide) rfl ?_
  intro p e s m args below meth c s₁ B hml hv
  obtain ⟨rfl, hsz, hE, hP, hD0⟩ := hv
  have C := CX.of (own := R_Table) (D := (dC, dI)) (cI := cI) (cZ := cZ) B hml rfl hE
  obtain ⟨hx, hb, hr, -, hown, hts, hlocks, -⟩ := id C
  subst hsz
  have hD := hD0.self (sz := s.heap.size)
  generalize hAe : va_A [(h_t, .inr (5, [.ref h_t_ranks, .ref h_t_heads, .ref h_t_sizes, .ref h_t_found, .int t_foundCount, .int t_count])), (h_t_ranks, .inl (cI, 16384, .inl t_ranks)), (h_t_heads, .inl (cI, 16384, .inl t_heads)), (h_t_sizes, .inl (cI, 16384, .inl t_sizes)), (h_t_found, .inl (cI, 16384, .inl t_found)), (h_a2, .inr (4, [.ref h_a2_units, .int a2_points, .int a2_colours, .int a2_count])), (h_a2_units, .inl (cI, 8, .inl a2_units)), (h_a3, .inr (1, [.ref h_a3_rows, .int a3_count])), (h_a3_rows, .inl (cI, 5, .inl a3_rows))] s.heap.size = A at hD ⊢
  have hA : ∀ q : Nat, s.heap.size ≤ q → A q := fun q h => by rw [← hAe]; exact Or.inr h
  have hS : va_S A s.heap s.heap [] := va_S.rf
  have hP : va_P (dC, dI) classes [(h_t, .inr (5, [.ref h_t_ranks, .ref h_t_heads, .ref h_t_sizes, .ref h_t_found, .int t_foundCount, .int t_count])), (h_t_ranks, .inl (cI, 16384, .inl t_ranks)), (h_t_heads, .inl (cI, 16384, .inl t_heads)), (h_t_sizes, .inl (cI, 16384, .inl t_sizes)), (h_t_found, .inl (cI, 16384, .inl t_found)), (h_a2, .inr (4, [.ref h_a2_units, .int a2_points, .int a2_colours, .int a2_count])), (h_a2_units, .inl (cI, 8, .inl a2_units)), (h_a3, .inr (1, [.ref h_a3_rows, .int a3_count])), (h_a3_rows, .inl (cI, 5, .inl a3_rows))] s.heap := hP
  have hl := lv_entry ([.ref h_t, .int a1, .ref h_a2, .ref h_a3]) (n := 7) (Nat.le_of_ble_eq_true rfl)
  rw [lg_entry_eq]
  generalize (lg_sl ([.ref h_t, .int a1, .ref h_a2, .ref h_a3]) ++ List.replicate (7 - (lg_sl ([.ref h_t, .int a1, .ref h_a2, .ref h_a3])).length) Slot.unset).toArray = ls at hl ⊢
  have hl : lv_has ls 7 [(0, .ref h_t), (1, .int a1), (2, .ref h_a2), (3, .ref h_a3)] := hl
  refine keyL (P := fun H locs => va_P (dC, dI) classes [(h_t, .inr (5, [.ref h_t_ranks, .ref h_t_heads, .ref h_t_sizes, .ref h_t_found, .int t_foundCount, .int t_count])), (h_t_ranks, .inl (cI, 16384, .inl t_ranks)), (h_t_heads, .inl (cI, 16384, .inl t_heads)), (h_t_sizes, .inl (cI, 16384, .inl t_sizes)), (h_t_found, .inl (cI, 16384, .inl t_found)), (h_a2, .inr (4, [.ref h_a2_units, .int a2_points, .int a2_colours, .int a2_count])), (h_a2_units, .inl (cI, 8, .inl a2_units)), (h_a3, .inr (1, [.ref h_a3_rows, .int a3_count])), (h_a3_rows, .inl (cI, 5, .inl a3_rows))] H ∧ va_D A [(h_t, .inr (5, [.ref h_t_ranks, .ref h_t_heads, .ref h_t_sizes, .ref h_t_found, .int t_foundCount, .int t_count])), (h_t_ranks, .inl (cI, 16384, .inl t_ranks)), (h_t_heads, .inl (cI, 16384, .inl t_heads)), (h_t_sizes, .inl (cI, 16384, .inl t_sizes)), (h_t_found, .inl (cI, 16384, .inl t_found)), (h_a2, .inr (4, [.ref h_a2_units, .int a2_points, .int a2_colours, .int a2_count])), (h_a2_units, .inl (cI, 8, .inl a2_units)), (h_a3, .inr (1, [.ref h_a3_rows, .int a3_count])), (h_a3_rows, .inl (cI, 5, .inl a3_rows))] ∧ va_S A s.heap H locs) ⟨hP, hD, hS⟩ (fun H locs hPP => ?_)
  clear hP hD hS
  obtain ⟨hP, hD, hS⟩ := hPP
  unfold wp_Table_flood at hw
  refine lv_aload_n hx hb d_Table_flood_0 rfl (lv_at hl 0 rfl) ?_
  refine lv_iconst (v := (0 : Int32)) hx hb d_Table_flood_1 (by decide) ?_
  refine va_put (D := (dC, dI)) (ci := 5) (v := .int (0 : Int32)) (ty := .int) (C := R_Table) (T := F_Table) (N := 6) hx hb hts i_Table t_Table t_Table_ok n_Table hown hE.1 hP hD hS 0 rfl rfl 4 (by decide) (hts _ kf_Table_45) (fun _ h9 => h9) rfl (by decide +kernel) rfl rfl (Nat.le_of_ble_eq_true rfl) d_Table_flood_2 (fun H locs hP hD hS => ?_)
  have hP : va_P (dC, dI) classes [(h_t, .inr (5, [.ref h_t_ranks, .ref h_t_heads, .ref h_t_sizes, .ref h_t_found, .int (0 : Int32), .int t_count])), (h_t_ranks, .inl (cI, 16384, .inl t_ranks)), (h_t_heads, .inl (cI, 16384, .inl t_heads)), (h_t_sizes, .inl (cI, 16384, .inl t_sizes)), (h_t_found, .inl (cI, 16384, .inl t_found)), (h_a2, .inr (4, [.ref h_a2_units, .int a2_points, .int a2_colours, .int a2_count])), (h_a2_units, .inl (cI, 8, .inl a2_units)), (h_a3, .inr (1, [.ref h_a3_rows, .int a3_count])), (h_a3_rows, .inl (cI, 5, .inl a3_rows))] H := hP
  have hD : va_D A [(h_t, .inr (5, [.ref h_t_ranks, .ref h_t_heads, .ref h_t_sizes, .ref h_t_found, .int (0 : Int32), .int t_count])), (h_t_ranks, .inl (cI, 16384, .inl t_ranks)), (h_t_heads, .inl (cI, 16384, .inl t_heads)), (h_t_sizes, .inl (cI, 16384, .inl t_sizes)), (h_t_found, .inl (cI, 16384, .inl t_found)), (h_a2, .inr (4, [.ref h_a2_units, .int a2_points, .int a2_colours, .int a2_count])), (h_a2_units, .inl (cI, 8, .inl a2_units)), (h_a3, .inr (1, [.ref h_a3_rows, .int a3_count])), (h_a3_rows, .inl (cI, 5, .inl a3_rows))] := hD
  refine lv_aload_n hx hb d_Table_flood_5 rfl (lv_at hl 0 rfl) ?_
  refine lv_iload_n hx hb d_Table_flood_6 rfl (lv_at hl 1 rfl) ?_
  have hPc := hP.sub (ws' := [(h_t, .inr (5, [.ref h_t_ranks, .ref h_t_heads, .ref h_t_sizes, .ref h_t_found, .int (0 : Int32), .int t_count])), (h_t_ranks, .inl (cI, 16384, .inl t_ranks)), (h_t_heads, .inl (cI, 16384, .inl t_heads)), (h_t_sizes, .inl (cI, 16384, .inl t_sizes)), (h_t_found, .inl (cI, 16384, .inl t_found))]) [0, 1, 2, 3, 4] rfl
  have hDc := hD.sub (ws' := [(h_t, .inr (5, [.ref h_t_ranks, .ref h_t_heads, .ref h_t_sizes, .ref h_t_found, .int (0 : Int32), .int t_count])), (h_t_ranks, .inl (cI, 16384, .inl t_ranks)), (h_t_heads, .inl (cI, 16384, .inl t_heads)), (h_t_sizes, .inl (cI, 16384, .inl t_sizes)), (h_t_found, .inl (cI, 16384, .inl t_found))]) [0, 1, 2, 3, 4] (by decide) rfl
  have hFc := va_free (wc := [(h_t, .inr (5, [.ref h_t_ranks, .ref h_t_heads, .ref h_t_sizes, .ref h_t_found, .int (0 : Int32), .int t_count])), (h_t_ranks, .inl (cI, 16384, .inl t_ranks)), (h_t_heads, .inl (cI, 16384, .inl t_heads)), (h_t_sizes, .inl (cI, 16384, .inl t_sizes)), (h_t_found, .inl (cI, 16384, .inl t_found))]) hD hS hA [0, 1, 2, 3, 4] rfl
  refine va_callv (va_runV (As := [.int a1]) (rest := []) ⟨hx, hb, hml, hown, hts⟩ (met_Table_find l dC dI cI cZ h_t h_t_ranks h_t_heads h_t_sizes h_t_found H.size  (0 : Int32) t_count t_ranks t_heads t_sizes t_found a1 _ hw) ⟨cB 1 hts kc_Table_find ki_Table kl_Table_48 hd_Table_find ⟨Nat.le_of_ble_eq_true rfl, Nat.le_of_ble_eq_true rfl⟩, hts _ kn_Table_find, hts _ ke_Table_find⟩ (preV_mu hE hPc hDc (va_recv hE.1 hPc (ci := 5) (q0 := 0) rfl rfl)) rfl rfl hl.1 rfl (lv_room (Nat.le_of_ble_eq_true rfl)) d_Table_flood_7 ⟨Nat.le_of_ble_eq_true rfl, Nat.le_of_ble_eq_true rfl⟩) hS (fun q _ h => hFc q h) hFc (fun u t H locs ht hvm hw hB hz1 hk1 hS => ?_)
  obtain ⟨t_foundCount_7, t_ranks_7, t_found_7⟩ := u
  obtain ⟨hP1, hD1⟩ := hB
  rw [ht] at hP1
  try dsimp only at hw
  obtain ⟨hP, hD⟩ := va_join (wr := [(h_a2, .inr (4, [.ref h_a2_units, .int a2_points, .int a2_colours, .int a2_count])), (h_a2_units, .inl (cI, 8, .inl a2_units)), (h_a3, .inr (1, [.ref h_a3_rows, .int a3_count])), (h_a3_rows, .inl (cI, 5, .inl a3_rows))]) (w1 := [(h_t, .inr (5, [.ref h_t_ranks, .ref h_t_heads, .ref h_t_sizes, .ref h_t_found, .int t_foundCount_7, .int t_count])), (h_t_ranks, .inl (cI, 16384, .inl t_ranks_7)), (h_t_heads, .inl (cI, 16384, .inl t_heads)), (h_t_sizes, .inl (cI, 16384, .inl t_sizes)), (h_t_found, .inl (cI, 16384, .inl t_found_7))]) hP hD [0, 1, 2, 3, 4] [5, 6, 7, 8] rfl rfl (by decide) (by decide) hk1 hFc hP1 hD1
  have hP : va_P (dC, dI) classes [(h_t, .inr (5, [.ref h_t_ranks, .ref h_t_heads, .ref h_t_sizes, .ref h_t_found, .int t_foundCount_7, .int t_count])), (h_t_ranks, .inl (cI, 16384, .inl t_ranks_7)), (h_t_heads, .inl (cI, 16384, .inl t_heads)), (h_t_sizes, .inl (cI, 16384, .inl t_sizes)), (h_t_found, .inl (cI, 16384, .inl t_found_7)), (h_a2, .inr (4, [.ref h_a2_units, .int a2_points, .int a2_colours, .int a2_count])), (h_a2_units, .inl (cI, 8, .inl a2_units)), (h_a3, .inr (1, [.ref h_a3_rows, .int a3_count])), (h_a3_rows, .inl (cI, 5, .inl a3_rows))] H := hP.sub [4, 5, 6, 7, 8, 0, 1, 2, 3] rfl
  have hD : va_D A [(h_t, .inr (5, [.ref h_t_ranks, .ref h_t_heads, .ref h_t_sizes, .ref h_t_found, .int t_foundCount_7, .int t_count])), (h_t_ranks, .inl (cI, 16384, .inl t_ranks_7)), (h_t_heads, .inl (cI, 16384, .inl t_heads)), (h_t_sizes, .inl (cI, 16384, .inl t_sizes)), (h_t_found, .inl (cI, 16384, .inl t_found_7)), (h_a2, .inr (4, [.ref h_a2_units, .int a2_points, .int a2_colours, .int a2_count])), (h_a2_units, .inl (cI, 8, .inl a2_units)), (h_a3, .inr (1, [.ref h_a3_rows, .int a3_count])), (h_a3_rows, .inl (cI, 5, .inl a3_rows))] := hD.sub [4, 5, 6, 7, 8, 0, 1, 2, 3] (by decide) rfl
  refine W.widen (k := 0) (n := 0) (Nat.le_refl _) (Nat.le_refl _) ?_
  refine lv_iconst (v := (0 : Int32)) hx hb d_Table_flood_10 (by decide) ?_
  refine lv_istore (lv' := [(4, .int (0 : Int32)), (0, .ref h_t), (1, .int a1), (2, .ref h_a2), (3, .ref h_a3)]) hx hb d_Table_flood_11 hl (by decide) rfl (fun ls hl => ?_)
  obtain ⟨n13, hw⟩ := hw
  exact qL_Table_flood_13 C hA post  t_count t_heads t_sizes a2_points a2_colours a2_count a2_units a3_count a3_rows  n13 t_foundCount_7 t_ranks_7 t_found_7 (0 : Int32) hw H locs hP hD hS ls (lv_sub hl [1, 3, 4, 0] rfl)

-- SwapOrbits$OrbitTable.build(LSwapOrbits$Plans;LSwapOrbits$Moves;)V
abbrev rm_Table_build : Room := { frames := 3, cells := 0, slots := 0, locals := 71 }
abbrev QM_Table_build (dC : Nat → ClassId) (dI : Nat → Nat → Nat) (cI cZ : ClassId) (h_t h_t_ranks h_t_heads h_t_sizes h_t_found h_a1 h_a1_units h_a2 h_a2_rows : Nat) (a1_points : Int32) (a1_colours : Int32) (a1_count : Int32) (a1_units : Nat → Int32) (a2_count : Int32) (a2_rows : Nat → Int32) (post : Int32 → Int32 → (Nat → Int32) → (Nat → Int32) → (Nat → Int32) → (Nat → Int32) → Prop) (A : Nat → Prop) : Array Value → State → Outcome → State → Prop := va_Qv (fun u : Int32 × Int32 × (Nat → Int32) × (Nat → Int32) × (Nat → Int32) × (Nat → Int32) => post u.1 u.2.1 u.2.2.1 u.2.2.2.1 u.2.2.2.2.1 u.2.2.2.2.2) (fun u t => va_P (dC, dI) classes [(h_t, .inr (5, [.ref h_t_ranks, .ref h_t_heads, .ref h_t_sizes, .ref h_t_found, .int u.1, .int u.2.1])), (h_t_ranks, .inl (cI, 16384, .inl u.2.2.1)), (h_t_heads, .inl (cI, 16384, .inl u.2.2.2.1)), (h_t_sizes, .inl (cI, 16384, .inl u.2.2.2.2.1)), (h_t_found, .inl (cI, 16384, .inl u.2.2.2.2.2)), (h_a1, .inr (4, [.ref h_a1_units, .int a1_points, .int a1_colours, .int a1_count])), (h_a1_units, .inl (cI, 8, .inl a1_units)), (h_a2, .inr (1, [.ref h_a2_rows, .int a2_count])), (h_a2_rows, .inl (cI, 5, .inl a2_rows))] t.heap ∧ va_D A [(h_t, .inr (5, [.ref h_t_ranks, .ref h_t_heads, .ref h_t_sizes, .ref h_t_found, .int u.1, .int u.2.1])), (h_t_ranks, .inl (cI, 16384, .inl u.2.2.1)), (h_t_heads, .inl (cI, 16384, .inl u.2.2.2.1)), (h_t_sizes, .inl (cI, 16384, .inl u.2.2.2.2.1)), (h_t_found, .inl (cI, 16384, .inl u.2.2.2.2.2)), (h_a1, .inr (4, [.ref h_a1_units, .int a1_points, .int a1_colours, .int a1_count])), (h_a1_units, .inl (cI, 8, .inl a1_units)), (h_a2, .inr (1, [.ref h_a2_rows, .int a2_count])), (h_a2_rows, .inl (cI, 5, .inl a2_rows))]) A
def L_Table_build_15b (post : Int32 → Int32 → (Nat → Int32) → (Nat → Int32) → (Nat → Int32) → (Nat → Int32) → Prop) (a1_points : Int32) (a1_colours : Int32) (a1_count : Int32) (a1_units : Nat → Int32) (a2_count : Int32) (a2_rows : Nat → Int32) (K15 : Int32 → Int32 → (Nat → Int32) → (Nat → Int32) → (Nat → Int32) → (Nat → Int32) → Int32 → Prop) (t_foundCount : Int32) (t_count : Int32) (t_ranks : Nat → Int32) (t_heads : Nat → Int32) (t_sizes : Nat → Int32) (t_found : Nat → Int32) (v3 : Int32) : Prop := (a1_count ≤ v3 → post t_foundCount t_count t_ranks t_heads t_sizes t_found) ∧ (¬ a1_count ≤ v3 → wp_Table_isCell (fun r24 => (r24 = 0 → post t_foundCount t_count t_ranks t_heads t_sizes t_found) ∧ (¬ r24 = 0 → vp_in v3 16384 ∧ (((t_ranks v3.toNatClampNeg) = (-1 : Int32) → wp_Table_isCell (fun r44 => (r44 = 0 → ∀ x3_86 : Int32, x3_86 = v3 + 1 → (K15 t_foundCount t_count t_ranks t_heads t_sizes t_found x3_86)) ∧ (¬ r44 = 0 → vp_in t_count 16384 ∧ (wp_Table_flood (fun r72 t_foundCount_72 t_ranks_72 t_found_72 => vp_in t_count 16384 ∧ (∀ f83 : Int32, f83 = t_count + (1 : Int32) → (∀ x3_86 : Int32, x3_86 = v3 + 1 → (K15 t_foundCount_72 f83 t_ranks_72 (upd t_heads t_count.toNatClampNeg v3) (upd t_sizes t_count.toNatClampNeg r72) t_found_72 x3_86)))) t_count t_ranks t_found a1_points a1_colours a1_units a2_count a2_rows v3))) t_count) ∧ (¬ (t_ranks v3.toNatClampNeg) = (-1 : Int32) → ∀ x3_86 : Int32, x3_86 = v3 + 1 → (K15 t_foundCount t_count t_ranks t_heads t_sizes t_found x3_86))))) v3)
def L_Table_build_15 (post : Int32 → Int32 → (Nat → Int32) → (Nat → Int32) → (Nat → Int32) → (Nat → Int32) → Prop) (a1_points : Int32) (a1_colours : Int32) (a1_count : Int32) (a1_units : Nat → Int32) (a2_count : Int32) (a2_rows : Nat → Int32) : Nat → Int32 → Int32 → (Nat → Int32) → (Nat → Int32) → (Nat → Int32) → (Nat → Int32) → Int32 → Prop
  | 0, _, _, _, _, _, _, _ => False
  | n + 1, t_foundCount, t_count, t_ranks, t_heads, t_sizes, t_found, v3 => L_Table_build_15b post a1_points a1_colours a1_count a1_units a2_count a2_rows (L_Table_build_15 post a1_points a1_colours a1_count a1_units a2_count a2_rows n) t_foundCount t_count t_ranks t_heads t_sizes t_found v3
def wp_Table_build (post : Int32 → Int32 → (Nat → Int32) → (Nat → Int32) → (Nat → Int32) → (Nat → Int32) → Prop) (t_foundCount : Int32) (t_ranks : Nat → Int32) (t_heads : Nat → Int32) (t_sizes : Nat → Int32) (t_found : Nat → Int32) (a1_points : Int32) (a1_colours : Int32) (a1_count : Int32) (a1_units : Nat → Int32) (a2_count : Int32) (a2_rows : Nat → Int32) : Prop := wp_Arrays_fill (fun t_ranks_10 => ∃ n, L_Table_build_15 post a1_points a1_colours a1_count a1_units a2_count a2_rows n t_foundCount (0 : Int32) t_ranks_10 t_heads t_sizes t_found (0 : Int32)) 16384 t_ranks (-1 : Int32)
set_option maxHeartbeats 4000000 in
set_option maxRecDepth 100000 in
theorem qL_Table_build_15 {p : Program} {l : Launch} {e : Env} {s : State} {m : MethodId} {args : Array Value} {below : List Frame} {meth : Method} {c : Code} {dC : Nat → ClassId} {dI : Nat → Nat → Nat} {cI cZ : ClassId} (C : CX p s m args meth c R_Table b_Table_build 4 none (dC, dI) cI cZ) {h_t h_t_ranks h_t_heads h_t_sizes h_t_found h_a1 h_a1_units h_a2 h_a2_rows : Nat} {A : Nat → Prop} (hA : ∀ q : Nat, s.heap.size ≤ q → A q) (post : Int32 → Int32 → (Nat → Int32) → (Nat → Int32) → (Nat → Int32) → (Nat → Int32) → Prop) (a1_points : Int32) (a1_colours : Int32) (a1_count : Int32) (a1_units : Nat → Int32) (a2_count : Int32) (a2_rows : Nat → Int32) : ∀ (n : Nat) (t_foundCount : Int32) (t_count : Int32) (t_ranks : Nat → Int32) (t_heads : Nat → Int32) (t_sizes : Nat → Int32) (t_found : Nat → Int32) (v3 : Int32) , L_Table_build_15 post a1_points a1_colours a1_count a1_units a2_count a2_rows n t_foundCount t_count t_ranks t_heads t_sizes t_found v3 → ∀ (H : Heap) (locs : List Loc), va_P (dC, dI) classes [(h_t, .inr (5, [.ref h_t_ranks, .ref h_t_heads, .ref h_t_sizes, .ref h_t_found, .int t_foundCount, .int t_count])), (h_t_ranks, .inl (cI, 16384, .inl t_ranks)), (h_t_heads, .inl (cI, 16384, .inl t_heads)), (h_t_sizes, .inl (cI, 16384, .inl t_sizes)), (h_t_found, .inl (cI, 16384, .inl t_found)), (h_a1, .inr (4, [.ref h_a1_units, .int a1_points, .int a1_colours, .int a1_count])), (h_a1_units, .inl (cI, 8, .inl a1_units)), (h_a2, .inr (1, [.ref h_a2_rows, .int a2_count])), (h_a2_rows, .inl (cI, 5, .inl a2_rows))] H → va_D A [(h_t, .inr (5, [.ref h_t_ranks, .ref h_t_heads, .ref h_t_sizes, .ref h_t_found, .int t_foundCount, .int t_count])), (h_t_ranks, .inl (cI, 16384, .inl t_ranks)), (h_t_heads, .inl (cI, 16384, .inl t_heads)), (h_t_sizes, .inl (cI, 16384, .inl t_sizes)), (h_t_found, .inl (cI, 16384, .inl t_found)), (h_a1, .inr (4, [.ref h_a1_units, .int a1_points, .int a1_colours, .int a1_count])), (h_a1_units, .inl (cI, 8, .inl a1_units)), (h_a2, .inr (1, [.ref h_a2_rows, .int a2_count])), (h_a2_rows, .inl (cI, 5, .inl a2_rows))] → va_S A s.heap H locs → ∀ (ls : Array Slot), lv_has ls 4 [(0, .ref h_t), (1, .ref h_a1), (2, .ref h_a2), (3, .int v3)] → W p l e rm_Table_build s m args below meth c H locs 0 0 (MQ below (QM_Table_build dC dI cI cZ h_t h_t_ranks h_t_heads h_t_sizes h_t_found h_a1 h_a1_units h_a2 h_a2_rows a1_points a1_colours a1_count a1_units a2_count a2_rows post A) args s 0 0 A) (F0 m 15 ls []) := by
  obtain ⟨hx, hb, hr, hml, hown, hts, hlocks, hE⟩ := id C
  intro n
  induction n with
  | zero =>
    intro t_foundCount t_count t_ranks t_heads t_sizes t_found v3 hw
    exact (show False from hw).elim
  | succ n ih =>
    intro t_foundCount t_count t_ranks t_heads t_sizes t_found v3 hw H locs hP hD hS ls hl
    have hw : L_Table_build_15b post a1_points a1_colours a1_count a1_units a2_count a2_rows (L_Table_build_15 post a1_points a1_colours a1_count a1_units a2_count a2_rows n) t_foundCount t_count t_ranks t_heads t_sizes t_found v3 := hw
    unfold L_Table_build_15b at hw
    refine lv_iload_n hx hb d_Table_build_15 rfl (lv_at hl 3 rfl) ?_
    refine lv_aload_n hx hb d_Table_build_16 rfl (lv_at hl 1 rfl) ?_
    refine va_getN (D := (dC, dI)) (ci := 4) (v := .int a1_count) (C := R_Plans) (T := F_Plans) (N := 4) hx hb hts i_Plans hown hE.1 hP 5 rfl rfl 3 (by decide) (va_Nw.use rfl (hE.2 _ kf_Table_34 rfl)) (fun _ h9 => h9) rfl d_Table_build_17 ?_
    refine lv_icmp_ge (tgt := 92) hx hb d_Table_build_20 (by decide) (fun c20 => ?_) (fun c20 => ?_)
    · have hw := hw.1 c20
      exact W.vret hx hb hr (fun t ht hW => ⟨⟨(t_foundCount, t_count, t_ranks, t_heads, t_sizes, t_found), rfl, hw, by rw [ht]; exact hP, hD⟩, hS.F ht⟩) hS.2.2 d_Table_build_92
    · have hw := hw.2 c20
      refine lv_iload_n hx hb d_Table_build_23 rfl (lv_at hl 3 rfl) ?_
      have hPc := hP.sub (ws' := []) [] rfl
      refine vp_callSi (va_Run.run (va_runS (As := [.int v3]) (rest := []) ⟨hx, hb, hml, hown, hts⟩ (met_Table_isCell l dC dI cI cZ  v3 _ hw) ⟨cB 1 hts kc_Table_isCell ki_Table kl_Table_37 hd_Table_isCell ⟨Nat.le_of_ble_eq_true rfl, Nat.le_of_ble_eq_true rfl⟩, hts _ ks_Table_isCell⟩ (preS_ro hE hPc) rfl rfl hl.1 rfl (lv_room (Nat.le_of_ble_eq_true rfl)) d_Table_build_24 ⟨Nat.le_of_ble_eq_true rfl, Nat.le_of_ble_eq_true rfl⟩)) (fun r24 hw => ?_)
      refine lv_if_eq (tgt := 92) hx hb d_Table_build_27 (by decide) (fun c27 => ?_) (fun c27 => ?_)
      · have hw := hw.1 c27
        exact W.vret hx hb hr (fun t ht hW => ⟨⟨(t_foundCount, t_count, t_ranks, t_heads, t_sizes, t_found), rfl, hw, by rw [ht]; exact hP, hD⟩, hS.F ht⟩) hS.2.2 d_Table_build_92
      · have hw := hw.2 c27
        refine lv_aload_n hx hb d_Table_build_30 rfl (lv_at hl 0 rfl) ?_
        refine va_get (D := (dC, dI)) (ci := 5) (v := .ref h_t_ranks) (C := R_Table) (T := F_Table) (N := 6) hx hb hts i_Table hown hE.1 hP 0 rfl rfl 0 (by decide) (hts _ kf_Table_9) (fun _ h9 => h9) rfl d_Table_build_31 ?_
        refine lv_iload_n hx hb d_Table_build_34 rfl (lv_at hl 3 rfl) ?_
        have hz := hw.1
        have hw := hw.2
        refine va_iald hx hb hE.1 hP 1 0 rfl rfl hz d_Table_build_35 ?_
        refine lv_iconst (v := (-1 : Int32)) hx hb d_Table_build_36 (by decide) ?_
        refine lv_icmp_ne (tgt := 86) hx hb d_Table_build_37 (by decide) (fun c37 => ?_) (fun c37 => ?_)
        · have hw := hw.2 c37
          obtain ⟨x3_86, ex3_86⟩ : ∃ y : Int32, y = v3 + 1 := ⟨_, rfl⟩
          have hw := hw x3_86 ex3_86
          refine lv_iinc (v := x3_86) (lv' := [(3, .int x3_86), (0, .ref h_t), (1, .ref h_a1), (2, .ref h_a2)]) hx hb d_Table_build_86 hl (k := 3) rfl (by rw [ex3_86]; rfl) (by decide) rfl (fun ls hl => ?_)
          refine lv_goto (tgt := 15) hx hb d_Table_build_89 (by decide) ?_
          exact ih t_foundCount t_count t_ranks t_heads t_sizes t_found x3_86 hw H locs hP hD hS ls (lv_sub hl [1, 2, 3, 0] rfl)
        · have hw := hw.1 c37
          refine lv_aload_n hx hb d_Table_build_40 rfl (lv_at hl 0 rfl) ?_
          refine va_get (D := (dC, dI)) (ci := 5) (v := .int t_count) (C := R_Table) (T := F_Table) (N := 6) hx hb hts i_Table hown hE.1 hP 0 rfl rfl 5 (by decide) (hts _ kf_Table_24) (fun _ h9 => h9) rfl d_Table_build_41 ?_
          have hPc := hP.sub (ws' := []) [] rfl
          refine vp_callSi (va_Run.run (va_runS (As := [.int t_count]) (rest := []) ⟨hx, hb, hml, hown, hts⟩ (met_Table_isCell l dC dI cI cZ  t_count _ hw) ⟨cB 1 hts kc_Table_isCell ki_Table kl_Table_37 hd_Table_isCell ⟨Nat.le_of_ble_eq_true rfl, Nat.le_of_ble_eq_true rfl⟩, hts _ ks_Table_isCell⟩ (preS_ro hE hPc) rfl rfl hl.1 rfl (lv_room (Nat.le_of_ble_eq_true rfl)) d_Table_build_44 ⟨Nat.le_of_ble_eq_true rfl, Nat.le_of_ble_eq_true rfl⟩)) (fun r44 hw => ?_)
          refine lv_if_eq (tgt := 86) hx hb d_Table_build_47 (by decide) (fun c47 => ?_) (fun c47 => ?_)
          · have hw := hw.1 c47
            obtain ⟨x3_86, ex3_86⟩ : ∃ y : Int32, y = v3 + 1 := ⟨_, rfl⟩
            have hw := hw x3_86 ex3_86
            refine lv_iinc (v := x3_86) (lv' := [(3, .int x3_86), (0, .ref h_t), (1, .ref h_a1), (2, .ref h_a2)]) hx hb d_Table_build_86 hl (k := 3) rfl (by rw [ex3_86]; rfl) (by decide) rfl (fun ls hl => ?_)
            refine lv_goto (tgt := 15) hx hb d_Table_build_89 (by decide) ?_
            exact ih t_foundCount t_count t_ranks t_heads t_sizes t_found x3_86 hw H locs hP hD hS ls (lv_sub hl [1, 2, 3, 0] rfl)
          · have hw := hw.2 c47
            refine lv_aload_n hx hb d_Table_build_50 rfl (lv_at hl 0 rfl) ?_
            refine va_get (D := (dC, dI)) (ci := 5) (v := .ref h_t_heads) (C := R_Table) (T := F_Table) (N := 6) hx hb hts i_Table hown hE.1 hP 0 rfl rfl 1 (by decide) (hts _ kf_Table_15) (fun _ h9 => h9) rfl d_Table_build_51 ?_
            refine lv_aload_n hx hb d_Table_build_54 rfl (lv_at hl 0 rfl) ?_
            refine va_get (D := (dC, dI)) (ci := 5) (v := .int t_count) (C := R_Table) (T := F_Table) (N := 6) hx hb hts i_Table hown hE.1 hP 0 rfl rfl 5 (by decide) (hts _ kf_Table_24) (fun _ h9 => h9) rfl d_Table_build_55 ?_
            refine lv_iload_n hx hb d_Table_build_58 rfl (lv_at hl 3 rfl) ?_
            have hz := hw.1
            have hw := hw.2
            refine va_iast hx hb hE.1 hP hD hS 2 0 rfl rfl hz d_Table_build_59 (fun H locs hP hD hS => ?_)
            have hP : va_P (dC, dI) classes [(h_t, .inr (5, [.ref h_t_ranks, .ref h_t_heads, .ref h_t_sizes, .ref h_t_found, .int t_foundCount, .int t_count])), (h_t_ranks, .inl (cI, 16384, .inl t_ranks)), (h_t_heads, .inl (cI, 16384, .inl (upd t_heads t_count.toNatClampNeg v3))), (h_t_sizes, .inl (cI, 16384, .inl t_sizes)), (h_t_found, .inl (cI, 16384, .inl t_found)), (h_a1, .inr (4, [.ref h_a1_units, .int a1_points, .int a1_colours, .int a1_count])), (h_a1_units, .inl (cI, 8, .inl a1_units)), (h_a2, .inr (1, [.ref h_a2_rows, .int a2_count])), (h_a2_rows, .inl (cI, 5, .inl a2_rows))] H := hP
            have hD : va_D A [(h_t, .inr (5, [.ref h_t_ranks, .ref h_t_heads, .ref h_t_sizes, .ref h_t_found, .int t_foundCount, .int t_count])), (h_t_ranks, .inl (cI, 16384, .inl t_ranks)), (h_t_heads, .inl (cI, 16384, .inl (upd t_heads t_count.toNatClampNeg v3))), (h_t_sizes, .inl (cI, 16384, .inl t_sizes)), (h_t_found, .inl (cI, 16384, .inl t_found)), (h_a1, .inr (4, [.ref h_a1_units, .int a1_points, .int a1_colours, .int a1_count])), (h_a1_units, .inl (cI, 8, .inl a1_units)), (h_a2, .inr (1, [.ref h_a2_rows, .int a2_count])), (h_a2_rows, .inl (cI, 5, .inl a2_rows))] := hD
            refine lv_aload_n hx hb d_Table_build_60 rfl (lv_at hl 0 rfl) ?_
            refine va_get (D := (dC, dI)) (ci := 5) (v := .ref h_t_sizes) (C := R_Table) (T := F_Table) (N := 6) hx hb hts i_Table hown hE.1 hP 0 rfl rfl 2 (by decide) (hts _ kf_Table_18) (fun _ h9 => h9) rfl d_Table_build_61 ?_
            refine lv_aload_n hx hb d_Table_build_64 rfl (lv_at hl 0 rfl) ?_
            refine va_get (D := (dC, dI)) (ci := 5) (v := .int t_count) (C := R_Table) (T := F_Table) (N := 6) hx hb hts i_Table hown hE.1 hP 0 rfl rfl 5 (by decide) (hts _ kf_Table_24) (fun _ h9 => h9) rfl d_Table_build_65 ?_
            refine lv_aload_n hx hb d_Table_build_68 rfl (lv_at hl 0 rfl) ?_
            refine lv_iload_n hx hb d_Table_build_69 rfl (lv_at hl 3 rfl) ?_
            refine lv_aload_n hx hb d_Table_build_70 rfl (lv_at hl 1 rfl) ?_
            refine lv_aload_n hx hb d_Table_build_71 rfl (lv_at hl 2 rfl) ?_
            have hPc := hP.sub (ws' := [(h_t, .inr (5, [.ref h_t_ranks, .ref h_t_heads, .ref h_t_sizes, .ref h_t_found, .int t_foundCount, .int t_count])), (h_t_ranks, .inl (cI, 16384, .inl t_ranks)), (h_t_heads, .inl (cI, 16384, .inl (upd t_heads t_count.toNatClampNeg v3))), (h_t_sizes, .inl (cI, 16384, .inl t_sizes)), (h_t_found, .inl (cI, 16384, .inl t_found)), (h_a1, .inr (4, [.ref h_a1_units, .int a1_points, .int a1_colours, .int a1_count])), (h_a1_units, .inl (cI, 8, .inl a1_units)), (h_a2, .inr (1, [.ref h_a2_rows, .int a2_count])), (h_a2_rows, .inl (cI, 5, .inl a2_rows))]) [0, 1, 2, 3, 4, 5, 6, 7, 8] rfl
            have hDc := hD.sub (ws' := [(h_t, .inr (5, [.ref h_t_ranks, .ref h_t_heads, .ref h_t_sizes, .ref h_t_found, .int t_foundCount, .int t_count])), (h_t_ranks, .inl (cI, 16384, .inl t_ranks)), (h_t_heads, .inl (cI, 16384, .inl (upd t_heads t_count.toNatClampNeg v3))), (h_t_sizes, .inl (cI, 16384, .inl t_sizes)), (h_t_found, .inl (cI, 16384, .inl t_found)), (h_a1, .inr (4, [.ref h_a1_units, .int a1_points, .int a1_colours, .int a1_count])), (h_a1_units, .inl (cI, 8, .inl a1_units)), (h_a2, .inr (1, [.ref h_a2_rows, .int a2_count])), (h_a2_rows, .inl (cI, 5, .inl a2_rows))]) [0, 1, 2, 3, 4, 5, 6, 7, 8] (by decide) rfl
            have hFc := va_free (wc := [(h_t, .inr (5, [.ref h_t_ranks, .ref h_t_heads, .ref h_t_sizes, .ref h_t_found, .int t_foundCount, .int t_count])), (h_t_ranks, .inl (cI, 16384, .inl t_ranks)), (h_t_heads, .inl (cI, 16384, .inl (upd t_heads t_count.toNatClampNeg v3))), (h_t_sizes, .inl (cI, 16384, .inl t_sizes)), (h_t_found, .inl (cI, 16384, .inl t_found)), (h_a1, .inr (4, [.ref h_a1_units, .int a1_points, .int a1_colours, .int a1_count])), (h_a1_units, .inl (cI, 8, .inl a1_units)), (h_a2, .inr (1, [.ref h_a2_rows, .int a2_count])), (h_a2_rows, .inl (cI, 5, .inl a2_rows))]) hD hS hA [0, 1, 2, 3, 4, 5, 6, 7, 8] rfl
            refine va_calli (va_runV (As := [.int v3, .ref h_a1, .ref h_a2]) (rest := [.int t_count, .ref h_t_sizes]) ⟨hx, hb, hml, hown, hts⟩ (met_Table_flood l dC dI cI cZ h_t h_t_ranks h_t_heads h_t_sizes h_t_found h_a1 h_a1_units h_a2 h_a2_rows H.size  t_foundCount t_count t_ranks (upd t_heads t_count.toNatClampNeg v3) t_sizes t_found a1_points a1_colours a1_count a1_units a2_count a2_rows v3 _ hw) ⟨cB 3 hts kc_Table_flood ki_Table kl_Table_41 hd_Table_flood ⟨Nat.le_of_ble_eq_true rfl, Nat.le_of_ble_eq_true rfl⟩, hts _ kn_Table_flood, hts _ ke_Table_flood⟩ (preV_mu hE hPc hDc (va_recv hE.1 hPc (ci := 5) (q0 := 0) rfl rfl)) rfl rfl hl.1 rfl (lv_room (Nat.le_of_ble_eq_true rfl)) d_Table_build_72 ⟨Nat.le_of_ble_eq_true rfl, Nat.le_of_ble_eq_true rfl⟩) hS (fun q _ h => hFc q h) hFc (fun r72 u t H locs ht hvm hw hB hz1 hk1 hS => ?_)
            obtain ⟨t_foundCount_72, t_ranks_72, t_found_72⟩ := u
            obtain ⟨hP1, hD1⟩ := hB
            rw [ht] at hP1
            try dsimp only at hw
            obtain ⟨hP, hD⟩ := va_join (wr := []) (w1 := [(h_t, .inr (5, [.ref h_t_ranks, .ref h_t_heads, .ref h_t_sizes, .ref h_t_found, .int t_foundCount_72, .int t_count])), (h_t_ranks, .inl (cI, 16384, .inl t_ranks_72)), (h_t_heads, .inl (cI, 16384, .inl (upd t_heads t_count.toNatClampNeg v3))), (h_t_sizes, .inl (cI, 16384, .inl t_sizes)), (h_t_found, .inl (cI, 16384, .inl t_found_72)), (h_a1, .inr (4, [.ref h_a1_units, .int a1_points, .int a1_colours, .int a1_count])), (h_a1_units, .inl (cI, 8, .inl a1_units)), (h_a2, .inr (1, [.ref h_a2_rows, .int a2_count])), (h_a2_rows, .inl (cI, 5, .inl a2_rows))]) hP hD [0, 1, 2, 3, 4, 5, 6, 7, 8] [] rfl rfl (by decide) (by decide) hk1 hFc hP1 hD1
            have hP : va_P (dC, dI) classes [(h_t, .inr (5, [.ref h_t_ranks, .ref h_t_heads, .ref h_t_sizes, .ref h_t_found, .int t_foundCount_72, .int t_count])), (h_t_ranks, .inl (cI, 16384, .inl t_ranks_72)), (h_t_heads, .inl (cI, 16384, .inl (upd t_heads t_count.toNatClampNeg v3))), (h_t_sizes, .inl (cI, 16384, .inl t_sizes)), (h_t_found, .inl (cI, 16384, .inl t_found_72)), (h_a1, .inr (4, [.ref h_a1_units, .int a1_points, .int a1_colours, .int a1_count])), (h_a1_units, .inl (cI, 8, .inl a1_units)), (h_a2, .inr (1, [.ref h_a2_rows, .int a2_count])), (h_a2_rows, .inl (cI, 5, .inl a2_rows))] H := hP.sub [0, 1, 2, 3, 4, 5, 6, 7, 8] rfl
            have hD : va_D A [(h_t, .inr (5, [.ref h_t_ranks, .ref h_t_heads, .ref h_t_sizes, .ref h_t_found, .int t_foundCount_72, .int t_count])), (h_t_ranks, .inl (cI, 16384, .inl t_ranks_72)), (h_t_heads, .inl (cI, 16384, .inl (upd t_heads t_count.toNatClampNeg v3))), (h_t_sizes, .inl (cI, 16384, .inl t_sizes)), (h_t_found, .inl (cI, 16384, .inl t_found_72)), (h_a1, .inr (4, [.ref h_a1_units, .int a1_points, .int a1_colours, .int a1_count])), (h_a1_units, .inl (cI, 8, .inl a1_units)), (h_a2, .inr (1, [.ref h_a2_rows, .int a2_count])), (h_a2_rows, .inl (cI, 5, .inl a2_rows))] := hD.sub [0, 1, 2, 3, 4, 5, 6, 7, 8] (by decide) rfl
            refine W.widen (k := 0) (n := 0) (Nat.le_refl _) (Nat.le_refl _) ?_
            have hz := hw.1
            have hw := hw.2
            refine va_iast hx hb hE.1 hP hD hS 3 0 rfl rfl hz d_Table_build_75 (fun H locs hP hD hS => ?_)
            have hP : va_P (dC, dI) classes [(h_t, .inr (5, [.ref h_t_ranks, .ref h_t_heads, .ref h_t_sizes, .ref h_t_found, .int t_foundCount_72, .int t_count])), (h_t_ranks, .inl (cI, 16384, .inl t_ranks_72)), (h_t_heads, .inl (cI, 16384, .inl (upd t_heads t_count.toNatClampNeg v3))), (h_t_sizes, .inl (cI, 16384, .inl (upd t_sizes t_count.toNatClampNeg r72))), (h_t_found, .inl (cI, 16384, .inl t_found_72)), (h_a1, .inr (4, [.ref h_a1_units, .int a1_points, .int a1_colours, .int a1_count])), (h_a1_units, .inl (cI, 8, .inl a1_units)), (h_a2, .inr (1, [.ref h_a2_rows, .int a2_count])), (h_a2_rows, .inl (cI, 5, .inl a2_rows))] H := hP
            have hD : va_D A [(h_t, .inr (5, [.ref h_t_ranks, .ref h_t_heads, .ref h_t_sizes, .ref h_t_found, .int t_foundCount_72, .int t_count])), (h_t_ranks, .inl (cI, 16384, .inl t_ranks_72)), (h_t_heads, .inl (cI, 16384, .inl (upd t_heads t_count.toNatClampNeg v3))), (h_t_sizes, .inl (cI, 16384, .inl (upd t_sizes t_count.toNatClampNeg r72))), (h_t_found, .inl (cI, 16384, .inl t_found_72)), (h_a1, .inr (4, [.ref h_a1_units, .int a1_points, .int a1_colours, .int a1_count])), (h_a1_units, .inl (cI, 8, .inl a1_units)), (h_a2, .inr (1, [.ref h_a2_rows, .int a2_count])), (h_a2_rows, .inl (cI, 5, .inl a2_rows))] := hD
            refine lv_aload_n hx hb d_Table_build_76 rfl (lv_at hl 0 rfl) ?_
            refine lv_dup hx hb d_Table_build_77 rfl ?_
            refine va_get (D := (dC, dI)) (ci := 5) (v := .int t_count) (C := R_Table) (T := F_Table) (N := 6) hx hb hts i_Table hown hE.1 hP 0 rfl rfl 5 (by decide) (hts _ kf_Table_24) (fun _ h9 => h9) rfl d_Table_build_78 ?_
            refine lv_iconst (v := (1 : Int32)) hx hb d_Table_build_81 (by decide) ?_
            refine lv_iadd hx hb d_Table_build_82 ?_
            refine lv_topi (fun f83 ef83 => ?_)
            have hw := hw f83 ef83
            refine va_put (D := (dC, dI)) (ci := 5) (v := .int f83) (ty := .int) (C := R_Table) (T := F_Table) (N := 6) hx hb hts i_Table t_Table t_Table_ok n_Table hown hE.1 hP hD hS 0 rfl rfl 5 (by decide) (hts _ kf_Table_24) (fun _ h9 => h9) rfl (by decide +kernel) rfl rfl (Nat.le_of_ble_eq_true rfl) d_Table_build_83 (fun H locs hP hD hS => ?_)
            have hP : va_P (dC, dI) classes [(h_t, .inr (5, [.ref h_t_ranks, .ref h_t_heads, .ref h_t_sizes, .ref h_t_found, .int t_foundCount_72, .int f83])), (h_t_ranks, .inl (cI, 16384, .inl t_ranks_72)), (h_t_heads, .inl (cI, 16384, .inl (upd t_heads t_count.toNatClampNeg v3))), (h_t_sizes, .inl (cI, 16384, .inl (upd t_sizes t_count.toNatClampNeg r72))), (h_t_found, .inl (cI, 16384, .inl t_found_72)), (h_a1, .inr (4, [.ref h_a1_units, .int a1_points, .int a1_colours, .int a1_count])), (h_a1_units, .inl (cI, 8, .inl a1_units)), (h_a2, .inr (1, [.ref h_a2_rows, .int a2_count])), (h_a2_rows, .inl (cI, 5, .inl a2_rows))] H := hP
            have hD : va_D A [(h_t, .inr (5, [.ref h_t_ranks, .ref h_t_heads, .ref h_t_sizes, .ref h_t_found, .int t_foundCount_72, .int f83])), (h_t_ranks, .inl (cI, 16384, .inl t_ranks_72)), (h_t_heads, .inl (cI, 16384, .inl (upd t_heads t_count.toNatClampNeg v3))), (h_t_sizes, .inl (cI, 16384, .inl (upd t_sizes t_count.toNatClampNeg r72))), (h_t_found, .inl (cI, 16384, .inl t_found_72)), (h_a1, .inr (4, [.ref h_a1_units, .int a1_points, .int a1_colours, .int a1_count])), (h_a1_units, .inl (cI, 8, .inl a1_units)), (h_a2, .inr (1, [.ref h_a2_rows, .int a2_count])), (h_a2_rows, .inl (cI, 5, .inl a2_rows))] := hD
            obtain ⟨x3_86, ex3_86⟩ : ∃ y : Int32, y = v3 + 1 := ⟨_, rfl⟩
            have hw := hw x3_86 ex3_86
            refine lv_iinc (v := x3_86) (lv' := [(3, .int x3_86), (0, .ref h_t), (1, .ref h_a1), (2, .ref h_a2)]) hx hb d_Table_build_86 hl (k := 3) rfl (by rw [ex3_86]; rfl) (by decide) rfl (fun ls hl => ?_)
            refine lv_goto (tgt := 15) hx hb d_Table_build_89 (by decide) ?_
            exact ih t_foundCount_72 f83 t_ranks_72 (upd t_heads t_count.toNatClampNeg v3) (upd t_sizes t_count.toNatClampNeg r72) t_found_72 x3_86 hw H locs hP hD hS ls (lv_sub hl [1, 2, 3, 0] rfl)
set_option maxHeartbeats 4000000 in
set_option maxRecDepth 100000 in
theorem met_Table_build (l : Launch) (dC : Nat → ClassId) (dI : Nat → Nat → Nat) (cI cZ : ClassId) (h_t h_t_ranks h_t_heads h_t_sizes h_t_found h_a1 h_a1_units h_a2 h_a2_rows : Nat) (sz : Nat) (t_foundCount : Int32) (t_count : Int32) (t_ranks : Nat → Int32) (t_heads : Nat → Int32) (t_sizes : Nat → Int32) (t_found : Nat → Int32) (a1_points : Int32) (a1_colours : Int32) (a1_count : Int32) (a1_units : Nat → Int32) (a2_count : Int32) (a2_rows : Nat → Int32) (post : Int32 → Int32 → (Nat → Int32) → (Nat → Int32) → (Nat → Int32) → (Nat → Int32) → Prop) (hw : wp_Table_build post t_foundCount t_ranks t_heads t_sizes t_found a1_points a1_colours a1_count a1_units a2_count a2_rows) : Met l y_Table_build (Cond.code y_Table_build b_Table_build 4 none :: gw) rm_Table_build (va_Pc [.ref h_t, .ref h_a1, .ref h_a2] (fun U => U.heap.size = sz ∧ EV (dC, dI) cI cZ U ∧ va_P (dC, dI) classes [(h_t, .inr (5, [.ref h_t_ranks, .ref h_t_heads, .ref h_t_sizes, .ref h_t_found, .int t_foundCount, .int t_count])), (h_t_ranks, .inl (cI, 16384, .inl t_ranks)), (h_t_heads, .inl (cI, 16384, .inl t_heads)), (h_t_sizes, .inl (cI, 16384, .inl t_sizes)), (h_t_found, .inl (cI, 16384, .inl t_found)), (h_a1, .inr (4, [.ref h_a1_units, .int a1_points, .int a1_colours, .int a1_count])), (h_a1_units, .inl (cI, 8, .inl a1_units)), (h_a2, .inr (1, [.ref h_a2_rows, .int a2_count])), (h_a2_rows, .inl (cI, 5, .inl a2_rows))] U.heap ∧ va_D (fun _ => True) [(h_t, .inr (5, [.ref h_t_ranks, .ref h_t_heads, .ref h_t_sizes, .ref h_t_found, .int t_foundCount, .int t_count])), (h_t_ranks, .inl (cI, 16384, .inl t_ranks)), (h_t_heads, .inl (cI, 16384, .inl t_heads)), (h_t_sizes, .inl (cI, 16384, .inl t_sizes)), (h_t_found, .inl (cI, 16384, .inl t_found)), (h_a1, .inr (4, [.ref h_a1_units, .int a1_points, .int a1_colours, .int a1_count])), (h_a1_units, .inl (cI, 8, .inl a1_units)), (h_a2, .inr (1, [.ref h_a2_rows, .int a2_count])), (h_a2_rows, .inl (cI, 5, .inl a2_rows))])) (QM_Table_build dC dI cI cZ h_t h_t_ranks h_t_heads h_t_sizes h_t_found h_a1 h_a1_units h_a2 h_a2_rows a1_points a1_colours a1_count a1_units a2_count a2_rows post (va_A [(h_t, .inr (5, [.ref h_t_ranks, .ref h_t_heads, .ref h_t_sizes, .ref h_t_found, .int t_foundCount, .int t_count])), (h_t_ranks, .inl (cI, 16384, .inl t_ranks)), (h_t_heads, .inl (cI, 16384, .inl t_heads)), (h_t_sizes, .inl (cI, 16384, .inl t_sizes)), (h_t_found, .inl (cI, 16384, .inl t_found)), (h_a1, .inr (4, [.ref h_a1_units, .int a1_points, .int a1_colours, .int a1_count])), (h_a1_units, .inl (cI, 8, .inl a1_units)), (h_a2, .inr (1, [.ref h_a2_rows, .int a2_count])), (h_a2_rows, .inl (cI, 5, .inl a2_rows))] sz)) 0 0 (va_A [(h_t, .inr (5, [.ref h_t_ranks, .ref h_t_heads, .ref h_t_sizes, .ref h_t_found, .int t_foundCount, .int t_count])), (h_t_ranks, .inl (cI, 16384, .inl t_ranks)), (h_t_heads, .inl (cI, 16384, .inl t_heads)), (h_t_sizes, .inl (cI, 16384, .inl t_sizes)), (h_t_found, .inl (cI, 16384, .inl t_found)), (h_a1, .inr (4, [.ref h_a1_units, .int a1_points, .int a1_colours, .int a1_count])), (h_a1_units, .inl (cI, 8, .inl a1_units)), (h_a2, .inr (1, [.ref h_a2_rows, .int a2_count])), (h_a2_rows, .inl (cI, 5, .inl a2_rows))] sz) := by
  refine Met.ofW (cc := b_Table_build) (maxL := 4) (ret := none) (by decide) rfl ?_
  intro p e s m args below meth c s₁ B hml hv
  obtain ⟨rfl, hsz, hE, hP, hD0⟩ := hv
  have C := CX.of (own := R_Table) (D := (dC, dI)) (cI := cI) (cZ := cZ) B hml rfl hE
  obtain ⟨hx, hb, hr, -, hown, hts, hlocks, -⟩ := id C
  subst hsz
  have hD := hD0.self (sz := s.heap.size)
  generalize hAe : va_A [(h_t, .inr (5, [.ref h_t_ranks, .ref h_t_heads, .ref h_t_sizes, .ref h_t_found, .int t_foundCount, .int t_count])), (h_t_ranks, .inl (cI, 16384, .inl t_ranks)), (h_t_heads, .inl (cI, 16384, .inl t_heads)), (h_t_sizes, .inl (cI, 16384, .inl t_sizes)), (h_t_found, .inl (cI, 16384, .inl t_found)), (h_a1, .inr (4, [.ref h_a1_units, .int a1_points, .int a1_colours, .int a1_count])), (h_a1_units, .inl (cI, 8, .inl a1_units)), (h_a2, .inr (1, [.ref h_a2_rows, .int a2_count])), (h_a2_rows, .inl (cI, 5, .inl a2_rows))] s.heap.size = A at hD ⊢
  have hA : ∀ q : Nat, s.heap.size ≤ q → A q := fun q h => by rw [← hAe]; exact Or.inr h
  have hS : va_S A s.heap s.heap [] := va_S.rf
  have hP : va_P (dC, dI) classes [(h_t, .inr (5, [.ref h_t_ranks, .ref h_t_heads, .ref h_t_sizes, .ref h_t_found, .int t_foundCount, .int t_count])), (h_t_ranks, .inl (cI, 16384, .inl t_ranks)), (h_t_heads, .inl (cI, 16384, .inl t_heads)), (h_t_sizes, .inl (cI, 16384, .inl t_sizes)), (h_t_found, .inl (cI, 16384, .inl t_found)), (h_a1, .inr (4, [.ref h_a1_units, .int a1_points, .int a1_colours, .int a1_count])), (h_a1_units, .inl (cI, 8, .inl a1_units)), (h_a2, .inr (1, [.ref h_a2_rows, .int a2_count])), (h_a2_rows, .inl (cI, 5, .inl a2_rows))] s.heap := hP
  have hl := lv_entry ([.ref h_t, .ref h_a1, .ref h_a2]) (n := 4) (Nat.le_of_ble_eq_true rfl)
  rw [lg_entry_eq]
  generalize (lg_sl ([.ref h_t, .ref h_a1, .ref h_a2]) ++ List.replicate (4 - (lg_sl ([.ref h_t, .ref h_a1, .ref h_a2])).length) Slot.unset).toArray = ls at hl ⊢
  have hl : lv_has ls 4 [(0, .ref h_t), (1, .ref h_a1), (2, .ref h_a2)] := hl
  refine keyL (P := fun H locs => va_P (dC, dI) classes [(h_t, .inr (5, [.ref h_t_ranks, .ref h_t_heads, .ref h_t_sizes, .ref h_t_found, .int t_foundCount, .int t_count])), (h_t_ranks, .inl (cI, 16384, .inl t_ranks)), (h_t_heads, .inl (cI, 16384, .inl t_heads)), (h_t_sizes, .inl (cI, 16384, .inl t_sizes)), (h_t_found, .inl (cI, 16384, .inl t_found)), (h_a1, .inr (4, [.ref h_a1_units, .int a1_points, .int a1_colours, .int a1_count])), (h_a1_units, .inl (cI, 8, .inl a1_units)), (h_a2, .inr (1, [.ref h_a2_rows, .int a2_count])), (h_a2_rows, .inl (cI, 5, .inl a2_rows))] H ∧ va_D A [(h_t, .inr (5, [.ref h_t_ranks, .ref h_t_heads, .ref h_t_sizes, .ref h_t_found, .int t_foundCount, .int t_count])), (h_t_ranks, .inl (cI, 16384, .inl t_ranks)), (h_t_heads, .inl (cI, 16384, .inl t_heads)), (h_t_sizes, .inl (cI, 16384, .inl t_sizes)), (h_t_found, .inl (cI, 16384, .inl t_found)), (h_a1, .inr (4, [.ref h_a1_units, .int a1_points, .int a1_colours, .int a1_count])), (h_a1_units, .inl (cI, 8, .inl a1_units)), (h_a2, .inr (1, [.ref h_a2_rows, .int a2_count])), (h_a2_rows, .inl (cI, 5, .inl a2_rows))] ∧ va_S A s.heap H locs) ⟨hP, hD, hS⟩ (fun H locs hPP => ?_)
  clear hP hD hS
  obtain ⟨hP, hD, hS⟩ := hPP
  unfold wp_Table_build at hw
  refine lv_aload_n hx hb d_Table_build_0 rfl (lv_at hl 0 rfl) ?_
  refine lv_iconst (v := (0 : Int32)) hx hb d_Table_build_1 (by decide) ?_
  refine va_put (D := (dC, dI)) (ci := 5) (v := .int (0 : Int32)) (ty := .int) (C := R_Table) (T := F_Table) (N := 6) hx hb hts i_Table t_Table t_Table_ok n_Table hown hE.1 hP hD hS 0 rfl rfl 5 (by decide) (hts _ kf_Table_24) (fun _ h9 => h9) rfl (by decide +kernel) rfl rfl (Nat.le_of_ble_eq_true rfl) d_Table_build_2 (fun H locs hP hD hS => ?_)
  have hP : va_P (dC, dI) classes [(h_t, .inr (5, [.ref h_t_ranks, .ref h_t_heads, .ref h_t_sizes, .ref h_t_found, .int t_foundCount, .int (0 : Int32)])), (h_t_ranks, .inl (cI, 16384, .inl t_ranks)), (h_t_heads, .inl (cI, 16384, .inl t_heads)), (h_t_sizes, .inl (cI, 16384, .inl t_sizes)), (h_t_found, .inl (cI, 16384, .inl t_found)), (h_a1, .inr (4, [.ref h_a1_units, .int a1_points, .int a1_colours, .int a1_count])), (h_a1_units, .inl (cI, 8, .inl a1_units)), (h_a2, .inr (1, [.ref h_a2_rows, .int a2_count])), (h_a2_rows, .inl (cI, 5, .inl a2_rows))] H := hP
  have hD : va_D A [(h_t, .inr (5, [.ref h_t_ranks, .ref h_t_heads, .ref h_t_sizes, .ref h_t_found, .int t_foundCount, .int (0 : Int32)])), (h_t_ranks, .inl (cI, 16384, .inl t_ranks)), (h_t_heads, .inl (cI, 16384, .inl t_heads)), (h_t_sizes, .inl (cI, 16384, .inl t_sizes)), (h_t_found, .inl (cI, 16384, .inl t_found)), (h_a1, .inr (4, [.ref h_a1_units, .int a1_points, .int a1_colours, .int a1_count])), (h_a1_units, .inl (cI, 8, .inl a1_units)), (h_a2, .inr (1, [.ref h_a2_rows, .int a2_count])), (h_a2_rows, .inl (cI, 5, .inl a2_rows))] := hD
  refine lv_aload_n hx hb d_Table_build_5 rfl (lv_at hl 0 rfl) ?_
  refine va_get (D := (dC, dI)) (ci := 5) (v := .ref h_t_ranks) (C := R_Table) (T := F_Table) (N := 6) hx hb hts i_Table hown hE.1 hP 0 rfl rfl 0 (by decide) (hts _ kf_Table_9) (fun _ h9 => h9) rfl d_Table_build_6 ?_
  refine lv_iconst (v := (-1 : Int32)) hx hb d_Table_build_9 (by decide) ?_
  have hPc := hP.sub (ws' := [(h_t_ranks, .inl (cI, 16384, .inl t_ranks))]) [1] rfl
  have hDc := hD.sub (ws' := [(h_t_ranks, .inl (cI, 16384, .inl t_ranks))]) [1] (by decide) rfl
  have hFc := va_free (wc := [(h_t_ranks, .inl (cI, 16384, .inl t_ranks))]) hD hS hA [1] rfl
  refine va_callv (va_runS (As := [.ref h_t_ranks, .int (-1 : Int32)]) (rest := []) ⟨hx, hb, hml, hown, hts⟩ (met_Arrays_fill l dC dI cI cZ h_t_ranks H.size  16384 t_ranks (-1 : Int32) _ hw) ⟨cB 2 hts kc_Arrays_fill ki_Arrays kl_Table_28 hd_Arrays_fill ⟨Nat.le_of_ble_eq_true rfl, Nat.le_of_ble_eq_true rfl⟩, hts _ ks_Arrays_fill⟩ (preS_mu hE hPc hDc) rfl rfl hl.1 rfl (lv_room (Nat.le_of_ble_eq_true rfl)) d_Table_build_10 ⟨Nat.le_of_ble_eq_true rfl, Nat.le_of_ble_eq_true rfl⟩) hS (fun q _ h => hFc q h) hFc (fun u t H locs ht hvm hw hB hz1 hk1 hS => ?_)
  obtain ⟨t_ranks_10, rfl⟩ : ∃ z, z = u := ⟨_, rfl⟩
  obtain ⟨hP1, hD1⟩ := hB
  rw [ht] at hP1
  try dsimp only at hw
  obtain ⟨hP, hD⟩ := va_join (wr := [(h_t, .inr (5, [.ref h_t_ranks, .ref h_t_heads, .ref h_t_sizes, .ref h_t_found, .int t_foundCount, .int (0 : Int32)])), (h_t_heads, .inl (cI, 16384, .inl t_heads)), (h_t_sizes, .inl (cI, 16384, .inl t_sizes)), (h_t_found, .inl (cI, 16384, .inl t_found)), (h_a1, .inr (4, [.ref h_a1_units, .int a1_points, .int a1_colours, .int a1_count])), (h_a1_units, .inl (cI, 8, .inl a1_units)), (h_a2, .inr (1, [.ref h_a2_rows, .int a2_count])), (h_a2_rows, .inl (cI, 5, .inl a2_rows))]) (w1 := [(h_t_ranks, .inl (cI, 16384, .inl t_ranks_10))]) hP hD [1] [0, 2, 3, 4, 5, 6, 7, 8] rfl rfl (by decide) (by decide) hk1 hFc hP1 hD1
  have hP : va_P (dC, dI) classes [(h_t, .inr (5, [.ref h_t_ranks, .ref h_t_heads, .ref h_t_sizes, .ref h_t_found, .int t_foundCount, .int (0 : Int32)])), (h_t_ranks, .inl (cI, 16384, .inl t_ranks_10)), (h_t_heads, .inl (cI, 16384, .inl t_heads)), (h_t_sizes, .inl (cI, 16384, .inl t_sizes)), (h_t_found, .inl (cI, 16384, .inl t_found)), (h_a1, .inr (4, [.ref h_a1_units, .int a1_points, .int a1_colours, .int a1_count])), (h_a1_units, .inl (cI, 8, .inl a1_units)), (h_a2, .inr (1, [.ref h_a2_rows, .int a2_count])), (h_a2_rows, .inl (cI, 5, .inl a2_rows))] H := hP.sub [0, 8, 1, 2, 3, 4, 5, 6, 7] rfl
  have hD : va_D A [(h_t, .inr (5, [.ref h_t_ranks, .ref h_t_heads, .ref h_t_sizes, .ref h_t_found, .int t_foundCount, .int (0 : Int32)])), (h_t_ranks, .inl (cI, 16384, .inl t_ranks_10)), (h_t_heads, .inl (cI, 16384, .inl t_heads)), (h_t_sizes, .inl (cI, 16384, .inl t_sizes)), (h_t_found, .inl (cI, 16384, .inl t_found)), (h_a1, .inr (4, [.ref h_a1_units, .int a1_points, .int a1_colours, .int a1_count])), (h_a1_units, .inl (cI, 8, .inl a1_units)), (h_a2, .inr (1, [.ref h_a2_rows, .int a2_count])), (h_a2_rows, .inl (cI, 5, .inl a2_rows))] := hD.sub [0, 8, 1, 2, 3, 4, 5, 6, 7] (by decide) rfl
  refine W.widen (k := 0) (n := 0) (Nat.le_refl _) (Nat.le_refl _) ?_
  refine lv_iconst (v := (0 : Int32)) hx hb d_Table_build_13 (by decide) ?_
  refine lv_istore_n (lv' := [(3, .int (0 : Int32)), (0, .ref h_t), (1, .ref h_a1), (2, .ref h_a2)]) hx hb d_Table_build_14 rfl hl (by decide) rfl (fun ls hl => ?_)
  obtain ⟨n15, hw⟩ := hw
  exact qL_Table_build_15 C hA post  a1_points a1_colours a1_count a1_units a2_count a2_rows  n15 t_foundCount (0 : Int32) t_ranks_10 t_heads t_sizes t_found (0 : Int32) hw H locs hP hD hS ls (lv_sub hl [1, 2, 3, 0] rfl)

-- SwapOrbits$OrbitTable.rankOf(I)I
abbrev rm_Table_rankOf : Room := { frames := 1, cells := 0, slots := 0, locals := 20 }
def wp_Table_rankOf (post : Int32 → Prop) (t_ranks : Nat → Int32) (a1 : Int32) : Prop := wp_Table_isCell (fun r1 => (r1 = 0 → post (-1 : Int32)) ∧ (¬ r1 = 0 → vp_in a1 16384 ∧ (post (t_ranks a1.toNatClampNeg)))) a1
set_option maxHeartbeats 4000000 in
set_option maxRecDepth 100000 in
theorem met_Table_rankOf (l : Launch) (dC : Nat → ClassId) (dI : Nat → Nat → Nat) (cI cZ : ClassId) (h_t h_t_ranks h_t_heads h_t_sizes h_t_found : Nat) (t_foundCount : Int32) (t_count : Int32) (t_ranks : Nat → Int32) (t_heads : Nat → Int32) (t_sizes : Nat → Int32) (t_found : Nat → Int32) (a1 : Int32) (post : Int32 → Prop) (hw : wp_Table_rankOf post t_ranks a1) : Met l y_Table_rankOf (Cond.code y_Table_rankOf b_Table_rankOf 2 (some .int) :: gw) rm_Table_rankOf (va_Pc [.ref h_t, .int a1] (fun U => EV (dC, dI) cI cZ U ∧ va_P (dC, dI) classes [(h_t, .inr (5, [.ref h_t_ranks, .ref h_t_heads, .ref h_t_sizes, .ref h_t_found, .int t_foundCount, .int t_count])), (h_t_ranks, .inl (cI, 16384, .inl t_ranks)), (h_t_heads, .inl (cI, 16384, .inl t_heads)), (h_t_sizes, .inl (cI, 16384, .inl t_sizes)), (h_t_found, .inl (cI, 16384, .inl t_found))] U.heap)) (vp_Si post) 0 0 (fun _ => False) := by
  refine Met.ofW (cc := b_Table_rankOf) (maxL := 2) (ret := (some .int)) (by decide) rfl ?_
  intro p e s m args below meth c s₁ B hml hv
  obtain ⟨rfl, hE, hP⟩ := hv
  have C := CX.of (own := R_Table) (D := (dC, dI)) (cI := cI) (cZ := cZ) B hml rfl hE
  obtain ⟨hx, hb, hr, -, hown, hts, hlocks, -⟩ := id C
  have hl := lv_entry ([.ref h_t, .int a1]) (n := 2) (Nat.le_of_ble_eq_true rfl)
  rw [lg_entry_eq]
  generalize (lg_sl ([.ref h_t, .int a1]) ++ List.replicate (2 - (lg_sl ([.ref h_t, .int a1])).length) Slot.unset).toArray = ls at hl ⊢
  have hl : lv_has ls 2 [(0, .ref h_t), (1, .int a1)] := hl
  unfold wp_Table_rankOf at hw
  refine lv_iload_n hx hb d_Table_rankOf_0 rfl (lv_at hl 1 rfl) ?_
  have hPc := hP.sub (ws' := []) [] rfl
  refine vp_callSi (va_Run.run (va_runS (As := [.int a1]) (rest := []) ⟨hx, hb, hml, hown, hts⟩ (met_Table_isCell l dC dI cI cZ  a1 _ hw) ⟨cB 1 hts kc_Table_isCell ki_Table kl_Table_37 hd_Table_isCell ⟨Nat.le_of_ble_eq_true rfl, Nat.le_of_ble_eq_true rfl⟩, hts _ ks_Table_isCell⟩ (preS_ro hE hPc) rfl rfl hl.1 rfl (lv_room (Nat.le_of_ble_eq_true rfl)) d_Table_rankOf_1 ⟨Nat.le_of_ble_eq_true rfl, Nat.le_of_ble_eq_true rfl⟩)) (fun r1 hw => ?_)
  refine lv_if_eq (tgt := 16) hx hb d_Table_rankOf_4 (by decide) (fun c4 => ?_) (fun c4 => ?_)
  · have hw := hw.1 c4
    refine lv_iconst (v := (-1 : Int32)) hx hb d_Table_rankOf_16 (by decide) ?_
    exact W.iret (v := (-1 : Int32)) hx hb hr (fun t ht hW => ⟨(-1 : Int32), rfl, hw, by rw [ht]⟩) (fun _ h => by cases h) d_Table_rankOf_17
  · have hw := hw.2 c4
    refine lv_aload_n hx hb d_Table_rankOf_7 rfl (lv_at hl 0 rfl) ?_
    refine va_get (D := (dC, dI)) (ci := 5) (v := .ref h_t_ranks) (C := R_Table) (T := F_Table) (N := 6) hx hb hts i_Table hown hE.1 hP 0 rfl rfl 0 (by decide) (hts _ kf_Table_9) (fun _ h9 => h9) rfl d_Table_rankOf_8 ?_
    refine lv_iload_n hx hb d_Table_rankOf_11 rfl (lv_at hl 1 rfl) ?_
    have hz := hw.1
    have hw := hw.2
    refine va_iald hx hb hE.1 hP 1 0 rfl rfl hz d_Table_rankOf_12 ?_
    refine lv_goto (tgt := 17) hx hb d_Table_rankOf_13 (by decide) ?_
    exact W.iret (v := (t_ranks a1.toNatClampNeg)) hx hb hr (fun t ht hW => ⟨(t_ranks a1.toNatClampNeg), rfl, hw, by rw [ht]⟩) (fun _ h => by cases h) d_Table_rankOf_17

-- SwapOrbits$OrbitTable.headAt(I)I
abbrev rm_Table_headAt : Room := { frames := 0, cells := 0, slots := 0, locals := 0 }
def wp_Table_headAt (post : Int32 → Prop) (t_count : Int32) (t_heads : Nat → Int32) (a1 : Int32) : Prop := (a1 < 0 → post (-1 : Int32)) ∧ (¬ a1 < 0 → (t_count ≤ a1 → post (-1 : Int32)) ∧ (¬ t_count ≤ a1 → vp_in a1 16384 ∧ (post (t_heads a1.toNatClampNeg))))
set_option maxHeartbeats 4000000 in
set_option maxRecDepth 100000 in
theorem met_Table_headAt (l : Launch) (dC : Nat → ClassId) (dI : Nat → Nat → Nat) (cI cZ : ClassId) (h_t h_t_ranks h_t_heads h_t_sizes h_t_found : Nat) (t_foundCount : Int32) (t_count : Int32) (t_ranks : Nat → Int32) (t_heads : Nat → Int32) (t_sizes : Nat → Int32) (t_found : Nat → Int32) (a1 : Int32) (post : Int32 → Prop) (hw : wp_Table_headAt post t_count t_heads a1) : Met l y_Table_headAt (Cond.code y_Table_headAt b_Table_headAt 2 (some .int) :: gw) rm_Table_headAt (va_Pc [.ref h_t, .int a1] (fun U => EV (dC, dI) cI cZ U ∧ va_P (dC, dI) classes [(h_t, .inr (5, [.ref h_t_ranks, .ref h_t_heads, .ref h_t_sizes, .ref h_t_found, .int t_foundCount, .int t_count])), (h_t_ranks, .inl (cI, 16384, .inl t_ranks)), (h_t_heads, .inl (cI, 16384, .inl t_heads)), (h_t_sizes, .inl (cI, 16384, .inl t_sizes)), (h_t_found, .inl (cI, 16384, .inl t_found))] U.heap)) (vp_Si post) 0 0 (fun _ => False) := by
  refine Met.ofW (cc := b_Table_headAt) (maxL := 2) (ret := (some .int)) (by decide) rfl ?_
  intro p e s m args below meth c s₁ B hml hv
  obtain ⟨rfl, hE, hP⟩ := hv
  have C := CX.of (own := R_Table) (D := (dC, dI)) (cI := cI) (cZ := cZ) B hml rfl hE
  obtain ⟨hx, hb, hr, -, hown, hts, hlocks, -⟩ := id C
  have hl := lv_entry ([.ref h_t, .int a1]) (n := 2) (Nat.le_of_ble_eq_true rfl)
  rw [lg_entry_eq]
  generalize (lg_sl ([.ref h_t, .int a1]) ++ List.replicate (2 - (lg_sl ([.ref h_t, .int a1])).length) Slot.unset).toArray = ls at hl ⊢
  have hl : lv_has ls 2 [(0, .ref h_t), (1, .int a1)] := hl
  unfold wp_Table_headAt at hw
  refine lv_iload_n hx hb d_Table_headAt_0 rfl (lv_at hl 1 rfl) ?_
  refine lv_if_lt (tgt := 21) hx hb d_Table_headAt_1 (by decide) (fun c1 => ?_) (fun c1 => ?_)
  · have hw := hw.1 c1
    refine lv_iconst (v := (-1 : Int32)) hx hb d_Table_headAt_21 (by decide) ?_
    exact W.iret (v := (-1 : Int32)) hx hb hr (fun t ht hW => ⟨(-1 : Int32), rfl, hw, by rw [ht]⟩) (fun _ h => by cases h) d_Table_headAt_22
  · have hw := hw.2 c1
    refine lv_iload_n hx hb d_Table_headAt_4 rfl (lv_at hl 1 rfl) ?_
    refine lv_aload_n hx hb d_Table_headAt_5 rfl (lv_at hl 0 rfl) ?_
    refine va_get (D := (dC, dI)) (ci := 5) (v := .int t_count) (C := R_Table) (T := F_Table) (N := 6) hx hb hts i_Table hown hE.1 hP 0 rfl rfl 5 (by decide) (hts _ kf_Table_24) (fun _ h9 => h9) rfl d_Table_headAt_6 ?_
    refine lv_icmp_ge (tgt := 21) hx hb d_Table_headAt_9 (by decide) (fun c9 => ?_) (fun c9 => ?_)
    · have hw := hw.1 c9
      refine lv_iconst (v := (-1 : Int32)) hx hb d_Table_headAt_21 (by decide) ?_
      exact W.iret (v := (-1 : Int32)) hx hb hr (fun t ht hW => ⟨(-1 : Int32), rfl, hw, by rw [ht]⟩) (fun _ h => by cases h) d_Table_headAt_22
    · have hw := hw.2 c9
      refine lv_aload_n hx hb d_Table_headAt_12 rfl (lv_at hl 0 rfl) ?_
      refine va_get (D := (dC, dI)) (ci := 5) (v := .ref h_t_heads) (C := R_Table) (T := F_Table) (N := 6) hx hb hts i_Table hown hE.1 hP 0 rfl rfl 1 (by decide) (hts _ kf_Table_15) (fun _ h9 => h9) rfl d_Table_headAt_13 ?_
      refine lv_iload_n hx hb d_Table_headAt_16 rfl (lv_at hl 1 rfl) ?_
      have hz := hw.1
      have hw := hw.2
      refine va_iald hx hb hE.1 hP 2 0 rfl rfl hz d_Table_headAt_17 ?_
      refine lv_goto (tgt := 22) hx hb d_Table_headAt_18 (by decide) ?_
      exact W.iret (v := (t_heads a1.toNatClampNeg)) hx hb hr (fun t ht hW => ⟨(t_heads a1.toNatClampNeg), rfl, hw, by rw [ht]⟩) (fun _ h => by cases h) d_Table_headAt_22

-- SwapOrbits$OrbitTable.sizeAt(I)I
abbrev rm_Table_sizeAt : Room := { frames := 0, cells := 0, slots := 0, locals := 0 }
def wp_Table_sizeAt (post : Int32 → Prop) (t_count : Int32) (t_sizes : Nat → Int32) (a1 : Int32) : Prop := (a1 < 0 → post (-1 : Int32)) ∧ (¬ a1 < 0 → (t_count ≤ a1 → post (-1 : Int32)) ∧ (¬ t_count ≤ a1 → vp_in a1 16384 ∧ (post (t_sizes a1.toNatClampNeg))))
set_option maxHeartbeats 4000000 in
set_option maxRecDepth 100000 in
theorem met_Table_sizeAt (l : Launch) (dC : Nat → ClassId) (dI : Nat → Nat → Nat) (cI cZ : ClassId) (h_t h_t_ranks h_t_heads h_t_sizes h_t_found : Nat) (t_foundCount : Int32) (t_count : Int32) (t_ranks : Nat → Int32) (t_heads : Nat → Int32) (t_sizes : Nat → Int32) (t_found : Nat → Int32) (a1 : Int32) (post : Int32 → Prop) (hw : wp_Table_sizeAt post t_count t_sizes a1) : Met l y_Table_sizeAt (Cond.code y_Table_sizeAt b_Table_sizeAt 2 (some .int) :: gw) rm_Table_sizeAt (va_Pc [.ref h_t, .int a1] (fun U => EV (dC, dI) cI cZ U ∧ va_P (dC, dI) classes [(h_t, .inr (5, [.ref h_t_ranks, .ref h_t_heads, .ref h_t_sizes, .ref h_t_found, .int t_foundCount, .int t_count])), (h_t_ranks, .inl (cI, 16384, .inl t_ranks)), (h_t_heads, .inl (cI, 16384, .inl t_heads)), (h_t_sizes, .inl (cI, 16384, .inl t_sizes)), (h_t_found, .inl (cI, 16384, .inl t_found))] U.heap)) (vp_Si post) 0 0 (fun _ => False) := by
  refine Met.ofW (cc := b_Table_sizeAt) (maxL := 2) (ret := (some .int)) (by decide) rfl ?_
  intro p e s m args below meth c s₁ B hml hv
  obtain ⟨rfl, hE, hP⟩ := hv
  have C := CX.of (own := R_Table) (D := (dC, dI)) (cI := cI) (cZ := cZ) B hml rfl hE
  obtain ⟨hx, hb, hr, -, hown, hts, hlocks, -⟩ := id C
  have hl := lv_entry ([.ref h_t, .int a1]) (n := 2) (Nat.le_of_ble_eq_true rfl)
  rw [lg_entry_eq]
  generalize (lg_sl ([.ref h_t, .int a1]) ++ List.replicate (2 - (lg_sl ([.ref h_t, .int a1])).length) Slot.unset).toArray = ls at hl ⊢
  have hl : lv_has ls 2 [(0, .ref h_t), (1, .int a1)] := hl
  unfold wp_Table_sizeAt at hw
  refine lv_iload_n hx hb d_Table_sizeAt_0 rfl (lv_at hl 1 rfl) ?_
  refine lv_if_lt (tgt := 21) hx hb d_Table_sizeAt_1 (by decide) (fun c1 => ?_) (fun c1 => ?_)
  · have hw := hw.1 c1
    refine lv_iconst (v := (-1 : Int32)) hx hb d_Table_sizeAt_21 (by decide) ?_
    exact W.iret (v := (-1 : Int32)) hx hb hr (fun t ht hW => ⟨(-1 : Int32), rfl, hw, by rw [ht]⟩) (fun _ h => by cases h) d_Table_sizeAt_22
  · have hw := hw.2 c1
    refine lv_iload_n hx hb d_Table_sizeAt_4 rfl (lv_at hl 1 rfl) ?_
    refine lv_aload_n hx hb d_Table_sizeAt_5 rfl (lv_at hl 0 rfl) ?_
    refine va_get (D := (dC, dI)) (ci := 5) (v := .int t_count) (C := R_Table) (T := F_Table) (N := 6) hx hb hts i_Table hown hE.1 hP 0 rfl rfl 5 (by decide) (hts _ kf_Table_24) (fun _ h9 => h9) rfl d_Table_sizeAt_6 ?_
    refine lv_icmp_ge (tgt := 21) hx hb d_Table_sizeAt_9 (by decide) (fun c9 => ?_) (fun c9 => ?_)
    · have hw := hw.1 c9
      refine lv_iconst (v := (-1 : Int32)) hx hb d_Table_sizeAt_21 (by decide) ?_
      exact W.iret (v := (-1 : Int32)) hx hb hr (fun t ht hW => ⟨(-1 : Int32), rfl, hw, by rw [ht]⟩) (fun _ h => by cases h) d_Table_sizeAt_22
    · have hw := hw.2 c9
      refine lv_aload_n hx hb d_Table_sizeAt_12 rfl (lv_at hl 0 rfl) ?_
      refine va_get (D := (dC, dI)) (ci := 5) (v := .ref h_t_sizes) (C := R_Table) (T := F_Table) (N := 6) hx hb hts i_Table hown hE.1 hP 0 rfl rfl 2 (by decide) (hts _ kf_Table_18) (fun _ h9 => h9) rfl d_Table_sizeAt_13 ?_
      refine lv_iload_n hx hb d_Table_sizeAt_16 rfl (lv_at hl 1 rfl) ?_
      have hz := hw.1
      have hw := hw.2
      refine va_iald hx hb hE.1 hP 3 0 rfl rfl hz d_Table_sizeAt_17 ?_
      refine lv_goto (tgt := 22) hx hb d_Table_sizeAt_18 (by decide) ?_
      exact W.iret (v := (t_sizes a1.toNatClampNeg)) hx hb hr (fun t ht hW => ⟨(t_sizes a1.toNatClampNeg), rfl, hw, by rw [ht]⟩) (fun _ h => by cases h) d_Table_sizeAt_22

-- SwapOrbits$OrbitTable.countOfSize(I)I
abbrev rm_Table_countOfSize : Room := { frames := 0, cells := 0, slots := 0, locals := 0 }
def L_Table_countOfSize_4b (post : Int32 → Prop) (t_count : Int32) (t_sizes : Nat → Int32) (v1 : Int32) (K4 : Int32 → Int32 → Prop) (v2 : Int32) (v3 : Int32) : Prop := (t_count ≤ v3 → post v2) ∧ (¬ t_count ≤ v3 → vp_in v3 16384 ∧ (((t_sizes v3.toNatClampNeg) = v1 → ∀ x2_22 : Int32, x2_22 = v2 + 1 → (∀ x3_25 : Int32, x3_25 = v3 + 1 → (K4 x2_22 x3_25))) ∧ (¬ (t_sizes v3.toNatClampNeg) = v1 → ∀ x3_25 : Int32, x3_25 = v3 + 1 → (K4 v2 x3_25))))
def L_Table_countOfSize_4 (post : Int32 → Prop) (t_count : Int32) (t_sizes : Nat → Int32) (v1 : Int32) : Nat → Int32 → Int32 → Prop
  | 0, _, _ => False
  | n + 1, v2, v3 => L_Table_countOfSize_4b post t_count t_sizes v1 (L_Table_countOfSize_4 post t_count t_sizes v1 n) v2 v3
def wp_Table_countOfSize (post : Int32 → Prop) (t_count : Int32) (t_sizes : Nat → Int32) (a1 : Int32) : Prop := ∃ n, L_Table_countOfSize_4 post t_count t_sizes a1 n (0 : Int32) (0 : Int32)
set_option maxHeartbeats 4000000 in
set_option maxRecDepth 100000 in
theorem qL_Table_countOfSize_4 {p : Program} {l : Launch} {e : Env} {s : State} {m : MethodId} {args : Array Value} {below : List Frame} {meth : Method} {c : Code} {dC : Nat → ClassId} {dI : Nat → Nat → Nat} {cI cZ : ClassId} (C : CX p s m args meth c R_Table b_Table_countOfSize 4 (some .int) (dC, dI) cI cZ) {h_t h_t_ranks h_t_heads h_t_sizes h_t_found : Nat} (post : Int32 → Prop) (t_foundCount : Int32) (t_count : Int32) (t_ranks : Nat → Int32) (t_heads : Nat → Int32) (t_sizes : Nat → Int32) (t_found : Nat → Int32) (v1 : Int32) (hP : va_P (dC, dI) classes [(h_t, .inr (5, [.ref h_t_ranks, .ref h_t_heads, .ref h_t_sizes, .ref h_t_found, .int t_foundCount, .int t_count])), (h_t_ranks, .inl (cI, 16384, .inl t_ranks)), (h_t_heads, .inl (cI, 16384, .inl t_heads)), (h_t_sizes, .inl (cI, 16384, .inl t_sizes)), (h_t_found, .inl (cI, 16384, .inl t_found))] s.heap) : ∀ (n : Nat) (v2 : Int32) (v3 : Int32) , L_Table_countOfSize_4 post t_count t_sizes v1 n v2 v3 → ∀ (ls : Array Slot), lv_has ls 4 [(0, .ref h_t), (1, .int v1), (2, .int v2), (3, .int v3)] → W p l e rm_Table_countOfSize s m args below meth c s.heap [] 0 0 (MQ below (vp_Si post) args s 0 0 (fun _ => False)) (F0 m 4 ls []) := by
  obtain ⟨hx, hb, hr, hml, hown, hts, hlocks, hE⟩ := id C
  intro n
  induction n with
  | zero =>
    intro v2 v3 hw
    exact (show False from hw).elim
  | succ n ih =>
    intro v2 v3 hw ls hl
    have hw : L_Table_countOfSize_4b post t_count t_sizes v1 (L_Table_countOfSize_4 post t_count t_sizes v1 n) v2 v3 := hw
    unfold L_Table_countOfSize_4b at hw
    refine lv_iload_n hx hb d_Table_countOfSize_4 rfl (lv_at hl 3 rfl) ?_
    refine lv_aload_n hx hb d_Table_countOfSize_5 rfl (lv_at hl 0 rfl) ?_
    refine va_get (D := (dC, dI)) (ci := 5) (v := .int t_count) (C := R_Table) (T := F_Table) (N := 6) hx hb hts i_Table hown hE.1 hP 0 rfl rfl 5 (by decide) (hts _ kf_Table_24) (fun _ h9 => h9) rfl d_Table_countOfSize_6 ?_
    refine lv_icmp_ge (tgt := 31) hx hb d_Table_countOfSize_9 (by decide) (fun c9 => ?_) (fun c9 => ?_)
    · have hw := hw.1 c9
      refine lv_iload_n hx hb d_Table_countOfSize_31 rfl (lv_at hl 2 rfl) ?_
      exact W.iret (v := v2) hx hb hr (fun t ht hW => ⟨v2, rfl, hw, by rw [ht]⟩) (fun _ h => by cases h) d_Table_countOfSize_32
    · have hw := hw.2 c9
      refine lv_aload_n hx hb d_Table_countOfSize_12 rfl (lv_at hl 0 rfl) ?_
      refine va_get (D := (dC, dI)) (ci := 5) (v := .ref h_t_sizes) (C := R_Table) (T := F_Table) (N := 6) hx hb hts i_Table hown hE.1 hP 0 rfl rfl 2 (by decide) (hts _ kf_Table_18) (fun _ h9 => h9) rfl d_Table_countOfSize_13 ?_
      refine lv_iload_n hx hb d_Table_countOfSize_16 rfl (lv_at hl 3 rfl) ?_
      have hz := hw.1
      have hw := hw.2
      refine va_iald hx hb hE.1 hP 3 0 rfl rfl hz d_Table_countOfSize_17 ?_
      refine lv_iload_n hx hb d_Table_countOfSize_18 rfl (lv_at hl 1 rfl) ?_
      refine lv_icmp_ne (tgt := 25) hx hb d_Table_countOfSize_19 (by decide) (fun c19 => ?_) (fun c19 => ?_)
      · have hw := hw.2 c19
        obtain ⟨x3_25, ex3_25⟩ : ∃ y : Int32, y = v3 + 1 := ⟨_, rfl⟩
        have hw := hw x3_25 ex3_25
        refine lv_iinc (v := x3_25) (lv' := [(3, .int x3_25), (0, .ref h_t), (1, .int v1), (2, .int v2)]) hx hb d_Table_countOfSize_25 hl (k := 3) rfl (by rw [ex3_25]; rfl) (by decide) rfl (fun ls hl => ?_)
        refine lv_goto (tgt := 4) hx hb d_Table_countOfSize_28 (by decide) ?_
        exact ih v2 x3_25 hw ls (lv_sub hl [1, 2, 3, 0] rfl)
      · have hw := hw.1 c19
        obtain ⟨x2_22, ex2_22⟩ : ∃ y : Int32, y = v2 + 1 := ⟨_, rfl⟩
        have hw := hw x2_22 ex2_22
        refine lv_iinc (v := x2_22) (lv' := [(2, .int x2_22), (0, .ref h_t), (1, .int v1), (3, .int v3)]) hx hb d_Table_countOfSize_22 hl (k := 2) rfl (by rw [ex2_22]; rfl) (by decide) rfl (fun ls hl => ?_)
        obtain ⟨x3_25, ex3_25⟩ : ∃ y : Int32, y = v3 + 1 := ⟨_, rfl⟩
        have hw := hw x3_25 ex3_25
        refine lv_iinc (v := x3_25) (lv' := [(3, .int x3_25), (2, .int x2_22), (0, .ref h_t), (1, .int v1)]) hx hb d_Table_countOfSize_25 hl (k := 3) rfl (by rw [ex3_25]; rfl) (by decide) rfl (fun ls hl => ?_)
        refine lv_goto (tgt := 4) hx hb d_Table_countOfSize_28 (by decide) ?_
        exact ih x2_22 x3_25 hw ls (lv_sub hl [2, 3, 1, 0] rfl)
set_option maxHeartbeats 4000000 in
set_option maxRecDepth 100000 in
theorem met_Table_countOfSize (l : Launch) (dC : Nat → ClassId) (dI : Nat → Nat → Nat) (cI cZ : ClassId) (h_t h_t_ranks h_t_heads h_t_sizes h_t_found : Nat) (t_foundCount : Int32) (t_count : Int32) (t_ranks : Nat → Int32) (t_heads : Nat → Int32) (t_sizes : Nat → Int32) (t_found : Nat → Int32) (a1 : Int32) (post : Int32 → Prop) (hw : wp_Table_countOfSize post t_count t_sizes a1) : Met l y_Table_countOfSize (Cond.code y_Table_countOfSize b_Table_countOfSize 4 (some .int) :: gw) rm_Table_countOfSize (va_Pc [.ref h_t, .int a1] (fun U => EV (dC, dI) cI cZ U ∧ va_P (dC, dI) classes [(h_t, .inr (5, [.ref h_t_ranks, .ref h_t_heads, .ref h_t_sizes, .ref h_t_found, .int t_foundCount, .int t_count])), (h_t_ranks, .inl (cI, 16384, .inl t_ranks)), (h_t_heads, .inl (cI, 16384, .inl t_heads)), (h_t_sizes, .inl (cI, 16384, .inl t_sizes)), (h_t_found, .inl (cI, 16384, .inl t_found))] U.heap)) (vp_Si post) 0 0 (fun _ => False) := by
  refine Met.ofW (cc := b_Table_countOfSize) (maxL := 4) (ret := (some .int)) (by decide) rfl ?_
  intro p e s m args below meth c s₁ B hml hv
  obtain ⟨rfl, hE, hP⟩ := hv
  have C := CX.of (own := R_Table) (D := (dC, dI)) (cI := cI) (cZ := cZ) B hml rfl hE
  obtain ⟨hx, hb, hr, -, hown, hts, hlocks, -⟩ := id C
  have hl := lv_entry ([.ref h_t, .int a1]) (n := 4) (Nat.le_of_ble_eq_true rfl)
  rw [lg_entry_eq]
  generalize (lg_sl ([.ref h_t, .int a1]) ++ List.replicate (4 - (lg_sl ([.ref h_t, .int a1])).length) Slot.unset).toArray = ls at hl ⊢
  have hl : lv_has ls 4 [(0, .ref h_t), (1, .int a1)] := hl
  unfold wp_Table_countOfSize at hw
  refine lv_iconst (v := (0 : Int32)) hx hb d_Table_countOfSize_0 (by decide) ?_
  refine lv_istore_n (lv' := [(2, .int (0 : Int32)), (0, .ref h_t), (1, .int a1)]) hx hb d_Table_countOfSize_1 rfl hl (by decide) rfl (fun ls hl => ?_)
  refine lv_iconst (v := (0 : Int32)) hx hb d_Table_countOfSize_2 (by decide) ?_
  refine lv_istore_n (lv' := [(3, .int (0 : Int32)), (2, .int (0 : Int32)), (0, .ref h_t), (1, .int a1)]) hx hb d_Table_countOfSize_3 rfl hl (by decide) rfl (fun ls hl => ?_)
  obtain ⟨n4, hw⟩ := hw
  exact qL_Table_countOfSize_4 C post  t_foundCount t_count t_ranks t_heads t_sizes t_found a1 hP  n4 (0 : Int32) (0 : Int32) hw ls (lv_sub hl [2, 3, 1, 0] rfl)

-- SwapOrbits$OrbitTable.<init>()V
abbrev rm_Table_init : Room := { frames := 1, cells := 4, slots := 65536, locals := 20 }
abbrev QM_Table_init (dC : Nat → ClassId) (dI : Nat → Nat → Nat) (cI cZ : ClassId) (h_t : Nat) (A : Nat → Prop) : Array Value → State → Outcome → State → Prop := va_Qv (fun _ : Unit => True) (fun _ t => ∃ (h_t_ranks h_t_heads h_t_sizes h_t_found : Nat), va_P (dC, dI) classes [(h_t, .inr (5, [.ref h_t_ranks, .ref h_t_heads, .ref h_t_sizes, .ref h_t_found, .int (0 : Int32), .int (0 : Int32)])), (h_t_ranks, .inl (cI, 16384, .inl (fun _ => 0))), (h_t_heads, .inl (cI, 16384, .inl (fun _ => 0))), (h_t_sizes, .inl (cI, 16384, .inl (fun _ => 0))), (h_t_found, .inl (cI, 16384, .inl (fun _ => 0)))] t.heap ∧ va_D A [(h_t, .inr (5, [.ref h_t_ranks, .ref h_t_heads, .ref h_t_sizes, .ref h_t_found, .int (0 : Int32), .int (0 : Int32)])), (h_t_ranks, .inl (cI, 16384, .inl (fun _ => 0))), (h_t_heads, .inl (cI, 16384, .inl (fun _ => 0))), (h_t_sizes, .inl (cI, 16384, .inl (fun _ => 0))), (h_t_found, .inl (cI, 16384, .inl (fun _ => 0)))]) A
set_option maxHeartbeats 4000000 in
set_option maxRecDepth 100000 in
theorem met_Table_init (l : Launch) (dC : Nat → ClassId) (dI : Nat → Nat → Nat) (cI cZ : ClassId) (h_t : Nat) (sz : Nat) : Met l y_Table_init (Cond.code y_Table_init b_Table_init 1 none :: gw) rm_Table_init (va_Pc [.ref h_t] (fun U => U.heap.size = sz ∧ EV (dC, dI) cI cZ U ∧ va_P (dC, dI) classes [(h_t, .inr (5, [.null, .null, .null, .null, .int (0 : Int32), .int (0 : Int32)]))] U.heap ∧ va_D (fun _ => True) [(h_t, .inr (5, [.null, .null, .null, .null, .int (0 : Int32), .int (0 : Int32)]))])) (QM_Table_init dC dI cI cZ h_t (va_A [(h_t, .inr (5, [.null, .null, .null, .null, .int (0 : Int32), .int (0 : Int32)]))] sz)) 4 65536 (va_A [(h_t, .inr (5, [.null, .null, .null, .null, .int (0 : Int32), .int (0 : Int32)]))] sz) := by
  refine Met.ofW (cc := b_Table_init) (maxL := 1) (ret := none) (by decide) rfl ?_
  intro p e s m args below meth c s₁ B hml hv
  obtain ⟨rfl, hsz, hE, hP, hD0⟩ := hv
  have C := CX.of (own := R_Table) (D := (dC, dI)) (cI := cI) (cZ := cZ) B hml rfl hE
  obtain ⟨hx, hb, hr, -, hown, hts, hlocks, -⟩ := id C
  have hin : meth.name = "<init>" := (name_of_methodNamed B.named B.method).1
  subst hsz
  have hD := hD0.self (sz := s.heap.size)
  generalize hAe : va_A [(h_t, .inr (5, [.null, .null, .null, .null, .int (0 : Int32), .int (0 : Int32)]))] s.heap.size = A at hD ⊢
  have hA : ∀ q : Nat, s.heap.size ≤ q → A q := fun q h => by rw [← hAe]; exact Or.inr h
  have hS : va_S A s.heap s.heap [] := va_S.rf
  have hP : va_P (dC, dI) classes [(h_t, .inr (5, [.null, .null, .null, .null, .int (0 : Int32), .int (0 : Int32)]))] s.heap := hP
  have hl := lv_entry ([.ref h_t]) (n := 1) (Nat.le_of_ble_eq_true rfl)
  rw [lg_entry_eq]
  generalize (lg_sl ([.ref h_t]) ++ List.replicate (1 - (lg_sl ([.ref h_t])).length) Slot.unset).toArray = ls at hl ⊢
  have hl : lv_has ls 1 [(0, .ref h_t)] := hl
  refine keyL (P := fun H locs => va_P (dC, dI) classes [(h_t, .inr (5, [.null, .null, .null, .null, .int (0 : Int32), .int (0 : Int32)]))] H ∧ va_D A [(h_t, .inr (5, [.null, .null, .null, .null, .int (0 : Int32), .int (0 : Int32)]))] ∧ va_S A s.heap H locs) ⟨hP, hD, hS⟩ (fun H locs hPP => ?_)
  clear hP hD hS
  obtain ⟨hP, hD, hS⟩ := hPP
  refine lv_aload_n hx hb d_Table_init_0 rfl (lv_at hl 0 rfl) ?_
  refine W.objInit hx hb hown (hts _ kl_Table_3) (hts _ kn_oi) (hts _ kc_oi) rfl (by rw [hml]; exact hl.1) rfl d_Table_init_1 (Nat.le_of_ble_eq_true rfl) (Nat.le_of_ble_eq_true rfl) ?_
  refine W.eq (g2 := F0 m 4 ls []) rfl ?_
  refine lv_aload_n hx hb d_Table_init_4 rfl (lv_at hl 0 rfl) ?_
  refine lv_sipush (v := (16384 : Int32)) hx hb d_Table_init_5 (by decide) ?_
  refine va_newa (atype := .int) (ty := .int) (a0 := (16384, .inl (fun _ => 0))) (N' := 16384) hx hb (hts _ ka_int) rfl hE.1 hP hD hS hA (fun _ => rfl) (by decide) (by decide) (by decide) (by decide) (by decide) d_Table_init_8 (fun h_t_ranks cA H hK2 hP hD hS => ?_)
  have hcA := sameI hK2
  subst hcA
  have hP : va_P (dC, dI) classes [(h_t, .inr (5, [.null, .null, .null, .null, .int (0 : Int32), .int (0 : Int32)])), (h_t_ranks, .inl (cI, 16384, .inl (fun _ => 0)))] H := hP
  have hD : va_D A [(h_t, .inr (5, [.null, .null, .null, .null, .int (0 : Int32), .int (0 : Int32)])), (h_t_ranks, .inl (cI, 16384, .inl (fun _ => 0)))] := hD
  refine W.widen (k := 1) (n := 16384) (by decide) (by decide) ?_
  refine va_putF (D := (dC, dI)) (ci := 5) (v := .ref h_t_ranks) (ty := .array .int) (C := R_Table) (T := F_Table) (N := 6) hx hb hts i_Table t_Table t_Table_ok n_Table hown hE.1 hP hD hS 0 rfl rfl 0 (by decide) (hts _ kf_Table_9) (fun _ h9 => h9) rfl hin rfl (by decide +kernel) rfl rfl (Nat.le_of_ble_eq_true rfl) d_Table_init_10 (fun H locs hP hD hS => ?_)
  have hP : va_P (dC, dI) classes [(h_t, .inr (5, [.ref h_t_ranks, .null, .null, .null, .int (0 : Int32), .int (0 : Int32)])), (h_t_ranks, .inl (cI, 16384, .inl (fun _ => 0)))] H := hP
  have hD : va_D A [(h_t, .inr (5, [.ref h_t_ranks, .null, .null, .null, .int (0 : Int32), .int (0 : Int32)])), (h_t_ranks, .inl (cI, 16384, .inl (fun _ => 0)))] := hD
  refine lv_aload_n hx hb d_Table_init_13 rfl (lv_at hl 0 rfl) ?_
  refine lv_sipush (v := (16384 : Int32)) hx hb d_Table_init_14 (by decide) ?_
  refine va_newa (atype := .int) (ty := .int) (a0 := (16384, .inl (fun _ => 0))) (N' := 16384) hx hb (hts _ ka_int) rfl hE.1 hP hD hS hA (fun _ => rfl) (by decide) (by decide) (by decide) (by decide) (by decide) d_Table_init_17 (fun h_t_heads cA H hK2 hP hD hS => ?_)
  have hcA := sameI hK2
  subst hcA
  have hP : va_P (dC, dI) classes [(h_t, .inr (5, [.ref h_t_ranks, .null, .null, .null, .int (0 : Int32), .int (0 : Int32)])), (h_t_ranks, .inl (cI, 16384, .inl (fun _ => 0))), (h_t_heads, .inl (cI, 16384, .inl (fun _ => 0)))] H := hP
  have hD : va_D A [(h_t, .inr (5, [.ref h_t_ranks, .null, .null, .null, .int (0 : Int32), .int (0 : Int32)])), (h_t_ranks, .inl (cI, 16384, .inl (fun _ => 0))), (h_t_heads, .inl (cI, 16384, .inl (fun _ => 0)))] := hD
  refine W.widen (k := 2) (n := 32768) (by decide) (by decide) ?_
  refine va_putF (D := (dC, dI)) (ci := 5) (v := .ref h_t_heads) (ty := .array .int) (C := R_Table) (T := F_Table) (N := 6) hx hb hts i_Table t_Table t_Table_ok n_Table hown hE.1 hP hD hS 0 rfl rfl 1 (by decide) (hts _ kf_Table_15) (fun _ h9 => h9) rfl hin rfl (by decide +kernel) rfl rfl (Nat.le_of_ble_eq_true rfl) d_Table_init_19 (fun H locs hP hD hS => ?_)
  have hP : va_P (dC, dI) classes [(h_t, .inr (5, [.ref h_t_ranks, .ref h_t_heads, .null, .null, .int (0 : Int32), .int (0 : Int32)])), (h_t_ranks, .inl (cI, 16384, .inl (fun _ => 0))), (h_t_heads, .inl (cI, 16384, .inl (fun _ => 0)))] H := hP
  have hD : va_D A [(h_t, .inr (5, [.ref h_t_ranks, .ref h_t_heads, .null, .null, .int (0 : Int32), .int (0 : Int32)])), (h_t_ranks, .inl (cI, 16384, .inl (fun _ => 0))), (h_t_heads, .inl (cI, 16384, .inl (fun _ => 0)))] := hD
  refine lv_aload_n hx hb d_Table_init_22 rfl (lv_at hl 0 rfl) ?_
  refine lv_sipush (v := (16384 : Int32)) hx hb d_Table_init_23 (by decide) ?_
  refine va_newa (atype := .int) (ty := .int) (a0 := (16384, .inl (fun _ => 0))) (N' := 16384) hx hb (hts _ ka_int) rfl hE.1 hP hD hS hA (fun _ => rfl) (by decide) (by decide) (by decide) (by decide) (by decide) d_Table_init_26 (fun h_t_sizes cA H hK2 hP hD hS => ?_)
  have hcA := sameI hK2
  subst hcA
  have hP : va_P (dC, dI) classes [(h_t, .inr (5, [.ref h_t_ranks, .ref h_t_heads, .null, .null, .int (0 : Int32), .int (0 : Int32)])), (h_t_ranks, .inl (cI, 16384, .inl (fun _ => 0))), (h_t_heads, .inl (cI, 16384, .inl (fun _ => 0))), (h_t_sizes, .inl (cI, 16384, .inl (fun _ => 0)))] H := hP
  have hD : va_D A [(h_t, .inr (5, [.ref h_t_ranks, .ref h_t_heads, .null, .null, .int (0 : Int32), .int (0 : Int32)])), (h_t_ranks, .inl (cI, 16384, .inl (fun _ => 0))), (h_t_heads, .inl (cI, 16384, .inl (fun _ => 0))), (h_t_sizes, .inl (cI, 16384, .inl (fun _ => 0)))] := hD
  refine W.widen (k := 3) (n := 49152) (by decide) (by decide) ?_
  refine va_putF (D := (dC, dI)) (ci := 5) (v := .ref h_t_sizes) (ty := .array .int) (C := R_Table) (T := F_Table) (N := 6) hx hb hts i_Table t_Table t_Table_ok n_Table hown hE.1 hP hD hS 0 rfl rfl 2 (by decide) (hts _ kf_Table_18) (fun _ h9 => h9) rfl hin rfl (by decide +kernel) rfl rfl (Nat.le_of_ble_eq_true rfl) d_Table_init_28 (fun H locs hP hD hS => ?_)
  have hP : va_P (dC, dI) classes [(h_t, .inr (5, [.ref h_t_ranks, .ref h_t_heads, .ref h_t_sizes, .null, .int (0 : Int32), .int (0 : Int32)])), (h_t_ranks, .inl (cI, 16384, .inl (fun _ => 0))), (h_t_heads, .inl (cI, 16384, .inl (fun _ => 0))), (h_t_sizes, .inl (cI, 16384, .inl (fun _ => 0)))] H := hP
  have hD : va_D A [(h_t, .inr (5, [.ref h_t_ranks, .ref h_t_heads, .ref h_t_sizes, .null, .int (0 : Int32), .int (0 : Int32)])), (h_t_ranks, .inl (cI, 16384, .inl (fun _ => 0))), (h_t_heads, .inl (cI, 16384, .inl (fun _ => 0))), (h_t_sizes, .inl (cI, 16384, .inl (fun _ => 0)))] := hD
  refine lv_aload_n hx hb d_Table_init_31 rfl (lv_at hl 0 rfl) ?_
  refine lv_sipush (v := (16384 : Int32)) hx hb d_Table_init_32 (by decide) ?_
  refine va_newa (atype := .int) (ty := .int) (a0 := (16384, .inl (fun _ => 0))) (N' := 16384) hx hb (hts _ ka_int) rfl hE.1 hP hD hS hA (fun _ => rfl) (by decide) (by decide) (by decide) (by decide) (by decide) d_Table_init_35 (fun h_t_found cA H hK2 hP hD hS => ?_)
  have hcA := sameI hK2
  subst hcA
  have hP : va_P (dC, dI) classes [(h_t, .inr (5, [.ref h_t_ranks, .ref h_t_heads, .ref h_t_sizes, .null, .int (0 : Int32), .int (0 : Int32)])), (h_t_ranks, .inl (cI, 16384, .inl (fun _ => 0))), (h_t_heads, .inl (cI, 16384, .inl (fun _ => 0))), (h_t_sizes, .inl (cI, 16384, .inl (fun _ => 0))), (h_t_found, .inl (cI, 16384, .inl (fun _ => 0)))] H := hP
  have hD : va_D A [(h_t, .inr (5, [.ref h_t_ranks, .ref h_t_heads, .ref h_t_sizes, .null, .int (0 : Int32), .int (0 : Int32)])), (h_t_ranks, .inl (cI, 16384, .inl (fun _ => 0))), (h_t_heads, .inl (cI, 16384, .inl (fun _ => 0))), (h_t_sizes, .inl (cI, 16384, .inl (fun _ => 0))), (h_t_found, .inl (cI, 16384, .inl (fun _ => 0)))] := hD
  refine W.widen (k := 4) (n := 65536) (by decide) (by decide) ?_
  refine va_putF (D := (dC, dI)) (ci := 5) (v := .ref h_t_found) (ty := .array .int) (C := R_Table) (T := F_Table) (N := 6) hx hb hts i_Table t_Table t_Table_ok n_Table hown hE.1 hP hD hS 0 rfl rfl 3 (by decide) (hts _ kf_Table_21) (fun _ h9 => h9) rfl hin rfl (by decide +kernel) rfl rfl (Nat.le_of_ble_eq_true rfl) d_Table_init_37 (fun H locs hP hD hS => ?_)
  have hP : va_P (dC, dI) classes [(h_t, .inr (5, [.ref h_t_ranks, .ref h_t_heads, .ref h_t_sizes, .ref h_t_found, .int (0 : Int32), .int (0 : Int32)])), (h_t_ranks, .inl (cI, 16384, .inl (fun _ => 0))), (h_t_heads, .inl (cI, 16384, .inl (fun _ => 0))), (h_t_sizes, .inl (cI, 16384, .inl (fun _ => 0))), (h_t_found, .inl (cI, 16384, .inl (fun _ => 0)))] H := hP
  have hD : va_D A [(h_t, .inr (5, [.ref h_t_ranks, .ref h_t_heads, .ref h_t_sizes, .ref h_t_found, .int (0 : Int32), .int (0 : Int32)])), (h_t_ranks, .inl (cI, 16384, .inl (fun _ => 0))), (h_t_heads, .inl (cI, 16384, .inl (fun _ => 0))), (h_t_sizes, .inl (cI, 16384, .inl (fun _ => 0))), (h_t_found, .inl (cI, 16384, .inl (fun _ => 0)))] := hD
  have hP9 : va_P (dC, dI) classes [(h_t, .inr (5, [.ref h_t_ranks, .ref h_t_heads, .ref h_t_sizes, .ref h_t_found, .int (0 : Int32), .int (0 : Int32)])), (h_t_ranks, .inl (cI, 16384, .inl (fun _ => 0))), (h_t_heads, .inl (cI, 16384, .inl (fun _ => 0))), (h_t_sizes, .inl (cI, 16384, .inl (fun _ => 0))), (h_t_found, .inl (cI, 16384, .inl (fun _ => 0)))] H := hP.sub [0, 1, 2, 3, 4] rfl
  have hD9 : va_D A [(h_t, .inr (5, [.ref h_t_ranks, .ref h_t_heads, .ref h_t_sizes, .ref h_t_found, .int (0 : Int32), .int (0 : Int32)])), (h_t_ranks, .inl (cI, 16384, .inl (fun _ => 0))), (h_t_heads, .inl (cI, 16384, .inl (fun _ => 0))), (h_t_sizes, .inl (cI, 16384, .inl (fun _ => 0))), (h_t_found, .inl (cI, 16384, .inl (fun _ => 0)))] := hD.sub [0, 1, 2, 3, 4] (by decide) rfl
  exact W.vret hx hb hr (fun t ht hW => ⟨⟨(), rfl, trivial, h_t_ranks, h_t_heads, h_t_sizes, h_t_found, by rw [ht]; exact hP9, hD9⟩, hS.F ht⟩) hS.2.2 d_Table_init_40

