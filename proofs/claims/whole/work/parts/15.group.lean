theorem d_Group_init_0 : decode b_Group_init 0 = .ok (.aload_n 0, 1) := by decide +kernel
theorem d_Group_init_1 : decode b_Group_init 1 = .ok (.invokespecial 3, 3) := by decide +kernel
theorem d_Group_init_4 : decode b_Group_init 4 = .ok (.aload_n 0, 1) := by decide +kernel
theorem d_Group_init_5 : decode b_Group_init 5 = .ok (.sipush 5040, 3) := by decide +kernel
theorem d_Group_init_8 : decode b_Group_init 8 = .ok (.newarray .int, 2) := by decide +kernel
theorem d_Group_init_10 : decode b_Group_init 10 = .ok (.putfield 9, 3) := by decide +kernel
theorem d_Group_init_13 : decode b_Group_init 13 = .ok (.aload_n 0, 1) := by decide +kernel
theorem d_Group_init_14 : decode b_Group_init 14 = .ok (.sipush 5040, 3) := by decide +kernel
theorem d_Group_init_17 : decode b_Group_init 17 = .ok (.newarray .int, 2) := by decide +kernel
theorem d_Group_init_19 : decode b_Group_init 19 = .ok (.putfield 15, 3) := by decide +kernel
theorem d_Group_init_22 : decode b_Group_init 22 = .ok (.aload_n 0, 1) := by decide +kernel
theorem d_Group_init_23 : decode b_Group_init 23 = .ok (.sipush 5040, 3) := by decide +kernel
theorem d_Group_init_26 : decode b_Group_init 26 = .ok (.newarray .int, 2) := by decide +kernel
theorem d_Group_init_28 : decode b_Group_init 28 = .ok (.putfield 18, 3) := by decide +kernel
theorem d_Group_init_31 : decode b_Group_init 31 = .ok (.return_, 1) := by decide +kernel
theorem d_Group_close_0 : decode b_Group_close 0 = .ok (.aload_n 0, 1) := by decide +kernel
theorem d_Group_close_1 : decode b_Group_close 1 = .ok (.iload_n 1, 1) := by decide +kernel
theorem d_Group_close_2 : decode b_Group_close 2 = .ok (.putfield 21, 3) := by decide +kernel
theorem d_Group_close_5 : decode b_Group_close 5 = .ok (.aload_n 0, 1) := by decide +kernel
theorem d_Group_close_6 : decode b_Group_close 6 = .ok (.iconst 0, 1) := by decide +kernel
theorem d_Group_close_7 : decode b_Group_close 7 = .ok (.putfield 25, 3) := by decide +kernel
theorem d_Group_close_10 : decode b_Group_close 10 = .ok (.aload_n 0, 1) := by decide +kernel
theorem d_Group_close_11 : decode b_Group_close 11 = .ok (.getfield 15, 3) := by decide +kernel
theorem d_Group_close_14 : decode b_Group_close 14 = .ok (.iconst (-1), 1) := by decide +kernel
theorem d_Group_close_15 : decode b_Group_close 15 = .ok (.invokestatic 28, 3) := by decide +kernel
theorem d_Group_close_18 : decode b_Group_close 18 = .ok (.aload_n 0, 1) := by decide +kernel
theorem d_Group_close_19 : decode b_Group_close 19 = .ok (.aload_n 0, 1) := by decide +kernel
theorem d_Group_close_20 : decode b_Group_close 20 = .ok (.getfield 21, 3) := by decide +kernel
theorem d_Group_close_23 : decode b_Group_close 23 = .ok (.invokestatic 34, 3) := by decide +kernel
theorem d_Group_close_26 : decode b_Group_close 26 = .ok (.invokevirtual 40, 3) := by decide +kernel
theorem d_Group_close_29 : decode b_Group_close 29 = .ok (.iconst 0, 1) := by decide +kernel
theorem d_Group_close_30 : decode b_Group_close 30 = .ok (.istore_n 3, 1) := by decide +kernel
theorem d_Group_close_31 : decode b_Group_close 31 = .ok (.iload_n 3, 1) := by decide +kernel
theorem d_Group_close_32 : decode b_Group_close 32 = .ok (.aload_n 0, 1) := by decide +kernel
theorem d_Group_close_33 : decode b_Group_close 33 = .ok (.getfield 25, 3) := by decide +kernel
theorem d_Group_close_36 : decode b_Group_close 36 = .ok (.if_icmp .ge 58, 3) := by decide +kernel
theorem d_Group_close_39 : decode b_Group_close 39 = .ok (.iload_n 3, 1) := by decide +kernel
theorem d_Group_close_40 : decode b_Group_close 40 = .ok (.sipush 5040, 3) := by decide +kernel
theorem d_Group_close_43 : decode b_Group_close 43 = .ok (.if_icmp .ge 51, 3) := by decide +kernel
theorem d_Group_close_46 : decode b_Group_close 46 = .ok (.iconst 0, 1) := by decide +kernel
theorem d_Group_close_47 : decode b_Group_close 47 = .ok (.istore 4, 2) := by decide +kernel
theorem d_Group_close_49 : decode b_Group_close 49 = .ok (.iload 4, 2) := by decide +kernel
theorem d_Group_close_51 : decode b_Group_close 51 = .ok (.aload_n 2, 1) := by decide +kernel
theorem d_Group_close_52 : decode b_Group_close 52 = .ok (.getfield 44, 3) := by decide +kernel
theorem d_Group_close_55 : decode b_Group_close 55 = .ok (.if_icmp .ge 33, 3) := by decide +kernel
theorem d_Group_close_58 : decode b_Group_close 58 = .ok (.aload_n 0, 1) := by decide +kernel
theorem d_Group_close_59 : decode b_Group_close 59 = .ok (.aload_n 0, 1) := by decide +kernel
theorem d_Group_close_60 : decode b_Group_close 60 = .ok (.getfield 9, 3) := by decide +kernel
theorem d_Group_close_63 : decode b_Group_close 63 = .ok (.iload_n 3, 1) := by decide +kernel
theorem d_Group_close_64 : decode b_Group_close 64 = .ok (.iaload, 1) := by decide +kernel
theorem d_Group_close_65 : decode b_Group_close 65 = .ok (.aload_n 2, 1) := by decide +kernel
theorem d_Group_close_66 : decode b_Group_close 66 = .ok (.getfield 49, 3) := by decide +kernel
theorem d_Group_close_69 : decode b_Group_close 69 = .ok (.iload 4, 2) := by decide +kernel
theorem d_Group_close_71 : decode b_Group_close 71 = .ok (.iaload, 1) := by decide +kernel
theorem d_Group_close_72 : decode b_Group_close 72 = .ok (.aload_n 0, 1) := by decide +kernel
theorem d_Group_close_73 : decode b_Group_close 73 = .ok (.getfield 21, 3) := by decide +kernel
theorem d_Group_close_76 : decode b_Group_close 76 = .ok (.invokestatic 50, 3) := by decide +kernel
theorem d_Group_close_79 : decode b_Group_close 79 = .ok (.invokevirtual 40, 3) := by decide +kernel
theorem d_Group_close_82 : decode b_Group_close 82 = .ok (.iinc 4 1, 3) := by decide +kernel
theorem d_Group_close_85 : decode b_Group_close 85 = .ok (.goto (-36), 3) := by decide +kernel
theorem d_Group_close_88 : decode b_Group_close 88 = .ok (.iinc 3 1, 3) := by decide +kernel
theorem d_Group_close_91 : decode b_Group_close 91 = .ok (.goto (-60), 3) := by decide +kernel
theorem d_Group_close_94 : decode b_Group_close 94 = .ok (.aload_n 0, 1) := by decide +kernel
theorem d_Group_close_95 : decode b_Group_close 95 = .ok (.invokevirtual 54, 3) := by decide +kernel
theorem d_Group_close_98 : decode b_Group_close 98 = .ok (.return_, 1) := by decide +kernel
theorem d_Group_find_0 : decode b_Group_find 0 = .ok (.iload_n 1, 1) := by decide +kernel
theorem d_Group_find_1 : decode b_Group_find 1 = .ok (.aload_n 0, 1) := by decide +kernel
theorem d_Group_find_2 : decode b_Group_find 2 = .ok (.getfield 21, 3) := by decide +kernel
theorem d_Group_find_5 : decode b_Group_find 5 = .ok (.invokestatic 57, 3) := by decide +kernel
theorem d_Group_find_8 : decode b_Group_find 8 = .ok (.istore_n 2, 1) := by decide +kernel
theorem d_Group_find_9 : decode b_Group_find 9 = .ok (.iload_n 2, 1) := by decide +kernel
theorem d_Group_find_10 : decode b_Group_find 10 = .ok (.invokestatic 61, 3) := by decide +kernel
theorem d_Group_find_13 : decode b_Group_find 13 = .ok (.ifCond .eq 50, 3) := by decide +kernel
theorem d_Group_find_16 : decode b_Group_find 16 = .ok (.aload_n 0, 1) := by decide +kernel
theorem d_Group_find_17 : decode b_Group_find 17 = .ok (.getfield 15, 3) := by decide +kernel
theorem d_Group_find_20 : decode b_Group_find 20 = .ok (.iload_n 2, 1) := by decide +kernel
theorem d_Group_find_21 : decode b_Group_find 21 = .ok (.iaload, 1) := by decide +kernel
theorem d_Group_find_22 : decode b_Group_find 22 = .ok (.iconst (-1), 1) := by decide +kernel
theorem d_Group_find_23 : decode b_Group_find 23 = .ok (.if_icmp .ne 40, 3) := by decide +kernel
theorem d_Group_find_26 : decode b_Group_find 26 = .ok (.aload_n 0, 1) := by decide +kernel
theorem d_Group_find_27 : decode b_Group_find 27 = .ok (.getfield 25, 3) := by decide +kernel
theorem d_Group_find_30 : decode b_Group_find 30 = .ok (.invokestatic 61, 3) := by decide +kernel
theorem d_Group_find_33 : decode b_Group_find 33 = .ok (.ifCond .eq 30, 3) := by decide +kernel
theorem d_Group_find_36 : decode b_Group_find 36 = .ok (.aload_n 0, 1) := by decide +kernel
theorem d_Group_find_37 : decode b_Group_find 37 = .ok (.getfield 15, 3) := by decide +kernel
theorem d_Group_find_40 : decode b_Group_find 40 = .ok (.iload_n 2, 1) := by decide +kernel
theorem d_Group_find_41 : decode b_Group_find 41 = .ok (.iload_n 1, 1) := by decide +kernel
theorem d_Group_find_42 : decode b_Group_find 42 = .ok (.iastore, 1) := by decide +kernel
theorem d_Group_find_43 : decode b_Group_find 43 = .ok (.aload_n 0, 1) := by decide +kernel
theorem d_Group_find_44 : decode b_Group_find 44 = .ok (.getfield 9, 3) := by decide +kernel
theorem d_Group_find_47 : decode b_Group_find 47 = .ok (.aload_n 0, 1) := by decide +kernel
theorem d_Group_find_48 : decode b_Group_find 48 = .ok (.getfield 25, 3) := by decide +kernel
theorem d_Group_find_51 : decode b_Group_find 51 = .ok (.iload_n 1, 1) := by decide +kernel
theorem d_Group_find_52 : decode b_Group_find 52 = .ok (.iastore, 1) := by decide +kernel
theorem d_Group_find_53 : decode b_Group_find 53 = .ok (.aload_n 0, 1) := by decide +kernel
theorem d_Group_find_54 : decode b_Group_find 54 = .ok (.dup, 1) := by decide +kernel
theorem d_Group_find_55 : decode b_Group_find 55 = .ok (.getfield 25, 3) := by decide +kernel
theorem d_Group_find_58 : decode b_Group_find 58 = .ok (.iconst 1, 1) := by decide +kernel
theorem d_Group_find_59 : decode b_Group_find 59 = .ok (.iadd, 1) := by decide +kernel
theorem d_Group_find_60 : decode b_Group_find 60 = .ok (.putfield 25, 3) := by decide +kernel
theorem d_Group_find_63 : decode b_Group_find 63 = .ok (.return_, 1) := by decide +kernel
theorem d_Group_putInOrder_0 : decode b_Group_putInOrder 0 = .ok (.iconst 0, 1) := by decide +kernel
theorem d_Group_putInOrder_1 : decode b_Group_putInOrder 1 = .ok (.istore_n 1, 1) := by decide +kernel
theorem d_Group_putInOrder_2 : decode b_Group_putInOrder 2 = .ok (.iconst 0, 1) := by decide +kernel
theorem d_Group_putInOrder_3 : decode b_Group_putInOrder 3 = .ok (.istore_n 2, 1) := by decide +kernel
theorem d_Group_putInOrder_4 : decode b_Group_putInOrder 4 = .ok (.iload_n 2, 1) := by decide +kernel
theorem d_Group_putInOrder_5 : decode b_Group_putInOrder 5 = .ok (.sipush 5040, 3) := by decide +kernel
theorem d_Group_putInOrder_8 : decode b_Group_putInOrder 8 = .ok (.if_icmp .ge 55, 3) := by decide +kernel
theorem d_Group_putInOrder_11 : decode b_Group_putInOrder 11 = .ok (.aload_n 0, 1) := by decide +kernel
theorem d_Group_putInOrder_12 : decode b_Group_putInOrder 12 = .ok (.getfield 18, 3) := by decide +kernel
theorem d_Group_putInOrder_15 : decode b_Group_putInOrder 15 = .ok (.iload_n 2, 1) := by decide +kernel
theorem d_Group_putInOrder_16 : decode b_Group_putInOrder 16 = .ok (.iconst (-1), 1) := by decide +kernel
theorem d_Group_putInOrder_17 : decode b_Group_putInOrder 17 = .ok (.iastore, 1) := by decide +kernel
theorem d_Group_putInOrder_18 : decode b_Group_putInOrder 18 = .ok (.aload_n 0, 1) := by decide +kernel
theorem d_Group_putInOrder_19 : decode b_Group_putInOrder 19 = .ok (.getfield 15, 3) := by decide +kernel
theorem d_Group_putInOrder_22 : decode b_Group_putInOrder 22 = .ok (.iload_n 2, 1) := by decide +kernel
theorem d_Group_putInOrder_23 : decode b_Group_putInOrder 23 = .ok (.iaload, 1) := by decide +kernel
theorem d_Group_putInOrder_24 : decode b_Group_putInOrder 24 = .ok (.iconst (-1), 1) := by decide +kernel
theorem d_Group_putInOrder_25 : decode b_Group_putInOrder 25 = .ok (.if_icmp .eq 32, 3) := by decide +kernel
theorem d_Group_putInOrder_28 : decode b_Group_putInOrder 28 = .ok (.iload_n 1, 1) := by decide +kernel
theorem d_Group_putInOrder_29 : decode b_Group_putInOrder 29 = .ok (.invokestatic 61, 3) := by decide +kernel
theorem d_Group_putInOrder_32 : decode b_Group_putInOrder 32 = .ok (.ifCond .eq 25, 3) := by decide +kernel
theorem d_Group_putInOrder_35 : decode b_Group_putInOrder 35 = .ok (.aload_n 0, 1) := by decide +kernel
theorem d_Group_putInOrder_36 : decode b_Group_putInOrder 36 = .ok (.getfield 18, 3) := by decide +kernel
theorem d_Group_putInOrder_39 : decode b_Group_putInOrder 39 = .ok (.iload_n 2, 1) := by decide +kernel
theorem d_Group_putInOrder_40 : decode b_Group_putInOrder 40 = .ok (.iload_n 1, 1) := by decide +kernel
theorem d_Group_putInOrder_41 : decode b_Group_putInOrder 41 = .ok (.iastore, 1) := by decide +kernel
theorem d_Group_putInOrder_42 : decode b_Group_putInOrder 42 = .ok (.aload_n 0, 1) := by decide +kernel
theorem d_Group_putInOrder_43 : decode b_Group_putInOrder 43 = .ok (.getfield 9, 3) := by decide +kernel
theorem d_Group_putInOrder_46 : decode b_Group_putInOrder 46 = .ok (.iload_n 1, 1) := by decide +kernel
theorem d_Group_putInOrder_47 : decode b_Group_putInOrder 47 = .ok (.aload_n 0, 1) := by decide +kernel
theorem d_Group_putInOrder_48 : decode b_Group_putInOrder 48 = .ok (.getfield 15, 3) := by decide +kernel
theorem d_Group_putInOrder_51 : decode b_Group_putInOrder 51 = .ok (.iload_n 2, 1) := by decide +kernel
theorem d_Group_putInOrder_52 : decode b_Group_putInOrder 52 = .ok (.iaload, 1) := by decide +kernel
theorem d_Group_putInOrder_53 : decode b_Group_putInOrder 53 = .ok (.iastore, 1) := by decide +kernel
theorem d_Group_putInOrder_54 : decode b_Group_putInOrder 54 = .ok (.iinc 1 1, 3) := by decide +kernel
theorem d_Group_putInOrder_57 : decode b_Group_putInOrder 57 = .ok (.iinc 2 1, 3) := by decide +kernel
theorem d_Group_putInOrder_60 : decode b_Group_putInOrder 60 = .ok (.goto (-56), 3) := by decide +kernel
theorem d_Group_putInOrder_63 : decode b_Group_putInOrder 63 = .ok (.return_, 1) := by decide +kernel
theorem d_Group_isCell_0 : decode b_Group_isCell 0 = .ok (.iload_n 0, 1) := by decide +kernel
theorem d_Group_isCell_1 : decode b_Group_isCell 1 = .ok (.ifCond .lt 14, 3) := by decide +kernel
theorem d_Group_isCell_4 : decode b_Group_isCell 4 = .ok (.iload_n 0, 1) := by decide +kernel
theorem d_Group_isCell_5 : decode b_Group_isCell 5 = .ok (.sipush 5040, 3) := by decide +kernel
theorem d_Group_isCell_8 : decode b_Group_isCell 8 = .ok (.if_icmp .ge 7, 3) := by decide +kernel
theorem d_Group_isCell_11 : decode b_Group_isCell 11 = .ok (.iconst 1, 1) := by decide +kernel
theorem d_Group_isCell_12 : decode b_Group_isCell 12 = .ok (.goto 4, 3) := by decide +kernel
theorem d_Group_isCell_15 : decode b_Group_isCell 15 = .ok (.iconst 0, 1) := by decide +kernel
theorem d_Group_isCell_16 : decode b_Group_isCell 16 = .ok (.ireturn, 1) := by decide +kernel
theorem d_Group_rowAt_0 : decode b_Group_rowAt 0 = .ok (.iload_n 1, 1) := by decide +kernel
theorem d_Group_rowAt_1 : decode b_Group_rowAt 1 = .ok (.ifCond .lt 20, 3) := by decide +kernel
theorem d_Group_rowAt_4 : decode b_Group_rowAt 4 = .ok (.iload_n 1, 1) := by decide +kernel
theorem d_Group_rowAt_5 : decode b_Group_rowAt 5 = .ok (.aload_n 0, 1) := by decide +kernel
theorem d_Group_rowAt_6 : decode b_Group_rowAt 6 = .ok (.getfield 25, 3) := by decide +kernel
theorem d_Group_rowAt_9 : decode b_Group_rowAt 9 = .ok (.if_icmp .ge 12, 3) := by decide +kernel
theorem d_Group_rowAt_12 : decode b_Group_rowAt 12 = .ok (.aload_n 0, 1) := by decide +kernel
theorem d_Group_rowAt_13 : decode b_Group_rowAt 13 = .ok (.getfield 9, 3) := by decide +kernel
theorem d_Group_rowAt_16 : decode b_Group_rowAt 16 = .ok (.iload_n 1, 1) := by decide +kernel
theorem d_Group_rowAt_17 : decode b_Group_rowAt 17 = .ok (.iaload, 1) := by decide +kernel
theorem d_Group_rowAt_18 : decode b_Group_rowAt 18 = .ok (.goto 4, 3) := by decide +kernel
theorem d_Group_rowAt_21 : decode b_Group_rowAt 21 = .ok (.iconst (-1), 1) := by decide +kernel
theorem d_Group_rowAt_22 : decode b_Group_rowAt 22 = .ok (.ireturn, 1) := by decide +kernel
theorem d_Group_numberOf_0 : decode b_Group_numberOf 0 = .ok (.iload_n 1, 1) := by decide +kernel
theorem d_Group_numberOf_1 : decode b_Group_numberOf 1 = .ok (.aload_n 0, 1) := by decide +kernel
theorem d_Group_numberOf_2 : decode b_Group_numberOf 2 = .ok (.getfield 21, 3) := by decide +kernel
theorem d_Group_numberOf_5 : decode b_Group_numberOf 5 = .ok (.invokestatic 57, 3) := by decide +kernel
theorem d_Group_numberOf_8 : decode b_Group_numberOf 8 = .ok (.istore_n 2, 1) := by decide +kernel
theorem d_Group_numberOf_9 : decode b_Group_numberOf 9 = .ok (.iload_n 2, 1) := by decide +kernel
theorem d_Group_numberOf_10 : decode b_Group_numberOf 10 = .ok (.invokestatic 61, 3) := by decide +kernel
theorem d_Group_numberOf_13 : decode b_Group_numberOf 13 = .ok (.ifCond .eq 12, 3) := by decide +kernel
theorem d_Group_numberOf_16 : decode b_Group_numberOf 16 = .ok (.aload_n 0, 1) := by decide +kernel
theorem d_Group_numberOf_17 : decode b_Group_numberOf 17 = .ok (.getfield 18, 3) := by decide +kernel
theorem d_Group_numberOf_20 : decode b_Group_numberOf 20 = .ok (.iload_n 2, 1) := by decide +kernel
theorem d_Group_numberOf_21 : decode b_Group_numberOf 21 = .ok (.iaload, 1) := by decide +kernel
theorem d_Group_numberOf_22 : decode b_Group_numberOf 22 = .ok (.goto 4, 3) := by decide +kernel
theorem d_Group_numberOf_25 : decode b_Group_numberOf 25 = .ok (.iconst (-1), 1) := by decide +kernel
theorem d_Group_numberOf_26 : decode b_Group_numberOf 26 = .ok (.ireturn, 1) := by decide +kernel
theorem d_Group_allCycles_0 : decode b_Group_allCycles 0 = .ok (.iconst 0, 1) := by decide +kernel
theorem d_Group_allCycles_1 : decode b_Group_allCycles 1 = .ok (.istore_n 1, 1) := by decide +kernel
theorem d_Group_allCycles_2 : decode b_Group_allCycles 2 = .ok (.iconst 0, 1) := by decide +kernel
theorem d_Group_allCycles_3 : decode b_Group_allCycles 3 = .ok (.istore_n 2, 1) := by decide +kernel
theorem d_Group_allCycles_4 : decode b_Group_allCycles 4 = .ok (.iload_n 2, 1) := by decide +kernel
theorem d_Group_allCycles_5 : decode b_Group_allCycles 5 = .ok (.aload_n 0, 1) := by decide +kernel
theorem d_Group_allCycles_6 : decode b_Group_allCycles 6 = .ok (.getfield 25, 3) := by decide +kernel
theorem d_Group_allCycles_9 : decode b_Group_allCycles 9 = .ok (.if_icmp .ge 25, 3) := by decide +kernel
theorem d_Group_allCycles_12 : decode b_Group_allCycles 12 = .ok (.iload_n 1, 1) := by decide +kernel
theorem d_Group_allCycles_13 : decode b_Group_allCycles 13 = .ok (.aload_n 0, 1) := by decide +kernel
theorem d_Group_allCycles_14 : decode b_Group_allCycles 14 = .ok (.getfield 9, 3) := by decide +kernel
theorem d_Group_allCycles_17 : decode b_Group_allCycles 17 = .ok (.iload_n 2, 1) := by decide +kernel
theorem d_Group_allCycles_18 : decode b_Group_allCycles 18 = .ok (.iaload, 1) := by decide +kernel
theorem d_Group_allCycles_19 : decode b_Group_allCycles 19 = .ok (.aload_n 0, 1) := by decide +kernel
theorem d_Group_allCycles_20 : decode b_Group_allCycles 20 = .ok (.getfield 21, 3) := by decide +kernel
theorem d_Group_allCycles_23 : decode b_Group_allCycles 23 = .ok (.invokestatic 65, 3) := by decide +kernel
theorem d_Group_allCycles_26 : decode b_Group_allCycles 26 = .ok (.iadd, 1) := by decide +kernel
theorem d_Group_allCycles_27 : decode b_Group_allCycles 27 = .ok (.istore_n 1, 1) := by decide +kernel
theorem d_Group_allCycles_28 : decode b_Group_allCycles 28 = .ok (.iinc 2 1, 3) := by decide +kernel
theorem d_Group_allCycles_31 : decode b_Group_allCycles 31 = .ok (.goto (-27), 3) := by decide +kernel
theorem d_Group_allCycles_34 : decode b_Group_allCycles 34 = .ok (.iload_n 1, 1) := by decide +kernel
theorem d_Group_allCycles_35 : decode b_Group_allCycles 35 = .ok (.ireturn, 1) := by decide +kernel
theorem d_Group_leastTarget_0 : decode b_Group_leastTarget 0 = .ok (.iload_n 1, 1) := by decide +kernel
theorem d_Group_leastTarget_1 : decode b_Group_leastTarget 1 = .ok (.istore_n 2, 1) := by decide +kernel
theorem d_Group_leastTarget_2 : decode b_Group_leastTarget 2 = .ok (.iconst 0, 1) := by decide +kernel
theorem d_Group_leastTarget_3 : decode b_Group_leastTarget 3 = .ok (.istore_n 3, 1) := by decide +kernel
theorem d_Group_leastTarget_4 : decode b_Group_leastTarget 4 = .ok (.iload_n 3, 1) := by decide +kernel
theorem d_Group_leastTarget_5 : decode b_Group_leastTarget 5 = .ok (.aload_n 0, 1) := by decide +kernel
theorem d_Group_leastTarget_6 : decode b_Group_leastTarget 6 = .ok (.getfield 25, 3) := by decide +kernel
theorem d_Group_leastTarget_9 : decode b_Group_leastTarget 9 = .ok (.if_icmp .ge 24, 3) := by decide +kernel
theorem d_Group_leastTarget_12 : decode b_Group_leastTarget 12 = .ok (.iload_n 2, 1) := by decide +kernel
theorem d_Group_leastTarget_13 : decode b_Group_leastTarget 13 = .ok (.aload_n 0, 1) := by decide +kernel
theorem d_Group_leastTarget_14 : decode b_Group_leastTarget 14 = .ok (.getfield 9, 3) := by decide +kernel
theorem d_Group_leastTarget_17 : decode b_Group_leastTarget 17 = .ok (.iload_n 3, 1) := by decide +kernel
theorem d_Group_leastTarget_18 : decode b_Group_leastTarget 18 = .ok (.iaload, 1) := by decide +kernel
theorem d_Group_leastTarget_19 : decode b_Group_leastTarget 19 = .ok (.iload_n 1, 1) := by decide +kernel
theorem d_Group_leastTarget_20 : decode b_Group_leastTarget 20 = .ok (.invokestatic 68, 3) := by decide +kernel
theorem d_Group_leastTarget_23 : decode b_Group_leastTarget 23 = .ok (.invokestatic 71, 3) := by decide +kernel
theorem d_Group_leastTarget_26 : decode b_Group_leastTarget 26 = .ok (.istore_n 2, 1) := by decide +kernel
theorem d_Group_leastTarget_27 : decode b_Group_leastTarget 27 = .ok (.iinc 3 1, 3) := by decide +kernel
theorem d_Group_leastTarget_30 : decode b_Group_leastTarget 30 = .ok (.goto (-26), 3) := by decide +kernel
theorem d_Group_leastTarget_33 : decode b_Group_leastTarget 33 = .ok (.iload_n 2, 1) := by decide +kernel
theorem d_Group_leastTarget_34 : decode b_Group_leastTarget 34 = .ok (.ireturn, 1) := by decide +kernel

-- SwapOrbits$Group.isCell(I)Z
abbrev rm_Group_isCell : Room := { frames := 0, cells := 0, slots := 0, locals := 0 }
def wp_Group_isCell (post : Int32 → Prop) (a1 : Int32) : Prop := (a1 < 0 → post (0 : Int32)) ∧ (¬ a1 < 0 → ((5040 : Int32) ≤ a1 → post (0 : Int32)) ∧ (¬ (5040 : Int32) ≤ a1 → post (1 : Int32)))
set_option maxHeartbeats 4000000 in
set_option maxRecDepth 100000 in
theorem met_Group_isCell (l : Launch) (dC : Nat → ClassId) (dI : Nat → Nat → Nat) (cI cZ : ClassId) (a1 : Int32) (post : Int32 → Prop) (hw : wp_Group_isCell post a1) : Met l y_Group_isCell (Cond.code y_Group_isCell b_Group_isCell 1 (some .boolean) :: gw) rm_Group_isCell (va_Pc [.int a1] (fun U => EV (dC, dI) cI cZ U ∧ va_P (dC, dI) classes [] U.heap)) (vp_Si post) 0 0 (fun _ => False) := by
  refine Met.ofW (cc := b_Group_isCell) (maxL := 1) (ret := (some .boolean)) (by decide) rfl ?_
  intro p e s m args below meth c s₁ B hml hv
  obtain ⟨rfl, hE, hP⟩ := hv
  have C := CX.of (own := R_Group) (D := (dC, dI)) (cI := cI) (cZ := cZ) B hml rfl hE
  obtain ⟨hx, hb, hr, -, hown, hts, hlocks, -⟩ := id C
  have hl := lv_entry ([.int a1]) (n := 1) (Nat.le_of_ble_eq_true rfl)
  rw [lg_entry_eq]
  generalize (lg_sl ([.int a1]) ++ List.replicate (1 - (lg_sl ([.int a1])).length) Slot.unset).toArray = ls at hl ⊢
  have hl : lv_has ls 1 [(0, .int a1)] := hl
  unfold wp_Group_isCell at hw
  refine lv_iload_n hx hb d_Group_isCell_0 rfl (lv_at hl 0 rfl) ?_
  refine lv_if_lt (tgt := 15) hx hb d_Group_isCell_1 (by decide) (fun c1 => ?_) (fun c1 => ?_)
  · have hw := hw.1 c1
    refine lv_iconst (v := (0 : Int32)) hx hb d_Group_isCell_15 (by decide) ?_
    exact W.zret (v := (0 : Int32)) hx hb hr rfl (fun t ht hW => ⟨(0 : Int32), rfl, hw, by rw [ht]⟩) (fun _ h => by cases h) d_Group_isCell_16
  · have hw := hw.2 c1
    refine lv_iload_n hx hb d_Group_isCell_4 rfl (lv_at hl 0 rfl) ?_
    refine lv_sipush (v := (5040 : Int32)) hx hb d_Group_isCell_5 (by decide) ?_
    refine lv_icmp_ge (tgt := 15) hx hb d_Group_isCell_8 (by decide) (fun c8 => ?_) (fun c8 => ?_)
    · have hw := hw.1 c8
      refine lv_iconst (v := (0 : Int32)) hx hb d_Group_isCell_15 (by decide) ?_
      exact W.zret (v := (0 : Int32)) hx hb hr rfl (fun t ht hW => ⟨(0 : Int32), rfl, hw, by rw [ht]⟩) (fun _ h => by cases h) d_Group_isCell_16
    · have hw := hw.2 c8
      refine lv_iconst (v := (1 : Int32)) hx hb d_Group_isCell_11 (by decide) ?_
      refine lv_goto (tgt := 16) hx hb d_Group_isCell_12 (by decide) ?_
      exact W.zret (v := (1 : Int32)) hx hb hr rfl (fun t ht hW => ⟨(1 : Int32), rfl, hw, by rw [ht]⟩) (fun _ h => by cases h) d_Group_isCell_16

-- SwapOrbits$Group.find(I)V
abbrev rm_Group_find : Room := { frames := 2, cells := 0, slots := 0, locals := 47 }
abbrev QM_Group_find (dC : Nat → ClassId) (dI : Nat → Nat → Nat) (cI cZ : ClassId) (h_t h_t_rows h_t_rowByPlace h_t_numberByPlace : Nat) (t_points : Int32) (t_numberByPlace : Nat → Int32) (post : Int32 → (Nat → Int32) → (Nat → Int32) → Prop) (A : Nat → Prop) : Array Value → State → Outcome → State → Prop := va_Qv (fun u : Int32 × (Nat → Int32) × (Nat → Int32) => post u.1 u.2.1 u.2.2) (fun u t => va_P (dC, dI) classes [(h_t, .inr (3, [.ref h_t_rows, .ref h_t_rowByPlace, .ref h_t_numberByPlace, .int t_points, .int u.1])), (h_t_rows, .inl (cI, 5040, .inl u.2.1)), (h_t_rowByPlace, .inl (cI, 5040, .inl u.2.2)), (h_t_numberByPlace, .inl (cI, 5040, .inl t_numberByPlace))] t.heap ∧ va_D A [(h_t, .inr (3, [.ref h_t_rows, .ref h_t_rowByPlace, .ref h_t_numberByPlace, .int t_points, .int u.1])), (h_t_rows, .inl (cI, 5040, .inl u.2.1)), (h_t_rowByPlace, .inl (cI, 5040, .inl u.2.2)), (h_t_numberByPlace, .inl (cI, 5040, .inl t_numberByPlace))]) A
def wp_Group_find (post : Int32 → (Nat → Int32) → (Nat → Int32) → Prop) (t_points : Int32) (t_size : Int32) (t_rows : Nat → Int32) (t_rowByPlace : Nat → Int32) (a1 : Int32) : Prop := wp_Rows_place (fun r5 => wp_Group_isCell (fun r10 => (r10 = 0 → post t_size t_rows t_rowByPlace) ∧ (¬ r10 = 0 → vp_in r5 5040 ∧ (((t_rowByPlace r5.toNatClampNeg) = (-1 : Int32) → wp_Group_isCell (fun r30 => (r30 = 0 → post t_size t_rows t_rowByPlace) ∧ (¬ r30 = 0 → vp_in r5 5040 ∧ (vp_in t_size 5040 ∧ (∀ f60 : Int32, f60 = t_size + (1 : Int32) → (post f60 (upd t_rows t_size.toNatClampNeg a1) (upd t_rowByPlace r5.toNatClampNeg a1)))))) t_size) ∧ (¬ (t_rowByPlace r5.toNatClampNeg) = (-1 : Int32) → post t_size t_rows t_rowByPlace)))) r5) a1 t_points
set_option maxHeartbeats 4000000 in
set_option maxRecDepth 100000 in
theorem met_Group_find (l : Launch) (dC : Nat → ClassId) (dI : Nat → Nat → Nat) (cI cZ : ClassId) (h_t h_t_rows h_t_rowByPlace h_t_numberByPlace : Nat) (sz : Nat) (t_points : Int32) (t_size : Int32) (t_rows : Nat → Int32) (t_rowByPlace : Nat → Int32) (t_numberByPlace : Nat → Int32) (a1 : Int32) (post : Int32 → (Nat → Int32) → (Nat → Int32) → Prop) (hw : wp_Group_find post t_points t_size t_rows t_rowByPlace a1) : Met l y_Group_find (Cond.code y_Group_find b_Group_find 3 none :: gw) rm_Group_find (va_Pc [.ref h_t, .int a1] (fun U => U.heap.size = sz ∧ EV (dC, dI) cI cZ U ∧ va_P (dC, dI) classes [(h_t, .inr (3, [.ref h_t_rows, .ref h_t_rowByPlace, .ref h_t_numberByPlace, .int t_points, .int t_size])), (h_t_rows, .inl (cI, 5040, .inl t_rows)), (h_t_rowByPlace, .inl (cI, 5040, .inl t_rowByPlace)), (h_t_numberByPlace, .inl (cI, 5040, .inl t_numberByPlace))] U.heap ∧ va_D (fun _ => True) [(h_t, .inr (3, [.ref h_t_rows, .ref h_t_rowByPlace, .ref h_t_numberByPlace, .int t_points, .int t_size])), (h_t_rows, .inl (cI, 5040, .inl t_rows)), (h_t_rowByPlace, .inl (cI, 5040, .inl t_rowByPlace)), (h_t_numberByPlace, .inl (cI, 5040, .inl t_numberByPlace))])) (QM_Group_find dC dI cI cZ h_t h_t_rows h_t_rowByPlace h_t_numberByPlace t_points t_numberByPlace post (va_A [(h_t, .inr (3, [.ref h_t_rows, .ref h_t_rowByPlace, .ref h_t_numberByPlace, .int t_points, .int t_size])), (h_t_rows, .inl (cI, 5040, .inl t_rows)), (h_t_rowByPlace, .inl (cI, 5040, .inl t_rowByPlace)), (h_t_numberByPlace, .inl (cI, 5040, .inl t_numberByPlace))] sz)) 0 0 (va_A [(h_t, .inr (3, [.ref h_t_rows, .ref h_t_rowByPlace, .ref h_t_numberByPlace, .int t_points, .int t_size])), (h_t_rows, .inl (cI, 5040, .inl t_rows)), (h_t_rowByPlace, .inl (cI, 5040, .inl t_rowByPlace)), (h_t_numberByPlace, .inl (cI, 5040, .inl t_numberByPlace))] sz) := by
  refine Met.ofW (cc := b_Group_find) (maxL := 3) (ret := none) (by decide) rfl ?_
  intro p e s m args below meth c s₁ B hml hv
  obtain ⟨rfl, hsz, hE, hP, hD0⟩ := hv
  have C := CX.of (own := R_Group) (D := (dC, dI)) (cI := cI) (cZ := cZ) B hml rfl hE
  obtain ⟨hx, hb, hr, -, hown, hts, hlocks, -⟩ := id C
  subst hsz
  have hD := hD0.self (sz := s.heap.size)
  generalize hAe : va_A [(h_t, .inr (3, [.ref h_t_rows, .ref h_t_rowByPlace, .ref h_t_numberByPlace, .int t_points, .int t_size])), (h_t_rows, .inl (cI, 5040, .inl t_rows)), (h_t_rowByPlace, .inl (cI, 5040, .inl t_rowByPlace)), (h_t_numberByPlace, .inl (cI, 5040, .inl t_numberByPlace))] s.heap.size = A at hD ⊢
  have hA : ∀ q : Nat, s.heap.size ≤ q → A q := fun q h => by rw [← hAe]; exact Or.inr h
  have hS : va_S A s.heap s.heap [] := va_S.rf
  have hP : va_P (dC, dI) classes [(h_t, .inr (3, [.ref h_t_rows, .ref h_t_rowByPlace, .ref h_t_numberByPlace, .int t_points, .int t_size])), (h_t_rows, .inl (cI, 5040, .inl t_rows)), (h_t_rowByPlace, .inl (cI, 5040, .inl t_rowByPlace)), (h_t_numberByPlace, .inl (cI, 5040, .inl t_numberByPlace))] s.heap := hP
  have hl := lv_entry ([.ref h_t, .int a1]) (n := 3) (Nat.le_of_ble_eq_true rfl)
  rw [lg_entry_eq]
  generalize (lg_sl ([.ref h_t, .int a1]) ++ List.replicate (3 - (lg_sl ([.ref h_t, .int a1])).length) Slot.unset).toArray = ls at hl ⊢
  have hl : lv_has ls 3 [(0, .ref h_t), (1, .int a1)] := hl
  refine keyL (P := fun H locs => va_P (dC, dI) classes [(h_t, .inr (3, [.ref h_t_rows, .ref h_t_rowByPlace, .ref h_t_numberByPlace, .int t_points, .int t_size])), (h_t_rows, .inl (cI, 5040, .inl t_rows)), (h_t_rowByPlace, .inl (cI, 5040, .inl t_rowByPlace)), (h_t_numberByPlace, .inl (cI, 5040, .inl t_numberByPlace))] H ∧ va_D A [(h_t, .inr (3, [.ref h_t_rows, .ref h_t_rowByPlace, .ref h_t_numberByPlace, .int t_points, .int t_size])), (h_t_rows, .inl (cI, 5040, .inl t_rows)), (h_t_rowByPlace, .inl (cI, 5040, .inl t_rowByPlace)), (h_t_numberByPlace, .inl (cI, 5040, .inl t_numberByPlace))] ∧ va_S A s.heap H locs) ⟨hP, hD, hS⟩ (fun H locs hPP => ?_)
  clear hP hD hS
  obtain ⟨hP, hD, hS⟩ := hPP
  unfold wp_Group_find at hw
  refine lv_iload_n hx hb d_Group_find_0 rfl (lv_at hl 1 rfl) ?_
  refine lv_aload_n hx hb d_Group_find_1 rfl (lv_at hl 0 rfl) ?_
  refine va_get (D := (dC, dI)) (ci := 3) (v := .int t_points) (C := R_Group) (T := F_Group) (N := 5) hx hb hts i_Group hown hE.1 hP 0 rfl rfl 3 (by decide) (hts _ kf_Group_21) (fun _ h9 => h9) rfl d_Group_find_2 ?_
  have hPc := hP.sub (ws' := []) [] rfl
  refine vp_callSi (va_Run.run (va_runS (As := [.int a1, .int t_points]) (rest := []) ⟨hx, hb, hml, hown, hts⟩ (met_Rows_place l dC dI cI cZ  a1 t_points _ hw) ⟨cB 2 hts kc_Rows_place ki_Rows kl_Group_57 hd_Rows_place ⟨Nat.le_of_ble_eq_true rfl, Nat.le_of_ble_eq_true rfl⟩, hts _ ks_Rows_place⟩ (preS_ro hE hPc) rfl rfl hl.1 rfl (lv_room (Nat.le_of_ble_eq_true rfl)) d_Group_find_5 ⟨Nat.le_of_ble_eq_true rfl, Nat.le_of_ble_eq_true rfl⟩)) (fun r5 hw => ?_)
  refine lv_istore_n (lv' := [(2, .int r5), (0, .ref h_t), (1, .int a1)]) hx hb d_Group_find_8 rfl hl (by decide) rfl (fun ls hl => ?_)
  refine lv_iload_n hx hb d_Group_find_9 rfl (lv_at hl 0 rfl) ?_
  have hPc := hP.sub (ws' := []) [] rfl
  refine vp_callSi (va_Run.run (va_runS (As := [.int r5]) (rest := []) ⟨hx, hb, hml, hown, hts⟩ (met_Group_isCell l dC dI cI cZ  r5 _ hw) ⟨cB 1 hts kc_Group_isCell ki_Group kl_Group_61 hd_Group_isCell ⟨Nat.le_of_ble_eq_true rfl, Nat.le_of_ble_eq_true rfl⟩, hts _ ks_Group_isCell⟩ (preS_ro hE hPc) rfl rfl hl.1 rfl (lv_room (Nat.le_of_ble_eq_true rfl)) d_Group_find_10 ⟨Nat.le_of_ble_eq_true rfl, Nat.le_of_ble_eq_true rfl⟩)) (fun r10 hw => ?_)
  refine lv_if_eq (tgt := 63) hx hb d_Group_find_13 (by decide) (fun c13 => ?_) (fun c13 => ?_)
  · have hw := hw.1 c13
    exact W.vret hx hb hr (fun t ht hW => ⟨⟨(t_size, t_rows, t_rowByPlace), rfl, hw, by rw [ht]; exact hP, hD⟩, hS.F ht⟩) hS.2.2 d_Group_find_63
  · have hw := hw.2 c13
    refine lv_aload_n hx hb d_Group_find_16 rfl (lv_at hl 1 rfl) ?_
    refine va_get (D := (dC, dI)) (ci := 3) (v := .ref h_t_rowByPlace) (C := R_Group) (T := F_Group) (N := 5) hx hb hts i_Group hown hE.1 hP 0 rfl rfl 1 (by decide) (hts _ kf_Group_15) (fun _ h9 => h9) rfl d_Group_find_17 ?_
    refine lv_iload_n hx hb d_Group_find_20 rfl (lv_at hl 0 rfl) ?_
    have hz := hw.1
    have hw := hw.2
    refine va_iald hx hb hE.1 hP 2 0 rfl rfl hz d_Group_find_21 ?_
    refine lv_iconst (v := (-1 : Int32)) hx hb d_Group_find_22 (by decide) ?_
    refine lv_icmp_ne (tgt := 63) hx hb d_Group_find_23 (by decide) (fun c23 => ?_) (fun c23 => ?_)
    · have hw := hw.2 c23
      exact W.vret hx hb hr (fun t ht hW => ⟨⟨(t_size, t_rows, t_rowByPlace), rfl, hw, by rw [ht]; exact hP, hD⟩, hS.F ht⟩) hS.2.2 d_Group_find_63
    · have hw := hw.1 c23
      refine lv_aload_n hx hb d_Group_find_26 rfl (lv_at hl 1 rfl) ?_
      refine va_get (D := (dC, dI)) (ci := 3) (v := .int t_size) (C := R_Group) (T := F_Group) (N := 5) hx hb hts i_Group hown hE.1 hP 0 rfl rfl 4 (by decide) (hts _ kf_Group_25) (fun _ h9 => h9) rfl d_Group_find_27 ?_
      have hPc := hP.sub (ws' := []) [] rfl
      refine vp_callSi (va_Run.run (va_runS (As := [.int t_size]) (rest := []) ⟨hx, hb, hml, hown, hts⟩ (met_Group_isCell l dC dI cI cZ  t_size _ hw) ⟨cB 1 hts kc_Group_isCell ki_Group kl_Group_61 hd_Group_isCell ⟨Nat.le_of_ble_eq_true rfl, Nat.le_of_ble_eq_true rfl⟩, hts _ ks_Group_isCell⟩ (preS_ro hE hPc) rfl rfl hl.1 rfl (lv_room (Nat.le_of_ble_eq_true rfl)) d_Group_find_30 ⟨Nat.le_of_ble_eq_true rfl, Nat.le_of_ble_eq_true rfl⟩)) (fun r30 hw => ?_)
      refine lv_if_eq (tgt := 63) hx hb d_Group_find_33 (by decide) (fun c33 => ?_) (fun c33 => ?_)
      · have hw := hw.1 c33
        exact W.vret hx hb hr (fun t ht hW => ⟨⟨(t_size, t_rows, t_rowByPlace), rfl, hw, by rw [ht]; exact hP, hD⟩, hS.F ht⟩) hS.2.2 d_Group_find_63
      · have hw := hw.2 c33
        refine lv_aload_n hx hb d_Group_find_36 rfl (lv_at hl 1 rfl) ?_
        refine va_get (D := (dC, dI)) (ci := 3) (v := .ref h_t_rowByPlace) (C := R_Group) (T := F_Group) (N := 5) hx hb hts i_Group hown hE.1 hP 0 rfl rfl 1 (by decide) (hts _ kf_Group_15) (fun _ h9 => h9) rfl d_Group_find_37 ?_
        refine lv_iload_n hx hb d_Group_find_40 rfl (lv_at hl 0 rfl) ?_
        refine lv_iload_n hx hb d_Group_find_41 rfl (lv_at hl 2 rfl) ?_
        have hz := hw.1
        have hw := hw.2
        refine va_iast hx hb hE.1 hP hD hS 2 0 rfl rfl hz d_Group_find_42 (fun H locs hP hD hS => ?_)
        have hP : va_P (dC, dI) classes [(h_t, .inr (3, [.ref h_t_rows, .ref h_t_rowByPlace, .ref h_t_numberByPlace, .int t_points, .int t_size])), (h_t_rows, .inl (cI, 5040, .inl t_rows)), (h_t_rowByPlace, .inl (cI, 5040, .inl (upd t_rowByPlace r5.toNatClampNeg a1))), (h_t_numberByPlace, .inl (cI, 5040, .inl t_numberByPlace))] H := hP
        have hD : va_D A [(h_t, .inr (3, [.ref h_t_rows, .ref h_t_rowByPlace, .ref h_t_numberByPlace, .int t_points, .int t_size])), (h_t_rows, .inl (cI, 5040, .inl t_rows)), (h_t_rowByPlace, .inl (cI, 5040, .inl (upd t_rowByPlace r5.toNatClampNeg a1))), (h_t_numberByPlace, .inl (cI, 5040, .inl t_numberByPlace))] := hD
        refine lv_aload_n hx hb d_Group_find_43 rfl (lv_at hl 1 rfl) ?_
        refine va_get (D := (dC, dI)) (ci := 3) (v := .ref h_t_rows) (C := R_Group) (T := F_Group) (N := 5) hx hb hts i_Group hown hE.1 hP 0 rfl rfl 0 (by decide) (hts _ kf_Group_9) (fun _ h9 => h9) rfl d_Group_find_44 ?_
        refine lv_aload_n hx hb d_Group_find_47 rfl (lv_at hl 1 rfl) ?_
        refine va_get (D := (dC, dI)) (ci := 3) (v := .int t_size) (C := R_Group) (T := F_Group) (N := 5) hx hb hts i_Group hown hE.1 hP 0 rfl rfl 4 (by decide) (hts _ kf_Group_25) (fun _ h9 => h9) rfl d_Group_find_48 ?_
        refine lv_iload_n hx hb d_Group_find_51 rfl (lv_at hl 2 rfl) ?_
        have hz := hw.1
        have hw := hw.2
        refine va_iast hx hb hE.1 hP hD hS 1 0 rfl rfl hz d_Group_find_52 (fun H locs hP hD hS => ?_)
        have hP : va_P (dC, dI) classes [(h_t, .inr (3, [.ref h_t_rows, .ref h_t_rowByPlace, .ref h_t_numberByPlace, .int t_points, .int t_size])), (h_t_rows, .inl (cI, 5040, .inl (upd t_rows t_size.toNatClampNeg a1))), (h_t_rowByPlace, .inl (cI, 5040, .inl (upd t_rowByPlace r5.toNatClampNeg a1))), (h_t_numberByPlace, .inl (cI, 5040, .inl t_numberByPlace))] H := hP
        have hD : va_D A [(h_t, .inr (3, [.ref h_t_rows, .ref h_t_rowByPlace, .ref h_t_numberByPlace, .int t_points, .int t_size])), (h_t_rows, .inl (cI, 5040, .inl (upd t_rows t_size.toNatClampNeg a1))), (h_t_rowByPlace, .inl (cI, 5040, .inl (upd t_rowByPlace r5.toNatClampNeg a1))), (h_t_numberByPlace, .inl (cI, 5040, .inl t_numberByPlace))] := hD
        refine lv_aload_n hx hb d_Group_find_53 rfl (lv_at hl 1 rfl) ?_
        refine lv_dup hx hb d_Group_find_54 rfl ?_
        refine va_get (D := (dC, dI)) (ci := 3) (v := .int t_size) (C := R_Group) (T := F_Group) (N := 5) hx hb hts i_Group hown hE.1 hP 0 rfl rfl 4 (by decide) (hts _ kf_Group_25) (fun _ h9 => h9) rfl d_Group_find_55 ?_
        refine lv_iconst (v := (1 : Int32)) hx hb d_Group_find_58 (by decide) ?_
        refine lv_iadd hx hb d_Group_find_59 ?_
        refine lv_topi (fun f60 ef60 => ?_)
        have hw := hw f60 ef60
        refine va_put (D := (dC, dI)) (ci := 3) (v := .int f60) (ty := .int) (C := R_Group) (T := F_Group) (N := 5) hx hb hts i_Group t_Group t_Group_ok n_Group hown hE.1 hP hD hS 0 rfl rfl 4 (by decide) (hts _ kf_Group_25) (fun _ h9 => h9) rfl (by decide +kernel) rfl rfl (Nat.le_of_ble_eq_true rfl) d_Group_find_60 (fun H locs hP hD hS => ?_)
        have hP : va_P (dC, dI) classes [(h_t, .inr (3, [.ref h_t_rows, .ref h_t_rowByPlace, .ref h_t_numberByPlace, .int t_points, .int f60])), (h_t_rows, .inl (cI, 5040, .inl (upd t_rows t_size.toNatClampNeg a1))), (h_t_rowByPlace, .inl (cI, 5040, .inl (upd t_rowByPlace r5.toNatClampNeg a1))), (h_t_numberByPlace, .inl (cI, 5040, .inl t_numberByPlace))] H := hP
        have hD : va_D A [(h_t, .inr (3, [.ref h_t_rows, .ref h_t_rowByPlace, .ref h_t_numberByPlace, .int t_points, .int f60])), (h_t_rows, .inl (cI, 5040, .inl (upd t_rows t_size.toNatClampNeg a1))), (h_t_rowByPlace, .inl (cI, 5040, .inl (upd t_rowByPlace r5.toNatClampNeg a1))), (h_t_numberByPlace, .inl (cI, 5040, .inl t_numberByPlace))] := hD
        exact W.vret hx hb hr (fun t ht hW => ⟨⟨(f60, upd t_rows t_size.toNatClampNeg a1, upd t_rowByPlace r5.toNatClampNeg a1), rfl, hw, by rw [ht]; exact hP, hD⟩, hS.F ht⟩) hS.2.2 d_Group_find_63

-- SwapOrbits$Group.putInOrder()V
abbrev rm_Group_putInOrder : Room := { frames := 1, cells := 0, slots := 0, locals := 20 }
abbrev QM_Group_putInOrder (dC : Nat → ClassId) (dI : Nat → Nat → Nat) (cI cZ : ClassId) (h_t h_t_rows h_t_rowByPlace h_t_numberByPlace : Nat) (t_points : Int32) (t_size : Int32) (t_rowByPlace : Nat → Int32) (post : (Nat → Int32) → (Nat → Int32) → Prop) (A : Nat → Prop) : Array Value → State → Outcome → State → Prop := va_Qv (fun u : (Nat → Int32) × (Nat → Int32) => post u.1 u.2) (fun u t => va_P (dC, dI) classes [(h_t, .inr (3, [.ref h_t_rows, .ref h_t_rowByPlace, .ref h_t_numberByPlace, .int t_points, .int t_size])), (h_t_rows, .inl (cI, 5040, .inl u.1)), (h_t_rowByPlace, .inl (cI, 5040, .inl t_rowByPlace)), (h_t_numberByPlace, .inl (cI, 5040, .inl u.2))] t.heap ∧ va_D A [(h_t, .inr (3, [.ref h_t_rows, .ref h_t_rowByPlace, .ref h_t_numberByPlace, .int t_points, .int t_size])), (h_t_rows, .inl (cI, 5040, .inl u.1)), (h_t_rowByPlace, .inl (cI, 5040, .inl t_rowByPlace)), (h_t_numberByPlace, .inl (cI, 5040, .inl u.2))]) A
def L_Group_putInOrder_4b (post : (Nat → Int32) → (Nat → Int32) → Prop) (t_rowByPlace : Nat → Int32) (K4 : (Nat → Int32) → (Nat → Int32) → Int32 → Int32 → Prop) (t_rows : Nat → Int32) (t_numberByPlace : Nat → Int32) (v1 : Int32) (v2 : Int32) : Prop := ((5040 : Int32) ≤ v2 → post t_rows t_numberByPlace) ∧ (¬ (5040 : Int32) ≤ v2 → vp_in v2 5040 ∧ (vp_in v2 5040 ∧ (((t_rowByPlace v2.toNatClampNeg) = (-1 : Int32) → ∀ x2_57 : Int32, x2_57 = v2 + 1 → (K4 t_rows (upd t_numberByPlace v2.toNatClampNeg (-1 : Int32)) v1 x2_57)) ∧ (¬ (t_rowByPlace v2.toNatClampNeg) = (-1 : Int32) → wp_Group_isCell (fun r29 => (r29 = 0 → ∀ x2_57 : Int32, x2_57 = v2 + 1 → (K4 t_rows (upd t_numberByPlace v2.toNatClampNeg (-1 : Int32)) v1 x2_57)) ∧ (¬ r29 = 0 → vp_in v2 5040 ∧ (vp_in v2 5040 ∧ (∀ y53 : Int32, y53 = t_rowByPlace v2.toNatClampNeg → (vp_in v1 5040 ∧ (∀ x1_54 : Int32, x1_54 = v1 + 1 → (∀ x2_57 : Int32, x2_57 = v2 + 1 → (K4 (upd t_rows v1.toNatClampNeg y53) (upd (upd t_numberByPlace v2.toNatClampNeg (-1 : Int32)) v2.toNatClampNeg v1) x1_54 x2_57)))))))) v1))))
def L_Group_putInOrder_4 (post : (Nat → Int32) → (Nat → Int32) → Prop) (t_rowByPlace : Nat → Int32) : Nat → (Nat → Int32) → (Nat → Int32) → Int32 → Int32 → Prop
  | 0, _, _, _, _ => False
  | n + 1, t_rows, t_numberByPlace, v1, v2 => L_Group_putInOrder_4b post t_rowByPlace (L_Group_putInOrder_4 post t_rowByPlace n) t_rows t_numberByPlace v1 v2
def wp_Group_putInOrder (post : (Nat → Int32) → (Nat → Int32) → Prop) (t_rows : Nat → Int32) (t_rowByPlace : Nat → Int32) (t_numberByPlace : Nat → Int32) : Prop := ∃ n, L_Group_putInOrder_4 post t_rowByPlace n t_rows t_numberByPlace (0 : Int32) (0 : Int32)
set_option maxHeartbeats 4000000 in
set_option maxRecDepth 100000 in
theorem qL_Group_putInOrder_4 {p : Program} {l : Launch} {e : Env} {s : State} {m : MethodId} {args : Array Value} {below : List Frame} {meth : Method} {c : Code} {dC : Nat → ClassId} {dI : Nat → Nat → Nat} {cI cZ : ClassId} (C : CX p s m args meth c R_Group b_Group_putInOrder 3 none (dC, dI) cI cZ) {h_t h_t_rows h_t_rowByPlace h_t_numberByPlace : Nat} {A : Nat → Prop} (hA : ∀ q : Nat, s.heap.size ≤ q → A q) (post : (Nat → Int32) → (Nat → Int32) → Prop) (t_points : Int32) (t_size : Int32) (t_rowByPlace : Nat → Int32) : ∀ (n : Nat) (t_rows : Nat → Int32) (t_numberByPlace : Nat → Int32) (v1 : Int32) (v2 : Int32) , L_Group_putInOrder_4 post t_rowByPlace n t_rows t_numberByPlace v1 v2 → ∀ (H : Heap) (locs : List Loc), va_P (dC, dI) classes [(h_t, .inr (3, [.ref h_t_rows, .ref h_t_rowByPlace, .ref h_t_numberByPlace, .int t_points, .int t_size])), (h_t_rows, .inl (cI, 5040, .inl t_rows)), (h_t_rowByPlace, .inl (cI, 5040, .inl t_rowByPlace)), (h_t_numberByPlace, .inl (cI, 5040, .inl t_numberByPlace))] H → va_D A [(h_t, .inr (3, [.ref h_t_rows, .ref h_t_rowByPlace, .ref h_t_numberByPlace, .int t_points, .int t_size])), (h_t_rows, .inl (cI, 5040, .inl t_rows)), (h_t_rowByPlace, .inl (cI, 5040, .inl t_rowByPlace)), (h_t_numberByPlace, .inl (cI, 5040, .inl t_numberByPlace))] → va_S A s.heap H locs → ∀ (ls : Array Slot), lv_has ls 3 [(0, .ref h_t), (1, .int v1), (2, .int v2)] → W p l e rm_Group_putInOrder s m args below meth c H locs 0 0 (MQ below (QM_Group_putInOrder dC dI cI cZ h_t h_t_rows h_t_rowByPlace h_t_numberByPlace t_points t_size t_rowByPlace post A) args s 0 0 A) (F0 m 4 ls []) := by
  obtain ⟨hx, hb, hr, hml, hown, hts, hlocks, hE⟩ := id C
  intro n
  induction n with
  | zero =>
    intro t_rows t_numberByPlace v1 v2 hw
    exact (show False from hw).elim
  | succ n ih =>
    intro t_rows t_numberByPlace v1 v2 hw H locs hP hD hS ls hl
    have hw : L_Group_putInOrder_4b post t_rowByPlace (L_Group_putInOrder_4 post t_rowByPlace n) t_rows t_numberByPlace v1 v2 := hw
    unfold L_Group_putInOrder_4b at hw
    refine lv_iload_n hx hb d_Group_putInOrder_4 rfl (lv_at hl 2 rfl) ?_
    refine lv_sipush (v := (5040 : Int32)) hx hb d_Group_putInOrder_5 (by decide) ?_
    refine lv_icmp_ge (tgt := 63) hx hb d_Group_putInOrder_8 (by decide) (fun c8 => ?_) (fun c8 => ?_)
    · have hw := hw.1 c8
      exact W.vret hx hb hr (fun t ht hW => ⟨⟨(t_rows, t_numberByPlace), rfl, hw, by rw [ht]; exact hP, hD⟩, hS.F ht⟩) hS.2.2 d_Group_putInOrder_63
    · have hw := hw.2 c8
      refine lv_aload_n hx hb d_Group_putInOrder_11 rfl (lv_at hl 0 rfl) ?_
      refine va_get (D := (dC, dI)) (ci := 3) (v := .ref h_t_numberByPlace) (C := R_Group) (T := F_Group) (N := 5) hx hb hts i_Group hown hE.1 hP 0 rfl rfl 2 (by decide) (hts _ kf_Group_18) (fun _ h9 => h9) rfl d_Group_putInOrder_12 ?_
      refine lv_iload_n hx hb d_Group_putInOrder_15 rfl (lv_at hl 2 rfl) ?_
      refine lv_iconst (v := (-1 : Int32)) hx hb d_Group_putInOrder_16 (by decide) ?_
      have hz := hw.1
      have hw := hw.2
      refine va_iast hx hb hE.1 hP hD hS 3 0 rfl rfl hz d_Group_putInOrder_17 (fun H locs hP hD hS => ?_)
      have hP : va_P (dC, dI) classes [(h_t, .inr (3, [.ref h_t_rows, .ref h_t_rowByPlace, .ref h_t_numberByPlace, .int t_points, .int t_size])), (h_t_rows, .inl (cI, 5040, .inl t_rows)), (h_t_rowByPlace, .inl (cI, 5040, .inl t_rowByPlace)), (h_t_numberByPlace, .inl (cI, 5040, .inl (upd t_numberByPlace v2.toNatClampNeg (-1 : Int32))))] H := hP
      have hD : va_D A [(h_t, .inr (3, [.ref h_t_rows, .ref h_t_rowByPlace, .ref h_t_numberByPlace, .int t_points, .int t_size])), (h_t_rows, .inl (cI, 5040, .inl t_rows)), (h_t_rowByPlace, .inl (cI, 5040, .inl t_rowByPlace)), (h_t_numberByPlace, .inl (cI, 5040, .inl (upd t_numberByPlace v2.toNatClampNeg (-1 : Int32))))] := hD
      refine lv_aload_n hx hb d_Group_putInOrder_18 rfl (lv_at hl 0 rfl) ?_
      refine va_get (D := (dC, dI)) (ci := 3) (v := .ref h_t_rowByPlace) (C := R_Group) (T := F_Group) (N := 5) hx hb hts i_Group hown hE.1 hP 0 rfl rfl 1 (by decide) (hts _ kf_Group_15) (fun _ h9 => h9) rfl d_Group_putInOrder_19 ?_
      refine lv_iload_n hx hb d_Group_putInOrder_22 rfl (lv_at hl 2 rfl) ?_
      have hz := hw.1
      have hw := hw.2
      refine va_iald hx hb hE.1 hP 2 0 rfl rfl hz d_Group_putInOrder_23 ?_
      refine lv_iconst (v := (-1 : Int32)) hx hb d_Group_putInOrder_24 (by decide) ?_
      refine lv_icmp_eq (tgt := 57) hx hb d_Group_putInOrder_25 (by decide) (fun c25 => ?_) (fun c25 => ?_)
      · have hw := hw.1 c25
        obtain ⟨x2_57, ex2_57⟩ : ∃ y : Int32, y = v2 + 1 := ⟨_, rfl⟩
        have hw := hw x2_57 ex2_57
        refine lv_iinc (v := x2_57) (lv' := [(2, .int x2_57), (0, .ref h_t), (1, .int v1)]) hx hb d_Group_putInOrder_57 hl (k := 2) rfl (by rw [ex2_57]; rfl) (by decide) rfl (fun ls hl => ?_)
        refine lv_goto (tgt := 4) hx hb d_Group_putInOrder_60 (by decide) ?_
        exact ih t_rows (upd t_numberByPlace v2.toNatClampNeg (-1 : Int32)) v1 x2_57 hw H locs hP hD hS ls (lv_sub hl [1, 2, 0] rfl)
      · have hw := hw.2 c25
        refine lv_iload_n hx hb d_Group_putInOrder_28 rfl (lv_at hl 1 rfl) ?_
        have hPc := hP.sub (ws' := []) [] rfl
        refine vp_callSi (va_Run.run (va_runS (As := [.int v1]) (rest := []) ⟨hx, hb, hml, hown, hts⟩ (met_Group_isCell l dC dI cI cZ  v1 _ hw) ⟨cB 1 hts kc_Group_isCell ki_Group kl_Group_61 hd_Group_isCell ⟨Nat.le_of_ble_eq_true rfl, Nat.le_of_ble_eq_true rfl⟩, hts _ ks_Group_isCell⟩ (preS_ro hE hPc) rfl rfl hl.1 rfl (lv_room (Nat.le_of_ble_eq_true rfl)) d_Group_putInOrder_29 ⟨Nat.le_of_ble_eq_true rfl, Nat.le_of_ble_eq_true rfl⟩)) (fun r29 hw => ?_)
        refine lv_if_eq (tgt := 57) hx hb d_Group_putInOrder_32 (by decide) (fun c32 => ?_) (fun c32 => ?_)
        · have hw := hw.1 c32
          obtain ⟨x2_57, ex2_57⟩ : ∃ y : Int32, y = v2 + 1 := ⟨_, rfl⟩
          have hw := hw x2_57 ex2_57
          refine lv_iinc (v := x2_57) (lv' := [(2, .int x2_57), (0, .ref h_t), (1, .int v1)]) hx hb d_Group_putInOrder_57 hl (k := 2) rfl (by rw [ex2_57]; rfl) (by decide) rfl (fun ls hl => ?_)
          refine lv_goto (tgt := 4) hx hb d_Group_putInOrder_60 (by decide) ?_
          exact ih t_rows (upd t_numberByPlace v2.toNatClampNeg (-1 : Int32)) v1 x2_57 hw H locs hP hD hS ls (lv_sub hl [1, 2, 0] rfl)
        · have hw := hw.2 c32
          refine lv_aload_n hx hb d_Group_putInOrder_35 rfl (lv_at hl 0 rfl) ?_
          refine va_get (D := (dC, dI)) (ci := 3) (v := .ref h_t_numberByPlace) (C := R_Group) (T := F_Group) (N := 5) hx hb hts i_Group hown hE.1 hP 0 rfl rfl 2 (by decide) (hts _ kf_Group_18) (fun _ h9 => h9) rfl d_Group_putInOrder_36 ?_
          refine lv_iload_n hx hb d_Group_putInOrder_39 rfl (lv_at hl 2 rfl) ?_
          refine lv_iload_n hx hb d_Group_putInOrder_40 rfl (lv_at hl 1 rfl) ?_
          have hz := hw.1
          have hw := hw.2
          refine va_iast hx hb hE.1 hP hD hS 3 0 rfl rfl hz d_Group_putInOrder_41 (fun H locs hP hD hS => ?_)
          have hP : va_P (dC, dI) classes [(h_t, .inr (3, [.ref h_t_rows, .ref h_t_rowByPlace, .ref h_t_numberByPlace, .int t_points, .int t_size])), (h_t_rows, .inl (cI, 5040, .inl t_rows)), (h_t_rowByPlace, .inl (cI, 5040, .inl t_rowByPlace)), (h_t_numberByPlace, .inl (cI, 5040, .inl (upd (upd t_numberByPlace v2.toNatClampNeg (-1 : Int32)) v2.toNatClampNeg v1)))] H := hP
          have hD : va_D A [(h_t, .inr (3, [.ref h_t_rows, .ref h_t_rowByPlace, .ref h_t_numberByPlace, .int t_points, .int t_size])), (h_t_rows, .inl (cI, 5040, .inl t_rows)), (h_t_rowByPlace, .inl (cI, 5040, .inl t_rowByPlace)), (h_t_numberByPlace, .inl (cI, 5040, .inl (upd (upd t_numberByPlace v2.toNatClampNeg (-1 : Int32)) v2.toNatClampNeg v1)))] := hD
          refine lv_aload_n hx hb d_Group_putInOrder_42 rfl (lv_at hl 0 rfl) ?_
          refine va_get (D := (dC, dI)) (ci := 3) (v := .ref h_t_rows) (C := R_Group) (T := F_Group) (N := 5) hx hb hts i_Group hown hE.1 hP 0 rfl rfl 0 (by decide) (hts _ kf_Group_9) (fun _ h9 => h9) rfl d_Group_putInOrder_43 ?_
          refine lv_iload_n hx hb d_Group_putInOrder_46 rfl (lv_at hl 1 rfl) ?_
          refine lv_aload_n hx hb d_Group_putInOrder_47 rfl (lv_at hl 0 rfl) ?_
          refine va_get (D := (dC, dI)) (ci := 3) (v := .ref h_t_rowByPlace) (C := R_Group) (T := F_Group) (N := 5) hx hb hts i_Group hown hE.1 hP 0 rfl rfl 1 (by decide) (hts _ kf_Group_15) (fun _ h9 => h9) rfl d_Group_putInOrder_48 ?_
          refine lv_iload_n hx hb d_Group_putInOrder_51 rfl (lv_at hl 2 rfl) ?_
          have hz := hw.1
          have hw := hw.2
          refine va_iald hx hb hE.1 hP 2 0 rfl rfl hz d_Group_putInOrder_52 ?_
          refine lv_topi (fun y53 ey53 => ?_)
          have hw := hw y53 ey53
          have hz := hw.1
          have hw := hw.2
          refine va_iast hx hb hE.1 hP hD hS 1 0 rfl rfl hz d_Group_putInOrder_53 (fun H locs hP hD hS => ?_)
          have hP : va_P (dC, dI) classes [(h_t, .inr (3, [.ref h_t_rows, .ref h_t_rowByPlace, .ref h_t_numberByPlace, .int t_points, .int t_size])), (h_t_rows, .inl (cI, 5040, .inl (upd t_rows v1.toNatClampNeg y53))), (h_t_rowByPlace, .inl (cI, 5040, .inl t_rowByPlace)), (h_t_numberByPlace, .inl (cI, 5040, .inl (upd (upd t_numberByPlace v2.toNatClampNeg (-1 : Int32)) v2.toNatClampNeg v1)))] H := hP
          have hD : va_D A [(h_t, .inr (3, [.ref h_t_rows, .ref h_t_rowByPlace, .ref h_t_numberByPlace, .int t_points, .int t_size])), (h_t_rows, .inl (cI, 5040, .inl (upd t_rows v1.toNatClampNeg y53))), (h_t_rowByPlace, .inl (cI, 5040, .inl t_rowByPlace)), (h_t_numberByPlace, .inl (cI, 5040, .inl (upd (upd t_numberByPlace v2.toNatClampNeg (-1 : Int32)) v2.toNatClampNeg v1)))] := hD
          obtain ⟨x1_54, ex1_54⟩ : ∃ y : Int32, y = v1 + 1 := ⟨_, rfl⟩
          have hw := hw x1_54 ex1_54
          refine lv_iinc (v := x1_54) (lv' := [(1, .int x1_54), (0, .ref h_t), (2, .int v2)]) hx hb d_Group_putInOrder_54 hl (k := 1) rfl (by rw [ex1_54]; rfl) (by decide) rfl (fun ls hl => ?_)
          obtain ⟨x2_57, ex2_57⟩ : ∃ y : Int32, y = v2 + 1 := ⟨_, rfl⟩
          have hw := hw x2_57 ex2_57
          refine lv_iinc (v := x2_57) (lv' := [(2, .int x2_57), (1, .int x1_54), (0, .ref h_t)]) hx hb d_Group_putInOrder_57 hl (k := 2) rfl (by rw [ex2_57]; rfl) (by decide) rfl (fun ls hl => ?_)
          refine lv_goto (tgt := 4) hx hb d_Group_putInOrder_60 (by decide) ?_
          exact ih (upd t_rows v1.toNatClampNeg y53) (upd (upd t_numberByPlace v2.toNatClampNeg (-1 : Int32)) v2.toNatClampNeg v1) x1_54 x2_57 hw H locs hP hD hS ls (lv_sub hl [2, 1, 0] rfl)
set_option maxHeartbeats 4000000 in
set_option maxRecDepth 100000 in
theorem met_Group_putInOrder (l : Launch) (dC : Nat → ClassId) (dI : Nat → Nat → Nat) (cI cZ : ClassId) (h_t h_t_rows h_t_rowByPlace h_t_numberByPlace : Nat) (sz : Nat) (t_points : Int32) (t_size : Int32) (t_rows : Nat → Int32) (t_rowByPlace : Nat → Int32) (t_numberByPlace : Nat → Int32) (post : (Nat → Int32) → (Nat → Int32) → Prop) (hw : wp_Group_putInOrder post t_rows t_rowByPlace t_numberByPlace) : Met l y_Group_putInOrder (Cond.code y_Group_putInOrder b_Group_putInOrder 3 none :: gw) rm_Group_putInOrder (va_Pc [.ref h_t] (fun U => U.heap.size = sz ∧ EV (dC, dI) cI cZ U ∧ va_P (dC, dI) classes [(h_t, .inr (3, [.ref h_t_rows, .ref h_t_rowByPlace, .ref h_t_numberByPlace, .int t_points, .int t_size])), (h_t_rows, .inl (cI, 5040, .inl t_rows)), (h_t_rowByPlace, .inl (cI, 5040, .inl t_rowByPlace)), (h_t_numberByPlace, .inl (cI, 5040, .inl t_numberByPlace))] U.heap ∧ va_D (fun _ => True) [(h_t, .inr (3, [.ref h_t_rows, .ref h_t_rowByPlace, .ref h_t_numberByPlace, .int t_points, .int t_size])), (h_t_rows, .inl (cI, 5040, .inl t_rows)), (h_t_rowByPlace, .inl (cI, 5040, .inl t_rowByPlace)), (h_t_numberByPlace, .inl (cI, 5040, .inl t_numberByPlace))])) (QM_Group_putInOrder dC dI cI cZ h_t h_t_rows h_t_rowByPlace h_t_numberByPlace t_points t_size t_rowByPlace post (va_A [(h_t, .inr (3, [.ref h_t_rows, .ref h_t_rowByPlace, .ref h_t_numberByPlace, .int t_points, .int t_size])), (h_t_rows, .inl (cI, 5040, .inl t_rows)), (h_t_rowByPlace, .inl (cI, 5040, .inl t_rowByPlace)), (h_t_numberByPlace, .inl (cI, 5040, .inl t_numberByPlace))] sz)) 0 0 (va_A [(h_t, .inr (3, [.ref h_t_rows, .ref h_t_rowByPlace, .ref h_t_numberByPlace, .int t_points, .int t_size])), (h_t_rows, .inl (cI, 5040, .inl t_rows)), (h_t_rowByPlace, .inl (cI, 5040, .inl t_rowByPlace)), (h_t_numberByPlace, .inl (cI, 5040, .inl t_numberByPlace))] sz) := by
  refine Met.ofW (cc := b_Group_putInOrder) (maxL := 3) (ret := none) (by decide) rfl ?_
  intro p e s m args below meth c s₁ B hml hv
  obtain ⟨rfl, hsz, hE, hP, hD0⟩ := hv
  have C := CX.of (own := R_Group) (D := (dC, dI)) (cI := cI) (cZ := cZ) B hml rfl hE
  obtain ⟨hx, hb, hr, -, hown, hts, hlocks, -⟩ := id C
  subst hsz
  have hD := hD0.self (sz := s.heap.size)
  generalize hAe : va_A [(h_t, .inr (3, [.ref h_t_rows, .ref h_t_rowByPlace, .ref h_t_numberByPlace, .int t_points, .int t_size])), (h_t_rows, .inl (cI, 5040, .inl t_rows)), (h_t_rowByPlace, .inl (cI, 5040, .inl t_rowByPlace)), (h_t_numberByPlace, .inl (cI, 5040, .inl t_numberByPlace))] s.heap.size = A at hD ⊢
  have hA : ∀ q : Nat, s.heap.size ≤ q → A q := fun q h => by rw [← hAe]; exact Or.inr h
  have hS : va_S A s.heap s.heap [] := va_S.rf
  have hP : va_P (dC, dI) classes [(h_t, .inr (3, [.ref h_t_rows, .ref h_t_rowByPlace, .ref h_t_numberByPlace, .int t_points, .int t_size])), (h_t_rows, .inl (cI, 5040, .inl t_rows)), (h_t_rowByPlace, .inl (cI, 5040, .inl t_rowByPlace)), (h_t_numberByPlace, .inl (cI, 5040, .inl t_numberByPlace))] s.heap := hP
  have hl := lv_entry ([.ref h_t]) (n := 3) (Nat.le_of_ble_eq_true rfl)
  rw [lg_entry_eq]
  generalize (lg_sl ([.ref h_t]) ++ List.replicate (3 - (lg_sl ([.ref h_t])).length) Slot.unset).toArray = ls at hl ⊢
  have hl : lv_has ls 3 [(0, .ref h_t)] := hl
  refine keyL (P := fun H locs => va_P (dC, dI) classes [(h_t, .inr (3, [.ref h_t_rows, .ref h_t_rowByPlace, .ref h_t_numberByPlace, .int t_points, .int t_size])), (h_t_rows, .inl (cI, 5040, .inl t_rows)), (h_t_rowByPlace, .inl (cI, 5040, .inl t_rowByPlace)), (h_t_numberByPlace, .inl (cI, 5040, .inl t_numberByPlace))] H ∧ va_D A [(h_t, .inr (3, [.ref h_t_rows, .ref h_t_rowByPlace, .ref h_t_numberByPlace, .int t_points, .int t_size])), (h_t_rows, .inl (cI, 5040, .inl t_rows)), (h_t_rowByPlace, .inl (cI, 5040, .inl t_rowByPlace)), (h_t_numberByPlace, .inl (cI, 5040, .inl t_numberByPlace))] ∧ va_S A s.heap H locs) ⟨hP, hD, hS⟩ (fun H locs hPP => ?_)
  clear hP hD hS
  obtain ⟨hP, hD, hS⟩ := hPP
  unfold wp_Group_putInOrder at hw
  refine lv_iconst (v := (0 : Int32)) hx hb d_Group_putInOrder_0 (by decide) ?_
  refine lv_istore_n (lv' := [(1, .int (0 : Int32)), (0, .ref h_t)]) hx hb d_Group_putInOrder_1 rfl hl (by decide) rfl (fun ls hl => ?_)
  refine lv_iconst (v := (0 : Int32)) hx hb d_Group_putInOrder_2 (by decide) ?_
  refine lv_istore_n (lv' := [(2, .int (0 : Int32)), (1, .int (0 : Int32)), (0, .ref h_t)]) hx hb d_Group_putInOrder_3 rfl hl (by decide) rfl (fun ls hl => ?_)
  obtain ⟨n4, hw⟩ := hw
  exact qL_Group_putInOrder_4 C hA post  t_points t_size t_rowByPlace  n4 t_rows t_numberByPlace (0 : Int32) (0 : Int32) hw H locs hP hD hS ls (lv_sub hl [2, 1, 0] rfl)

-- SwapOrbits$Group.close(ILSwapOrbits$Moves;)V
abbrev rm_Group_close : Room := { frames := 3, cells := 0, slots := 0, locals := 69 }
abbrev QM_Group_close (dC : Nat → ClassId) (dI : Nat → Nat → Nat) (cI cZ : ClassId) (h_t h_t_rows h_t_rowByPlace h_t_numberByPlace h_a2 h_a2_rows : Nat) (a2_count : Int32) (a2_rows : Nat → Int32) (post : Int32 → Int32 → (Nat → Int32) → (Nat → Int32) → (Nat → Int32) → Prop) (A : Nat → Prop) : Array Value → State → Outcome → State → Prop := va_Qv (fun u : Int32 × Int32 × (Nat → Int32) × (Nat → Int32) × (Nat → Int32) => post u.1 u.2.1 u.2.2.1 u.2.2.2.1 u.2.2.2.2) (fun u t => va_P (dC, dI) classes [(h_t, .inr (3, [.ref h_t_rows, .ref h_t_rowByPlace, .ref h_t_numberByPlace, .int u.1, .int u.2.1])), (h_t_rows, .inl (cI, 5040, .inl u.2.2.1)), (h_t_rowByPlace, .inl (cI, 5040, .inl u.2.2.2.1)), (h_t_numberByPlace, .inl (cI, 5040, .inl u.2.2.2.2)), (h_a2, .inr (1, [.ref h_a2_rows, .int a2_count])), (h_a2_rows, .inl (cI, 5, .inl a2_rows))] t.heap ∧ va_D A [(h_t, .inr (3, [.ref h_t_rows, .ref h_t_rowByPlace, .ref h_t_numberByPlace, .int u.1, .int u.2.1])), (h_t_rows, .inl (cI, 5040, .inl u.2.2.1)), (h_t_rowByPlace, .inl (cI, 5040, .inl u.2.2.2.1)), (h_t_numberByPlace, .inl (cI, 5040, .inl u.2.2.2.2)), (h_a2, .inr (1, [.ref h_a2_rows, .int a2_count])), (h_a2_rows, .inl (cI, 5, .inl a2_rows))]) A
def L_Group_close_49b (K31 : Int32 → (Nat → Int32) → (Nat → Int32) → Int32 → Prop) (t_points : Int32) (a2_count : Int32) (a2_rows : Nat → Int32) (v3 : Int32) (K49 : Int32 → (Nat → Int32) → (Nat → Int32) → Int32 → Prop) (t_size : Int32) (t_rows : Nat → Int32) (t_rowByPlace : Nat → Int32) (v4 : Int32) : Prop := (a2_count ≤ v4 → ∀ x3_88 : Int32, x3_88 = v3 + 1 → (K31 t_size t_rows t_rowByPlace x3_88)) ∧ (¬ a2_count ≤ v4 → vp_in v3 5040 ∧ (vp_in v4 5 ∧ (wp_Rows_chain (fun r76 => wp_Group_find (fun t_size_79 t_rows_79 t_rowByPlace_79 => ∀ x4_82 : Int32, x4_82 = v4 + 1 → (K49 t_size_79 t_rows_79 t_rowByPlace_79 x4_82)) t_points t_size t_rows t_rowByPlace r76) (t_rows v3.toNatClampNeg) (a2_rows v4.toNatClampNeg) t_points)))
def L_Group_close_49 (K31 : Int32 → (Nat → Int32) → (Nat → Int32) → Int32 → Prop) (t_points : Int32) (a2_count : Int32) (a2_rows : Nat → Int32) (v3 : Int32) : Nat → Int32 → (Nat → Int32) → (Nat → Int32) → Int32 → Prop
  | 0, _, _, _, _ => False
  | n + 1, t_size, t_rows, t_rowByPlace, v4 => L_Group_close_49b K31 t_points a2_count a2_rows v3 (L_Group_close_49 K31 t_points a2_count a2_rows v3 n) t_size t_rows t_rowByPlace v4
def L_Group_close_31b (post : Int32 → Int32 → (Nat → Int32) → (Nat → Int32) → (Nat → Int32) → Prop) (t_points : Int32) (t_numberByPlace : Nat → Int32) (a2_count : Int32) (a2_rows : Nat → Int32) (K31 : Int32 → (Nat → Int32) → (Nat → Int32) → Int32 → Prop) (t_size : Int32) (t_rows : Nat → Int32) (t_rowByPlace : Nat → Int32) (v3 : Int32) : Prop := (t_size ≤ v3 → wp_Group_putInOrder (fun t_rows_95 t_numberByPlace_95 => post t_points t_size t_rows_95 t_rowByPlace t_numberByPlace_95) t_rows t_rowByPlace t_numberByPlace) ∧ (¬ t_size ≤ v3 → ((5040 : Int32) ≤ v3 → wp_Group_putInOrder (fun t_rows_95 t_numberByPlace_95 => post t_points t_size t_rows_95 t_rowByPlace t_numberByPlace_95) t_rows t_rowByPlace t_numberByPlace) ∧ (¬ (5040 : Int32) ≤ v3 → ∃ n, L_Group_close_49 K31 t_points a2_count a2_rows v3 n t_size t_rows t_rowByPlace (0 : Int32)))
def L_Group_close_31 (post : Int32 → Int32 → (Nat → Int32) → (Nat → Int32) → (Nat → Int32) → Prop) (t_points : Int32) (t_numberByPlace : Nat → Int32) (a2_count : Int32) (a2_rows : Nat → Int32) : Nat → Int32 → (Nat → Int32) → (Nat → Int32) → Int32 → Prop
  | 0, _, _, _, _ => False
  | n + 1, t_size, t_rows, t_rowByPlace, v3 => L_Group_close_31b post t_points t_numberByPlace a2_count a2_rows (L_Group_close_31 post t_points t_numberByPlace a2_count a2_rows n) t_size t_rows t_rowByPlace v3
def wp_Group_close (post : Int32 → Int32 → (Nat → Int32) → (Nat → Int32) → (Nat → Int32) → Prop) (t_rows : Nat → Int32) (t_rowByPlace : Nat → Int32) (t_numberByPlace : Nat → Int32) (a2_count : Int32) (a2_rows : Nat → Int32) (a1 : Int32) : Prop := wp_Arrays_fill (fun t_rowByPlace_15 => wp_Rows_identity (fun r23 => wp_Group_find (fun t_size_26 t_rows_26 t_rowByPlace_26 => ∃ n, L_Group_close_31 post a1 t_numberByPlace a2_count a2_rows n t_size_26 t_rows_26 t_rowByPlace_26 (0 : Int32)) a1 (0 : Int32) t_rows t_rowByPlace_15 r23) a1) 5040 t_rowByPlace (-1 : Int32)
set_option maxHeartbeats 4000000 in
set_option maxRecDepth 100000 in
theorem qL_Group_close_49 {p : Program} {l : Launch} {e : Env} {s : State} {m : MethodId} {args : Array Value} {below : List Frame} {meth : Method} {c : Code} {dC : Nat → ClassId} {dI : Nat → Nat → Nat} {cI cZ : ClassId} (C : CX p s m args meth c R_Group b_Group_close 5 none (dC, dI) cI cZ) {h_t h_t_rows h_t_rowByPlace h_t_numberByPlace h_a2 h_a2_rows : Nat} {A : Nat → Prop} (hA : ∀ q : Nat, s.heap.size ≤ q → A q) (post : Int32 → Int32 → (Nat → Int32) → (Nat → Int32) → (Nat → Int32) → Prop) (K31 : Int32 → (Nat → Int32) → (Nat → Int32) → Int32 → Prop) (t_points : Int32) (t_numberByPlace : Nat → Int32) (a2_count : Int32) (a2_rows : Nat → Int32) (v3 : Int32) (hK31 : ∀ (t_size : Int32) (t_rows : Nat → Int32) (t_rowByPlace : Nat → Int32) (v3 : Int32), K31 t_size t_rows t_rowByPlace v3 → ∀ (H : Heap) (locs : List Loc), va_P (dC, dI) classes [(h_t, .inr (3, [.ref h_t_rows, .ref h_t_rowByPlace, .ref h_t_numberByPlace, .int t_points, .int t_size])), (h_t_rows, .inl (cI, 5040, .inl t_rows)), (h_t_rowByPlace, .inl (cI, 5040, .inl t_rowByPlace)), (h_t_numberByPlace, .inl (cI, 5040, .inl t_numberByPlace)), (h_a2, .inr (1, [.ref h_a2_rows, .int a2_count])), (h_a2_rows, .inl (cI, 5, .inl a2_rows))] H → va_D A [(h_t, .inr (3, [.ref h_t_rows, .ref h_t_rowByPlace, .ref h_t_numberByPlace, .int t_points, .int t_size])), (h_t_rows, .inl (cI, 5040, .inl t_rows)), (h_t_rowByPlace, .inl (cI, 5040, .inl t_rowByPlace)), (h_t_numberByPlace, .inl (cI, 5040, .inl t_numberByPlace)), (h_a2, .inr (1, [.ref h_a2_rows, .int a2_count])), (h_a2_rows, .inl (cI, 5, .inl a2_rows))] → va_S A s.heap H locs → ∀ (ls : Array Slot), lv_has ls 5 [(0, .ref h_t), (2, .ref h_a2), (3, .int v3)] → W p l e rm_Group_close s m args below meth c H locs 0 0 (MQ below (QM_Group_close dC dI cI cZ h_t h_t_rows h_t_rowByPlace h_t_numberByPlace h_a2 h_a2_rows a2_count a2_rows post A) args s 0 0 A) (F0 m 31 ls [])) : ∀ (n : Nat) (t_size : Int32) (t_rows : Nat → Int32) (t_rowByPlace : Nat → Int32) (v4 : Int32) , L_Group_close_49 K31 t_points a2_count a2_rows v3 n t_size t_rows t_rowByPlace v4 → ∀ (H : Heap) (locs : List Loc), va_P (dC, dI) classes [(h_t, .inr (3, [.ref h_t_rows, .ref h_t_rowByPlace, .ref h_t_numberByPlace, .int t_points, .int t_size])), (h_t_rows, .inl (cI, 5040, .inl t_rows)), (h_t_rowByPlace, .inl (cI, 5040, .inl t_rowByPlace)), (h_t_numberByPlace, .inl (cI, 5040, .inl t_numberByPlace)), (h_a2, .inr (1, [.ref h_a2_rows, .int a2_count])), (h_a2_rows, .inl (cI, 5, .inl a2_rows))] H → va_D A [(h_t, .inr (3, [.ref h_t_rows, .ref h_t_rowByPlace, .ref h_t_numberByPlace, .int t_points, .int t_size])), (h_t_rows, .inl (cI, 5040, .inl t_rows)), (h_t_rowByPlace, .inl (cI, 5040, .inl t_rowByPlace)), (h_t_numberByPlace, .inl (cI, 5040, .inl t_numberByPlace)), (h_a2, .inr (1, [.ref h_a2_rows, .int a2_count])), (h_a2_rows, .inl (cI, 5, .inl a2_rows))] → va_S A s.heap H locs → ∀ (ls : Array Slot), lv_has ls 5 [(0, .ref h_t), (2, .ref h_a2), (3, .int v3), (4, .int v4)] → W p l e rm_Group_close s m args below meth c H locs 0 0 (MQ below (QM_Group_close dC dI cI cZ h_t h_t_rows h_t_rowByPlace h_t_numberByPlace h_a2 h_a2_rows a2_count a2_rows post A) args s 0 0 A) (F0 m 49 ls []) := by
  obtain ⟨hx, hb, hr, hml, hown, hts, hlocks, hE⟩ := id C
  intro n
  induction n with
  | zero =>
    intro t_size t_rows t_rowByPlace v4 hw
    exact (show False from hw).elim
  | succ n ih =>
    intro t_size t_rows t_rowByPlace v4 hw H locs hP hD hS ls hl
    have hw : L_Group_close_49b K31 t_points a2_count a2_rows v3 (L_Group_close_49 K31 t_points a2_count a2_rows v3 n) t_size t_rows t_rowByPlace v4 := hw
    unfold L_Group_close_49b at hw
    refine lv_iload hx hb d_Group_close_49 (lv_at hl 3 rfl) ?_
    refine lv_aload_n hx hb d_Group_close_51 rfl (lv_at hl 1 rfl) ?_
    refine va_getN (D := (dC, dI)) (ci := 1) (v := .int a2_count) (C := R_Moves) (T := F_Moves) (N := 2) hx hb hts i_Moves hown hE.1 hP 4 rfl rfl 1 (by decide) (va_Nw.use rfl (hE.2 _ kf_Group_44 rfl)) (fun _ h9 => h9) rfl d_Group_close_52 ?_
    refine lv_icmp_ge (tgt := 88) hx hb d_Group_close_55 (by decide) (fun c55 => ?_) (fun c55 => ?_)
    · have hw := hw.1 c55
      obtain ⟨x3_88, ex3_88⟩ : ∃ y : Int32, y = v3 + 1 := ⟨_, rfl⟩
      have hw := hw x3_88 ex3_88
      refine lv_iinc (v := x3_88) (lv' := [(3, .int x3_88), (0, .ref h_t), (2, .ref h_a2), (4, .int v4)]) hx hb d_Group_close_88 hl (k := 2) rfl (by rw [ex3_88]; rfl) (by decide) rfl (fun ls hl => ?_)
      refine lv_goto (tgt := 31) hx hb d_Group_close_91 (by decide) ?_
      exact hK31 t_size t_rows t_rowByPlace x3_88 hw H locs hP hD hS ls (lv_sub hl [1, 2, 0] rfl)
    · have hw := hw.2 c55
      refine lv_aload_n hx hb d_Group_close_58 rfl (lv_at hl 0 rfl) ?_
      refine lv_aload_n hx hb d_Group_close_59 rfl (lv_at hl 0 rfl) ?_
      refine va_get (D := (dC, dI)) (ci := 3) (v := .ref h_t_rows) (C := R_Group) (T := F_Group) (N := 5) hx hb hts i_Group hown hE.1 hP 0 rfl rfl 0 (by decide) (hts _ kf_Group_9) (fun _ h9 => h9) rfl d_Group_close_60 ?_
      refine lv_iload_n hx hb d_Group_close_63 rfl (lv_at hl 2 rfl) ?_
      have hz := hw.1
      have hw := hw.2
      refine va_iald hx hb hE.1 hP 1 0 rfl rfl hz d_Group_close_64 ?_
      refine lv_aload_n hx hb d_Group_close_65 rfl (lv_at hl 1 rfl) ?_
      refine va_getN (D := (dC, dI)) (ci := 1) (v := .ref h_a2_rows) (C := R_Moves) (T := F_Moves) (N := 2) hx hb hts i_Moves hown hE.1 hP 4 rfl rfl 0 (by decide) (va_Nw.use rfl (hE.2 _ kf_Group_49 rfl)) (fun _ h9 => h9) rfl d_Group_close_66 ?_
      refine lv_iload hx hb d_Group_close_69 (lv_at hl 3 rfl) ?_
      have hz := hw.1
      have hw := hw.2
      refine va_iald hx hb hE.1 hP 5 0 rfl rfl hz d_Group_close_71 ?_
      refine lv_aload_n hx hb d_Group_close_72 rfl (lv_at hl 0 rfl) ?_
      refine va_get (D := (dC, dI)) (ci := 3) (v := .int t_points) (C := R_Group) (T := F_Group) (N := 5) hx hb hts i_Group hown hE.1 hP 0 rfl rfl 3 (by decide) (hts _ kf_Group_21) (fun _ h9 => h9) rfl d_Group_close_73 ?_
      have hPc := hP.sub (ws' := []) [] rfl
      refine vp_callSi (va_Run.run (va_runS (As := [.int (t_rows v3.toNatClampNeg), .int (a2_rows v4.toNatClampNeg), .int t_points]) (rest := [.ref h_t]) ⟨hx, hb, hml, hown, hts⟩ (met_Rows_chain l dC dI cI cZ  (t_rows v3.toNatClampNeg) (a2_rows v4.toNatClampNeg) t_points _ hw) ⟨cB 3 hts kc_Rows_chain ki_Rows kl_Group_50 hd_Rows_chain ⟨Nat.le_of_ble_eq_true rfl, Nat.le_of_ble_eq_true rfl⟩, hts _ ks_Rows_chain⟩ (preS_ro hE hPc) rfl rfl hl.1 rfl (lv_room (Nat.le_of_ble_eq_true rfl)) d_Group_close_76 ⟨Nat.le_of_ble_eq_true rfl, Nat.le_of_ble_eq_true rfl⟩)) (fun r76 hw => ?_)
      have hPc := hP.sub (ws' := [(h_t, .inr (3, [.ref h_t_rows, .ref h_t_rowByPlace, .ref h_t_numberByPlace, .int t_points, .int t_size])), (h_t_rows, .inl (cI, 5040, .inl t_rows)), (h_t_rowByPlace, .inl (cI, 5040, .inl t_rowByPlace)), (h_t_numberByPlace, .inl (cI, 5040, .inl t_numberByPlace))]) [0, 1, 2, 3] rfl
      have hDc := hD.sub (ws' := [(h_t, .inr (3, [.ref h_t_rows, .ref h_t_rowByPlace, .ref h_t_numberByPlace, .int t_points, .int t_size])), (h_t_rows, .inl (cI, 5040, .inl t_rows)), (h_t_rowByPlace, .inl (cI, 5040, .inl t_rowByPlace)), (h_t_numberByPlace, .inl (cI, 5040, .inl t_numberByPlace))]) [0, 1, 2, 3] (by decide) rfl
      have hFc := va_free (wc := [(h_t, .inr (3, [.ref h_t_rows, .ref h_t_rowByPlace, .ref h_t_numberByPlace, .int t_points, .int t_size])), (h_t_rows, .inl (cI, 5040, .inl t_rows)), (h_t_rowByPlace, .inl (cI, 5040, .inl t_rowByPlace)), (h_t_numberByPlace, .inl (cI, 5040, .inl t_numberByPlace))]) hD hS hA [0, 1, 2, 3] rfl
      refine va_callv (va_runV (As := [.int r76]) (rest := []) ⟨hx, hb, hml, hown, hts⟩ (met_Group_find l dC dI cI cZ h_t h_t_rows h_t_rowByPlace h_t_numberByPlace H.size  t_points t_size t_rows t_rowByPlace t_numberByPlace r76 _ hw) ⟨cB 1 hts kc_Group_find ki_Group kl_Group_40 hd_Group_find ⟨Nat.le_of_ble_eq_true rfl, Nat.le_of_ble_eq_true rfl⟩, hts _ kn_Group_find, hts _ ke_Group_find⟩ (preV_mu hE hPc hDc (va_recv hE.1 hPc (ci := 3) (q0 := 0) rfl rfl)) rfl rfl hl.1 rfl (lv_room (Nat.le_of_ble_eq_true rfl)) d_Group_close_79 ⟨Nat.le_of_ble_eq_true rfl, Nat.le_of_ble_eq_true rfl⟩) hS (fun q _ h => hFc q h) hFc (fun u t H locs ht hvm hw hB hz1 hk1 hS => ?_)
      obtain ⟨t_size_79, t_rows_79, t_rowByPlace_79⟩ := u
      obtain ⟨hP1, hD1⟩ := hB
      rw [ht] at hP1
      try dsimp only at hw
      obtain ⟨hP, hD⟩ := va_join (wr := [(h_a2, .inr (1, [.ref h_a2_rows, .int a2_count])), (h_a2_rows, .inl (cI, 5, .inl a2_rows))]) (w1 := [(h_t, .inr (3, [.ref h_t_rows, .ref h_t_rowByPlace, .ref h_t_numberByPlace, .int t_points, .int t_size_79])), (h_t_rows, .inl (cI, 5040, .inl t_rows_79)), (h_t_rowByPlace, .inl (cI, 5040, .inl t_rowByPlace_79)), (h_t_numberByPlace, .inl (cI, 5040, .inl t_numberByPlace))]) hP hD [0, 1, 2, 3] [4, 5] rfl rfl (by decide) (by decide) hk1 hFc hP1 hD1
      have hP : va_P (dC, dI) classes [(h_t, .inr (3, [.ref h_t_rows, .ref h_t_rowByPlace, .ref h_t_numberByPlace, .int t_points, .int t_size_79])), (h_t_rows, .inl (cI, 5040, .inl t_rows_79)), (h_t_rowByPlace, .inl (cI, 5040, .inl t_rowByPlace_79)), (h_t_numberByPlace, .inl (cI, 5040, .inl t_numberByPlace)), (h_a2, .inr (1, [.ref h_a2_rows, .int a2_count])), (h_a2_rows, .inl (cI, 5, .inl a2_rows))] H := hP.sub [2, 3, 4, 5, 0, 1] rfl
      have hD : va_D A [(h_t, .inr (3, [.ref h_t_rows, .ref h_t_rowByPlace, .ref h_t_numberByPlace, .int t_points, .int t_size_79])), (h_t_rows, .inl (cI, 5040, .inl t_rows_79)), (h_t_rowByPlace, .inl (cI, 5040, .inl t_rowByPlace_79)), (h_t_numberByPlace, .inl (cI, 5040, .inl t_numberByPlace)), (h_a2, .inr (1, [.ref h_a2_rows, .int a2_count])), (h_a2_rows, .inl (cI, 5, .inl a2_rows))] := hD.sub [2, 3, 4, 5, 0, 1] (by decide) rfl
      refine W.widen (k := 0) (n := 0) (Nat.le_refl _) (Nat.le_refl _) ?_
      obtain ⟨x4_82, ex4_82⟩ : ∃ y : Int32, y = v4 + 1 := ⟨_, rfl⟩
      have hw := hw x4_82 ex4_82
      refine lv_iinc (v := x4_82) (lv' := [(4, .int x4_82), (0, .ref h_t), (2, .ref h_a2), (3, .int v3)]) hx hb d_Group_close_82 hl (k := 3) rfl (by rw [ex4_82]; rfl) (by decide) rfl (fun ls hl => ?_)
      refine lv_goto (tgt := 49) hx hb d_Group_close_85 (by decide) ?_
      exact ih t_size_79 t_rows_79 t_rowByPlace_79 x4_82 hw H locs hP hD hS ls (lv_sub hl [1, 2, 3, 0] rfl)
set_option maxHeartbeats 4000000 in
set_option maxRecDepth 100000 in
theorem qL_Group_close_31 {p : Program} {l : Launch} {e : Env} {s : State} {m : MethodId} {args : Array Value} {below : List Frame} {meth : Method} {c : Code} {dC : Nat → ClassId} {dI : Nat → Nat → Nat} {cI cZ : ClassId} (C : CX p s m args meth c R_Group b_Group_close 5 none (dC, dI) cI cZ) {h_t h_t_rows h_t_rowByPlace h_t_numberByPlace h_a2 h_a2_rows : Nat} {A : Nat → Prop} (hA : ∀ q : Nat, s.heap.size ≤ q → A q) (post : Int32 → Int32 → (Nat → Int32) → (Nat → Int32) → (Nat → Int32) → Prop) (t_points : Int32) (t_numberByPlace : Nat → Int32) (a2_count : Int32) (a2_rows : Nat → Int32) : ∀ (n : Nat) (t_size : Int32) (t_rows : Nat → Int32) (t_rowByPlace : Nat → Int32) (v3 : Int32) , L_Group_close_31 post t_points t_numberByPlace a2_count a2_rows n t_size t_rows t_rowByPlace v3 → ∀ (H : Heap) (locs : List Loc), va_P (dC, dI) classes [(h_t, .inr (3, [.ref h_t_rows, .ref h_t_rowByPlace, .ref h_t_numberByPlace, .int t_points, .int t_size])), (h_t_rows, .inl (cI, 5040, .inl t_rows)), (h_t_rowByPlace, .inl (cI, 5040, .inl t_rowByPlace)), (h_t_numberByPlace, .inl (cI, 5040, .inl t_numberByPlace)), (h_a2, .inr (1, [.ref h_a2_rows, .int a2_count])), (h_a2_rows, .inl (cI, 5, .inl a2_rows))] H → va_D A [(h_t, .inr (3, [.ref h_t_rows, .ref h_t_rowByPlace, .ref h_t_numberByPlace, .int t_points, .int t_size])), (h_t_rows, .inl (cI, 5040, .inl t_rows)), (h_t_rowByPlace, .inl (cI, 5040, .inl t_rowByPlace)), (h_t_numberByPlace, .inl (cI, 5040, .inl t_numberByPlace)), (h_a2, .inr (1, [.ref h_a2_rows, .int a2_count])), (h_a2_rows, .inl (cI, 5, .inl a2_rows))] → va_S A s.heap H locs → ∀ (ls : Array Slot), lv_has ls 5 [(0, .ref h_t), (2, .ref h_a2), (3, .int v3)] → W p l e rm_Group_close s m args below meth c H locs 0 0 (MQ below (QM_Group_close dC dI cI cZ h_t h_t_rows h_t_rowByPlace h_t_numberByPlace h_a2 h_a2_rows a2_count a2_rows post A) args s 0 0 A) (F0 m 31 ls []) := by
  obtain ⟨hx, hb, hr, hml, hown, hts, hlocks, hE⟩ := id C
  intro n
  induction n with
  | zero =>
    intro t_size t_rows t_rowByPlace v3 hw
    exact (show False from hw).elim
  | succ n ih =>
    intro t_size t_rows t_rowByPlace v3 hw H locs hP hD hS ls hl
    have hw : L_Group_close_31b post t_points t_numberByPlace a2_count a2_rows (L_Group_close_31 post t_points t_numberByPlace a2_count a2_rows n) t_size t_rows t_rowByPlace v3 := hw
    unfold L_Group_close_31b at hw
    refine lv_iload_n hx hb d_Group_close_31 rfl (lv_at hl 2 rfl) ?_
    refine lv_aload_n hx hb d_Group_close_32 rfl (lv_at hl 0 rfl) ?_
    refine va_get (D := (dC, dI)) (ci := 3) (v := .int t_size) (C := R_Group) (T := F_Group) (N := 5) hx hb hts i_Group hown hE.1 hP 0 rfl rfl 4 (by decide) (hts _ kf_Group_25) (fun _ h9 => h9) rfl d_Group_close_33 ?_
    refine lv_icmp_ge (tgt := 94) hx hb d_Group_close_36 (by decide) (fun c36 => ?_) (fun c36 => ?_)
    · have hw := hw.1 c36
      refine lv_aload_n hx hb d_Group_close_94 rfl (lv_at hl 0 rfl) ?_
      have hPc := hP.sub (ws' := [(h_t, .inr (3, [.ref h_t_rows, .ref h_t_rowByPlace, .ref h_t_numberByPlace, .int t_points, .int t_size])), (h_t_rows, .inl (cI, 5040, .inl t_rows)), (h_t_rowByPlace, .inl (cI, 5040, .inl t_rowByPlace)), (h_t_numberByPlace, .inl (cI, 5040, .inl t_numberByPlace))]) [0, 1, 2, 3] rfl
      have hDc := hD.sub (ws' := [(h_t, .inr (3, [.ref h_t_rows, .ref h_t_rowByPlace, .ref h_t_numberByPlace, .int t_points, .int t_size])), (h_t_rows, .inl (cI, 5040, .inl t_rows)), (h_t_rowByPlace, .inl (cI, 5040, .inl t_rowByPlace)), (h_t_numberByPlace, .inl (cI, 5040, .inl t_numberByPlace))]) [0, 1, 2, 3] (by decide) rfl
      have hFc := va_free (wc := [(h_t, .inr (3, [.ref h_t_rows, .ref h_t_rowByPlace, .ref h_t_numberByPlace, .int t_points, .int t_size])), (h_t_rows, .inl (cI, 5040, .inl t_rows)), (h_t_rowByPlace, .inl (cI, 5040, .inl t_rowByPlace)), (h_t_numberByPlace, .inl (cI, 5040, .inl t_numberByPlace))]) hD hS hA [0, 1, 2, 3] rfl
      refine va_callv (va_runV (As := []) (rest := []) ⟨hx, hb, hml, hown, hts⟩ (met_Group_putInOrder l dC dI cI cZ h_t h_t_rows h_t_rowByPlace h_t_numberByPlace H.size  t_points t_size t_rows t_rowByPlace t_numberByPlace _ hw) ⟨cB 0 hts kc_Group_putInOrder ki_Group kl_Group_54 hd_Group_putInOrder ⟨Nat.le_of_ble_eq_true rfl, Nat.le_of_ble_eq_true rfl⟩, hts _ kn_Group_putInOrder, hts _ ke_Group_putInOrder⟩ (preV_mu hE hPc hDc (va_recv hE.1 hPc (ci := 3) (q0 := 0) rfl rfl)) rfl rfl hl.1 rfl (lv_room (Nat.le_of_ble_eq_true rfl)) d_Group_close_95 ⟨Nat.le_of_ble_eq_true rfl, Nat.le_of_ble_eq_true rfl⟩) hS (fun q _ h => hFc q h) hFc (fun u t H locs ht hvm hw hB hz1 hk1 hS => ?_)
      obtain ⟨t_rows_95, t_numberByPlace_95⟩ := u
      obtain ⟨hP1, hD1⟩ := hB
      rw [ht] at hP1
      try dsimp only at hw
      obtain ⟨hP, hD⟩ := va_join (wr := [(h_a2, .inr (1, [.ref h_a2_rows, .int a2_count])), (h_a2_rows, .inl (cI, 5, .inl a2_rows))]) (w1 := [(h_t, .inr (3, [.ref h_t_rows, .ref h_t_rowByPlace, .ref h_t_numberByPlace, .int t_points, .int t_size])), (h_t_rows, .inl (cI, 5040, .inl t_rows_95)), (h_t_rowByPlace, .inl (cI, 5040, .inl t_rowByPlace)), (h_t_numberByPlace, .inl (cI, 5040, .inl t_numberByPlace_95))]) hP hD [0, 1, 2, 3] [4, 5] rfl rfl (by decide) (by decide) hk1 hFc hP1 hD1
      have hP : va_P (dC, dI) classes [(h_t, .inr (3, [.ref h_t_rows, .ref h_t_rowByPlace, .ref h_t_numberByPlace, .int t_points, .int t_size])), (h_t_rows, .inl (cI, 5040, .inl t_rows_95)), (h_t_rowByPlace, .inl (cI, 5040, .inl t_rowByPlace)), (h_t_numberByPlace, .inl (cI, 5040, .inl t_numberByPlace_95)), (h_a2, .inr (1, [.ref h_a2_rows, .int a2_count])), (h_a2_rows, .inl (cI, 5, .inl a2_rows))] H := hP.sub [2, 3, 4, 5, 0, 1] rfl
      have hD : va_D A [(h_t, .inr (3, [.ref h_t_rows, .ref h_t_rowByPlace, .ref h_t_numberByPlace, .int t_points, .int t_size])), (h_t_rows, .inl (cI, 5040, .inl t_rows_95)), (h_t_rowByPlace, .inl (cI, 5040, .inl t_rowByPlace)), (h_t_numberByPlace, .inl (cI, 5040, .inl t_numberByPlace_95)), (h_a2, .inr (1, [.ref h_a2_rows, .int a2_count])), (h_a2_rows, .inl (cI, 5, .inl a2_rows))] := hD.sub [2, 3, 4, 5, 0, 1] (by decide) rfl
      refine W.widen (k := 0) (n := 0) (Nat.le_refl _) (Nat.le_refl _) ?_
      exact W.vret hx hb hr (fun t ht hW => ⟨⟨(t_points, t_size, t_rows_95, t_rowByPlace, t_numberByPlace_95), rfl, hw, by rw [ht]; exact hP, hD⟩, hS.F ht⟩) hS.2.2 d_Group_close_98
    · have hw := hw.2 c36
      refine lv_iload_n hx hb d_Group_close_39 rfl (lv_at hl 2 rfl) ?_
      refine lv_sipush (v := (5040 : Int32)) hx hb d_Group_close_40 (by decide) ?_
      refine lv_icmp_ge (tgt := 94) hx hb d_Group_close_43 (by decide) (fun c43 => ?_) (fun c43 => ?_)
      · have hw := hw.1 c43
        refine lv_aload_n hx hb d_Group_close_94 rfl (lv_at hl 0 rfl) ?_
        have hPc := hP.sub (ws' := [(h_t, .inr (3, [.ref h_t_rows, .ref h_t_rowByPlace, .ref h_t_numberByPlace, .int t_points, .int t_size])), (h_t_rows, .inl (cI, 5040, .inl t_rows)), (h_t_rowByPlace, .inl (cI, 5040, .inl t_rowByPlace)), (h_t_numberByPlace, .inl (cI, 5040, .inl t_numberByPlace))]) [0, 1, 2, 3] rfl
        have hDc := hD.sub (ws' := [(h_t, .inr (3, [.ref h_t_rows, .ref h_t_rowByPlace, .ref h_t_numberByPlace, .int t_points, .int t_size])), (h_t_rows, .inl (cI, 5040, .inl t_rows)), (h_t_rowByPlace, .inl (cI, 5040, .inl t_rowByPlace)), (h_t_numberByPlace, .inl (cI, 5040, .inl t_numberByPlace))]) [0, 1, 2, 3] (by decide) rfl
        have hFc := va_free (wc := [(h_t, .inr (3, [.ref h_t_rows, .ref h_t_rowByPlace, .ref h_t_numberByPlace, .int t_points, .int t_size])), (h_t_rows, .inl (cI, 5040, .inl t_rows)), (h_t_rowByPlace, .inl (cI, 5040, .inl t_rowByPlace)), (h_t_numberByPlace, .inl (cI, 5040, .inl t_numberByPlace))]) hD hS hA [0, 1, 2, 3] rfl
        refine va_callv (va_runV (As := []) (rest := []) ⟨hx, hb, hml, hown, hts⟩ (met_Group_putInOrder l dC dI cI cZ h_t h_t_rows h_t_rowByPlace h_t_numberByPlace H.size  t_points t_size t_rows t_rowByPlace t_numberByPlace _ hw) ⟨cB 0 hts kc_Group_putInOrder ki_Group kl_Group_54 hd_Group_putInOrder ⟨Nat.le_of_ble_eq_true rfl, Nat.le_of_ble_eq_true rfl⟩, hts _ kn_Group_putInOrder, hts _ ke_Group_putInOrder⟩ (preV_mu hE hPc hDc (va_recv hE.1 hPc (ci := 3) (q0 := 0) rfl rfl)) rfl rfl hl.1 rfl (lv_room (Nat.le_of_ble_eq_true rfl)) d_Group_close_95 ⟨Nat.le_of_ble_eq_true rfl, Nat.le_of_ble_eq_true rfl⟩) hS (fun q _ h => hFc q h) hFc (fun u t H locs ht hvm hw hB hz1 hk1 hS => ?_)
        obtain ⟨t_rows_95, t_numberByPlace_95⟩ := u
        obtain ⟨hP1, hD1⟩ := hB
        rw [ht] at hP1
        try dsimp only at hw
        obtain ⟨hP, hD⟩ := va_join (wr := [(h_a2, .inr (1, [.ref h_a2_rows, .int a2_count])), (h_a2_rows, .inl (cI, 5, .inl a2_rows))]) (w1 := [(h_t, .inr (3, [.ref h_t_rows, .ref h_t_rowByPlace, .ref h_t_numberByPlace, .int t_points, .int t_size])), (h_t_rows, .inl (cI, 5040, .inl t_rows_95)), (h_t_rowByPlace, .inl (cI, 5040, .inl t_rowByPlace)), (h_t_numberByPlace, .inl (cI, 5040, .inl t_numberByPlace_95))]) hP hD [0, 1, 2, 3] [4, 5] rfl rfl (by decide) (by decide) hk1 hFc hP1 hD1
        have hP : va_P (dC, dI) classes [(h_t, .inr (3, [.ref h_t_rows, .ref h_t_rowByPlace, .ref h_t_numberByPlace, .int t_points, .int t_size])), (h_t_rows, .inl (cI, 5040, .inl t_rows_95)), (h_t_rowByPlace, .inl (cI, 5040, .inl t_rowByPlace)), (h_t_numberByPlace, .inl (cI, 5040, .inl t_numberByPlace_95)), (h_a2, .inr (1, [.ref h_a2_rows, .int a2_count])), (h_a2_rows, .inl (cI, 5, .inl a2_rows))] H := hP.sub [2, 3, 4, 5, 0, 1] rfl
        have hD : va_D A [(h_t, .inr (3, [.ref h_t_rows, .ref h_t_rowByPlace, .ref h_t_numberByPlace, .int t_points, .int t_size])), (h_t_rows, .inl (cI, 5040, .inl t_rows_95)), (h_t_rowByPlace, .inl (cI, 5040, .inl t_rowByPlace)), (h_t_numberByPlace, .inl (cI, 5040, .inl t_numberByPlace_95)), (h_a2, .inr (1, [.ref h_a2_rows, .int a2_count])), (h_a2_rows, .inl (cI, 5, .inl a2_rows))] := hD.sub [2, 3, 4, 5, 0, 1] (by decide) rfl
        refine W.widen (k := 0) (n := 0) (Nat.le_refl _) (Nat.le_refl _) ?_
        exact W.vret hx hb hr (fun t ht hW => ⟨⟨(t_points, t_size, t_rows_95, t_rowByPlace, t_numberByPlace_95), rfl, hw, by rw [ht]; exact hP, hD⟩, hS.F ht⟩) hS.2.2 d_Group_close_98
      · have hw := hw.2 c43
        refine lv_iconst (v := (0 : Int32)) hx hb d_Group_close_46 (by decide) ?_
        refine lv_istore (lv' := [(4, .int (0 : Int32)), (0, .ref h_t), (2, .ref h_a2), (3, .int v3)]) hx hb d_Group_close_47 hl (by decide) rfl (fun ls hl => ?_)
        obtain ⟨n49, hw⟩ := hw
        exact qL_Group_close_49 C hA post _ t_points t_numberByPlace a2_count a2_rows v3 ih n49 t_size t_rows t_rowByPlace (0 : Int32) hw H locs hP hD hS ls (lv_sub hl [1, 2, 3, 0] rfl)
set_option maxHeartbeats 4000000 in
set_option maxRecDepth 100000 in
theorem met_Group_close (l : Launch) (dC : Nat → ClassId) (dI : Nat → Nat → Nat) (cI cZ : ClassId) (h_t h_t_rows h_t_rowByPlace h_t_numberByPlace h_a2 h_a2_rows : Nat) (sz : Nat) (t_points : Int32) (t_size : Int32) (t_rows : Nat → Int32) (t_rowByPlace : Nat → Int32) (t_numberByPlace : Nat → Int32) (a2_count : Int32) (a2_rows : Nat → Int32) (a1 : Int32) (post : Int32 → Int32 → (Nat → Int32) → (Nat → Int32) → (Nat → Int32) → Prop) (hw : wp_Group_close post t_rows t_rowByPlace t_numberByPlace a2_count a2_rows a1) : Met l y_Group_close (Cond.code y_Group_close b_Group_close 5 none :: gw) rm_Group_close (va_Pc [.ref h_t, .int a1, .ref h_a2] (fun U => U.heap.size = sz ∧ EV (dC, dI) cI cZ U ∧ va_P (dC, dI) classes [(h_t, .inr (3, [.ref h_t_rows, .ref h_t_rowByPlace, .ref h_t_numberByPlace, .int t_points, .int t_size])), (h_t_rows, .inl (cI, 5040, .inl t_rows)), (h_t_rowByPlace, .inl (cI, 5040, .inl t_rowByPlace)), (h_t_numberByPlace, .inl (cI, 5040, .inl t_numberByPlace)), (h_a2, .inr (1, [.ref h_a2_rows, .int a2_count])), (h_a2_rows, .inl (cI, 5, .inl a2_rows))] U.heap ∧ va_D (fun _ => True) [(h_t, .inr (3, [.ref h_t_rows, .ref h_t_rowByPlace, .ref h_t_numberByPlace, .int t_points, .int t_size])), (h_t_rows, .inl (cI, 5040, .inl t_rows)), (h_t_rowByPlace, .inl (cI, 5040, .inl t_rowByPlace)), (h_t_numberByPlace, .inl (cI, 5040, .inl t_numberByPlace)), (h_a2, .inr (1, [.ref h_a2_rows, .int a2_count])), (h_a2_rows, .inl (cI, 5, .inl a2_rows))])) (QM_Group_close dC dI cI cZ h_t h_t_rows h_t_rowByPlace h_t_numberByPlace h_a2 h_a2_rows a2_count a2_rows post (va_A [(h_t, .inr (3, [.ref h_t_rows, .ref h_t_rowByPlace, .ref h_t_numberByPlace, .int t_points, .int t_size])), (h_t_rows, .inl (cI, 5040, .inl t_rows)), (h_t_rowByPlace, .inl (cI, 5040, .inl t_rowByPlace)), (h_t_numberByPlace, .inl (cI, 5040, .inl t_numberByPlace)), (h_a2, .inr (1, [.ref h_a2_rows, .int a2_count])), (h_a2_rows, .inl (cI, 5, .inl a2_rows))] sz)) 0 0 (va_A [(h_t, .inr (3, [.ref h_t_rows, .ref h_t_rowByPlace, .ref h_t_numberByPlace, .int t_points, .int t_size])), (h_t_rows, .inl (cI, 5040, .inl t_rows)), (h_t_rowByPlace, .inl (cI, 5040, .inl t_rowByPlace)), (h_t_numberByPlace, .inl (cI, 5040, .inl t_numberByPlace)), (h_a2, .inr (1, [.ref h_a2_rows, .int a2_count])), (h_a2_rows, .inl (cI, 5, .inl a2_rows))] sz) := by
  refine Met.ofW (cc := b_Group_close) (maxL := 5) (ret := none) (by decide) rfl ?_
  intro p e s m args below meth c s₁ B hml hv
  obtain ⟨rfl, hsz, hE, hP, hD0⟩ := hv
  have C := CX.of (own := R_Group) (D := (dC, dI)) (cI := cI) (cZ := cZ) B hml rfl hE
  obtain ⟨hx, hb, hr, -, hown, hts, hlocks, -⟩ := id C
  subst hsz
  have hD := hD0.self (sz := s.heap.size)
  generalize hAe : va_A [(h_t, .inr (3, [.ref h_t_rows, .ref h_t_rowByPlace, .ref h_t_numberByPlace, .int t_points, .int t_size])), (h_t_rows, .inl (cI, 5040, .inl t_rows)), (h_t_rowByPlace, .inl (cI, 5040, .inl t_rowByPlace)), (h_t_numberByPlace, .inl (cI, 5040, .inl t_numberByPlace)), (h_a2, .inr (1, [.ref h_a2_rows, .int a2_count])), (h_a2_rows, .inl (cI, 5, .inl a2_rows))] s.heap.size = A at hD ⊢
  have hA : ∀ q : Nat, s.heap.size ≤ q → A q := fun q h => by rw [← hAe]; exact Or.inr h
  have hS : va_S A s.heap s.heap [] := va_S.rf
  have hP : va_P (dC, dI) classes [(h_t, .inr (3, [.ref h_t_rows, .ref h_t_rowByPlace, .ref h_t_numberByPlace, .int t_points, .int t_size])), (h_t_rows, .inl (cI, 5040, .inl t_rows)), (h_t_rowByPlace, .inl (cI, 5040, .inl t_rowByPlace)), (h_t_numberByPlace, .inl (cI, 5040, .inl t_numberByPlace)), (h_a2, .inr (1, [.ref h_a2_rows, .int a2_count])), (h_a2_rows, .inl (cI, 5, .inl a2_rows))] s.heap := hP
  have hl := lv_entry ([.ref h_t, .int a1, .ref h_a2]) (n := 5) (Nat.le_of_ble_eq_true rfl)
  rw [lg_entry_eq]
  generalize (lg_sl ([.ref h_t, .int a1, .ref h_a2]) ++ List.replicate (5 - (lg_sl ([.ref h_t, .int a1, .ref h_a2])).length) Slot.unset).toArray = ls at hl ⊢
  have hl : lv_has ls 5 [(0, .ref h_t), (1, .int a1), (2, .ref h_a2)] := hl
  refine keyL (P := fun H locs => va_P (dC, dI) classes [(h_t, .inr (3, [.ref h_t_rows, .ref h_t_rowByPlace, .ref h_t_numberByPlace, .int t_points, .int t_size])), (h_t_rows, .inl (cI, 5040, .inl t_rows)), (h_t_rowByPlace, .inl (cI, 5040, .inl t_rowByPlace)), (h_t_numberByPlace, .inl (cI, 5040, .inl t_numberByPlace)), (h_a2, .inr (1, [.ref h_a2_rows, .int a2_count])), (h_a2_rows, .inl (cI, 5, .inl a2_rows))] H ∧ va_D A [(h_t, .inr (3, [.ref h_t_rows, .ref h_t_rowByPlace, .ref h_t_numberByPlace, .int t_points, .int t_size])), (h_t_rows, .inl (cI, 5040, .inl t_rows)), (h_t_rowByPlace, .inl (cI, 5040, .inl t_rowByPlace)), (h_t_numberByPlace, .inl (cI, 5040, .inl t_numberByPlace)), (h_a2, .inr (1, [.ref h_a2_rows, .int a2_count])), (h_a2_rows, .inl (cI, 5, .inl a2_rows))] ∧ va_S A s.heap H locs) ⟨hP, hD, hS⟩ (fun H locs hPP => ?_)
  clear hP hD hS
  obtain ⟨hP, hD, hS⟩ := hPP
  unfold wp_Group_close at hw
  refine lv_aload_n hx hb d_Group_close_0 rfl (lv_at hl 0 rfl) ?_
  refine lv_iload_n hx hb d_Group_close_1 rfl (lv_at hl 1 rfl) ?_
  refine va_put (D := (dC, dI)) (ci := 3) (v := .int a1) (ty := .int) (C := R_Group) (T := F_Group) (N := 5) hx hb hts i_Group t_Group t_Group_ok n_Group hown hE.1 hP hD hS 0 rfl rfl 3 (by decide) (hts _ kf_Group_21) (fun _ h9 => h9) rfl (by decide +kernel) rfl rfl (Nat.le_of_ble_eq_true rfl) d_Group_close_2 (fun H locs hP hD hS => ?_)
  have hP : va_P (dC, dI) classes [(h_t, .inr (3, [.ref h_t_rows, .ref h_t_rowByPlace, .ref h_t_numberByPlace, .int a1, .int t_size])), (h_t_rows, .inl (cI, 5040, .inl t_rows)), (h_t_rowByPlace, .inl (cI, 5040, .inl t_rowByPlace)), (h_t_numberByPlace, .inl (cI, 5040, .inl t_numberByPlace)), (h_a2, .inr (1, [.ref h_a2_rows, .int a2_count])), (h_a2_rows, .inl (cI, 5, .inl a2_rows))] H := hP
  have hD : va_D A [(h_t, .inr (3, [.ref h_t_rows, .ref h_t_rowByPlace, .ref h_t_numberByPlace, .int a1, .int t_size])), (h_t_rows, .inl (cI, 5040, .inl t_rows)), (h_t_rowByPlace, .inl (cI, 5040, .inl t_rowByPlace)), (h_t_numberByPlace, .inl (cI, 5040, .inl t_numberByPlace)), (h_a2, .inr (1, [.ref h_a2_rows, .int a2_count])), (h_a2_rows, .inl (cI, 5, .inl a2_rows))] := hD
  refine lv_aload_n hx hb d_Group_close_5 rfl (lv_at hl 0 rfl) ?_
  refine lv_iconst (v := (0 : Int32)) hx hb d_Group_close_6 (by decide) ?_
  refine va_put (D := (dC, dI)) (ci := 3) (v := .int (0 : Int32)) (ty := .int) (C := R_Group) (T := F_Group) (N := 5) hx hb hts i_Group t_Group t_Group_ok n_Group hown hE.1 hP hD hS 0 rfl rfl 4 (by decide) (hts _ kf_Group_25) (fun _ h9 => h9) rfl (by decide +kernel) rfl rfl (Nat.le_of_ble_eq_true rfl) d_Group_close_7 (fun H locs hP hD hS => ?_)
  have hP : va_P (dC, dI) classes [(h_t, .inr (3, [.ref h_t_rows, .ref h_t_rowByPlace, .ref h_t_numberByPlace, .int a1, .int (0 : Int32)])), (h_t_rows, .inl (cI, 5040, .inl t_rows)), (h_t_rowByPlace, .inl (cI, 5040, .inl t_rowByPlace)), (h_t_numberByPlace, .inl (cI, 5040, .inl t_numberByPlace)), (h_a2, .inr (1, [.ref h_a2_rows, .int a2_count])), (h_a2_rows, .inl (cI, 5, .inl a2_rows))] H := hP
  have hD : va_D A [(h_t, .inr (3, [.ref h_t_rows, .ref h_t_rowByPlace, .ref h_t_numberByPlace, .int a1, .int (0 : Int32)])), (h_t_rows, .inl (cI, 5040, .inl t_rows)), (h_t_rowByPlace, .inl (cI, 5040, .inl t_rowByPlace)), (h_t_numberByPlace, .inl (cI, 5040, .inl t_numberByPlace)), (h_a2, .inr (1, [.ref h_a2_rows, .int a2_count])), (h_a2_rows, .inl (cI, 5, .inl a2_rows))] := hD
  refine lv_aload_n hx hb d_Group_close_10 rfl (lv_at hl 0 rfl) ?_
  refine va_get (D := (dC, dI)) (ci := 3) (v := .ref h_t_rowByPlace) (C := R_Group) (T := F_Group) (N := 5) hx hb hts i_Group hown hE.1 hP 0 rfl rfl 1 (by decide) (hts _ kf_Group_15) (fun _ h9 => h9) rfl d_Group_close_11 ?_
  refine lv_iconst (v := (-1 : Int32)) hx hb d_Group_close_14 (by decide) ?_
  have hPc := hP.sub (ws' := [(h_t_rowByPlace, .inl (cI, 5040, .inl t_rowByPlace))]) [2] rfl
  have hDc := hD.sub (ws' := [(h_t_rowByPlace, .inl (cI, 5040, .inl t_rowByPlace))]) [2] (by decide) rfl
  have hFc := va_free (wc := [(h_t_rowByPlace, .inl (cI, 5040, .inl t_rowByPlace))]) hD hS hA [2] rfl
  refine va_callv (va_runS (As := [.ref h_t_rowByPlace, .int (-1 : Int32)]) (rest := []) ⟨hx, hb, hml, hown, hts⟩ (met_Arrays_fill l dC dI cI cZ h_t_rowByPlace H.size  5040 t_rowByPlace (-1 : Int32) _ hw) ⟨cB 2 hts kc_Arrays_fill ki_Arrays kl_Group_28 hd_Arrays_fill ⟨Nat.le_of_ble_eq_true rfl, Nat.le_of_ble_eq_true rfl⟩, hts _ ks_Arrays_fill⟩ (preS_mu hE hPc hDc) rfl rfl hl.1 rfl (lv_room (Nat.le_of_ble_eq_true rfl)) d_Group_close_15 ⟨Nat.le_of_ble_eq_true rfl, Nat.le_of_ble_eq_true rfl⟩) hS (fun q _ h => hFc q h) hFc (fun u t H locs ht hvm hw hB hz1 hk1 hS => ?_)
  obtain ⟨t_rowByPlace_15, rfl⟩ : ∃ z, z = u := ⟨_, rfl⟩
  obtain ⟨hP1, hD1⟩ := hB
  rw [ht] at hP1
  try dsimp only at hw
  obtain ⟨hP, hD⟩ := va_join (wr := [(h_t, .inr (3, [.ref h_t_rows, .ref h_t_rowByPlace, .ref h_t_numberByPlace, .int a1, .int (0 : Int32)])), (h_t_rows, .inl (cI, 5040, .inl t_rows)), (h_t_numberByPlace, .inl (cI, 5040, .inl t_numberByPlace)), (h_a2, .inr (1, [.ref h_a2_rows, .int a2_count])), (h_a2_rows, .inl (cI, 5, .inl a2_rows))]) (w1 := [(h_t_rowByPlace, .inl (cI, 5040, .inl t_rowByPlace_15))]) hP hD [2] [0, 1, 3, 4, 5] rfl rfl (by decide) (by decide) hk1 hFc hP1 hD1
  have hP : va_P (dC, dI) classes [(h_t, .inr (3, [.ref h_t_rows, .ref h_t_rowByPlace, .ref h_t_numberByPlace, .int a1, .int (0 : Int32)])), (h_t_rows, .inl (cI, 5040, .inl t_rows)), (h_t_rowByPlace, .inl (cI, 5040, .inl t_rowByPlace_15)), (h_t_numberByPlace, .inl (cI, 5040, .inl t_numberByPlace)), (h_a2, .inr (1, [.ref h_a2_rows, .int a2_count])), (h_a2_rows, .inl (cI, 5, .inl a2_rows))] H := hP.sub [0, 1, 5, 2, 3, 4] rfl
  have hD : va_D A [(h_t, .inr (3, [.ref h_t_rows, .ref h_t_rowByPlace, .ref h_t_numberByPlace, .int a1, .int (0 : Int32)])), (h_t_rows, .inl (cI, 5040, .inl t_rows)), (h_t_rowByPlace, .inl (cI, 5040, .inl t_rowByPlace_15)), (h_t_numberByPlace, .inl (cI, 5040, .inl t_numberByPlace)), (h_a2, .inr (1, [.ref h_a2_rows, .int a2_count])), (h_a2_rows, .inl (cI, 5, .inl a2_rows))] := hD.sub [0, 1, 5, 2, 3, 4] (by decide) rfl
  refine W.widen (k := 0) (n := 0) (Nat.le_refl _) (Nat.le_refl _) ?_
  refine lv_aload_n hx hb d_Group_close_18 rfl (lv_at hl 0 rfl) ?_
  refine lv_aload_n hx hb d_Group_close_19 rfl (lv_at hl 0 rfl) ?_
  refine va_get (D := (dC, dI)) (ci := 3) (v := .int a1) (C := R_Group) (T := F_Group) (N := 5) hx hb hts i_Group hown hE.1 hP 0 rfl rfl 3 (by decide) (hts _ kf_Group_21) (fun _ h9 => h9) rfl d_Group_close_20 ?_
  have hPc := hP.sub (ws' := []) [] rfl
  refine vp_callSi (va_Run.run (va_runS (As := [.int a1]) (rest := [.ref h_t]) ⟨hx, hb, hml, hown, hts⟩ (met_Rows_identity l dC dI cI cZ  a1 _ hw) ⟨cB 1 hts kc_Rows_identity ki_Rows kl_Group_34 hd_Rows_identity ⟨Nat.le_of_ble_eq_true rfl, Nat.le_of_ble_eq_true rfl⟩, hts _ ks_Rows_identity⟩ (preS_ro hE hPc) rfl rfl hl.1 rfl (lv_room (Nat.le_of_ble_eq_true rfl)) d_Group_close_23 ⟨Nat.le_of_ble_eq_true rfl, Nat.le_of_ble_eq_true rfl⟩)) (fun r23 hw => ?_)
  have hPc := hP.sub (ws' := [(h_t, .inr (3, [.ref h_t_rows, .ref h_t_rowByPlace, .ref h_t_numberByPlace, .int a1, .int (0 : Int32)])), (h_t_rows, .inl (cI, 5040, .inl t_rows)), (h_t_rowByPlace, .inl (cI, 5040, .inl t_rowByPlace_15)), (h_t_numberByPlace, .inl (cI, 5040, .inl t_numberByPlace))]) [0, 1, 2, 3] rfl
  have hDc := hD.sub (ws' := [(h_t, .inr (3, [.ref h_t_rows, .ref h_t_rowByPlace, .ref h_t_numberByPlace, .int a1, .int (0 : Int32)])), (h_t_rows, .inl (cI, 5040, .inl t_rows)), (h_t_rowByPlace, .inl (cI, 5040, .inl t_rowByPlace_15)), (h_t_numberByPlace, .inl (cI, 5040, .inl t_numberByPlace))]) [0, 1, 2, 3] (by decide) rfl
  have hFc := va_free (wc := [(h_t, .inr (3, [.ref h_t_rows, .ref h_t_rowByPlace, .ref h_t_numberByPlace, .int a1, .int (0 : Int32)])), (h_t_rows, .inl (cI, 5040, .inl t_rows)), (h_t_rowByPlace, .inl (cI, 5040, .inl t_rowByPlace_15)), (h_t_numberByPlace, .inl (cI, 5040, .inl t_numberByPlace))]) hD hS hA [0, 1, 2, 3] rfl
  refine va_callv (va_runV (As := [.int r23]) (rest := []) ⟨hx, hb, hml, hown, hts⟩ (met_Group_find l dC dI cI cZ h_t h_t_rows h_t_rowByPlace h_t_numberByPlace H.size  a1 (0 : Int32) t_rows t_rowByPlace_15 t_numberByPlace r23 _ hw) ⟨cB 1 hts kc_Group_find ki_Group kl_Group_40 hd_Group_find ⟨Nat.le_of_ble_eq_true rfl, Nat.le_of_ble_eq_true rfl⟩, hts _ kn_Group_find, hts _ ke_Group_find⟩ (preV_mu hE hPc hDc (va_recv hE.1 hPc (ci := 3) (q0 := 0) rfl rfl)) rfl rfl hl.1 rfl (lv_room (Nat.le_of_ble_eq_true rfl)) d_Group_close_26 ⟨Nat.le_of_ble_eq_true rfl, Nat.le_of_ble_eq_true rfl⟩) hS (fun q _ h => hFc q h) hFc (fun u t H locs ht hvm hw hB hz1 hk1 hS => ?_)
  obtain ⟨t_size_26, t_rows_26, t_rowByPlace_26⟩ := u
  obtain ⟨hP1, hD1⟩ := hB
  rw [ht] at hP1
  try dsimp only at hw
  obtain ⟨hP, hD⟩ := va_join (wr := [(h_a2, .inr (1, [.ref h_a2_rows, .int a2_count])), (h_a2_rows, .inl (cI, 5, .inl a2_rows))]) (w1 := [(h_t, .inr (3, [.ref h_t_rows, .ref h_t_rowByPlace, .ref h_t_numberByPlace, .int a1, .int t_size_26])), (h_t_rows, .inl (cI, 5040, .inl t_rows_26)), (h_t_rowByPlace, .inl (cI, 5040, .inl t_rowByPlace_26)), (h_t_numberByPlace, .inl (cI, 5040, .inl t_numberByPlace))]) hP hD [0, 1, 2, 3] [4, 5] rfl rfl (by decide) (by decide) hk1 hFc hP1 hD1
  have hP : va_P (dC, dI) classes [(h_t, .inr (3, [.ref h_t_rows, .ref h_t_rowByPlace, .ref h_t_numberByPlace, .int a1, .int t_size_26])), (h_t_rows, .inl (cI, 5040, .inl t_rows_26)), (h_t_rowByPlace, .inl (cI, 5040, .inl t_rowByPlace_26)), (h_t_numberByPlace, .inl (cI, 5040, .inl t_numberByPlace)), (h_a2, .inr (1, [.ref h_a2_rows, .int a2_count])), (h_a2_rows, .inl (cI, 5, .inl a2_rows))] H := hP.sub [2, 3, 4, 5, 0, 1] rfl
  have hD : va_D A [(h_t, .inr (3, [.ref h_t_rows, .ref h_t_rowByPlace, .ref h_t_numberByPlace, .int a1, .int t_size_26])), (h_t_rows, .inl (cI, 5040, .inl t_rows_26)), (h_t_rowByPlace, .inl (cI, 5040, .inl t_rowByPlace_26)), (h_t_numberByPlace, .inl (cI, 5040, .inl t_numberByPlace)), (h_a2, .inr (1, [.ref h_a2_rows, .int a2_count])), (h_a2_rows, .inl (cI, 5, .inl a2_rows))] := hD.sub [2, 3, 4, 5, 0, 1] (by decide) rfl
  refine W.widen (k := 0) (n := 0) (Nat.le_refl _) (Nat.le_refl _) ?_
  refine lv_iconst (v := (0 : Int32)) hx hb d_Group_close_29 (by decide) ?_
  refine lv_istore_n (lv' := [(3, .int (0 : Int32)), (0, .ref h_t), (1, .int a1), (2, .ref h_a2)]) hx hb d_Group_close_30 rfl hl (by decide) rfl (fun ls hl => ?_)
  obtain ⟨n31, hw⟩ := hw
  exact qL_Group_close_31 C hA post  a1 t_numberByPlace a2_count a2_rows  n31 t_size_26 t_rows_26 t_rowByPlace_26 (0 : Int32) hw H locs hP hD hS ls (lv_sub hl [1, 3, 0] rfl)

-- SwapOrbits$Group.rowAt(I)I
abbrev rm_Group_rowAt : Room := { frames := 0, cells := 0, slots := 0, locals := 0 }
def wp_Group_rowAt (post : Int32 → Prop) (t_size : Int32) (t_rows : Nat → Int32) (a1 : Int32) : Prop := (a1 < 0 → post (-1 : Int32)) ∧ (¬ a1 < 0 → (t_size ≤ a1 → post (-1 : Int32)) ∧ (¬ t_size ≤ a1 → vp_in a1 5040 ∧ (post (t_rows a1.toNatClampNeg))))
set_option maxHeartbeats 4000000 in
set_option maxRecDepth 100000 in
theorem met_Group_rowAt (l : Launch) (dC : Nat → ClassId) (dI : Nat → Nat → Nat) (cI cZ : ClassId) (h_t h_t_rows h_t_rowByPlace h_t_numberByPlace : Nat) (t_points : Int32) (t_size : Int32) (t_rows : Nat → Int32) (t_rowByPlace : Nat → Int32) (t_numberByPlace : Nat → Int32) (a1 : Int32) (post : Int32 → Prop) (hw : wp_Group_rowAt post t_size t_rows a1) : Met l y_Group_rowAt (Cond.code y_Group_rowAt b_Group_rowAt 2 (some .int) :: gw) rm_Group_rowAt (va_Pc [.ref h_t, .int a1] (fun U => EV (dC, dI) cI cZ U ∧ va_P (dC, dI) classes [(h_t, .inr (3, [.ref h_t_rows, .ref h_t_rowByPlace, .ref h_t_numberByPlace, .int t_points, .int t_size])), (h_t_rows, .inl (cI, 5040, .inl t_rows)), (h_t_rowByPlace, .inl (cI, 5040, .inl t_rowByPlace)), (h_t_numberByPlace, .inl (cI, 5040, .inl t_numberByPlace))] U.heap)) (vp_Si post) 0 0 (fun _ => False) := by
  refine Met.ofW (cc := b_Group_rowAt) (maxL := 2) (ret := (some .int)) (by decide) rfl ?_
  intro p e s m args below meth c s₁ B hml hv
  obtain ⟨rfl, hE, hP⟩ := hv
  have C := CX.of (own := R_Group) (D := (dC, dI)) (cI := cI) (cZ := cZ) B hml rfl hE
  obtain ⟨hx, hb, hr, -, hown, hts, hlocks, -⟩ := id C
  have hl := lv_entry ([.ref h_t, .int a1]) (n := 2) (Nat.le_of_ble_eq_true rfl)
  rw [lg_entry_eq]
  generalize (lg_sl ([.ref h_t, .int a1]) ++ List.replicate (2 - (lg_sl ([.ref h_t, .int a1])).length) Slot.unset).toArray = ls at hl ⊢
  have hl : lv_has ls 2 [(0, .ref h_t), (1, .int a1)] := hl
  unfold wp_Group_rowAt at hw
  refine lv_iload_n hx hb d_Group_rowAt_0 rfl (lv_at hl 1 rfl) ?_
  refine lv_if_lt (tgt := 21) hx hb d_Group_rowAt_1 (by decide) (fun c1 => ?_) (fun c1 => ?_)
  · have hw := hw.1 c1
    refine lv_iconst (v := (-1 : Int32)) hx hb d_Group_rowAt_21 (by decide) ?_
    exact W.iret (v := (-1 : Int32)) hx hb hr (fun t ht hW => ⟨(-1 : Int32), rfl, hw, by rw [ht]⟩) (fun _ h => by cases h) d_Group_rowAt_22
  · have hw := hw.2 c1
    refine lv_iload_n hx hb d_Group_rowAt_4 rfl (lv_at hl 1 rfl) ?_
    refine lv_aload_n hx hb d_Group_rowAt_5 rfl (lv_at hl 0 rfl) ?_
    refine va_get (D := (dC, dI)) (ci := 3) (v := .int t_size) (C := R_Group) (T := F_Group) (N := 5) hx hb hts i_Group hown hE.1 hP 0 rfl rfl 4 (by decide) (hts _ kf_Group_25) (fun _ h9 => h9) rfl d_Group_rowAt_6 ?_
    refine lv_icmp_ge (tgt := 21) hx hb d_Group_rowAt_9 (by decide) (fun c9 => ?_) (fun c9 => ?_)
    · have hw := hw.1 c9
      refine lv_iconst (v := (-1 : Int32)) hx hb d_Group_rowAt_21 (by decide) ?_
      exact W.iret (v := (-1 : Int32)) hx hb hr (fun t ht hW => ⟨(-1 : Int32), rfl, hw, by rw [ht]⟩) (fun _ h => by cases h) d_Group_rowAt_22
    · have hw := hw.2 c9
      refine lv_aload_n hx hb d_Group_rowAt_12 rfl (lv_at hl 0 rfl) ?_
      refine va_get (D := (dC, dI)) (ci := 3) (v := .ref h_t_rows) (C := R_Group) (T := F_Group) (N := 5) hx hb hts i_Group hown hE.1 hP 0 rfl rfl 0 (by decide) (hts _ kf_Group_9) (fun _ h9 => h9) rfl d_Group_rowAt_13 ?_
      refine lv_iload_n hx hb d_Group_rowAt_16 rfl (lv_at hl 1 rfl) ?_
      have hz := hw.1
      have hw := hw.2
      refine va_iald hx hb hE.1 hP 1 0 rfl rfl hz d_Group_rowAt_17 ?_
      refine lv_goto (tgt := 22) hx hb d_Group_rowAt_18 (by decide) ?_
      exact W.iret (v := (t_rows a1.toNatClampNeg)) hx hb hr (fun t ht hW => ⟨(t_rows a1.toNatClampNeg), rfl, hw, by rw [ht]⟩) (fun _ h => by cases h) d_Group_rowAt_22

-- SwapOrbits$Group.numberOf(I)I
abbrev rm_Group_numberOf : Room := { frames := 2, cells := 0, slots := 0, locals := 47 }
def wp_Group_numberOf (post : Int32 → Prop) (t_points : Int32) (t_numberByPlace : Nat → Int32) (a1 : Int32) : Prop := wp_Rows_place (fun r5 => wp_Group_isCell (fun r10 => (r10 = 0 → post (-1 : Int32)) ∧ (¬ r10 = 0 → vp_in r5 5040 ∧ (post (t_numberByPlace r5.toNatClampNeg)))) r5) a1 t_points
set_option maxHeartbeats 4000000 in
set_option maxRecDepth 100000 in
theorem met_Group_numberOf (l : Launch) (dC : Nat → ClassId) (dI : Nat → Nat → Nat) (cI cZ : ClassId) (h_t h_t_rows h_t_rowByPlace h_t_numberByPlace : Nat) (t_points : Int32) (t_size : Int32) (t_rows : Nat → Int32) (t_rowByPlace : Nat → Int32) (t_numberByPlace : Nat → Int32) (a1 : Int32) (post : Int32 → Prop) (hw : wp_Group_numberOf post t_points t_numberByPlace a1) : Met l y_Group_numberOf (Cond.code y_Group_numberOf b_Group_numberOf 3 (some .int) :: gw) rm_Group_numberOf (va_Pc [.ref h_t, .int a1] (fun U => EV (dC, dI) cI cZ U ∧ va_P (dC, dI) classes [(h_t, .inr (3, [.ref h_t_rows, .ref h_t_rowByPlace, .ref h_t_numberByPlace, .int t_points, .int t_size])), (h_t_rows, .inl (cI, 5040, .inl t_rows)), (h_t_rowByPlace, .inl (cI, 5040, .inl t_rowByPlace)), (h_t_numberByPlace, .inl (cI, 5040, .inl t_numberByPlace))] U.heap)) (vp_Si post) 0 0 (fun _ => False) := by
  refine Met.ofW (cc := b_Group_numberOf) (maxL := 3) (ret := (some .int)) (by decide) rfl ?_
  intro p e s m args below meth c s₁ B hml hv
  obtain ⟨rfl, hE, hP⟩ := hv
  have C := CX.of (own := R_Group) (D := (dC, dI)) (cI := cI) (cZ := cZ) B hml rfl hE
  obtain ⟨hx, hb, hr, -, hown, hts, hlocks, -⟩ := id C
  have hl := lv_entry ([.ref h_t, .int a1]) (n := 3) (Nat.le_of_ble_eq_true rfl)
  rw [lg_entry_eq]
  generalize (lg_sl ([.ref h_t, .int a1]) ++ List.replicate (3 - (lg_sl ([.ref h_t, .int a1])).length) Slot.unset).toArray = ls at hl ⊢
  have hl : lv_has ls 3 [(0, .ref h_t), (1, .int a1)] := hl
  unfold wp_Group_numberOf at hw
  refine lv_iload_n hx hb d_Group_numberOf_0 rfl (lv_at hl 1 rfl) ?_
  refine lv_aload_n hx hb d_Group_numberOf_1 rfl (lv_at hl 0 rfl) ?_
  refine va_get (D := (dC, dI)) (ci := 3) (v := .int t_points) (C := R_Group) (T := F_Group) (N := 5) hx hb hts i_Group hown hE.1 hP 0 rfl rfl 3 (by decide) (hts _ kf_Group_21) (fun _ h9 => h9) rfl d_Group_numberOf_2 ?_
  have hPc := hP.sub (ws' := []) [] rfl
  refine vp_callSi (va_Run.run (va_runS (As := [.int a1, .int t_points]) (rest := []) ⟨hx, hb, hml, hown, hts⟩ (met_Rows_place l dC dI cI cZ  a1 t_points _ hw) ⟨cB 2 hts kc_Rows_place ki_Rows kl_Group_57 hd_Rows_place ⟨Nat.le_of_ble_eq_true rfl, Nat.le_of_ble_eq_true rfl⟩, hts _ ks_Rows_place⟩ (preS_ro hE hPc) rfl rfl hl.1 rfl (lv_room (Nat.le_of_ble_eq_true rfl)) d_Group_numberOf_5 ⟨Nat.le_of_ble_eq_true rfl, Nat.le_of_ble_eq_true rfl⟩)) (fun r5 hw => ?_)
  refine lv_istore_n (lv' := [(2, .int r5), (0, .ref h_t), (1, .int a1)]) hx hb d_Group_numberOf_8 rfl hl (by decide) rfl (fun ls hl => ?_)
  refine lv_iload_n hx hb d_Group_numberOf_9 rfl (lv_at hl 0 rfl) ?_
  have hPc := hP.sub (ws' := []) [] rfl
  refine vp_callSi (va_Run.run (va_runS (As := [.int r5]) (rest := []) ⟨hx, hb, hml, hown, hts⟩ (met_Group_isCell l dC dI cI cZ  r5 _ hw) ⟨cB 1 hts kc_Group_isCell ki_Group kl_Group_61 hd_Group_isCell ⟨Nat.le_of_ble_eq_true rfl, Nat.le_of_ble_eq_true rfl⟩, hts _ ks_Group_isCell⟩ (preS_ro hE hPc) rfl rfl hl.1 rfl (lv_room (Nat.le_of_ble_eq_true rfl)) d_Group_numberOf_10 ⟨Nat.le_of_ble_eq_true rfl, Nat.le_of_ble_eq_true rfl⟩)) (fun r10 hw => ?_)
  refine lv_if_eq (tgt := 25) hx hb d_Group_numberOf_13 (by decide) (fun c13 => ?_) (fun c13 => ?_)
  · have hw := hw.1 c13
    refine lv_iconst (v := (-1 : Int32)) hx hb d_Group_numberOf_25 (by decide) ?_
    exact W.iret (v := (-1 : Int32)) hx hb hr (fun t ht hW => ⟨(-1 : Int32), rfl, hw, by rw [ht]⟩) (fun _ h => by cases h) d_Group_numberOf_26
  · have hw := hw.2 c13
    refine lv_aload_n hx hb d_Group_numberOf_16 rfl (lv_at hl 1 rfl) ?_
    refine va_get (D := (dC, dI)) (ci := 3) (v := .ref h_t_numberByPlace) (C := R_Group) (T := F_Group) (N := 5) hx hb hts i_Group hown hE.1 hP 0 rfl rfl 2 (by decide) (hts _ kf_Group_18) (fun _ h9 => h9) rfl d_Group_numberOf_17 ?_
    refine lv_iload_n hx hb d_Group_numberOf_20 rfl (lv_at hl 0 rfl) ?_
    have hz := hw.1
    have hw := hw.2
    refine va_iald hx hb hE.1 hP 3 0 rfl rfl hz d_Group_numberOf_21 ?_
    refine lv_goto (tgt := 26) hx hb d_Group_numberOf_22 (by decide) ?_
    exact W.iret (v := (t_numberByPlace r5.toNatClampNeg)) hx hb hr (fun t ht hW => ⟨(t_numberByPlace r5.toNatClampNeg), rfl, hw, by rw [ht]⟩) (fun _ h => by cases h) d_Group_numberOf_26

-- SwapOrbits$Group.allCycles()I
abbrev rm_Group_allCycles : Room := { frames := 3, cells := 0, slots := 0, locals := 70 }
def L_Group_allCycles_4b (post : Int32 → Prop) (t_points : Int32) (t_size : Int32) (t_rows : Nat → Int32) (K4 : Int32 → Int32 → Prop) (v1 : Int32) (v2 : Int32) : Prop := (t_size ≤ v2 → post v1) ∧ (¬ t_size ≤ v2 → vp_in v2 5040 ∧ (wp_Rows_countCycles (fun r23 => ∀ x1_27 : Int32, x1_27 = v1 + r23 → (∀ x2_28 : Int32, x2_28 = v2 + 1 → (K4 x1_27 x2_28))) (t_rows v2.toNatClampNeg) t_points))
def L_Group_allCycles_4 (post : Int32 → Prop) (t_points : Int32) (t_size : Int32) (t_rows : Nat → Int32) : Nat → Int32 → Int32 → Prop
  | 0, _, _ => False
  | n + 1, v1, v2 => L_Group_allCycles_4b post t_points t_size t_rows (L_Group_allCycles_4 post t_points t_size t_rows n) v1 v2
def wp_Group_allCycles (post : Int32 → Prop) (t_points : Int32) (t_size : Int32) (t_rows : Nat → Int32) : Prop := ∃ n, L_Group_allCycles_4 post t_points t_size t_rows n (0 : Int32) (0 : Int32)
set_option maxHeartbeats 4000000 in
set_option maxRecDepth 100000 in
theorem qL_Group_allCycles_4 {p : Program} {l : Launch} {e : Env} {s : State} {m : MethodId} {args : Array Value} {below : List Frame} {meth : Method} {c : Code} {dC : Nat → ClassId} {dI : Nat → Nat → Nat} {cI cZ : ClassId} (C : CX p s m args meth c R_Group b_Group_allCycles 3 (some .int) (dC, dI) cI cZ) {h_t h_t_rows h_t_rowByPlace h_t_numberByPlace : Nat} (post : Int32 → Prop) (t_points : Int32) (t_size : Int32) (t_rows : Nat → Int32) (t_rowByPlace : Nat → Int32) (t_numberByPlace : Nat → Int32) (hP : va_P (dC, dI) classes [(h_t, .inr (3, [.ref h_t_rows, .ref h_t_rowByPlace, .ref h_t_numberByPlace, .int t_points, .int t_size])), (h_t_rows, .inl (cI, 5040, .inl t_rows)), (h_t_rowByPlace, .inl (cI, 5040, .inl t_rowByPlace)), (h_t_numberByPlace, .inl (cI, 5040, .inl t_numberByPlace))] s.heap) : ∀ (n : Nat) (v1 : Int32) (v2 : Int32) , L_Group_allCycles_4 post t_points t_size t_rows n v1 v2 → ∀ (ls : Array Slot), lv_has ls 3 [(0, .ref h_t), (1, .int v1), (2, .int v2)] → W p l e rm_Group_allCycles s m args below meth c s.heap [] 0 0 (MQ below (vp_Si post) args s 0 0 (fun _ => False)) (F0 m 4 ls []) := by
  obtain ⟨hx, hb, hr, hml, hown, hts, hlocks, hE⟩ := id C
  intro n
  induction n with
  | zero =>
    intro v1 v2 hw
    exact (show False from hw).elim
  | succ n ih =>
    intro v1 v2 hw ls hl
    have hw : L_Group_allCycles_4b post t_points t_size t_rows (L_Group_allCycles_4 post t_points t_size t_rows n) v1 v2 := hw
    unfold L_Group_allCycles_4b at hw
    refine lv_iload_n hx hb d_Group_allCycles_4 rfl (lv_at hl 2 rfl) ?_
    refine lv_aload_n hx hb d_Group_allCycles_5 rfl (lv_at hl 0 rfl) ?_
    refine va_get (D := (dC, dI)) (ci := 3) (v := .int t_size) (C := R_Group) (T := F_Group) (N := 5) hx hb hts i_Group hown hE.1 hP 0 rfl rfl 4 (by decide) (hts _ kf_Group_25) (fun _ h9 => h9) rfl d_Group_allCycles_6 ?_
    refine lv_icmp_ge (tgt := 34) hx hb d_Group_allCycles_9 (by decide) (fun c9 => ?_) (fun c9 => ?_)
    · have hw := hw.1 c9
      refine lv_iload_n hx hb d_Group_allCycles_34 rfl (lv_at hl 1 rfl) ?_
      exact W.iret (v := v1) hx hb hr (fun t ht hW => ⟨v1, rfl, hw, by rw [ht]⟩) (fun _ h => by cases h) d_Group_allCycles_35
    · have hw := hw.2 c9
      refine lv_iload_n hx hb d_Group_allCycles_12 rfl (lv_at hl 1 rfl) ?_
      refine lv_aload_n hx hb d_Group_allCycles_13 rfl (lv_at hl 0 rfl) ?_
      refine va_get (D := (dC, dI)) (ci := 3) (v := .ref h_t_rows) (C := R_Group) (T := F_Group) (N := 5) hx hb hts i_Group hown hE.1 hP 0 rfl rfl 0 (by decide) (hts _ kf_Group_9) (fun _ h9 => h9) rfl d_Group_allCycles_14 ?_
      refine lv_iload_n hx hb d_Group_allCycles_17 rfl (lv_at hl 2 rfl) ?_
      have hz := hw.1
      have hw := hw.2
      refine va_iald hx hb hE.1 hP 1 0 rfl rfl hz d_Group_allCycles_18 ?_
      refine lv_aload_n hx hb d_Group_allCycles_19 rfl (lv_at hl 0 rfl) ?_
      refine va_get (D := (dC, dI)) (ci := 3) (v := .int t_points) (C := R_Group) (T := F_Group) (N := 5) hx hb hts i_Group hown hE.1 hP 0 rfl rfl 3 (by decide) (hts _ kf_Group_21) (fun _ h9 => h9) rfl d_Group_allCycles_20 ?_
      have hPc := hP.sub (ws' := []) [] rfl
      refine vp_callSi (va_Run.run (va_runS (As := [.int (t_rows v2.toNatClampNeg), .int t_points]) (rest := [.int v1]) ⟨hx, hb, hml, hown, hts⟩ (met_Rows_countCycles l dC dI cI cZ  (t_rows v2.toNatClampNeg) t_points _ hw) ⟨cB 2 hts kc_Rows_countCycles ki_Rows kl_Group_65 hd_Rows_countCycles ⟨Nat.le_of_ble_eq_true rfl, Nat.le_of_ble_eq_true rfl⟩, hts _ ks_Rows_countCycles⟩ (preS_ro hE hPc) rfl rfl hl.1 rfl (lv_room (Nat.le_of_ble_eq_true rfl)) d_Group_allCycles_23 ⟨Nat.le_of_ble_eq_true rfl, Nat.le_of_ble_eq_true rfl⟩)) (fun r23 hw => ?_)
      refine lv_iadd hx hb d_Group_allCycles_26 ?_
      refine lv_topi (fun x1_27 ex1_27 => ?_)
      have hw := hw x1_27 ex1_27
      refine lv_istore_n (lv' := [(1, .int x1_27), (0, .ref h_t), (2, .int v2)]) hx hb d_Group_allCycles_27 rfl hl (by decide) rfl (fun ls hl => ?_)
      obtain ⟨x2_28, ex2_28⟩ : ∃ y : Int32, y = v2 + 1 := ⟨_, rfl⟩
      have hw := hw x2_28 ex2_28
      refine lv_iinc (v := x2_28) (lv' := [(2, .int x2_28), (1, .int x1_27), (0, .ref h_t)]) hx hb d_Group_allCycles_28 hl (k := 2) rfl (by rw [ex2_28]; rfl) (by decide) rfl (fun ls hl => ?_)
      refine lv_goto (tgt := 4) hx hb d_Group_allCycles_31 (by decide) ?_
      exact ih x1_27 x2_28 hw ls (lv_sub hl [2, 1, 0] rfl)
set_option maxHeartbeats 4000000 in
set_option maxRecDepth 100000 in
theorem met_Group_allCycles (l : Launch) (dC : Nat → ClassId) (dI : Nat → Nat → Nat) (cI cZ : ClassId) (h_t h_t_rows h_t_rowByPlace h_t_numberByPlace : Nat) (t_points : Int32) (t_size : Int32) (t_rows : Nat → Int32) (t_rowByPlace : Nat → Int32) (t_numberByPlace : Nat → Int32) (post : Int32 → Prop) (hw : wp_Group_allCycles post t_points t_size t_rows) : Met l y_Group_allCycles (Cond.code y_Group_allCycles b_Group_allCycles 3 (some .int) :: gw) rm_Group_allCycles (va_Pc [.ref h_t] (fun U => EV (dC, dI) cI cZ U ∧ va_P (dC, dI) classes [(h_t, .inr (3, [.ref h_t_rows, .ref h_t_rowByPlace, .ref h_t_numberByPlace, .int t_points, .int t_size])), (h_t_rows, .inl (cI, 5040, .inl t_rows)), (h_t_rowByPlace, .inl (cI, 5040, .inl t_rowByPlace)), (h_t_numberByPlace, .inl (cI, 5040, .inl t_numberByPlace))] U.heap)) (vp_Si post) 0 0 (fun _ => False) := by
  refine Met.ofW (cc := b_Group_allCycles) (maxL := 3) (ret := (some .int)) (by decide) rfl ?_
  intro p e s m args below meth c s₁ B hml hv
  obtain ⟨rfl, hE, hP⟩ := hv
  have C := CX.of (own := R_Group) (D := (dC, dI)) (cI := cI) (cZ := cZ) B hml rfl hE
  obtain ⟨hx, hb, hr, -, hown, hts, hlocks, -⟩ := id C
  have hl := lv_entry ([.ref h_t]) (n := 3) (Nat.le_of_ble_eq_true rfl)
  rw [lg_entry_eq]
  generalize (lg_sl ([.ref h_t]) ++ List.replicate (3 - (lg_sl ([.ref h_t])).length) Slot.unset).toArray = ls at hl ⊢
  have hl : lv_has ls 3 [(0, .ref h_t)] := hl
  unfold wp_Group_allCycles at hw
  refine lv_iconst (v := (0 : Int32)) hx hb d_Group_allCycles_0 (by decide) ?_
  refine lv_istore_n (lv' := [(1, .int (0 : Int32)), (0, .ref h_t)]) hx hb d_Group_allCycles_1 rfl hl (by decide) rfl (fun ls hl => ?_)
  refine lv_iconst (v := (0 : Int32)) hx hb d_Group_allCycles_2 (by decide) ?_
  refine lv_istore_n (lv' := [(2, .int (0 : Int32)), (1, .int (0 : Int32)), (0, .ref h_t)]) hx hb d_Group_allCycles_3 rfl hl (by decide) rfl (fun ls hl => ?_)
  obtain ⟨n4, hw⟩ := hw
  exact qL_Group_allCycles_4 C post  t_points t_size t_rows t_rowByPlace t_numberByPlace hP  n4 (0 : Int32) (0 : Int32) hw ls (lv_sub hl [2, 1, 0] rfl)

-- SwapOrbits$Group.leastTarget(I)I
abbrev rm_Group_leastTarget : Room := { frames := 1, cells := 0, slots := 0, locals := 21 }
def L_Group_leastTarget_4b (post : Int32 → Prop) (t_size : Int32) (t_rows : Nat → Int32) (v1 : Int32) (K4 : Int32 → Int32 → Prop) (v2 : Int32) (v3 : Int32) : Prop := (t_size ≤ v3 → post v2) ∧ (¬ t_size ≤ v3 → vp_in v3 5040 ∧ (wp_Rows_target (fun r20 => ∀ x2_26 : Int32, x2_26 = (if r20 < v2 then r20 else v2) → (∀ x3_27 : Int32, x3_27 = v3 + 1 → (K4 x2_26 x3_27))) (t_rows v3.toNatClampNeg) v1))
def L_Group_leastTarget_4 (post : Int32 → Prop) (t_size : Int32) (t_rows : Nat → Int32) (v1 : Int32) : Nat → Int32 → Int32 → Prop
  | 0, _, _ => False
  | n + 1, v2, v3 => L_Group_leastTarget_4b post t_size t_rows v1 (L_Group_leastTarget_4 post t_size t_rows v1 n) v2 v3
def wp_Group_leastTarget (post : Int32 → Prop) (t_size : Int32) (t_rows : Nat → Int32) (a1 : Int32) : Prop := ∃ n, L_Group_leastTarget_4 post t_size t_rows a1 n a1 (0 : Int32)
set_option maxHeartbeats 4000000 in
set_option maxRecDepth 100000 in
theorem qL_Group_leastTarget_4 {p : Program} {l : Launch} {e : Env} {s : State} {m : MethodId} {args : Array Value} {below : List Frame} {meth : Method} {c : Code} {dC : Nat → ClassId} {dI : Nat → Nat → Nat} {cI cZ : ClassId} (C : CX p s m args meth c R_Group b_Group_leastTarget 4 (some .int) (dC, dI) cI cZ) {h_t h_t_rows h_t_rowByPlace h_t_numberByPlace : Nat} (post : Int32 → Prop) (t_points : Int32) (t_size : Int32) (t_rows : Nat → Int32) (t_rowByPlace : Nat → Int32) (t_numberByPlace : Nat → Int32) (v1 : Int32) (hP : va_P (dC, dI) classes [(h_t, .inr (3, [.ref h_t_rows, .ref h_t_rowByPlace, .ref h_t_numberByPlace, .int t_points, .int t_size])), (h_t_rows, .inl (cI, 5040, .inl t_rows)), (h_t_rowByPlace, .inl (cI, 5040, .inl t_rowByPlace)), (h_t_numberByPlace, .inl (cI, 5040, .inl t_numberByPlace))] s.heap) : ∀ (n : Nat) (v2 : Int32) (v3 : Int32) , L_Group_leastTarget_4 post t_size t_rows v1 n v2 v3 → ∀ (ls : Array Slot), lv_has ls 4 [(0, .ref h_t), (1, .int v1), (2, .int v2), (3, .int v3)] → W p l e rm_Group_leastTarget s m args below meth c s.heap [] 0 0 (MQ below (vp_Si post) args s 0 0 (fun _ => False)) (F0 m 4 ls []) := by
  obtain ⟨hx, hb, hr, hml, hown, hts, hlocks, hE⟩ := id C
  intro n
  induction n with
  | zero =>
    intro v2 v3 hw
    exact (show False from hw).elim
  | succ n ih =>
    intro v2 v3 hw ls hl
    have hw : L_Group_leastTarget_4b post t_size t_rows v1 (L_Group_leastTarget_4 post t_size t_rows v1 n) v2 v3 := hw
    unfold L_Group_leastTarget_4b at hw
    refine lv_iload_n hx hb d_Group_leastTarget_4 rfl (lv_at hl 3 rfl) ?_
    refine lv_aload_n hx hb d_Group_leastTarget_5 rfl (lv_at hl 0 rfl) ?_
    refine va_get (D := (dC, dI)) (ci := 3) (v := .int t_size) (C := R_Group) (T := F_Group) (N := 5) hx hb hts i_Group hown hE.1 hP 0 rfl rfl 4 (by decide) (hts _ kf_Group_25) (fun _ h9 => h9) rfl d_Group_leastTarget_6 ?_
    refine lv_icmp_ge (tgt := 33) hx hb d_Group_leastTarget_9 (by decide) (fun c9 => ?_) (fun c9 => ?_)
    · have hw := hw.1 c9
      refine lv_iload_n hx hb d_Group_leastTarget_33 rfl (lv_at hl 2 rfl) ?_
      exact W.iret (v := v2) hx hb hr (fun t ht hW => ⟨v2, rfl, hw, by rw [ht]⟩) (fun _ h => by cases h) d_Group_leastTarget_34
    · have hw := hw.2 c9
      refine lv_iload_n hx hb d_Group_leastTarget_12 rfl (lv_at hl 2 rfl) ?_
      refine lv_aload_n hx hb d_Group_leastTarget_13 rfl (lv_at hl 0 rfl) ?_
      refine va_get (D := (dC, dI)) (ci := 3) (v := .ref h_t_rows) (C := R_Group) (T := F_Group) (N := 5) hx hb hts i_Group hown hE.1 hP 0 rfl rfl 0 (by decide) (hts _ kf_Group_9) (fun _ h9 => h9) rfl d_Group_leastTarget_14 ?_
      refine lv_iload_n hx hb d_Group_leastTarget_17 rfl (lv_at hl 3 rfl) ?_
      have hz := hw.1
      have hw := hw.2
      refine va_iald hx hb hE.1 hP 1 0 rfl rfl hz d_Group_leastTarget_18 ?_
      refine lv_iload_n hx hb d_Group_leastTarget_19 rfl (lv_at hl 1 rfl) ?_
      have hPc := hP.sub (ws' := []) [] rfl
      refine vp_callSi (va_Run.run (va_runS (As := [.int (t_rows v3.toNatClampNeg), .int v1]) (rest := [.int v2]) ⟨hx, hb, hml, hown, hts⟩ (met_Rows_target l dC dI cI cZ  (t_rows v3.toNatClampNeg) v1 _ hw) ⟨cB 2 hts kc_Rows_target ki_Rows kl_Group_68 hd_Rows_target ⟨Nat.le_of_ble_eq_true rfl, Nat.le_of_ble_eq_true rfl⟩, hts _ ks_Rows_target⟩ (preS_ro hE hPc) rfl rfl hl.1 rfl (lv_room (Nat.le_of_ble_eq_true rfl)) d_Group_leastTarget_20 ⟨Nat.le_of_ble_eq_true rfl, Nat.le_of_ble_eq_true rfl⟩)) (fun r20 hw => ?_)
      refine va_mmin hx hb (hml.trans hl.1.symm) hown (hts _ kl_Group_71) (hts _ ks_min) (hts _ ki_Math) (hts _ kc_min) (Nat.le_of_ble_eq_true rfl) (Nat.le_of_ble_eq_true rfl) (Nat.le_of_ble_eq_true rfl) (Nat.le_of_ble_eq_true rfl) d_Group_leastTarget_23 ?_
      refine lv_topi (fun x2_26 ex2_26 => ?_)
      have hw := hw x2_26 ex2_26
      refine lv_istore_n (lv' := [(2, .int x2_26), (0, .ref h_t), (1, .int v1), (3, .int v3)]) hx hb d_Group_leastTarget_26 rfl hl (by decide) rfl (fun ls hl => ?_)
      obtain ⟨x3_27, ex3_27⟩ : ∃ y : Int32, y = v3 + 1 := ⟨_, rfl⟩
      have hw := hw x3_27 ex3_27
      refine lv_iinc (v := x3_27) (lv' := [(3, .int x3_27), (2, .int x2_26), (0, .ref h_t), (1, .int v1)]) hx hb d_Group_leastTarget_27 hl (k := 3) rfl (by rw [ex3_27]; rfl) (by decide) rfl (fun ls hl => ?_)
      refine lv_goto (tgt := 4) hx hb d_Group_leastTarget_30 (by decide) ?_
      exact ih x2_26 x3_27 hw ls (lv_sub hl [2, 3, 1, 0] rfl)
set_option maxHeartbeats 4000000 in
set_option maxRecDepth 100000 in
theorem met_Group_leastTarget (l : Launch) (dC : Nat → ClassId) (dI : Nat → Nat → Nat) (cI cZ : ClassId) (h_t h_t_rows h_t_rowByPlace h_t_numberByPlace : Nat) (t_points : Int32) (t_size : Int32) (t_rows : Nat → Int32) (t_rowByPlace : Nat → Int32) (t_numberByPlace : Nat → Int32) (a1 : Int32) (post : Int32 → Prop) (hw : wp_Group_leastTarget post t_size t_rows a1) : Met l y_Group_leastTarget (Cond.code y_Group_leastTarget b_Group_leastTarget 4 (some .int) :: gw) rm_Group_leastTarget (va_Pc [.ref h_t, .int a1] (fun U => EV (dC, dI) cI cZ U ∧ va_P (dC, dI) classes [(h_t, .inr (3, [.ref h_t_rows, .ref h_t_rowByPlace, .ref h_t_numberByPlace, .int t_points, .int t_size])), (h_t_rows, .inl (cI, 5040, .inl t_rows)), (h_t_rowByPlace, .inl (cI, 5040, .inl t_rowByPlace)), (h_t_numberByPlace, .inl (cI, 5040, .inl t_numberByPlace))] U.heap)) (vp_Si post) 0 0 (fun _ => False) := by
  refine Met.ofW (cc := b_Group_leastTarget) (maxL := 4) (ret := (some .int)) (by decide) rfl ?_
  intro p e s m args below meth c s₁ B hml hv
  obtain ⟨rfl, hE, hP⟩ := hv
  have C := CX.of (own := R_Group) (D := (dC, dI)) (cI := cI) (cZ := cZ) B hml rfl hE
  obtain ⟨hx, hb, hr, -, hown, hts, hlocks, -⟩ := id C
  have hl := lv_entry ([.ref h_t, .int a1]) (n := 4) (Nat.le_of_ble_eq_true rfl)
  rw [lg_entry_eq]
  generalize (lg_sl ([.ref h_t, .int a1]) ++ List.replicate (4 - (lg_sl ([.ref h_t, .int a1])).length) Slot.unset).toArray = ls at hl ⊢
  have hl : lv_has ls 4 [(0, .ref h_t), (1, .int a1)] := hl
  unfold wp_Group_leastTarget at hw
  refine lv_iload_n hx hb d_Group_leastTarget_0 rfl (lv_at hl 1 rfl) ?_
  refine lv_istore_n (lv' := [(2, .int a1), (0, .ref h_t), (1, .int a1)]) hx hb d_Group_leastTarget_1 rfl hl (by decide) rfl (fun ls hl => ?_)
  refine lv_iconst (v := (0 : Int32)) hx hb d_Group_leastTarget_2 (by decide) ?_
  refine lv_istore_n (lv' := [(3, .int (0 : Int32)), (2, .int a1), (0, .ref h_t), (1, .int a1)]) hx hb d_Group_leastTarget_3 rfl hl (by decide) rfl (fun ls hl => ?_)
  obtain ⟨n4, hw⟩ := hw
  exact qL_Group_leastTarget_4 C post  t_points t_size t_rows t_rowByPlace t_numberByPlace a1 hP  n4 a1 (0 : Int32) hw ls (lv_sub hl [2, 3, 1, 0] rfl)

-- SwapOrbits$Group.<init>()V
abbrev rm_Group_init : Room := { frames := 1, cells := 3, slots := 15120, locals := 20 }
abbrev QM_Group_init (dC : Nat → ClassId) (dI : Nat → Nat → Nat) (cI cZ : ClassId) (h_t : Nat) (A : Nat → Prop) : Array Value → State → Outcome → State → Prop := va_Qv (fun _ : Unit => True) (fun _ t => ∃ (h_t_rows h_t_rowByPlace h_t_numberByPlace : Nat), va_P (dC, dI) classes [(h_t, .inr (3, [.ref h_t_rows, .ref h_t_rowByPlace, .ref h_t_numberByPlace, .int (0 : Int32), .int (0 : Int32)])), (h_t_rows, .inl (cI, 5040, .inl (fun _ => 0))), (h_t_rowByPlace, .inl (cI, 5040, .inl (fun _ => 0))), (h_t_numberByPlace, .inl (cI, 5040, .inl (fun _ => 0)))] t.heap ∧ va_D A [(h_t, .inr (3, [.ref h_t_rows, .ref h_t_rowByPlace, .ref h_t_numberByPlace, .int (0 : Int32), .int (0 : Int32)])), (h_t_rows, .inl (cI, 5040, .inl (fun _ => 0))), (h_t_rowByPlace, .inl (cI, 5040, .inl (fun _ => 0))), (h_t_numberByPlace, .inl (cI, 5040, .inl (fun _ => 0)))]) A
set_option maxHeartbeats 4000000 in
set_option maxRecDepth 100000 in
theorem met_Group_init (l : Launch) (dC : Nat → ClassId) (dI : Nat → Nat → Nat) (cI cZ : ClassId) (h_t : Nat) (sz : Nat) : Met l y_Group_init (Cond.code y_Group_init b_Group_init 1 none :: gw) rm_Group_init (va_Pc [.ref h_t] (fun U => U.heap.size = sz ∧ EV (dC, dI) cI cZ U ∧ va_P (dC, dI) classes [(h_t, .inr (3, [.null, .null, .null, .int (0 : Int32), .int (0 : Int32)]))] U.heap ∧ va_D (fun _ => True) [(h_t, .inr (3, [.null, .null, .null, .int (0 : Int32), .int (0 : Int32)]))])) (QM_Group_init dC dI cI cZ h_t (va_A [(h_t, .inr (3, [.null, .null, .null, .int (0 : Int32), .int (0 : Int32)]))] sz)) 3 15120 (va_A [(h_t, .inr (3, [.null, .null, .null, .int (0 : Int32), .int (0 : Int32)]))] sz) := by
  refine Met.ofW (cc := b_Group_init) (maxL := 1) (ret := none) (by decide) rfl ?_
  intro p e s m args below meth c s₁ B hml hv
  obtain ⟨rfl, hsz, hE, hP, hD0⟩ := hv
  have C := CX.of (own := R_Group) (D := (dC, dI)) (cI := cI) (cZ := cZ) B hml rfl hE
  obtain ⟨hx, hb, hr, -, hown, hts, hlocks, -⟩ := id C
  have hin : meth.name = "<init>" := (name_of_methodNamed B.named B.method).1
  subst hsz
  have hD := hD0.self (sz := s.heap.size)
  generalize hAe : va_A [(h_t, .inr (3, [.null, .null, .null, .int (0 : Int32), .int (0 : Int32)]))] s.heap.size = A at hD ⊢
  have hA : ∀ q : Nat, s.heap.size ≤ q → A q := fun q h => by rw [← hAe]; exact Or.inr h
  have hS : va_S A s.heap s.heap [] := va_S.rf
  have hP : va_P (dC, dI) classes [(h_t, .inr (3, [.null, .null, .null, .int (0 : Int32), .int (0 : Int32)]))] s.heap := hP
  have hl := lv_entry ([.ref h_t]) (n := 1) (Nat.le_of_ble_eq_true rfl)
  rw [lg_entry_eq]
  generalize (lg_sl ([.ref h_t]) ++ List.replicate (1 - (lg_sl ([.ref h_t])).length) Slot.unset).toArray = ls at hl ⊢
  have hl : lv_has ls 1 [(0, .ref h_t)] := hl
  refine keyL (P := fun H locs => va_P (dC, dI) classes [(h_t, .inr (3, [.null, .null, .null, .int (0 : Int32), .int (0 : Int32)]))] H ∧ va_D A [(h_t, .inr (3, [.null, .null, .null, .int (0 : Int32), .int (0 : Int32)]))] ∧ va_S A s.heap H locs) ⟨hP, hD, hS⟩ (fun H locs hPP => ?_)
  clear hP hD hS
  obtain ⟨hP, hD, hS⟩ := hPP
  refine lv_aload_n hx hb d_Group_init_0 rfl (lv_at hl 0 rfl) ?_
  refine W.objInit hx hb hown (hts _ kl_Group_3) (hts _ kn_oi) (hts _ kc_oi) rfl (by rw [hml]; exact hl.1) rfl d_Group_init_1 (Nat.le_of_ble_eq_true rfl) (Nat.le_of_ble_eq_true rfl) ?_
  refine W.eq (g2 := F0 m 4 ls []) rfl ?_
  refine lv_aload_n hx hb d_Group_init_4 rfl (lv_at hl 0 rfl) ?_
  refine lv_sipush (v := (5040 : Int32)) hx hb d_Group_init_5 (by decide) ?_
  refine va_newa (atype := .int) (ty := .int) (a0 := (5040, .inl (fun _ => 0))) (N' := 5040) hx hb (hts _ ka_int) rfl hE.1 hP hD hS hA (fun _ => rfl) (by decide) (by decide) (by decide) (by decide) (by decide) d_Group_init_8 (fun h_t_rows cA H hK2 hP hD hS => ?_)
  have hcA := sameI hK2
  subst hcA
  have hP : va_P (dC, dI) classes [(h_t, .inr (3, [.null, .null, .null, .int (0 : Int32), .int (0 : Int32)])), (h_t_rows, .inl (cI, 5040, .inl (fun _ => 0)))] H := hP
  have hD : va_D A [(h_t, .inr (3, [.null, .null, .null, .int (0 : Int32), .int (0 : Int32)])), (h_t_rows, .inl (cI, 5040, .inl (fun _ => 0)))] := hD
  refine W.widen (k := 1) (n := 5040) (by decide) (by decide) ?_
  refine va_putF (D := (dC, dI)) (ci := 3) (v := .ref h_t_rows) (ty := .array .int) (C := R_Group) (T := F_Group) (N := 5) hx hb hts i_Group t_Group t_Group_ok n_Group hown hE.1 hP hD hS 0 rfl rfl 0 (by decide) (hts _ kf_Group_9) (fun _ h9 => h9) rfl hin rfl (by decide +kernel) rfl rfl (Nat.le_of_ble_eq_true rfl) d_Group_init_10 (fun H locs hP hD hS => ?_)
  have hP : va_P (dC, dI) classes [(h_t, .inr (3, [.ref h_t_rows, .null, .null, .int (0 : Int32), .int (0 : Int32)])), (h_t_rows, .inl (cI, 5040, .inl (fun _ => 0)))] H := hP
  have hD : va_D A [(h_t, .inr (3, [.ref h_t_rows, .null, .null, .int (0 : Int32), .int (0 : Int32)])), (h_t_rows, .inl (cI, 5040, .inl (fun _ => 0)))] := hD
  refine lv_aload_n hx hb d_Group_init_13 rfl (lv_at hl 0 rfl) ?_
  refine lv_sipush (v := (5040 : Int32)) hx hb d_Group_init_14 (by decide) ?_
  refine va_newa (atype := .int) (ty := .int) (a0 := (5040, .inl (fun _ => 0))) (N' := 5040) hx hb (hts _ ka_int) rfl hE.1 hP hD hS hA (fun _ => rfl) (by decide) (by decide) (by decide) (by decide) (by decide) d_Group_init_17 (fun h_t_rowByPlace cA H hK2 hP hD hS => ?_)
  have hcA := sameI hK2
  subst hcA
  have hP : va_P (dC, dI) classes [(h_t, .inr (3, [.ref h_t_rows, .null, .null, .int (0 : Int32), .int (0 : Int32)])), (h_t_rows, .inl (cI, 5040, .inl (fun _ => 0))), (h_t_rowByPlace, .inl (cI, 5040, .inl (fun _ => 0)))] H := hP
  have hD : va_D A [(h_t, .inr (3, [.ref h_t_rows, .null, .null, .int (0 : Int32), .int (0 : Int32)])), (h_t_rows, .inl (cI, 5040, .inl (fun _ => 0))), (h_t_rowByPlace, .inl (cI, 5040, .inl (fun _ => 0)))] := hD
  refine W.widen (k := 2) (n := 10080) (by decide) (by decide) ?_
  refine va_putF (D := (dC, dI)) (ci := 3) (v := .ref h_t_rowByPlace) (ty := .array .int) (C := R_Group) (T := F_Group) (N := 5) hx hb hts i_Group t_Group t_Group_ok n_Group hown hE.1 hP hD hS 0 rfl rfl 1 (by decide) (hts _ kf_Group_15) (fun _ h9 => h9) rfl hin rfl (by decide +kernel) rfl rfl (Nat.le_of_ble_eq_true rfl) d_Group_init_19 (fun H locs hP hD hS => ?_)
  have hP : va_P (dC, dI) classes [(h_t, .inr (3, [.ref h_t_rows, .ref h_t_rowByPlace, .null, .int (0 : Int32), .int (0 : Int32)])), (h_t_rows, .inl (cI, 5040, .inl (fun _ => 0))), (h_t_rowByPlace, .inl (cI, 5040, .inl (fun _ => 0)))] H := hP
  have hD : va_D A [(h_t, .inr (3, [.ref h_t_rows, .ref h_t_rowByPlace, .null, .int (0 : Int32), .int (0 : Int32)])), (h_t_rows, .inl (cI, 5040, .inl (fun _ => 0))), (h_t_rowByPlace, .inl (cI, 5040, .inl (fun _ => 0)))] := hD
  refine lv_aload_n hx hb d_Group_init_22 rfl (lv_at hl 0 rfl) ?_
  refine lv_sipush (v := (5040 : Int32)) hx hb d_Group_init_23 (by decide) ?_
  refine va_newa (atype := .int) (ty := .int) (a0 := (5040, .inl (fun _ => 0))) (N' := 5040) hx hb (hts _ ka_int) rfl hE.1 hP hD hS hA (fun _ => rfl) (by decide) (by decide) (by decide) (by decide) (by decide) d_Group_init_26 (fun h_t_numberByPlace cA H hK2 hP hD hS => ?_)
  have hcA := sameI hK2
  subst hcA
  have hP : va_P (dC, dI) classes [(h_t, .inr (3, [.ref h_t_rows, .ref h_t_rowByPlace, .null, .int (0 : Int32), .int (0 : Int32)])), (h_t_rows, .inl (cI, 5040, .inl (fun _ => 0))), (h_t_rowByPlace, .inl (cI, 5040, .inl (fun _ => 0))), (h_t_numberByPlace, .inl (cI, 5040, .inl (fun _ => 0)))] H := hP
  have hD : va_D A [(h_t, .inr (3, [.ref h_t_rows, .ref h_t_rowByPlace, .null, .int (0 : Int32), .int (0 : Int32)])), (h_t_rows, .inl (cI, 5040, .inl (fun _ => 0))), (h_t_rowByPlace, .inl (cI, 5040, .inl (fun _ => 0))), (h_t_numberByPlace, .inl (cI, 5040, .inl (fun _ => 0)))] := hD
  refine W.widen (k := 3) (n := 15120) (by decide) (by decide) ?_
  refine va_putF (D := (dC, dI)) (ci := 3) (v := .ref h_t_numberByPlace) (ty := .array .int) (C := R_Group) (T := F_Group) (N := 5) hx hb hts i_Group t_Group t_Group_ok n_Group hown hE.1 hP hD hS 0 rfl rfl 2 (by decide) (hts _ kf_Group_18) (fun _ h9 => h9) rfl hin rfl (by decide +kernel) rfl rfl (Nat.le_of_ble_eq_true rfl) d_Group_init_28 (fun H locs hP hD hS => ?_)
  have hP : va_P (dC, dI) classes [(h_t, .inr (3, [.ref h_t_rows, .ref h_t_rowByPlace, .ref h_t_numberByPlace, .int (0 : Int32), .int (0 : Int32)])), (h_t_rows, .inl (cI, 5040, .inl (fun _ => 0))), (h_t_rowByPlace, .inl (cI, 5040, .inl (fun _ => 0))), (h_t_numberByPlace, .inl (cI, 5040, .inl (fun _ => 0)))] H := hP
  have hD : va_D A [(h_t, .inr (3, [.ref h_t_rows, .ref h_t_rowByPlace, .ref h_t_numberByPlace, .int (0 : Int32), .int (0 : Int32)])), (h_t_rows, .inl (cI, 5040, .inl (fun _ => 0))), (h_t_rowByPlace, .inl (cI, 5040, .inl (fun _ => 0))), (h_t_numberByPlace, .inl (cI, 5040, .inl (fun _ => 0)))] := hD
  have hP9 : va_P (dC, dI) classes [(h_t, .inr (3, [.ref h_t_rows, .ref h_t_rowByPlace, .ref h_t_numberByPlace, .int (0 : Int32), .int (0 : Int32)])), (h_t_rows, .inl (cI, 5040, .inl (fun _ => 0))), (h_t_rowByPlace, .inl (cI, 5040, .inl (fun _ => 0))), (h_t_numberByPlace, .inl (cI, 5040, .inl (fun _ => 0)))] H := hP.sub [0, 1, 2, 3] rfl
  have hD9 : va_D A [(h_t, .inr (3, [.ref h_t_rows, .ref h_t_rowByPlace, .ref h_t_numberByPlace, .int (0 : Int32), .int (0 : Int32)])), (h_t_rows, .inl (cI, 5040, .inl (fun _ => 0))), (h_t_rowByPlace, .inl (cI, 5040, .inl (fun _ => 0))), (h_t_numberByPlace, .inl (cI, 5040, .inl (fun _ => 0)))] := hD.sub [0, 1, 2, 3] (by decide) rfl
  exact W.vret hx hb hr (fun t ht hW => ⟨⟨(), rfl, trivial, h_t_rows, h_t_rowByPlace, h_t_numberByPlace, by rw [ht]; exact hP9, hD9⟩, hS.F ht⟩) hS.2.2 d_Group_init_31

