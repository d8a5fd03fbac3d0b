theorem d_SO_init_0 : decode b_SO_init 0 = .ok (.aload_n 0, 1) := by decide +kernel
theorem d_SO_init_1 : decode b_SO_init 1 = .ok (.invokespecial 1, 3) := by decide +kernel
theorem d_SO_init_4 : decode b_SO_init 4 = .ok (.aload_n 0, 1) := by decide +kernel
theorem d_SO_init_5 : decode b_SO_init 5 = .ok (.new 7, 3) := by decide +kernel
theorem d_SO_init_8 : decode b_SO_init 8 = .ok (.dup, 1) := by decide +kernel
theorem d_SO_init_9 : decode b_SO_init 9 = .ok (.invokespecial 9, 3) := by decide +kernel
theorem d_SO_init_12 : decode b_SO_init 12 = .ok (.putfield 10, 3) := by decide +kernel
theorem d_SO_init_15 : decode b_SO_init 15 = .ok (.aload_n 0, 1) := by decide +kernel
theorem d_SO_init_16 : decode b_SO_init 16 = .ok (.new 16, 3) := by decide +kernel
theorem d_SO_init_19 : decode b_SO_init 19 = .ok (.dup, 1) := by decide +kernel
theorem d_SO_init_20 : decode b_SO_init 20 = .ok (.invokespecial 18, 3) := by decide +kernel
theorem d_SO_init_23 : decode b_SO_init 23 = .ok (.putfield 19, 3) := by decide +kernel
theorem d_SO_init_26 : decode b_SO_init 26 = .ok (.aload_n 0, 1) := by decide +kernel
theorem d_SO_init_27 : decode b_SO_init 27 = .ok (.new 23, 3) := by decide +kernel
theorem d_SO_init_30 : decode b_SO_init 30 = .ok (.dup, 1) := by decide +kernel
theorem d_SO_init_31 : decode b_SO_init 31 = .ok (.invokespecial 25, 3) := by decide +kernel
theorem d_SO_init_34 : decode b_SO_init 34 = .ok (.putfield 26, 3) := by decide +kernel
theorem d_SO_init_37 : decode b_SO_init 37 = .ok (.aload_n 0, 1) := by decide +kernel
theorem d_SO_init_38 : decode b_SO_init 38 = .ok (.iconst 4, 1) := by decide +kernel
theorem d_SO_init_39 : decode b_SO_init 39 = .ok (.newarray .int, 2) := by decide +kernel
theorem d_SO_init_41 : decode b_SO_init 41 = .ok (.putfield 30, 3) := by decide +kernel
theorem d_SO_init_44 : decode b_SO_init 44 = .ok (.aload_n 0, 1) := by decide +kernel
theorem d_SO_init_45 : decode b_SO_init 45 = .ok (.new 34, 3) := by decide +kernel
theorem d_SO_init_48 : decode b_SO_init 48 = .ok (.dup, 1) := by decide +kernel
theorem d_SO_init_49 : decode b_SO_init 49 = .ok (.invokespecial 36, 3) := by decide +kernel
theorem d_SO_init_52 : decode b_SO_init 52 = .ok (.putfield 37, 3) := by decide +kernel
theorem d_SO_init_55 : decode b_SO_init 55 = .ok (.aload_n 0, 1) := by decide +kernel
theorem d_SO_init_56 : decode b_SO_init 56 = .ok (.new 41, 3) := by decide +kernel
theorem d_SO_init_59 : decode b_SO_init 59 = .ok (.dup, 1) := by decide +kernel
theorem d_SO_init_60 : decode b_SO_init 60 = .ok (.invokespecial 43, 3) := by decide +kernel
theorem d_SO_init_63 : decode b_SO_init 63 = .ok (.putfield 44, 3) := by decide +kernel
theorem d_SO_init_66 : decode b_SO_init 66 = .ok (.aload_n 0, 1) := by decide +kernel
theorem d_SO_init_67 : decode b_SO_init 67 = .ok (.iconst 1, 1) := by decide +kernel
theorem d_SO_init_68 : decode b_SO_init 68 = .ok (.iconst 1, 1) := by decide +kernel
theorem d_SO_init_69 : decode b_SO_init 69 = .ok (.invokevirtual 48, 3) := by decide +kernel
theorem d_SO_init_72 : decode b_SO_init 72 = .ok (.return_, 1) := by decide +kernel
theorem d_SO_set_0 : decode b_SO_set 0 = .ok (.iload_n 1, 1) := by decide +kernel
theorem d_SO_set_1 : decode b_SO_set 1 = .ok (.iconst 1, 1) := by decide +kernel
theorem d_SO_set_2 : decode b_SO_set 2 = .ok (.if_icmp .lt 19, 3) := by decide +kernel
theorem d_SO_set_5 : decode b_SO_set 5 = .ok (.iload_n 1, 1) := by decide +kernel
theorem d_SO_set_6 : decode b_SO_set 6 = .ok (.bipush 7, 2) := by decide +kernel
theorem d_SO_set_8 : decode b_SO_set 8 = .ok (.if_icmp .gt 13, 3) := by decide +kernel
theorem d_SO_set_11 : decode b_SO_set 11 = .ok (.iload_n 2, 1) := by decide +kernel
theorem d_SO_set_12 : decode b_SO_set 12 = .ok (.iconst 1, 1) := by decide +kernel
theorem d_SO_set_13 : decode b_SO_set 13 = .ok (.if_icmp .lt 8, 3) := by decide +kernel
theorem d_SO_set_16 : decode b_SO_set 16 = .ok (.iload_n 2, 1) := by decide +kernel
theorem d_SO_set_17 : decode b_SO_set 17 = .ok (.iconst 4, 1) := by decide +kernel
theorem d_SO_set_18 : decode b_SO_set 18 = .ok (.if_icmp .le 6, 3) := by decide +kernel
theorem d_SO_set_21 : decode b_SO_set 21 = .ok (.bipush (-2), 2) := by decide +kernel
theorem d_SO_set_23 : decode b_SO_set 23 = .ok (.ireturn, 1) := by decide +kernel
theorem d_SO_set_24 : decode b_SO_set 24 = .ok (.aload_n 0, 1) := by decide +kernel
theorem d_SO_set_25 : decode b_SO_set 25 = .ok (.iload_n 1, 1) := by decide +kernel
theorem d_SO_set_26 : decode b_SO_set 26 = .ok (.iload_n 2, 1) := by decide +kernel
theorem d_SO_set_27 : decode b_SO_set 27 = .ok (.invokevirtual 48, 3) := by decide +kernel
theorem d_SO_set_30 : decode b_SO_set 30 = .ok (.aload_n 0, 1) := by decide +kernel
theorem d_SO_set_31 : decode b_SO_set 31 = .ok (.getfield 26, 3) := by decide +kernel
theorem d_SO_set_34 : decode b_SO_set 34 = .ok (.getfield 52, 3) := by decide +kernel
theorem d_SO_set_37 : decode b_SO_set 37 = .ok (.ireturn, 1) := by decide +kernel
theorem d_SO_move_0 : decode b_SO_move 0 = .ok (.aload_n 0, 1) := by decide +kernel
theorem d_SO_move_1 : decode b_SO_move 1 = .ok (.iload_n 1, 1) := by decide +kernel
theorem d_SO_move_2 : decode b_SO_move 2 = .ok (.invokevirtual 56, 3) := by decide +kernel
theorem d_SO_move_5 : decode b_SO_move 5 = .ok (.ifCond .ne 6, 3) := by decide +kernel
theorem d_SO_move_8 : decode b_SO_move 8 = .ok (.bipush (-2), 2) := by decide +kernel
theorem d_SO_move_10 : decode b_SO_move 10 = .ok (.ireturn, 1) := by decide +kernel
theorem d_SO_move_11 : decode b_SO_move 11 = .ok (.aload_n 0, 1) := by decide +kernel
theorem d_SO_move_12 : decode b_SO_move 12 = .ok (.getfield 10, 3) := by decide +kernel
theorem d_SO_move_15 : decode b_SO_move 15 = .ok (.iload_n 1, 1) := by decide +kernel
theorem d_SO_move_16 : decode b_SO_move 16 = .ok (.invokevirtual 60, 3) := by decide +kernel
theorem d_SO_move_19 : decode b_SO_move 19 = .ok (.ifCond .ne 6, 3) := by decide +kernel
theorem d_SO_move_22 : decode b_SO_move 22 = .ok (.bipush (-4), 2) := by decide +kernel
theorem d_SO_move_24 : decode b_SO_move 24 = .ok (.ireturn, 1) := by decide +kernel
theorem d_SO_move_25 : decode b_SO_move 25 = .ok (.aload_n 0, 1) := by decide +kernel
theorem d_SO_move_26 : decode b_SO_move 26 = .ok (.invokevirtual 63, 3) := by decide +kernel
theorem d_SO_move_29 : decode b_SO_move 29 = .ok (.aload_n 0, 1) := by decide +kernel
theorem d_SO_move_30 : decode b_SO_move 30 = .ok (.getfield 10, 3) := by decide +kernel
theorem d_SO_move_33 : decode b_SO_move 33 = .ok (.getfield 66, 3) := by decide +kernel
theorem d_SO_move_36 : decode b_SO_move 36 = .ok (.ireturn, 1) := by decide +kernel
theorem d_SO_back_0 : decode b_SO_back 0 = .ok (.aload_n 0, 1) := by decide +kernel
theorem d_SO_back_1 : decode b_SO_back 1 = .ok (.getfield 10, 3) := by decide +kernel
theorem d_SO_back_4 : decode b_SO_back 4 = .ok (.invokevirtual 67, 3) := by decide +kernel
theorem d_SO_back_7 : decode b_SO_back 7 = .ok (.ifCond .ne 5, 3) := by decide +kernel
theorem d_SO_back_10 : decode b_SO_back 10 = .ok (.iconst (-1), 1) := by decide +kernel
theorem d_SO_back_11 : decode b_SO_back 11 = .ok (.ireturn, 1) := by decide +kernel
theorem d_SO_back_12 : decode b_SO_back 12 = .ok (.aload_n 0, 1) := by decide +kernel
theorem d_SO_back_13 : decode b_SO_back 13 = .ok (.invokevirtual 63, 3) := by decide +kernel
theorem d_SO_back_16 : decode b_SO_back 16 = .ok (.aload_n 0, 1) := by decide +kernel
theorem d_SO_back_17 : decode b_SO_back 17 = .ok (.getfield 10, 3) := by decide +kernel
theorem d_SO_back_20 : decode b_SO_back 20 = .ok (.getfield 66, 3) := by decide +kernel
theorem d_SO_back_23 : decode b_SO_back 23 = .ok (.ireturn, 1) := by decide +kernel
theorem d_SO_edge_0 : decode b_SO_edge 0 = .ok (.aload_n 0, 1) := by decide +kernel
theorem d_SO_edge_1 : decode b_SO_edge 1 = .ok (.iload_n 1, 1) := by decide +kernel
theorem d_SO_edge_2 : decode b_SO_edge 2 = .ok (.invokevirtual 71, 3) := by decide +kernel
theorem d_SO_edge_5 : decode b_SO_edge 5 = .ok (.ifCond .eq 16, 3) := by decide +kernel
theorem d_SO_edge_8 : decode b_SO_edge 8 = .ok (.aload_n 0, 1) := by decide +kernel
theorem d_SO_edge_9 : decode b_SO_edge 9 = .ok (.iload_n 2, 1) := by decide +kernel
theorem d_SO_edge_10 : decode b_SO_edge 10 = .ok (.invokevirtual 71, 3) := by decide +kernel
theorem d_SO_edge_13 : decode b_SO_edge 13 = .ok (.ifCond .eq 8, 3) := by decide +kernel
theorem d_SO_edge_16 : decode b_SO_edge 16 = .ok (.iload_n 1, 1) := by decide +kernel
theorem d_SO_edge_17 : decode b_SO_edge 17 = .ok (.iload_n 2, 1) := by decide +kernel
theorem d_SO_edge_18 : decode b_SO_edge 18 = .ok (.if_icmp .ne 6, 3) := by decide +kernel
theorem d_SO_edge_21 : decode b_SO_edge 21 = .ok (.bipush (-2), 2) := by decide +kernel
theorem d_SO_edge_23 : decode b_SO_edge 23 = .ok (.ireturn, 1) := by decide +kernel
theorem d_SO_edge_24 : decode b_SO_edge 24 = .ok (.aload_n 0, 1) := by decide +kernel
theorem d_SO_edge_25 : decode b_SO_edge 25 = .ok (.getfield 19, 3) := by decide +kernel
theorem d_SO_edge_28 : decode b_SO_edge 28 = .ok (.iload_n 1, 1) := by decide +kernel
theorem d_SO_edge_29 : decode b_SO_edge 29 = .ok (.iload_n 2, 1) := by decide +kernel
theorem d_SO_edge_30 : decode b_SO_edge 30 = .ok (.invokevirtual 74, 3) := by decide +kernel
theorem d_SO_edge_33 : decode b_SO_edge 33 = .ok (.aload_n 0, 1) := by decide +kernel
theorem d_SO_edge_34 : decode b_SO_edge 34 = .ok (.getfield 19, 3) := by decide +kernel
theorem d_SO_edge_37 : decode b_SO_edge 37 = .ok (.iload_n 1, 1) := by decide +kernel
theorem d_SO_edge_38 : decode b_SO_edge 38 = .ok (.iload_n 2, 1) := by decide +kernel
theorem d_SO_edge_39 : decode b_SO_edge 39 = .ok (.invokevirtual 77, 3) := by decide +kernel
theorem d_SO_edge_42 : decode b_SO_edge 42 = .ok (.ifCond .eq 7, 3) := by decide +kernel
theorem d_SO_edge_45 : decode b_SO_edge 45 = .ok (.iconst 1, 1) := by decide +kernel
theorem d_SO_edge_46 : decode b_SO_edge 46 = .ok (.goto 4, 3) := by decide +kernel
theorem d_SO_edge_49 : decode b_SO_edge 49 = .ok (.iconst 0, 1) := by decide +kernel
theorem d_SO_edge_50 : decode b_SO_edge 50 = .ok (.ireturn, 1) := by decide +kernel
theorem d_SO_weight_0 : decode b_SO_weight 0 = .ok (.iload_n 1, 1) := by decide +kernel
theorem d_SO_weight_1 : decode b_SO_weight 1 = .ok (.ifCond .lt 24, 3) := by decide +kernel
theorem d_SO_weight_4 : decode b_SO_weight 4 = .ok (.iload_n 1, 1) := by decide +kernel
theorem d_SO_weight_5 : decode b_SO_weight 5 = .ok (.aload_n 0, 1) := by decide +kernel
theorem d_SO_weight_6 : decode b_SO_weight 6 = .ok (.getfield 26, 3) := by decide +kernel
theorem d_SO_weight_9 : decode b_SO_weight 9 = .ok (.getfield 81, 3) := by decide +kernel
theorem d_SO_weight_12 : decode b_SO_weight 12 = .ok (.if_icmp .ge 13, 3) := by decide +kernel
theorem d_SO_weight_15 : decode b_SO_weight 15 = .ok (.iload_n 2, 1) := by decide +kernel
theorem d_SO_weight_16 : decode b_SO_weight 16 = .ok (.ifCond .lt 9, 3) := by decide +kernel
theorem d_SO_weight_19 : decode b_SO_weight 19 = .ok (.iload_n 2, 1) := by decide +kernel
theorem d_SO_weight_20 : decode b_SO_weight 20 = .ok (.bipush 9, 2) := by decide +kernel
theorem d_SO_weight_22 : decode b_SO_weight 22 = .ok (.if_icmp .le 6, 3) := by decide +kernel
theorem d_SO_weight_25 : decode b_SO_weight 25 = .ok (.bipush (-2), 2) := by decide +kernel
theorem d_SO_weight_27 : decode b_SO_weight 27 = .ok (.ireturn, 1) := by decide +kernel
theorem d_SO_weight_28 : decode b_SO_weight 28 = .ok (.aload_n 0, 1) := by decide +kernel
theorem d_SO_weight_29 : decode b_SO_weight 29 = .ok (.getfield 30, 3) := by decide +kernel
theorem d_SO_weight_32 : decode b_SO_weight 32 = .ok (.iload_n 1, 1) := by decide +kernel
theorem d_SO_weight_33 : decode b_SO_weight 33 = .ok (.iaload, 1) := by decide +kernel
theorem d_SO_weight_34 : decode b_SO_weight 34 = .ok (.istore_n 3, 1) := by decide +kernel
theorem d_SO_weight_35 : decode b_SO_weight 35 = .ok (.aload_n 0, 1) := by decide +kernel
theorem d_SO_weight_36 : decode b_SO_weight 36 = .ok (.getfield 30, 3) := by decide +kernel
theorem d_SO_weight_39 : decode b_SO_weight 39 = .ok (.iload_n 1, 1) := by decide +kernel
theorem d_SO_weight_40 : decode b_SO_weight 40 = .ok (.iload_n 2, 1) := by decide +kernel
theorem d_SO_weight_41 : decode b_SO_weight 41 = .ok (.iastore, 1) := by decide +kernel
theorem d_SO_weight_42 : decode b_SO_weight 42 = .ok (.iload_n 3, 1) := by decide +kernel
theorem d_SO_weight_43 : decode b_SO_weight 43 = .ok (.ireturn, 1) := by decide +kernel
theorem d_SO_told_0 : decode b_SO_told 0 = .ok (.iload_n 1, 1) := by decide +kernel
theorem d_SO_told_1 : decode b_SO_told 1 = .ok (.tableswitch 87 0 5 #[39, 47, 55, 63, 71, 79], 39) := by decide +kernel
theorem d_SO_told_40 : decode b_SO_told 40 = .ok (.aload_n 0, 1) := by decide +kernel
theorem d_SO_told_41 : decode b_SO_told 41 = .ok (.getfield 26, 3) := by decide +kernel
theorem d_SO_told_44 : decode b_SO_told 44 = .ok (.getfield 84, 3) := by decide +kernel
theorem d_SO_told_47 : decode b_SO_told 47 = .ok (.ireturn, 1) := by decide +kernel
theorem d_SO_told_48 : decode b_SO_told 48 = .ok (.aload_n 0, 1) := by decide +kernel
theorem d_SO_told_49 : decode b_SO_told 49 = .ok (.getfield 26, 3) := by decide +kernel
theorem d_SO_told_52 : decode b_SO_told 52 = .ok (.getfield 81, 3) := by decide +kernel
theorem d_SO_told_55 : decode b_SO_told 55 = .ok (.ireturn, 1) := by decide +kernel
theorem d_SO_told_56 : decode b_SO_told 56 = .ok (.aload_n 0, 1) := by decide +kernel
theorem d_SO_told_57 : decode b_SO_told 57 = .ok (.getfield 10, 3) := by decide +kernel
theorem d_SO_told_60 : decode b_SO_told 60 = .ok (.getfield 66, 3) := by decide +kernel
theorem d_SO_told_63 : decode b_SO_told 63 = .ok (.ireturn, 1) := by decide +kernel
theorem d_SO_told_64 : decode b_SO_told 64 = .ok (.aload_n 0, 1) := by decide +kernel
theorem d_SO_told_65 : decode b_SO_told 65 = .ok (.getfield 19, 3) := by decide +kernel
theorem d_SO_told_68 : decode b_SO_told 68 = .ok (.invokevirtual 87, 3) := by decide +kernel
theorem d_SO_told_71 : decode b_SO_told 71 = .ok (.ireturn, 1) := by decide +kernel
theorem d_SO_told_72 : decode b_SO_told 72 = .ok (.aload_n 0, 1) := by decide +kernel
theorem d_SO_told_73 : decode b_SO_told 73 = .ok (.invokevirtual 91, 3) := by decide +kernel
theorem d_SO_told_76 : decode b_SO_told 76 = .ok (.getfield 95, 3) := by decide +kernel
theorem d_SO_told_79 : decode b_SO_told 79 = .ok (.ireturn, 1) := by decide +kernel
theorem d_SO_told_80 : decode b_SO_told 80 = .ok (.aload_n 0, 1) := by decide +kernel
theorem d_SO_told_81 : decode b_SO_told 81 = .ok (.invokevirtual 91, 3) := by decide +kernel
theorem d_SO_told_84 : decode b_SO_told 84 = .ok (.invokevirtual 98, 3) := by decide +kernel
theorem d_SO_told_87 : decode b_SO_told 87 = .ok (.ireturn, 1) := by decide +kernel
theorem d_SO_told_88 : decode b_SO_told 88 = .ok (.bipush (-2), 2) := by decide +kernel
theorem d_SO_told_90 : decode b_SO_told 90 = .ok (.ireturn, 1) := by decide +kernel
theorem d_SO_number_0 : decode b_SO_number 0 = .ok (.aload_n 0, 1) := by decide +kernel
theorem d_SO_number_1 : decode b_SO_number 1 = .ok (.iload_n 1, 1) := by decide +kernel
theorem d_SO_number_2 : decode b_SO_number 2 = .ok (.invokevirtual 56, 3) := by decide +kernel
theorem d_SO_number_5 : decode b_SO_number 5 = .ok (.ifCond .eq 14, 3) := by decide +kernel
theorem d_SO_number_8 : decode b_SO_number 8 = .ok (.aload_n 0, 1) := by decide +kernel
theorem d_SO_number_9 : decode b_SO_number 9 = .ok (.invokevirtual 91, 3) := by decide +kernel
theorem d_SO_number_12 : decode b_SO_number 12 = .ok (.iload_n 1, 1) := by decide +kernel
theorem d_SO_number_13 : decode b_SO_number 13 = .ok (.invokevirtual 101, 3) := by decide +kernel
theorem d_SO_number_16 : decode b_SO_number 16 = .ok (.goto 5, 3) := by decide +kernel
theorem d_SO_number_19 : decode b_SO_number 19 = .ok (.bipush (-2), 2) := by decide +kernel
theorem d_SO_number_21 : decode b_SO_number 21 = .ok (.ireturn, 1) := by decide +kernel
theorem d_SO_element_0 : decode b_SO_element 0 = .ok (.aload_n 0, 1) := by decide +kernel
theorem d_SO_element_1 : decode b_SO_element 1 = .ok (.invokevirtual 91, 3) := by decide +kernel
theorem d_SO_element_4 : decode b_SO_element 4 = .ok (.iload_n 1, 1) := by decide +kernel
theorem d_SO_element_5 : decode b_SO_element 5 = .ok (.invokevirtual 105, 3) := by decide +kernel
theorem d_SO_element_8 : decode b_SO_element 8 = .ok (.ireturn, 1) := by decide +kernel
theorem d_SO_cycles_0 : decode b_SO_cycles 0 = .ok (.aload_n 0, 1) := by decide +kernel
theorem d_SO_cycles_1 : decode b_SO_cycles 1 = .ok (.invokevirtual 91, 3) := by decide +kernel
theorem d_SO_cycles_4 : decode b_SO_cycles 4 = .ok (.iload_n 1, 1) := by decide +kernel
theorem d_SO_cycles_5 : decode b_SO_cycles 5 = .ok (.invokevirtual 105, 3) := by decide +kernel
theorem d_SO_cycles_8 : decode b_SO_cycles 8 = .ok (.istore_n 2, 1) := by decide +kernel
theorem d_SO_cycles_9 : decode b_SO_cycles 9 = .ok (.iload_n 2, 1) := by decide +kernel
theorem d_SO_cycles_10 : decode b_SO_cycles 10 = .ok (.iconst (-1), 1) := by decide +kernel
theorem d_SO_cycles_11 : decode b_SO_cycles 11 = .ok (.if_icmp .ne 7, 3) := by decide +kernel
theorem d_SO_cycles_14 : decode b_SO_cycles 14 = .ok (.iconst (-1), 1) := by decide +kernel
theorem d_SO_cycles_15 : decode b_SO_cycles 15 = .ok (.goto 14, 3) := by decide +kernel
theorem d_SO_cycles_18 : decode b_SO_cycles 18 = .ok (.iload_n 2, 1) := by decide +kernel
theorem d_SO_cycles_19 : decode b_SO_cycles 19 = .ok (.aload_n 0, 1) := by decide +kernel
theorem d_SO_cycles_20 : decode b_SO_cycles 20 = .ok (.getfield 26, 3) := by decide +kernel
theorem d_SO_cycles_23 : decode b_SO_cycles 23 = .ok (.getfield 84, 3) := by decide +kernel
theorem d_SO_cycles_26 : decode b_SO_cycles 26 = .ok (.invokestatic 108, 3) := by decide +kernel
theorem d_SO_cycles_29 : decode b_SO_cycles 29 = .ok (.ireturn, 1) := by decide +kernel
theorem d_SO_keeps_0 : decode b_SO_keeps 0 = .ok (.aload_n 0, 1) := by decide +kernel
theorem d_SO_keeps_1 : decode b_SO_keeps 1 = .ok (.invokevirtual 91, 3) := by decide +kernel
theorem d_SO_keeps_4 : decode b_SO_keeps 4 = .ok (.iload_n 1, 1) := by decide +kernel
theorem d_SO_keeps_5 : decode b_SO_keeps 5 = .ok (.invokevirtual 105, 3) := by decide +kernel
theorem d_SO_keeps_8 : decode b_SO_keeps 8 = .ok (.istore_n 2, 1) := by decide +kernel
theorem d_SO_keeps_9 : decode b_SO_keeps 9 = .ok (.iload_n 2, 1) := by decide +kernel
theorem d_SO_keeps_10 : decode b_SO_keeps 10 = .ok (.iconst (-1), 1) := by decide +kernel
theorem d_SO_keeps_11 : decode b_SO_keeps 11 = .ok (.if_icmp .ne 7, 3) := by decide +kernel
theorem d_SO_keeps_14 : decode b_SO_keeps 14 = .ok (.iconst (-1), 1) := by decide +kernel
theorem d_SO_keeps_15 : decode b_SO_keeps 15 = .ok (.goto 24, 3) := by decide +kernel
theorem d_SO_keeps_18 : decode b_SO_keeps 18 = .ok (.aload_n 0, 1) := by decide +kernel
theorem d_SO_keeps_19 : decode b_SO_keeps 19 = .ok (.getfield 26, 3) := by decide +kernel
theorem d_SO_keeps_22 : decode b_SO_keeps 22 = .ok (.getfield 81, 3) := by decide +kernel
theorem d_SO_keeps_25 : decode b_SO_keeps 25 = .ok (.iload_n 2, 1) := by decide +kernel
theorem d_SO_keeps_26 : decode b_SO_keeps 26 = .ok (.aload_n 0, 1) := by decide +kernel
theorem d_SO_keeps_27 : decode b_SO_keeps 27 = .ok (.getfield 26, 3) := by decide +kernel
theorem d_SO_keeps_30 : decode b_SO_keeps 30 = .ok (.getfield 84, 3) := by decide +kernel
theorem d_SO_keeps_33 : decode b_SO_keeps 33 = .ok (.invokestatic 108, 3) := by decide +kernel
theorem d_SO_keeps_36 : decode b_SO_keeps 36 = .ok (.invokestatic 114, 3) := by decide +kernel
theorem d_SO_keeps_39 : decode b_SO_keeps 39 = .ok (.ireturn, 1) := by decide +kernel
theorem d_SO_keepsFit_0 : decode b_SO_keepsFit 0 = .ok (.aload_n 0, 1) := by decide +kernel
theorem d_SO_keepsFit_1 : decode b_SO_keepsFit 1 = .ok (.getfield 19, 3) := by decide +kernel
theorem d_SO_keepsFit_4 : decode b_SO_keepsFit 4 = .ok (.aload_n 0, 1) := by decide +kernel
theorem d_SO_keepsFit_5 : decode b_SO_keepsFit 5 = .ok (.getfield 10, 3) := by decide +kernel
theorem d_SO_keepsFit_8 : decode b_SO_keepsFit 8 = .ok (.invokevirtual 117, 3) := by decide +kernel
theorem d_SO_keepsFit_11 : decode b_SO_keepsFit 11 = .ok (.ifCond .ne 6, 3) := by decide +kernel
theorem d_SO_keepsFit_14 : decode b_SO_keepsFit 14 = .ok (.bipush (-3), 2) := by decide +kernel
theorem d_SO_keepsFit_16 : decode b_SO_keepsFit 16 = .ok (.ireturn, 1) := by decide +kernel
theorem d_SO_keepsFit_17 : decode b_SO_keepsFit 17 = .ok (.aload_n 0, 1) := by decide +kernel
theorem d_SO_keepsFit_18 : decode b_SO_keepsFit 18 = .ok (.invokevirtual 91, 3) := by decide +kernel
theorem d_SO_keepsFit_21 : decode b_SO_keepsFit 21 = .ok (.iload_n 1, 1) := by decide +kernel
theorem d_SO_keepsFit_22 : decode b_SO_keepsFit 22 = .ok (.invokevirtual 105, 3) := by decide +kernel
theorem d_SO_keepsFit_25 : decode b_SO_keepsFit 25 = .ok (.istore_n 2, 1) := by decide +kernel
theorem d_SO_keepsFit_26 : decode b_SO_keepsFit 26 = .ok (.iload_n 2, 1) := by decide +kernel
theorem d_SO_keepsFit_27 : decode b_SO_keepsFit 27 = .ok (.iconst (-1), 1) := by decide +kernel
theorem d_SO_keepsFit_28 : decode b_SO_keepsFit 28 = .ok (.if_icmp .ne 7, 3) := by decide +kernel
theorem d_SO_keepsFit_31 : decode b_SO_keepsFit 31 = .ok (.iconst (-1), 1) := by decide +kernel
theorem d_SO_keepsFit_32 : decode b_SO_keepsFit 32 = .ok (.goto 8, 3) := by decide +kernel
theorem d_SO_keepsFit_35 : decode b_SO_keepsFit 35 = .ok (.aload_n 0, 1) := by decide +kernel
theorem d_SO_keepsFit_36 : decode b_SO_keepsFit 36 = .ok (.iload_n 2, 1) := by decide +kernel
theorem d_SO_keepsFit_37 : decode b_SO_keepsFit 37 = .ok (.invokevirtual 121, 3) := by decide +kernel
theorem d_SO_keepsFit_40 : decode b_SO_keepsFit 40 = .ok (.ireturn, 1) := by decide +kernel
theorem d_SO_reach_0 : decode b_SO_reach 0 = .ok (.aload_n 0, 1) := by decide +kernel
theorem d_SO_reach_1 : decode b_SO_reach 1 = .ok (.iload_n 1, 1) := by decide +kernel
theorem d_SO_reach_2 : decode b_SO_reach 2 = .ok (.invokevirtual 71, 3) := by decide +kernel
theorem d_SO_reach_5 : decode b_SO_reach 5 = .ok (.ifCond .eq 14, 3) := by decide +kernel
theorem d_SO_reach_8 : decode b_SO_reach 8 = .ok (.aload_n 0, 1) := by decide +kernel
theorem d_SO_reach_9 : decode b_SO_reach 9 = .ok (.invokevirtual 91, 3) := by decide +kernel
theorem d_SO_reach_12 : decode b_SO_reach 12 = .ok (.iload_n 1, 1) := by decide +kernel
theorem d_SO_reach_13 : decode b_SO_reach 13 = .ok (.invokevirtual 124, 3) := by decide +kernel
theorem d_SO_reach_16 : decode b_SO_reach 16 = .ok (.goto 5, 3) := by decide +kernel
theorem d_SO_reach_19 : decode b_SO_reach 19 = .ok (.bipush (-2), 2) := by decide +kernel
theorem d_SO_reach_21 : decode b_SO_reach 21 = .ok (.ireturn, 1) := by decide +kernel
theorem d_SO_order_0 : decode b_SO_order 0 = .ok (.aload_n 0, 1) := by decide +kernel
theorem d_SO_order_1 : decode b_SO_order 1 = .ok (.invokevirtual 91, 3) := by decide +kernel
theorem d_SO_order_4 : decode b_SO_order 4 = .ok (.iload_n 1, 1) := by decide +kernel
theorem d_SO_order_5 : decode b_SO_order 5 = .ok (.invokevirtual 105, 3) := by decide +kernel
theorem d_SO_order_8 : decode b_SO_order 8 = .ok (.istore_n 2, 1) := by decide +kernel
theorem d_SO_order_9 : decode b_SO_order 9 = .ok (.iload_n 2, 1) := by decide +kernel
theorem d_SO_order_10 : decode b_SO_order 10 = .ok (.iconst (-1), 1) := by decide +kernel
theorem d_SO_order_11 : decode b_SO_order 11 = .ok (.if_icmp .ne 7, 3) := by decide +kernel
theorem d_SO_order_14 : decode b_SO_order 14 = .ok (.iconst (-1), 1) := by decide +kernel
theorem d_SO_order_15 : decode b_SO_order 15 = .ok (.goto 14, 3) := by decide +kernel
theorem d_SO_order_18 : decode b_SO_order 18 = .ok (.iload_n 2, 1) := by decide +kernel
theorem d_SO_order_19 : decode b_SO_order 19 = .ok (.aload_n 0, 1) := by decide +kernel
theorem d_SO_order_20 : decode b_SO_order 20 = .ok (.getfield 26, 3) := by decide +kernel
theorem d_SO_order_23 : decode b_SO_order 23 = .ok (.getfield 84, 3) := by decide +kernel
theorem d_SO_order_26 : decode b_SO_order 26 = .ok (.invokestatic 127, 3) := by decide +kernel
theorem d_SO_order_29 : decode b_SO_order 29 = .ok (.ireturn, 1) := by decide +kernel
theorem d_SO_orbits_0 : decode b_SO_orbits 0 = .ok (.aload_n 0, 1) := by decide +kernel
theorem d_SO_orbits_1 : decode b_SO_orbits 1 = .ok (.invokevirtual 130, 3) := by decide +kernel
theorem d_SO_orbits_4 : decode b_SO_orbits 4 = .ok (.getfield 134, 3) := by decide +kernel
theorem d_SO_orbits_7 : decode b_SO_orbits 7 = .ok (.ireturn, 1) := by decide +kernel
theorem d_SO_orbitsOf_0 : decode b_SO_orbitsOf 0 = .ok (.aload_n 0, 1) := by decide +kernel
theorem d_SO_orbitsOf_1 : decode b_SO_orbitsOf 1 = .ok (.iload_n 1, 1) := by decide +kernel
theorem d_SO_orbitsOf_2 : decode b_SO_orbitsOf 2 = .ok (.invokevirtual 135, 3) := by decide +kernel
theorem d_SO_orbitsOf_5 : decode b_SO_orbitsOf 5 = .ok (.ifCond .eq 19, 3) := by decide +kernel
theorem d_SO_orbitsOf_8 : decode b_SO_orbitsOf 8 = .ok (.aload_n 0, 1) := by decide +kernel
theorem d_SO_orbitsOf_9 : decode b_SO_orbitsOf 9 = .ok (.iload_n 2, 1) := by decide +kernel
theorem d_SO_orbitsOf_10 : decode b_SO_orbitsOf 10 = .ok (.invokevirtual 135, 3) := by decide +kernel
theorem d_SO_orbitsOf_13 : decode b_SO_orbitsOf 13 = .ok (.ifCond .eq 11, 3) := by decide +kernel
theorem d_SO_orbitsOf_16 : decode b_SO_orbitsOf 16 = .ok (.aload_n 0, 1) := by decide +kernel
theorem d_SO_orbitsOf_17 : decode b_SO_orbitsOf 17 = .ok (.iload_n 3, 1) := by decide +kernel
theorem d_SO_orbitsOf_18 : decode b_SO_orbitsOf 18 = .ok (.invokevirtual 135, 3) := by decide +kernel
theorem d_SO_orbitsOf_21 : decode b_SO_orbitsOf 21 = .ok (.ifCond .ne 6, 3) := by decide +kernel
theorem d_SO_orbitsOf_24 : decode b_SO_orbitsOf 24 = .ok (.bipush (-2), 2) := by decide +kernel
theorem d_SO_orbitsOf_26 : decode b_SO_orbitsOf 26 = .ok (.ireturn, 1) := by decide +kernel
theorem d_SO_orbitsOf_27 : decode b_SO_orbitsOf 27 = .ok (.aload_n 0, 1) := by decide +kernel
theorem d_SO_orbitsOf_28 : decode b_SO_orbitsOf 28 = .ok (.getfield 26, 3) := by decide +kernel
theorem d_SO_orbitsOf_31 : decode b_SO_orbitsOf 31 = .ok (.getfield 84, 3) := by decide +kernel
theorem d_SO_orbitsOf_34 : decode b_SO_orbitsOf 34 = .ok (.iload_n 1, 1) := by decide +kernel
theorem d_SO_orbitsOf_35 : decode b_SO_orbitsOf 35 = .ok (.isub, 1) := by decide +kernel
theorem d_SO_orbitsOf_36 : decode b_SO_orbitsOf 36 = .ok (.iload_n 2, 1) := by decide +kernel
theorem d_SO_orbitsOf_37 : decode b_SO_orbitsOf 37 = .ok (.isub, 1) := by decide +kernel
theorem d_SO_orbitsOf_38 : decode b_SO_orbitsOf 38 = .ok (.iload_n 3, 1) := by decide +kernel
theorem d_SO_orbitsOf_39 : decode b_SO_orbitsOf 39 = .ok (.isub, 1) := by decide +kernel
theorem d_SO_orbitsOf_40 : decode b_SO_orbitsOf 40 = .ok (.istore 4, 2) := by decide +kernel
theorem d_SO_orbitsOf_42 : decode b_SO_orbitsOf 42 = .ok (.iload 4, 2) := by decide +kernel
theorem d_SO_orbitsOf_44 : decode b_SO_orbitsOf 44 = .ok (.ifCond .lt 31, 3) := by decide +kernel
theorem d_SO_orbitsOf_47 : decode b_SO_orbitsOf 47 = .ok (.aload_n 0, 1) := by decide +kernel
theorem d_SO_orbitsOf_48 : decode b_SO_orbitsOf 48 = .ok (.iconst 1, 1) := by decide +kernel
theorem d_SO_orbitsOf_49 : decode b_SO_orbitsOf 49 = .ok (.iload_n 2, 1) := by decide +kernel
theorem d_SO_orbitsOf_50 : decode b_SO_orbitsOf 50 = .ok (.invokevirtual 138, 3) := by decide +kernel
theorem d_SO_orbitsOf_53 : decode b_SO_orbitsOf 53 = .ok (.ifCond .eq 22, 3) := by decide +kernel
theorem d_SO_orbitsOf_56 : decode b_SO_orbitsOf 56 = .ok (.aload_n 0, 1) := by decide +kernel
theorem d_SO_orbitsOf_57 : decode b_SO_orbitsOf 57 = .ok (.iconst 2, 1) := by decide +kernel
theorem d_SO_orbitsOf_58 : decode b_SO_orbitsOf 58 = .ok (.iload_n 3, 1) := by decide +kernel
theorem d_SO_orbitsOf_59 : decode b_SO_orbitsOf 59 = .ok (.invokevirtual 138, 3) := by decide +kernel
theorem d_SO_orbitsOf_62 : decode b_SO_orbitsOf 62 = .ok (.ifCond .eq 13, 3) := by decide +kernel
theorem d_SO_orbitsOf_65 : decode b_SO_orbitsOf 65 = .ok (.aload_n 0, 1) := by decide +kernel
theorem d_SO_orbitsOf_66 : decode b_SO_orbitsOf 66 = .ok (.iconst 3, 1) := by decide +kernel
theorem d_SO_orbitsOf_67 : decode b_SO_orbitsOf 67 = .ok (.iload 4, 2) := by decide +kernel
theorem d_SO_orbitsOf_69 : decode b_SO_orbitsOf 69 = .ok (.invokevirtual 138, 3) := by decide +kernel
theorem d_SO_orbitsOf_72 : decode b_SO_orbitsOf 72 = .ok (.ifCond .ne 6, 3) := by decide +kernel
theorem d_SO_orbitsOf_75 : decode b_SO_orbitsOf 75 = .ok (.bipush (-2), 2) := by decide +kernel
theorem d_SO_orbitsOf_77 : decode b_SO_orbitsOf 77 = .ok (.ireturn, 1) := by decide +kernel
theorem d_SO_orbitsOf_78 : decode b_SO_orbitsOf 78 = .ok (.aload_n 0, 1) := by decide +kernel
theorem d_SO_orbitsOf_79 : decode b_SO_orbitsOf 79 = .ok (.iload_n 1, 1) := by decide +kernel
theorem d_SO_orbitsOf_80 : decode b_SO_orbitsOf 80 = .ok (.iload_n 2, 1) := by decide +kernel
theorem d_SO_orbitsOf_81 : decode b_SO_orbitsOf 81 = .ok (.iload_n 3, 1) := by decide +kernel
theorem d_SO_orbitsOf_82 : decode b_SO_orbitsOf 82 = .ok (.iload 4, 2) := by decide +kernel
theorem d_SO_orbitsOf_84 : decode b_SO_orbitsOf 84 = .ok (.invokestatic 141, 3) := by decide +kernel
theorem d_SO_orbitsOf_87 : decode b_SO_orbitsOf 87 = .ok (.invokevirtual 145, 3) := by decide +kernel
theorem d_SO_orbitsOf_90 : decode b_SO_orbitsOf 90 = .ok (.ireturn, 1) := by decide +kernel
theorem d_SO_fits_0 : decode b_SO_fits 0 = .ok (.aload_n 0, 1) := by decide +kernel
theorem d_SO_fits_1 : decode b_SO_fits 1 = .ok (.getfield 19, 3) := by decide +kernel
theorem d_SO_fits_4 : decode b_SO_fits 4 = .ok (.aload_n 0, 1) := by decide +kernel
theorem d_SO_fits_5 : decode b_SO_fits 5 = .ok (.getfield 10, 3) := by decide +kernel
theorem d_SO_fits_8 : decode b_SO_fits 8 = .ok (.invokevirtual 117, 3) := by decide +kernel
theorem d_SO_fits_11 : decode b_SO_fits 11 = .ok (.ifCond .eq 10, 3) := by decide +kernel
theorem d_SO_fits_14 : decode b_SO_fits 14 = .ok (.aload_n 0, 1) := by decide +kernel
theorem d_SO_fits_15 : decode b_SO_fits 15 = .ok (.invokevirtual 148, 3) := by decide +kernel
theorem d_SO_fits_18 : decode b_SO_fits 18 = .ok (.goto 5, 3) := by decide +kernel
theorem d_SO_fits_21 : decode b_SO_fits 21 = .ok (.bipush (-3), 2) := by decide +kernel
theorem d_SO_fits_23 : decode b_SO_fits 23 = .ok (.ireturn, 1) := by decide +kernel
theorem d_SO_full_0 : decode b_SO_full 0 = .ok (.aload_n 0, 1) := by decide +kernel
theorem d_SO_full_1 : decode b_SO_full 1 = .ok (.invokevirtual 130, 3) := by decide +kernel
theorem d_SO_full_4 : decode b_SO_full 4 = .ok (.aload_n 0, 1) := by decide +kernel
theorem d_SO_full_5 : decode b_SO_full 5 = .ok (.invokevirtual 91, 3) := by decide +kernel
theorem d_SO_full_8 : decode b_SO_full 8 = .ok (.getfield 95, 3) := by decide +kernel
theorem d_SO_full_11 : decode b_SO_full 11 = .ok (.invokevirtual 151, 3) := by decide +kernel
theorem d_SO_full_14 : decode b_SO_full 14 = .ok (.ireturn, 1) := by decide +kernel
theorem d_SO_sum_0 : decode b_SO_sum 0 = .ok (.aload_n 0, 1) := by decide +kernel
theorem d_SO_sum_1 : decode b_SO_sum 1 = .ok (.invokevirtual 130, 3) := by decide +kernel
theorem d_SO_sum_4 : decode b_SO_sum 4 = .ok (.astore_n 1, 1) := by decide +kernel
theorem d_SO_sum_5 : decode b_SO_sum 5 = .ok (.lconst 0, 1) := by decide +kernel
theorem d_SO_sum_6 : decode b_SO_sum 6 = .ok (.lstore_n 2, 1) := by decide +kernel
theorem d_SO_sum_7 : decode b_SO_sum 7 = .ok (.iconst 0, 1) := by decide +kernel
theorem d_SO_sum_8 : decode b_SO_sum 8 = .ok (.istore 4, 2) := by decide +kernel
theorem d_SO_sum_10 : decode b_SO_sum 10 = .ok (.iload 4, 2) := by decide +kernel
theorem d_SO_sum_12 : decode b_SO_sum 12 = .ok (.aload_n 1, 1) := by decide +kernel
theorem d_SO_sum_13 : decode b_SO_sum 13 = .ok (.getfield 134, 3) := by decide +kernel
theorem d_SO_sum_16 : decode b_SO_sum 16 = .ok (.if_icmp .ge 36, 3) := by decide +kernel
theorem d_SO_sum_19 : decode b_SO_sum 19 = .ok (.lload_n 2, 1) := by decide +kernel
theorem d_SO_sum_20 : decode b_SO_sum 20 = .ok (.aload_n 0, 1) := by decide +kernel
theorem d_SO_sum_21 : decode b_SO_sum 21 = .ok (.getfield 26, 3) := by decide +kernel
theorem d_SO_sum_24 : decode b_SO_sum 24 = .ok (.aload_n 0, 1) := by decide +kernel
theorem d_SO_sum_25 : decode b_SO_sum 25 = .ok (.getfield 26, 3) := by decide +kernel
theorem d_SO_sum_28 : decode b_SO_sum 28 = .ok (.aload_n 1, 1) := by decide +kernel
theorem d_SO_sum_29 : decode b_SO_sum 29 = .ok (.iload 4, 2) := by decide +kernel
theorem d_SO_sum_31 : decode b_SO_sum 31 = .ok (.invokevirtual 154, 3) := by decide +kernel
theorem d_SO_sum_34 : decode b_SO_sum 34 = .ok (.invokevirtual 157, 3) := by decide +kernel
theorem d_SO_sum_37 : decode b_SO_sum 37 = .ok (.aload_n 0, 1) := by decide +kernel
theorem d_SO_sum_38 : decode b_SO_sum 38 = .ok (.getfield 30, 3) := by decide +kernel
theorem d_SO_sum_41 : decode b_SO_sum 41 = .ok (.invokevirtual 160, 3) := by decide +kernel
theorem d_SO_sum_44 : decode b_SO_sum 44 = .ok (.ladd, 1) := by decide +kernel
theorem d_SO_sum_45 : decode b_SO_sum 45 = .ok (.lstore_n 2, 1) := by decide +kernel
theorem d_SO_sum_46 : decode b_SO_sum 46 = .ok (.iinc 4 1, 3) := by decide +kernel
theorem d_SO_sum_49 : decode b_SO_sum 49 = .ok (.goto (-39), 3) := by decide +kernel
theorem d_SO_sum_52 : decode b_SO_sum 52 = .ok (.lload_n 2, 1) := by decide +kernel
theorem d_SO_sum_53 : decode b_SO_sum 53 = .ok (.lreturn, 1) := by decide +kernel
theorem d_SO_head_0 : decode b_SO_head 0 = .ok (.aload_n 0, 1) := by decide +kernel
theorem d_SO_head_1 : decode b_SO_head 1 = .ok (.getfield 26, 3) := by decide +kernel
theorem d_SO_head_4 : decode b_SO_head 4 = .ok (.iload_n 1, 1) := by decide +kernel
theorem d_SO_head_5 : decode b_SO_head 5 = .ok (.invokevirtual 164, 3) := by decide +kernel
theorem d_SO_head_8 : decode b_SO_head 8 = .ok (.ifCond .ne 6, 3) := by decide +kernel
theorem d_SO_head_11 : decode b_SO_head 11 = .ok (.bipush (-2), 2) := by decide +kernel
theorem d_SO_head_13 : decode b_SO_head 13 = .ok (.ireturn, 1) := by decide +kernel
theorem d_SO_head_14 : decode b_SO_head 14 = .ok (.aload_n 0, 1) := by decide +kernel
theorem d_SO_head_15 : decode b_SO_head 15 = .ok (.invokevirtual 130, 3) := by decide +kernel
theorem d_SO_head_18 : decode b_SO_head 18 = .ok (.astore_n 2, 1) := by decide +kernel
theorem d_SO_head_19 : decode b_SO_head 19 = .ok (.aload_n 2, 1) := by decide +kernel
theorem d_SO_head_20 : decode b_SO_head 20 = .ok (.aload_n 2, 1) := by decide +kernel
theorem d_SO_head_21 : decode b_SO_head 21 = .ok (.iload_n 1, 1) := by decide +kernel
theorem d_SO_head_22 : decode b_SO_head 22 = .ok (.invokevirtual 167, 3) := by decide +kernel
theorem d_SO_head_25 : decode b_SO_head 25 = .ok (.invokevirtual 154, 3) := by decide +kernel
theorem d_SO_head_28 : decode b_SO_head 28 = .ok (.ireturn, 1) := by decide +kernel
theorem d_SO_mates_0 : decode b_SO_mates 0 = .ok (.aload_n 0, 1) := by decide +kernel
theorem d_SO_mates_1 : decode b_SO_mates 1 = .ok (.getfield 26, 3) := by decide +kernel
theorem d_SO_mates_4 : decode b_SO_mates 4 = .ok (.iload_n 1, 1) := by decide +kernel
theorem d_SO_mates_5 : decode b_SO_mates 5 = .ok (.invokevirtual 164, 3) := by decide +kernel
theorem d_SO_mates_8 : decode b_SO_mates 8 = .ok (.ifCond .ne 6, 3) := by decide +kernel
theorem d_SO_mates_11 : decode b_SO_mates 11 = .ok (.bipush (-2), 2) := by decide +kernel
theorem d_SO_mates_13 : decode b_SO_mates 13 = .ok (.ireturn, 1) := by decide +kernel
theorem d_SO_mates_14 : decode b_SO_mates 14 = .ok (.aload_n 0, 1) := by decide +kernel
theorem d_SO_mates_15 : decode b_SO_mates 15 = .ok (.invokevirtual 130, 3) := by decide +kernel
theorem d_SO_mates_18 : decode b_SO_mates 18 = .ok (.astore_n 2, 1) := by decide +kernel
theorem d_SO_mates_19 : decode b_SO_mates 19 = .ok (.aload_n 2, 1) := by decide +kernel
theorem d_SO_mates_20 : decode b_SO_mates 20 = .ok (.aload_n 2, 1) := by decide +kernel
theorem d_SO_mates_21 : decode b_SO_mates 21 = .ok (.iload_n 1, 1) := by decide +kernel
theorem d_SO_mates_22 : decode b_SO_mates 22 = .ok (.invokevirtual 167, 3) := by decide +kernel
theorem d_SO_mates_25 : decode b_SO_mates 25 = .ok (.invokevirtual 170, 3) := by decide +kernel
theorem d_SO_mates_28 : decode b_SO_mates 28 = .ok (.ireturn, 1) := by decide +kernel
theorem d_SO_rank_0 : decode b_SO_rank 0 = .ok (.aload_n 0, 1) := by decide +kernel
theorem d_SO_rank_1 : decode b_SO_rank 1 = .ok (.getfield 26, 3) := by decide +kernel
theorem d_SO_rank_4 : decode b_SO_rank 4 = .ok (.iload_n 1, 1) := by decide +kernel
theorem d_SO_rank_5 : decode b_SO_rank 5 = .ok (.invokevirtual 164, 3) := by decide +kernel
theorem d_SO_rank_8 : decode b_SO_rank 8 = .ok (.ifCond .eq 14, 3) := by decide +kernel
theorem d_SO_rank_11 : decode b_SO_rank 11 = .ok (.aload_n 0, 1) := by decide +kernel
theorem d_SO_rank_12 : decode b_SO_rank 12 = .ok (.invokevirtual 130, 3) := by decide +kernel
theorem d_SO_rank_15 : decode b_SO_rank 15 = .ok (.iload_n 1, 1) := by decide +kernel
theorem d_SO_rank_16 : decode b_SO_rank 16 = .ok (.invokevirtual 167, 3) := by decide +kernel
theorem d_SO_rank_19 : decode b_SO_rank 19 = .ok (.goto 5, 3) := by decide +kernel
theorem d_SO_rank_22 : decode b_SO_rank 22 = .ok (.bipush (-2), 2) := by decide +kernel
theorem d_SO_rank_24 : decode b_SO_rank 24 = .ok (.ireturn, 1) := by decide +kernel
theorem d_SO_nth_0 : decode b_SO_nth 0 = .ok (.aload_n 0, 1) := by decide +kernel
theorem d_SO_nth_1 : decode b_SO_nth 1 = .ok (.invokevirtual 130, 3) := by decide +kernel
theorem d_SO_nth_4 : decode b_SO_nth 4 = .ok (.iload_n 1, 1) := by decide +kernel
theorem d_SO_nth_5 : decode b_SO_nth 5 = .ok (.invokevirtual 154, 3) := by decide +kernel
theorem d_SO_nth_8 : decode b_SO_nth 8 = .ok (.ireturn, 1) := by decide +kernel
theorem d_SO_by_0 : decode b_SO_by 0 = .ok (.aload_n 0, 1) := by decide +kernel
theorem d_SO_by_1 : decode b_SO_by 1 = .ok (.getfield 26, 3) := by decide +kernel
theorem d_SO_by_4 : decode b_SO_by 4 = .ok (.iload_n 1, 1) := by decide +kernel
theorem d_SO_by_5 : decode b_SO_by 5 = .ok (.invokevirtual 164, 3) := by decide +kernel
theorem d_SO_by_8 : decode b_SO_by 8 = .ok (.ifCond .eq 14, 3) := by decide +kernel
theorem d_SO_by_11 : decode b_SO_by 11 = .ok (.aload_n 0, 1) := by decide +kernel
theorem d_SO_by_12 : decode b_SO_by 12 = .ok (.getfield 26, 3) := by decide +kernel
theorem d_SO_by_15 : decode b_SO_by 15 = .ok (.iload_n 2, 1) := by decide +kernel
theorem d_SO_by_16 : decode b_SO_by 16 = .ok (.invokevirtual 164, 3) := by decide +kernel
theorem d_SO_by_19 : decode b_SO_by 19 = .ok (.ifCond .ne 6, 3) := by decide +kernel
theorem d_SO_by_22 : decode b_SO_by 22 = .ok (.bipush (-2), 2) := by decide +kernel
theorem d_SO_by_24 : decode b_SO_by 24 = .ok (.ireturn, 1) := by decide +kernel
theorem d_SO_by_25 : decode b_SO_by 25 = .ok (.aload_n 0, 1) := by decide +kernel
theorem d_SO_by_26 : decode b_SO_by 26 = .ok (.invokevirtual 91, 3) := by decide +kernel
theorem d_SO_by_29 : decode b_SO_by 29 = .ok (.astore_n 3, 1) := by decide +kernel
theorem d_SO_by_30 : decode b_SO_by 30 = .ok (.aload_n 0, 1) := by decide +kernel
theorem d_SO_by_31 : decode b_SO_by 31 = .ok (.getfield 26, 3) := by decide +kernel
theorem d_SO_by_34 : decode b_SO_by 34 = .ok (.iload_n 1, 1) := by decide +kernel
theorem d_SO_by_35 : decode b_SO_by 35 = .ok (.invokevirtual 157, 3) := by decide +kernel
theorem d_SO_by_38 : decode b_SO_by 38 = .ok (.istore 4, 2) := by decide +kernel
theorem d_SO_by_40 : decode b_SO_by 40 = .ok (.iconst 0, 1) := by decide +kernel
theorem d_SO_by_41 : decode b_SO_by 41 = .ok (.istore 5, 2) := by decide +kernel
theorem d_SO_by_43 : decode b_SO_by 43 = .ok (.iload 5, 2) := by decide +kernel
theorem d_SO_by_45 : decode b_SO_by 45 = .ok (.aload_n 3, 1) := by decide +kernel
theorem d_SO_by_46 : decode b_SO_by 46 = .ok (.getfield 95, 3) := by decide +kernel
theorem d_SO_by_49 : decode b_SO_by 49 = .ok (.if_icmp .ge 31, 3) := by decide +kernel
theorem d_SO_by_52 : decode b_SO_by 52 = .ok (.aload_n 0, 1) := by decide +kernel
theorem d_SO_by_53 : decode b_SO_by 53 = .ok (.getfield 26, 3) := by decide +kernel
theorem d_SO_by_56 : decode b_SO_by 56 = .ok (.iload 4, 2) := by decide +kernel
theorem d_SO_by_58 : decode b_SO_by 58 = .ok (.aload_n 3, 1) := by decide +kernel
theorem d_SO_by_59 : decode b_SO_by 59 = .ok (.iload 5, 2) := by decide +kernel
theorem d_SO_by_61 : decode b_SO_by 61 = .ok (.invokevirtual 105, 3) := by decide +kernel
theorem d_SO_by_64 : decode b_SO_by 64 = .ok (.invokevirtual 173, 3) := by decide +kernel
theorem d_SO_by_67 : decode b_SO_by 67 = .ok (.iload_n 2, 1) := by decide +kernel
theorem d_SO_by_68 : decode b_SO_by 68 = .ok (.if_icmp .ne 6, 3) := by decide +kernel
theorem d_SO_by_71 : decode b_SO_by 71 = .ok (.iload 5, 2) := by decide +kernel
theorem d_SO_by_73 : decode b_SO_by 73 = .ok (.ireturn, 1) := by decide +kernel
theorem d_SO_by_74 : decode b_SO_by 74 = .ok (.iinc 5 1, 3) := by decide +kernel
theorem d_SO_by_77 : decode b_SO_by 77 = .ok (.goto (-34), 3) := by decide +kernel
theorem d_SO_by_80 : decode b_SO_by 80 = .ok (.iconst (-1), 1) := by decide +kernel
theorem d_SO_by_81 : decode b_SO_by 81 = .ok (.ireturn, 1) := by decide +kernel
theorem d_SO_fit_0 : decode b_SO_fit 0 = .ok (.aload_n 0, 1) := by decide +kernel
theorem d_SO_fit_1 : decode b_SO_fit 1 = .ok (.getfield 26, 3) := by decide +kernel
theorem d_SO_fit_4 : decode b_SO_fit 4 = .ok (.iload_n 1, 1) := by decide +kernel
theorem d_SO_fit_5 : decode b_SO_fit 5 = .ok (.invokevirtual 164, 3) := by decide +kernel
theorem d_SO_fit_8 : decode b_SO_fit 8 = .ok (.ifCond .ne 6, 3) := by decide +kernel
theorem d_SO_fit_11 : decode b_SO_fit 11 = .ok (.bipush (-2), 2) := by decide +kernel
theorem d_SO_fit_13 : decode b_SO_fit 13 = .ok (.ireturn, 1) := by decide +kernel
theorem d_SO_fit_14 : decode b_SO_fit 14 = .ok (.aload_n 0, 1) := by decide +kernel
theorem d_SO_fit_15 : decode b_SO_fit 15 = .ok (.getfield 19, 3) := by decide +kernel
theorem d_SO_fit_18 : decode b_SO_fit 18 = .ok (.aload_n 0, 1) := by decide +kernel
theorem d_SO_fit_19 : decode b_SO_fit 19 = .ok (.getfield 26, 3) := by decide +kernel
theorem d_SO_fit_22 : decode b_SO_fit 22 = .ok (.iload_n 1, 1) := by decide +kernel
theorem d_SO_fit_23 : decode b_SO_fit 23 = .ok (.invokevirtual 157, 3) := by decide +kernel
theorem d_SO_fit_26 : decode b_SO_fit 26 = .ok (.invokevirtual 176, 3) := by decide +kernel
theorem d_SO_fit_29 : decode b_SO_fit 29 = .ok (.ifCond .eq 7, 3) := by decide +kernel
theorem d_SO_fit_32 : decode b_SO_fit 32 = .ok (.iconst 1, 1) := by decide +kernel
theorem d_SO_fit_33 : decode b_SO_fit 33 = .ok (.goto 4, 3) := by decide +kernel
theorem d_SO_fit_36 : decode b_SO_fit 36 = .ok (.iconst 0, 1) := by decide +kernel
theorem d_SO_fit_37 : decode b_SO_fit 37 = .ok (.ireturn, 1) := by decide +kernel
theorem d_SO_made_0 : decode b_SO_made 0 = .ok (.aload_n 0, 1) := by decide +kernel
theorem d_SO_made_1 : decode b_SO_made 1 = .ok (.getfield 26, 3) := by decide +kernel
theorem d_SO_made_4 : decode b_SO_made 4 = .ok (.iload_n 1, 1) := by decide +kernel
theorem d_SO_made_5 : decode b_SO_made 5 = .ok (.invokevirtual 164, 3) := by decide +kernel
theorem d_SO_made_8 : decode b_SO_made 8 = .ok (.ifCond .eq 11, 3) := by decide +kernel
theorem d_SO_made_11 : decode b_SO_made 11 = .ok (.aload_n 0, 1) := by decide +kernel
theorem d_SO_made_12 : decode b_SO_made 12 = .ok (.iload_n 2, 1) := by decide +kernel
theorem d_SO_made_13 : decode b_SO_made 13 = .ok (.invokevirtual 56, 3) := by decide +kernel
theorem d_SO_made_16 : decode b_SO_made 16 = .ok (.ifCond .ne 6, 3) := by decide +kernel
theorem d_SO_made_19 : decode b_SO_made 19 = .ok (.bipush (-2), 2) := by decide +kernel
theorem d_SO_made_21 : decode b_SO_made 21 = .ok (.ireturn, 1) := by decide +kernel
theorem d_SO_made_22 : decode b_SO_made 22 = .ok (.aload_n 0, 1) := by decide +kernel
theorem d_SO_made_23 : decode b_SO_made 23 = .ok (.getfield 26, 3) := by decide +kernel
theorem d_SO_made_26 : decode b_SO_made 26 = .ok (.aload_n 0, 1) := by decide +kernel
theorem d_SO_made_27 : decode b_SO_made 27 = .ok (.getfield 26, 3) := by decide +kernel
theorem d_SO_made_30 : decode b_SO_made 30 = .ok (.iload_n 1, 1) := by decide +kernel
theorem d_SO_made_31 : decode b_SO_made 31 = .ok (.invokevirtual 157, 3) := by decide +kernel
theorem d_SO_made_34 : decode b_SO_made 34 = .ok (.iload_n 2, 1) := by decide +kernel
theorem d_SO_made_35 : decode b_SO_made 35 = .ok (.invokevirtual 173, 3) := by decide +kernel
theorem d_SO_made_38 : decode b_SO_made 38 = .ok (.ireturn, 1) := by decide +kernel
theorem d_SO_begin_0 : decode b_SO_begin 0 = .ok (.aload_n 0, 1) := by decide +kernel
theorem d_SO_begin_1 : decode b_SO_begin 1 = .ok (.getfield 26, 3) := by decide +kernel
theorem d_SO_begin_4 : decode b_SO_begin 4 = .ok (.iload_n 1, 1) := by decide +kernel
theorem d_SO_begin_5 : decode b_SO_begin 5 = .ok (.iload_n 2, 1) := by decide +kernel
theorem d_SO_begin_6 : decode b_SO_begin 6 = .ok (.invokevirtual 179, 3) := by decide +kernel
theorem d_SO_begin_9 : decode b_SO_begin 9 = .ok (.aload_n 0, 1) := by decide +kernel
theorem d_SO_begin_10 : decode b_SO_begin 10 = .ok (.getfield 10, 3) := by decide +kernel
theorem d_SO_begin_13 : decode b_SO_begin 13 = .ok (.invokevirtual 182, 3) := by decide +kernel
theorem d_SO_begin_16 : decode b_SO_begin 16 = .ok (.aload_n 0, 1) := by decide +kernel
theorem d_SO_begin_17 : decode b_SO_begin 17 = .ok (.getfield 19, 3) := by decide +kernel
theorem d_SO_begin_20 : decode b_SO_begin 20 = .ok (.invokevirtual 185, 3) := by decide +kernel
theorem d_SO_begin_23 : decode b_SO_begin 23 = .ok (.aload_n 0, 1) := by decide +kernel
theorem d_SO_begin_24 : decode b_SO_begin 24 = .ok (.getfield 30, 3) := by decide +kernel
theorem d_SO_begin_27 : decode b_SO_begin 27 = .ok (.iconst 1, 1) := by decide +kernel
theorem d_SO_begin_28 : decode b_SO_begin 28 = .ok (.invokestatic 186, 3) := by decide +kernel
theorem d_SO_begin_31 : decode b_SO_begin 31 = .ok (.aload_n 0, 1) := by decide +kernel
theorem d_SO_begin_32 : decode b_SO_begin 32 = .ok (.invokevirtual 63, 3) := by decide +kernel
theorem d_SO_begin_35 : decode b_SO_begin 35 = .ok (.return_, 1) := by decide +kernel
theorem d_SO_forgetGroup_0 : decode b_SO_forgetGroup 0 = .ok (.aload_n 0, 1) := by decide +kernel
theorem d_SO_forgetGroup_1 : decode b_SO_forgetGroup 1 = .ok (.iconst 0, 1) := by decide +kernel
theorem d_SO_forgetGroup_2 : decode b_SO_forgetGroup 2 = .ok (.putfield 192, 3) := by decide +kernel
theorem d_SO_forgetGroup_5 : decode b_SO_forgetGroup 5 = .ok (.aload_n 0, 1) := by decide +kernel
theorem d_SO_forgetGroup_6 : decode b_SO_forgetGroup 6 = .ok (.iconst 0, 1) := by decide +kernel
theorem d_SO_forgetGroup_7 : decode b_SO_forgetGroup 7 = .ok (.putfield 196, 3) := by decide +kernel
theorem d_SO_forgetGroup_10 : decode b_SO_forgetGroup 10 = .ok (.return_, 1) := by decide +kernel
theorem d_SO_knownGroup_0 : decode b_SO_knownGroup 0 = .ok (.aload_n 0, 1) := by decide +kernel
theorem d_SO_knownGroup_1 : decode b_SO_knownGroup 1 = .ok (.getfield 192, 3) := by decide +kernel
theorem d_SO_knownGroup_4 : decode b_SO_knownGroup 4 = .ok (.ifCond .ne 26, 3) := by decide +kernel
theorem d_SO_knownGroup_7 : decode b_SO_knownGroup 7 = .ok (.aload_n 0, 1) := by decide +kernel
theorem d_SO_knownGroup_8 : decode b_SO_knownGroup 8 = .ok (.getfield 37, 3) := by decide +kernel
theorem d_SO_knownGroup_11 : decode b_SO_knownGroup 11 = .ok (.aload_n 0, 1) := by decide +kernel
theorem d_SO_knownGroup_12 : decode b_SO_knownGroup 12 = .ok (.getfield 26, 3) := by decide +kernel
theorem d_SO_knownGroup_15 : decode b_SO_knownGroup 15 = .ok (.getfield 84, 3) := by decide +kernel
theorem d_SO_knownGroup_18 : decode b_SO_knownGroup 18 = .ok (.aload_n 0, 1) := by decide +kernel
theorem d_SO_knownGroup_19 : decode b_SO_knownGroup 19 = .ok (.getfield 10, 3) := by decide +kernel
theorem d_SO_knownGroup_22 : decode b_SO_knownGroup 22 = .ok (.invokevirtual 199, 3) := by decide +kernel
theorem d_SO_knownGroup_25 : decode b_SO_knownGroup 25 = .ok (.aload_n 0, 1) := by decide +kernel
theorem d_SO_knownGroup_26 : decode b_SO_knownGroup 26 = .ok (.iconst 1, 1) := by decide +kernel
theorem d_SO_knownGroup_27 : decode b_SO_knownGroup 27 = .ok (.putfield 192, 3) := by decide +kernel
theorem d_SO_knownGroup_30 : decode b_SO_knownGroup 30 = .ok (.aload_n 0, 1) := by decide +kernel
theorem d_SO_knownGroup_31 : decode b_SO_knownGroup 31 = .ok (.getfield 37, 3) := by decide +kernel
theorem d_SO_knownGroup_34 : decode b_SO_knownGroup 34 = .ok (.areturn, 1) := by decide +kernel
theorem d_SO_knownTable_0 : decode b_SO_knownTable 0 = .ok (.aload_n 0, 1) := by decide +kernel
theorem d_SO_knownTable_1 : decode b_SO_knownTable 1 = .ok (.getfield 196, 3) := by decide +kernel
theorem d_SO_knownTable_4 : decode b_SO_knownTable 4 = .ok (.ifCond .ne 23, 3) := by decide +kernel
theorem d_SO_knownTable_7 : decode b_SO_knownTable 7 = .ok (.aload_n 0, 1) := by decide +kernel
theorem d_SO_knownTable_8 : decode b_SO_knownTable 8 = .ok (.getfield 44, 3) := by decide +kernel
theorem d_SO_knownTable_11 : decode b_SO_knownTable 11 = .ok (.aload_n 0, 1) := by decide +kernel
theorem d_SO_knownTable_12 : decode b_SO_knownTable 12 = .ok (.getfield 26, 3) := by decide +kernel
theorem d_SO_knownTable_15 : decode b_SO_knownTable 15 = .ok (.aload_n 0, 1) := by decide +kernel
theorem d_SO_knownTable_16 : decode b_SO_knownTable 16 = .ok (.getfield 10, 3) := by decide +kernel
theorem d_SO_knownTable_19 : decode b_SO_knownTable 19 = .ok (.invokevirtual 203, 3) := by decide +kernel
theorem d_SO_knownTable_22 : decode b_SO_knownTable 22 = .ok (.aload_n 0, 1) := by decide +kernel
theorem d_SO_knownTable_23 : decode b_SO_knownTable 23 = .ok (.iconst 1, 1) := by decide +kernel
theorem d_SO_knownTable_24 : decode b_SO_knownTable 24 = .ok (.putfield 196, 3) := by decide +kernel
theorem d_SO_knownTable_27 : decode b_SO_knownTable 27 = .ok (.aload_n 0, 1) := by decide +kernel
theorem d_SO_knownTable_28 : decode b_SO_knownTable 28 = .ok (.getfield 44, 3) := by decide +kernel
theorem d_SO_knownTable_31 : decode b_SO_knownTable 31 = .ok (.areturn, 1) := by decide +kernel
theorem d_SO_isPoint_0 : decode b_SO_isPoint 0 = .ok (.iload_n 1, 1) := by decide +kernel
theorem d_SO_isPoint_1 : decode b_SO_isPoint 1 = .ok (.ifCond .lt 18, 3) := by decide +kernel
theorem d_SO_isPoint_4 : decode b_SO_isPoint 4 = .ok (.iload_n 1, 1) := by decide +kernel
theorem d_SO_isPoint_5 : decode b_SO_isPoint 5 = .ok (.aload_n 0, 1) := by decide +kernel
theorem d_SO_isPoint_6 : decode b_SO_isPoint 6 = .ok (.getfield 26, 3) := by decide +kernel
theorem d_SO_isPoint_9 : decode b_SO_isPoint 9 = .ok (.getfield 84, 3) := by decide +kernel
theorem d_SO_isPoint_12 : decode b_SO_isPoint 12 = .ok (.if_icmp .ge 7, 3) := by decide +kernel
theorem d_SO_isPoint_15 : decode b_SO_isPoint 15 = .ok (.iconst 1, 1) := by decide +kernel
theorem d_SO_isPoint_16 : decode b_SO_isPoint 16 = .ok (.goto 4, 3) := by decide +kernel
theorem d_SO_isPoint_19 : decode b_SO_isPoint 19 = .ok (.iconst 0, 1) := by decide +kernel
theorem d_SO_isPoint_20 : decode b_SO_isPoint 20 = .ok (.ireturn, 1) := by decide +kernel
theorem d_SO_isRow_0 : decode b_SO_isRow 0 = .ok (.iload_n 1, 1) := by decide +kernel
theorem d_SO_isRow_1 : decode b_SO_isRow 1 = .ok (.aload_n 0, 1) := by decide +kernel
theorem d_SO_isRow_2 : decode b_SO_isRow 2 = .ok (.getfield 26, 3) := by decide +kernel
theorem d_SO_isRow_5 : decode b_SO_isRow 5 = .ok (.getfield 84, 3) := by decide +kernel
theorem d_SO_isRow_8 : decode b_SO_isRow 8 = .ok (.invokestatic 207, 3) := by decide +kernel
theorem d_SO_isRow_11 : decode b_SO_isRow 11 = .ok (.ireturn, 1) := by decide +kernel
theorem d_SO_isShare_0 : decode b_SO_isShare 0 = .ok (.iload_n 1, 1) := by decide +kernel
theorem d_SO_isShare_1 : decode b_SO_isShare 1 = .ok (.ifCond .lt 18, 3) := by decide +kernel
theorem d_SO_isShare_4 : decode b_SO_isShare 4 = .ok (.iload_n 1, 1) := by decide +kernel
theorem d_SO_isShare_5 : decode b_SO_isShare 5 = .ok (.aload_n 0, 1) := by decide +kernel
theorem d_SO_isShare_6 : decode b_SO_isShare 6 = .ok (.getfield 26, 3) := by decide +kernel
theorem d_SO_isShare_9 : decode b_SO_isShare 9 = .ok (.getfield 84, 3) := by decide +kernel
theorem d_SO_isShare_12 : decode b_SO_isShare 12 = .ok (.if_icmp .gt 7, 3) := by decide +kernel
theorem d_SO_isShare_15 : decode b_SO_isShare 15 = .ok (.iconst 1, 1) := by decide +kernel
theorem d_SO_isShare_16 : decode b_SO_isShare 16 = .ok (.goto 4, 3) := by decide +kernel
theorem d_SO_isShare_19 : decode b_SO_isShare 19 = .ok (.iconst 0, 1) := by decide +kernel
theorem d_SO_isShare_20 : decode b_SO_isShare 20 = .ok (.ireturn, 1) := by decide +kernel
theorem d_SO_mayHave_0 : decode b_SO_mayHave 0 = .ok (.iload_n 2, 1) := by decide +kernel
theorem d_SO_mayHave_1 : decode b_SO_mayHave 1 = .ok (.ifCond .eq 14, 3) := by decide +kernel
theorem d_SO_mayHave_4 : decode b_SO_mayHave 4 = .ok (.iload_n 1, 1) := by decide +kernel
theorem d_SO_mayHave_5 : decode b_SO_mayHave 5 = .ok (.aload_n 0, 1) := by decide +kernel
theorem d_SO_mayHave_6 : decode b_SO_mayHave 6 = .ok (.getfield 26, 3) := by decide +kernel
theorem d_SO_mayHave_9 : decode b_SO_mayHave 9 = .ok (.getfield 81, 3) := by decide +kernel
theorem d_SO_mayHave_12 : decode b_SO_mayHave 12 = .ok (.if_icmp .ge 7, 3) := by decide +kernel
theorem d_SO_mayHave_15 : decode b_SO_mayHave 15 = .ok (.iconst 1, 1) := by decide +kernel
theorem d_SO_mayHave_16 : decode b_SO_mayHave 16 = .ok (.goto 4, 3) := by decide +kernel
theorem d_SO_mayHave_19 : decode b_SO_mayHave 19 = .ok (.iconst 0, 1) := by decide +kernel
theorem d_SO_mayHave_20 : decode b_SO_mayHave 20 = .ok (.ireturn, 1) := by decide +kernel
theorem d_SO_countKeptAndFit_0 : decode b_SO_countKeptAndFit 0 = .ok (.iconst 0, 1) := by decide +kernel
theorem d_SO_countKeptAndFit_1 : decode b_SO_countKeptAndFit 1 = .ok (.istore_n 2, 1) := by decide +kernel
theorem d_SO_countKeptAndFit_2 : decode b_SO_countKeptAndFit 2 = .ok (.iconst 0, 1) := by decide +kernel
theorem d_SO_countKeptAndFit_3 : decode b_SO_countKeptAndFit 3 = .ok (.istore_n 3, 1) := by decide +kernel
theorem d_SO_countKeptAndFit_4 : decode b_SO_countKeptAndFit 4 = .ok (.iload_n 3, 1) := by decide +kernel
theorem d_SO_countKeptAndFit_5 : decode b_SO_countKeptAndFit 5 = .ok (.aload_n 0, 1) := by decide +kernel
theorem d_SO_countKeptAndFit_6 : decode b_SO_countKeptAndFit 6 = .ok (.getfield 26, 3) := by decide +kernel
theorem d_SO_countKeptAndFit_9 : decode b_SO_countKeptAndFit 9 = .ok (.getfield 52, 3) := by decide +kernel
theorem d_SO_countKeptAndFit_12 : decode b_SO_countKeptAndFit 12 = .ok (.if_icmp .ge 47, 3) := by decide +kernel
theorem d_SO_countKeptAndFit_15 : decode b_SO_countKeptAndFit 15 = .ok (.aload_n 0, 1) := by decide +kernel
theorem d_SO_countKeptAndFit_16 : decode b_SO_countKeptAndFit 16 = .ok (.getfield 26, 3) := by decide +kernel
theorem d_SO_countKeptAndFit_19 : decode b_SO_countKeptAndFit 19 = .ok (.iload_n 3, 1) := by decide +kernel
theorem d_SO_countKeptAndFit_20 : decode b_SO_countKeptAndFit 20 = .ok (.invokevirtual 157, 3) := by decide +kernel
theorem d_SO_countKeptAndFit_23 : decode b_SO_countKeptAndFit 23 = .ok (.istore 4, 2) := by decide +kernel
theorem d_SO_countKeptAndFit_25 : decode b_SO_countKeptAndFit 25 = .ok (.aload_n 0, 1) := by decide +kernel
theorem d_SO_countKeptAndFit_26 : decode b_SO_countKeptAndFit 26 = .ok (.getfield 26, 3) := by decide +kernel
theorem d_SO_countKeptAndFit_29 : decode b_SO_countKeptAndFit 29 = .ok (.iload 4, 2) := by decide +kernel
theorem d_SO_countKeptAndFit_31 : decode b_SO_countKeptAndFit 31 = .ok (.iload_n 1, 1) := by decide +kernel
theorem d_SO_countKeptAndFit_32 : decode b_SO_countKeptAndFit 32 = .ok (.invokevirtual 210, 3) := by decide +kernel
theorem d_SO_countKeptAndFit_35 : decode b_SO_countKeptAndFit 35 = .ok (.ifCond .eq 18, 3) := by decide +kernel
theorem d_SO_countKeptAndFit_38 : decode b_SO_countKeptAndFit 38 = .ok (.aload_n 0, 1) := by decide +kernel
theorem d_SO_countKeptAndFit_39 : decode b_SO_countKeptAndFit 39 = .ok (.getfield 19, 3) := by decide +kernel
theorem d_SO_countKeptAndFit_42 : decode b_SO_countKeptAndFit 42 = .ok (.iload 4, 2) := by decide +kernel
theorem d_SO_countKeptAndFit_44 : decode b_SO_countKeptAndFit 44 = .ok (.invokevirtual 176, 3) := by decide +kernel
theorem d_SO_countKeptAndFit_47 : decode b_SO_countKeptAndFit 47 = .ok (.ifCond .eq 6, 3) := by decide +kernel
theorem d_SO_countKeptAndFit_50 : decode b_SO_countKeptAndFit 50 = .ok (.iinc 2 1, 3) := by decide +kernel
theorem d_SO_countKeptAndFit_53 : decode b_SO_countKeptAndFit 53 = .ok (.iinc 3 1, 3) := by decide +kernel
theorem d_SO_countKeptAndFit_56 : decode b_SO_countKeptAndFit 56 = .ok (.goto (-52), 3) := by decide +kernel
theorem d_SO_countKeptAndFit_59 : decode b_SO_countKeptAndFit 59 = .ok (.iload_n 2, 1) := by decide +kernel
theorem d_SO_countKeptAndFit_60 : decode b_SO_countKeptAndFit 60 = .ok (.ireturn, 1) := by decide +kernel
theorem d_SO_countHeadsOf_0 : decode b_SO_countHeadsOf 0 = .ok (.aload_n 0, 1) := by decide +kernel
theorem d_SO_countHeadsOf_1 : decode b_SO_countHeadsOf 1 = .ok (.invokevirtual 130, 3) := by decide +kernel
theorem d_SO_countHeadsOf_4 : decode b_SO_countHeadsOf 4 = .ok (.astore_n 2, 1) := by decide +kernel
theorem d_SO_countHeadsOf_5 : decode b_SO_countHeadsOf 5 = .ok (.iconst 0, 1) := by decide +kernel
theorem d_SO_countHeadsOf_6 : decode b_SO_countHeadsOf 6 = .ok (.istore_n 3, 1) := by decide +kernel
theorem d_SO_countHeadsOf_7 : decode b_SO_countHeadsOf 7 = .ok (.iconst 0, 1) := by decide +kernel
theorem d_SO_countHeadsOf_8 : decode b_SO_countHeadsOf 8 = .ok (.istore 4, 2) := by decide +kernel
theorem d_SO_countHeadsOf_10 : decode b_SO_countHeadsOf 10 = .ok (.iload 4, 2) := by decide +kernel
theorem d_SO_countHeadsOf_12 : decode b_SO_countHeadsOf 12 = .ok (.aload_n 2, 1) := by decide +kernel
theorem d_SO_countHeadsOf_13 : decode b_SO_countHeadsOf 13 = .ok (.getfield 134, 3) := by decide +kernel
theorem d_SO_countHeadsOf_16 : decode b_SO_countHeadsOf 16 = .ok (.if_icmp .ge 36, 3) := by decide +kernel
theorem d_SO_countHeadsOf_19 : decode b_SO_countHeadsOf 19 = .ok (.aload_n 0, 1) := by decide +kernel
theorem d_SO_countHeadsOf_20 : decode b_SO_countHeadsOf 20 = .ok (.getfield 26, 3) := by decide +kernel
theorem d_SO_countHeadsOf_23 : decode b_SO_countHeadsOf 23 = .ok (.aload_n 0, 1) := by decide +kernel
theorem d_SO_countHeadsOf_24 : decode b_SO_countHeadsOf 24 = .ok (.getfield 26, 3) := by decide +kernel
theorem d_SO_countHeadsOf_27 : decode b_SO_countHeadsOf 27 = .ok (.aload_n 2, 1) := by decide +kernel
theorem d_SO_countHeadsOf_28 : decode b_SO_countHeadsOf 28 = .ok (.iload 4, 2) := by decide +kernel
theorem d_SO_countHeadsOf_30 : decode b_SO_countHeadsOf 30 = .ok (.invokevirtual 154, 3) := by decide +kernel
theorem d_SO_countHeadsOf_33 : decode b_SO_countHeadsOf 33 = .ok (.invokevirtual 157, 3) := by decide +kernel
theorem d_SO_countHeadsOf_36 : decode b_SO_countHeadsOf 36 = .ok (.invokevirtual 213, 3) := by decide +kernel
theorem d_SO_countHeadsOf_39 : decode b_SO_countHeadsOf 39 = .ok (.iload_n 1, 1) := by decide +kernel
theorem d_SO_countHeadsOf_40 : decode b_SO_countHeadsOf 40 = .ok (.if_icmp .ne 6, 3) := by decide +kernel
theorem d_SO_countHeadsOf_43 : decode b_SO_countHeadsOf 43 = .ok (.iinc 3 1, 3) := by decide +kernel
theorem d_SO_countHeadsOf_46 : decode b_SO_countHeadsOf 46 = .ok (.iinc 4 1, 3) := by decide +kernel
theorem d_SO_countHeadsOf_49 : decode b_SO_countHeadsOf 49 = .ok (.goto (-39), 3) := by decide +kernel
theorem d_SO_countHeadsOf_52 : decode b_SO_countHeadsOf 52 = .ok (.iload_n 3, 1) := by decide +kernel
theorem d_SO_countHeadsOf_53 : decode b_SO_countHeadsOf 53 = .ok (.ireturn, 1) := by decide +kernel
theorem d_SO_countFitHeads_0 : decode b_SO_countFitHeads 0 = .ok (.aload_n 0, 1) := by decide +kernel
theorem d_SO_countFitHeads_1 : decode b_SO_countFitHeads 1 = .ok (.invokevirtual 130, 3) := by decide +kernel
theorem d_SO_countFitHeads_4 : decode b_SO_countFitHeads 4 = .ok (.astore_n 1, 1) := by decide +kernel
theorem d_SO_countFitHeads_5 : decode b_SO_countFitHeads 5 = .ok (.iconst 0, 1) := by decide +kernel
theorem d_SO_countFitHeads_6 : decode b_SO_countFitHeads 6 = .ok (.istore_n 2, 1) := by decide +kernel
theorem d_SO_countFitHeads_7 : decode b_SO_countFitHeads 7 = .ok (.iconst 0, 1) := by decide +kernel
theorem d_SO_countFitHeads_8 : decode b_SO_countFitHeads 8 = .ok (.istore_n 3, 1) := by decide +kernel
theorem d_SO_countFitHeads_9 : decode b_SO_countFitHeads 9 = .ok (.iload_n 3, 1) := by decide +kernel
theorem d_SO_countFitHeads_10 : decode b_SO_countFitHeads 10 = .ok (.aload_n 1, 1) := by decide +kernel
theorem d_SO_countFitHeads_11 : decode b_SO_countFitHeads 11 = .ok (.getfield 134, 3) := by decide +kernel
theorem d_SO_countFitHeads_14 : decode b_SO_countFitHeads 14 = .ok (.if_icmp .ge 34, 3) := by decide +kernel
theorem d_SO_countFitHeads_17 : decode b_SO_countFitHeads 17 = .ok (.aload_n 0, 1) := by decide +kernel
theorem d_SO_countFitHeads_18 : decode b_SO_countFitHeads 18 = .ok (.getfield 19, 3) := by decide +kernel
theorem d_SO_countFitHeads_21 : decode b_SO_countFitHeads 21 = .ok (.aload_n 0, 1) := by decide +kernel
theorem d_SO_countFitHeads_22 : decode b_SO_countFitHeads 22 = .ok (.getfield 26, 3) := by decide +kernel
theorem d_SO_countFitHeads_25 : decode b_SO_countFitHeads 25 = .ok (.aload_n 1, 1) := by decide +kernel
theorem d_SO_countFitHeads_26 : decode b_SO_countFitHeads 26 = .ok (.iload_n 3, 1) := by decide +kernel
theorem d_SO_countFitHeads_27 : decode b_SO_countFitHeads 27 = .ok (.invokevirtual 154, 3) := by decide +kernel
theorem d_SO_countFitHeads_30 : decode b_SO_countFitHeads 30 = .ok (.invokevirtual 157, 3) := by decide +kernel
theorem d_SO_countFitHeads_33 : decode b_SO_countFitHeads 33 = .ok (.invokevirtual 176, 3) := by decide +kernel
theorem d_SO_countFitHeads_36 : decode b_SO_countFitHeads 36 = .ok (.ifCond .eq 6, 3) := by decide +kernel
theorem d_SO_countFitHeads_39 : decode b_SO_countFitHeads 39 = .ok (.iinc 2 1, 3) := by decide +kernel
theorem d_SO_countFitHeads_42 : decode b_SO_countFitHeads 42 = .ok (.iinc 3 1, 3) := by decide +kernel
theorem d_SO_countFitHeads_45 : decode b_SO_countFitHeads 45 = .ok (.goto (-36), 3) := by decide +kernel
theorem d_SO_countFitHeads_48 : decode b_SO_countFitHeads 48 = .ok (.iload_n 2, 1) := by decide +kernel
theorem d_SO_countFitHeads_49 : decode b_SO_countFitHeads 49 = .ok (.ireturn, 1) := by decide +kernel
