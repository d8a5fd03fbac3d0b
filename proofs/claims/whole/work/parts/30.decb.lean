theorem d_Mo_number_29 : decode b_Mo_number 29 = .ok (.aload_n 0, 1) := by decide +kernel
theorem d_Mo_number_30 : decode b_Mo_number 30 = .ok (.getfield 32, 3) := by decide +kernel
theorem d_Mo_number_33 : decode b_Mo_number 33 = .ok (.iload_n 2, 1) := by decide +kernel
theorem d_Mo_number_34 : decode b_Mo_number 34 = .ok (.iaload, 1) := by decide +kernel
theorem d_Mo_number_35 : decode b_Mo_number 35 = .ok (.goto 4, 3) := by decide +kernel
theorem d_Mo_number_38 : decode b_Mo_number 38 = .ok (.iconst (-1), 1) := by decide +kernel
theorem d_Mo_number_39 : decode b_Mo_number 39 = .ok (.ireturn, 1) := by decide +kernel
theorem d_Mo_element_0 : decode b_Mo_element 0 = .ok (.aload_n 0, 1) := by decide +kernel
theorem d_Mo_element_1 : decode b_Mo_element 1 = .ok (.iload_n 1, 1) := by decide +kernel
theorem d_Mo_element_2 : decode b_Mo_element 2 = .ok (.invokevirtual 109, 3) := by decide +kernel
theorem d_Mo_element_5 : decode b_Mo_element 5 = .ok (.ifCond .ne 5, 3) := by decide +kernel
theorem d_Mo_element_8 : decode b_Mo_element 8 = .ok (.iconst (-1), 1) := by decide +kernel
theorem d_Mo_element_9 : decode b_Mo_element 9 = .ok (.ireturn, 1) := by decide +kernel
theorem d_Mo_element_10 : decode b_Mo_element 10 = .ok (.aload_n 0, 1) := by decide +kernel
theorem d_Mo_element_11 : decode b_Mo_element 11 = .ok (.getfield 29, 3) := by decide +kernel
theorem d_Mo_element_14 : decode b_Mo_element 14 = .ok (.iload_n 1, 1) := by decide +kernel
theorem d_Mo_element_15 : decode b_Mo_element 15 = .ok (.iaload, 1) := by decide +kernel
theorem d_Mo_element_16 : decode b_Mo_element 16 = .ok (.ireturn, 1) := by decide +kernel
theorem d_Mo_cyclesOf_0 : decode b_Mo_cyclesOf 0 = .ok (.aload_n 0, 1) := by decide +kernel
theorem d_Mo_cyclesOf_1 : decode b_Mo_cyclesOf 1 = .ok (.getfield 29, 3) := by decide +kernel
theorem d_Mo_cyclesOf_4 : decode b_Mo_cyclesOf 4 = .ok (.iload_n 1, 1) := by decide +kernel
theorem d_Mo_cyclesOf_5 : decode b_Mo_cyclesOf 5 = .ok (.iaload, 1) := by decide +kernel
theorem d_Mo_cyclesOf_6 : decode b_Mo_cyclesOf 6 = .ok (.istore_n 2, 1) := by decide +kernel
theorem d_Mo_cyclesOf_7 : decode b_Mo_cyclesOf 7 = .ok (.iconst 0, 1) := by decide +kernel
theorem d_Mo_cyclesOf_8 : decode b_Mo_cyclesOf 8 = .ok (.istore_n 3, 1) := by decide +kernel
theorem d_Mo_cyclesOf_9 : decode b_Mo_cyclesOf 9 = .ok (.iconst 0, 1) := by decide +kernel
theorem d_Mo_cyclesOf_10 : decode b_Mo_cyclesOf 10 = .ok (.istore 4, 2) := by decide +kernel
theorem d_Mo_cyclesOf_12 : decode b_Mo_cyclesOf 12 = .ok (.iconst 0, 1) := by decide +kernel
theorem d_Mo_cyclesOf_13 : decode b_Mo_cyclesOf 13 = .ok (.istore 5, 2) := by decide +kernel
theorem d_Mo_cyclesOf_15 : decode b_Mo_cyclesOf 15 = .ok (.iload 5, 2) := by decide +kernel
theorem d_Mo_cyclesOf_17 : decode b_Mo_cyclesOf 17 = .ok (.aload_n 0, 1) := by decide +kernel
theorem d_Mo_cyclesOf_18 : decode b_Mo_cyclesOf 18 = .ok (.getfield 60, 3) := by decide +kernel
theorem d_Mo_cyclesOf_21 : decode b_Mo_cyclesOf 21 = .ok (.if_icmp .ge 55, 3) := by decide +kernel
theorem d_Mo_cyclesOf_24 : decode b_Mo_cyclesOf 24 = .ok (.iload_n 3, 1) := by decide +kernel
theorem d_Mo_cyclesOf_25 : decode b_Mo_cyclesOf 25 = .ok (.iload 5, 2) := by decide +kernel
theorem d_Mo_cyclesOf_27 : decode b_Mo_cyclesOf 27 = .ok (.ishr, 1) := by decide +kernel
theorem d_Mo_cyclesOf_28 : decode b_Mo_cyclesOf 28 = .ok (.iconst 1, 1) := by decide +kernel
theorem d_Mo_cyclesOf_29 : decode b_Mo_cyclesOf 29 = .ok (.iand, 1) := by decide +kernel
theorem d_Mo_cyclesOf_30 : decode b_Mo_cyclesOf 30 = .ok (.ifCond .ne 40, 3) := by decide +kernel
theorem d_Mo_cyclesOf_33 : decode b_Mo_cyclesOf 33 = .ok (.iinc 4 1, 3) := by decide +kernel
theorem d_Mo_cyclesOf_36 : decode b_Mo_cyclesOf 36 = .ok (.iload 5, 2) := by decide +kernel
theorem d_Mo_cyclesOf_38 : decode b_Mo_cyclesOf 38 = .ok (.istore 6, 2) := by decide +kernel
theorem d_Mo_cyclesOf_40 : decode b_Mo_cyclesOf 40 = .ok (.iload_n 3, 1) := by decide +kernel
theorem d_Mo_cyclesOf_41 : decode b_Mo_cyclesOf 41 = .ok (.iload 6, 2) := by decide +kernel
theorem d_Mo_cyclesOf_43 : decode b_Mo_cyclesOf 43 = .ok (.ishr, 1) := by decide +kernel
theorem d_Mo_cyclesOf_44 : decode b_Mo_cyclesOf 44 = .ok (.iconst 1, 1) := by decide +kernel
theorem d_Mo_cyclesOf_45 : decode b_Mo_cyclesOf 45 = .ok (.iand, 1) := by decide +kernel
theorem d_Mo_cyclesOf_46 : decode b_Mo_cyclesOf 46 = .ok (.ifCond .ne 24, 3) := by decide +kernel
theorem d_Mo_cyclesOf_49 : decode b_Mo_cyclesOf 49 = .ok (.iload_n 3, 1) := by decide +kernel
theorem d_Mo_cyclesOf_50 : decode b_Mo_cyclesOf 50 = .ok (.iconst 1, 1) := by decide +kernel
theorem d_Mo_cyclesOf_51 : decode b_Mo_cyclesOf 51 = .ok (.iload 6, 2) := by decide +kernel
theorem d_Mo_cyclesOf_53 : decode b_Mo_cyclesOf 53 = .ok (.ishl, 1) := by decide +kernel
theorem d_Mo_cyclesOf_54 : decode b_Mo_cyclesOf 54 = .ok (.ior, 1) := by decide +kernel
theorem d_Mo_cyclesOf_55 : decode b_Mo_cyclesOf 55 = .ok (.istore_n 3, 1) := by decide +kernel
theorem d_Mo_cyclesOf_56 : decode b_Mo_cyclesOf 56 = .ok (.iload_n 2, 1) := by decide +kernel
theorem d_Mo_cyclesOf_57 : decode b_Mo_cyclesOf 57 = .ok (.iconst 3, 1) := by decide +kernel
theorem d_Mo_cyclesOf_58 : decode b_Mo_cyclesOf 58 = .ok (.iload 6, 2) := by decide +kernel
theorem d_Mo_cyclesOf_60 : decode b_Mo_cyclesOf 60 = .ok (.imul, 1) := by decide +kernel
theorem d_Mo_cyclesOf_61 : decode b_Mo_cyclesOf 61 = .ok (.ishr, 1) := by decide +kernel
theorem d_Mo_cyclesOf_62 : decode b_Mo_cyclesOf 62 = .ok (.bipush 7, 2) := by decide +kernel
theorem d_Mo_cyclesOf_64 : decode b_Mo_cyclesOf 64 = .ok (.iand, 1) := by decide +kernel
theorem d_Mo_cyclesOf_65 : decode b_Mo_cyclesOf 65 = .ok (.istore 6, 2) := by decide +kernel
theorem d_Mo_cyclesOf_67 : decode b_Mo_cyclesOf 67 = .ok (.goto (-27), 3) := by decide +kernel
theorem d_Mo_cyclesOf_70 : decode b_Mo_cyclesOf 70 = .ok (.iinc 5 1, 3) := by decide +kernel
theorem d_Mo_cyclesOf_73 : decode b_Mo_cyclesOf 73 = .ok (.goto (-58), 3) := by decide +kernel
theorem d_Mo_cyclesOf_76 : decode b_Mo_cyclesOf 76 = .ok (.iload 4, 2) := by decide +kernel
theorem d_Mo_cyclesOf_78 : decode b_Mo_cyclesOf 78 = .ok (.ireturn, 1) := by decide +kernel
theorem d_Mo_cycles_0 : decode b_Mo_cycles 0 = .ok (.aload_n 0, 1) := by decide +kernel
theorem d_Mo_cycles_1 : decode b_Mo_cycles 1 = .ok (.iload_n 1, 1) := by decide +kernel
theorem d_Mo_cycles_2 : decode b_Mo_cycles 2 = .ok (.invokevirtual 109, 3) := by decide +kernel
theorem d_Mo_cycles_5 : decode b_Mo_cycles 5 = .ok (.ifCond .ne 5, 3) := by decide +kernel
theorem d_Mo_cycles_8 : decode b_Mo_cycles 8 = .ok (.iconst (-1), 1) := by decide +kernel
theorem d_Mo_cycles_9 : decode b_Mo_cycles 9 = .ok (.ireturn, 1) := by decide +kernel
theorem d_Mo_cycles_10 : decode b_Mo_cycles 10 = .ok (.aload_n 0, 1) := by decide +kernel
theorem d_Mo_cycles_11 : decode b_Mo_cycles 11 = .ok (.iload_n 1, 1) := by decide +kernel
theorem d_Mo_cycles_12 : decode b_Mo_cycles 12 = .ok (.invokevirtual 112, 3) := by decide +kernel
theorem d_Mo_cycles_15 : decode b_Mo_cycles 15 = .ok (.ireturn, 1) := by decide +kernel
theorem d_Mo_order_0 : decode b_Mo_order 0 = .ok (.aload_n 0, 1) := by decide +kernel
theorem d_Mo_order_1 : decode b_Mo_order 1 = .ok (.iload_n 1, 1) := by decide +kernel
theorem d_Mo_order_2 : decode b_Mo_order 2 = .ok (.invokevirtual 109, 3) := by decide +kernel
theorem d_Mo_order_5 : decode b_Mo_order 5 = .ok (.ifCond .ne 5, 3) := by decide +kernel
theorem d_Mo_order_8 : decode b_Mo_order 8 = .ok (.iconst (-1), 1) := by decide +kernel
theorem d_Mo_order_9 : decode b_Mo_order 9 = .ok (.ireturn, 1) := by decide +kernel
theorem d_Mo_order_10 : decode b_Mo_order 10 = .ok (.iconst 0, 1) := by decide +kernel
theorem d_Mo_order_11 : decode b_Mo_order 11 = .ok (.istore_n 2, 1) := by decide +kernel
theorem d_Mo_order_12 : decode b_Mo_order 12 = .ok (.iconst 0, 1) := by decide +kernel
theorem d_Mo_order_13 : decode b_Mo_order 13 = .ok (.istore_n 3, 1) := by decide +kernel
theorem d_Mo_order_14 : decode b_Mo_order 14 = .ok (.aload_n 0, 1) := by decide +kernel
theorem d_Mo_order_15 : decode b_Mo_order 15 = .ok (.getfield 29, 3) := by decide +kernel
theorem d_Mo_order_18 : decode b_Mo_order 18 = .ok (.iload_n 1, 1) := by decide +kernel
theorem d_Mo_order_19 : decode b_Mo_order 19 = .ok (.iaload, 1) := by decide +kernel
theorem d_Mo_order_20 : decode b_Mo_order 20 = .ok (.istore 4, 2) := by decide +kernel
theorem d_Mo_order_22 : decode b_Mo_order 22 = .ok (.iconst 0, 1) := by decide +kernel
theorem d_Mo_order_23 : decode b_Mo_order 23 = .ok (.istore 5, 2) := by decide +kernel
theorem d_Mo_order_25 : decode b_Mo_order 25 = .ok (.iconst 0, 1) := by decide +kernel
theorem d_Mo_order_26 : decode b_Mo_order 26 = .ok (.istore 6, 2) := by decide +kernel
theorem d_Mo_order_28 : decode b_Mo_order 28 = .ok (.iload 6, 2) := by decide +kernel
theorem d_Mo_order_30 : decode b_Mo_order 30 = .ok (.aload_n 0, 1) := by decide +kernel
theorem d_Mo_order_31 : decode b_Mo_order 31 = .ok (.getfield 60, 3) := by decide +kernel
theorem d_Mo_order_34 : decode b_Mo_order 34 = .ok (.if_icmp .ge 21, 3) := by decide +kernel
theorem d_Mo_order_37 : decode b_Mo_order 37 = .ok (.iload 5, 2) := by decide +kernel
theorem d_Mo_order_39 : decode b_Mo_order 39 = .ok (.iload 6, 2) := by decide +kernel
theorem d_Mo_order_41 : decode b_Mo_order 41 = .ok (.iconst 3, 1) := by decide +kernel
theorem d_Mo_order_42 : decode b_Mo_order 42 = .ok (.iload 6, 2) := by decide +kernel
theorem d_Mo_order_44 : decode b_Mo_order 44 = .ok (.imul, 1) := by decide +kernel
theorem d_Mo_order_45 : decode b_Mo_order 45 = .ok (.ishl, 1) := by decide +kernel
theorem d_Mo_order_46 : decode b_Mo_order 46 = .ok (.ior, 1) := by decide +kernel
theorem d_Mo_order_47 : decode b_Mo_order 47 = .ok (.istore 5, 2) := by decide +kernel
theorem d_Mo_order_49 : decode b_Mo_order 49 = .ok (.iinc 6 1, 3) := by decide +kernel
theorem d_Mo_order_52 : decode b_Mo_order 52 = .ok (.goto (-24), 3) := by decide +kernel
theorem d_Mo_order_55 : decode b_Mo_order 55 = .ok (.iload_n 3, 1) := by decide +kernel
theorem d_Mo_order_56 : decode b_Mo_order 56 = .ok (.ifCond .ne 85, 3) := by decide +kernel
theorem d_Mo_order_59 : decode b_Mo_order 59 = .ok (.iconst 0, 1) := by decide +kernel
theorem d_Mo_order_60 : decode b_Mo_order 60 = .ok (.istore 6, 2) := by decide +kernel
theorem d_Mo_order_62 : decode b_Mo_order 62 = .ok (.iconst 1, 1) := by decide +kernel
theorem d_Mo_order_63 : decode b_Mo_order 63 = .ok (.istore_n 3, 1) := by decide +kernel
theorem d_Mo_order_64 : decode b_Mo_order 64 = .ok (.iconst 0, 1) := by decide +kernel
theorem d_Mo_order_65 : decode b_Mo_order 65 = .ok (.istore 7, 2) := by decide +kernel
theorem d_Mo_order_67 : decode b_Mo_order 67 = .ok (.iload 7, 2) := by decide +kernel
theorem d_Mo_order_69 : decode b_Mo_order 69 = .ok (.aload_n 0, 1) := by decide +kernel
theorem d_Mo_order_70 : decode b_Mo_order 70 = .ok (.getfield 60, 3) := by decide +kernel
theorem d_Mo_order_73 : decode b_Mo_order 73 = .ok (.if_icmp .ge 58, 3) := by decide +kernel
theorem d_Mo_order_76 : decode b_Mo_order 76 = .ok (.iload 4, 2) := by decide +kernel
theorem d_Mo_order_78 : decode b_Mo_order 78 = .ok (.iconst 3, 1) := by decide +kernel
theorem d_Mo_order_79 : decode b_Mo_order 79 = .ok (.iload 5, 2) := by decide +kernel
theorem d_Mo_order_81 : decode b_Mo_order 81 = .ok (.iconst 3, 1) := by decide +kernel
theorem d_Mo_order_82 : decode b_Mo_order 82 = .ok (.iload 7, 2) := by decide +kernel
theorem d_Mo_order_84 : decode b_Mo_order 84 = .ok (.imul, 1) := by decide +kernel
theorem d_Mo_order_85 : decode b_Mo_order 85 = .ok (.ishr, 1) := by decide +kernel
theorem d_Mo_order_86 : decode b_Mo_order 86 = .ok (.bipush 7, 2) := by decide +kernel
theorem d_Mo_order_88 : decode b_Mo_order 88 = .ok (.iand, 1) := by decide +kernel
theorem d_Mo_order_89 : decode b_Mo_order 89 = .ok (.imul, 1) := by decide +kernel
theorem d_Mo_order_90 : decode b_Mo_order 90 = .ok (.ishr, 1) := by decide +kernel
theorem d_Mo_order_91 : decode b_Mo_order 91 = .ok (.bipush 7, 2) := by decide +kernel
theorem d_Mo_order_93 : decode b_Mo_order 93 = .ok (.iand, 1) := by decide +kernel
theorem d_Mo_order_94 : decode b_Mo_order 94 = .ok (.istore 8, 2) := by decide +kernel
theorem d_Mo_order_96 : decode b_Mo_order 96 = .ok (.iload 6, 2) := by decide +kernel
theorem d_Mo_order_98 : decode b_Mo_order 98 = .ok (.iload 8, 2) := by decide +kernel
theorem d_Mo_order_100 : decode b_Mo_order 100 = .ok (.iconst 3, 1) := by decide +kernel
theorem d_Mo_order_101 : decode b_Mo_order 101 = .ok (.iload 7, 2) := by decide +kernel
theorem d_Mo_order_103 : decode b_Mo_order 103 = .ok (.imul, 1) := by decide +kernel
theorem d_Mo_order_104 : decode b_Mo_order 104 = .ok (.ishl, 1) := by decide +kernel
theorem d_Mo_order_105 : decode b_Mo_order 105 = .ok (.ior, 1) := by decide +kernel
theorem d_Mo_order_106 : decode b_Mo_order 106 = .ok (.istore 6, 2) := by decide +kernel
theorem d_Mo_order_108 : decode b_Mo_order 108 = .ok (.iload_n 3, 1) := by decide +kernel
theorem d_Mo_order_109 : decode b_Mo_order 109 = .ok (.ifCond .eq 14, 3) := by decide +kernel
theorem d_Mo_order_112 : decode b_Mo_order 112 = .ok (.iload 8, 2) := by decide +kernel
theorem d_Mo_order_114 : decode b_Mo_order 114 = .ok (.iload 7, 2) := by decide +kernel
theorem d_Mo_order_116 : decode b_Mo_order 116 = .ok (.if_icmp .ne 7, 3) := by decide +kernel
theorem d_Mo_order_119 : decode b_Mo_order 119 = .ok (.iconst 1, 1) := by decide +kernel
theorem d_Mo_order_120 : decode b_Mo_order 120 = .ok (.goto 4, 3) := by decide +kernel
theorem d_Mo_order_123 : decode b_Mo_order 123 = .ok (.iconst 0, 1) := by decide +kernel
theorem d_Mo_order_124 : decode b_Mo_order 124 = .ok (.istore_n 3, 1) := by decide +kernel
theorem d_Mo_order_125 : decode b_Mo_order 125 = .ok (.iinc 7 1, 3) := by decide +kernel
theorem d_Mo_order_128 : decode b_Mo_order 128 = .ok (.goto (-61), 3) := by decide +kernel
theorem d_Mo_order_131 : decode b_Mo_order 131 = .ok (.iload 6, 2) := by decide +kernel
theorem d_Mo_order_133 : decode b_Mo_order 133 = .ok (.istore 5, 2) := by decide +kernel
theorem d_Mo_order_135 : decode b_Mo_order 135 = .ok (.iinc 2 1, 3) := by decide +kernel
theorem d_Mo_order_138 : decode b_Mo_order 138 = .ok (.goto (-83), 3) := by decide +kernel
theorem d_Mo_order_141 : decode b_Mo_order 141 = .ok (.iload_n 2, 1) := by decide +kernel
theorem d_Mo_order_142 : decode b_Mo_order 142 = .ok (.ireturn, 1) := by decide +kernel
theorem d_Mo_reach_0 : decode b_Mo_reach 0 = .ok (.iload_n 1, 1) := by decide +kernel
theorem d_Mo_reach_1 : decode b_Mo_reach 1 = .ok (.iconst 0, 1) := by decide +kernel
theorem d_Mo_reach_2 : decode b_Mo_reach 2 = .ok (.aload_n 0, 1) := by decide +kernel
theorem d_Mo_reach_3 : decode b_Mo_reach 3 = .ok (.getfield 60, 3) := by decide +kernel
theorem d_Mo_reach_6 : decode b_Mo_reach 6 = .ok (.iconst 1, 1) := by decide +kernel
theorem d_Mo_reach_7 : decode b_Mo_reach 7 = .ok (.isub, 1) := by decide +kernel
theorem d_Mo_reach_8 : decode b_Mo_reach 8 = .ok (.invokestatic 80, 3) := by decide +kernel
theorem d_Mo_reach_11 : decode b_Mo_reach 11 = .ok (.ifCond .ne 6, 3) := by decide +kernel
theorem d_Mo_reach_14 : decode b_Mo_reach 14 = .ok (.bipush (-2), 2) := by decide +kernel
theorem d_Mo_reach_16 : decode b_Mo_reach 16 = .ok (.ireturn, 1) := by decide +kernel
theorem d_Mo_reach_17 : decode b_Mo_reach 17 = .ok (.iconst 1, 1) := by decide +kernel
theorem d_Mo_reach_18 : decode b_Mo_reach 18 = .ok (.iload_n 1, 1) := by decide +kernel
theorem d_Mo_reach_19 : decode b_Mo_reach 19 = .ok (.ishl, 1) := by decide +kernel
theorem d_Mo_reach_20 : decode b_Mo_reach 20 = .ok (.istore_n 2, 1) := by decide +kernel
theorem d_Mo_reach_21 : decode b_Mo_reach 21 = .ok (.iconst 1, 1) := by decide +kernel
theorem d_Mo_reach_22 : decode b_Mo_reach 22 = .ok (.istore_n 3, 1) := by decide +kernel
theorem d_Mo_reach_23 : decode b_Mo_reach 23 = .ok (.iload_n 3, 1) := by decide +kernel
theorem d_Mo_reach_24 : decode b_Mo_reach 24 = .ok (.ifCond .eq 87, 3) := by decide +kernel
theorem d_Mo_reach_27 : decode b_Mo_reach 27 = .ok (.iload_n 2, 1) := by decide +kernel
theorem d_Mo_reach_28 : decode b_Mo_reach 28 = .ok (.istore 4, 2) := by decide +kernel
theorem d_Mo_reach_30 : decode b_Mo_reach 30 = .ok (.iconst 0, 1) := by decide +kernel
theorem d_Mo_reach_31 : decode b_Mo_reach 31 = .ok (.istore 5, 2) := by decide +kernel
theorem d_Mo_reach_33 : decode b_Mo_reach 33 = .ok (.iload 5, 2) := by decide +kernel
theorem d_Mo_reach_35 : decode b_Mo_reach 35 = .ok (.aload_n 0, 1) := by decide +kernel
theorem d_Mo_reach_36 : decode b_Mo_reach 36 = .ok (.getfield 60, 3) := by decide +kernel
theorem d_Mo_reach_39 : decode b_Mo_reach 39 = .ok (.if_icmp .ge 57, 3) := by decide +kernel
theorem d_Mo_reach_42 : decode b_Mo_reach 42 = .ok (.iconst 0, 1) := by decide +kernel
theorem d_Mo_reach_43 : decode b_Mo_reach 43 = .ok (.istore 6, 2) := by decide +kernel
theorem d_Mo_reach_45 : decode b_Mo_reach 45 = .ok (.iload 6, 2) := by decide +kernel
theorem d_Mo_reach_47 : decode b_Mo_reach 47 = .ok (.aload_n 0, 1) := by decide +kernel
theorem d_Mo_reach_48 : decode b_Mo_reach 48 = .ok (.getfield 70, 3) := by decide +kernel
theorem d_Mo_reach_51 : decode b_Mo_reach 51 = .ok (.if_icmp .ge 39, 3) := by decide +kernel
theorem d_Mo_reach_54 : decode b_Mo_reach 54 = .ok (.iload_n 2, 1) := by decide +kernel
theorem d_Mo_reach_55 : decode b_Mo_reach 55 = .ok (.iload 5, 2) := by decide +kernel
theorem d_Mo_reach_57 : decode b_Mo_reach 57 = .ok (.ishr, 1) := by decide +kernel
theorem d_Mo_reach_58 : decode b_Mo_reach 58 = .ok (.iconst 1, 1) := by decide +kernel
theorem d_Mo_reach_59 : decode b_Mo_reach 59 = .ok (.iand, 1) := by decide +kernel
theorem d_Mo_reach_60 : decode b_Mo_reach 60 = .ok (.iconst 1, 1) := by decide +kernel
theorem d_Mo_reach_61 : decode b_Mo_reach 61 = .ok (.if_icmp .ne 29, 3) := by decide +kernel
theorem d_Mo_reach_64 : decode b_Mo_reach 64 = .ok (.iload_n 2, 1) := by decide +kernel
theorem d_Mo_reach_65 : decode b_Mo_reach 65 = .ok (.iconst 1, 1) := by decide +kernel
theorem d_Mo_reach_66 : decode b_Mo_reach 66 = .ok (.aload_n 0, 1) := by decide +kernel
theorem d_Mo_reach_67 : decode b_Mo_reach 67 = .ok (.getfield 7, 3) := by decide +kernel
theorem d_Mo_reach_70 : decode b_Mo_reach 70 = .ok (.iload 6, 2) := by decide +kernel
theorem d_Mo_reach_72 : decode b_Mo_reach 72 = .ok (.iaload, 1) := by decide +kernel
theorem d_Mo_reach_73 : decode b_Mo_reach 73 = .ok (.iconst 3, 1) := by decide +kernel
theorem d_Mo_reach_74 : decode b_Mo_reach 74 = .ok (.iload 5, 2) := by decide +kernel
theorem d_Mo_reach_76 : decode b_Mo_reach 76 = .ok (.imul, 1) := by decide +kernel
theorem d_Mo_reach_77 : decode b_Mo_reach 77 = .ok (.ishr, 1) := by decide +kernel
theorem d_Mo_reach_78 : decode b_Mo_reach 78 = .ok (.bipush 7, 2) := by decide +kernel
theorem d_Mo_reach_80 : decode b_Mo_reach 80 = .ok (.iand, 1) := by decide +kernel
theorem d_Mo_reach_81 : decode b_Mo_reach 81 = .ok (.ishl, 1) := by decide +kernel
theorem d_Mo_reach_82 : decode b_Mo_reach 82 = .ok (.ior, 1) := by decide +kernel
theorem d_Mo_reach_83 : decode b_Mo_reach 83 = .ok (.istore_n 2, 1) := by decide +kernel
theorem d_Mo_reach_84 : decode b_Mo_reach 84 = .ok (.iinc 6 1, 3) := by decide +kernel
theorem d_Mo_reach_87 : decode b_Mo_reach 87 = .ok (.goto (-42), 3) := by decide +kernel
theorem d_Mo_reach_90 : decode b_Mo_reach 90 = .ok (.iinc 5 1, 3) := by decide +kernel
theorem d_Mo_reach_93 : decode b_Mo_reach 93 = .ok (.goto (-60), 3) := by decide +kernel
theorem d_Mo_reach_96 : decode b_Mo_reach 96 = .ok (.iload_n 2, 1) := by decide +kernel
theorem d_Mo_reach_97 : decode b_Mo_reach 97 = .ok (.iload 4, 2) := by decide +kernel
theorem d_Mo_reach_99 : decode b_Mo_reach 99 = .ok (.if_icmp .eq 7, 3) := by decide +kernel
theorem d_Mo_reach_102 : decode b_Mo_reach 102 = .ok (.iconst 1, 1) := by decide +kernel
theorem d_Mo_reach_103 : decode b_Mo_reach 103 = .ok (.goto 4, 3) := by decide +kernel
theorem d_Mo_reach_106 : decode b_Mo_reach 106 = .ok (.iconst 0, 1) := by decide +kernel
theorem d_Mo_reach_107 : decode b_Mo_reach 107 = .ok (.istore_n 3, 1) := by decide +kernel
theorem d_Mo_reach_108 : decode b_Mo_reach 108 = .ok (.goto (-85), 3) := by decide +kernel
theorem d_Mo_reach_111 : decode b_Mo_reach 111 = .ok (.iconst 0, 1) := by decide +kernel
theorem d_Mo_reach_112 : decode b_Mo_reach 112 = .ok (.istore 4, 2) := by decide +kernel
theorem d_Mo_reach_114 : decode b_Mo_reach 114 = .ok (.iload_n 2, 1) := by decide +kernel
theorem d_Mo_reach_115 : decode b_Mo_reach 115 = .ok (.iload 4, 2) := by decide +kernel
theorem d_Mo_reach_117 : decode b_Mo_reach 117 = .ok (.ishr, 1) := by decide +kernel
theorem d_Mo_reach_118 : decode b_Mo_reach 118 = .ok (.iconst 1, 1) := by decide +kernel
theorem d_Mo_reach_119 : decode b_Mo_reach 119 = .ok (.iand, 1) := by decide +kernel
theorem d_Mo_reach_120 : decode b_Mo_reach 120 = .ok (.ifCond .ne 9, 3) := by decide +kernel
theorem d_Mo_reach_123 : decode b_Mo_reach 123 = .ok (.iinc 4 1, 3) := by decide +kernel
theorem d_Mo_reach_126 : decode b_Mo_reach 126 = .ok (.goto (-12), 3) := by decide +kernel
theorem d_Mo_reach_129 : decode b_Mo_reach 129 = .ok (.iload 4, 2) := by decide +kernel
theorem d_Mo_reach_131 : decode b_Mo_reach 131 = .ok (.ireturn, 1) := by decide +kernel
theorem d_Mo_told_0 : decode b_Mo_told 0 = .ok (.iload_n 1, 1) := by decide +kernel
theorem d_Mo_told_1 : decode b_Mo_told 1 = .ok (.iconst 0, 1) := by decide +kernel
theorem d_Mo_told_2 : decode b_Mo_told 2 = .ok (.iconst 5, 1) := by decide +kernel
theorem d_Mo_told_3 : decode b_Mo_told 3 = .ok (.invokestatic 80, 3) := by decide +kernel
theorem d_Mo_told_6 : decode b_Mo_told 6 = .ok (.ifCond .ne 6, 3) := by decide +kernel
theorem d_Mo_told_9 : decode b_Mo_told 9 = .ok (.bipush (-2), 2) := by decide +kernel
theorem d_Mo_told_11 : decode b_Mo_told 11 = .ok (.ireturn, 1) := by decide +kernel
theorem d_Mo_told_12 : decode b_Mo_told 12 = .ok (.iload_n 1, 1) := by decide +kernel
theorem d_Mo_told_13 : decode b_Mo_told 13 = .ok (.ifCond .ne 8, 3) := by decide +kernel
theorem d_Mo_told_16 : decode b_Mo_told 16 = .ok (.aload_n 0, 1) := by decide +kernel
theorem d_Mo_told_17 : decode b_Mo_told 17 = .ok (.getfield 60, 3) := by decide +kernel
theorem d_Mo_told_20 : decode b_Mo_told 20 = .ok (.ireturn, 1) := by decide +kernel
theorem d_Mo_told_21 : decode b_Mo_told 21 = .ok (.iload_n 1, 1) := by decide +kernel
theorem d_Mo_told_22 : decode b_Mo_told 22 = .ok (.iconst 1, 1) := by decide +kernel
theorem d_Mo_told_23 : decode b_Mo_told 23 = .ok (.if_icmp .ne 8, 3) := by decide +kernel
theorem d_Mo_told_26 : decode b_Mo_told 26 = .ok (.aload_n 0, 1) := by decide +kernel
theorem d_Mo_told_27 : decode b_Mo_told 27 = .ok (.getfield 64, 3) := by decide +kernel
theorem d_Mo_told_30 : decode b_Mo_told 30 = .ok (.ireturn, 1) := by decide +kernel
theorem d_Mo_told_31 : decode b_Mo_told 31 = .ok (.iload_n 1, 1) := by decide +kernel
theorem d_Mo_told_32 : decode b_Mo_told 32 = .ok (.iconst 2, 1) := by decide +kernel
theorem d_Mo_told_33 : decode b_Mo_told 33 = .ok (.if_icmp .ne 8, 3) := by decide +kernel
theorem d_Mo_told_36 : decode b_Mo_told 36 = .ok (.aload_n 0, 1) := by decide +kernel
theorem d_Mo_told_37 : decode b_Mo_told 37 = .ok (.getfield 70, 3) := by decide +kernel
theorem d_Mo_told_40 : decode b_Mo_told 40 = .ok (.ireturn, 1) := by decide +kernel
theorem d_Mo_told_41 : decode b_Mo_told 41 = .ok (.iconst 0, 1) := by decide +kernel
theorem d_Mo_told_42 : decode b_Mo_told 42 = .ok (.istore_n 2, 1) := by decide +kernel
theorem d_Mo_told_43 : decode b_Mo_told 43 = .ok (.iload_n 1, 1) := by decide +kernel
theorem d_Mo_told_44 : decode b_Mo_told 44 = .ok (.iconst 3, 1) := by decide +kernel
theorem d_Mo_told_45 : decode b_Mo_told 45 = .ok (.if_icmp .ne 38, 3) := by decide +kernel
theorem d_Mo_told_48 : decode b_Mo_told 48 = .ok (.iconst 0, 1) := by decide +kernel
theorem d_Mo_told_49 : decode b_Mo_told 49 = .ok (.istore_n 3, 1) := by decide +kernel
theorem d_Mo_told_50 : decode b_Mo_told 50 = .ok (.iload_n 3, 1) := by decide +kernel
theorem d_Mo_told_51 : decode b_Mo_told 51 = .ok (.bipush 49, 2) := by decide +kernel
theorem d_Mo_told_53 : decode b_Mo_told 53 = .ok (.if_icmp .ge 26, 3) := by decide +kernel
theorem d_Mo_told_56 : decode b_Mo_told 56 = .ok (.iload_n 2, 1) := by decide +kernel
theorem d_Mo_told_57 : decode b_Mo_told 57 = .ok (.aload_n 0, 1) := by decide +kernel
theorem d_Mo_told_58 : decode b_Mo_told 58 = .ok (.getfield 13, 3) := by decide +kernel
theorem d_Mo_told_61 : decode b_Mo_told 61 = .ok (.iload_n 3, 1) := by decide +kernel
theorem d_Mo_told_62 : decode b_Mo_told 62 = .ok (.baload, 1) := by decide +kernel
theorem d_Mo_told_63 : decode b_Mo_told 63 = .ok (.ifCond .eq 7, 3) := by decide +kernel
theorem d_Mo_told_66 : decode b_Mo_told 66 = .ok (.iconst 1, 1) := by decide +kernel
theorem d_Mo_told_67 : decode b_Mo_told 67 = .ok (.goto 4, 3) := by decide +kernel
theorem d_Mo_told_70 : decode b_Mo_told 70 = .ok (.iconst 0, 1) := by decide +kernel
theorem d_Mo_told_71 : decode b_Mo_told 71 = .ok (.iadd, 1) := by decide +kernel
theorem d_Mo_told_72 : decode b_Mo_told 72 = .ok (.istore_n 2, 1) := by decide +kernel
theorem d_Mo_told_73 : decode b_Mo_told 73 = .ok (.iinc 3 1, 3) := by decide +kernel
theorem d_Mo_told_76 : decode b_Mo_told 76 = .ok (.goto (-26), 3) := by decide +kernel
theorem d_Mo_told_79 : decode b_Mo_told 79 = .ok (.iload_n 2, 1) := by decide +kernel
theorem d_Mo_told_80 : decode b_Mo_told 80 = .ok (.iconst 2, 1) := by decide +kernel
theorem d_Mo_told_81 : decode b_Mo_told 81 = .ok (.idiv, 1) := by decide +kernel
theorem d_Mo_told_82 : decode b_Mo_told 82 = .ok (.ireturn, 1) := by decide +kernel
theorem d_Mo_told_83 : decode b_Mo_told 83 = .ok (.aload_n 0, 1) := by decide +kernel
theorem d_Mo_told_84 : decode b_Mo_told 84 = .ok (.invokevirtual 106, 3) := by decide +kernel
theorem d_Mo_told_87 : decode b_Mo_told 87 = .ok (.iload_n 1, 1) := by decide +kernel
theorem d_Mo_told_88 : decode b_Mo_told 88 = .ok (.iconst 4, 1) := by decide +kernel
theorem d_Mo_told_89 : decode b_Mo_told 89 = .ok (.if_icmp .ne 8, 3) := by decide +kernel
theorem d_Mo_told_92 : decode b_Mo_told 92 = .ok (.aload_n 0, 1) := by decide +kernel
theorem d_Mo_told_93 : decode b_Mo_told 93 = .ok (.getfield 100, 3) := by decide +kernel
theorem d_Mo_told_96 : decode b_Mo_told 96 = .ok (.ireturn, 1) := by decide +kernel
theorem d_Mo_told_97 : decode b_Mo_told 97 = .ok (.iconst 0, 1) := by decide +kernel
theorem d_Mo_told_98 : decode b_Mo_told 98 = .ok (.istore_n 3, 1) := by decide +kernel
theorem d_Mo_told_99 : decode b_Mo_told 99 = .ok (.iload_n 3, 1) := by decide +kernel
theorem d_Mo_told_100 : decode b_Mo_told 100 = .ok (.aload_n 0, 1) := by decide +kernel
theorem d_Mo_told_101 : decode b_Mo_told 101 = .ok (.getfield 100, 3) := by decide +kernel
theorem d_Mo_told_104 : decode b_Mo_told 104 = .ok (.if_icmp .ge 17, 3) := by decide +kernel
theorem d_Mo_told_107 : decode b_Mo_told 107 = .ok (.iload_n 2, 1) := by decide +kernel
theorem d_Mo_told_108 : decode b_Mo_told 108 = .ok (.aload_n 0, 1) := by decide +kernel
theorem d_Mo_told_109 : decode b_Mo_told 109 = .ok (.iload_n 3, 1) := by decide +kernel
theorem d_Mo_told_110 : decode b_Mo_told 110 = .ok (.invokevirtual 112, 3) := by decide +kernel
theorem d_Mo_told_113 : decode b_Mo_told 113 = .ok (.iadd, 1) := by decide +kernel
theorem d_Mo_told_114 : decode b_Mo_told 114 = .ok (.istore_n 2, 1) := by decide +kernel
theorem d_Mo_told_115 : decode b_Mo_told 115 = .ok (.iinc 3 1, 3) := by decide +kernel
theorem d_Mo_told_118 : decode b_Mo_told 118 = .ok (.goto (-19), 3) := by decide +kernel
theorem d_Mo_told_121 : decode b_Mo_told 121 = .ok (.iload_n 2, 1) := by decide +kernel
theorem d_Mo_told_122 : decode b_Mo_told 122 = .ok (.ireturn, 1) := by decide +kernel
theorem d_Mo_look_0 : decode b_Mo_look 0 = .ok (.iload_n 1, 1) := by decide +kernel
theorem d_Mo_look_1 : decode b_Mo_look 1 = .ok (.istore_n 2, 1) := by decide +kernel
theorem d_Mo_look_2 : decode b_Mo_look 2 = .ok (.aload_n 0, 1) := by decide +kernel
theorem d_Mo_look_3 : decode b_Mo_look 3 = .ok (.getfield 60, 3) := by decide +kernel
theorem d_Mo_look_6 : decode b_Mo_look 6 = .ok (.iconst 1, 1) := by decide +kernel
theorem d_Mo_look_7 : decode b_Mo_look 7 = .ok (.isub, 1) := by decide +kernel
theorem d_Mo_look_8 : decode b_Mo_look 8 = .ok (.istore_n 3, 1) := by decide +kernel
theorem d_Mo_look_9 : decode b_Mo_look 9 = .ok (.iload_n 3, 1) := by decide +kernel
theorem d_Mo_look_10 : decode b_Mo_look 10 = .ok (.ifCond .lt 28, 3) := by decide +kernel
theorem d_Mo_look_13 : decode b_Mo_look 13 = .ok (.aload_n 0, 1) := by decide +kernel
theorem d_Mo_look_14 : decode b_Mo_look 14 = .ok (.getfield 38, 3) := by decide +kernel
theorem d_Mo_look_17 : decode b_Mo_look 17 = .ok (.iload_n 3, 1) := by decide +kernel
theorem d_Mo_look_18 : decode b_Mo_look 18 = .ok (.iload_n 2, 1) := by decide +kernel
theorem d_Mo_look_19 : decode b_Mo_look 19 = .ok (.aload_n 0, 1) := by decide +kernel
theorem d_Mo_look_20 : decode b_Mo_look 20 = .ok (.getfield 64, 3) := by decide +kernel
theorem d_Mo_look_23 : decode b_Mo_look 23 = .ok (.irem, 1) := by decide +kernel
theorem d_Mo_look_24 : decode b_Mo_look 24 = .ok (.iastore, 1) := by decide +kernel
theorem d_Mo_look_25 : decode b_Mo_look 25 = .ok (.iload_n 2, 1) := by decide +kernel
theorem d_Mo_look_26 : decode b_Mo_look 26 = .ok (.aload_n 0, 1) := by decide +kernel
theorem d_Mo_look_27 : decode b_Mo_look 27 = .ok (.getfield 64, 3) := by decide +kernel
theorem d_Mo_look_30 : decode b_Mo_look 30 = .ok (.idiv, 1) := by decide +kernel
theorem d_Mo_look_31 : decode b_Mo_look 31 = .ok (.istore_n 2, 1) := by decide +kernel
theorem d_Mo_look_32 : decode b_Mo_look 32 = .ok (.iinc 3 (-1), 3) := by decide +kernel
theorem d_Mo_look_35 : decode b_Mo_look 35 = .ok (.goto (-26), 3) := by decide +kernel
theorem d_Mo_look_38 : decode b_Mo_look 38 = .ok (.return_, 1) := by decide +kernel
theorem d_Mo_makes_0 : decode b_Mo_makes 0 = .ok (.aload_n 0, 1) := by decide +kernel
theorem d_Mo_makes_1 : decode b_Mo_makes 1 = .ok (.getfield 41, 3) := by decide +kernel
theorem d_Mo_makes_4 : decode b_Mo_makes 4 = .ok (.astore_n 2, 1) := by decide +kernel
theorem d_Mo_makes_5 : decode b_Mo_makes 5 = .ok (.iconst 0, 1) := by decide +kernel
theorem d_Mo_makes_6 : decode b_Mo_makes 6 = .ok (.istore_n 3, 1) := by decide +kernel
theorem d_Mo_makes_7 : decode b_Mo_makes 7 = .ok (.iload_n 3, 1) := by decide +kernel
theorem d_Mo_makes_8 : decode b_Mo_makes 8 = .ok (.aload_n 0, 1) := by decide +kernel
theorem d_Mo_makes_9 : decode b_Mo_makes 9 = .ok (.getfield 60, 3) := by decide +kernel
theorem d_Mo_makes_12 : decode b_Mo_makes 12 = .ok (.if_icmp .ge 25, 3) := by decide +kernel
theorem d_Mo_makes_15 : decode b_Mo_makes 15 = .ok (.aload_n 2, 1) := by decide +kernel
theorem d_Mo_makes_16 : decode b_Mo_makes 16 = .ok (.iload_n 1, 1) := by decide +kernel
theorem d_Mo_makes_17 : decode b_Mo_makes 17 = .ok (.iconst 3, 1) := by decide +kernel
theorem d_Mo_makes_18 : decode b_Mo_makes 18 = .ok (.iload_n 3, 1) := by decide +kernel
theorem d_Mo_makes_19 : decode b_Mo_makes 19 = .ok (.imul, 1) := by decide +kernel
theorem d_Mo_makes_20 : decode b_Mo_makes 20 = .ok (.ishr, 1) := by decide +kernel
theorem d_Mo_makes_21 : decode b_Mo_makes 21 = .ok (.bipush 7, 2) := by decide +kernel
theorem d_Mo_makes_23 : decode b_Mo_makes 23 = .ok (.iand, 1) := by decide +kernel
theorem d_Mo_makes_24 : decode b_Mo_makes 24 = .ok (.aload_n 0, 1) := by decide +kernel
theorem d_Mo_makes_25 : decode b_Mo_makes 25 = .ok (.getfield 38, 3) := by decide +kernel
theorem d_Mo_makes_28 : decode b_Mo_makes 28 = .ok (.iload_n 3, 1) := by decide +kernel
theorem d_Mo_makes_29 : decode b_Mo_makes 29 = .ok (.iaload, 1) := by decide +kernel
theorem d_Mo_makes_30 : decode b_Mo_makes 30 = .ok (.iastore, 1) := by decide +kernel
theorem d_Mo_makes_31 : decode b_Mo_makes 31 = .ok (.iinc 3 1, 3) := by decide +kernel
theorem d_Mo_makes_34 : decode b_Mo_makes 34 = .ok (.goto (-27), 3) := by decide +kernel
theorem d_Mo_makes_37 : decode b_Mo_makes 37 = .ok (.iconst 0, 1) := by decide +kernel
theorem d_Mo_makes_38 : decode b_Mo_makes 38 = .ok (.istore_n 3, 1) := by decide +kernel
theorem d_Mo_makes_39 : decode b_Mo_makes 39 = .ok (.iconst 0, 1) := by decide +kernel
theorem d_Mo_makes_40 : decode b_Mo_makes 40 = .ok (.istore 4, 2) := by decide +kernel
theorem d_Mo_makes_42 : decode b_Mo_makes 42 = .ok (.iload 4, 2) := by decide +kernel
theorem d_Mo_makes_44 : decode b_Mo_makes 44 = .ok (.aload_n 0, 1) := by decide +kernel
theorem d_Mo_makes_45 : decode b_Mo_makes 45 = .ok (.getfield 60, 3) := by decide +kernel
theorem d_Mo_makes_48 : decode b_Mo_makes 48 = .ok (.if_icmp .ge 21, 3) := by decide +kernel
theorem d_Mo_makes_51 : decode b_Mo_makes 51 = .ok (.aload_n 0, 1) := by decide +kernel
theorem d_Mo_makes_52 : decode b_Mo_makes 52 = .ok (.getfield 64, 3) := by decide +kernel
theorem d_Mo_makes_55 : decode b_Mo_makes 55 = .ok (.iload_n 3, 1) := by decide +kernel
theorem d_Mo_makes_56 : decode b_Mo_makes 56 = .ok (.imul, 1) := by decide +kernel
theorem d_Mo_makes_57 : decode b_Mo_makes 57 = .ok (.aload_n 2, 1) := by decide +kernel
theorem d_Mo_makes_58 : decode b_Mo_makes 58 = .ok (.iload 4, 2) := by decide +kernel
theorem d_Mo_makes_60 : decode b_Mo_makes 60 = .ok (.iaload, 1) := by decide +kernel
theorem d_Mo_makes_61 : decode b_Mo_makes 61 = .ok (.iadd, 1) := by decide +kernel
theorem d_Mo_makes_62 : decode b_Mo_makes 62 = .ok (.istore_n 3, 1) := by decide +kernel
theorem d_Mo_makes_63 : decode b_Mo_makes 63 = .ok (.iinc 4 1, 3) := by decide +kernel
theorem d_Mo_makes_66 : decode b_Mo_makes 66 = .ok (.goto (-24), 3) := by decide +kernel
theorem d_Mo_makes_69 : decode b_Mo_makes 69 = .ok (.iload_n 3, 1) := by decide +kernel
theorem d_Mo_makes_70 : decode b_Mo_makes 70 = .ok (.ireturn, 1) := by decide +kernel
theorem d_Mo_isPlan_0 : decode b_Mo_isPlan 0 = .ok (.iload_n 1, 1) := by decide +kernel
theorem d_Mo_isPlan_1 : decode b_Mo_isPlan 1 = .ok (.iconst 0, 1) := by decide +kernel
theorem d_Mo_isPlan_2 : decode b_Mo_isPlan 2 = .ok (.aload_n 0, 1) := by decide +kernel
theorem d_Mo_isPlan_3 : decode b_Mo_isPlan 3 = .ok (.getfield 67, 3) := by decide +kernel
theorem d_Mo_isPlan_6 : decode b_Mo_isPlan 6 = .ok (.iconst 1, 1) := by decide +kernel
theorem d_Mo_isPlan_7 : decode b_Mo_isPlan 7 = .ok (.isub, 1) := by decide +kernel
theorem d_Mo_isPlan_8 : decode b_Mo_isPlan 8 = .ok (.invokestatic 80, 3) := by decide +kernel
theorem d_Mo_isPlan_11 : decode b_Mo_isPlan 11 = .ok (.ireturn, 1) := by decide +kernel
theorem d_Mo_isFitNow_0 : decode b_Mo_isFitNow 0 = .ok (.iconst 1, 1) := by decide +kernel
theorem d_Mo_isFitNow_1 : decode b_Mo_isFitNow 1 = .ok (.istore_n 1, 1) := by decide +kernel
theorem d_Mo_isFitNow_2 : decode b_Mo_isFitNow 2 = .ok (.iconst 0, 1) := by decide +kernel
theorem d_Mo_isFitNow_3 : decode b_Mo_isFitNow 3 = .ok (.istore_n 2, 1) := by decide +kernel
theorem d_Mo_isFitNow_4 : decode b_Mo_isFitNow 4 = .ok (.iload_n 2, 1) := by decide +kernel
theorem d_Mo_isFitNow_5 : decode b_Mo_isFitNow 5 = .ok (.aload_n 0, 1) := by decide +kernel
theorem d_Mo_isFitNow_6 : decode b_Mo_isFitNow 6 = .ok (.getfield 60, 3) := by decide +kernel
theorem d_Mo_isFitNow_9 : decode b_Mo_isFitNow 9 = .ok (.if_icmp .ge 61, 3) := by decide +kernel
theorem d_Mo_isFitNow_12 : decode b_Mo_isFitNow 12 = .ok (.iconst 0, 1) := by decide +kernel
theorem d_Mo_isFitNow_13 : decode b_Mo_isFitNow 13 = .ok (.istore_n 3, 1) := by decide +kernel
theorem d_Mo_isFitNow_14 : decode b_Mo_isFitNow 14 = .ok (.iload_n 3, 1) := by decide +kernel
theorem d_Mo_isFitNow_15 : decode b_Mo_isFitNow 15 = .ok (.iload_n 2, 1) := by decide +kernel
theorem d_Mo_isFitNow_16 : decode b_Mo_isFitNow 16 = .ok (.if_icmp .ge 48, 3) := by decide +kernel
theorem d_Mo_isFitNow_19 : decode b_Mo_isFitNow 19 = .ok (.iload_n 1, 1) := by decide +kernel
theorem d_Mo_isFitNow_20 : decode b_Mo_isFitNow 20 = .ok (.ifCond .eq 36, 3) := by decide +kernel
theorem d_Mo_isFitNow_23 : decode b_Mo_isFitNow 23 = .ok (.aload_n 0, 1) := by decide +kernel
theorem d_Mo_isFitNow_24 : decode b_Mo_isFitNow 24 = .ok (.getfield 13, 3) := by decide +kernel
theorem d_Mo_isFitNow_27 : decode b_Mo_isFitNow 27 = .ok (.bipush 7, 2) := by decide +kernel
theorem d_Mo_isFitNow_29 : decode b_Mo_isFitNow 29 = .ok (.iload_n 2, 1) := by decide +kernel
theorem d_Mo_isFitNow_30 : decode b_Mo_isFitNow 30 = .ok (.imul, 1) := by decide +kernel
theorem d_Mo_isFitNow_31 : decode b_Mo_isFitNow 31 = .ok (.iload_n 3, 1) := by decide +kernel
theorem d_Mo_isFitNow_32 : decode b_Mo_isFitNow 32 = .ok (.iadd, 1) := by decide +kernel
theorem d_Mo_isFitNow_33 : decode b_Mo_isFitNow 33 = .ok (.baload, 1) := by decide +kernel
theorem d_Mo_isFitNow_34 : decode b_Mo_isFitNow 34 = .ok (.ifCond .eq 18, 3) := by decide +kernel
theorem d_Mo_isFitNow_37 : decode b_Mo_isFitNow 37 = .ok (.aload_n 0, 1) := by decide +kernel
theorem d_Mo_isFitNow_38 : decode b_Mo_isFitNow 38 = .ok (.getfield 38, 3) := by decide +kernel
theorem d_Mo_isFitNow_41 : decode b_Mo_isFitNow 41 = .ok (.iload_n 2, 1) := by decide +kernel
theorem d_Mo_isFitNow_42 : decode b_Mo_isFitNow 42 = .ok (.iaload, 1) := by decide +kernel
theorem d_Mo_isFitNow_43 : decode b_Mo_isFitNow 43 = .ok (.aload_n 0, 1) := by decide +kernel
theorem d_Mo_isFitNow_44 : decode b_Mo_isFitNow 44 = .ok (.getfield 38, 3) := by decide +kernel
theorem d_Mo_isFitNow_47 : decode b_Mo_isFitNow 47 = .ok (.iload_n 3, 1) := by decide +kernel
theorem d_Mo_isFitNow_48 : decode b_Mo_isFitNow 48 = .ok (.iaload, 1) := by decide +kernel
theorem d_Mo_isFitNow_49 : decode b_Mo_isFitNow 49 = .ok (.if_icmp .eq 7, 3) := by decide +kernel
theorem d_Mo_isFitNow_52 : decode b_Mo_isFitNow 52 = .ok (.iconst 1, 1) := by decide +kernel
theorem d_Mo_isFitNow_53 : decode b_Mo_isFitNow 53 = .ok (.goto 4, 3) := by decide +kernel
theorem d_Mo_isFitNow_56 : decode b_Mo_isFitNow 56 = .ok (.iconst 0, 1) := by decide +kernel
theorem d_Mo_isFitNow_57 : decode b_Mo_isFitNow 57 = .ok (.istore_n 1, 1) := by decide +kernel
theorem d_Mo_isFitNow_58 : decode b_Mo_isFitNow 58 = .ok (.iinc 3 1, 3) := by decide +kernel
theorem d_Mo_isFitNow_61 : decode b_Mo_isFitNow 61 = .ok (.goto (-47), 3) := by decide +kernel
theorem d_Mo_isFitNow_64 : decode b_Mo_isFitNow 64 = .ok (.iinc 2 1, 3) := by decide +kernel
theorem d_Mo_isFitNow_67 : decode b_Mo_isFitNow 67 = .ok (.goto (-63), 3) := by decide +kernel
theorem d_Mo_isFitNow_70 : decode b_Mo_isFitNow 70 = .ok (.iload_n 1, 1) := by decide +kernel
theorem d_Mo_isFitNow_71 : decode b_Mo_isFitNow 71 = .ok (.ireturn, 1) := by decide +kernel
theorem d_Mo_areKept_0 : decode b_Mo_areKept 0 = .ok (.iconst 1, 1) := by decide +kernel
theorem d_Mo_areKept_1 : decode b_Mo_areKept 1 = .ok (.istore_n 1, 1) := by decide +kernel
theorem d_Mo_areKept_2 : decode b_Mo_areKept 2 = .ok (.iconst 0, 1) := by decide +kernel
theorem d_Mo_areKept_3 : decode b_Mo_areKept 3 = .ok (.istore_n 2, 1) := by decide +kernel
theorem d_Mo_areKept_4 : decode b_Mo_areKept 4 = .ok (.iload_n 2, 1) := by decide +kernel
theorem d_Mo_areKept_5 : decode b_Mo_areKept 5 = .ok (.aload_n 0, 1) := by decide +kernel
theorem d_Mo_areKept_6 : decode b_Mo_areKept 6 = .ok (.getfield 70, 3) := by decide +kernel
theorem d_Mo_areKept_9 : decode b_Mo_areKept 9 = .ok (.if_icmp .ge 112, 3) := by decide +kernel
theorem d_Mo_areKept_12 : decode b_Mo_areKept 12 = .ok (.iconst 0, 1) := by decide +kernel
theorem d_Mo_areKept_13 : decode b_Mo_areKept 13 = .ok (.istore_n 3, 1) := by decide +kernel
theorem d_Mo_areKept_14 : decode b_Mo_areKept 14 = .ok (.iload_n 3, 1) := by decide +kernel
theorem d_Mo_areKept_15 : decode b_Mo_areKept 15 = .ok (.aload_n 0, 1) := by decide +kernel
theorem d_Mo_areKept_16 : decode b_Mo_areKept 16 = .ok (.getfield 60, 3) := by decide +kernel
theorem d_Mo_areKept_19 : decode b_Mo_areKept 19 = .ok (.if_icmp .ge 96, 3) := by decide +kernel
theorem d_Mo_areKept_22 : decode b_Mo_areKept 22 = .ok (.iconst 0, 1) := by decide +kernel
theorem d_Mo_areKept_23 : decode b_Mo_areKept 23 = .ok (.istore 4, 2) := by decide +kernel
theorem d_Mo_areKept_25 : decode b_Mo_areKept 25 = .ok (.iload 4, 2) := by decide +kernel
theorem d_Mo_areKept_27 : decode b_Mo_areKept 27 = .ok (.iload_n 3, 1) := by decide +kernel
theorem d_Mo_areKept_28 : decode b_Mo_areKept 28 = .ok (.if_icmp .ge 81, 3) := by decide +kernel
theorem d_Mo_areKept_31 : decode b_Mo_areKept 31 = .ok (.aload_n 0, 1) := by decide +kernel
theorem d_Mo_areKept_32 : decode b_Mo_areKept 32 = .ok (.getfield 7, 3) := by decide +kernel
theorem d_Mo_areKept_35 : decode b_Mo_areKept 35 = .ok (.iload_n 2, 1) := by decide +kernel
theorem d_Mo_areKept_36 : decode b_Mo_areKept 36 = .ok (.iaload, 1) := by decide +kernel
theorem d_Mo_areKept_37 : decode b_Mo_areKept 37 = .ok (.iconst 3, 1) := by decide +kernel
theorem d_Mo_areKept_38 : decode b_Mo_areKept 38 = .ok (.iload_n 3, 1) := by decide +kernel
theorem d_Mo_areKept_39 : decode b_Mo_areKept 39 = .ok (.imul, 1) := by decide +kernel
theorem d_Mo_areKept_40 : decode b_Mo_areKept 40 = .ok (.ishr, 1) := by decide +kernel
theorem d_Mo_areKept_41 : decode b_Mo_areKept 41 = .ok (.bipush 7, 2) := by decide +kernel
theorem d_Mo_areKept_43 : decode b_Mo_areKept 43 = .ok (.iand, 1) := by decide +kernel
theorem d_Mo_areKept_44 : decode b_Mo_areKept 44 = .ok (.istore 5, 2) := by decide +kernel
theorem d_Mo_areKept_46 : decode b_Mo_areKept 46 = .ok (.aload_n 0, 1) := by decide +kernel
theorem d_Mo_areKept_47 : decode b_Mo_areKept 47 = .ok (.getfield 7, 3) := by decide +kernel
theorem d_Mo_areKept_50 : decode b_Mo_areKept 50 = .ok (.iload_n 2, 1) := by decide +kernel
theorem d_Mo_areKept_51 : decode b_Mo_areKept 51 = .ok (.iaload, 1) := by decide +kernel
theorem d_Mo_areKept_52 : decode b_Mo_areKept 52 = .ok (.iconst 3, 1) := by decide +kernel
theorem d_Mo_areKept_53 : decode b_Mo_areKept 53 = .ok (.iload 4, 2) := by decide +kernel
theorem d_Mo_areKept_55 : decode b_Mo_areKept 55 = .ok (.imul, 1) := by decide +kernel
theorem d_Mo_areKept_56 : decode b_Mo_areKept 56 = .ok (.ishr, 1) := by decide +kernel
theorem d_Mo_areKept_57 : decode b_Mo_areKept 57 = .ok (.bipush 7, 2) := by decide +kernel
theorem d_Mo_areKept_59 : decode b_Mo_areKept 59 = .ok (.iand, 1) := by decide +kernel
theorem d_Mo_areKept_60 : decode b_Mo_areKept 60 = .ok (.istore 6, 2) := by decide +kernel
theorem d_Mo_areKept_62 : decode b_Mo_areKept 62 = .ok (.iload_n 1, 1) := by decide +kernel
theorem d_Mo_areKept_63 : decode b_Mo_areKept 63 = .ok (.ifCond .eq 38, 3) := by decide +kernel
theorem d_Mo_areKept_66 : decode b_Mo_areKept 66 = .ok (.aload_n 0, 1) := by decide +kernel
theorem d_Mo_areKept_67 : decode b_Mo_areKept 67 = .ok (.getfield 13, 3) := by decide +kernel
theorem d_Mo_areKept_70 : decode b_Mo_areKept 70 = .ok (.bipush 7, 2) := by decide +kernel
theorem d_Mo_areKept_72 : decode b_Mo_areKept 72 = .ok (.iload_n 3, 1) := by decide +kernel
theorem d_Mo_areKept_73 : decode b_Mo_areKept 73 = .ok (.imul, 1) := by decide +kernel
theorem d_Mo_areKept_74 : decode b_Mo_areKept 74 = .ok (.iload 4, 2) := by decide +kernel
theorem d_Mo_areKept_76 : decode b_Mo_areKept 76 = .ok (.iadd, 1) := by decide +kernel
theorem d_Mo_areKept_77 : decode b_Mo_areKept 77 = .ok (.baload, 1) := by decide +kernel
theorem d_Mo_areKept_78 : decode b_Mo_areKept 78 = .ok (.ifCond .eq 19, 3) := by decide +kernel
theorem d_Mo_areKept_81 : decode b_Mo_areKept 81 = .ok (.aload_n 0, 1) := by decide +kernel
theorem d_Mo_areKept_82 : decode b_Mo_areKept 82 = .ok (.getfield 13, 3) := by decide +kernel
theorem d_Mo_areKept_85 : decode b_Mo_areKept 85 = .ok (.bipush 7, 2) := by decide +kernel
theorem d_Mo_areKept_87 : decode b_Mo_areKept 87 = .ok (.iload 5, 2) := by decide +kernel
theorem d_Mo_areKept_89 : decode b_Mo_areKept 89 = .ok (.imul, 1) := by decide +kernel
theorem d_Mo_areKept_90 : decode b_Mo_areKept 90 = .ok (.iload 6, 2) := by decide +kernel
theorem d_Mo_areKept_92 : decode b_Mo_areKept 92 = .ok (.iadd, 1) := by decide +kernel
theorem d_Mo_areKept_93 : decode b_Mo_areKept 93 = .ok (.baload, 1) := by decide +kernel
theorem d_Mo_areKept_94 : decode b_Mo_areKept 94 = .ok (.ifCond .eq 7, 3) := by decide +kernel
theorem d_Mo_areKept_97 : decode b_Mo_areKept 97 = .ok (.iconst 1, 1) := by decide +kernel
theorem d_Mo_areKept_98 : decode b_Mo_areKept 98 = .ok (.goto 4, 3) := by decide +kernel
theorem d_Mo_areKept_101 : decode b_Mo_areKept 101 = .ok (.iconst 0, 1) := by decide +kernel
theorem d_Mo_areKept_102 : decode b_Mo_areKept 102 = .ok (.istore_n 1, 1) := by decide +kernel
theorem d_Mo_areKept_103 : decode b_Mo_areKept 103 = .ok (.iinc 4 1, 3) := by decide +kernel
theorem d_Mo_areKept_106 : decode b_Mo_areKept 106 = .ok (.goto (-81), 3) := by decide +kernel
theorem d_Mo_areKept_109 : decode b_Mo_areKept 109 = .ok (.iinc 3 1, 3) := by decide +kernel
theorem d_Mo_areKept_112 : decode b_Mo_areKept 112 = .ok (.goto (-98), 3) := by decide +kernel
theorem d_Mo_areKept_115 : decode b_Mo_areKept 115 = .ok (.iinc 2 1, 3) := by decide +kernel
theorem d_Mo_areKept_118 : decode b_Mo_areKept 118 = .ok (.goto (-114), 3) := by decide +kernel
theorem d_Mo_areKept_121 : decode b_Mo_areKept 121 = .ok (.iload_n 1, 1) := by decide +kernel
theorem d_Mo_areKept_122 : decode b_Mo_areKept 122 = .ok (.ireturn, 1) := by decide +kernel
theorem d_Mo_keptBy_0 : decode b_Mo_keptBy 0 = .ok (.aload_n 0, 1) := by decide +kernel
theorem d_Mo_keptBy_1 : decode b_Mo_keptBy 1 = .ok (.getfield 29, 3) := by decide +kernel
theorem d_Mo_keptBy_4 : decode b_Mo_keptBy 4 = .ok (.iload_n 1, 1) := by decide +kernel
theorem d_Mo_keptBy_5 : decode b_Mo_keptBy 5 = .ok (.iaload, 1) := by decide +kernel
theorem d_Mo_keptBy_6 : decode b_Mo_keptBy 6 = .ok (.istore_n 3, 1) := by decide +kernel
theorem d_Mo_keptBy_7 : decode b_Mo_keptBy 7 = .ok (.iconst 0, 1) := by decide +kernel
theorem d_Mo_keptBy_8 : decode b_Mo_keptBy 8 = .ok (.istore 4, 2) := by decide +kernel
theorem d_Mo_keptBy_10 : decode b_Mo_keptBy 10 = .ok (.iconst 0, 1) := by decide +kernel
theorem d_Mo_keptBy_11 : decode b_Mo_keptBy 11 = .ok (.istore 5, 2) := by decide +kernel
theorem d_Mo_keptBy_13 : decode b_Mo_keptBy 13 = .ok (.iload 5, 2) := by decide +kernel
theorem d_Mo_keptBy_15 : decode b_Mo_keptBy 15 = .ok (.aload_n 0, 1) := by decide +kernel
theorem d_Mo_keptBy_16 : decode b_Mo_keptBy 16 = .ok (.getfield 67, 3) := by decide +kernel
theorem d_Mo_keptBy_19 : decode b_Mo_keptBy 19 = .ok (.if_icmp .ge 110, 3) := by decide +kernel
theorem d_Mo_keptBy_22 : decode b_Mo_keptBy 22 = .ok (.iload 5, 2) := by decide +kernel
theorem d_Mo_keptBy_24 : decode b_Mo_keptBy 24 = .ok (.ifCond .ne 12, 3) := by decide +kernel
theorem d_Mo_keptBy_27 : decode b_Mo_keptBy 27 = .ok (.aload_n 0, 1) := by decide +kernel
theorem d_Mo_keptBy_28 : decode b_Mo_keptBy 28 = .ok (.iload 5, 2) := by decide +kernel
theorem d_Mo_keptBy_30 : decode b_Mo_keptBy 30 = .ok (.invokevirtual 115, 3) := by decide +kernel
theorem d_Mo_keptBy_33 : decode b_Mo_keptBy 33 = .ok (.goto 7, 3) := by decide +kernel
theorem d_Mo_keptBy_36 : decode b_Mo_keptBy 36 = .ok (.aload_n 0, 1) := by decide +kernel
theorem d_Mo_keptBy_37 : decode b_Mo_keptBy 37 = .ok (.invokevirtual 118, 3) := by decide +kernel
theorem d_Mo_keptBy_40 : decode b_Mo_keptBy 40 = .ok (.iconst 1, 1) := by decide +kernel
theorem d_Mo_keptBy_41 : decode b_Mo_keptBy 41 = .ok (.istore 6, 2) := by decide +kernel
theorem d_Mo_keptBy_43 : decode b_Mo_keptBy 43 = .ok (.iconst 0, 1) := by decide +kernel
theorem d_Mo_keptBy_44 : decode b_Mo_keptBy 44 = .ok (.istore 7, 2) := by decide +kernel
theorem d_Mo_keptBy_46 : decode b_Mo_keptBy 46 = .ok (.iload 7, 2) := by decide +kernel
theorem d_Mo_keptBy_48 : decode b_Mo_keptBy 48 = .ok (.aload_n 0, 1) := by decide +kernel
theorem d_Mo_keptBy_49 : decode b_Mo_keptBy 49 = .ok (.getfield 60, 3) := by decide +kernel
theorem d_Mo_keptBy_52 : decode b_Mo_keptBy 52 = .ok (.if_icmp .ge 45, 3) := by decide +kernel
theorem d_Mo_keptBy_55 : decode b_Mo_keptBy 55 = .ok (.iload 6, 2) := by decide +kernel
theorem d_Mo_keptBy_57 : decode b_Mo_keptBy 57 = .ok (.ifCond .eq 40, 3) := by decide +kernel
theorem d_Mo_keptBy_60 : decode b_Mo_keptBy 60 = .ok (.aload_n 0, 1) := by decide +kernel
theorem d_Mo_keptBy_61 : decode b_Mo_keptBy 61 = .ok (.getfield 38, 3) := by decide +kernel
theorem d_Mo_keptBy_64 : decode b_Mo_keptBy 64 = .ok (.iload_n 3, 1) := by decide +kernel
theorem d_Mo_keptBy_65 : decode b_Mo_keptBy 65 = .ok (.iconst 3, 1) := by decide +kernel
theorem d_Mo_keptBy_66 : decode b_Mo_keptBy 66 = .ok (.iload 7, 2) := by decide +kernel
theorem d_Mo_keptBy_68 : decode b_Mo_keptBy 68 = .ok (.imul, 1) := by decide +kernel
theorem d_Mo_keptBy_69 : decode b_Mo_keptBy 69 = .ok (.ishr, 1) := by decide +kernel
theorem d_Mo_keptBy_70 : decode b_Mo_keptBy 70 = .ok (.bipush 7, 2) := by decide +kernel
theorem d_Mo_keptBy_72 : decode b_Mo_keptBy 72 = .ok (.iand, 1) := by decide +kernel
theorem d_Mo_keptBy_73 : decode b_Mo_keptBy 73 = .ok (.iaload, 1) := by decide +kernel
theorem d_Mo_keptBy_74 : decode b_Mo_keptBy 74 = .ok (.aload_n 0, 1) := by decide +kernel
theorem d_Mo_keptBy_75 : decode b_Mo_keptBy 75 = .ok (.getfield 38, 3) := by decide +kernel
theorem d_Mo_keptBy_78 : decode b_Mo_keptBy 78 = .ok (.iload 7, 2) := by decide +kernel
theorem d_Mo_keptBy_80 : decode b_Mo_keptBy 80 = .ok (.iaload, 1) := by decide +kernel
theorem d_Mo_keptBy_81 : decode b_Mo_keptBy 81 = .ok (.if_icmp .ne 7, 3) := by decide +kernel
theorem d_Mo_keptBy_84 : decode b_Mo_keptBy 84 = .ok (.iconst 1, 1) := by decide +kernel
theorem d_Mo_keptBy_85 : decode b_Mo_keptBy 85 = .ok (.goto 4, 3) := by decide +kernel
theorem d_Mo_keptBy_88 : decode b_Mo_keptBy 88 = .ok (.iconst 0, 1) := by decide +kernel
theorem d_Mo_keptBy_89 : decode b_Mo_keptBy 89 = .ok (.istore 6, 2) := by decide +kernel
theorem d_Mo_keptBy_91 : decode b_Mo_keptBy 91 = .ok (.iinc 7 1, 3) := by decide +kernel
theorem d_Mo_keptBy_94 : decode b_Mo_keptBy 94 = .ok (.goto (-48), 3) := by decide +kernel
theorem d_Mo_keptBy_97 : decode b_Mo_keptBy 97 = .ok (.iload 4, 2) := by decide +kernel
theorem d_Mo_keptBy_99 : decode b_Mo_keptBy 99 = .ok (.iload 6, 2) := by decide +kernel
theorem d_Mo_keptBy_101 : decode b_Mo_keptBy 101 = .ok (.ifCond .eq 18, 3) := by decide +kernel
theorem d_Mo_keptBy_104 : decode b_Mo_keptBy 104 = .ok (.iload_n 2, 1) := by decide +kernel
theorem d_Mo_keptBy_105 : decode b_Mo_keptBy 105 = .ok (.ifCond .eq 10, 3) := by decide +kernel
theorem d_Mo_keptBy_108 : decode b_Mo_keptBy 108 = .ok (.aload_n 0, 1) := by decide +kernel
theorem d_Mo_keptBy_109 : decode b_Mo_keptBy 109 = .ok (.invokevirtual 121, 3) := by decide +kernel
theorem d_Mo_keptBy_112 : decode b_Mo_keptBy 112 = .ok (.ifCond .eq 7, 3) := by decide +kernel
theorem d_Mo_keptBy_115 : decode b_Mo_keptBy 115 = .ok (.iconst 1, 1) := by decide +kernel
theorem d_Mo_keptBy_116 : decode b_Mo_keptBy 116 = .ok (.goto 4, 3) := by decide +kernel
theorem d_Mo_keptBy_119 : decode b_Mo_keptBy 119 = .ok (.iconst 0, 1) := by decide +kernel
theorem d_Mo_keptBy_120 : decode b_Mo_keptBy 120 = .ok (.iadd, 1) := by decide +kernel
theorem d_Mo_keptBy_121 : decode b_Mo_keptBy 121 = .ok (.istore 4, 2) := by decide +kernel
theorem d_Mo_keptBy_123 : decode b_Mo_keptBy 123 = .ok (.iinc 5 1, 3) := by decide +kernel
theorem d_Mo_keptBy_126 : decode b_Mo_keptBy 126 = .ok (.goto (-113), 3) := by decide +kernel
theorem d_Mo_keptBy_129 : decode b_Mo_keptBy 129 = .ok (.iload 4, 2) := by decide +kernel
theorem d_Mo_keptBy_131 : decode b_Mo_keptBy 131 = .ok (.ireturn, 1) := by decide +kernel
theorem d_Mo_looksOn_0 : decode b_Mo_looksOn 0 = .ok (.aload_n 0, 1) := by decide +kernel
theorem d_Mo_looksOn_1 : decode b_Mo_looksOn 1 = .ok (.getfield 60, 3) := by decide +kernel
theorem d_Mo_looksOn_4 : decode b_Mo_looksOn 4 = .ok (.iconst 1, 1) := by decide +kernel
theorem d_Mo_looksOn_5 : decode b_Mo_looksOn 5 = .ok (.isub, 1) := by decide +kernel
theorem d_Mo_looksOn_6 : decode b_Mo_looksOn 6 = .ok (.istore_n 1, 1) := by decide +kernel
theorem d_Mo_looksOn_7 : decode b_Mo_looksOn 7 = .ok (.aload_n 0, 1) := by decide +kernel
theorem d_Mo_looksOn_8 : decode b_Mo_looksOn 8 = .ok (.getfield 38, 3) := by decide +kernel
theorem d_Mo_looksOn_11 : decode b_Mo_looksOn 11 = .ok (.iload_n 1, 1) := by decide +kernel
theorem d_Mo_looksOn_12 : decode b_Mo_looksOn 12 = .ok (.iaload, 1) := by decide +kernel
theorem d_Mo_looksOn_13 : decode b_Mo_looksOn 13 = .ok (.aload_n 0, 1) := by decide +kernel
theorem d_Mo_looksOn_14 : decode b_Mo_looksOn 14 = .ok (.getfield 64, 3) := by decide +kernel
theorem d_Mo_looksOn_17 : decode b_Mo_looksOn 17 = .ok (.iconst 1, 1) := by decide +kernel
theorem d_Mo_looksOn_18 : decode b_Mo_looksOn 18 = .ok (.isub, 1) := by decide +kernel
theorem d_Mo_looksOn_19 : decode b_Mo_looksOn 19 = .ok (.if_icmp .ne 16, 3) := by decide +kernel
theorem d_Mo_looksOn_22 : decode b_Mo_looksOn 22 = .ok (.aload_n 0, 1) := by decide +kernel
theorem d_Mo_looksOn_23 : decode b_Mo_looksOn 23 = .ok (.getfield 38, 3) := by decide +kernel
theorem d_Mo_looksOn_26 : decode b_Mo_looksOn 26 = .ok (.iload_n 1, 1) := by decide +kernel
theorem d_Mo_looksOn_27 : decode b_Mo_looksOn 27 = .ok (.iconst 0, 1) := by decide +kernel
theorem d_Mo_looksOn_28 : decode b_Mo_looksOn 28 = .ok (.iastore, 1) := by decide +kernel
theorem d_Mo_looksOn_29 : decode b_Mo_looksOn 29 = .ok (.iinc 1 (-1), 3) := by decide +kernel
theorem d_Mo_looksOn_32 : decode b_Mo_looksOn 32 = .ok (.goto (-25), 3) := by decide +kernel
theorem d_Mo_looksOn_35 : decode b_Mo_looksOn 35 = .ok (.aload_n 0, 1) := by decide +kernel
theorem d_Mo_looksOn_36 : decode b_Mo_looksOn 36 = .ok (.getfield 38, 3) := by decide +kernel
theorem d_Mo_looksOn_39 : decode b_Mo_looksOn 39 = .ok (.iload_n 1, 1) := by decide +kernel
theorem d_Mo_looksOn_40 : decode b_Mo_looksOn 40 = .ok (.dup2, 1) := by decide +kernel
theorem d_Mo_looksOn_41 : decode b_Mo_looksOn 41 = .ok (.iaload, 1) := by decide +kernel
theorem d_Mo_looksOn_42 : decode b_Mo_looksOn 42 = .ok (.iconst 1, 1) := by decide +kernel
theorem d_Mo_looksOn_43 : decode b_Mo_looksOn 43 = .ok (.iadd, 1) := by decide +kernel
theorem d_Mo_looksOn_44 : decode b_Mo_looksOn 44 = .ok (.iastore, 1) := by decide +kernel
theorem d_Mo_looksOn_45 : decode b_Mo_looksOn 45 = .ok (.return_, 1) := by decide +kernel
theorem d_Mo_keeps_0 : decode b_Mo_keeps 0 = .ok (.aload_n 0, 1) := by decide +kernel
theorem d_Mo_keeps_1 : decode b_Mo_keeps 1 = .ok (.iload_n 1, 1) := by decide +kernel
theorem d_Mo_keeps_2 : decode b_Mo_keeps 2 = .ok (.invokevirtual 109, 3) := by decide +kernel
theorem d_Mo_keeps_5 : decode b_Mo_keeps 5 = .ok (.ifCond .eq 12, 3) := by decide +kernel
theorem d_Mo_keeps_8 : decode b_Mo_keeps 8 = .ok (.aload_n 0, 1) := by decide +kernel
theorem d_Mo_keeps_9 : decode b_Mo_keeps 9 = .ok (.iload_n 1, 1) := by decide +kernel
theorem d_Mo_keeps_10 : decode b_Mo_keeps 10 = .ok (.iconst 0, 1) := by decide +kernel
theorem d_Mo_keeps_11 : decode b_Mo_keeps 11 = .ok (.invokevirtual 125, 3) := by decide +kernel
theorem d_Mo_keeps_14 : decode b_Mo_keeps 14 = .ok (.goto 4, 3) := by decide +kernel
theorem d_Mo_keeps_17 : decode b_Mo_keeps 17 = .ok (.iconst (-1), 1) := by decide +kernel
theorem d_Mo_keeps_18 : decode b_Mo_keeps 18 = .ok (.ireturn, 1) := by decide +kernel
theorem d_Mo_keepsFit_0 : decode b_Mo_keepsFit 0 = .ok (.aload_n 0, 1) := by decide +kernel
theorem d_Mo_keepsFit_1 : decode b_Mo_keepsFit 1 = .ok (.invokevirtual 129, 3) := by decide +kernel
theorem d_Mo_keepsFit_4 : decode b_Mo_keepsFit 4 = .ok (.ifCond .ne 6, 3) := by decide +kernel
theorem d_Mo_keepsFit_7 : decode b_Mo_keepsFit 7 = .ok (.bipush (-3), 2) := by decide +kernel
theorem d_Mo_keepsFit_9 : decode b_Mo_keepsFit 9 = .ok (.ireturn, 1) := by decide +kernel
theorem d_Mo_keepsFit_10 : decode b_Mo_keepsFit 10 = .ok (.aload_n 0, 1) := by decide +kernel
theorem d_Mo_keepsFit_11 : decode b_Mo_keepsFit 11 = .ok (.iload_n 1, 1) := by decide +kernel
theorem d_Mo_keepsFit_12 : decode b_Mo_keepsFit 12 = .ok (.invokevirtual 109, 3) := by decide +kernel
theorem d_Mo_keepsFit_15 : decode b_Mo_keepsFit 15 = .ok (.ifCond .eq 12, 3) := by decide +kernel
theorem d_Mo_keepsFit_18 : decode b_Mo_keepsFit 18 = .ok (.aload_n 0, 1) := by decide +kernel
theorem d_Mo_keepsFit_19 : decode b_Mo_keepsFit 19 = .ok (.iload_n 1, 1) := by decide +kernel
theorem d_Mo_keepsFit_20 : decode b_Mo_keepsFit 20 = .ok (.iconst 1, 1) := by decide +kernel
theorem d_Mo_keepsFit_21 : decode b_Mo_keepsFit 21 = .ok (.invokevirtual 125, 3) := by decide +kernel
theorem d_Mo_keepsFit_24 : decode b_Mo_keepsFit 24 = .ok (.goto 4, 3) := by decide +kernel
theorem d_Mo_keepsFit_27 : decode b_Mo_keepsFit 27 = .ok (.iconst (-1), 1) := by decide +kernel
theorem d_Mo_keepsFit_28 : decode b_Mo_keepsFit 28 = .ok (.ireturn, 1) := by decide +kernel
theorem d_Mo_findOrbits_0 : decode b_Mo_findOrbits 0 = .ok (.aload_n 0, 1) := by decide +kernel
theorem d_Mo_findOrbits_1 : decode b_Mo_findOrbits 1 = .ok (.getfield 77, 3) := by decide +kernel
theorem d_Mo_findOrbits_4 : decode b_Mo_findOrbits 4 = .ok (.ifCond .eq 4, 3) := by decide +kernel
theorem d_Mo_findOrbits_7 : decode b_Mo_findOrbits 7 = .ok (.return_, 1) := by decide +kernel
theorem d_Mo_findOrbits_8 : decode b_Mo_findOrbits 8 = .ok (.aload_n 0, 1) := by decide +kernel
theorem d_Mo_findOrbits_9 : decode b_Mo_findOrbits 9 = .ok (.iconst 1, 1) := by decide +kernel
theorem d_Mo_findOrbits_10 : decode b_Mo_findOrbits 10 = .ok (.putfield 77, 3) := by decide +kernel
theorem d_Mo_findOrbits_13 : decode b_Mo_findOrbits 13 = .ok (.iconst 0, 1) := by decide +kernel
theorem d_Mo_findOrbits_14 : decode b_Mo_findOrbits 14 = .ok (.istore_n 1, 1) := by decide +kernel
theorem d_Mo_findOrbits_15 : decode b_Mo_findOrbits 15 = .ok (.iload_n 1, 1) := by decide +kernel
theorem d_Mo_findOrbits_16 : decode b_Mo_findOrbits 16 = .ok (.sipush 16384, 3) := by decide +kernel
theorem d_Mo_findOrbits_19 : decode b_Mo_findOrbits 19 = .ok (.if_icmp .ge 23, 3) := by decide +kernel
theorem d_Mo_findOrbits_22 : decode b_Mo_findOrbits 22 = .ok (.aload_n 0, 1) := by decide +kernel
theorem d_Mo_findOrbits_23 : decode b_Mo_findOrbits 23 = .ok (.getfield 44, 3) := by decide +kernel
theorem d_Mo_findOrbits_26 : decode b_Mo_findOrbits 26 = .ok (.iload_n 1, 1) := by decide +kernel
theorem d_Mo_findOrbits_27 : decode b_Mo_findOrbits 27 = .ok (.iconst (-1), 1) := by decide +kernel
theorem d_Mo_findOrbits_28 : decode b_Mo_findOrbits 28 = .ok (.iastore, 1) := by decide +kernel
theorem d_Mo_findOrbits_29 : decode b_Mo_findOrbits 29 = .ok (.aload_n 0, 1) := by decide +kernel
theorem d_Mo_findOrbits_30 : decode b_Mo_findOrbits 30 = .ok (.getfield 47, 3) := by decide +kernel
theorem d_Mo_findOrbits_33 : decode b_Mo_findOrbits 33 = .ok (.iload_n 1, 1) := by decide +kernel
theorem d_Mo_findOrbits_34 : decode b_Mo_findOrbits 34 = .ok (.iconst 0, 1) := by decide +kernel
theorem d_Mo_findOrbits_35 : decode b_Mo_findOrbits 35 = .ok (.iastore, 1) := by decide +kernel
theorem d_Mo_findOrbits_36 : decode b_Mo_findOrbits 36 = .ok (.iinc 1 1, 3) := by decide +kernel
theorem d_Mo_findOrbits_39 : decode b_Mo_findOrbits 39 = .ok (.goto (-24), 3) := by decide +kernel
theorem d_Mo_findOrbits_42 : decode b_Mo_findOrbits 42 = .ok (.aload_n 0, 1) := by decide +kernel
theorem d_Mo_findOrbits_43 : decode b_Mo_findOrbits 43 = .ok (.iconst 0, 1) := by decide +kernel
theorem d_Mo_findOrbits_44 : decode b_Mo_findOrbits 44 = .ok (.putfield 132, 3) := by decide +kernel
theorem d_Mo_findOrbits_47 : decode b_Mo_findOrbits 47 = .ok (.iconst 0, 1) := by decide +kernel
theorem d_Mo_findOrbits_48 : decode b_Mo_findOrbits 48 = .ok (.istore_n 1, 1) := by decide +kernel
theorem d_Mo_findOrbits_49 : decode b_Mo_findOrbits 49 = .ok (.iload_n 1, 1) := by decide +kernel
theorem d_Mo_findOrbits_50 : decode b_Mo_findOrbits 50 = .ok (.aload_n 0, 1) := by decide +kernel
theorem d_Mo_findOrbits_51 : decode b_Mo_findOrbits 51 = .ok (.getfield 67, 3) := by decide +kernel
theorem d_Mo_findOrbits_54 : decode b_Mo_findOrbits 54 = .ok (.if_icmp .ge 54, 3) := by decide +kernel
theorem d_Mo_findOrbits_57 : decode b_Mo_findOrbits 57 = .ok (.aload_n 0, 1) := by decide +kernel
theorem d_Mo_findOrbits_58 : decode b_Mo_findOrbits 58 = .ok (.getfield 44, 3) := by decide +kernel
theorem d_Mo_findOrbits_61 : decode b_Mo_findOrbits 61 = .ok (.iload_n 1, 1) := by decide +kernel
theorem d_Mo_findOrbits_62 : decode b_Mo_findOrbits 62 = .ok (.iaload, 1) := by decide +kernel
theorem d_Mo_findOrbits_63 : decode b_Mo_findOrbits 63 = .ok (.iconst (-1), 1) := by decide +kernel
theorem d_Mo_findOrbits_64 : decode b_Mo_findOrbits 64 = .ok (.if_icmp .ne 38, 3) := by decide +kernel
theorem d_Mo_findOrbits_67 : decode b_Mo_findOrbits 67 = .ok (.aload_n 0, 1) := by decide +kernel
theorem d_Mo_findOrbits_68 : decode b_Mo_findOrbits 68 = .ok (.getfield 53, 3) := by decide +kernel
theorem d_Mo_findOrbits_71 : decode b_Mo_findOrbits 71 = .ok (.iload_n 1, 1) := by decide +kernel
theorem d_Mo_findOrbits_72 : decode b_Mo_findOrbits 72 = .ok (.aload_n 0, 1) := by decide +kernel
theorem d_Mo_findOrbits_73 : decode b_Mo_findOrbits 73 = .ok (.getfield 132, 3) := by decide +kernel
theorem d_Mo_findOrbits_76 : decode b_Mo_findOrbits 76 = .ok (.iastore, 1) := by decide +kernel
theorem d_Mo_findOrbits_77 : decode b_Mo_findOrbits 77 = .ok (.aload_n 0, 1) := by decide +kernel
theorem d_Mo_findOrbits_78 : decode b_Mo_findOrbits 78 = .ok (.getfield 50, 3) := by decide +kernel
theorem d_Mo_findOrbits_81 : decode b_Mo_findOrbits 81 = .ok (.aload_n 0, 1) := by decide +kernel
theorem d_Mo_findOrbits_82 : decode b_Mo_findOrbits 82 = .ok (.getfield 132, 3) := by decide +kernel
theorem d_Mo_findOrbits_85 : decode b_Mo_findOrbits 85 = .ok (.iload_n 1, 1) := by decide +kernel
theorem d_Mo_findOrbits_86 : decode b_Mo_findOrbits 86 = .ok (.iastore, 1) := by decide +kernel
theorem d_Mo_findOrbits_87 : decode b_Mo_findOrbits 87 = .ok (.aload_n 0, 1) := by decide +kernel
theorem d_Mo_findOrbits_88 : decode b_Mo_findOrbits 88 = .ok (.dup, 1) := by decide +kernel
theorem d_Mo_findOrbits_89 : decode b_Mo_findOrbits 89 = .ok (.getfield 132, 3) := by decide +kernel
theorem d_Mo_findOrbits_92 : decode b_Mo_findOrbits 92 = .ok (.iconst 1, 1) := by decide +kernel
theorem d_Mo_findOrbits_93 : decode b_Mo_findOrbits 93 = .ok (.iadd, 1) := by decide +kernel
theorem d_Mo_findOrbits_94 : decode b_Mo_findOrbits 94 = .ok (.putfield 132, 3) := by decide +kernel
theorem d_Mo_findOrbits_97 : decode b_Mo_findOrbits 97 = .ok (.aload_n 0, 1) := by decide +kernel
theorem d_Mo_findOrbits_98 : decode b_Mo_findOrbits 98 = .ok (.iload_n 1, 1) := by decide +kernel
theorem d_Mo_findOrbits_99 : decode b_Mo_findOrbits 99 = .ok (.invokevirtual 135, 3) := by decide +kernel
theorem d_Mo_findOrbits_102 : decode b_Mo_findOrbits 102 = .ok (.iinc 1 1, 3) := by decide +kernel
theorem d_Mo_findOrbits_105 : decode b_Mo_findOrbits 105 = .ok (.goto (-56), 3) := by decide +kernel
theorem d_Mo_findOrbits_108 : decode b_Mo_findOrbits 108 = .ok (.return_, 1) := by decide +kernel
theorem d_Mo_joins_0 : decode b_Mo_joins 0 = .ok (.iconst 1, 1) := by decide +kernel
theorem d_Mo_joins_1 : decode b_Mo_joins 1 = .ok (.istore_n 2, 1) := by decide +kernel
theorem d_Mo_joins_2 : decode b_Mo_joins 2 = .ok (.aload_n 0, 1) := by decide +kernel
