theorem d_Mo_init_0 : decode b_Mo_init 0 = .ok (.aload_n 0, 1) := by decide +kernel
theorem d_Mo_init_1 : decode b_Mo_init 1 = .ok (.invokespecial 1, 3) := by decide +kernel
theorem d_Mo_init_4 : decode b_Mo_init 4 = .ok (.aload_n 0, 1) := by decide +kernel
theorem d_Mo_init_5 : decode b_Mo_init 5 = .ok (.iconst 5, 1) := by decide +kernel
theorem d_Mo_init_6 : decode b_Mo_init 6 = .ok (.newarray .int, 2) := by decide +kernel
theorem d_Mo_init_8 : decode b_Mo_init 8 = .ok (.putfield 7, 3) := by decide +kernel
theorem d_Mo_init_11 : decode b_Mo_init 11 = .ok (.aload_n 0, 1) := by decide +kernel
theorem d_Mo_init_12 : decode b_Mo_init 12 = .ok (.bipush 49, 2) := by decide +kernel
theorem d_Mo_init_14 : decode b_Mo_init 14 = .ok (.newarray .boolean, 2) := by decide +kernel
theorem d_Mo_init_16 : decode b_Mo_init 16 = .ok (.putfield 13, 3) := by decide +kernel
theorem d_Mo_init_19 : decode b_Mo_init 19 = .ok (.aload_n 0, 1) := by decide +kernel
theorem d_Mo_init_20 : decode b_Mo_init 20 = .ok (.iconst 4, 1) := by decide +kernel
theorem d_Mo_init_21 : decode b_Mo_init 21 = .ok (.newarray .int, 2) := by decide +kernel
theorem d_Mo_init_23 : decode b_Mo_init 23 = .ok (.putfield 17, 3) := by decide +kernel
theorem d_Mo_init_26 : decode b_Mo_init 26 = .ok (.aload_n 0, 1) := by decide +kernel
theorem d_Mo_init_27 : decode b_Mo_init 27 = .ok (.bipush 7, 2) := by decide +kernel
theorem d_Mo_init_29 : decode b_Mo_init 29 = .ok (.newarray .int, 2) := by decide +kernel
theorem d_Mo_init_31 : decode b_Mo_init 31 = .ok (.putfield 20, 3) := by decide +kernel
theorem d_Mo_init_34 : decode b_Mo_init 34 = .ok (.aload_n 0, 1) := by decide +kernel
theorem d_Mo_init_35 : decode b_Mo_init 35 = .ok (.bipush 8, 2) := by decide +kernel
theorem d_Mo_init_37 : decode b_Mo_init 37 = .ok (.newarray .int, 2) := by decide +kernel
theorem d_Mo_init_39 : decode b_Mo_init 39 = .ok (.dup, 1) := by decide +kernel
theorem d_Mo_init_40 : decode b_Mo_init 40 = .ok (.iconst 0, 1) := by decide +kernel
theorem d_Mo_init_41 : decode b_Mo_init 41 = .ok (.iconst 1, 1) := by decide +kernel
theorem d_Mo_init_42 : decode b_Mo_init 42 = .ok (.iastore, 1) := by decide +kernel
theorem d_Mo_init_43 : decode b_Mo_init 43 = .ok (.dup, 1) := by decide +kernel
theorem d_Mo_init_44 : decode b_Mo_init 44 = .ok (.iconst 1, 1) := by decide +kernel
theorem d_Mo_init_45 : decode b_Mo_init 45 = .ok (.iconst 1, 1) := by decide +kernel
theorem d_Mo_init_46 : decode b_Mo_init 46 = .ok (.iastore, 1) := by decide +kernel
theorem d_Mo_init_47 : decode b_Mo_init 47 = .ok (.dup, 1) := by decide +kernel
theorem d_Mo_init_48 : decode b_Mo_init 48 = .ok (.iconst 2, 1) := by decide +kernel
theorem d_Mo_init_49 : decode b_Mo_init 49 = .ok (.iconst 2, 1) := by decide +kernel
theorem d_Mo_init_50 : decode b_Mo_init 50 = .ok (.iastore, 1) := by decide +kernel
theorem d_Mo_init_51 : decode b_Mo_init 51 = .ok (.dup, 1) := by decide +kernel
theorem d_Mo_init_52 : decode b_Mo_init 52 = .ok (.iconst 3, 1) := by decide +kernel
theorem d_Mo_init_53 : decode b_Mo_init 53 = .ok (.bipush 6, 2) := by decide +kernel
theorem d_Mo_init_55 : decode b_Mo_init 55 = .ok (.iastore, 1) := by decide +kernel
theorem d_Mo_init_56 : decode b_Mo_init 56 = .ok (.dup, 1) := by decide +kernel
theorem d_Mo_init_57 : decode b_Mo_init 57 = .ok (.iconst 4, 1) := by decide +kernel
theorem d_Mo_init_58 : decode b_Mo_init 58 = .ok (.bipush 24, 2) := by decide +kernel
theorem d_Mo_init_60 : decode b_Mo_init 60 = .ok (.iastore, 1) := by decide +kernel
theorem d_Mo_init_61 : decode b_Mo_init 61 = .ok (.dup, 1) := by decide +kernel
theorem d_Mo_init_62 : decode b_Mo_init 62 = .ok (.iconst 5, 1) := by decide +kernel
theorem d_Mo_init_63 : decode b_Mo_init 63 = .ok (.bipush 120, 2) := by decide +kernel
theorem d_Mo_init_65 : decode b_Mo_init 65 = .ok (.iastore, 1) := by decide +kernel
theorem d_Mo_init_66 : decode b_Mo_init 66 = .ok (.dup, 1) := by decide +kernel
theorem d_Mo_init_67 : decode b_Mo_init 67 = .ok (.bipush 6, 2) := by decide +kernel
theorem d_Mo_init_69 : decode b_Mo_init 69 = .ok (.sipush 720, 3) := by decide +kernel
theorem d_Mo_init_72 : decode b_Mo_init 72 = .ok (.iastore, 1) := by decide +kernel
theorem d_Mo_init_73 : decode b_Mo_init 73 = .ok (.dup, 1) := by decide +kernel
theorem d_Mo_init_74 : decode b_Mo_init 74 = .ok (.bipush 7, 2) := by decide +kernel
theorem d_Mo_init_76 : decode b_Mo_init 76 = .ok (.sipush 5040, 3) := by decide +kernel
theorem d_Mo_init_79 : decode b_Mo_init 79 = .ok (.iastore, 1) := by decide +kernel
theorem d_Mo_init_80 : decode b_Mo_init 80 = .ok (.putfield 23, 3) := by decide +kernel
theorem d_Mo_init_83 : decode b_Mo_init 83 = .ok (.aload_n 0, 1) := by decide +kernel
theorem d_Mo_init_84 : decode b_Mo_init 84 = .ok (.sipush 5040, 3) := by decide +kernel
theorem d_Mo_init_87 : decode b_Mo_init 87 = .ok (.newarray .boolean, 2) := by decide +kernel
theorem d_Mo_init_89 : decode b_Mo_init 89 = .ok (.putfield 26, 3) := by decide +kernel
theorem d_Mo_init_92 : decode b_Mo_init 92 = .ok (.aload_n 0, 1) := by decide +kernel
theorem d_Mo_init_93 : decode b_Mo_init 93 = .ok (.sipush 5040, 3) := by decide +kernel
theorem d_Mo_init_96 : decode b_Mo_init 96 = .ok (.newarray .int, 2) := by decide +kernel
theorem d_Mo_init_98 : decode b_Mo_init 98 = .ok (.putfield 29, 3) := by decide +kernel
theorem d_Mo_init_101 : decode b_Mo_init 101 = .ok (.aload_n 0, 1) := by decide +kernel
theorem d_Mo_init_102 : decode b_Mo_init 102 = .ok (.sipush 5040, 3) := by decide +kernel
theorem d_Mo_init_105 : decode b_Mo_init 105 = .ok (.newarray .int, 2) := by decide +kernel
theorem d_Mo_init_107 : decode b_Mo_init 107 = .ok (.putfield 32, 3) := by decide +kernel
theorem d_Mo_init_110 : decode b_Mo_init 110 = .ok (.aload_n 0, 1) := by decide +kernel
theorem d_Mo_init_111 : decode b_Mo_init 111 = .ok (.sipush 16384, 3) := by decide +kernel
theorem d_Mo_init_114 : decode b_Mo_init 114 = .ok (.newarray .int, 2) := by decide +kernel
theorem d_Mo_init_116 : decode b_Mo_init 116 = .ok (.putfield 35, 3) := by decide +kernel
theorem d_Mo_init_119 : decode b_Mo_init 119 = .ok (.aload_n 0, 1) := by decide +kernel
theorem d_Mo_init_120 : decode b_Mo_init 120 = .ok (.bipush 7, 2) := by decide +kernel
theorem d_Mo_init_122 : decode b_Mo_init 122 = .ok (.newarray .int, 2) := by decide +kernel
theorem d_Mo_init_124 : decode b_Mo_init 124 = .ok (.putfield 38, 3) := by decide +kernel
theorem d_Mo_init_127 : decode b_Mo_init 127 = .ok (.aload_n 0, 1) := by decide +kernel
theorem d_Mo_init_128 : decode b_Mo_init 128 = .ok (.bipush 7, 2) := by decide +kernel
theorem d_Mo_init_130 : decode b_Mo_init 130 = .ok (.newarray .int, 2) := by decide +kernel
theorem d_Mo_init_132 : decode b_Mo_init 132 = .ok (.putfield 41, 3) := by decide +kernel
theorem d_Mo_init_135 : decode b_Mo_init 135 = .ok (.aload_n 0, 1) := by decide +kernel
theorem d_Mo_init_136 : decode b_Mo_init 136 = .ok (.sipush 16384, 3) := by decide +kernel
theorem d_Mo_init_139 : decode b_Mo_init 139 = .ok (.newarray .int, 2) := by decide +kernel
theorem d_Mo_init_141 : decode b_Mo_init 141 = .ok (.putfield 44, 3) := by decide +kernel
theorem d_Mo_init_144 : decode b_Mo_init 144 = .ok (.aload_n 0, 1) := by decide +kernel
theorem d_Mo_init_145 : decode b_Mo_init 145 = .ok (.sipush 16384, 3) := by decide +kernel
theorem d_Mo_init_148 : decode b_Mo_init 148 = .ok (.newarray .int, 2) := by decide +kernel
theorem d_Mo_init_150 : decode b_Mo_init 150 = .ok (.putfield 47, 3) := by decide +kernel
theorem d_Mo_init_153 : decode b_Mo_init 153 = .ok (.aload_n 0, 1) := by decide +kernel
theorem d_Mo_init_154 : decode b_Mo_init 154 = .ok (.sipush 16384, 3) := by decide +kernel
theorem d_Mo_init_157 : decode b_Mo_init 157 = .ok (.newarray .int, 2) := by decide +kernel
theorem d_Mo_init_159 : decode b_Mo_init 159 = .ok (.putfield 50, 3) := by decide +kernel
theorem d_Mo_init_162 : decode b_Mo_init 162 = .ok (.aload_n 0, 1) := by decide +kernel
theorem d_Mo_init_163 : decode b_Mo_init 163 = .ok (.sipush 16384, 3) := by decide +kernel
theorem d_Mo_init_166 : decode b_Mo_init 166 = .ok (.newarray .int, 2) := by decide +kernel
theorem d_Mo_init_168 : decode b_Mo_init 168 = .ok (.putfield 53, 3) := by decide +kernel
theorem d_Mo_init_171 : decode b_Mo_init 171 = .ok (.aload_n 0, 1) := by decide +kernel
theorem d_Mo_init_172 : decode b_Mo_init 172 = .ok (.iconst 1, 1) := by decide +kernel
theorem d_Mo_init_173 : decode b_Mo_init 173 = .ok (.iconst 1, 1) := by decide +kernel
theorem d_Mo_init_174 : decode b_Mo_init 174 = .ok (.invokevirtual 56, 3) := by decide +kernel
theorem d_Mo_init_177 : decode b_Mo_init 177 = .ok (.return_, 1) := by decide +kernel
theorem d_Mo_within_0 : decode b_Mo_within 0 = .ok (.iload_n 0, 1) := by decide +kernel
theorem d_Mo_within_1 : decode b_Mo_within 1 = .ok (.iload_n 1, 1) := by decide +kernel
theorem d_Mo_within_2 : decode b_Mo_within 2 = .ok (.if_icmp .lt 12, 3) := by decide +kernel
theorem d_Mo_within_5 : decode b_Mo_within 5 = .ok (.iload_n 0, 1) := by decide +kernel
theorem d_Mo_within_6 : decode b_Mo_within 6 = .ok (.iload_n 2, 1) := by decide +kernel
theorem d_Mo_within_7 : decode b_Mo_within 7 = .ok (.if_icmp .gt 7, 3) := by decide +kernel
theorem d_Mo_within_10 : decode b_Mo_within 10 = .ok (.iconst 1, 1) := by decide +kernel
theorem d_Mo_within_11 : decode b_Mo_within 11 = .ok (.goto 4, 3) := by decide +kernel
theorem d_Mo_within_14 : decode b_Mo_within 14 = .ok (.iconst 0, 1) := by decide +kernel
theorem d_Mo_within_15 : decode b_Mo_within 15 = .ok (.ireturn, 1) := by decide +kernel
theorem d_Mo_begins_0 : decode b_Mo_begins 0 = .ok (.aload_n 0, 1) := by decide +kernel
theorem d_Mo_begins_1 : decode b_Mo_begins 1 = .ok (.iload_n 1, 1) := by decide +kernel
theorem d_Mo_begins_2 : decode b_Mo_begins 2 = .ok (.putfield 60, 3) := by decide +kernel
theorem d_Mo_begins_5 : decode b_Mo_begins 5 = .ok (.aload_n 0, 1) := by decide +kernel
theorem d_Mo_begins_6 : decode b_Mo_begins 6 = .ok (.iload_n 2, 1) := by decide +kernel
theorem d_Mo_begins_7 : decode b_Mo_begins 7 = .ok (.putfield 64, 3) := by decide +kernel
theorem d_Mo_begins_10 : decode b_Mo_begins 10 = .ok (.aload_n 0, 1) := by decide +kernel
theorem d_Mo_begins_11 : decode b_Mo_begins 11 = .ok (.iconst 1, 1) := by decide +kernel
theorem d_Mo_begins_12 : decode b_Mo_begins 12 = .ok (.putfield 67, 3) := by decide +kernel
theorem d_Mo_begins_15 : decode b_Mo_begins 15 = .ok (.iconst 0, 1) := by decide +kernel
theorem d_Mo_begins_16 : decode b_Mo_begins 16 = .ok (.istore_n 3, 1) := by decide +kernel
theorem d_Mo_begins_17 : decode b_Mo_begins 17 = .ok (.iload_n 3, 1) := by decide +kernel
theorem d_Mo_begins_18 : decode b_Mo_begins 18 = .ok (.aload_n 0, 1) := by decide +kernel
theorem d_Mo_begins_19 : decode b_Mo_begins 19 = .ok (.getfield 60, 3) := by decide +kernel
theorem d_Mo_begins_22 : decode b_Mo_begins 22 = .ok (.if_icmp .ge 22, 3) := by decide +kernel
theorem d_Mo_begins_25 : decode b_Mo_begins 25 = .ok (.aload_n 0, 1) := by decide +kernel
theorem d_Mo_begins_26 : decode b_Mo_begins 26 = .ok (.aload_n 0, 1) := by decide +kernel
theorem d_Mo_begins_27 : decode b_Mo_begins 27 = .ok (.getfield 67, 3) := by decide +kernel
theorem d_Mo_begins_30 : decode b_Mo_begins 30 = .ok (.aload_n 0, 1) := by decide +kernel
theorem d_Mo_begins_31 : decode b_Mo_begins 31 = .ok (.getfield 64, 3) := by decide +kernel
theorem d_Mo_begins_34 : decode b_Mo_begins 34 = .ok (.imul, 1) := by decide +kernel
theorem d_Mo_begins_35 : decode b_Mo_begins 35 = .ok (.putfield 67, 3) := by decide +kernel
theorem d_Mo_begins_38 : decode b_Mo_begins 38 = .ok (.iinc 3 1, 3) := by decide +kernel
theorem d_Mo_begins_41 : decode b_Mo_begins 41 = .ok (.goto (-24), 3) := by decide +kernel
theorem d_Mo_begins_44 : decode b_Mo_begins 44 = .ok (.aload_n 0, 1) := by decide +kernel
theorem d_Mo_begins_45 : decode b_Mo_begins 45 = .ok (.iconst 0, 1) := by decide +kernel
theorem d_Mo_begins_46 : decode b_Mo_begins 46 = .ok (.putfield 70, 3) := by decide +kernel
theorem d_Mo_begins_49 : decode b_Mo_begins 49 = .ok (.iconst 0, 1) := by decide +kernel
theorem d_Mo_begins_50 : decode b_Mo_begins 50 = .ok (.istore_n 3, 1) := by decide +kernel
theorem d_Mo_begins_51 : decode b_Mo_begins 51 = .ok (.iload_n 3, 1) := by decide +kernel
theorem d_Mo_begins_52 : decode b_Mo_begins 52 = .ok (.bipush 49, 2) := by decide +kernel
theorem d_Mo_begins_54 : decode b_Mo_begins 54 = .ok (.if_icmp .ge 16, 3) := by decide +kernel
theorem d_Mo_begins_57 : decode b_Mo_begins 57 = .ok (.aload_n 0, 1) := by decide +kernel
theorem d_Mo_begins_58 : decode b_Mo_begins 58 = .ok (.getfield 13, 3) := by decide +kernel
theorem d_Mo_begins_61 : decode b_Mo_begins 61 = .ok (.iload_n 3, 1) := by decide +kernel
theorem d_Mo_begins_62 : decode b_Mo_begins 62 = .ok (.iconst 0, 1) := by decide +kernel
theorem d_Mo_begins_63 : decode b_Mo_begins 63 = .ok (.bastore, 1) := by decide +kernel
theorem d_Mo_begins_64 : decode b_Mo_begins 64 = .ok (.iinc 3 1, 3) := by decide +kernel
theorem d_Mo_begins_67 : decode b_Mo_begins 67 = .ok (.goto (-16), 3) := by decide +kernel
theorem d_Mo_begins_70 : decode b_Mo_begins 70 = .ok (.iconst 0, 1) := by decide +kernel
theorem d_Mo_begins_71 : decode b_Mo_begins 71 = .ok (.istore_n 3, 1) := by decide +kernel
theorem d_Mo_begins_72 : decode b_Mo_begins 72 = .ok (.iload_n 3, 1) := by decide +kernel
theorem d_Mo_begins_73 : decode b_Mo_begins 73 = .ok (.iconst 4, 1) := by decide +kernel
theorem d_Mo_begins_74 : decode b_Mo_begins 74 = .ok (.if_icmp .ge 16, 3) := by decide +kernel
theorem d_Mo_begins_77 : decode b_Mo_begins 77 = .ok (.aload_n 0, 1) := by decide +kernel
theorem d_Mo_begins_78 : decode b_Mo_begins 78 = .ok (.getfield 17, 3) := by decide +kernel
theorem d_Mo_begins_81 : decode b_Mo_begins 81 = .ok (.iload_n 3, 1) := by decide +kernel
theorem d_Mo_begins_82 : decode b_Mo_begins 82 = .ok (.iconst 1, 1) := by decide +kernel
theorem d_Mo_begins_83 : decode b_Mo_begins 83 = .ok (.iastore, 1) := by decide +kernel
theorem d_Mo_begins_84 : decode b_Mo_begins 84 = .ok (.iinc 3 1, 3) := by decide +kernel
theorem d_Mo_begins_87 : decode b_Mo_begins 87 = .ok (.goto (-15), 3) := by decide +kernel
theorem d_Mo_begins_90 : decode b_Mo_begins 90 = .ok (.aload_n 0, 1) := by decide +kernel
theorem d_Mo_begins_91 : decode b_Mo_begins 91 = .ok (.iconst 0, 1) := by decide +kernel
theorem d_Mo_begins_92 : decode b_Mo_begins 92 = .ok (.putfield 73, 3) := by decide +kernel
theorem d_Mo_begins_95 : decode b_Mo_begins 95 = .ok (.aload_n 0, 1) := by decide +kernel
theorem d_Mo_begins_96 : decode b_Mo_begins 96 = .ok (.iconst 0, 1) := by decide +kernel
theorem d_Mo_begins_97 : decode b_Mo_begins 97 = .ok (.putfield 77, 3) := by decide +kernel
theorem d_Mo_begins_100 : decode b_Mo_begins 100 = .ok (.return_, 1) := by decide +kernel
theorem d_Mo_set_0 : decode b_Mo_set 0 = .ok (.iload_n 1, 1) := by decide +kernel
theorem d_Mo_set_1 : decode b_Mo_set 1 = .ok (.iconst 1, 1) := by decide +kernel
theorem d_Mo_set_2 : decode b_Mo_set 2 = .ok (.bipush 7, 2) := by decide +kernel
theorem d_Mo_set_4 : decode b_Mo_set 4 = .ok (.invokestatic 80, 3) := by decide +kernel
theorem d_Mo_set_7 : decode b_Mo_set 7 = .ok (.ifCond .eq 12, 3) := by decide +kernel
theorem d_Mo_set_10 : decode b_Mo_set 10 = .ok (.iload_n 2, 1) := by decide +kernel
theorem d_Mo_set_11 : decode b_Mo_set 11 = .ok (.iconst 1, 1) := by decide +kernel
theorem d_Mo_set_12 : decode b_Mo_set 12 = .ok (.iconst 4, 1) := by decide +kernel
theorem d_Mo_set_13 : decode b_Mo_set 13 = .ok (.invokestatic 80, 3) := by decide +kernel
theorem d_Mo_set_16 : decode b_Mo_set 16 = .ok (.ifCond .ne 6, 3) := by decide +kernel
theorem d_Mo_set_19 : decode b_Mo_set 19 = .ok (.bipush (-2), 2) := by decide +kernel
theorem d_Mo_set_21 : decode b_Mo_set 21 = .ok (.ireturn, 1) := by decide +kernel
theorem d_Mo_set_22 : decode b_Mo_set 22 = .ok (.aload_n 0, 1) := by decide +kernel
theorem d_Mo_set_23 : decode b_Mo_set 23 = .ok (.iload_n 1, 1) := by decide +kernel
theorem d_Mo_set_24 : decode b_Mo_set 24 = .ok (.iload_n 2, 1) := by decide +kernel
theorem d_Mo_set_25 : decode b_Mo_set 25 = .ok (.invokevirtual 56, 3) := by decide +kernel
theorem d_Mo_set_28 : decode b_Mo_set 28 = .ok (.aload_n 0, 1) := by decide +kernel
theorem d_Mo_set_29 : decode b_Mo_set 29 = .ok (.getfield 67, 3) := by decide +kernel
theorem d_Mo_set_32 : decode b_Mo_set 32 = .ok (.ireturn, 1) := by decide +kernel
theorem d_Mo_reads_0 : decode b_Mo_reads 0 = .ok (.iconst 0, 1) := by decide +kernel
theorem d_Mo_reads_1 : decode b_Mo_reads 1 = .ok (.istore_n 2, 1) := by decide +kernel
theorem d_Mo_reads_2 : decode b_Mo_reads 2 = .ok (.iload_n 1, 1) := by decide +kernel
theorem d_Mo_reads_3 : decode b_Mo_reads 3 = .ok (.ifCond .lt 18, 3) := by decide +kernel
theorem d_Mo_reads_6 : decode b_Mo_reads 6 = .ok (.iload_n 1, 1) := by decide +kernel
theorem d_Mo_reads_7 : decode b_Mo_reads 7 = .ok (.iconst 3, 1) := by decide +kernel
theorem d_Mo_reads_8 : decode b_Mo_reads 8 = .ok (.aload_n 0, 1) := by decide +kernel
theorem d_Mo_reads_9 : decode b_Mo_reads 9 = .ok (.getfield 60, 3) := by decide +kernel
theorem d_Mo_reads_12 : decode b_Mo_reads 12 = .ok (.imul, 1) := by decide +kernel
theorem d_Mo_reads_13 : decode b_Mo_reads 13 = .ok (.ishr, 1) := by decide +kernel
theorem d_Mo_reads_14 : decode b_Mo_reads 14 = .ok (.ifCond .ne 7, 3) := by decide +kernel
theorem d_Mo_reads_17 : decode b_Mo_reads 17 = .ok (.iconst 1, 1) := by decide +kernel
theorem d_Mo_reads_18 : decode b_Mo_reads 18 = .ok (.goto 4, 3) := by decide +kernel
theorem d_Mo_reads_21 : decode b_Mo_reads 21 = .ok (.iconst 0, 1) := by decide +kernel
theorem d_Mo_reads_22 : decode b_Mo_reads 22 = .ok (.istore_n 3, 1) := by decide +kernel
theorem d_Mo_reads_23 : decode b_Mo_reads 23 = .ok (.iconst 0, 1) := by decide +kernel
theorem d_Mo_reads_24 : decode b_Mo_reads 24 = .ok (.istore 4, 2) := by decide +kernel
theorem d_Mo_reads_26 : decode b_Mo_reads 26 = .ok (.iload 4, 2) := by decide +kernel
theorem d_Mo_reads_28 : decode b_Mo_reads 28 = .ok (.aload_n 0, 1) := by decide +kernel
theorem d_Mo_reads_29 : decode b_Mo_reads 29 = .ok (.getfield 60, 3) := by decide +kernel
theorem d_Mo_reads_32 : decode b_Mo_reads 32 = .ok (.if_icmp .ge 75, 3) := by decide +kernel
theorem d_Mo_reads_35 : decode b_Mo_reads 35 = .ok (.iload_n 3, 1) := by decide +kernel
theorem d_Mo_reads_36 : decode b_Mo_reads 36 = .ok (.ifCond .eq 71, 3) := by decide +kernel
theorem d_Mo_reads_39 : decode b_Mo_reads 39 = .ok (.aload_n 0, 1) := by decide +kernel
theorem d_Mo_reads_40 : decode b_Mo_reads 40 = .ok (.getfield 20, 3) := by decide +kernel
theorem d_Mo_reads_43 : decode b_Mo_reads 43 = .ok (.iload 4, 2) := by decide +kernel
theorem d_Mo_reads_45 : decode b_Mo_reads 45 = .ok (.iload_n 1, 1) := by decide +kernel
theorem d_Mo_reads_46 : decode b_Mo_reads 46 = .ok (.iconst 3, 1) := by decide +kernel
theorem d_Mo_reads_47 : decode b_Mo_reads 47 = .ok (.iload 4, 2) := by decide +kernel
theorem d_Mo_reads_49 : decode b_Mo_reads 49 = .ok (.imul, 1) := by decide +kernel
theorem d_Mo_reads_50 : decode b_Mo_reads 50 = .ok (.ishr, 1) := by decide +kernel
theorem d_Mo_reads_51 : decode b_Mo_reads 51 = .ok (.bipush 7, 2) := by decide +kernel
theorem d_Mo_reads_53 : decode b_Mo_reads 53 = .ok (.iand, 1) := by decide +kernel
theorem d_Mo_reads_54 : decode b_Mo_reads 54 = .ok (.iastore, 1) := by decide +kernel
theorem d_Mo_reads_55 : decode b_Mo_reads 55 = .ok (.aload_n 0, 1) := by decide +kernel
theorem d_Mo_reads_56 : decode b_Mo_reads 56 = .ok (.getfield 20, 3) := by decide +kernel
theorem d_Mo_reads_59 : decode b_Mo_reads 59 = .ok (.iload 4, 2) := by decide +kernel
theorem d_Mo_reads_61 : decode b_Mo_reads 61 = .ok (.iaload, 1) := by decide +kernel
theorem d_Mo_reads_62 : decode b_Mo_reads 62 = .ok (.aload_n 0, 1) := by decide +kernel
theorem d_Mo_reads_63 : decode b_Mo_reads 63 = .ok (.getfield 60, 3) := by decide +kernel
theorem d_Mo_reads_66 : decode b_Mo_reads 66 = .ok (.if_icmp .ge 21, 3) := by decide +kernel
theorem d_Mo_reads_69 : decode b_Mo_reads 69 = .ok (.iload_n 2, 1) := by decide +kernel
theorem d_Mo_reads_70 : decode b_Mo_reads 70 = .ok (.aload_n 0, 1) := by decide +kernel
theorem d_Mo_reads_71 : decode b_Mo_reads 71 = .ok (.getfield 20, 3) := by decide +kernel
theorem d_Mo_reads_74 : decode b_Mo_reads 74 = .ok (.iload 4, 2) := by decide +kernel
theorem d_Mo_reads_76 : decode b_Mo_reads 76 = .ok (.iaload, 1) := by decide +kernel
theorem d_Mo_reads_77 : decode b_Mo_reads 77 = .ok (.ishr, 1) := by decide +kernel
theorem d_Mo_reads_78 : decode b_Mo_reads 78 = .ok (.iconst 1, 1) := by decide +kernel
theorem d_Mo_reads_79 : decode b_Mo_reads 79 = .ok (.iand, 1) := by decide +kernel
theorem d_Mo_reads_80 : decode b_Mo_reads 80 = .ok (.ifCond .ne 7, 3) := by decide +kernel
theorem d_Mo_reads_83 : decode b_Mo_reads 83 = .ok (.iconst 1, 1) := by decide +kernel
theorem d_Mo_reads_84 : decode b_Mo_reads 84 = .ok (.goto 4, 3) := by decide +kernel
theorem d_Mo_reads_87 : decode b_Mo_reads 87 = .ok (.iconst 0, 1) := by decide +kernel
theorem d_Mo_reads_88 : decode b_Mo_reads 88 = .ok (.istore_n 3, 1) := by decide +kernel
theorem d_Mo_reads_89 : decode b_Mo_reads 89 = .ok (.iload_n 2, 1) := by decide +kernel
theorem d_Mo_reads_90 : decode b_Mo_reads 90 = .ok (.iconst 1, 1) := by decide +kernel
theorem d_Mo_reads_91 : decode b_Mo_reads 91 = .ok (.aload_n 0, 1) := by decide +kernel
theorem d_Mo_reads_92 : decode b_Mo_reads 92 = .ok (.getfield 20, 3) := by decide +kernel
theorem d_Mo_reads_95 : decode b_Mo_reads 95 = .ok (.iload 4, 2) := by decide +kernel
theorem d_Mo_reads_97 : decode b_Mo_reads 97 = .ok (.iaload, 1) := by decide +kernel
theorem d_Mo_reads_98 : decode b_Mo_reads 98 = .ok (.ishl, 1) := by decide +kernel
theorem d_Mo_reads_99 : decode b_Mo_reads 99 = .ok (.ior, 1) := by decide +kernel
theorem d_Mo_reads_100 : decode b_Mo_reads 100 = .ok (.istore_n 2, 1) := by decide +kernel
theorem d_Mo_reads_101 : decode b_Mo_reads 101 = .ok (.iinc 4 1, 3) := by decide +kernel
theorem d_Mo_reads_104 : decode b_Mo_reads 104 = .ok (.goto (-78), 3) := by decide +kernel
theorem d_Mo_reads_107 : decode b_Mo_reads 107 = .ok (.iload_n 3, 1) := by decide +kernel
theorem d_Mo_reads_108 : decode b_Mo_reads 108 = .ok (.ireturn, 1) := by decide +kernel
theorem d_Mo_rowAtHand_0 : decode b_Mo_rowAtHand 0 = .ok (.iconst 0, 1) := by decide +kernel
theorem d_Mo_rowAtHand_1 : decode b_Mo_rowAtHand 1 = .ok (.istore_n 1, 1) := by decide +kernel
theorem d_Mo_rowAtHand_2 : decode b_Mo_rowAtHand 2 = .ok (.iconst 0, 1) := by decide +kernel
theorem d_Mo_rowAtHand_3 : decode b_Mo_rowAtHand 3 = .ok (.istore_n 2, 1) := by decide +kernel
theorem d_Mo_rowAtHand_4 : decode b_Mo_rowAtHand 4 = .ok (.iload_n 2, 1) := by decide +kernel
theorem d_Mo_rowAtHand_5 : decode b_Mo_rowAtHand 5 = .ok (.aload_n 0, 1) := by decide +kernel
theorem d_Mo_rowAtHand_6 : decode b_Mo_rowAtHand 6 = .ok (.getfield 60, 3) := by decide +kernel
theorem d_Mo_rowAtHand_9 : decode b_Mo_rowAtHand 9 = .ok (.if_icmp .ge 22, 3) := by decide +kernel
theorem d_Mo_rowAtHand_12 : decode b_Mo_rowAtHand 12 = .ok (.iload_n 1, 1) := by decide +kernel
theorem d_Mo_rowAtHand_13 : decode b_Mo_rowAtHand 13 = .ok (.aload_n 0, 1) := by decide +kernel
theorem d_Mo_rowAtHand_14 : decode b_Mo_rowAtHand 14 = .ok (.getfield 20, 3) := by decide +kernel
theorem d_Mo_rowAtHand_17 : decode b_Mo_rowAtHand 17 = .ok (.iload_n 2, 1) := by decide +kernel
theorem d_Mo_rowAtHand_18 : decode b_Mo_rowAtHand 18 = .ok (.iaload, 1) := by decide +kernel
theorem d_Mo_rowAtHand_19 : decode b_Mo_rowAtHand 19 = .ok (.iconst 3, 1) := by decide +kernel
theorem d_Mo_rowAtHand_20 : decode b_Mo_rowAtHand 20 = .ok (.iload_n 2, 1) := by decide +kernel
theorem d_Mo_rowAtHand_21 : decode b_Mo_rowAtHand 21 = .ok (.imul, 1) := by decide +kernel
theorem d_Mo_rowAtHand_22 : decode b_Mo_rowAtHand 22 = .ok (.ishl, 1) := by decide +kernel
theorem d_Mo_rowAtHand_23 : decode b_Mo_rowAtHand 23 = .ok (.ior, 1) := by decide +kernel
theorem d_Mo_rowAtHand_24 : decode b_Mo_rowAtHand 24 = .ok (.istore_n 1, 1) := by decide +kernel
theorem d_Mo_rowAtHand_25 : decode b_Mo_rowAtHand 25 = .ok (.iinc 2 1, 3) := by decide +kernel
theorem d_Mo_rowAtHand_28 : decode b_Mo_rowAtHand 28 = .ok (.goto (-24), 3) := by decide +kernel
theorem d_Mo_rowAtHand_31 : decode b_Mo_rowAtHand 31 = .ok (.iload_n 1, 1) := by decide +kernel
theorem d_Mo_rowAtHand_32 : decode b_Mo_rowAtHand 32 = .ok (.ireturn, 1) := by decide +kernel
theorem d_Mo_factorial_0 : decode b_Mo_factorial 0 = .ok (.aload_n 0, 1) := by decide +kernel
theorem d_Mo_factorial_1 : decode b_Mo_factorial 1 = .ok (.getfield 23, 3) := by decide +kernel
theorem d_Mo_factorial_4 : decode b_Mo_factorial 4 = .ok (.iload_n 1, 1) := by decide +kernel
theorem d_Mo_factorial_5 : decode b_Mo_factorial 5 = .ok (.iaload, 1) := by decide +kernel
theorem d_Mo_factorial_6 : decode b_Mo_factorial 6 = .ok (.ireturn, 1) := by decide +kernel
theorem d_Mo_placeAtHand_0 : decode b_Mo_placeAtHand 0 = .ok (.iconst 0, 1) := by decide +kernel
theorem d_Mo_placeAtHand_1 : decode b_Mo_placeAtHand 1 = .ok (.istore_n 1, 1) := by decide +kernel
theorem d_Mo_placeAtHand_2 : decode b_Mo_placeAtHand 2 = .ok (.iconst 0, 1) := by decide +kernel
theorem d_Mo_placeAtHand_3 : decode b_Mo_placeAtHand 3 = .ok (.istore_n 2, 1) := by decide +kernel
theorem d_Mo_placeAtHand_4 : decode b_Mo_placeAtHand 4 = .ok (.iload_n 2, 1) := by decide +kernel
theorem d_Mo_placeAtHand_5 : decode b_Mo_placeAtHand 5 = .ok (.aload_n 0, 1) := by decide +kernel
theorem d_Mo_placeAtHand_6 : decode b_Mo_placeAtHand 6 = .ok (.getfield 60, 3) := by decide +kernel
theorem d_Mo_placeAtHand_9 : decode b_Mo_placeAtHand 9 = .ok (.if_icmp .ge 72, 3) := by decide +kernel
theorem d_Mo_placeAtHand_12 : decode b_Mo_placeAtHand 12 = .ok (.iconst 0, 1) := by decide +kernel
theorem d_Mo_placeAtHand_13 : decode b_Mo_placeAtHand 13 = .ok (.istore_n 3, 1) := by decide +kernel
theorem d_Mo_placeAtHand_14 : decode b_Mo_placeAtHand 14 = .ok (.iload_n 2, 1) := by decide +kernel
theorem d_Mo_placeAtHand_15 : decode b_Mo_placeAtHand 15 = .ok (.iconst 1, 1) := by decide +kernel
theorem d_Mo_placeAtHand_16 : decode b_Mo_placeAtHand 16 = .ok (.iadd, 1) := by decide +kernel
theorem d_Mo_placeAtHand_17 : decode b_Mo_placeAtHand 17 = .ok (.istore 4, 2) := by decide +kernel
theorem d_Mo_placeAtHand_19 : decode b_Mo_placeAtHand 19 = .ok (.iload 4, 2) := by decide +kernel
theorem d_Mo_placeAtHand_21 : decode b_Mo_placeAtHand 21 = .ok (.aload_n 0, 1) := by decide +kernel
theorem d_Mo_placeAtHand_22 : decode b_Mo_placeAtHand 22 = .ok (.getfield 60, 3) := by decide +kernel
theorem d_Mo_placeAtHand_25 : decode b_Mo_placeAtHand 25 = .ok (.if_icmp .ge 33, 3) := by decide +kernel
theorem d_Mo_placeAtHand_28 : decode b_Mo_placeAtHand 28 = .ok (.iload_n 3, 1) := by decide +kernel
theorem d_Mo_placeAtHand_29 : decode b_Mo_placeAtHand 29 = .ok (.aload_n 0, 1) := by decide +kernel
theorem d_Mo_placeAtHand_30 : decode b_Mo_placeAtHand 30 = .ok (.getfield 20, 3) := by decide +kernel
theorem d_Mo_placeAtHand_33 : decode b_Mo_placeAtHand 33 = .ok (.iload 4, 2) := by decide +kernel
theorem d_Mo_placeAtHand_35 : decode b_Mo_placeAtHand 35 = .ok (.iaload, 1) := by decide +kernel
theorem d_Mo_placeAtHand_36 : decode b_Mo_placeAtHand 36 = .ok (.aload_n 0, 1) := by decide +kernel
theorem d_Mo_placeAtHand_37 : decode b_Mo_placeAtHand 37 = .ok (.getfield 20, 3) := by decide +kernel
theorem d_Mo_placeAtHand_40 : decode b_Mo_placeAtHand 40 = .ok (.iload_n 2, 1) := by decide +kernel
theorem d_Mo_placeAtHand_41 : decode b_Mo_placeAtHand 41 = .ok (.iaload, 1) := by decide +kernel
theorem d_Mo_placeAtHand_42 : decode b_Mo_placeAtHand 42 = .ok (.if_icmp .ge 7, 3) := by decide +kernel
theorem d_Mo_placeAtHand_45 : decode b_Mo_placeAtHand 45 = .ok (.iconst 1, 1) := by decide +kernel
theorem d_Mo_placeAtHand_46 : decode b_Mo_placeAtHand 46 = .ok (.goto 4, 3) := by decide +kernel
theorem d_Mo_placeAtHand_49 : decode b_Mo_placeAtHand 49 = .ok (.iconst 0, 1) := by decide +kernel
theorem d_Mo_placeAtHand_50 : decode b_Mo_placeAtHand 50 = .ok (.iadd, 1) := by decide +kernel
theorem d_Mo_placeAtHand_51 : decode b_Mo_placeAtHand 51 = .ok (.istore_n 3, 1) := by decide +kernel
theorem d_Mo_placeAtHand_52 : decode b_Mo_placeAtHand 52 = .ok (.iinc 4 1, 3) := by decide +kernel
theorem d_Mo_placeAtHand_55 : decode b_Mo_placeAtHand 55 = .ok (.goto (-36), 3) := by decide +kernel
theorem d_Mo_placeAtHand_58 : decode b_Mo_placeAtHand 58 = .ok (.iload_n 1, 1) := by decide +kernel
theorem d_Mo_placeAtHand_59 : decode b_Mo_placeAtHand 59 = .ok (.iload_n 3, 1) := by decide +kernel
theorem d_Mo_placeAtHand_60 : decode b_Mo_placeAtHand 60 = .ok (.aload_n 0, 1) := by decide +kernel
theorem d_Mo_placeAtHand_61 : decode b_Mo_placeAtHand 61 = .ok (.aload_n 0, 1) := by decide +kernel
theorem d_Mo_placeAtHand_62 : decode b_Mo_placeAtHand 62 = .ok (.getfield 60, 3) := by decide +kernel
theorem d_Mo_placeAtHand_65 : decode b_Mo_placeAtHand 65 = .ok (.iconst 1, 1) := by decide +kernel
theorem d_Mo_placeAtHand_66 : decode b_Mo_placeAtHand 66 = .ok (.isub, 1) := by decide +kernel
theorem d_Mo_placeAtHand_67 : decode b_Mo_placeAtHand 67 = .ok (.iload_n 2, 1) := by decide +kernel
theorem d_Mo_placeAtHand_68 : decode b_Mo_placeAtHand 68 = .ok (.isub, 1) := by decide +kernel
theorem d_Mo_placeAtHand_69 : decode b_Mo_placeAtHand 69 = .ok (.invokevirtual 84, 3) := by decide +kernel
theorem d_Mo_placeAtHand_72 : decode b_Mo_placeAtHand 72 = .ok (.imul, 1) := by decide +kernel
theorem d_Mo_placeAtHand_73 : decode b_Mo_placeAtHand 73 = .ok (.iadd, 1) := by decide +kernel
theorem d_Mo_placeAtHand_74 : decode b_Mo_placeAtHand 74 = .ok (.istore_n 1, 1) := by decide +kernel
theorem d_Mo_placeAtHand_75 : decode b_Mo_placeAtHand 75 = .ok (.iinc 2 1, 3) := by decide +kernel
theorem d_Mo_placeAtHand_78 : decode b_Mo_placeAtHand 78 = .ok (.goto (-74), 3) := by decide +kernel
theorem d_Mo_placeAtHand_81 : decode b_Mo_placeAtHand 81 = .ok (.iload_n 1, 1) := by decide +kernel
theorem d_Mo_placeAtHand_82 : decode b_Mo_placeAtHand 82 = .ok (.ireturn, 1) := by decide +kernel
theorem d_Mo_take_0 : decode b_Mo_take 0 = .ok (.iload_n 1, 1) := by decide +kernel
theorem d_Mo_take_1 : decode b_Mo_take 1 = .ok (.istore_n 2, 1) := by decide +kernel
theorem d_Mo_take_2 : decode b_Mo_take 2 = .ok (.iconst 0, 1) := by decide +kernel
theorem d_Mo_take_3 : decode b_Mo_take 3 = .ok (.istore_n 3, 1) := by decide +kernel
theorem d_Mo_take_4 : decode b_Mo_take 4 = .ok (.iconst 0, 1) := by decide +kernel
theorem d_Mo_take_5 : decode b_Mo_take 5 = .ok (.istore 4, 2) := by decide +kernel
theorem d_Mo_take_7 : decode b_Mo_take 7 = .ok (.iload 4, 2) := by decide +kernel
theorem d_Mo_take_9 : decode b_Mo_take 9 = .ok (.aload_n 0, 1) := by decide +kernel
theorem d_Mo_take_10 : decode b_Mo_take 10 = .ok (.getfield 60, 3) := by decide +kernel
theorem d_Mo_take_13 : decode b_Mo_take 13 = .ok (.if_icmp .ge 95, 3) := by decide +kernel
theorem d_Mo_take_16 : decode b_Mo_take 16 = .ok (.aload_n 0, 1) := by decide +kernel
theorem d_Mo_take_17 : decode b_Mo_take 17 = .ok (.aload_n 0, 1) := by decide +kernel
theorem d_Mo_take_18 : decode b_Mo_take 18 = .ok (.getfield 60, 3) := by decide +kernel
theorem d_Mo_take_21 : decode b_Mo_take 21 = .ok (.iconst 1, 1) := by decide +kernel
theorem d_Mo_take_22 : decode b_Mo_take 22 = .ok (.isub, 1) := by decide +kernel
theorem d_Mo_take_23 : decode b_Mo_take 23 = .ok (.iload 4, 2) := by decide +kernel
theorem d_Mo_take_25 : decode b_Mo_take 25 = .ok (.isub, 1) := by decide +kernel
theorem d_Mo_take_26 : decode b_Mo_take 26 = .ok (.invokevirtual 84, 3) := by decide +kernel
theorem d_Mo_take_29 : decode b_Mo_take 29 = .ok (.istore 5, 2) := by decide +kernel
theorem d_Mo_take_31 : decode b_Mo_take 31 = .ok (.iload_n 2, 1) := by decide +kernel
theorem d_Mo_take_32 : decode b_Mo_take 32 = .ok (.iload 5, 2) := by decide +kernel
theorem d_Mo_take_34 : decode b_Mo_take 34 = .ok (.idiv, 1) := by decide +kernel
theorem d_Mo_take_35 : decode b_Mo_take 35 = .ok (.istore 6, 2) := by decide +kernel
theorem d_Mo_take_37 : decode b_Mo_take 37 = .ok (.iload_n 2, 1) := by decide +kernel
theorem d_Mo_take_38 : decode b_Mo_take 38 = .ok (.iload 5, 2) := by decide +kernel
theorem d_Mo_take_40 : decode b_Mo_take 40 = .ok (.irem, 1) := by decide +kernel
theorem d_Mo_take_41 : decode b_Mo_take 41 = .ok (.istore_n 2, 1) := by decide +kernel
theorem d_Mo_take_42 : decode b_Mo_take 42 = .ok (.iconst 0, 1) := by decide +kernel
theorem d_Mo_take_43 : decode b_Mo_take 43 = .ok (.istore 7, 2) := by decide +kernel
theorem d_Mo_take_45 : decode b_Mo_take 45 = .ok (.iload_n 3, 1) := by decide +kernel
theorem d_Mo_take_46 : decode b_Mo_take 46 = .ok (.iload 7, 2) := by decide +kernel
theorem d_Mo_take_48 : decode b_Mo_take 48 = .ok (.ishr, 1) := by decide +kernel
theorem d_Mo_take_49 : decode b_Mo_take 49 = .ok (.iconst 1, 1) := by decide +kernel
theorem d_Mo_take_50 : decode b_Mo_take 50 = .ok (.iand, 1) := by decide +kernel
theorem d_Mo_take_51 : decode b_Mo_take 51 = .ok (.iconst 1, 1) := by decide +kernel
theorem d_Mo_take_52 : decode b_Mo_take 52 = .ok (.if_icmp .eq 8, 3) := by decide +kernel
theorem d_Mo_take_55 : decode b_Mo_take 55 = .ok (.iload 6, 2) := by decide +kernel
theorem d_Mo_take_57 : decode b_Mo_take 57 = .ok (.ifCond .le 29, 3) := by decide +kernel
theorem d_Mo_take_60 : decode b_Mo_take 60 = .ok (.iload 6, 2) := by decide +kernel
theorem d_Mo_take_62 : decode b_Mo_take 62 = .ok (.iload_n 3, 1) := by decide +kernel
theorem d_Mo_take_63 : decode b_Mo_take 63 = .ok (.iload 7, 2) := by decide +kernel
theorem d_Mo_take_65 : decode b_Mo_take 65 = .ok (.ishr, 1) := by decide +kernel
theorem d_Mo_take_66 : decode b_Mo_take 66 = .ok (.iconst 1, 1) := by decide +kernel
theorem d_Mo_take_67 : decode b_Mo_take 67 = .ok (.iand, 1) := by decide +kernel
theorem d_Mo_take_68 : decode b_Mo_take 68 = .ok (.iconst 1, 1) := by decide +kernel
theorem d_Mo_take_69 : decode b_Mo_take 69 = .ok (.if_icmp .ne 7, 3) := by decide +kernel
theorem d_Mo_take_72 : decode b_Mo_take 72 = .ok (.iconst 0, 1) := by decide +kernel
theorem d_Mo_take_73 : decode b_Mo_take 73 = .ok (.goto 4, 3) := by decide +kernel
theorem d_Mo_take_76 : decode b_Mo_take 76 = .ok (.iconst 1, 1) := by decide +kernel
theorem d_Mo_take_77 : decode b_Mo_take 77 = .ok (.isub, 1) := by decide +kernel
theorem d_Mo_take_78 : decode b_Mo_take 78 = .ok (.istore 6, 2) := by decide +kernel
theorem d_Mo_take_80 : decode b_Mo_take 80 = .ok (.iinc 7 1, 3) := by decide +kernel
theorem d_Mo_take_83 : decode b_Mo_take 83 = .ok (.goto (-38), 3) := by decide +kernel
theorem d_Mo_take_86 : decode b_Mo_take 86 = .ok (.aload_n 0, 1) := by decide +kernel
theorem d_Mo_take_87 : decode b_Mo_take 87 = .ok (.getfield 20, 3) := by decide +kernel
theorem d_Mo_take_90 : decode b_Mo_take 90 = .ok (.iload 4, 2) := by decide +kernel
theorem d_Mo_take_92 : decode b_Mo_take 92 = .ok (.iload 7, 2) := by decide +kernel
theorem d_Mo_take_94 : decode b_Mo_take 94 = .ok (.iastore, 1) := by decide +kernel
theorem d_Mo_take_95 : decode b_Mo_take 95 = .ok (.iload_n 3, 1) := by decide +kernel
theorem d_Mo_take_96 : decode b_Mo_take 96 = .ok (.iconst 1, 1) := by decide +kernel
theorem d_Mo_take_97 : decode b_Mo_take 97 = .ok (.iload 7, 2) := by decide +kernel
theorem d_Mo_take_99 : decode b_Mo_take 99 = .ok (.ishl, 1) := by decide +kernel
theorem d_Mo_take_100 : decode b_Mo_take 100 = .ok (.ior, 1) := by decide +kernel
theorem d_Mo_take_101 : decode b_Mo_take 101 = .ok (.istore_n 3, 1) := by decide +kernel
theorem d_Mo_take_102 : decode b_Mo_take 102 = .ok (.iinc 4 1, 3) := by decide +kernel
theorem d_Mo_take_105 : decode b_Mo_take 105 = .ok (.goto (-98), 3) := by decide +kernel
theorem d_Mo_take_108 : decode b_Mo_take 108 = .ok (.return_, 1) := by decide +kernel
theorem d_Mo_move_0 : decode b_Mo_move 0 = .ok (.aload_n 0, 1) := by decide +kernel
theorem d_Mo_move_1 : decode b_Mo_move 1 = .ok (.iload_n 1, 1) := by decide +kernel
theorem d_Mo_move_2 : decode b_Mo_move 2 = .ok (.invokevirtual 88, 3) := by decide +kernel
theorem d_Mo_move_5 : decode b_Mo_move 5 = .ok (.ifCond .ne 6, 3) := by decide +kernel
theorem d_Mo_move_8 : decode b_Mo_move 8 = .ok (.bipush (-2), 2) := by decide +kernel
theorem d_Mo_move_10 : decode b_Mo_move 10 = .ok (.ireturn, 1) := by decide +kernel
theorem d_Mo_move_11 : decode b_Mo_move 11 = .ok (.aload_n 0, 1) := by decide +kernel
theorem d_Mo_move_12 : decode b_Mo_move 12 = .ok (.getfield 70, 3) := by decide +kernel
theorem d_Mo_move_15 : decode b_Mo_move 15 = .ok (.iconst 5, 1) := by decide +kernel
theorem d_Mo_move_16 : decode b_Mo_move 16 = .ok (.if_icmp .ne 6, 3) := by decide +kernel
theorem d_Mo_move_19 : decode b_Mo_move 19 = .ok (.bipush (-4), 2) := by decide +kernel
theorem d_Mo_move_21 : decode b_Mo_move 21 = .ok (.ireturn, 1) := by decide +kernel
theorem d_Mo_move_22 : decode b_Mo_move 22 = .ok (.aload_n 0, 1) := by decide +kernel
theorem d_Mo_move_23 : decode b_Mo_move 23 = .ok (.getfield 7, 3) := by decide +kernel
theorem d_Mo_move_26 : decode b_Mo_move 26 = .ok (.aload_n 0, 1) := by decide +kernel
theorem d_Mo_move_27 : decode b_Mo_move 27 = .ok (.getfield 70, 3) := by decide +kernel
theorem d_Mo_move_30 : decode b_Mo_move 30 = .ok (.iload_n 1, 1) := by decide +kernel
theorem d_Mo_move_31 : decode b_Mo_move 31 = .ok (.iastore, 1) := by decide +kernel
theorem d_Mo_move_32 : decode b_Mo_move 32 = .ok (.aload_n 0, 1) := by decide +kernel
theorem d_Mo_move_33 : decode b_Mo_move 33 = .ok (.dup, 1) := by decide +kernel
theorem d_Mo_move_34 : decode b_Mo_move 34 = .ok (.getfield 70, 3) := by decide +kernel
theorem d_Mo_move_37 : decode b_Mo_move 37 = .ok (.iconst 1, 1) := by decide +kernel
theorem d_Mo_move_38 : decode b_Mo_move 38 = .ok (.iadd, 1) := by decide +kernel
theorem d_Mo_move_39 : decode b_Mo_move 39 = .ok (.putfield 70, 3) := by decide +kernel
theorem d_Mo_move_42 : decode b_Mo_move 42 = .ok (.aload_n 0, 1) := by decide +kernel
theorem d_Mo_move_43 : decode b_Mo_move 43 = .ok (.iconst 0, 1) := by decide +kernel
theorem d_Mo_move_44 : decode b_Mo_move 44 = .ok (.putfield 73, 3) := by decide +kernel
theorem d_Mo_move_47 : decode b_Mo_move 47 = .ok (.aload_n 0, 1) := by decide +kernel
theorem d_Mo_move_48 : decode b_Mo_move 48 = .ok (.iconst 0, 1) := by decide +kernel
theorem d_Mo_move_49 : decode b_Mo_move 49 = .ok (.putfield 77, 3) := by decide +kernel
theorem d_Mo_move_52 : decode b_Mo_move 52 = .ok (.aload_n 0, 1) := by decide +kernel
theorem d_Mo_move_53 : decode b_Mo_move 53 = .ok (.getfield 70, 3) := by decide +kernel
theorem d_Mo_move_56 : decode b_Mo_move 56 = .ok (.ireturn, 1) := by decide +kernel
theorem d_Mo_back_0 : decode b_Mo_back 0 = .ok (.aload_n 0, 1) := by decide +kernel
theorem d_Mo_back_1 : decode b_Mo_back 1 = .ok (.getfield 70, 3) := by decide +kernel
theorem d_Mo_back_4 : decode b_Mo_back 4 = .ok (.ifCond .ne 5, 3) := by decide +kernel
theorem d_Mo_back_7 : decode b_Mo_back 7 = .ok (.iconst (-1), 1) := by decide +kernel
theorem d_Mo_back_8 : decode b_Mo_back 8 = .ok (.ireturn, 1) := by decide +kernel
theorem d_Mo_back_9 : decode b_Mo_back 9 = .ok (.aload_n 0, 1) := by decide +kernel
theorem d_Mo_back_10 : decode b_Mo_back 10 = .ok (.dup, 1) := by decide +kernel
theorem d_Mo_back_11 : decode b_Mo_back 11 = .ok (.getfield 70, 3) := by decide +kernel
theorem d_Mo_back_14 : decode b_Mo_back 14 = .ok (.iconst 1, 1) := by decide +kernel
theorem d_Mo_back_15 : decode b_Mo_back 15 = .ok (.isub, 1) := by decide +kernel
theorem d_Mo_back_16 : decode b_Mo_back 16 = .ok (.putfield 70, 3) := by decide +kernel
theorem d_Mo_back_19 : decode b_Mo_back 19 = .ok (.aload_n 0, 1) := by decide +kernel
theorem d_Mo_back_20 : decode b_Mo_back 20 = .ok (.iconst 0, 1) := by decide +kernel
theorem d_Mo_back_21 : decode b_Mo_back 21 = .ok (.putfield 73, 3) := by decide +kernel
theorem d_Mo_back_24 : decode b_Mo_back 24 = .ok (.aload_n 0, 1) := by decide +kernel
theorem d_Mo_back_25 : decode b_Mo_back 25 = .ok (.iconst 0, 1) := by decide +kernel
theorem d_Mo_back_26 : decode b_Mo_back 26 = .ok (.putfield 77, 3) := by decide +kernel
theorem d_Mo_back_29 : decode b_Mo_back 29 = .ok (.aload_n 0, 1) := by decide +kernel
theorem d_Mo_back_30 : decode b_Mo_back 30 = .ok (.getfield 70, 3) := by decide +kernel
theorem d_Mo_back_33 : decode b_Mo_back 33 = .ok (.ireturn, 1) := by decide +kernel
theorem d_Mo_edge_0 : decode b_Mo_edge 0 = .ok (.iload_n 1, 1) := by decide +kernel
theorem d_Mo_edge_1 : decode b_Mo_edge 1 = .ok (.iconst 0, 1) := by decide +kernel
theorem d_Mo_edge_2 : decode b_Mo_edge 2 = .ok (.aload_n 0, 1) := by decide +kernel
theorem d_Mo_edge_3 : decode b_Mo_edge 3 = .ok (.getfield 60, 3) := by decide +kernel
theorem d_Mo_edge_6 : decode b_Mo_edge 6 = .ok (.iconst 1, 1) := by decide +kernel
theorem d_Mo_edge_7 : decode b_Mo_edge 7 = .ok (.isub, 1) := by decide +kernel
theorem d_Mo_edge_8 : decode b_Mo_edge 8 = .ok (.invokestatic 80, 3) := by decide +kernel
theorem d_Mo_edge_11 : decode b_Mo_edge 11 = .ok (.ifCond .eq 22, 3) := by decide +kernel
theorem d_Mo_edge_14 : decode b_Mo_edge 14 = .ok (.iload_n 2, 1) := by decide +kernel
theorem d_Mo_edge_15 : decode b_Mo_edge 15 = .ok (.iconst 0, 1) := by decide +kernel
theorem d_Mo_edge_16 : decode b_Mo_edge 16 = .ok (.aload_n 0, 1) := by decide +kernel
theorem d_Mo_edge_17 : decode b_Mo_edge 17 = .ok (.getfield 60, 3) := by decide +kernel
theorem d_Mo_edge_20 : decode b_Mo_edge 20 = .ok (.iconst 1, 1) := by decide +kernel
theorem d_Mo_edge_21 : decode b_Mo_edge 21 = .ok (.isub, 1) := by decide +kernel
theorem d_Mo_edge_22 : decode b_Mo_edge 22 = .ok (.invokestatic 80, 3) := by decide +kernel
theorem d_Mo_edge_25 : decode b_Mo_edge 25 = .ok (.ifCond .eq 8, 3) := by decide +kernel
theorem d_Mo_edge_28 : decode b_Mo_edge 28 = .ok (.iload_n 1, 1) := by decide +kernel
theorem d_Mo_edge_29 : decode b_Mo_edge 29 = .ok (.iload_n 2, 1) := by decide +kernel
theorem d_Mo_edge_30 : decode b_Mo_edge 30 = .ok (.if_icmp .ne 6, 3) := by decide +kernel
theorem d_Mo_edge_33 : decode b_Mo_edge 33 = .ok (.bipush (-2), 2) := by decide +kernel
theorem d_Mo_edge_35 : decode b_Mo_edge 35 = .ok (.ireturn, 1) := by decide +kernel
theorem d_Mo_edge_36 : decode b_Mo_edge 36 = .ok (.aload_n 0, 1) := by decide +kernel
theorem d_Mo_edge_37 : decode b_Mo_edge 37 = .ok (.getfield 13, 3) := by decide +kernel
theorem d_Mo_edge_40 : decode b_Mo_edge 40 = .ok (.bipush 7, 2) := by decide +kernel
theorem d_Mo_edge_42 : decode b_Mo_edge 42 = .ok (.iload_n 1, 1) := by decide +kernel
theorem d_Mo_edge_43 : decode b_Mo_edge 43 = .ok (.imul, 1) := by decide +kernel
theorem d_Mo_edge_44 : decode b_Mo_edge 44 = .ok (.iload_n 2, 1) := by decide +kernel
theorem d_Mo_edge_45 : decode b_Mo_edge 45 = .ok (.iadd, 1) := by decide +kernel
theorem d_Mo_edge_46 : decode b_Mo_edge 46 = .ok (.baload, 1) := by decide +kernel
theorem d_Mo_edge_47 : decode b_Mo_edge 47 = .ok (.ifCond .ne 7, 3) := by decide +kernel
theorem d_Mo_edge_50 : decode b_Mo_edge 50 = .ok (.iconst 1, 1) := by decide +kernel
theorem d_Mo_edge_51 : decode b_Mo_edge 51 = .ok (.goto 4, 3) := by decide +kernel
theorem d_Mo_edge_54 : decode b_Mo_edge 54 = .ok (.iconst 0, 1) := by decide +kernel
theorem d_Mo_edge_55 : decode b_Mo_edge 55 = .ok (.istore_n 3, 1) := by decide +kernel
theorem d_Mo_edge_56 : decode b_Mo_edge 56 = .ok (.aload_n 0, 1) := by decide +kernel
theorem d_Mo_edge_57 : decode b_Mo_edge 57 = .ok (.getfield 13, 3) := by decide +kernel
theorem d_Mo_edge_60 : decode b_Mo_edge 60 = .ok (.bipush 7, 2) := by decide +kernel
theorem d_Mo_edge_62 : decode b_Mo_edge 62 = .ok (.iload_n 1, 1) := by decide +kernel
theorem d_Mo_edge_63 : decode b_Mo_edge 63 = .ok (.imul, 1) := by decide +kernel
theorem d_Mo_edge_64 : decode b_Mo_edge 64 = .ok (.iload_n 2, 1) := by decide +kernel
theorem d_Mo_edge_65 : decode b_Mo_edge 65 = .ok (.iadd, 1) := by decide +kernel
theorem d_Mo_edge_66 : decode b_Mo_edge 66 = .ok (.iload_n 3, 1) := by decide +kernel
theorem d_Mo_edge_67 : decode b_Mo_edge 67 = .ok (.bastore, 1) := by decide +kernel
theorem d_Mo_edge_68 : decode b_Mo_edge 68 = .ok (.aload_n 0, 1) := by decide +kernel
theorem d_Mo_edge_69 : decode b_Mo_edge 69 = .ok (.getfield 13, 3) := by decide +kernel
theorem d_Mo_edge_72 : decode b_Mo_edge 72 = .ok (.bipush 7, 2) := by decide +kernel
theorem d_Mo_edge_74 : decode b_Mo_edge 74 = .ok (.iload_n 2, 1) := by decide +kernel
theorem d_Mo_edge_75 : decode b_Mo_edge 75 = .ok (.imul, 1) := by decide +kernel
theorem d_Mo_edge_76 : decode b_Mo_edge 76 = .ok (.iload_n 1, 1) := by decide +kernel
theorem d_Mo_edge_77 : decode b_Mo_edge 77 = .ok (.iadd, 1) := by decide +kernel
theorem d_Mo_edge_78 : decode b_Mo_edge 78 = .ok (.iload_n 3, 1) := by decide +kernel
theorem d_Mo_edge_79 : decode b_Mo_edge 79 = .ok (.bastore, 1) := by decide +kernel
theorem d_Mo_edge_80 : decode b_Mo_edge 80 = .ok (.iload_n 3, 1) := by decide +kernel
theorem d_Mo_edge_81 : decode b_Mo_edge 81 = .ok (.ifCond .eq 7, 3) := by decide +kernel
theorem d_Mo_edge_84 : decode b_Mo_edge 84 = .ok (.iconst 1, 1) := by decide +kernel
theorem d_Mo_edge_85 : decode b_Mo_edge 85 = .ok (.goto 4, 3) := by decide +kernel
theorem d_Mo_edge_88 : decode b_Mo_edge 88 = .ok (.iconst 0, 1) := by decide +kernel
theorem d_Mo_edge_89 : decode b_Mo_edge 89 = .ok (.ireturn, 1) := by decide +kernel
theorem d_Mo_weight_0 : decode b_Mo_weight 0 = .ok (.iload_n 1, 1) := by decide +kernel
theorem d_Mo_weight_1 : decode b_Mo_weight 1 = .ok (.iconst 0, 1) := by decide +kernel
theorem d_Mo_weight_2 : decode b_Mo_weight 2 = .ok (.aload_n 0, 1) := by decide +kernel
theorem d_Mo_weight_3 : decode b_Mo_weight 3 = .ok (.getfield 64, 3) := by decide +kernel
theorem d_Mo_weight_6 : decode b_Mo_weight 6 = .ok (.iconst 1, 1) := by decide +kernel
theorem d_Mo_weight_7 : decode b_Mo_weight 7 = .ok (.isub, 1) := by decide +kernel
theorem d_Mo_weight_8 : decode b_Mo_weight 8 = .ok (.invokestatic 80, 3) := by decide +kernel
theorem d_Mo_weight_11 : decode b_Mo_weight 11 = .ok (.ifCond .eq 13, 3) := by decide +kernel
theorem d_Mo_weight_14 : decode b_Mo_weight 14 = .ok (.iload_n 2, 1) := by decide +kernel
theorem d_Mo_weight_15 : decode b_Mo_weight 15 = .ok (.iconst 0, 1) := by decide +kernel
theorem d_Mo_weight_16 : decode b_Mo_weight 16 = .ok (.bipush 9, 2) := by decide +kernel
theorem d_Mo_weight_18 : decode b_Mo_weight 18 = .ok (.invokestatic 80, 3) := by decide +kernel
theorem d_Mo_weight_21 : decode b_Mo_weight 21 = .ok (.ifCond .ne 6, 3) := by decide +kernel
theorem d_Mo_weight_24 : decode b_Mo_weight 24 = .ok (.bipush (-2), 2) := by decide +kernel
theorem d_Mo_weight_26 : decode b_Mo_weight 26 = .ok (.ireturn, 1) := by decide +kernel
theorem d_Mo_weight_27 : decode b_Mo_weight 27 = .ok (.aload_n 0, 1) := by decide +kernel
theorem d_Mo_weight_28 : decode b_Mo_weight 28 = .ok (.getfield 17, 3) := by decide +kernel
theorem d_Mo_weight_31 : decode b_Mo_weight 31 = .ok (.iload_n 1, 1) := by decide +kernel
theorem d_Mo_weight_32 : decode b_Mo_weight 32 = .ok (.iaload, 1) := by decide +kernel
theorem d_Mo_weight_33 : decode b_Mo_weight 33 = .ok (.istore_n 3, 1) := by decide +kernel
theorem d_Mo_weight_34 : decode b_Mo_weight 34 = .ok (.aload_n 0, 1) := by decide +kernel
theorem d_Mo_weight_35 : decode b_Mo_weight 35 = .ok (.getfield 17, 3) := by decide +kernel
theorem d_Mo_weight_38 : decode b_Mo_weight 38 = .ok (.iload_n 1, 1) := by decide +kernel
theorem d_Mo_weight_39 : decode b_Mo_weight 39 = .ok (.iload_n 2, 1) := by decide +kernel
theorem d_Mo_weight_40 : decode b_Mo_weight 40 = .ok (.iastore, 1) := by decide +kernel
theorem d_Mo_weight_41 : decode b_Mo_weight 41 = .ok (.iload_n 3, 1) := by decide +kernel
theorem d_Mo_weight_42 : decode b_Mo_weight 42 = .ok (.ireturn, 1) := by decide +kernel
theorem d_Mo_findGroup_0 : decode b_Mo_findGroup 0 = .ok (.aload_n 0, 1) := by decide +kernel
theorem d_Mo_findGroup_1 : decode b_Mo_findGroup 1 = .ok (.getfield 73, 3) := by decide +kernel
theorem d_Mo_findGroup_4 : decode b_Mo_findGroup 4 = .ok (.ifCond .eq 4, 3) := by decide +kernel
theorem d_Mo_findGroup_7 : decode b_Mo_findGroup 7 = .ok (.return_, 1) := by decide +kernel
theorem d_Mo_findGroup_8 : decode b_Mo_findGroup 8 = .ok (.aload_n 0, 1) := by decide +kernel
theorem d_Mo_findGroup_9 : decode b_Mo_findGroup 9 = .ok (.iconst 1, 1) := by decide +kernel
theorem d_Mo_findGroup_10 : decode b_Mo_findGroup 10 = .ok (.putfield 73, 3) := by decide +kernel
theorem d_Mo_findGroup_13 : decode b_Mo_findGroup 13 = .ok (.iconst 0, 1) := by decide +kernel
theorem d_Mo_findGroup_14 : decode b_Mo_findGroup 14 = .ok (.istore_n 1, 1) := by decide +kernel
theorem d_Mo_findGroup_15 : decode b_Mo_findGroup 15 = .ok (.iload_n 1, 1) := by decide +kernel
theorem d_Mo_findGroup_16 : decode b_Mo_findGroup 16 = .ok (.sipush 5040, 3) := by decide +kernel
theorem d_Mo_findGroup_19 : decode b_Mo_findGroup 19 = .ok (.if_icmp .ge 16, 3) := by decide +kernel
theorem d_Mo_findGroup_22 : decode b_Mo_findGroup 22 = .ok (.aload_n 0, 1) := by decide +kernel
theorem d_Mo_findGroup_23 : decode b_Mo_findGroup 23 = .ok (.getfield 26, 3) := by decide +kernel
theorem d_Mo_findGroup_26 : decode b_Mo_findGroup 26 = .ok (.iload_n 1, 1) := by decide +kernel
theorem d_Mo_findGroup_27 : decode b_Mo_findGroup 27 = .ok (.iconst 0, 1) := by decide +kernel
theorem d_Mo_findGroup_28 : decode b_Mo_findGroup 28 = .ok (.bastore, 1) := by decide +kernel
theorem d_Mo_findGroup_29 : decode b_Mo_findGroup 29 = .ok (.iinc 1 1, 3) := by decide +kernel
theorem d_Mo_findGroup_32 : decode b_Mo_findGroup 32 = .ok (.goto (-17), 3) := by decide +kernel
theorem d_Mo_findGroup_35 : decode b_Mo_findGroup 35 = .ok (.iconst 1, 1) := by decide +kernel
theorem d_Mo_findGroup_36 : decode b_Mo_findGroup 36 = .ok (.istore_n 1, 1) := by decide +kernel
theorem d_Mo_findGroup_37 : decode b_Mo_findGroup 37 = .ok (.aload_n 0, 1) := by decide +kernel
theorem d_Mo_findGroup_38 : decode b_Mo_findGroup 38 = .ok (.getfield 35, 3) := by decide +kernel
theorem d_Mo_findGroup_41 : decode b_Mo_findGroup 41 = .ok (.iconst 0, 1) := by decide +kernel
theorem d_Mo_findGroup_42 : decode b_Mo_findGroup 42 = .ok (.iconst 0, 1) := by decide +kernel
theorem d_Mo_findGroup_43 : decode b_Mo_findGroup 43 = .ok (.iastore, 1) := by decide +kernel
theorem d_Mo_findGroup_44 : decode b_Mo_findGroup 44 = .ok (.aload_n 0, 1) := by decide +kernel
theorem d_Mo_findGroup_45 : decode b_Mo_findGroup 45 = .ok (.getfield 26, 3) := by decide +kernel
theorem d_Mo_findGroup_48 : decode b_Mo_findGroup 48 = .ok (.iconst 0, 1) := by decide +kernel
theorem d_Mo_findGroup_49 : decode b_Mo_findGroup 49 = .ok (.iconst 1, 1) := by decide +kernel
theorem d_Mo_findGroup_50 : decode b_Mo_findGroup 50 = .ok (.bastore, 1) := by decide +kernel
theorem d_Mo_findGroup_51 : decode b_Mo_findGroup 51 = .ok (.iload_n 1, 1) := by decide +kernel
theorem d_Mo_findGroup_52 : decode b_Mo_findGroup 52 = .ok (.ifCond .le 116, 3) := by decide +kernel
theorem d_Mo_findGroup_55 : decode b_Mo_findGroup 55 = .ok (.iinc 1 (-1), 3) := by decide +kernel
theorem d_Mo_findGroup_58 : decode b_Mo_findGroup 58 = .ok (.aload_n 0, 1) := by decide +kernel
theorem d_Mo_findGroup_59 : decode b_Mo_findGroup 59 = .ok (.getfield 35, 3) := by decide +kernel
theorem d_Mo_findGroup_62 : decode b_Mo_findGroup 62 = .ok (.iload_n 1, 1) := by decide +kernel
theorem d_Mo_findGroup_63 : decode b_Mo_findGroup 63 = .ok (.iaload, 1) := by decide +kernel
theorem d_Mo_findGroup_64 : decode b_Mo_findGroup 64 = .ok (.istore_n 2, 1) := by decide +kernel
theorem d_Mo_findGroup_65 : decode b_Mo_findGroup 65 = .ok (.iconst 0, 1) := by decide +kernel
theorem d_Mo_findGroup_66 : decode b_Mo_findGroup 66 = .ok (.istore_n 3, 1) := by decide +kernel
theorem d_Mo_findGroup_67 : decode b_Mo_findGroup 67 = .ok (.iload_n 3, 1) := by decide +kernel
theorem d_Mo_findGroup_68 : decode b_Mo_findGroup 68 = .ok (.aload_n 0, 1) := by decide +kernel
theorem d_Mo_findGroup_69 : decode b_Mo_findGroup 69 = .ok (.getfield 70, 3) := by decide +kernel
theorem d_Mo_findGroup_72 : decode b_Mo_findGroup 72 = .ok (.if_icmp .ge 93, 3) := by decide +kernel
theorem d_Mo_findGroup_75 : decode b_Mo_findGroup 75 = .ok (.aload_n 0, 1) := by decide +kernel
theorem d_Mo_findGroup_76 : decode b_Mo_findGroup 76 = .ok (.iload_n 2, 1) := by decide +kernel
theorem d_Mo_findGroup_77 : decode b_Mo_findGroup 77 = .ok (.invokevirtual 92, 3) := by decide +kernel
theorem d_Mo_findGroup_80 : decode b_Mo_findGroup 80 = .ok (.iconst 0, 1) := by decide +kernel
theorem d_Mo_findGroup_81 : decode b_Mo_findGroup 81 = .ok (.istore 4, 2) := by decide +kernel
theorem d_Mo_findGroup_83 : decode b_Mo_findGroup 83 = .ok (.iload 4, 2) := by decide +kernel
theorem d_Mo_findGroup_85 : decode b_Mo_findGroup 85 = .ok (.aload_n 0, 1) := by decide +kernel
theorem d_Mo_findGroup_86 : decode b_Mo_findGroup 86 = .ok (.getfield 60, 3) := by decide +kernel
theorem d_Mo_findGroup_89 : decode b_Mo_findGroup 89 = .ok (.if_icmp .ge 35, 3) := by decide +kernel
theorem d_Mo_findGroup_92 : decode b_Mo_findGroup 92 = .ok (.aload_n 0, 1) := by decide +kernel
theorem d_Mo_findGroup_93 : decode b_Mo_findGroup 93 = .ok (.getfield 20, 3) := by decide +kernel
theorem d_Mo_findGroup_96 : decode b_Mo_findGroup 96 = .ok (.iload 4, 2) := by decide +kernel
theorem d_Mo_findGroup_98 : decode b_Mo_findGroup 98 = .ok (.aload_n 0, 1) := by decide +kernel
theorem d_Mo_findGroup_99 : decode b_Mo_findGroup 99 = .ok (.getfield 7, 3) := by decide +kernel
theorem d_Mo_findGroup_102 : decode b_Mo_findGroup 102 = .ok (.iload_n 3, 1) := by decide +kernel
theorem d_Mo_findGroup_103 : decode b_Mo_findGroup 103 = .ok (.iaload, 1) := by decide +kernel
theorem d_Mo_findGroup_104 : decode b_Mo_findGroup 104 = .ok (.iconst 3, 1) := by decide +kernel
theorem d_Mo_findGroup_105 : decode b_Mo_findGroup 105 = .ok (.aload_n 0, 1) := by decide +kernel
theorem d_Mo_findGroup_106 : decode b_Mo_findGroup 106 = .ok (.getfield 20, 3) := by decide +kernel
theorem d_Mo_findGroup_109 : decode b_Mo_findGroup 109 = .ok (.iload 4, 2) := by decide +kernel
theorem d_Mo_findGroup_111 : decode b_Mo_findGroup 111 = .ok (.iaload, 1) := by decide +kernel
theorem d_Mo_findGroup_112 : decode b_Mo_findGroup 112 = .ok (.imul, 1) := by decide +kernel
theorem d_Mo_findGroup_113 : decode b_Mo_findGroup 113 = .ok (.ishr, 1) := by decide +kernel
theorem d_Mo_findGroup_114 : decode b_Mo_findGroup 114 = .ok (.bipush 7, 2) := by decide +kernel
theorem d_Mo_findGroup_116 : decode b_Mo_findGroup 116 = .ok (.iand, 1) := by decide +kernel
theorem d_Mo_findGroup_117 : decode b_Mo_findGroup 117 = .ok (.iastore, 1) := by decide +kernel
theorem d_Mo_findGroup_118 : decode b_Mo_findGroup 118 = .ok (.iinc 4 1, 3) := by decide +kernel
theorem d_Mo_findGroup_121 : decode b_Mo_findGroup 121 = .ok (.goto (-38), 3) := by decide +kernel
theorem d_Mo_findGroup_124 : decode b_Mo_findGroup 124 = .ok (.aload_n 0, 1) := by decide +kernel
theorem d_Mo_findGroup_125 : decode b_Mo_findGroup 125 = .ok (.invokevirtual 96, 3) := by decide +kernel
theorem d_Mo_findGroup_128 : decode b_Mo_findGroup 128 = .ok (.istore 4, 2) := by decide +kernel
theorem d_Mo_findGroup_130 : decode b_Mo_findGroup 130 = .ok (.aload_n 0, 1) := by decide +kernel
theorem d_Mo_findGroup_131 : decode b_Mo_findGroup 131 = .ok (.getfield 26, 3) := by decide +kernel
theorem d_Mo_findGroup_134 : decode b_Mo_findGroup 134 = .ok (.iload 4, 2) := by decide +kernel
theorem d_Mo_findGroup_136 : decode b_Mo_findGroup 136 = .ok (.baload, 1) := by decide +kernel
theorem d_Mo_findGroup_137 : decode b_Mo_findGroup 137 = .ok (.ifCond .ne 22, 3) := by decide +kernel
theorem d_Mo_findGroup_140 : decode b_Mo_findGroup 140 = .ok (.aload_n 0, 1) := by decide +kernel
theorem d_Mo_findGroup_141 : decode b_Mo_findGroup 141 = .ok (.getfield 26, 3) := by decide +kernel
theorem d_Mo_findGroup_144 : decode b_Mo_findGroup 144 = .ok (.iload 4, 2) := by decide +kernel
theorem d_Mo_findGroup_146 : decode b_Mo_findGroup 146 = .ok (.iconst 1, 1) := by decide +kernel
theorem d_Mo_findGroup_147 : decode b_Mo_findGroup 147 = .ok (.bastore, 1) := by decide +kernel
theorem d_Mo_findGroup_148 : decode b_Mo_findGroup 148 = .ok (.aload_n 0, 1) := by decide +kernel
theorem d_Mo_findGroup_149 : decode b_Mo_findGroup 149 = .ok (.getfield 35, 3) := by decide +kernel
theorem d_Mo_findGroup_152 : decode b_Mo_findGroup 152 = .ok (.iload_n 1, 1) := by decide +kernel
theorem d_Mo_findGroup_153 : decode b_Mo_findGroup 153 = .ok (.iload 4, 2) := by decide +kernel
theorem d_Mo_findGroup_155 : decode b_Mo_findGroup 155 = .ok (.iastore, 1) := by decide +kernel
theorem d_Mo_findGroup_156 : decode b_Mo_findGroup 156 = .ok (.iinc 1 1, 3) := by decide +kernel
theorem d_Mo_findGroup_159 : decode b_Mo_findGroup 159 = .ok (.iinc 3 1, 3) := by decide +kernel
theorem d_Mo_findGroup_162 : decode b_Mo_findGroup 162 = .ok (.goto (-95), 3) := by decide +kernel
theorem d_Mo_findGroup_165 : decode b_Mo_findGroup 165 = .ok (.goto (-114), 3) := by decide +kernel
theorem d_Mo_findGroup_168 : decode b_Mo_findGroup 168 = .ok (.aload_n 0, 1) := by decide +kernel
theorem d_Mo_findGroup_169 : decode b_Mo_findGroup 169 = .ok (.iconst 0, 1) := by decide +kernel
theorem d_Mo_findGroup_170 : decode b_Mo_findGroup 170 = .ok (.putfield 100, 3) := by decide +kernel
theorem d_Mo_findGroup_173 : decode b_Mo_findGroup 173 = .ok (.iconst 0, 1) := by decide +kernel
theorem d_Mo_findGroup_174 : decode b_Mo_findGroup 174 = .ok (.istore_n 2, 1) := by decide +kernel
theorem d_Mo_findGroup_175 : decode b_Mo_findGroup 175 = .ok (.iload_n 2, 1) := by decide +kernel
theorem d_Mo_findGroup_176 : decode b_Mo_findGroup 176 = .ok (.aload_n 0, 1) := by decide +kernel
theorem d_Mo_findGroup_177 : decode b_Mo_findGroup 177 = .ok (.aload_n 0, 1) := by decide +kernel
theorem d_Mo_findGroup_178 : decode b_Mo_findGroup 178 = .ok (.getfield 60, 3) := by decide +kernel
theorem d_Mo_findGroup_181 : decode b_Mo_findGroup 181 = .ok (.invokevirtual 84, 3) := by decide +kernel
theorem d_Mo_findGroup_184 : decode b_Mo_findGroup 184 = .ok (.if_icmp .ge 56, 3) := by decide +kernel
theorem d_Mo_findGroup_187 : decode b_Mo_findGroup 187 = .ok (.aload_n 0, 1) := by decide +kernel
theorem d_Mo_findGroup_188 : decode b_Mo_findGroup 188 = .ok (.getfield 26, 3) := by decide +kernel
theorem d_Mo_findGroup_191 : decode b_Mo_findGroup 191 = .ok (.iload_n 2, 1) := by decide +kernel
theorem d_Mo_findGroup_192 : decode b_Mo_findGroup 192 = .ok (.baload, 1) := by decide +kernel
theorem d_Mo_findGroup_193 : decode b_Mo_findGroup 193 = .ok (.ifCond .eq 41, 3) := by decide +kernel
theorem d_Mo_findGroup_196 : decode b_Mo_findGroup 196 = .ok (.aload_n 0, 1) := by decide +kernel
theorem d_Mo_findGroup_197 : decode b_Mo_findGroup 197 = .ok (.iload_n 2, 1) := by decide +kernel
theorem d_Mo_findGroup_198 : decode b_Mo_findGroup 198 = .ok (.invokevirtual 92, 3) := by decide +kernel
theorem d_Mo_findGroup_201 : decode b_Mo_findGroup 201 = .ok (.aload_n 0, 1) := by decide +kernel
theorem d_Mo_findGroup_202 : decode b_Mo_findGroup 202 = .ok (.getfield 29, 3) := by decide +kernel
theorem d_Mo_findGroup_205 : decode b_Mo_findGroup 205 = .ok (.aload_n 0, 1) := by decide +kernel
theorem d_Mo_findGroup_206 : decode b_Mo_findGroup 206 = .ok (.getfield 100, 3) := by decide +kernel
theorem d_Mo_findGroup_209 : decode b_Mo_findGroup 209 = .ok (.aload_n 0, 1) := by decide +kernel
theorem d_Mo_findGroup_210 : decode b_Mo_findGroup 210 = .ok (.invokevirtual 103, 3) := by decide +kernel
theorem d_Mo_findGroup_213 : decode b_Mo_findGroup 213 = .ok (.iastore, 1) := by decide +kernel
theorem d_Mo_findGroup_214 : decode b_Mo_findGroup 214 = .ok (.aload_n 0, 1) := by decide +kernel
theorem d_Mo_findGroup_215 : decode b_Mo_findGroup 215 = .ok (.getfield 32, 3) := by decide +kernel
theorem d_Mo_findGroup_218 : decode b_Mo_findGroup 218 = .ok (.iload_n 2, 1) := by decide +kernel
theorem d_Mo_findGroup_219 : decode b_Mo_findGroup 219 = .ok (.aload_n 0, 1) := by decide +kernel
theorem d_Mo_findGroup_220 : decode b_Mo_findGroup 220 = .ok (.getfield 100, 3) := by decide +kernel
theorem d_Mo_findGroup_223 : decode b_Mo_findGroup 223 = .ok (.iastore, 1) := by decide +kernel
theorem d_Mo_findGroup_224 : decode b_Mo_findGroup 224 = .ok (.aload_n 0, 1) := by decide +kernel
theorem d_Mo_findGroup_225 : decode b_Mo_findGroup 225 = .ok (.dup, 1) := by decide +kernel
theorem d_Mo_findGroup_226 : decode b_Mo_findGroup 226 = .ok (.getfield 100, 3) := by decide +kernel
theorem d_Mo_findGroup_229 : decode b_Mo_findGroup 229 = .ok (.iconst 1, 1) := by decide +kernel
theorem d_Mo_findGroup_230 : decode b_Mo_findGroup 230 = .ok (.iadd, 1) := by decide +kernel
theorem d_Mo_findGroup_231 : decode b_Mo_findGroup 231 = .ok (.putfield 100, 3) := by decide +kernel
theorem d_Mo_findGroup_234 : decode b_Mo_findGroup 234 = .ok (.iinc 2 1, 3) := by decide +kernel
theorem d_Mo_findGroup_237 : decode b_Mo_findGroup 237 = .ok (.goto (-62), 3) := by decide +kernel
theorem d_Mo_findGroup_240 : decode b_Mo_findGroup 240 = .ok (.return_, 1) := by decide +kernel
theorem d_Mo_isNumber_0 : decode b_Mo_isNumber 0 = .ok (.aload_n 0, 1) := by decide +kernel
theorem d_Mo_isNumber_1 : decode b_Mo_isNumber 1 = .ok (.invokevirtual 106, 3) := by decide +kernel
theorem d_Mo_isNumber_4 : decode b_Mo_isNumber 4 = .ok (.iload_n 1, 1) := by decide +kernel
theorem d_Mo_isNumber_5 : decode b_Mo_isNumber 5 = .ok (.iconst 0, 1) := by decide +kernel
theorem d_Mo_isNumber_6 : decode b_Mo_isNumber 6 = .ok (.aload_n 0, 1) := by decide +kernel
theorem d_Mo_isNumber_7 : decode b_Mo_isNumber 7 = .ok (.getfield 100, 3) := by decide +kernel
theorem d_Mo_isNumber_10 : decode b_Mo_isNumber 10 = .ok (.iconst 1, 1) := by decide +kernel
theorem d_Mo_isNumber_11 : decode b_Mo_isNumber 11 = .ok (.isub, 1) := by decide +kernel
theorem d_Mo_isNumber_12 : decode b_Mo_isNumber 12 = .ok (.invokestatic 80, 3) := by decide +kernel
theorem d_Mo_isNumber_15 : decode b_Mo_isNumber 15 = .ok (.ireturn, 1) := by decide +kernel
theorem d_Mo_number_0 : decode b_Mo_number 0 = .ok (.aload_n 0, 1) := by decide +kernel
theorem d_Mo_number_1 : decode b_Mo_number 1 = .ok (.iload_n 1, 1) := by decide +kernel
theorem d_Mo_number_2 : decode b_Mo_number 2 = .ok (.invokevirtual 88, 3) := by decide +kernel
theorem d_Mo_number_5 : decode b_Mo_number 5 = .ok (.ifCond .ne 6, 3) := by decide +kernel
theorem d_Mo_number_8 : decode b_Mo_number 8 = .ok (.bipush (-2), 2) := by decide +kernel
theorem d_Mo_number_10 : decode b_Mo_number 10 = .ok (.ireturn, 1) := by decide +kernel
theorem d_Mo_number_11 : decode b_Mo_number 11 = .ok (.aload_n 0, 1) := by decide +kernel
theorem d_Mo_number_12 : decode b_Mo_number 12 = .ok (.invokevirtual 96, 3) := by decide +kernel
theorem d_Mo_number_15 : decode b_Mo_number 15 = .ok (.istore_n 2, 1) := by decide +kernel
theorem d_Mo_number_16 : decode b_Mo_number 16 = .ok (.aload_n 0, 1) := by decide +kernel
theorem d_Mo_number_17 : decode b_Mo_number 17 = .ok (.invokevirtual 106, 3) := by decide +kernel
theorem d_Mo_number_20 : decode b_Mo_number 20 = .ok (.aload_n 0, 1) := by decide +kernel
theorem d_Mo_number_21 : decode b_Mo_number 21 = .ok (.getfield 26, 3) := by decide +kernel
theorem d_Mo_number_24 : decode b_Mo_number 24 = .ok (.iload_n 2, 1) := by decide +kernel
theorem d_Mo_number_25 : decode b_Mo_number 25 = .ok (.baload, 1) := by decide +kernel
theorem d_Mo_number_26 : decode b_Mo_number 26 = .ok (.ifCond .eq 12, 3) := by decide +kernel
