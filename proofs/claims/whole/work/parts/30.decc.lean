theorem d_Mo_joins_3 : decode b_Mo_joins 3 = .ok (.getfield 35, 3) := by decide +kernel
theorem d_Mo_joins_6 : decode b_Mo_joins 6 = .ok (.iconst 0, 1) := by decide +kernel
theorem d_Mo_joins_7 : decode b_Mo_joins 7 = .ok (.iload_n 1, 1) := by decide +kernel
theorem d_Mo_joins_8 : decode b_Mo_joins 8 = .ok (.iastore, 1) := by decide +kernel
theorem d_Mo_joins_9 : decode b_Mo_joins 9 = .ok (.aload_n 0, 1) := by decide +kernel
theorem d_Mo_joins_10 : decode b_Mo_joins 10 = .ok (.getfield 44, 3) := by decide +kernel
theorem d_Mo_joins_13 : decode b_Mo_joins 13 = .ok (.iload_n 1, 1) := by decide +kernel
theorem d_Mo_joins_14 : decode b_Mo_joins 14 = .ok (.iload_n 1, 1) := by decide +kernel
theorem d_Mo_joins_15 : decode b_Mo_joins 15 = .ok (.iastore, 1) := by decide +kernel
theorem d_Mo_joins_16 : decode b_Mo_joins 16 = .ok (.iload_n 2, 1) := by decide +kernel
theorem d_Mo_joins_17 : decode b_Mo_joins 17 = .ok (.ifCond .le 92, 3) := by decide +kernel
theorem d_Mo_joins_20 : decode b_Mo_joins 20 = .ok (.iinc 2 (-1), 3) := by decide +kernel
theorem d_Mo_joins_23 : decode b_Mo_joins 23 = .ok (.aload_n 0, 1) := by decide +kernel
theorem d_Mo_joins_24 : decode b_Mo_joins 24 = .ok (.getfield 35, 3) := by decide +kernel
theorem d_Mo_joins_27 : decode b_Mo_joins 27 = .ok (.iload_n 2, 1) := by decide +kernel
theorem d_Mo_joins_28 : decode b_Mo_joins 28 = .ok (.iaload, 1) := by decide +kernel
theorem d_Mo_joins_29 : decode b_Mo_joins 29 = .ok (.istore_n 3, 1) := by decide +kernel
theorem d_Mo_joins_30 : decode b_Mo_joins 30 = .ok (.aload_n 0, 1) := by decide +kernel
theorem d_Mo_joins_31 : decode b_Mo_joins 31 = .ok (.getfield 47, 3) := by decide +kernel
theorem d_Mo_joins_34 : decode b_Mo_joins 34 = .ok (.iload_n 1, 1) := by decide +kernel
theorem d_Mo_joins_35 : decode b_Mo_joins 35 = .ok (.dup2, 1) := by decide +kernel
theorem d_Mo_joins_36 : decode b_Mo_joins 36 = .ok (.iaload, 1) := by decide +kernel
theorem d_Mo_joins_37 : decode b_Mo_joins 37 = .ok (.iconst 1, 1) := by decide +kernel
theorem d_Mo_joins_38 : decode b_Mo_joins 38 = .ok (.iadd, 1) := by decide +kernel
theorem d_Mo_joins_39 : decode b_Mo_joins 39 = .ok (.iastore, 1) := by decide +kernel
theorem d_Mo_joins_40 : decode b_Mo_joins 40 = .ok (.iconst 0, 1) := by decide +kernel
theorem d_Mo_joins_41 : decode b_Mo_joins 41 = .ok (.istore 4, 2) := by decide +kernel
theorem d_Mo_joins_43 : decode b_Mo_joins 43 = .ok (.iload 4, 2) := by decide +kernel
theorem d_Mo_joins_45 : decode b_Mo_joins 45 = .ok (.aload_n 0, 1) := by decide +kernel
theorem d_Mo_joins_46 : decode b_Mo_joins 46 = .ok (.getfield 70, 3) := by decide +kernel
theorem d_Mo_joins_49 : decode b_Mo_joins 49 = .ok (.if_icmp .ge 57, 3) := by decide +kernel
theorem d_Mo_joins_52 : decode b_Mo_joins 52 = .ok (.aload_n 0, 1) := by decide +kernel
theorem d_Mo_joins_53 : decode b_Mo_joins 53 = .ok (.iload_n 3, 1) := by decide +kernel
theorem d_Mo_joins_54 : decode b_Mo_joins 54 = .ok (.invokevirtual 115, 3) := by decide +kernel
theorem d_Mo_joins_57 : decode b_Mo_joins 57 = .ok (.aload_n 0, 1) := by decide +kernel
theorem d_Mo_joins_58 : decode b_Mo_joins 58 = .ok (.aload_n 0, 1) := by decide +kernel
theorem d_Mo_joins_59 : decode b_Mo_joins 59 = .ok (.getfield 7, 3) := by decide +kernel
theorem d_Mo_joins_62 : decode b_Mo_joins 62 = .ok (.iload 4, 2) := by decide +kernel
theorem d_Mo_joins_64 : decode b_Mo_joins 64 = .ok (.iaload, 1) := by decide +kernel
theorem d_Mo_joins_65 : decode b_Mo_joins 65 = .ok (.invokevirtual 138, 3) := by decide +kernel
theorem d_Mo_joins_68 : decode b_Mo_joins 68 = .ok (.istore 5, 2) := by decide +kernel
theorem d_Mo_joins_70 : decode b_Mo_joins 70 = .ok (.aload_n 0, 1) := by decide +kernel
theorem d_Mo_joins_71 : decode b_Mo_joins 71 = .ok (.getfield 44, 3) := by decide +kernel
theorem d_Mo_joins_74 : decode b_Mo_joins 74 = .ok (.iload 5, 2) := by decide +kernel
theorem d_Mo_joins_76 : decode b_Mo_joins 76 = .ok (.iaload, 1) := by decide +kernel
theorem d_Mo_joins_77 : decode b_Mo_joins 77 = .ok (.iconst (-1), 1) := by decide +kernel
theorem d_Mo_joins_78 : decode b_Mo_joins 78 = .ok (.if_icmp .ne 22, 3) := by decide +kernel
theorem d_Mo_joins_81 : decode b_Mo_joins 81 = .ok (.aload_n 0, 1) := by decide +kernel
theorem d_Mo_joins_82 : decode b_Mo_joins 82 = .ok (.getfield 44, 3) := by decide +kernel
theorem d_Mo_joins_85 : decode b_Mo_joins 85 = .ok (.iload 5, 2) := by decide +kernel
theorem d_Mo_joins_87 : decode b_Mo_joins 87 = .ok (.iload_n 1, 1) := by decide +kernel
theorem d_Mo_joins_88 : decode b_Mo_joins 88 = .ok (.iastore, 1) := by decide +kernel
theorem d_Mo_joins_89 : decode b_Mo_joins 89 = .ok (.aload_n 0, 1) := by decide +kernel
theorem d_Mo_joins_90 : decode b_Mo_joins 90 = .ok (.getfield 35, 3) := by decide +kernel
theorem d_Mo_joins_93 : decode b_Mo_joins 93 = .ok (.iload_n 2, 1) := by decide +kernel
theorem d_Mo_joins_94 : decode b_Mo_joins 94 = .ok (.iload 5, 2) := by decide +kernel
theorem d_Mo_joins_96 : decode b_Mo_joins 96 = .ok (.iastore, 1) := by decide +kernel
theorem d_Mo_joins_97 : decode b_Mo_joins 97 = .ok (.iinc 2 1, 3) := by decide +kernel
theorem d_Mo_joins_100 : decode b_Mo_joins 100 = .ok (.iinc 4 1, 3) := by decide +kernel
theorem d_Mo_joins_103 : decode b_Mo_joins 103 = .ok (.goto (-60), 3) := by decide +kernel
theorem d_Mo_joins_106 : decode b_Mo_joins 106 = .ok (.goto (-90), 3) := by decide +kernel
theorem d_Mo_joins_109 : decode b_Mo_joins 109 = .ok (.return_, 1) := by decide +kernel
theorem d_Mo_orbits_0 : decode b_Mo_orbits 0 = .ok (.aload_n 0, 1) := by decide +kernel
theorem d_Mo_orbits_1 : decode b_Mo_orbits 1 = .ok (.invokevirtual 141, 3) := by decide +kernel
theorem d_Mo_orbits_4 : decode b_Mo_orbits 4 = .ok (.aload_n 0, 1) := by decide +kernel
theorem d_Mo_orbits_5 : decode b_Mo_orbits 5 = .ok (.getfield 132, 3) := by decide +kernel
theorem d_Mo_orbits_8 : decode b_Mo_orbits 8 = .ok (.ireturn, 1) := by decide +kernel
theorem d_Mo_orbitsOf_0 : decode b_Mo_orbitsOf 0 = .ok (.iload_n 1, 1) := by decide +kernel
theorem d_Mo_orbitsOf_1 : decode b_Mo_orbitsOf 1 = .ok (.iconst 0, 1) := by decide +kernel
theorem d_Mo_orbitsOf_2 : decode b_Mo_orbitsOf 2 = .ok (.aload_n 0, 1) := by decide +kernel
theorem d_Mo_orbitsOf_3 : decode b_Mo_orbitsOf 3 = .ok (.getfield 60, 3) := by decide +kernel
theorem d_Mo_orbitsOf_6 : decode b_Mo_orbitsOf 6 = .ok (.invokestatic 80, 3) := by decide +kernel
theorem d_Mo_orbitsOf_9 : decode b_Mo_orbitsOf 9 = .ok (.ifCond .eq 31, 3) := by decide +kernel
theorem d_Mo_orbitsOf_12 : decode b_Mo_orbitsOf 12 = .ok (.iload_n 2, 1) := by decide +kernel
theorem d_Mo_orbitsOf_13 : decode b_Mo_orbitsOf 13 = .ok (.iconst 0, 1) := by decide +kernel
theorem d_Mo_orbitsOf_14 : decode b_Mo_orbitsOf 14 = .ok (.aload_n 0, 1) := by decide +kernel
theorem d_Mo_orbitsOf_15 : decode b_Mo_orbitsOf 15 = .ok (.getfield 60, 3) := by decide +kernel
theorem d_Mo_orbitsOf_18 : decode b_Mo_orbitsOf 18 = .ok (.invokestatic 80, 3) := by decide +kernel
theorem d_Mo_orbitsOf_21 : decode b_Mo_orbitsOf 21 = .ok (.ifCond .eq 19, 3) := by decide +kernel
theorem d_Mo_orbitsOf_24 : decode b_Mo_orbitsOf 24 = .ok (.iload_n 3, 1) := by decide +kernel
theorem d_Mo_orbitsOf_25 : decode b_Mo_orbitsOf 25 = .ok (.iconst 0, 1) := by decide +kernel
theorem d_Mo_orbitsOf_26 : decode b_Mo_orbitsOf 26 = .ok (.aload_n 0, 1) := by decide +kernel
theorem d_Mo_orbitsOf_27 : decode b_Mo_orbitsOf 27 = .ok (.getfield 60, 3) := by decide +kernel
theorem d_Mo_orbitsOf_30 : decode b_Mo_orbitsOf 30 = .ok (.invokestatic 80, 3) := by decide +kernel
theorem d_Mo_orbitsOf_33 : decode b_Mo_orbitsOf 33 = .ok (.ifCond .eq 7, 3) := by decide +kernel
theorem d_Mo_orbitsOf_36 : decode b_Mo_orbitsOf 36 = .ok (.iconst 1, 1) := by decide +kernel
theorem d_Mo_orbitsOf_37 : decode b_Mo_orbitsOf 37 = .ok (.goto 4, 3) := by decide +kernel
theorem d_Mo_orbitsOf_40 : decode b_Mo_orbitsOf 40 = .ok (.iconst 0, 1) := by decide +kernel
theorem d_Mo_orbitsOf_41 : decode b_Mo_orbitsOf 41 = .ok (.istore 4, 2) := by decide +kernel
theorem d_Mo_orbitsOf_43 : decode b_Mo_orbitsOf 43 = .ok (.iload 4, 2) := by decide +kernel
theorem d_Mo_orbitsOf_45 : decode b_Mo_orbitsOf 45 = .ok (.ifCond .eq 16, 3) := by decide +kernel
theorem d_Mo_orbitsOf_48 : decode b_Mo_orbitsOf 48 = .ok (.aload_n 0, 1) := by decide +kernel
theorem d_Mo_orbitsOf_49 : decode b_Mo_orbitsOf 49 = .ok (.getfield 60, 3) := by decide +kernel
theorem d_Mo_orbitsOf_52 : decode b_Mo_orbitsOf 52 = .ok (.iload_n 1, 1) := by decide +kernel
theorem d_Mo_orbitsOf_53 : decode b_Mo_orbitsOf 53 = .ok (.isub, 1) := by decide +kernel
theorem d_Mo_orbitsOf_54 : decode b_Mo_orbitsOf 54 = .ok (.iload_n 2, 1) := by decide +kernel
theorem d_Mo_orbitsOf_55 : decode b_Mo_orbitsOf 55 = .ok (.isub, 1) := by decide +kernel
theorem d_Mo_orbitsOf_56 : decode b_Mo_orbitsOf 56 = .ok (.iload_n 3, 1) := by decide +kernel
theorem d_Mo_orbitsOf_57 : decode b_Mo_orbitsOf 57 = .ok (.isub, 1) := by decide +kernel
theorem d_Mo_orbitsOf_58 : decode b_Mo_orbitsOf 58 = .ok (.goto 4, 3) := by decide +kernel
theorem d_Mo_orbitsOf_61 : decode b_Mo_orbitsOf 61 = .ok (.iconst (-1), 1) := by decide +kernel
theorem d_Mo_orbitsOf_62 : decode b_Mo_orbitsOf 62 = .ok (.istore 5, 2) := by decide +kernel
theorem d_Mo_orbitsOf_64 : decode b_Mo_orbitsOf 64 = .ok (.iload 4, 2) := by decide +kernel
theorem d_Mo_orbitsOf_66 : decode b_Mo_orbitsOf 66 = .ok (.ifCond .eq 49, 3) := by decide +kernel
theorem d_Mo_orbitsOf_69 : decode b_Mo_orbitsOf 69 = .ok (.iload 5, 2) := by decide +kernel
theorem d_Mo_orbitsOf_71 : decode b_Mo_orbitsOf 71 = .ok (.ifCond .lt 44, 3) := by decide +kernel
theorem d_Mo_orbitsOf_74 : decode b_Mo_orbitsOf 74 = .ok (.iload_n 2, 1) := by decide +kernel
theorem d_Mo_orbitsOf_75 : decode b_Mo_orbitsOf 75 = .ok (.ifCond .eq 11, 3) := by decide +kernel
theorem d_Mo_orbitsOf_78 : decode b_Mo_orbitsOf 78 = .ok (.aload_n 0, 1) := by decide +kernel
theorem d_Mo_orbitsOf_79 : decode b_Mo_orbitsOf 79 = .ok (.getfield 64, 3) := by decide +kernel
theorem d_Mo_orbitsOf_82 : decode b_Mo_orbitsOf 82 = .ok (.iconst 1, 1) := by decide +kernel
theorem d_Mo_orbitsOf_83 : decode b_Mo_orbitsOf 83 = .ok (.if_icmp .le 32, 3) := by decide +kernel
theorem d_Mo_orbitsOf_86 : decode b_Mo_orbitsOf 86 = .ok (.iload_n 3, 1) := by decide +kernel
theorem d_Mo_orbitsOf_87 : decode b_Mo_orbitsOf 87 = .ok (.ifCond .eq 11, 3) := by decide +kernel
theorem d_Mo_orbitsOf_90 : decode b_Mo_orbitsOf 90 = .ok (.aload_n 0, 1) := by decide +kernel
theorem d_Mo_orbitsOf_91 : decode b_Mo_orbitsOf 91 = .ok (.getfield 64, 3) := by decide +kernel
theorem d_Mo_orbitsOf_94 : decode b_Mo_orbitsOf 94 = .ok (.iconst 2, 1) := by decide +kernel
theorem d_Mo_orbitsOf_95 : decode b_Mo_orbitsOf 95 = .ok (.if_icmp .le 20, 3) := by decide +kernel
theorem d_Mo_orbitsOf_98 : decode b_Mo_orbitsOf 98 = .ok (.iload 5, 2) := by decide +kernel
theorem d_Mo_orbitsOf_100 : decode b_Mo_orbitsOf 100 = .ok (.ifCond .eq 11, 3) := by decide +kernel
theorem d_Mo_orbitsOf_103 : decode b_Mo_orbitsOf 103 = .ok (.aload_n 0, 1) := by decide +kernel
theorem d_Mo_orbitsOf_104 : decode b_Mo_orbitsOf 104 = .ok (.getfield 64, 3) := by decide +kernel
theorem d_Mo_orbitsOf_107 : decode b_Mo_orbitsOf 107 = .ok (.iconst 3, 1) := by decide +kernel
theorem d_Mo_orbitsOf_108 : decode b_Mo_orbitsOf 108 = .ok (.if_icmp .le 7, 3) := by decide +kernel
theorem d_Mo_orbitsOf_111 : decode b_Mo_orbitsOf 111 = .ok (.iconst 1, 1) := by decide +kernel
theorem d_Mo_orbitsOf_112 : decode b_Mo_orbitsOf 112 = .ok (.goto 4, 3) := by decide +kernel
theorem d_Mo_orbitsOf_115 : decode b_Mo_orbitsOf 115 = .ok (.iconst 0, 1) := by decide +kernel
theorem d_Mo_orbitsOf_116 : decode b_Mo_orbitsOf 116 = .ok (.istore 4, 2) := by decide +kernel
theorem d_Mo_orbitsOf_118 : decode b_Mo_orbitsOf 118 = .ok (.iload 4, 2) := by decide +kernel
theorem d_Mo_orbitsOf_120 : decode b_Mo_orbitsOf 120 = .ok (.ifCond .ne 6, 3) := by decide +kernel
theorem d_Mo_orbitsOf_123 : decode b_Mo_orbitsOf 123 = .ok (.bipush (-2), 2) := by decide +kernel
theorem d_Mo_orbitsOf_125 : decode b_Mo_orbitsOf 125 = .ok (.ireturn, 1) := by decide +kernel
theorem d_Mo_orbitsOf_126 : decode b_Mo_orbitsOf 126 = .ok (.aload_n 0, 1) := by decide +kernel
theorem d_Mo_orbitsOf_127 : decode b_Mo_orbitsOf 127 = .ok (.invokevirtual 141, 3) := by decide +kernel
theorem d_Mo_orbitsOf_130 : decode b_Mo_orbitsOf 130 = .ok (.iconst 0, 1) := by decide +kernel
theorem d_Mo_orbitsOf_131 : decode b_Mo_orbitsOf 131 = .ok (.istore 6, 2) := by decide +kernel
theorem d_Mo_orbitsOf_133 : decode b_Mo_orbitsOf 133 = .ok (.iconst 0, 1) := by decide +kernel
theorem d_Mo_orbitsOf_134 : decode b_Mo_orbitsOf 134 = .ok (.istore 7, 2) := by decide +kernel
theorem d_Mo_orbitsOf_136 : decode b_Mo_orbitsOf 136 = .ok (.iload 7, 2) := by decide +kernel
theorem d_Mo_orbitsOf_138 : decode b_Mo_orbitsOf 138 = .ok (.aload_n 0, 1) := by decide +kernel
theorem d_Mo_orbitsOf_139 : decode b_Mo_orbitsOf 139 = .ok (.getfield 132, 3) := by decide +kernel
theorem d_Mo_orbitsOf_142 : decode b_Mo_orbitsOf 142 = .ok (.if_icmp .ge 137, 3) := by decide +kernel
theorem d_Mo_orbitsOf_145 : decode b_Mo_orbitsOf 145 = .ok (.aload_n 0, 1) := by decide +kernel
theorem d_Mo_orbitsOf_146 : decode b_Mo_orbitsOf 146 = .ok (.aload_n 0, 1) := by decide +kernel
theorem d_Mo_orbitsOf_147 : decode b_Mo_orbitsOf 147 = .ok (.getfield 50, 3) := by decide +kernel
theorem d_Mo_orbitsOf_150 : decode b_Mo_orbitsOf 150 = .ok (.iload 7, 2) := by decide +kernel
theorem d_Mo_orbitsOf_152 : decode b_Mo_orbitsOf 152 = .ok (.iaload, 1) := by decide +kernel
theorem d_Mo_orbitsOf_153 : decode b_Mo_orbitsOf 153 = .ok (.invokevirtual 115, 3) := by decide +kernel
theorem d_Mo_orbitsOf_156 : decode b_Mo_orbitsOf 156 = .ok (.iconst 0, 1) := by decide +kernel
theorem d_Mo_orbitsOf_157 : decode b_Mo_orbitsOf 157 = .ok (.istore 8, 2) := by decide +kernel
theorem d_Mo_orbitsOf_159 : decode b_Mo_orbitsOf 159 = .ok (.iconst 0, 1) := by decide +kernel
theorem d_Mo_orbitsOf_160 : decode b_Mo_orbitsOf 160 = .ok (.istore 9, 2) := by decide +kernel
theorem d_Mo_orbitsOf_162 : decode b_Mo_orbitsOf 162 = .ok (.iconst 0, 1) := by decide +kernel
theorem d_Mo_orbitsOf_163 : decode b_Mo_orbitsOf 163 = .ok (.istore 10, 2) := by decide +kernel
theorem d_Mo_orbitsOf_165 : decode b_Mo_orbitsOf 165 = .ok (.iconst 0, 1) := by decide +kernel
theorem d_Mo_orbitsOf_166 : decode b_Mo_orbitsOf 166 = .ok (.istore 11, 2) := by decide +kernel
theorem d_Mo_orbitsOf_168 : decode b_Mo_orbitsOf 168 = .ok (.iload 11, 2) := by decide +kernel
theorem d_Mo_orbitsOf_170 : decode b_Mo_orbitsOf 170 = .ok (.aload_n 0, 1) := by decide +kernel
theorem d_Mo_orbitsOf_171 : decode b_Mo_orbitsOf 171 = .ok (.getfield 60, 3) := by decide +kernel
theorem d_Mo_orbitsOf_174 : decode b_Mo_orbitsOf 174 = .ok (.if_icmp .ge 71, 3) := by decide +kernel
theorem d_Mo_orbitsOf_177 : decode b_Mo_orbitsOf 177 = .ok (.iload 8, 2) := by decide +kernel
theorem d_Mo_orbitsOf_179 : decode b_Mo_orbitsOf 179 = .ok (.aload_n 0, 1) := by decide +kernel
theorem d_Mo_orbitsOf_180 : decode b_Mo_orbitsOf 180 = .ok (.getfield 38, 3) := by decide +kernel
theorem d_Mo_orbitsOf_183 : decode b_Mo_orbitsOf 183 = .ok (.iload 11, 2) := by decide +kernel
theorem d_Mo_orbitsOf_185 : decode b_Mo_orbitsOf 185 = .ok (.iaload, 1) := by decide +kernel
theorem d_Mo_orbitsOf_186 : decode b_Mo_orbitsOf 186 = .ok (.ifCond .ne 7, 3) := by decide +kernel
theorem d_Mo_orbitsOf_189 : decode b_Mo_orbitsOf 189 = .ok (.iconst 1, 1) := by decide +kernel
theorem d_Mo_orbitsOf_190 : decode b_Mo_orbitsOf 190 = .ok (.goto 4, 3) := by decide +kernel
theorem d_Mo_orbitsOf_193 : decode b_Mo_orbitsOf 193 = .ok (.iconst 0, 1) := by decide +kernel
theorem d_Mo_orbitsOf_194 : decode b_Mo_orbitsOf 194 = .ok (.iadd, 1) := by decide +kernel
theorem d_Mo_orbitsOf_195 : decode b_Mo_orbitsOf 195 = .ok (.istore 8, 2) := by decide +kernel
theorem d_Mo_orbitsOf_197 : decode b_Mo_orbitsOf 197 = .ok (.iload 9, 2) := by decide +kernel
theorem d_Mo_orbitsOf_199 : decode b_Mo_orbitsOf 199 = .ok (.aload_n 0, 1) := by decide +kernel
theorem d_Mo_orbitsOf_200 : decode b_Mo_orbitsOf 200 = .ok (.getfield 38, 3) := by decide +kernel
theorem d_Mo_orbitsOf_203 : decode b_Mo_orbitsOf 203 = .ok (.iload 11, 2) := by decide +kernel
theorem d_Mo_orbitsOf_205 : decode b_Mo_orbitsOf 205 = .ok (.iaload, 1) := by decide +kernel
theorem d_Mo_orbitsOf_206 : decode b_Mo_orbitsOf 206 = .ok (.iconst 1, 1) := by decide +kernel
theorem d_Mo_orbitsOf_207 : decode b_Mo_orbitsOf 207 = .ok (.if_icmp .ne 7, 3) := by decide +kernel
theorem d_Mo_orbitsOf_210 : decode b_Mo_orbitsOf 210 = .ok (.iconst 1, 1) := by decide +kernel
theorem d_Mo_orbitsOf_211 : decode b_Mo_orbitsOf 211 = .ok (.goto 4, 3) := by decide +kernel
theorem d_Mo_orbitsOf_214 : decode b_Mo_orbitsOf 214 = .ok (.iconst 0, 1) := by decide +kernel
theorem d_Mo_orbitsOf_215 : decode b_Mo_orbitsOf 215 = .ok (.iadd, 1) := by decide +kernel
theorem d_Mo_orbitsOf_216 : decode b_Mo_orbitsOf 216 = .ok (.istore 9, 2) := by decide +kernel
theorem d_Mo_orbitsOf_218 : decode b_Mo_orbitsOf 218 = .ok (.iload 10, 2) := by decide +kernel
theorem d_Mo_orbitsOf_220 : decode b_Mo_orbitsOf 220 = .ok (.aload_n 0, 1) := by decide +kernel
theorem d_Mo_orbitsOf_221 : decode b_Mo_orbitsOf 221 = .ok (.getfield 38, 3) := by decide +kernel
theorem d_Mo_orbitsOf_224 : decode b_Mo_orbitsOf 224 = .ok (.iload 11, 2) := by decide +kernel
theorem d_Mo_orbitsOf_226 : decode b_Mo_orbitsOf 226 = .ok (.iaload, 1) := by decide +kernel
theorem d_Mo_orbitsOf_227 : decode b_Mo_orbitsOf 227 = .ok (.iconst 2, 1) := by decide +kernel
theorem d_Mo_orbitsOf_228 : decode b_Mo_orbitsOf 228 = .ok (.if_icmp .ne 7, 3) := by decide +kernel
theorem d_Mo_orbitsOf_231 : decode b_Mo_orbitsOf 231 = .ok (.iconst 1, 1) := by decide +kernel
theorem d_Mo_orbitsOf_232 : decode b_Mo_orbitsOf 232 = .ok (.goto 4, 3) := by decide +kernel
theorem d_Mo_orbitsOf_235 : decode b_Mo_orbitsOf 235 = .ok (.iconst 0, 1) := by decide +kernel
theorem d_Mo_orbitsOf_236 : decode b_Mo_orbitsOf 236 = .ok (.iadd, 1) := by decide +kernel
theorem d_Mo_orbitsOf_237 : decode b_Mo_orbitsOf 237 = .ok (.istore 10, 2) := by decide +kernel
theorem d_Mo_orbitsOf_239 : decode b_Mo_orbitsOf 239 = .ok (.iinc 11 1, 3) := by decide +kernel
theorem d_Mo_orbitsOf_242 : decode b_Mo_orbitsOf 242 = .ok (.goto (-74), 3) := by decide +kernel
theorem d_Mo_orbitsOf_245 : decode b_Mo_orbitsOf 245 = .ok (.iload 6, 2) := by decide +kernel
theorem d_Mo_orbitsOf_247 : decode b_Mo_orbitsOf 247 = .ok (.iload 8, 2) := by decide +kernel
theorem d_Mo_orbitsOf_249 : decode b_Mo_orbitsOf 249 = .ok (.iload_n 1, 1) := by decide +kernel
theorem d_Mo_orbitsOf_250 : decode b_Mo_orbitsOf 250 = .ok (.if_icmp .ne 19, 3) := by decide +kernel
theorem d_Mo_orbitsOf_253 : decode b_Mo_orbitsOf 253 = .ok (.iload 9, 2) := by decide +kernel
theorem d_Mo_orbitsOf_255 : decode b_Mo_orbitsOf 255 = .ok (.iload_n 2, 1) := by decide +kernel
theorem d_Mo_orbitsOf_256 : decode b_Mo_orbitsOf 256 = .ok (.if_icmp .ne 13, 3) := by decide +kernel
theorem d_Mo_orbitsOf_259 : decode b_Mo_orbitsOf 259 = .ok (.iload 10, 2) := by decide +kernel
theorem d_Mo_orbitsOf_261 : decode b_Mo_orbitsOf 261 = .ok (.iload_n 3, 1) := by decide +kernel
theorem d_Mo_orbitsOf_262 : decode b_Mo_orbitsOf 262 = .ok (.if_icmp .ne 7, 3) := by decide +kernel
theorem d_Mo_orbitsOf_265 : decode b_Mo_orbitsOf 265 = .ok (.iconst 1, 1) := by decide +kernel
theorem d_Mo_orbitsOf_266 : decode b_Mo_orbitsOf 266 = .ok (.goto 4, 3) := by decide +kernel
theorem d_Mo_orbitsOf_269 : decode b_Mo_orbitsOf 269 = .ok (.iconst 0, 1) := by decide +kernel
theorem d_Mo_orbitsOf_270 : decode b_Mo_orbitsOf 270 = .ok (.iadd, 1) := by decide +kernel
theorem d_Mo_orbitsOf_271 : decode b_Mo_orbitsOf 271 = .ok (.istore 6, 2) := by decide +kernel
theorem d_Mo_orbitsOf_273 : decode b_Mo_orbitsOf 273 = .ok (.iinc 7 1, 3) := by decide +kernel
theorem d_Mo_orbitsOf_276 : decode b_Mo_orbitsOf 276 = .ok (.goto (-140), 3) := by decide +kernel
theorem d_Mo_orbitsOf_279 : decode b_Mo_orbitsOf 279 = .ok (.iload 6, 2) := by decide +kernel
theorem d_Mo_orbitsOf_281 : decode b_Mo_orbitsOf 281 = .ok (.ireturn, 1) := by decide +kernel
theorem d_Mo_fits_0 : decode b_Mo_fits 0 = .ok (.aload_n 0, 1) := by decide +kernel
theorem d_Mo_fits_1 : decode b_Mo_fits 1 = .ok (.invokevirtual 129, 3) := by decide +kernel
theorem d_Mo_fits_4 : decode b_Mo_fits 4 = .ok (.ifCond .ne 6, 3) := by decide +kernel
theorem d_Mo_fits_7 : decode b_Mo_fits 7 = .ok (.bipush (-3), 2) := by decide +kernel
theorem d_Mo_fits_9 : decode b_Mo_fits 9 = .ok (.ireturn, 1) := by decide +kernel
theorem d_Mo_fits_10 : decode b_Mo_fits 10 = .ok (.aload_n 0, 1) := by decide +kernel
theorem d_Mo_fits_11 : decode b_Mo_fits 11 = .ok (.invokevirtual 141, 3) := by decide +kernel
theorem d_Mo_fits_14 : decode b_Mo_fits 14 = .ok (.iconst 0, 1) := by decide +kernel
theorem d_Mo_fits_15 : decode b_Mo_fits 15 = .ok (.istore_n 1, 1) := by decide +kernel
theorem d_Mo_fits_16 : decode b_Mo_fits 16 = .ok (.iconst 0, 1) := by decide +kernel
theorem d_Mo_fits_17 : decode b_Mo_fits 17 = .ok (.istore_n 2, 1) := by decide +kernel
theorem d_Mo_fits_18 : decode b_Mo_fits 18 = .ok (.iload_n 2, 1) := by decide +kernel
theorem d_Mo_fits_19 : decode b_Mo_fits 19 = .ok (.aload_n 0, 1) := by decide +kernel
theorem d_Mo_fits_20 : decode b_Mo_fits 20 = .ok (.getfield 132, 3) := by decide +kernel
theorem d_Mo_fits_23 : decode b_Mo_fits 23 = .ok (.if_icmp .ge 34, 3) := by decide +kernel
theorem d_Mo_fits_26 : decode b_Mo_fits 26 = .ok (.aload_n 0, 1) := by decide +kernel
theorem d_Mo_fits_27 : decode b_Mo_fits 27 = .ok (.aload_n 0, 1) := by decide +kernel
theorem d_Mo_fits_28 : decode b_Mo_fits 28 = .ok (.getfield 50, 3) := by decide +kernel
theorem d_Mo_fits_31 : decode b_Mo_fits 31 = .ok (.iload_n 2, 1) := by decide +kernel
theorem d_Mo_fits_32 : decode b_Mo_fits 32 = .ok (.iaload, 1) := by decide +kernel
theorem d_Mo_fits_33 : decode b_Mo_fits 33 = .ok (.invokevirtual 115, 3) := by decide +kernel
theorem d_Mo_fits_36 : decode b_Mo_fits 36 = .ok (.iload_n 1, 1) := by decide +kernel
theorem d_Mo_fits_37 : decode b_Mo_fits 37 = .ok (.aload_n 0, 1) := by decide +kernel
theorem d_Mo_fits_38 : decode b_Mo_fits 38 = .ok (.invokevirtual 121, 3) := by decide +kernel
theorem d_Mo_fits_41 : decode b_Mo_fits 41 = .ok (.ifCond .eq 7, 3) := by decide +kernel
theorem d_Mo_fits_44 : decode b_Mo_fits 44 = .ok (.iconst 1, 1) := by decide +kernel
theorem d_Mo_fits_45 : decode b_Mo_fits 45 = .ok (.goto 4, 3) := by decide +kernel
theorem d_Mo_fits_48 : decode b_Mo_fits 48 = .ok (.iconst 0, 1) := by decide +kernel
theorem d_Mo_fits_49 : decode b_Mo_fits 49 = .ok (.iadd, 1) := by decide +kernel
theorem d_Mo_fits_50 : decode b_Mo_fits 50 = .ok (.istore_n 1, 1) := by decide +kernel
theorem d_Mo_fits_51 : decode b_Mo_fits 51 = .ok (.iinc 2 1, 3) := by decide +kernel
theorem d_Mo_fits_54 : decode b_Mo_fits 54 = .ok (.goto (-36), 3) := by decide +kernel
theorem d_Mo_fits_57 : decode b_Mo_fits 57 = .ok (.iload_n 1, 1) := by decide +kernel
theorem d_Mo_fits_58 : decode b_Mo_fits 58 = .ok (.ireturn, 1) := by decide +kernel
theorem d_Mo_full_0 : decode b_Mo_full 0 = .ok (.aload_n 0, 1) := by decide +kernel
theorem d_Mo_full_1 : decode b_Mo_full 1 = .ok (.invokevirtual 141, 3) := by decide +kernel
theorem d_Mo_full_4 : decode b_Mo_full 4 = .ok (.aload_n 0, 1) := by decide +kernel
theorem d_Mo_full_5 : decode b_Mo_full 5 = .ok (.invokevirtual 106, 3) := by decide +kernel
theorem d_Mo_full_8 : decode b_Mo_full 8 = .ok (.iconst 0, 1) := by decide +kernel
theorem d_Mo_full_9 : decode b_Mo_full 9 = .ok (.istore_n 1, 1) := by decide +kernel
theorem d_Mo_full_10 : decode b_Mo_full 10 = .ok (.iconst 0, 1) := by decide +kernel
theorem d_Mo_full_11 : decode b_Mo_full 11 = .ok (.istore_n 2, 1) := by decide +kernel
theorem d_Mo_full_12 : decode b_Mo_full 12 = .ok (.iload_n 2, 1) := by decide +kernel
theorem d_Mo_full_13 : decode b_Mo_full 13 = .ok (.aload_n 0, 1) := by decide +kernel
theorem d_Mo_full_14 : decode b_Mo_full 14 = .ok (.getfield 132, 3) := by decide +kernel
theorem d_Mo_full_17 : decode b_Mo_full 17 = .ok (.if_icmp .ge 35, 3) := by decide +kernel
theorem d_Mo_full_20 : decode b_Mo_full 20 = .ok (.iload_n 1, 1) := by decide +kernel
theorem d_Mo_full_21 : decode b_Mo_full 21 = .ok (.aload_n 0, 1) := by decide +kernel
theorem d_Mo_full_22 : decode b_Mo_full 22 = .ok (.getfield 47, 3) := by decide +kernel
theorem d_Mo_full_25 : decode b_Mo_full 25 = .ok (.aload_n 0, 1) := by decide +kernel
theorem d_Mo_full_26 : decode b_Mo_full 26 = .ok (.getfield 50, 3) := by decide +kernel
theorem d_Mo_full_29 : decode b_Mo_full 29 = .ok (.iload_n 2, 1) := by decide +kernel
theorem d_Mo_full_30 : decode b_Mo_full 30 = .ok (.iaload, 1) := by decide +kernel
theorem d_Mo_full_31 : decode b_Mo_full 31 = .ok (.iaload, 1) := by decide +kernel
theorem d_Mo_full_32 : decode b_Mo_full 32 = .ok (.aload_n 0, 1) := by decide +kernel
theorem d_Mo_full_33 : decode b_Mo_full 33 = .ok (.getfield 100, 3) := by decide +kernel
theorem d_Mo_full_36 : decode b_Mo_full 36 = .ok (.if_icmp .ne 7, 3) := by decide +kernel
theorem d_Mo_full_39 : decode b_Mo_full 39 = .ok (.iconst 1, 1) := by decide +kernel
theorem d_Mo_full_40 : decode b_Mo_full 40 = .ok (.goto 4, 3) := by decide +kernel
theorem d_Mo_full_43 : decode b_Mo_full 43 = .ok (.iconst 0, 1) := by decide +kernel
theorem d_Mo_full_44 : decode b_Mo_full 44 = .ok (.iadd, 1) := by decide +kernel
theorem d_Mo_full_45 : decode b_Mo_full 45 = .ok (.istore_n 1, 1) := by decide +kernel
theorem d_Mo_full_46 : decode b_Mo_full 46 = .ok (.iinc 2 1, 3) := by decide +kernel
theorem d_Mo_full_49 : decode b_Mo_full 49 = .ok (.goto (-37), 3) := by decide +kernel
theorem d_Mo_full_52 : decode b_Mo_full 52 = .ok (.iload_n 1, 1) := by decide +kernel
theorem d_Mo_full_53 : decode b_Mo_full 53 = .ok (.ireturn, 1) := by decide +kernel
theorem d_Mo_sum_0 : decode b_Mo_sum 0 = .ok (.aload_n 0, 1) := by decide +kernel
theorem d_Mo_sum_1 : decode b_Mo_sum 1 = .ok (.invokevirtual 141, 3) := by decide +kernel
theorem d_Mo_sum_4 : decode b_Mo_sum 4 = .ok (.lconst 0, 1) := by decide +kernel
theorem d_Mo_sum_5 : decode b_Mo_sum 5 = .ok (.lstore_n 1, 1) := by decide +kernel
theorem d_Mo_sum_6 : decode b_Mo_sum 6 = .ok (.iconst 0, 1) := by decide +kernel
theorem d_Mo_sum_7 : decode b_Mo_sum 7 = .ok (.istore_n 3, 1) := by decide +kernel
theorem d_Mo_sum_8 : decode b_Mo_sum 8 = .ok (.iload_n 3, 1) := by decide +kernel
theorem d_Mo_sum_9 : decode b_Mo_sum 9 = .ok (.aload_n 0, 1) := by decide +kernel
theorem d_Mo_sum_10 : decode b_Mo_sum 10 = .ok (.getfield 132, 3) := by decide +kernel
theorem d_Mo_sum_13 : decode b_Mo_sum 13 = .ok (.if_icmp .ge 63, 3) := by decide +kernel
theorem d_Mo_sum_16 : decode b_Mo_sum 16 = .ok (.aload_n 0, 1) := by decide +kernel
theorem d_Mo_sum_17 : decode b_Mo_sum 17 = .ok (.aload_n 0, 1) := by decide +kernel
theorem d_Mo_sum_18 : decode b_Mo_sum 18 = .ok (.getfield 50, 3) := by decide +kernel
theorem d_Mo_sum_21 : decode b_Mo_sum 21 = .ok (.iload_n 3, 1) := by decide +kernel
theorem d_Mo_sum_22 : decode b_Mo_sum 22 = .ok (.iaload, 1) := by decide +kernel
theorem d_Mo_sum_23 : decode b_Mo_sum 23 = .ok (.invokevirtual 115, 3) := by decide +kernel
theorem d_Mo_sum_26 : decode b_Mo_sum 26 = .ok (.lconst 1, 1) := by decide +kernel
theorem d_Mo_sum_27 : decode b_Mo_sum 27 = .ok (.lstore 4, 2) := by decide +kernel
theorem d_Mo_sum_29 : decode b_Mo_sum 29 = .ok (.iconst 0, 1) := by decide +kernel
theorem d_Mo_sum_30 : decode b_Mo_sum 30 = .ok (.istore 6, 2) := by decide +kernel
theorem d_Mo_sum_32 : decode b_Mo_sum 32 = .ok (.iload 6, 2) := by decide +kernel
theorem d_Mo_sum_34 : decode b_Mo_sum 34 = .ok (.aload_n 0, 1) := by decide +kernel
theorem d_Mo_sum_35 : decode b_Mo_sum 35 = .ok (.getfield 60, 3) := by decide +kernel
theorem d_Mo_sum_38 : decode b_Mo_sum 38 = .ok (.if_icmp .ge 27, 3) := by decide +kernel
theorem d_Mo_sum_41 : decode b_Mo_sum 41 = .ok (.lload 4, 2) := by decide +kernel
theorem d_Mo_sum_43 : decode b_Mo_sum 43 = .ok (.aload_n 0, 1) := by decide +kernel
theorem d_Mo_sum_44 : decode b_Mo_sum 44 = .ok (.getfield 17, 3) := by decide +kernel
theorem d_Mo_sum_47 : decode b_Mo_sum 47 = .ok (.aload_n 0, 1) := by decide +kernel
theorem d_Mo_sum_48 : decode b_Mo_sum 48 = .ok (.getfield 38, 3) := by decide +kernel
theorem d_Mo_sum_51 : decode b_Mo_sum 51 = .ok (.iload 6, 2) := by decide +kernel
theorem d_Mo_sum_53 : decode b_Mo_sum 53 = .ok (.iaload, 1) := by decide +kernel
theorem d_Mo_sum_54 : decode b_Mo_sum 54 = .ok (.iaload, 1) := by decide +kernel
theorem d_Mo_sum_55 : decode b_Mo_sum 55 = .ok (.i2l, 1) := by decide +kernel
theorem d_Mo_sum_56 : decode b_Mo_sum 56 = .ok (.lmul, 1) := by decide +kernel
theorem d_Mo_sum_57 : decode b_Mo_sum 57 = .ok (.lstore 4, 2) := by decide +kernel
theorem d_Mo_sum_59 : decode b_Mo_sum 59 = .ok (.iinc 6 1, 3) := by decide +kernel
theorem d_Mo_sum_62 : decode b_Mo_sum 62 = .ok (.goto (-30), 3) := by decide +kernel
theorem d_Mo_sum_65 : decode b_Mo_sum 65 = .ok (.lload_n 1, 1) := by decide +kernel
theorem d_Mo_sum_66 : decode b_Mo_sum 66 = .ok (.lload 4, 2) := by decide +kernel
theorem d_Mo_sum_68 : decode b_Mo_sum 68 = .ok (.ladd, 1) := by decide +kernel
theorem d_Mo_sum_69 : decode b_Mo_sum 69 = .ok (.lstore_n 1, 1) := by decide +kernel
theorem d_Mo_sum_70 : decode b_Mo_sum 70 = .ok (.iinc 3 1, 3) := by decide +kernel
theorem d_Mo_sum_73 : decode b_Mo_sum 73 = .ok (.goto (-65), 3) := by decide +kernel
theorem d_Mo_sum_76 : decode b_Mo_sum 76 = .ok (.lload_n 1, 1) := by decide +kernel
theorem d_Mo_sum_77 : decode b_Mo_sum 77 = .ok (.lreturn, 1) := by decide +kernel
theorem d_Mo_head_0 : decode b_Mo_head 0 = .ok (.aload_n 0, 1) := by decide +kernel
theorem d_Mo_head_1 : decode b_Mo_head 1 = .ok (.invokevirtual 141, 3) := by decide +kernel
theorem d_Mo_head_4 : decode b_Mo_head 4 = .ok (.aload_n 0, 1) := by decide +kernel
theorem d_Mo_head_5 : decode b_Mo_head 5 = .ok (.iload_n 1, 1) := by decide +kernel
theorem d_Mo_head_6 : decode b_Mo_head 6 = .ok (.invokevirtual 144, 3) := by decide +kernel
theorem d_Mo_head_9 : decode b_Mo_head 9 = .ok (.ifCond .eq 12, 3) := by decide +kernel
theorem d_Mo_head_12 : decode b_Mo_head 12 = .ok (.aload_n 0, 1) := by decide +kernel
theorem d_Mo_head_13 : decode b_Mo_head 13 = .ok (.getfield 44, 3) := by decide +kernel
theorem d_Mo_head_16 : decode b_Mo_head 16 = .ok (.iload_n 1, 1) := by decide +kernel
theorem d_Mo_head_17 : decode b_Mo_head 17 = .ok (.iaload, 1) := by decide +kernel
theorem d_Mo_head_18 : decode b_Mo_head 18 = .ok (.goto 5, 3) := by decide +kernel
theorem d_Mo_head_21 : decode b_Mo_head 21 = .ok (.bipush (-2), 2) := by decide +kernel
theorem d_Mo_head_23 : decode b_Mo_head 23 = .ok (.ireturn, 1) := by decide +kernel
theorem d_Mo_mates_0 : decode b_Mo_mates 0 = .ok (.aload_n 0, 1) := by decide +kernel
theorem d_Mo_mates_1 : decode b_Mo_mates 1 = .ok (.invokevirtual 141, 3) := by decide +kernel
theorem d_Mo_mates_4 : decode b_Mo_mates 4 = .ok (.aload_n 0, 1) := by decide +kernel
theorem d_Mo_mates_5 : decode b_Mo_mates 5 = .ok (.iload_n 1, 1) := by decide +kernel
theorem d_Mo_mates_6 : decode b_Mo_mates 6 = .ok (.invokevirtual 144, 3) := by decide +kernel
theorem d_Mo_mates_9 : decode b_Mo_mates 9 = .ok (.ifCond .eq 17, 3) := by decide +kernel
theorem d_Mo_mates_12 : decode b_Mo_mates 12 = .ok (.aload_n 0, 1) := by decide +kernel
theorem d_Mo_mates_13 : decode b_Mo_mates 13 = .ok (.getfield 47, 3) := by decide +kernel
theorem d_Mo_mates_16 : decode b_Mo_mates 16 = .ok (.aload_n 0, 1) := by decide +kernel
theorem d_Mo_mates_17 : decode b_Mo_mates 17 = .ok (.getfield 44, 3) := by decide +kernel
theorem d_Mo_mates_20 : decode b_Mo_mates 20 = .ok (.iload_n 1, 1) := by decide +kernel
theorem d_Mo_mates_21 : decode b_Mo_mates 21 = .ok (.iaload, 1) := by decide +kernel
theorem d_Mo_mates_22 : decode b_Mo_mates 22 = .ok (.iaload, 1) := by decide +kernel
theorem d_Mo_mates_23 : decode b_Mo_mates 23 = .ok (.goto 5, 3) := by decide +kernel
theorem d_Mo_mates_26 : decode b_Mo_mates 26 = .ok (.bipush (-2), 2) := by decide +kernel
theorem d_Mo_mates_28 : decode b_Mo_mates 28 = .ok (.ireturn, 1) := by decide +kernel
theorem d_Mo_rank_0 : decode b_Mo_rank 0 = .ok (.aload_n 0, 1) := by decide +kernel
theorem d_Mo_rank_1 : decode b_Mo_rank 1 = .ok (.invokevirtual 141, 3) := by decide +kernel
theorem d_Mo_rank_4 : decode b_Mo_rank 4 = .ok (.aload_n 0, 1) := by decide +kernel
theorem d_Mo_rank_5 : decode b_Mo_rank 5 = .ok (.iload_n 1, 1) := by decide +kernel
theorem d_Mo_rank_6 : decode b_Mo_rank 6 = .ok (.invokevirtual 144, 3) := by decide +kernel
theorem d_Mo_rank_9 : decode b_Mo_rank 9 = .ok (.ifCond .eq 17, 3) := by decide +kernel
theorem d_Mo_rank_12 : decode b_Mo_rank 12 = .ok (.aload_n 0, 1) := by decide +kernel
theorem d_Mo_rank_13 : decode b_Mo_rank 13 = .ok (.getfield 53, 3) := by decide +kernel
theorem d_Mo_rank_16 : decode b_Mo_rank 16 = .ok (.aload_n 0, 1) := by decide +kernel
theorem d_Mo_rank_17 : decode b_Mo_rank 17 = .ok (.getfield 44, 3) := by decide +kernel
theorem d_Mo_rank_20 : decode b_Mo_rank 20 = .ok (.iload_n 1, 1) := by decide +kernel
theorem d_Mo_rank_21 : decode b_Mo_rank 21 = .ok (.iaload, 1) := by decide +kernel
theorem d_Mo_rank_22 : decode b_Mo_rank 22 = .ok (.iaload, 1) := by decide +kernel
theorem d_Mo_rank_23 : decode b_Mo_rank 23 = .ok (.goto 5, 3) := by decide +kernel
theorem d_Mo_rank_26 : decode b_Mo_rank 26 = .ok (.bipush (-2), 2) := by decide +kernel
theorem d_Mo_rank_28 : decode b_Mo_rank 28 = .ok (.ireturn, 1) := by decide +kernel
theorem d_Mo_nth_0 : decode b_Mo_nth 0 = .ok (.aload_n 0, 1) := by decide +kernel
theorem d_Mo_nth_1 : decode b_Mo_nth 1 = .ok (.invokevirtual 141, 3) := by decide +kernel
theorem d_Mo_nth_4 : decode b_Mo_nth 4 = .ok (.iload_n 1, 1) := by decide +kernel
theorem d_Mo_nth_5 : decode b_Mo_nth 5 = .ok (.iconst 0, 1) := by decide +kernel
theorem d_Mo_nth_6 : decode b_Mo_nth 6 = .ok (.aload_n 0, 1) := by decide +kernel
theorem d_Mo_nth_7 : decode b_Mo_nth 7 = .ok (.getfield 132, 3) := by decide +kernel
theorem d_Mo_nth_10 : decode b_Mo_nth 10 = .ok (.iconst 1, 1) := by decide +kernel
theorem d_Mo_nth_11 : decode b_Mo_nth 11 = .ok (.isub, 1) := by decide +kernel
theorem d_Mo_nth_12 : decode b_Mo_nth 12 = .ok (.invokestatic 80, 3) := by decide +kernel
theorem d_Mo_nth_15 : decode b_Mo_nth 15 = .ok (.ifCond .eq 12, 3) := by decide +kernel
theorem d_Mo_nth_18 : decode b_Mo_nth 18 = .ok (.aload_n 0, 1) := by decide +kernel
theorem d_Mo_nth_19 : decode b_Mo_nth 19 = .ok (.getfield 50, 3) := by decide +kernel
theorem d_Mo_nth_22 : decode b_Mo_nth 22 = .ok (.iload_n 1, 1) := by decide +kernel
theorem d_Mo_nth_23 : decode b_Mo_nth 23 = .ok (.iaload, 1) := by decide +kernel
theorem d_Mo_nth_24 : decode b_Mo_nth 24 = .ok (.goto 4, 3) := by decide +kernel
theorem d_Mo_nth_27 : decode b_Mo_nth 27 = .ok (.iconst (-1), 1) := by decide +kernel
theorem d_Mo_nth_28 : decode b_Mo_nth 28 = .ok (.ireturn, 1) := by decide +kernel
theorem d_Mo_by_0 : decode b_Mo_by 0 = .ok (.aload_n 0, 1) := by decide +kernel
theorem d_Mo_by_1 : decode b_Mo_by 1 = .ok (.iload_n 1, 1) := by decide +kernel
theorem d_Mo_by_2 : decode b_Mo_by 2 = .ok (.invokevirtual 144, 3) := by decide +kernel
theorem d_Mo_by_5 : decode b_Mo_by 5 = .ok (.ifCond .eq 11, 3) := by decide +kernel
theorem d_Mo_by_8 : decode b_Mo_by 8 = .ok (.aload_n 0, 1) := by decide +kernel
theorem d_Mo_by_9 : decode b_Mo_by 9 = .ok (.iload_n 2, 1) := by decide +kernel
theorem d_Mo_by_10 : decode b_Mo_by 10 = .ok (.invokevirtual 144, 3) := by decide +kernel
theorem d_Mo_by_13 : decode b_Mo_by 13 = .ok (.ifCond .ne 6, 3) := by decide +kernel
theorem d_Mo_by_16 : decode b_Mo_by 16 = .ok (.bipush (-2), 2) := by decide +kernel
theorem d_Mo_by_18 : decode b_Mo_by 18 = .ok (.ireturn, 1) := by decide +kernel
theorem d_Mo_by_19 : decode b_Mo_by 19 = .ok (.aload_n 0, 1) := by decide +kernel
theorem d_Mo_by_20 : decode b_Mo_by 20 = .ok (.invokevirtual 106, 3) := by decide +kernel
theorem d_Mo_by_23 : decode b_Mo_by 23 = .ok (.aload_n 0, 1) := by decide +kernel
theorem d_Mo_by_24 : decode b_Mo_by 24 = .ok (.iload_n 1, 1) := by decide +kernel
theorem d_Mo_by_25 : decode b_Mo_by 25 = .ok (.invokevirtual 115, 3) := by decide +kernel
theorem d_Mo_by_28 : decode b_Mo_by 28 = .ok (.iconst 0, 1) := by decide +kernel
theorem d_Mo_by_29 : decode b_Mo_by 29 = .ok (.istore_n 3, 1) := by decide +kernel
theorem d_Mo_by_30 : decode b_Mo_by 30 = .ok (.iload_n 3, 1) := by decide +kernel
theorem d_Mo_by_31 : decode b_Mo_by 31 = .ok (.aload_n 0, 1) := by decide +kernel
theorem d_Mo_by_32 : decode b_Mo_by 32 = .ok (.getfield 100, 3) := by decide +kernel
theorem d_Mo_by_35 : decode b_Mo_by 35 = .ok (.if_icmp .ge 25, 3) := by decide +kernel
theorem d_Mo_by_38 : decode b_Mo_by 38 = .ok (.aload_n 0, 1) := by decide +kernel
theorem d_Mo_by_39 : decode b_Mo_by 39 = .ok (.aload_n 0, 1) := by decide +kernel
theorem d_Mo_by_40 : decode b_Mo_by 40 = .ok (.getfield 29, 3) := by decide +kernel
theorem d_Mo_by_43 : decode b_Mo_by 43 = .ok (.iload_n 3, 1) := by decide +kernel
theorem d_Mo_by_44 : decode b_Mo_by 44 = .ok (.iaload, 1) := by decide +kernel
theorem d_Mo_by_45 : decode b_Mo_by 45 = .ok (.invokevirtual 138, 3) := by decide +kernel
theorem d_Mo_by_48 : decode b_Mo_by 48 = .ok (.iload_n 2, 1) := by decide +kernel
theorem d_Mo_by_49 : decode b_Mo_by 49 = .ok (.if_icmp .ne 5, 3) := by decide +kernel
theorem d_Mo_by_52 : decode b_Mo_by 52 = .ok (.iload_n 3, 1) := by decide +kernel
theorem d_Mo_by_53 : decode b_Mo_by 53 = .ok (.ireturn, 1) := by decide +kernel
theorem d_Mo_by_54 : decode b_Mo_by 54 = .ok (.iinc 3 1, 3) := by decide +kernel
theorem d_Mo_by_57 : decode b_Mo_by 57 = .ok (.goto (-27), 3) := by decide +kernel
theorem d_Mo_by_60 : decode b_Mo_by 60 = .ok (.iconst (-1), 1) := by decide +kernel
theorem d_Mo_by_61 : decode b_Mo_by 61 = .ok (.ireturn, 1) := by decide +kernel
theorem d_Mo_fit_0 : decode b_Mo_fit 0 = .ok (.aload_n 0, 1) := by decide +kernel
theorem d_Mo_fit_1 : decode b_Mo_fit 1 = .ok (.iload_n 1, 1) := by decide +kernel
theorem d_Mo_fit_2 : decode b_Mo_fit 2 = .ok (.invokevirtual 144, 3) := by decide +kernel
theorem d_Mo_fit_5 : decode b_Mo_fit 5 = .ok (.ifCond .ne 6, 3) := by decide +kernel
theorem d_Mo_fit_8 : decode b_Mo_fit 8 = .ok (.bipush (-2), 2) := by decide +kernel
theorem d_Mo_fit_10 : decode b_Mo_fit 10 = .ok (.ireturn, 1) := by decide +kernel
theorem d_Mo_fit_11 : decode b_Mo_fit 11 = .ok (.aload_n 0, 1) := by decide +kernel
theorem d_Mo_fit_12 : decode b_Mo_fit 12 = .ok (.iload_n 1, 1) := by decide +kernel
theorem d_Mo_fit_13 : decode b_Mo_fit 13 = .ok (.invokevirtual 115, 3) := by decide +kernel
theorem d_Mo_fit_16 : decode b_Mo_fit 16 = .ok (.aload_n 0, 1) := by decide +kernel
theorem d_Mo_fit_17 : decode b_Mo_fit 17 = .ok (.invokevirtual 121, 3) := by decide +kernel
theorem d_Mo_fit_20 : decode b_Mo_fit 20 = .ok (.ifCond .eq 7, 3) := by decide +kernel
theorem d_Mo_fit_23 : decode b_Mo_fit 23 = .ok (.iconst 1, 1) := by decide +kernel
theorem d_Mo_fit_24 : decode b_Mo_fit 24 = .ok (.goto 4, 3) := by decide +kernel
theorem d_Mo_fit_27 : decode b_Mo_fit 27 = .ok (.iconst 0, 1) := by decide +kernel
theorem d_Mo_fit_28 : decode b_Mo_fit 28 = .ok (.ireturn, 1) := by decide +kernel
theorem d_Mo_made_0 : decode b_Mo_made 0 = .ok (.aload_n 0, 1) := by decide +kernel
theorem d_Mo_made_1 : decode b_Mo_made 1 = .ok (.iload_n 1, 1) := by decide +kernel
theorem d_Mo_made_2 : decode b_Mo_made 2 = .ok (.invokevirtual 144, 3) := by decide +kernel
theorem d_Mo_made_5 : decode b_Mo_made 5 = .ok (.ifCond .eq 11, 3) := by decide +kernel
theorem d_Mo_made_8 : decode b_Mo_made 8 = .ok (.aload_n 0, 1) := by decide +kernel
theorem d_Mo_made_9 : decode b_Mo_made 9 = .ok (.iload_n 2, 1) := by decide +kernel
theorem d_Mo_made_10 : decode b_Mo_made 10 = .ok (.invokevirtual 88, 3) := by decide +kernel
theorem d_Mo_made_13 : decode b_Mo_made 13 = .ok (.ifCond .ne 6, 3) := by decide +kernel
theorem d_Mo_made_16 : decode b_Mo_made 16 = .ok (.bipush (-2), 2) := by decide +kernel
theorem d_Mo_made_18 : decode b_Mo_made 18 = .ok (.ireturn, 1) := by decide +kernel
theorem d_Mo_made_19 : decode b_Mo_made 19 = .ok (.aload_n 0, 1) := by decide +kernel
theorem d_Mo_made_20 : decode b_Mo_made 20 = .ok (.iload_n 1, 1) := by decide +kernel
theorem d_Mo_made_21 : decode b_Mo_made 21 = .ok (.invokevirtual 115, 3) := by decide +kernel
theorem d_Mo_made_24 : decode b_Mo_made 24 = .ok (.aload_n 0, 1) := by decide +kernel
theorem d_Mo_made_25 : decode b_Mo_made 25 = .ok (.iload_n 2, 1) := by decide +kernel
theorem d_Mo_made_26 : decode b_Mo_made 26 = .ok (.invokevirtual 138, 3) := by decide +kernel
theorem d_Mo_made_29 : decode b_Mo_made 29 = .ok (.ireturn, 1) := by decide +kernel
