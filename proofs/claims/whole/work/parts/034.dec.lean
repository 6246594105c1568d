theorem d_Mo_depth_42 : decode b_Mo_depth 42 = .ok (.iinc 3 (-1), 3) := by decide +kernel
theorem d_Mo_depth_45 : decode b_Mo_depth 45 = .ok (.goto (-27), 3) := by decide +kernel
theorem d_Mo_depth_48 : decode b_Mo_depth 48 = .ok (.aload_n 0, 1) := by decide +kernel
theorem d_Mo_depth_49 : decode b_Mo_depth 49 = .ok (.getfield 47, 3) := by decide +kernel
theorem d_Mo_depth_52 : decode b_Mo_depth 52 = .ok (.bipush 6, 2) := by decide +kernel
theorem d_Mo_depth_54 : decode b_Mo_depth 54 = .ok (.aload_n 0, 1) := by decide +kernel
theorem d_Mo_depth_55 : decode b_Mo_depth 55 = .ok (.getfield 68, 3) := by decide +kernel
theorem d_Mo_depth_58 : decode b_Mo_depth 58 = .ok (.iload_n 3, 1) := by decide +kernel
theorem d_Mo_depth_59 : decode b_Mo_depth 59 = .ok (.iaload, 1) := by decide +kernel
theorem d_Mo_depth_60 : decode b_Mo_depth 60 = .ok (.imul, 1) := by decide +kernel
theorem d_Mo_depth_61 : decode b_Mo_depth 61 = .ok (.aload_n 0, 1) := by decide +kernel
theorem d_Mo_depth_62 : decode b_Mo_depth 62 = .ok (.getfield 71, 3) := by decide +kernel
theorem d_Mo_depth_65 : decode b_Mo_depth 65 = .ok (.iload_n 3, 1) := by decide +kernel
theorem d_Mo_depth_66 : decode b_Mo_depth 66 = .ok (.iaload, 1) := by decide +kernel
theorem d_Mo_depth_67 : decode b_Mo_depth 67 = .ok (.iadd, 1) := by decide +kernel
theorem d_Mo_depth_68 : decode b_Mo_depth 68 = .ok (.iaload, 1) := by decide +kernel
theorem d_Mo_depth_69 : decode b_Mo_depth 69 = .ok (.istore 4, 2) := by decide +kernel
theorem d_Mo_depth_71 : decode b_Mo_depth 71 = .ok (.aload_n 0, 1) := by decide +kernel
theorem d_Mo_depth_72 : decode b_Mo_depth 72 = .ok (.getfield 71, 3) := by decide +kernel
theorem d_Mo_depth_75 : decode b_Mo_depth 75 = .ok (.iload_n 3, 1) := by decide +kernel
theorem d_Mo_depth_76 : decode b_Mo_depth 76 = .ok (.dup2, 1) := by decide +kernel
theorem d_Mo_depth_77 : decode b_Mo_depth 77 = .ok (.iaload, 1) := by decide +kernel
theorem d_Mo_depth_78 : decode b_Mo_depth 78 = .ok (.iconst 1, 1) := by decide +kernel
theorem d_Mo_depth_79 : decode b_Mo_depth 79 = .ok (.iadd, 1) := by decide +kernel
theorem d_Mo_depth_80 : decode b_Mo_depth 80 = .ok (.iastore, 1) := by decide +kernel
theorem d_Mo_depth_81 : decode b_Mo_depth 81 = .ok (.iinc 3 1, 3) := by decide +kernel
theorem d_Mo_depth_84 : decode b_Mo_depth 84 = .ok (.aload_n 0, 1) := by decide +kernel
theorem d_Mo_depth_85 : decode b_Mo_depth 85 = .ok (.getfield 68, 3) := by decide +kernel
theorem d_Mo_depth_88 : decode b_Mo_depth 88 = .ok (.iload_n 3, 1) := by decide +kernel
theorem d_Mo_depth_89 : decode b_Mo_depth 89 = .ok (.iload 4, 2) := by decide +kernel
theorem d_Mo_depth_91 : decode b_Mo_depth 91 = .ok (.iastore, 1) := by decide +kernel
theorem d_Mo_depth_92 : decode b_Mo_depth 92 = .ok (.aload_n 0, 1) := by decide +kernel
theorem d_Mo_depth_93 : decode b_Mo_depth 93 = .ok (.getfield 71, 3) := by decide +kernel
theorem d_Mo_depth_96 : decode b_Mo_depth 96 = .ok (.iload_n 3, 1) := by decide +kernel
theorem d_Mo_depth_97 : decode b_Mo_depth 97 = .ok (.iconst 0, 1) := by decide +kernel
theorem d_Mo_depth_98 : decode b_Mo_depth 98 = .ok (.iastore, 1) := by decide +kernel
theorem d_Mo_depth_99 : decode b_Mo_depth 99 = .ok (.iload_n 3, 1) := by decide +kernel
theorem d_Mo_depth_100 : decode b_Mo_depth 100 = .ok (.iload_n 2, 1) := by decide +kernel
theorem d_Mo_depth_101 : decode b_Mo_depth 101 = .ok (.if_icmp .le 5, 3) := by decide +kernel
theorem d_Mo_depth_104 : decode b_Mo_depth 104 = .ok (.iload_n 3, 1) := by decide +kernel
theorem d_Mo_depth_105 : decode b_Mo_depth 105 = .ok (.istore_n 2, 1) := by decide +kernel
theorem d_Mo_depth_106 : decode b_Mo_depth 106 = .ok (.goto (-88), 3) := by decide +kernel
theorem d_Mo_depth_109 : decode b_Mo_depth 109 = .ok (.iload_n 2, 1) := by decide +kernel
theorem d_Mo_depth_110 : decode b_Mo_depth 110 = .ok (.ireturn, 1) := by decide +kernel
theorem d_Mo_part_0 : decode b_Mo_part 0 = .ok (.aload_n 0, 1) := by decide +kernel
theorem d_Mo_part_1 : decode b_Mo_part 1 = .ok (.iload_n 1, 1) := by decide +kernel
theorem d_Mo_part_2 : decode b_Mo_part 2 = .ok (.invokevirtual 192, 3) := by decide +kernel
theorem d_Mo_part_5 : decode b_Mo_part 5 = .ok (.ifCond .eq 60, 3) := by decide +kernel
theorem d_Mo_part_8 : decode b_Mo_part 8 = .ok (.aload_n 0, 1) := by decide +kernel
theorem d_Mo_part_9 : decode b_Mo_part 9 = .ok (.iload_n 2, 1) := by decide +kernel
theorem d_Mo_part_10 : decode b_Mo_part 10 = .ok (.invokevirtual 192, 3) := by decide +kernel
theorem d_Mo_part_13 : decode b_Mo_part 13 = .ok (.ifCond .eq 52, 3) := by decide +kernel
theorem d_Mo_part_16 : decode b_Mo_part 16 = .ok (.aload_n 0, 1) := by decide +kernel
theorem d_Mo_part_17 : decode b_Mo_part 17 = .ok (.getfield 16, 3) := by decide +kernel
theorem d_Mo_part_20 : decode b_Mo_part 20 = .ok (.iload_n 1, 1) := by decide +kernel
theorem d_Mo_part_21 : decode b_Mo_part 21 = .ok (.iaload, 1) := by decide +kernel
theorem d_Mo_part_22 : decode b_Mo_part 22 = .ok (.ifCond .gt 43, 3) := by decide +kernel
theorem d_Mo_part_25 : decode b_Mo_part 25 = .ok (.aload_n 0, 1) := by decide +kernel
theorem d_Mo_part_26 : decode b_Mo_part 26 = .ok (.getfield 19, 3) := by decide +kernel
theorem d_Mo_part_29 : decode b_Mo_part 29 = .ok (.iload_n 1, 1) := by decide +kernel
theorem d_Mo_part_30 : decode b_Mo_part 30 = .ok (.baload, 1) := by decide +kernel
theorem d_Mo_part_31 : decode b_Mo_part 31 = .ok (.ifCond .ne 34, 3) := by decide +kernel
theorem d_Mo_part_34 : decode b_Mo_part 34 = .ok (.iload_n 1, 1) := by decide +kernel
theorem d_Mo_part_35 : decode b_Mo_part 35 = .ok (.iload_n 2, 1) := by decide +kernel
theorem d_Mo_part_36 : decode b_Mo_part 36 = .ok (.if_icmp .eq 29, 3) := by decide +kernel
theorem d_Mo_part_39 : decode b_Mo_part 39 = .ok (.iload_n 3, 1) := by decide +kernel
theorem d_Mo_part_40 : decode b_Mo_part 40 = .ok (.invokestatic 195, 3) := by decide +kernel
theorem d_Mo_part_43 : decode b_Mo_part 43 = .ok (.ifCond .eq 22, 3) := by decide +kernel
theorem d_Mo_part_46 : decode b_Mo_part 46 = .ok (.iload 4, 2) := by decide +kernel
theorem d_Mo_part_48 : decode b_Mo_part 48 = .ok (.invokestatic 195, 3) := by decide +kernel
theorem d_Mo_part_51 : decode b_Mo_part 51 = .ok (.ifCond .eq 14, 3) := by decide +kernel
theorem d_Mo_part_54 : decode b_Mo_part 54 = .ok (.aload_n 0, 1) := by decide +kernel
theorem d_Mo_part_55 : decode b_Mo_part 55 = .ok (.getfield 44, 3) := by decide +kernel
theorem d_Mo_part_58 : decode b_Mo_part 58 = .ok (.iload_n 1, 1) := by decide +kernel
theorem d_Mo_part_59 : decode b_Mo_part 59 = .ok (.iaload, 1) := by decide +kernel
theorem d_Mo_part_60 : decode b_Mo_part 60 = .ok (.bipush 6, 2) := by decide +kernel
theorem d_Mo_part_62 : decode b_Mo_part 62 = .ok (.if_icmp .ne 5, 3) := by decide +kernel
theorem d_Mo_part_65 : decode b_Mo_part 65 = .ok (.iconst (-1), 1) := by decide +kernel
theorem d_Mo_part_66 : decode b_Mo_part 66 = .ok (.ireturn, 1) := by decide +kernel
theorem d_Mo_part_67 : decode b_Mo_part 67 = .ok (.iconst 0, 1) := by decide +kernel
theorem d_Mo_part_68 : decode b_Mo_part 68 = .ok (.istore 5, 2) := by decide +kernel
theorem d_Mo_part_70 : decode b_Mo_part 70 = .ok (.iload 5, 2) := by decide +kernel
theorem d_Mo_part_72 : decode b_Mo_part 72 = .ok (.aload_n 0, 1) := by decide +kernel
theorem d_Mo_part_73 : decode b_Mo_part 73 = .ok (.getfield 183, 3) := by decide +kernel
theorem d_Mo_part_76 : decode b_Mo_part 76 = .ok (.if_icmp .ge 49, 3) := by decide +kernel
theorem d_Mo_part_79 : decode b_Mo_part 79 = .ok (.iconst 0, 1) := by decide +kernel
theorem d_Mo_part_80 : decode b_Mo_part 80 = .ok (.istore 6, 2) := by decide +kernel
theorem d_Mo_part_82 : decode b_Mo_part 82 = .ok (.iload 6, 2) := by decide +kernel
theorem d_Mo_part_84 : decode b_Mo_part 84 = .ok (.aload_n 0, 1) := by decide +kernel
theorem d_Mo_part_85 : decode b_Mo_part 85 = .ok (.getfield 44, 3) := by decide +kernel
theorem d_Mo_part_88 : decode b_Mo_part 88 = .ok (.iload 5, 2) := by decide +kernel
theorem d_Mo_part_90 : decode b_Mo_part 90 = .ok (.iaload, 1) := by decide +kernel
theorem d_Mo_part_91 : decode b_Mo_part 91 = .ok (.if_icmp .ge 28, 3) := by decide +kernel
theorem d_Mo_part_94 : decode b_Mo_part 94 = .ok (.aload_n 0, 1) := by decide +kernel
theorem d_Mo_part_95 : decode b_Mo_part 95 = .ok (.getfield 47, 3) := by decide +kernel
theorem d_Mo_part_98 : decode b_Mo_part 98 = .ok (.bipush 6, 2) := by decide +kernel
theorem d_Mo_part_100 : decode b_Mo_part 100 = .ok (.iload 5, 2) := by decide +kernel
theorem d_Mo_part_102 : decode b_Mo_part 102 = .ok (.imul, 1) := by decide +kernel
theorem d_Mo_part_103 : decode b_Mo_part 103 = .ok (.iload 6, 2) := by decide +kernel
theorem d_Mo_part_105 : decode b_Mo_part 105 = .ok (.iadd, 1) := by decide +kernel
theorem d_Mo_part_106 : decode b_Mo_part 106 = .ok (.iaload, 1) := by decide +kernel
theorem d_Mo_part_107 : decode b_Mo_part 107 = .ok (.iload_n 1, 1) := by decide +kernel
theorem d_Mo_part_108 : decode b_Mo_part 108 = .ok (.if_icmp .ne 5, 3) := by decide +kernel
theorem d_Mo_part_111 : decode b_Mo_part 111 = .ok (.iconst (-1), 1) := by decide +kernel
theorem d_Mo_part_112 : decode b_Mo_part 112 = .ok (.ireturn, 1) := by decide +kernel
theorem d_Mo_part_113 : decode b_Mo_part 113 = .ok (.iinc 6 1, 3) := by decide +kernel
theorem d_Mo_part_116 : decode b_Mo_part 116 = .ok (.goto (-34), 3) := by decide +kernel
theorem d_Mo_part_119 : decode b_Mo_part 119 = .ok (.iinc 5 1, 3) := by decide +kernel
theorem d_Mo_part_122 : decode b_Mo_part 122 = .ok (.goto (-52), 3) := by decide +kernel
theorem d_Mo_part_125 : decode b_Mo_part 125 = .ok (.aload_n 0, 1) := by decide +kernel
theorem d_Mo_part_126 : decode b_Mo_part 126 = .ok (.iload_n 2, 1) := by decide +kernel
theorem d_Mo_part_127 : decode b_Mo_part 127 = .ok (.invokevirtual 217, 3) := by decide +kernel
theorem d_Mo_part_130 : decode b_Mo_part 130 = .ok (.iconst 3, 1) := by decide +kernel
theorem d_Mo_part_131 : decode b_Mo_part 131 = .ok (.if_icmp .le 5, 3) := by decide +kernel
theorem d_Mo_part_134 : decode b_Mo_part 134 = .ok (.iconst (-1), 1) := by decide +kernel
theorem d_Mo_part_135 : decode b_Mo_part 135 = .ok (.ireturn, 1) := by decide +kernel
theorem d_Mo_part_136 : decode b_Mo_part 136 = .ok (.bipush 6, 2) := by decide +kernel
theorem d_Mo_part_138 : decode b_Mo_part 138 = .ok (.iload_n 1, 1) := by decide +kernel
theorem d_Mo_part_139 : decode b_Mo_part 139 = .ok (.imul, 1) := by decide +kernel
theorem d_Mo_part_140 : decode b_Mo_part 140 = .ok (.aload_n 0, 1) := by decide +kernel
theorem d_Mo_part_141 : decode b_Mo_part 141 = .ok (.getfield 44, 3) := by decide +kernel
theorem d_Mo_part_144 : decode b_Mo_part 144 = .ok (.iload_n 1, 1) := by decide +kernel
theorem d_Mo_part_145 : decode b_Mo_part 145 = .ok (.iaload, 1) := by decide +kernel
theorem d_Mo_part_146 : decode b_Mo_part 146 = .ok (.iadd, 1) := by decide +kernel
theorem d_Mo_part_147 : decode b_Mo_part 147 = .ok (.istore 5, 2) := by decide +kernel
theorem d_Mo_part_149 : decode b_Mo_part 149 = .ok (.aload_n 0, 1) := by decide +kernel
theorem d_Mo_part_150 : decode b_Mo_part 150 = .ok (.getfield 47, 3) := by decide +kernel
theorem d_Mo_part_153 : decode b_Mo_part 153 = .ok (.iload 5, 2) := by decide +kernel
theorem d_Mo_part_155 : decode b_Mo_part 155 = .ok (.iload_n 2, 1) := by decide +kernel
theorem d_Mo_part_156 : decode b_Mo_part 156 = .ok (.iastore, 1) := by decide +kernel
theorem d_Mo_part_157 : decode b_Mo_part 157 = .ok (.aload_n 0, 1) := by decide +kernel
theorem d_Mo_part_158 : decode b_Mo_part 158 = .ok (.getfield 53, 3) := by decide +kernel
theorem d_Mo_part_161 : decode b_Mo_part 161 = .ok (.iload 5, 2) := by decide +kernel
theorem d_Mo_part_163 : decode b_Mo_part 163 = .ok (.iload_n 3, 1) := by decide +kernel
theorem d_Mo_part_164 : decode b_Mo_part 164 = .ok (.iastore, 1) := by decide +kernel
theorem d_Mo_part_165 : decode b_Mo_part 165 = .ok (.aload_n 0, 1) := by decide +kernel
theorem d_Mo_part_166 : decode b_Mo_part 166 = .ok (.getfield 56, 3) := by decide +kernel
theorem d_Mo_part_169 : decode b_Mo_part 169 = .ok (.iload 5, 2) := by decide +kernel
theorem d_Mo_part_171 : decode b_Mo_part 171 = .ok (.iload 4, 2) := by decide +kernel
theorem d_Mo_part_173 : decode b_Mo_part 173 = .ok (.iastore, 1) := by decide +kernel
theorem d_Mo_part_174 : decode b_Mo_part 174 = .ok (.aload_n 0, 1) := by decide +kernel
theorem d_Mo_part_175 : decode b_Mo_part 175 = .ok (.getfield 50, 3) := by decide +kernel
theorem d_Mo_part_178 : decode b_Mo_part 178 = .ok (.iconst 4, 1) := by decide +kernel
theorem d_Mo_part_179 : decode b_Mo_part 179 = .ok (.iload 5, 2) := by decide +kernel
theorem d_Mo_part_181 : decode b_Mo_part 181 = .ok (.imul, 1) := by decide +kernel
theorem d_Mo_part_182 : decode b_Mo_part 182 = .ok (.sipush 16384, 3) := by decide +kernel
theorem d_Mo_part_185 : decode b_Mo_part 185 = .ok (.iastore, 1) := by decide +kernel
theorem d_Mo_part_186 : decode b_Mo_part 186 = .ok (.aload_n 0, 1) := by decide +kernel
theorem d_Mo_part_187 : decode b_Mo_part 187 = .ok (.getfield 50, 3) := by decide +kernel
theorem d_Mo_part_190 : decode b_Mo_part 190 = .ok (.iconst 4, 1) := by decide +kernel
theorem d_Mo_part_191 : decode b_Mo_part 191 = .ok (.iload 5, 2) := by decide +kernel
theorem d_Mo_part_193 : decode b_Mo_part 193 = .ok (.imul, 1) := by decide +kernel
theorem d_Mo_part_194 : decode b_Mo_part 194 = .ok (.iconst 1, 1) := by decide +kernel
theorem d_Mo_part_195 : decode b_Mo_part 195 = .ok (.iadd, 1) := by decide +kernel
theorem d_Mo_part_196 : decode b_Mo_part 196 = .ok (.iconst 0, 1) := by decide +kernel
theorem d_Mo_part_197 : decode b_Mo_part 197 = .ok (.iastore, 1) := by decide +kernel
theorem d_Mo_part_198 : decode b_Mo_part 198 = .ok (.aload_n 0, 1) := by decide +kernel
theorem d_Mo_part_199 : decode b_Mo_part 199 = .ok (.getfield 50, 3) := by decide +kernel
theorem d_Mo_part_202 : decode b_Mo_part 202 = .ok (.iconst 4, 1) := by decide +kernel
theorem d_Mo_part_203 : decode b_Mo_part 203 = .ok (.iload 5, 2) := by decide +kernel
theorem d_Mo_part_205 : decode b_Mo_part 205 = .ok (.imul, 1) := by decide +kernel
theorem d_Mo_part_206 : decode b_Mo_part 206 = .ok (.iconst 2, 1) := by decide +kernel
theorem d_Mo_part_207 : decode b_Mo_part 207 = .ok (.iadd, 1) := by decide +kernel
theorem d_Mo_part_208 : decode b_Mo_part 208 = .ok (.iconst 0, 1) := by decide +kernel
theorem d_Mo_part_209 : decode b_Mo_part 209 = .ok (.iastore, 1) := by decide +kernel
theorem d_Mo_part_210 : decode b_Mo_part 210 = .ok (.aload_n 0, 1) := by decide +kernel
theorem d_Mo_part_211 : decode b_Mo_part 211 = .ok (.getfield 50, 3) := by decide +kernel
theorem d_Mo_part_214 : decode b_Mo_part 214 = .ok (.iconst 4, 1) := by decide +kernel
theorem d_Mo_part_215 : decode b_Mo_part 215 = .ok (.iload 5, 2) := by decide +kernel
theorem d_Mo_part_217 : decode b_Mo_part 217 = .ok (.imul, 1) := by decide +kernel
theorem d_Mo_part_218 : decode b_Mo_part 218 = .ok (.iconst 3, 1) := by decide +kernel
theorem d_Mo_part_219 : decode b_Mo_part 219 = .ok (.iadd, 1) := by decide +kernel
theorem d_Mo_part_220 : decode b_Mo_part 220 = .ok (.sipush 16384, 3) := by decide +kernel
theorem d_Mo_part_223 : decode b_Mo_part 223 = .ok (.iastore, 1) := by decide +kernel
theorem d_Mo_part_224 : decode b_Mo_part 224 = .ok (.aload_n 0, 1) := by decide +kernel
theorem d_Mo_part_225 : decode b_Mo_part 225 = .ok (.getfield 44, 3) := by decide +kernel
theorem d_Mo_part_228 : decode b_Mo_part 228 = .ok (.iload_n 1, 1) := by decide +kernel
theorem d_Mo_part_229 : decode b_Mo_part 229 = .ok (.dup2, 1) := by decide +kernel
theorem d_Mo_part_230 : decode b_Mo_part 230 = .ok (.iaload, 1) := by decide +kernel
theorem d_Mo_part_231 : decode b_Mo_part 231 = .ok (.iconst 1, 1) := by decide +kernel
theorem d_Mo_part_232 : decode b_Mo_part 232 = .ok (.iadd, 1) := by decide +kernel
theorem d_Mo_part_233 : decode b_Mo_part 233 = .ok (.iastore, 1) := by decide +kernel
theorem d_Mo_part_234 : decode b_Mo_part 234 = .ok (.aload_n 0, 1) := by decide +kernel
theorem d_Mo_part_235 : decode b_Mo_part 235 = .ok (.getfield 44, 3) := by decide +kernel
theorem d_Mo_part_238 : decode b_Mo_part 238 = .ok (.iload_n 1, 1) := by decide +kernel
theorem d_Mo_part_239 : decode b_Mo_part 239 = .ok (.iaload, 1) := by decide +kernel
theorem d_Mo_part_240 : decode b_Mo_part 240 = .ok (.iconst 1, 1) := by decide +kernel
theorem d_Mo_part_241 : decode b_Mo_part 241 = .ok (.isub, 1) := by decide +kernel
theorem d_Mo_part_242 : decode b_Mo_part 242 = .ok (.ireturn, 1) := by decide +kernel
theorem d_Mo_isShort_0 : decode b_Mo_isShort 0 = .ok (.iload_n 0, 1) := by decide +kernel
theorem d_Mo_isShort_1 : decode b_Mo_isShort 1 = .ok (.sipush (-32768), 3) := by decide +kernel
theorem d_Mo_isShort_4 : decode b_Mo_isShort 4 = .ok (.if_icmp .lt 14, 3) := by decide +kernel
theorem d_Mo_isShort_7 : decode b_Mo_isShort 7 = .ok (.iload_n 0, 1) := by decide +kernel
theorem d_Mo_isShort_8 : decode b_Mo_isShort 8 = .ok (.sipush 32767, 3) := by decide +kernel
theorem d_Mo_isShort_11 : decode b_Mo_isShort 11 = .ok (.if_icmp .gt 7, 3) := by decide +kernel
theorem d_Mo_isShort_14 : decode b_Mo_isShort 14 = .ok (.iconst 1, 1) := by decide +kernel
theorem d_Mo_isShort_15 : decode b_Mo_isShort 15 = .ok (.goto 4, 3) := by decide +kernel
theorem d_Mo_isShort_18 : decode b_Mo_isShort 18 = .ok (.iconst 0, 1) := by decide +kernel
theorem d_Mo_isShort_19 : decode b_Mo_isShort 19 = .ok (.ireturn, 1) := by decide +kernel
theorem d_Mo_matrix_0 : decode b_Mo_matrix 0 = .ok (.aload_n 0, 1) := by decide +kernel
theorem d_Mo_matrix_1 : decode b_Mo_matrix 1 = .ok (.iload_n 1, 1) := by decide +kernel
theorem d_Mo_matrix_2 : decode b_Mo_matrix 2 = .ok (.invokevirtual 192, 3) := by decide +kernel
theorem d_Mo_matrix_5 : decode b_Mo_matrix 5 = .ok (.ifCond .eq 48, 3) := by decide +kernel
theorem d_Mo_matrix_8 : decode b_Mo_matrix 8 = .ok (.iload_n 2, 1) := by decide +kernel
theorem d_Mo_matrix_9 : decode b_Mo_matrix 9 = .ok (.ifCond .lt 44, 3) := by decide +kernel
theorem d_Mo_matrix_12 : decode b_Mo_matrix 12 = .ok (.iload_n 2, 1) := by decide +kernel
theorem d_Mo_matrix_13 : decode b_Mo_matrix 13 = .ok (.aload_n 0, 1) := by decide +kernel
theorem d_Mo_matrix_14 : decode b_Mo_matrix 14 = .ok (.getfield 44, 3) := by decide +kernel
theorem d_Mo_matrix_17 : decode b_Mo_matrix 17 = .ok (.iload_n 1, 1) := by decide +kernel
theorem d_Mo_matrix_18 : decode b_Mo_matrix 18 = .ok (.iaload, 1) := by decide +kernel
theorem d_Mo_matrix_19 : decode b_Mo_matrix 19 = .ok (.if_icmp .ge 34, 3) := by decide +kernel
theorem d_Mo_matrix_22 : decode b_Mo_matrix 22 = .ok (.iload_n 3, 1) := by decide +kernel
theorem d_Mo_matrix_23 : decode b_Mo_matrix 23 = .ok (.invokestatic 220, 3) := by decide +kernel
theorem d_Mo_matrix_26 : decode b_Mo_matrix 26 = .ok (.ifCond .eq 27, 3) := by decide +kernel
theorem d_Mo_matrix_29 : decode b_Mo_matrix 29 = .ok (.iload 4, 2) := by decide +kernel
theorem d_Mo_matrix_31 : decode b_Mo_matrix 31 = .ok (.invokestatic 220, 3) := by decide +kernel
theorem d_Mo_matrix_34 : decode b_Mo_matrix 34 = .ok (.ifCond .eq 19, 3) := by decide +kernel
theorem d_Mo_matrix_37 : decode b_Mo_matrix 37 = .ok (.iload 5, 2) := by decide +kernel
theorem d_Mo_matrix_39 : decode b_Mo_matrix 39 = .ok (.invokestatic 220, 3) := by decide +kernel
theorem d_Mo_matrix_42 : decode b_Mo_matrix 42 = .ok (.ifCond .eq 11, 3) := by decide +kernel
theorem d_Mo_matrix_45 : decode b_Mo_matrix 45 = .ok (.iload 6, 2) := by decide +kernel
theorem d_Mo_matrix_47 : decode b_Mo_matrix 47 = .ok (.invokestatic 220, 3) := by decide +kernel
theorem d_Mo_matrix_50 : decode b_Mo_matrix 50 = .ok (.ifCond .ne 5, 3) := by decide +kernel
theorem d_Mo_matrix_53 : decode b_Mo_matrix 53 = .ok (.iconst 0, 1) := by decide +kernel
theorem d_Mo_matrix_54 : decode b_Mo_matrix 54 = .ok (.ireturn, 1) := by decide +kernel
theorem d_Mo_matrix_55 : decode b_Mo_matrix 55 = .ok (.iconst 4, 1) := by decide +kernel
theorem d_Mo_matrix_56 : decode b_Mo_matrix 56 = .ok (.bipush 6, 2) := by decide +kernel
theorem d_Mo_matrix_58 : decode b_Mo_matrix 58 = .ok (.iload_n 1, 1) := by decide +kernel
theorem d_Mo_matrix_59 : decode b_Mo_matrix 59 = .ok (.imul, 1) := by decide +kernel
theorem d_Mo_matrix_60 : decode b_Mo_matrix 60 = .ok (.iload_n 2, 1) := by decide +kernel
theorem d_Mo_matrix_61 : decode b_Mo_matrix 61 = .ok (.iadd, 1) := by decide +kernel
theorem d_Mo_matrix_62 : decode b_Mo_matrix 62 = .ok (.imul, 1) := by decide +kernel
theorem d_Mo_matrix_63 : decode b_Mo_matrix 63 = .ok (.istore 7, 2) := by decide +kernel
theorem d_Mo_matrix_65 : decode b_Mo_matrix 65 = .ok (.aload_n 0, 1) := by decide +kernel
theorem d_Mo_matrix_66 : decode b_Mo_matrix 66 = .ok (.getfield 50, 3) := by decide +kernel
theorem d_Mo_matrix_69 : decode b_Mo_matrix 69 = .ok (.iload 7, 2) := by decide +kernel
theorem d_Mo_matrix_71 : decode b_Mo_matrix 71 = .ok (.iload_n 3, 1) := by decide +kernel
theorem d_Mo_matrix_72 : decode b_Mo_matrix 72 = .ok (.iastore, 1) := by decide +kernel
theorem d_Mo_matrix_73 : decode b_Mo_matrix 73 = .ok (.aload_n 0, 1) := by decide +kernel
theorem d_Mo_matrix_74 : decode b_Mo_matrix 74 = .ok (.getfield 50, 3) := by decide +kernel
theorem d_Mo_matrix_77 : decode b_Mo_matrix 77 = .ok (.iload 7, 2) := by decide +kernel
theorem d_Mo_matrix_79 : decode b_Mo_matrix 79 = .ok (.iconst 1, 1) := by decide +kernel
theorem d_Mo_matrix_80 : decode b_Mo_matrix 80 = .ok (.iadd, 1) := by decide +kernel
theorem d_Mo_matrix_81 : decode b_Mo_matrix 81 = .ok (.iload 4, 2) := by decide +kernel
theorem d_Mo_matrix_83 : decode b_Mo_matrix 83 = .ok (.iastore, 1) := by decide +kernel
theorem d_Mo_matrix_84 : decode b_Mo_matrix 84 = .ok (.aload_n 0, 1) := by decide +kernel
theorem d_Mo_matrix_85 : decode b_Mo_matrix 85 = .ok (.getfield 50, 3) := by decide +kernel
theorem d_Mo_matrix_88 : decode b_Mo_matrix 88 = .ok (.iload 7, 2) := by decide +kernel
theorem d_Mo_matrix_90 : decode b_Mo_matrix 90 = .ok (.iconst 2, 1) := by decide +kernel
theorem d_Mo_matrix_91 : decode b_Mo_matrix 91 = .ok (.iadd, 1) := by decide +kernel
theorem d_Mo_matrix_92 : decode b_Mo_matrix 92 = .ok (.iload 5, 2) := by decide +kernel
theorem d_Mo_matrix_94 : decode b_Mo_matrix 94 = .ok (.iastore, 1) := by decide +kernel
theorem d_Mo_matrix_95 : decode b_Mo_matrix 95 = .ok (.aload_n 0, 1) := by decide +kernel
theorem d_Mo_matrix_96 : decode b_Mo_matrix 96 = .ok (.getfield 50, 3) := by decide +kernel
theorem d_Mo_matrix_99 : decode b_Mo_matrix 99 = .ok (.iload 7, 2) := by decide +kernel
theorem d_Mo_matrix_101 : decode b_Mo_matrix 101 = .ok (.iconst 3, 1) := by decide +kernel
theorem d_Mo_matrix_102 : decode b_Mo_matrix 102 = .ok (.iadd, 1) := by decide +kernel
theorem d_Mo_matrix_103 : decode b_Mo_matrix 103 = .ok (.iload 6, 2) := by decide +kernel
theorem d_Mo_matrix_105 : decode b_Mo_matrix 105 = .ok (.iastore, 1) := by decide +kernel
theorem d_Mo_matrix_106 : decode b_Mo_matrix 106 = .ok (.iconst 1, 1) := by decide +kernel
theorem d_Mo_matrix_107 : decode b_Mo_matrix 107 = .ok (.ireturn, 1) := by decide +kernel
theorem d_Mo_info_0 : decode b_Mo_info 0 = .ok (.aload_n 0, 1) := by decide +kernel
theorem d_Mo_info_1 : decode b_Mo_info 1 = .ok (.iload_n 1, 1) := by decide +kernel
theorem d_Mo_info_2 : decode b_Mo_info 2 = .ok (.invokevirtual 192, 3) := by decide +kernel
theorem d_Mo_info_5 : decode b_Mo_info 5 = .ok (.ifCond .ne 6, 3) := by decide +kernel
theorem d_Mo_info_8 : decode b_Mo_info 8 = .ok (.bipush (-2), 2) := by decide +kernel
theorem d_Mo_info_10 : decode b_Mo_info 10 = .ok (.ireturn, 1) := by decide +kernel
theorem d_Mo_info_11 : decode b_Mo_info 11 = .ok (.iload_n 2, 1) := by decide +kernel
theorem d_Mo_info_12 : decode b_Mo_info 12 = .ok (.tableswitch 121 0 7 #[48, 55, 62, 69, 75, 82, 88, 114], 48) := by decide +kernel
theorem d_Mo_info_60 : decode b_Mo_info 60 = .ok (.aload_n 0, 1) := by decide +kernel
theorem d_Mo_info_61 : decode b_Mo_info 61 = .ok (.getfield 7, 3) := by decide +kernel
theorem d_Mo_info_64 : decode b_Mo_info 64 = .ok (.iload_n 1, 1) := by decide +kernel
theorem d_Mo_info_65 : decode b_Mo_info 65 = .ok (.iaload, 1) := by decide +kernel
theorem d_Mo_info_66 : decode b_Mo_info 66 = .ok (.ireturn, 1) := by decide +kernel
theorem d_Mo_info_67 : decode b_Mo_info 67 = .ok (.aload_n 0, 1) := by decide +kernel
theorem d_Mo_info_68 : decode b_Mo_info 68 = .ok (.getfield 13, 3) := by decide +kernel
theorem d_Mo_info_71 : decode b_Mo_info 71 = .ok (.iload_n 1, 1) := by decide +kernel
theorem d_Mo_info_72 : decode b_Mo_info 72 = .ok (.iaload, 1) := by decide +kernel
theorem d_Mo_info_73 : decode b_Mo_info 73 = .ok (.ireturn, 1) := by decide +kernel
theorem d_Mo_info_74 : decode b_Mo_info 74 = .ok (.aload_n 0, 1) := by decide +kernel
theorem d_Mo_info_75 : decode b_Mo_info 75 = .ok (.getfield 16, 3) := by decide +kernel
theorem d_Mo_info_78 : decode b_Mo_info 78 = .ok (.iload_n 1, 1) := by decide +kernel
theorem d_Mo_info_79 : decode b_Mo_info 79 = .ok (.iaload, 1) := by decide +kernel
theorem d_Mo_info_80 : decode b_Mo_info 80 = .ok (.ireturn, 1) := by decide +kernel
theorem d_Mo_info_81 : decode b_Mo_info 81 = .ok (.aload_n 0, 1) := by decide +kernel
theorem d_Mo_info_82 : decode b_Mo_info 82 = .ok (.iload_n 1, 1) := by decide +kernel
theorem d_Mo_info_83 : decode b_Mo_info 83 = .ok (.invokevirtual 198, 3) := by decide +kernel
theorem d_Mo_info_86 : decode b_Mo_info 86 = .ok (.ireturn, 1) := by decide +kernel
theorem d_Mo_info_87 : decode b_Mo_info 87 = .ok (.aload_n 0, 1) := by decide +kernel
theorem d_Mo_info_88 : decode b_Mo_info 88 = .ok (.getfield 44, 3) := by decide +kernel
theorem d_Mo_info_91 : decode b_Mo_info 91 = .ok (.iload_n 1, 1) := by decide +kernel
theorem d_Mo_info_92 : decode b_Mo_info 92 = .ok (.iaload, 1) := by decide +kernel
theorem d_Mo_info_93 : decode b_Mo_info 93 = .ok (.ireturn, 1) := by decide +kernel
theorem d_Mo_info_94 : decode b_Mo_info 94 = .ok (.aload_n 0, 1) := by decide +kernel
theorem d_Mo_info_95 : decode b_Mo_info 95 = .ok (.iload_n 1, 1) := by decide +kernel
theorem d_Mo_info_96 : decode b_Mo_info 96 = .ok (.invokevirtual 217, 3) := by decide +kernel
theorem d_Mo_info_99 : decode b_Mo_info 99 = .ok (.ireturn, 1) := by decide +kernel
theorem d_Mo_info_100 : decode b_Mo_info 100 = .ok (.aload_n 0, 1) := by decide +kernel
theorem d_Mo_info_101 : decode b_Mo_info 101 = .ok (.getfield 19, 3) := by decide +kernel
theorem d_Mo_info_104 : decode b_Mo_info 104 = .ok (.iload_n 1, 1) := by decide +kernel
theorem d_Mo_info_105 : decode b_Mo_info 105 = .ok (.baload, 1) := by decide +kernel
theorem d_Mo_info_106 : decode b_Mo_info 106 = .ok (.ifCond .eq 18, 3) := by decide +kernel
theorem d_Mo_info_109 : decode b_Mo_info 109 = .ok (.aload_n 0, 1) := by decide +kernel
theorem d_Mo_info_110 : decode b_Mo_info 110 = .ok (.getfield 23, 3) := by decide +kernel
theorem d_Mo_info_113 : decode b_Mo_info 113 = .ok (.iload_n 1, 1) := by decide +kernel
theorem d_Mo_info_114 : decode b_Mo_info 114 = .ok (.iaload, 1) := by decide +kernel
theorem d_Mo_info_115 : decode b_Mo_info 115 = .ok (.aload_n 0, 1) := by decide +kernel
theorem d_Mo_info_116 : decode b_Mo_info 116 = .ok (.iload_n 1, 1) := by decide +kernel
theorem d_Mo_info_117 : decode b_Mo_info 117 = .ok (.invokevirtual 198, 3) := by decide +kernel
theorem d_Mo_info_120 : decode b_Mo_info 120 = .ok (.isub, 1) := by decide +kernel
theorem d_Mo_info_121 : decode b_Mo_info 121 = .ok (.goto 4, 3) := by decide +kernel
theorem d_Mo_info_124 : decode b_Mo_info 124 = .ok (.iconst (-1), 1) := by decide +kernel
theorem d_Mo_info_125 : decode b_Mo_info 125 = .ok (.ireturn, 1) := by decide +kernel
theorem d_Mo_info_126 : decode b_Mo_info 126 = .ok (.aload_n 0, 1) := by decide +kernel
theorem d_Mo_info_127 : decode b_Mo_info 127 = .ok (.getfield 59, 3) := by decide +kernel
theorem d_Mo_info_130 : decode b_Mo_info 130 = .ok (.iload_n 1, 1) := by decide +kernel
theorem d_Mo_info_131 : decode b_Mo_info 131 = .ok (.iaload, 1) := by decide +kernel
theorem d_Mo_info_132 : decode b_Mo_info 132 = .ok (.ireturn, 1) := by decide +kernel
theorem d_Mo_info_133 : decode b_Mo_info 133 = .ok (.bipush (-2), 2) := by decide +kernel
theorem d_Mo_info_135 : decode b_Mo_info 135 = .ok (.ireturn, 1) := by decide +kernel
theorem d_Mo_at_0 : decode b_Mo_at 0 = .ok (.aload_n 0, 1) := by decide +kernel
theorem d_Mo_at_1 : decode b_Mo_at 1 = .ok (.iload_n 1, 1) := by decide +kernel
theorem d_Mo_at_2 : decode b_Mo_at 2 = .ok (.iload_n 2, 1) := by decide +kernel
theorem d_Mo_at_3 : decode b_Mo_at 3 = .ok (.invokevirtual 205, 3) := by decide +kernel
theorem d_Mo_at_6 : decode b_Mo_at 6 = .ok (.ifCond .ne 6, 3) := by decide +kernel
theorem d_Mo_at_9 : decode b_Mo_at 9 = .ok (.ldc 223, 2) := by decide +kernel
theorem d_Mo_at_11 : decode b_Mo_at 11 = .ok (.ireturn, 1) := by decide +kernel
theorem d_Mo_at_12 : decode b_Mo_at 12 = .ok (.bipush 100, 2) := by decide +kernel
theorem d_Mo_at_14 : decode b_Mo_at 14 = .ok (.iload_n 1, 1) := by decide +kernel
theorem d_Mo_at_15 : decode b_Mo_at 15 = .ok (.imul, 1) := by decide +kernel
theorem d_Mo_at_16 : decode b_Mo_at 16 = .ok (.iload_n 2, 1) := by decide +kernel
theorem d_Mo_at_17 : decode b_Mo_at 17 = .ok (.iadd, 1) := by decide +kernel
theorem d_Mo_at_18 : decode b_Mo_at 18 = .ok (.istore 4, 2) := by decide +kernel
theorem d_Mo_at_20 : decode b_Mo_at 20 = .ok (.iload_n 3, 1) := by decide +kernel
theorem d_Mo_at_21 : decode b_Mo_at 21 = .ok (.tableswitch 83 0 3 #[31, 39, 47, 55], 31) := by decide +kernel
theorem d_Mo_at_52 : decode b_Mo_at 52 = .ok (.aload_n 0, 1) := by decide +kernel
theorem d_Mo_at_53 : decode b_Mo_at 53 = .ok (.getfield 29, 3) := by decide +kernel
theorem d_Mo_at_56 : decode b_Mo_at 56 = .ok (.iload 4, 2) := by decide +kernel
theorem d_Mo_at_58 : decode b_Mo_at 58 = .ok (.iaload, 1) := by decide +kernel
theorem d_Mo_at_59 : decode b_Mo_at 59 = .ok (.ireturn, 1) := by decide +kernel
theorem d_Mo_at_60 : decode b_Mo_at 60 = .ok (.aload_n 0, 1) := by decide +kernel
theorem d_Mo_at_61 : decode b_Mo_at 61 = .ok (.getfield 32, 3) := by decide +kernel
theorem d_Mo_at_64 : decode b_Mo_at 64 = .ok (.iload 4, 2) := by decide +kernel
theorem d_Mo_at_66 : decode b_Mo_at 66 = .ok (.iaload, 1) := by decide +kernel
theorem d_Mo_at_67 : decode b_Mo_at 67 = .ok (.ireturn, 1) := by decide +kernel
theorem d_Mo_at_68 : decode b_Mo_at 68 = .ok (.aload_n 0, 1) := by decide +kernel
theorem d_Mo_at_69 : decode b_Mo_at 69 = .ok (.getfield 35, 3) := by decide +kernel
theorem d_Mo_at_72 : decode b_Mo_at 72 = .ok (.iload 4, 2) := by decide +kernel
theorem d_Mo_at_74 : decode b_Mo_at 74 = .ok (.iaload, 1) := by decide +kernel
theorem d_Mo_at_75 : decode b_Mo_at 75 = .ok (.ireturn, 1) := by decide +kernel
theorem d_Mo_at_76 : decode b_Mo_at 76 = .ok (.iconst 0, 1) := by decide +kernel
theorem d_Mo_at_77 : decode b_Mo_at 77 = .ok (.istore 5, 2) := by decide +kernel
theorem d_Mo_at_79 : decode b_Mo_at 79 = .ok (.aload_n 0, 1) := by decide +kernel
theorem d_Mo_at_80 : decode b_Mo_at 80 = .ok (.getfield 26, 3) := by decide +kernel
theorem d_Mo_at_83 : decode b_Mo_at 83 = .ok (.bipush 8, 2) := by decide +kernel
theorem d_Mo_at_85 : decode b_Mo_at 85 = .ok (.iload_n 1, 1) := by decide +kernel
theorem d_Mo_at_86 : decode b_Mo_at 86 = .ok (.imul, 1) := by decide +kernel
theorem d_Mo_at_87 : decode b_Mo_at 87 = .ok (.iload 5, 2) := by decide +kernel
theorem d_Mo_at_89 : decode b_Mo_at 89 = .ok (.iadd, 1) := by decide +kernel
theorem d_Mo_at_90 : decode b_Mo_at 90 = .ok (.iaload, 1) := by decide +kernel
theorem d_Mo_at_91 : decode b_Mo_at 91 = .ok (.iload_n 2, 1) := by decide +kernel
theorem d_Mo_at_92 : decode b_Mo_at 92 = .ok (.if_icmp .gt 9, 3) := by decide +kernel
theorem d_Mo_at_95 : decode b_Mo_at 95 = .ok (.iinc 5 1, 3) := by decide +kernel
theorem d_Mo_at_98 : decode b_Mo_at 98 = .ok (.goto (-19), 3) := by decide +kernel
theorem d_Mo_at_101 : decode b_Mo_at 101 = .ok (.iload 5, 2) := by decide +kernel
theorem d_Mo_at_103 : decode b_Mo_at 103 = .ok (.ireturn, 1) := by decide +kernel
theorem d_Mo_at_104 : decode b_Mo_at 104 = .ok (.ldc 223, 2) := by decide +kernel
theorem d_Mo_at_106 : decode b_Mo_at 106 = .ok (.ireturn, 1) := by decide +kernel
theorem d_Mo_adds_0 : decode b_Mo_adds 0 = .ok (.aload_n 0, 1) := by decide +kernel
theorem d_Mo_adds_1 : decode b_Mo_adds 1 = .ok (.dup, 1) := by decide +kernel
theorem d_Mo_adds_2 : decode b_Mo_adds 2 = .ok (.getfield 226, 3) := by decide +kernel
theorem d_Mo_adds_5 : decode b_Mo_adds 5 = .ok (.iconst 1, 1) := by decide +kernel
theorem d_Mo_adds_6 : decode b_Mo_adds 6 = .ok (.iadd, 1) := by decide +kernel
theorem d_Mo_adds_7 : decode b_Mo_adds 7 = .ok (.putfield 226, 3) := by decide +kernel
theorem d_Mo_adds_10 : decode b_Mo_adds 10 = .ok (.aload_n 0, 1) := by decide +kernel
theorem d_Mo_adds_11 : decode b_Mo_adds 11 = .ok (.getfield 226, 3) := by decide +kernel
theorem d_Mo_adds_14 : decode b_Mo_adds 14 = .ok (.sipush 500, 3) := by decide +kernel
theorem d_Mo_adds_17 : decode b_Mo_adds 17 = .ok (.if_icmp .gt 35, 3) := by decide +kernel
theorem d_Mo_adds_20 : decode b_Mo_adds 20 = .ok (.lload_n 1, 1) := by decide +kernel
theorem d_Mo_adds_21 : decode b_Mo_adds 21 = .ok (.ldc2_w 229, 3) := by decide +kernel
theorem d_Mo_adds_24 : decode b_Mo_adds 24 = .ok (.lcmp, 1) := by decide +kernel
theorem d_Mo_adds_25 : decode b_Mo_adds 25 = .ok (.ifCond .lt 27, 3) := by decide +kernel
theorem d_Mo_adds_28 : decode b_Mo_adds 28 = .ok (.lload_n 1, 1) := by decide +kernel
theorem d_Mo_adds_29 : decode b_Mo_adds 29 = .ok (.ldc2_w 231, 3) := by decide +kernel
theorem d_Mo_adds_32 : decode b_Mo_adds 32 = .ok (.lcmp, 1) := by decide +kernel
theorem d_Mo_adds_33 : decode b_Mo_adds 33 = .ok (.ifCond .gt 19, 3) := by decide +kernel
theorem d_Mo_adds_36 : decode b_Mo_adds 36 = .ok (.lload_n 3, 1) := by decide +kernel
theorem d_Mo_adds_37 : decode b_Mo_adds 37 = .ok (.ldc2_w 229, 3) := by decide +kernel
theorem d_Mo_adds_40 : decode b_Mo_adds 40 = .ok (.lcmp, 1) := by decide +kernel
theorem d_Mo_adds_41 : decode b_Mo_adds 41 = .ok (.ifCond .lt 11, 3) := by decide +kernel
theorem d_Mo_adds_44 : decode b_Mo_adds 44 = .ok (.lload_n 3, 1) := by decide +kernel
theorem d_Mo_adds_45 : decode b_Mo_adds 45 = .ok (.ldc2_w 231, 3) := by decide +kernel
theorem d_Mo_adds_48 : decode b_Mo_adds 48 = .ok (.lcmp, 1) := by decide +kernel
theorem d_Mo_adds_49 : decode b_Mo_adds 49 = .ok (.ifCond .le 8, 3) := by decide +kernel
theorem d_Mo_adds_52 : decode b_Mo_adds 52 = .ok (.aload_n 0, 1) := by decide +kernel
theorem d_Mo_adds_53 : decode b_Mo_adds 53 = .ok (.iconst 0, 1) := by decide +kernel
theorem d_Mo_adds_54 : decode b_Mo_adds 54 = .ok (.putfield 233, 3) := by decide +kernel
theorem d_Mo_adds_57 : decode b_Mo_adds 57 = .ok (.aload_n 0, 1) := by decide +kernel
theorem d_Mo_adds_58 : decode b_Mo_adds 58 = .ok (.getfield 233, 3) := by decide +kernel
theorem d_Mo_adds_61 : decode b_Mo_adds 61 = .ok (.ifCond .ne 4, 3) := by decide +kernel
theorem d_Mo_adds_64 : decode b_Mo_adds 64 = .ok (.return_, 1) := by decide +kernel
theorem d_Mo_adds_65 : decode b_Mo_adds 65 = .ok (.aload_n 0, 1) := by decide +kernel
theorem d_Mo_adds_66 : decode b_Mo_adds 66 = .ok (.getfield 237, 3) := by decide +kernel
theorem d_Mo_adds_69 : decode b_Mo_adds 69 = .ok (.aload_n 0, 1) := by decide +kernel
theorem d_Mo_adds_70 : decode b_Mo_adds 70 = .ok (.getfield 240, 3) := by decide +kernel
theorem d_Mo_adds_73 : decode b_Mo_adds 73 = .ok (.if_icmp .le 38, 3) := by decide +kernel
theorem d_Mo_adds_76 : decode b_Mo_adds 76 = .ok (.aload_n 0, 1) := by decide +kernel
theorem d_Mo_adds_77 : decode b_Mo_adds 77 = .ok (.getfield 74, 3) := by decide +kernel
theorem d_Mo_adds_80 : decode b_Mo_adds 80 = .ok (.aload_n 0, 1) := by decide +kernel
theorem d_Mo_adds_81 : decode b_Mo_adds 81 = .ok (.getfield 237, 3) := by decide +kernel
theorem d_Mo_adds_84 : decode b_Mo_adds 84 = .ok (.iconst 1, 1) := by decide +kernel
theorem d_Mo_adds_85 : decode b_Mo_adds 85 = .ok (.isub, 1) := by decide +kernel
theorem d_Mo_adds_86 : decode b_Mo_adds 86 = .ok (.iaload, 1) := by decide +kernel
theorem d_Mo_adds_87 : decode b_Mo_adds 87 = .ok (.i2l, 1) := by decide +kernel
theorem d_Mo_adds_88 : decode b_Mo_adds 88 = .ok (.lload_n 1, 1) := by decide +kernel
theorem d_Mo_adds_89 : decode b_Mo_adds 89 = .ok (.lcmp, 1) := by decide +kernel
theorem d_Mo_adds_90 : decode b_Mo_adds 90 = .ok (.ifCond .ne 21, 3) := by decide +kernel
theorem d_Mo_adds_93 : decode b_Mo_adds 93 = .ok (.aload_n 0, 1) := by decide +kernel
theorem d_Mo_adds_94 : decode b_Mo_adds 94 = .ok (.getfield 77, 3) := by decide +kernel
theorem d_Mo_adds_97 : decode b_Mo_adds 97 = .ok (.aload_n 0, 1) := by decide +kernel
theorem d_Mo_adds_98 : decode b_Mo_adds 98 = .ok (.getfield 237, 3) := by decide +kernel
theorem d_Mo_adds_101 : decode b_Mo_adds 101 = .ok (.iconst 1, 1) := by decide +kernel
theorem d_Mo_adds_102 : decode b_Mo_adds 102 = .ok (.isub, 1) := by decide +kernel
theorem d_Mo_adds_103 : decode b_Mo_adds 103 = .ok (.iaload, 1) := by decide +kernel
theorem d_Mo_adds_104 : decode b_Mo_adds 104 = .ok (.i2l, 1) := by decide +kernel
theorem d_Mo_adds_105 : decode b_Mo_adds 105 = .ok (.lload_n 3, 1) := by decide +kernel
theorem d_Mo_adds_106 : decode b_Mo_adds 106 = .ok (.lcmp, 1) := by decide +kernel
theorem d_Mo_adds_107 : decode b_Mo_adds 107 = .ok (.ifCond .ne 4, 3) := by decide +kernel
theorem d_Mo_adds_110 : decode b_Mo_adds 110 = .ok (.return_, 1) := by decide +kernel
theorem d_Mo_adds_111 : decode b_Mo_adds 111 = .ok (.aload_n 0, 1) := by decide +kernel
theorem d_Mo_adds_112 : decode b_Mo_adds 112 = .ok (.getfield 74, 3) := by decide +kernel
theorem d_Mo_adds_115 : decode b_Mo_adds 115 = .ok (.aload_n 0, 1) := by decide +kernel
theorem d_Mo_adds_116 : decode b_Mo_adds 116 = .ok (.getfield 237, 3) := by decide +kernel
theorem d_Mo_adds_119 : decode b_Mo_adds 119 = .ok (.lload_n 1, 1) := by decide +kernel
theorem d_Mo_adds_120 : decode b_Mo_adds 120 = .ok (.l2i, 1) := by decide +kernel
theorem d_Mo_adds_121 : decode b_Mo_adds 121 = .ok (.iastore, 1) := by decide +kernel
theorem d_Mo_adds_122 : decode b_Mo_adds 122 = .ok (.aload_n 0, 1) := by decide +kernel
theorem d_Mo_adds_123 : decode b_Mo_adds 123 = .ok (.getfield 77, 3) := by decide +kernel
theorem d_Mo_adds_126 : decode b_Mo_adds 126 = .ok (.aload_n 0, 1) := by decide +kernel
theorem d_Mo_adds_127 : decode b_Mo_adds 127 = .ok (.getfield 237, 3) := by decide +kernel
theorem d_Mo_adds_130 : decode b_Mo_adds 130 = .ok (.lload_n 3, 1) := by decide +kernel
theorem d_Mo_adds_131 : decode b_Mo_adds 131 = .ok (.l2i, 1) := by decide +kernel
theorem d_Mo_adds_132 : decode b_Mo_adds 132 = .ok (.iastore, 1) := by decide +kernel
theorem d_Mo_adds_133 : decode b_Mo_adds 133 = .ok (.aload_n 0, 1) := by decide +kernel
theorem d_Mo_adds_134 : decode b_Mo_adds 134 = .ok (.getfield 80, 3) := by decide +kernel
theorem d_Mo_adds_137 : decode b_Mo_adds 137 = .ok (.aload_n 0, 1) := by decide +kernel
theorem d_Mo_adds_138 : decode b_Mo_adds 138 = .ok (.getfield 237, 3) := by decide +kernel
theorem d_Mo_adds_141 : decode b_Mo_adds 141 = .ok (.aload_n 0, 1) := by decide +kernel
theorem d_Mo_adds_142 : decode b_Mo_adds 142 = .ok (.getfield 243, 3) := by decide +kernel
theorem d_Mo_adds_145 : decode b_Mo_adds 145 = .ok (.iastore, 1) := by decide +kernel
theorem d_Mo_adds_146 : decode b_Mo_adds 146 = .ok (.aload_n 0, 1) := by decide +kernel
theorem d_Mo_adds_147 : decode b_Mo_adds 147 = .ok (.dup, 1) := by decide +kernel
theorem d_Mo_adds_148 : decode b_Mo_adds 148 = .ok (.getfield 237, 3) := by decide +kernel
theorem d_Mo_adds_151 : decode b_Mo_adds 151 = .ok (.iconst 1, 1) := by decide +kernel
theorem d_Mo_adds_152 : decode b_Mo_adds 152 = .ok (.iadd, 1) := by decide +kernel
theorem d_Mo_adds_153 : decode b_Mo_adds 153 = .ok (.putfield 237, 3) := by decide +kernel
theorem d_Mo_adds_156 : decode b_Mo_adds 156 = .ok (.return_, 1) := by decide +kernel
theorem d_Mo_halves_0 : decode b_Mo_halves 0 = .ok (.bipush 8, 2) := by decide +kernel
theorem d_Mo_halves_2 : decode b_Mo_halves 2 = .ok (.aload_n 0, 1) := by decide +kernel
theorem d_Mo_halves_3 : decode b_Mo_halves 3 = .ok (.getfield 250, 3) := by decide +kernel
theorem d_Mo_halves_6 : decode b_Mo_halves 6 = .ok (.iconst 1, 1) := by decide +kernel
theorem d_Mo_halves_7 : decode b_Mo_halves 7 = .ok (.isub, 1) := by decide +kernel
theorem d_Mo_halves_8 : decode b_Mo_halves 8 = .ok (.imul, 1) := by decide +kernel
theorem d_Mo_halves_9 : decode b_Mo_halves 9 = .ok (.istore_n 2, 1) := by decide +kernel
theorem d_Mo_halves_10 : decode b_Mo_halves 10 = .ok (.bipush 8, 2) := by decide +kernel
theorem d_Mo_halves_12 : decode b_Mo_halves 12 = .ok (.aload_n 0, 1) := by decide +kernel
theorem d_Mo_halves_13 : decode b_Mo_halves 13 = .ok (.getfield 250, 3) := by decide +kernel
theorem d_Mo_halves_16 : decode b_Mo_halves 16 = .ok (.imul, 1) := by decide +kernel
theorem d_Mo_halves_17 : decode b_Mo_halves 17 = .ok (.istore_n 3, 1) := by decide +kernel
theorem d_Mo_halves_18 : decode b_Mo_halves 18 = .ok (.aload_n 0, 1) := by decide +kernel
theorem d_Mo_halves_19 : decode b_Mo_halves 19 = .ok (.getfield 102, 3) := by decide +kernel
theorem d_Mo_halves_22 : decode b_Mo_halves 22 = .ok (.aload_n 0, 1) := by decide +kernel
theorem d_Mo_halves_23 : decode b_Mo_halves 23 = .ok (.getfield 250, 3) := by decide +kernel
theorem d_Mo_halves_26 : decode b_Mo_halves 26 = .ok (.iconst 1, 1) := by decide +kernel
theorem d_Mo_halves_27 : decode b_Mo_halves 27 = .ok (.isub, 1) := by decide +kernel
theorem d_Mo_halves_28 : decode b_Mo_halves 28 = .ok (.dup2, 1) := by decide +kernel
theorem d_Mo_halves_29 : decode b_Mo_halves 29 = .ok (.iaload, 1) := by decide +kernel
theorem d_Mo_halves_30 : decode b_Mo_halves 30 = .ok (.iconst 1, 1) := by decide +kernel
theorem d_Mo_halves_31 : decode b_Mo_halves 31 = .ok (.iadd, 1) := by decide +kernel
theorem d_Mo_halves_32 : decode b_Mo_halves 32 = .ok (.iastore, 1) := by decide +kernel
theorem d_Mo_halves_33 : decode b_Mo_halves 33 = .ok (.aload_n 0, 1) := by decide +kernel
theorem d_Mo_halves_34 : decode b_Mo_halves 34 = .ok (.getfield 102, 3) := by decide +kernel
theorem d_Mo_halves_37 : decode b_Mo_halves 37 = .ok (.aload_n 0, 1) := by decide +kernel
theorem d_Mo_halves_38 : decode b_Mo_halves 38 = .ok (.getfield 250, 3) := by decide +kernel
theorem d_Mo_halves_41 : decode b_Mo_halves 41 = .ok (.aload_n 0, 1) := by decide +kernel
theorem d_Mo_halves_42 : decode b_Mo_halves 42 = .ok (.getfield 102, 3) := by decide +kernel
theorem d_Mo_halves_45 : decode b_Mo_halves 45 = .ok (.aload_n 0, 1) := by decide +kernel
theorem d_Mo_halves_46 : decode b_Mo_halves 46 = .ok (.getfield 250, 3) := by decide +kernel
theorem d_Mo_halves_49 : decode b_Mo_halves 49 = .ok (.iconst 1, 1) := by decide +kernel
theorem d_Mo_halves_50 : decode b_Mo_halves 50 = .ok (.isub, 1) := by decide +kernel
theorem d_Mo_halves_51 : decode b_Mo_halves 51 = .ok (.iaload, 1) := by decide +kernel
theorem d_Mo_halves_52 : decode b_Mo_halves 52 = .ok (.iastore, 1) := by decide +kernel
theorem d_Mo_halves_53 : decode b_Mo_halves 53 = .ok (.iconst 0, 1) := by decide +kernel
theorem d_Mo_halves_54 : decode b_Mo_halves 54 = .ok (.istore 4, 2) := by decide +kernel
theorem d_Mo_halves_56 : decode b_Mo_halves 56 = .ok (.iload 4, 2) := by decide +kernel
theorem d_Mo_halves_58 : decode b_Mo_halves 58 = .ok (.iconst 2, 1) := by decide +kernel
theorem d_Mo_halves_59 : decode b_Mo_halves 59 = .ok (.if_icmp .ge 303, 3) := by decide +kernel
theorem d_Mo_halves_62 : decode b_Mo_halves 62 = .ok (.aload_n 0, 1) := by decide +kernel
theorem d_Mo_halves_63 : decode b_Mo_halves 63 = .ok (.getfield 99, 3) := by decide +kernel
theorem d_Mo_halves_66 : decode b_Mo_halves 66 = .ok (.iload_n 2, 1) := by decide +kernel
theorem d_Mo_halves_67 : decode b_Mo_halves 67 = .ok (.iload 4, 2) := by decide +kernel
theorem d_Mo_halves_69 : decode b_Mo_halves 69 = .ok (.iadd, 1) := by decide +kernel
theorem d_Mo_halves_70 : decode b_Mo_halves 70 = .ok (.laload, 1) := by decide +kernel
theorem d_Mo_halves_71 : decode b_Mo_halves 71 = .ok (.lstore 5, 2) := by decide +kernel
theorem d_Mo_halves_73 : decode b_Mo_halves 73 = .ok (.aload_n 0, 1) := by decide +kernel
theorem d_Mo_halves_74 : decode b_Mo_halves 74 = .ok (.getfield 99, 3) := by decide +kernel
theorem d_Mo_halves_77 : decode b_Mo_halves 77 = .ok (.iload_n 2, 1) := by decide +kernel
theorem d_Mo_halves_78 : decode b_Mo_halves 78 = .ok (.iconst 2, 1) := by decide +kernel
theorem d_Mo_halves_79 : decode b_Mo_halves 79 = .ok (.iadd, 1) := by decide +kernel
theorem d_Mo_halves_80 : decode b_Mo_halves 80 = .ok (.iload 4, 2) := by decide +kernel
theorem d_Mo_halves_82 : decode b_Mo_halves 82 = .ok (.iadd, 1) := by decide +kernel
theorem d_Mo_halves_83 : decode b_Mo_halves 83 = .ok (.laload, 1) := by decide +kernel
theorem d_Mo_halves_84 : decode b_Mo_halves 84 = .ok (.lstore 7, 2) := by decide +kernel
theorem d_Mo_halves_86 : decode b_Mo_halves 86 = .ok (.aload_n 0, 1) := by decide +kernel
theorem d_Mo_halves_87 : decode b_Mo_halves 87 = .ok (.getfield 99, 3) := by decide +kernel
theorem d_Mo_halves_90 : decode b_Mo_halves 90 = .ok (.iload_n 2, 1) := by decide +kernel
theorem d_Mo_halves_91 : decode b_Mo_halves 91 = .ok (.iconst 4, 1) := by decide +kernel
theorem d_Mo_halves_92 : decode b_Mo_halves 92 = .ok (.iadd, 1) := by decide +kernel
theorem d_Mo_halves_93 : decode b_Mo_halves 93 = .ok (.iload 4, 2) := by decide +kernel
theorem d_Mo_halves_95 : decode b_Mo_halves 95 = .ok (.iadd, 1) := by decide +kernel
theorem d_Mo_halves_96 : decode b_Mo_halves 96 = .ok (.laload, 1) := by decide +kernel
theorem d_Mo_halves_97 : decode b_Mo_halves 97 = .ok (.lstore 9, 2) := by decide +kernel
theorem d_Mo_halves_99 : decode b_Mo_halves 99 = .ok (.iload_n 1, 1) := by decide +kernel
theorem d_Mo_halves_100 : decode b_Mo_halves 100 = .ok (.iconst 4, 1) := by decide +kernel
theorem d_Mo_halves_101 : decode b_Mo_halves 101 = .ok (.if_icmp .ne 18, 3) := by decide +kernel
theorem d_Mo_halves_104 : decode b_Mo_halves 104 = .ok (.aload_n 0, 1) := by decide +kernel
theorem d_Mo_halves_105 : decode b_Mo_halves 105 = .ok (.getfield 99, 3) := by decide +kernel
theorem d_Mo_halves_108 : decode b_Mo_halves 108 = .ok (.iload_n 2, 1) := by decide +kernel
theorem d_Mo_halves_109 : decode b_Mo_halves 109 = .ok (.bipush 6, 2) := by decide +kernel
theorem d_Mo_halves_111 : decode b_Mo_halves 111 = .ok (.iadd, 1) := by decide +kernel
theorem d_Mo_halves_112 : decode b_Mo_halves 112 = .ok (.iload 4, 2) := by decide +kernel
theorem d_Mo_halves_114 : decode b_Mo_halves 114 = .ok (.iadd, 1) := by decide +kernel
theorem d_Mo_halves_115 : decode b_Mo_halves 115 = .ok (.laload, 1) := by decide +kernel
theorem d_Mo_halves_116 : decode b_Mo_halves 116 = .ok (.goto 4, 3) := by decide +kernel
theorem d_Mo_halves_119 : decode b_Mo_halves 119 = .ok (.lconst 0, 1) := by decide +kernel
theorem d_Mo_halves_120 : decode b_Mo_halves 120 = .ok (.lstore 11, 2) := by decide +kernel
theorem d_Mo_halves_122 : decode b_Mo_halves 122 = .ok (.lload 5, 2) := by decide +kernel
theorem d_Mo_halves_124 : decode b_Mo_halves 124 = .ok (.lload 7, 2) := by decide +kernel
theorem d_Mo_halves_126 : decode b_Mo_halves 126 = .ok (.ladd, 1) := by decide +kernel
theorem d_Mo_halves_127 : decode b_Mo_halves 127 = .ok (.ldc2_w 224, 3) := by decide +kernel
theorem d_Mo_halves_130 : decode b_Mo_halves 130 = .ok (.ldiv, 1) := by decide +kernel
theorem d_Mo_halves_131 : decode b_Mo_halves 131 = .ok (.lstore 13, 2) := by decide +kernel
theorem d_Mo_halves_133 : decode b_Mo_halves 133 = .ok (.lload 7, 2) := by decide +kernel
theorem d_Mo_halves_135 : decode b_Mo_halves 135 = .ok (.lload 9, 2) := by decide +kernel
theorem d_Mo_halves_137 : decode b_Mo_halves 137 = .ok (.ladd, 1) := by decide +kernel
theorem d_Mo_halves_138 : decode b_Mo_halves 138 = .ok (.ldc2_w 224, 3) := by decide +kernel
theorem d_Mo_halves_141 : decode b_Mo_halves 141 = .ok (.ldiv, 1) := by decide +kernel
theorem d_Mo_halves_142 : decode b_Mo_halves 142 = .ok (.lstore 15, 2) := by decide +kernel
theorem d_Mo_halves_144 : decode b_Mo_halves 144 = .ok (.iload_n 1, 1) := by decide +kernel
theorem d_Mo_halves_145 : decode b_Mo_halves 145 = .ok (.iconst 3, 1) := by decide +kernel
theorem d_Mo_halves_146 : decode b_Mo_halves 146 = .ok (.if_icmp .ne 78, 3) := by decide +kernel
theorem d_Mo_halves_149 : decode b_Mo_halves 149 = .ok (.lload 13, 2) := by decide +kernel
theorem d_Mo_halves_151 : decode b_Mo_halves 151 = .ok (.lload 15, 2) := by decide +kernel
theorem d_Mo_halves_153 : decode b_Mo_halves 153 = .ok (.ladd, 1) := by decide +kernel
theorem d_Mo_halves_154 : decode b_Mo_halves 154 = .ok (.ldc2_w 224, 3) := by decide +kernel
theorem d_Mo_halves_157 : decode b_Mo_halves 157 = .ok (.ldiv, 1) := by decide +kernel
theorem d_Mo_halves_158 : decode b_Mo_halves 158 = .ok (.lstore 17, 2) := by decide +kernel
theorem d_Mo_halves_160 : decode b_Mo_halves 160 = .ok (.aload_n 0, 1) := by decide +kernel
theorem d_Mo_halves_161 : decode b_Mo_halves 161 = .ok (.getfield 99, 3) := by decide +kernel
theorem d_Mo_halves_164 : decode b_Mo_halves 164 = .ok (.iload_n 3, 1) := by decide +kernel
theorem d_Mo_halves_165 : decode b_Mo_halves 165 = .ok (.iload 4, 2) := by decide +kernel
theorem d_Mo_halves_167 : decode b_Mo_halves 167 = .ok (.iadd, 1) := by decide +kernel
theorem d_Mo_halves_168 : decode b_Mo_halves 168 = .ok (.lload 5, 2) := by decide +kernel
theorem d_Mo_halves_170 : decode b_Mo_halves 170 = .ok (.lastore, 1) := by decide +kernel
theorem d_Mo_halves_171 : decode b_Mo_halves 171 = .ok (.aload_n 0, 1) := by decide +kernel
theorem d_Mo_halves_172 : decode b_Mo_halves 172 = .ok (.getfield 99, 3) := by decide +kernel
theorem d_Mo_halves_175 : decode b_Mo_halves 175 = .ok (.iload_n 3, 1) := by decide +kernel
theorem d_Mo_halves_176 : decode b_Mo_halves 176 = .ok (.iconst 2, 1) := by decide +kernel
theorem d_Mo_halves_177 : decode b_Mo_halves 177 = .ok (.iadd, 1) := by decide +kernel
theorem d_Mo_halves_178 : decode b_Mo_halves 178 = .ok (.iload 4, 2) := by decide +kernel
theorem d_Mo_halves_180 : decode b_Mo_halves 180 = .ok (.iadd, 1) := by decide +kernel
theorem d_Mo_halves_181 : decode b_Mo_halves 181 = .ok (.lload 13, 2) := by decide +kernel
theorem d_Mo_halves_183 : decode b_Mo_halves 183 = .ok (.lastore, 1) := by decide +kernel
theorem d_Mo_halves_184 : decode b_Mo_halves 184 = .ok (.aload_n 0, 1) := by decide +kernel
theorem d_Mo_halves_185 : decode b_Mo_halves 185 = .ok (.getfield 99, 3) := by decide +kernel
theorem d_Mo_halves_188 : decode b_Mo_halves 188 = .ok (.iload_n 3, 1) := by decide +kernel
theorem d_Mo_halves_189 : decode b_Mo_halves 189 = .ok (.iconst 4, 1) := by decide +kernel
theorem d_Mo_halves_190 : decode b_Mo_halves 190 = .ok (.iadd, 1) := by decide +kernel
theorem d_Mo_halves_191 : decode b_Mo_halves 191 = .ok (.iload 4, 2) := by decide +kernel
theorem d_Mo_halves_193 : decode b_Mo_halves 193 = .ok (.iadd, 1) := by decide +kernel
theorem d_Mo_halves_194 : decode b_Mo_halves 194 = .ok (.lload 17, 2) := by decide +kernel
theorem d_Mo_halves_196 : decode b_Mo_halves 196 = .ok (.lastore, 1) := by decide +kernel
theorem d_Mo_halves_197 : decode b_Mo_halves 197 = .ok (.aload_n 0, 1) := by decide +kernel
theorem d_Mo_halves_198 : decode b_Mo_halves 198 = .ok (.getfield 99, 3) := by decide +kernel
theorem d_Mo_halves_201 : decode b_Mo_halves 201 = .ok (.iload_n 2, 1) := by decide +kernel
theorem d_Mo_halves_202 : decode b_Mo_halves 202 = .ok (.iload 4, 2) := by decide +kernel
theorem d_Mo_halves_204 : decode b_Mo_halves 204 = .ok (.iadd, 1) := by decide +kernel
theorem d_Mo_halves_205 : decode b_Mo_halves 205 = .ok (.lload 17, 2) := by decide +kernel
theorem d_Mo_halves_207 : decode b_Mo_halves 207 = .ok (.lastore, 1) := by decide +kernel
theorem d_Mo_halves_208 : decode b_Mo_halves 208 = .ok (.aload_n 0, 1) := by decide +kernel
theorem d_Mo_halves_209 : decode b_Mo_halves 209 = .ok (.getfield 99, 3) := by decide +kernel
theorem d_Mo_halves_212 : decode b_Mo_halves 212 = .ok (.iload_n 2, 1) := by decide +kernel
theorem d_Mo_halves_213 : decode b_Mo_halves 213 = .ok (.iconst 2, 1) := by decide +kernel
theorem d_Mo_halves_214 : decode b_Mo_halves 214 = .ok (.iadd, 1) := by decide +kernel
theorem d_Mo_halves_215 : decode b_Mo_halves 215 = .ok (.iload 4, 2) := by decide +kernel
theorem d_Mo_halves_217 : decode b_Mo_halves 217 = .ok (.iadd, 1) := by decide +kernel
theorem d_Mo_halves_218 : decode b_Mo_halves 218 = .ok (.lload 15, 2) := by decide +kernel
theorem d_Mo_halves_220 : decode b_Mo_halves 220 = .ok (.lastore, 1) := by decide +kernel
theorem d_Mo_halves_221 : decode b_Mo_halves 221 = .ok (.goto 135, 3) := by decide +kernel
theorem d_Mo_halves_224 : decode b_Mo_halves 224 = .ok (.lload 9, 2) := by decide +kernel
theorem d_Mo_halves_226 : decode b_Mo_halves 226 = .ok (.lload 11, 2) := by decide +kernel
theorem d_Mo_halves_228 : decode b_Mo_halves 228 = .ok (.ladd, 1) := by decide +kernel
theorem d_Mo_halves_229 : decode b_Mo_halves 229 = .ok (.ldc2_w 224, 3) := by decide +kernel
theorem d_Mo_halves_232 : decode b_Mo_halves 232 = .ok (.ldiv, 1) := by decide +kernel
theorem d_Mo_halves_233 : decode b_Mo_halves 233 = .ok (.lstore 17, 2) := by decide +kernel
theorem d_Mo_halves_235 : decode b_Mo_halves 235 = .ok (.lload 13, 2) := by decide +kernel
theorem d_Mo_halves_237 : decode b_Mo_halves 237 = .ok (.lload 15, 2) := by decide +kernel
theorem d_Mo_halves_239 : decode b_Mo_halves 239 = .ok (.ladd, 1) := by decide +kernel
theorem d_Mo_halves_240 : decode b_Mo_halves 240 = .ok (.ldc2_w 224, 3) := by decide +kernel
theorem d_Mo_halves_243 : decode b_Mo_halves 243 = .ok (.ldiv, 1) := by decide +kernel
theorem d_Mo_halves_244 : decode b_Mo_halves 244 = .ok (.lstore 19, 2) := by decide +kernel
theorem d_Mo_halves_246 : decode b_Mo_halves 246 = .ok (.lload 15, 2) := by decide +kernel
theorem d_Mo_halves_248 : decode b_Mo_halves 248 = .ok (.lload 17, 2) := by decide +kernel
theorem d_Mo_halves_250 : decode b_Mo_halves 250 = .ok (.ladd, 1) := by decide +kernel
theorem d_Mo_halves_251 : decode b_Mo_halves 251 = .ok (.ldc2_w 224, 3) := by decide +kernel
theorem d_Mo_halves_254 : decode b_Mo_halves 254 = .ok (.ldiv, 1) := by decide +kernel
theorem d_Mo_halves_255 : decode b_Mo_halves 255 = .ok (.lstore 21, 2) := by decide +kernel
theorem d_Mo_halves_257 : decode b_Mo_halves 257 = .ok (.lload 19, 2) := by decide +kernel
theorem d_Mo_halves_259 : decode b_Mo_halves 259 = .ok (.lload 21, 2) := by decide +kernel
theorem d_Mo_halves_261 : decode b_Mo_halves 261 = .ok (.ladd, 1) := by decide +kernel
theorem d_Mo_halves_262 : decode b_Mo_halves 262 = .ok (.ldc2_w 224, 3) := by decide +kernel
theorem d_Mo_halves_265 : decode b_Mo_halves 265 = .ok (.ldiv, 1) := by decide +kernel
theorem d_Mo_halves_266 : decode b_Mo_halves 266 = .ok (.lstore 23, 2) := by decide +kernel
theorem d_Mo_halves_268 : decode b_Mo_halves 268 = .ok (.aload_n 0, 1) := by decide +kernel
theorem d_Mo_halves_269 : decode b_Mo_halves 269 = .ok (.getfield 99, 3) := by decide +kernel
theorem d_Mo_halves_272 : decode b_Mo_halves 272 = .ok (.iload_n 3, 1) := by decide +kernel
theorem d_Mo_halves_273 : decode b_Mo_halves 273 = .ok (.iload 4, 2) := by decide +kernel
theorem d_Mo_halves_275 : decode b_Mo_halves 275 = .ok (.iadd, 1) := by decide +kernel
theorem d_Mo_halves_276 : decode b_Mo_halves 276 = .ok (.lload 5, 2) := by decide +kernel
theorem d_Mo_halves_278 : decode b_Mo_halves 278 = .ok (.lastore, 1) := by decide +kernel
theorem d_Mo_halves_279 : decode b_Mo_halves 279 = .ok (.aload_n 0, 1) := by decide +kernel
theorem d_Mo_halves_280 : decode b_Mo_halves 280 = .ok (.getfield 99, 3) := by decide +kernel
theorem d_Mo_halves_283 : decode b_Mo_halves 283 = .ok (.iload_n 3, 1) := by decide +kernel
theorem d_Mo_halves_284 : decode b_Mo_halves 284 = .ok (.iconst 2, 1) := by decide +kernel
theorem d_Mo_halves_285 : decode b_Mo_halves 285 = .ok (.iadd, 1) := by decide +kernel
theorem d_Mo_halves_286 : decode b_Mo_halves 286 = .ok (.iload 4, 2) := by decide +kernel
theorem d_Mo_halves_288 : decode b_Mo_halves 288 = .ok (.iadd, 1) := by decide +kernel
theorem d_Mo_halves_289 : decode b_Mo_halves 289 = .ok (.lload 13, 2) := by decide +kernel
theorem d_Mo_halves_291 : decode b_Mo_halves 291 = .ok (.lastore, 1) := by decide +kernel
theorem d_Mo_halves_292 : decode b_Mo_halves 292 = .ok (.aload_n 0, 1) := by decide +kernel
theorem d_Mo_halves_293 : decode b_Mo_halves 293 = .ok (.getfield 99, 3) := by decide +kernel
theorem d_Mo_halves_296 : decode b_Mo_halves 296 = .ok (.iload_n 3, 1) := by decide +kernel
theorem d_Mo_halves_297 : decode b_Mo_halves 297 = .ok (.iconst 4, 1) := by decide +kernel
theorem d_Mo_halves_298 : decode b_Mo_halves 298 = .ok (.iadd, 1) := by decide +kernel
theorem d_Mo_halves_299 : decode b_Mo_halves 299 = .ok (.iload 4, 2) := by decide +kernel
theorem d_Mo_halves_301 : decode b_Mo_halves 301 = .ok (.iadd, 1) := by decide +kernel
theorem d_Mo_halves_302 : decode b_Mo_halves 302 = .ok (.lload 19, 2) := by decide +kernel
theorem d_Mo_halves_304 : decode b_Mo_halves 304 = .ok (.lastore, 1) := by decide +kernel
theorem d_Mo_halves_305 : decode b_Mo_halves 305 = .ok (.aload_n 0, 1) := by decide +kernel
theorem d_Mo_halves_306 : decode b_Mo_halves 306 = .ok (.getfield 99, 3) := by decide +kernel
theorem d_Mo_halves_309 : decode b_Mo_halves 309 = .ok (.iload_n 3, 1) := by decide +kernel
theorem d_Mo_halves_310 : decode b_Mo_halves 310 = .ok (.bipush 6, 2) := by decide +kernel
theorem d_Mo_halves_312 : decode b_Mo_halves 312 = .ok (.iadd, 1) := by decide +kernel
theorem d_Mo_halves_313 : decode b_Mo_halves 313 = .ok (.iload 4, 2) := by decide +kernel
theorem d_Mo_halves_315 : decode b_Mo_halves 315 = .ok (.iadd, 1) := by decide +kernel
theorem d_Mo_halves_316 : decode b_Mo_halves 316 = .ok (.lload 23, 2) := by decide +kernel
theorem d_Mo_halves_318 : decode b_Mo_halves 318 = .ok (.lastore, 1) := by decide +kernel
theorem d_Mo_halves_319 : decode b_Mo_halves 319 = .ok (.aload_n 0, 1) := by decide +kernel
theorem d_Mo_halves_320 : decode b_Mo_halves 320 = .ok (.getfield 99, 3) := by decide +kernel
theorem d_Mo_halves_323 : decode b_Mo_halves 323 = .ok (.iload_n 2, 1) := by decide +kernel
theorem d_Mo_halves_324 : decode b_Mo_halves 324 = .ok (.iload 4, 2) := by decide +kernel
theorem d_Mo_halves_326 : decode b_Mo_halves 326 = .ok (.iadd, 1) := by decide +kernel
theorem d_Mo_halves_327 : decode b_Mo_halves 327 = .ok (.lload 23, 2) := by decide +kernel
theorem d_Mo_halves_329 : decode b_Mo_halves 329 = .ok (.lastore, 1) := by decide +kernel
theorem d_Mo_halves_330 : decode b_Mo_halves 330 = .ok (.aload_n 0, 1) := by decide +kernel
theorem d_Mo_halves_331 : decode b_Mo_halves 331 = .ok (.getfield 99, 3) := by decide +kernel
theorem d_Mo_halves_334 : decode b_Mo_halves 334 = .ok (.iload_n 2, 1) := by decide +kernel
theorem d_Mo_halves_335 : decode b_Mo_halves 335 = .ok (.iconst 2, 1) := by decide +kernel
theorem d_Mo_halves_336 : decode b_Mo_halves 336 = .ok (.iadd, 1) := by decide +kernel
theorem d_Mo_halves_337 : decode b_Mo_halves 337 = .ok (.iload 4, 2) := by decide +kernel
theorem d_Mo_halves_339 : decode b_Mo_halves 339 = .ok (.iadd, 1) := by decide +kernel
theorem d_Mo_halves_340 : decode b_Mo_halves 340 = .ok (.lload 21, 2) := by decide +kernel
theorem d_Mo_halves_342 : decode b_Mo_halves 342 = .ok (.lastore, 1) := by decide +kernel
theorem d_Mo_halves_343 : decode b_Mo_halves 343 = .ok (.aload_n 0, 1) := by decide +kernel
theorem d_Mo_halves_344 : decode b_Mo_halves 344 = .ok (.getfield 99, 3) := by decide +kernel
theorem d_Mo_halves_347 : decode b_Mo_halves 347 = .ok (.iload_n 2, 1) := by decide +kernel
theorem d_Mo_halves_348 : decode b_Mo_halves 348 = .ok (.iconst 4, 1) := by decide +kernel
theorem d_Mo_halves_349 : decode b_Mo_halves 349 = .ok (.iadd, 1) := by decide +kernel
theorem d_Mo_halves_350 : decode b_Mo_halves 350 = .ok (.iload 4, 2) := by decide +kernel
theorem d_Mo_halves_352 : decode b_Mo_halves 352 = .ok (.iadd, 1) := by decide +kernel
theorem d_Mo_halves_353 : decode b_Mo_halves 353 = .ok (.lload 17, 2) := by decide +kernel
theorem d_Mo_halves_355 : decode b_Mo_halves 355 = .ok (.lastore, 1) := by decide +kernel
theorem d_Mo_halves_356 : decode b_Mo_halves 356 = .ok (.iinc 4 1, 3) := by decide +kernel
theorem d_Mo_halves_359 : decode b_Mo_halves 359 = .ok (.goto (-303), 3) := by decide +kernel
theorem d_Mo_halves_362 : decode b_Mo_halves 362 = .ok (.aload_n 0, 1) := by decide +kernel
theorem d_Mo_halves_363 : decode b_Mo_halves 363 = .ok (.dup, 1) := by decide +kernel
theorem d_Mo_halves_364 : decode b_Mo_halves 364 = .ok (.getfield 250, 3) := by decide +kernel
theorem d_Mo_halves_367 : decode b_Mo_halves 367 = .ok (.iconst 1, 1) := by decide +kernel
theorem d_Mo_halves_368 : decode b_Mo_halves 368 = .ok (.iadd, 1) := by decide +kernel
theorem d_Mo_halves_369 : decode b_Mo_halves 369 = .ok (.putfield 250, 3) := by decide +kernel
theorem d_Mo_halves_372 : decode b_Mo_halves 372 = .ok (.return_, 1) := by decide +kernel
theorem d_Mo_size_0 : decode b_Mo_size 0 = .ok (.lload_n 0, 1) := by decide +kernel
theorem d_Mo_size_1 : decode b_Mo_size 1 = .ok (.lconst 0, 1) := by decide +kernel
theorem d_Mo_size_2 : decode b_Mo_size 2 = .ok (.lcmp, 1) := by decide +kernel
theorem d_Mo_size_3 : decode b_Mo_size 3 = .ok (.ifCond .ge 8, 3) := by decide +kernel
theorem d_Mo_size_6 : decode b_Mo_size 6 = .ok (.lload_n 0, 1) := by decide +kernel
theorem d_Mo_size_7 : decode b_Mo_size 7 = .ok (.lneg, 1) := by decide +kernel
theorem d_Mo_size_8 : decode b_Mo_size 8 = .ok (.goto 4, 3) := by decide +kernel
theorem d_Mo_size_11 : decode b_Mo_size 11 = .ok (.lload_n 0, 1) := by decide +kernel
theorem d_Mo_size_12 : decode b_Mo_size 12 = .ok (.lreturn, 1) := by decide +kernel
theorem d_Mo_isFlat_0 : decode b_Mo_isFlat 0 = .ok (.iconst 1, 1) := by decide +kernel
theorem d_Mo_isFlat_1 : decode b_Mo_isFlat 1 = .ok (.istore 5, 2) := by decide +kernel
theorem d_Mo_isFlat_3 : decode b_Mo_isFlat 3 = .ok (.iconst 0, 1) := by decide +kernel
theorem d_Mo_isFlat_4 : decode b_Mo_isFlat 4 = .ok (.istore 6, 2) := by decide +kernel
theorem d_Mo_isFlat_6 : decode b_Mo_isFlat 6 = .ok (.iload 6, 2) := by decide +kernel
theorem d_Mo_isFlat_8 : decode b_Mo_isFlat 8 = .ok (.iconst 2, 1) := by decide +kernel
theorem d_Mo_isFlat_9 : decode b_Mo_isFlat 9 = .ok (.iadd, 1) := by decide +kernel
theorem d_Mo_isFlat_10 : decode b_Mo_isFlat 10 = .ok (.iload_n 2, 1) := by decide +kernel
theorem d_Mo_isFlat_11 : decode b_Mo_isFlat 11 = .ok (.if_icmp .ge 109, 3) := by decide +kernel
theorem d_Mo_isFlat_14 : decode b_Mo_isFlat 14 = .ok (.iload_n 1, 1) := by decide +kernel
theorem d_Mo_isFlat_15 : decode b_Mo_isFlat 15 = .ok (.iconst 2, 1) := by decide +kernel
theorem d_Mo_isFlat_16 : decode b_Mo_isFlat 16 = .ok (.iload 6, 2) := by decide +kernel
theorem d_Mo_isFlat_18 : decode b_Mo_isFlat 18 = .ok (.imul, 1) := by decide +kernel
theorem d_Mo_isFlat_19 : decode b_Mo_isFlat 19 = .ok (.iadd, 1) := by decide +kernel
theorem d_Mo_isFlat_20 : decode b_Mo_isFlat 20 = .ok (.istore 7, 2) := by decide +kernel
theorem d_Mo_isFlat_22 : decode b_Mo_isFlat 22 = .ok (.iload 5, 2) := by decide +kernel
theorem d_Mo_isFlat_24 : decode b_Mo_isFlat 24 = .ok (.ifCond .eq 87, 3) := by decide +kernel
theorem d_Mo_isFlat_27 : decode b_Mo_isFlat 27 = .ok (.aload_n 0, 1) := by decide +kernel
theorem d_Mo_isFlat_28 : decode b_Mo_isFlat 28 = .ok (.getfield 99, 3) := by decide +kernel
theorem d_Mo_isFlat_31 : decode b_Mo_isFlat 31 = .ok (.iload 7, 2) := by decide +kernel
theorem d_Mo_isFlat_33 : decode b_Mo_isFlat 33 = .ok (.laload, 1) := by decide +kernel
theorem d_Mo_isFlat_34 : decode b_Mo_isFlat 34 = .ok (.ldc2_w 224, 3) := by decide +kernel
theorem d_Mo_isFlat_37 : decode b_Mo_isFlat 37 = .ok (.aload_n 0, 1) := by decide +kernel
theorem d_Mo_isFlat_38 : decode b_Mo_isFlat 38 = .ok (.getfield 99, 3) := by decide +kernel
theorem d_Mo_isFlat_41 : decode b_Mo_isFlat 41 = .ok (.iload 7, 2) := by decide +kernel
theorem d_Mo_isFlat_43 : decode b_Mo_isFlat 43 = .ok (.iconst 2, 1) := by decide +kernel
theorem d_Mo_isFlat_44 : decode b_Mo_isFlat 44 = .ok (.iadd, 1) := by decide +kernel
theorem d_Mo_isFlat_45 : decode b_Mo_isFlat 45 = .ok (.laload, 1) := by decide +kernel
theorem d_Mo_isFlat_46 : decode b_Mo_isFlat 46 = .ok (.lmul, 1) := by decide +kernel
theorem d_Mo_isFlat_47 : decode b_Mo_isFlat 47 = .ok (.lsub, 1) := by decide +kernel
theorem d_Mo_isFlat_48 : decode b_Mo_isFlat 48 = .ok (.aload_n 0, 1) := by decide +kernel
theorem d_Mo_isFlat_49 : decode b_Mo_isFlat 49 = .ok (.getfield 99, 3) := by decide +kernel
theorem d_Mo_isFlat_52 : decode b_Mo_isFlat 52 = .ok (.iload 7, 2) := by decide +kernel
theorem d_Mo_isFlat_54 : decode b_Mo_isFlat 54 = .ok (.iconst 4, 1) := by decide +kernel
theorem d_Mo_isFlat_55 : decode b_Mo_isFlat 55 = .ok (.iadd, 1) := by decide +kernel
theorem d_Mo_isFlat_56 : decode b_Mo_isFlat 56 = .ok (.laload, 1) := by decide +kernel
theorem d_Mo_isFlat_57 : decode b_Mo_isFlat 57 = .ok (.ladd, 1) := by decide +kernel
theorem d_Mo_isFlat_58 : decode b_Mo_isFlat 58 = .ok (.invokestatic 246, 3) := by decide +kernel
theorem d_Mo_isFlat_61 : decode b_Mo_isFlat 61 = .ok (.lload_n 3, 1) := by decide +kernel
theorem d_Mo_isFlat_62 : decode b_Mo_isFlat 62 = .ok (.lcmp, 1) := by decide +kernel
theorem d_Mo_isFlat_63 : decode b_Mo_isFlat 63 = .ok (.ifCond .gt 48, 3) := by decide +kernel
theorem d_Mo_isFlat_66 : decode b_Mo_isFlat 66 = .ok (.aload_n 0, 1) := by decide +kernel
theorem d_Mo_isFlat_67 : decode b_Mo_isFlat 67 = .ok (.getfield 99, 3) := by decide +kernel
theorem d_Mo_isFlat_70 : decode b_Mo_isFlat 70 = .ok (.iload 7, 2) := by decide +kernel
theorem d_Mo_isFlat_72 : decode b_Mo_isFlat 72 = .ok (.iconst 1, 1) := by decide +kernel
theorem d_Mo_isFlat_73 : decode b_Mo_isFlat 73 = .ok (.iadd, 1) := by decide +kernel
theorem d_Mo_isFlat_74 : decode b_Mo_isFlat 74 = .ok (.laload, 1) := by decide +kernel
theorem d_Mo_isFlat_75 : decode b_Mo_isFlat 75 = .ok (.ldc2_w 224, 3) := by decide +kernel
theorem d_Mo_isFlat_78 : decode b_Mo_isFlat 78 = .ok (.aload_n 0, 1) := by decide +kernel
theorem d_Mo_isFlat_79 : decode b_Mo_isFlat 79 = .ok (.getfield 99, 3) := by decide +kernel
theorem d_Mo_isFlat_82 : decode b_Mo_isFlat 82 = .ok (.iload 7, 2) := by decide +kernel
theorem d_Mo_isFlat_84 : decode b_Mo_isFlat 84 = .ok (.iconst 3, 1) := by decide +kernel
theorem d_Mo_isFlat_85 : decode b_Mo_isFlat 85 = .ok (.iadd, 1) := by decide +kernel
theorem d_Mo_isFlat_86 : decode b_Mo_isFlat 86 = .ok (.laload, 1) := by decide +kernel
theorem d_Mo_isFlat_87 : decode b_Mo_isFlat 87 = .ok (.lmul, 1) := by decide +kernel
theorem d_Mo_isFlat_88 : decode b_Mo_isFlat 88 = .ok (.lsub, 1) := by decide +kernel
theorem d_Mo_isFlat_89 : decode b_Mo_isFlat 89 = .ok (.aload_n 0, 1) := by decide +kernel
theorem d_Mo_isFlat_90 : decode b_Mo_isFlat 90 = .ok (.getfield 99, 3) := by decide +kernel
theorem d_Mo_isFlat_93 : decode b_Mo_isFlat 93 = .ok (.iload 7, 2) := by decide +kernel
theorem d_Mo_isFlat_95 : decode b_Mo_isFlat 95 = .ok (.iconst 5, 1) := by decide +kernel
theorem d_Mo_isFlat_96 : decode b_Mo_isFlat 96 = .ok (.iadd, 1) := by decide +kernel
theorem d_Mo_isFlat_97 : decode b_Mo_isFlat 97 = .ok (.laload, 1) := by decide +kernel
theorem d_Mo_isFlat_98 : decode b_Mo_isFlat 98 = .ok (.ladd, 1) := by decide +kernel
theorem d_Mo_isFlat_99 : decode b_Mo_isFlat 99 = .ok (.invokestatic 246, 3) := by decide +kernel
theorem d_Mo_isFlat_102 : decode b_Mo_isFlat 102 = .ok (.lload_n 3, 1) := by decide +kernel
theorem d_Mo_isFlat_103 : decode b_Mo_isFlat 103 = .ok (.lcmp, 1) := by decide +kernel
theorem d_Mo_isFlat_104 : decode b_Mo_isFlat 104 = .ok (.ifCond .gt 7, 3) := by decide +kernel
theorem d_Mo_isFlat_107 : decode b_Mo_isFlat 107 = .ok (.iconst 1, 1) := by decide +kernel
theorem d_Mo_isFlat_108 : decode b_Mo_isFlat 108 = .ok (.goto 4, 3) := by decide +kernel
theorem d_Mo_isFlat_111 : decode b_Mo_isFlat 111 = .ok (.iconst 0, 1) := by decide +kernel
theorem d_Mo_isFlat_112 : decode b_Mo_isFlat 112 = .ok (.istore 5, 2) := by decide +kernel
theorem d_Mo_isFlat_114 : decode b_Mo_isFlat 114 = .ok (.iinc 6 1, 3) := by decide +kernel
theorem d_Mo_isFlat_117 : decode b_Mo_isFlat 117 = .ok (.goto (-111), 3) := by decide +kernel
theorem d_Mo_isFlat_120 : decode b_Mo_isFlat 120 = .ok (.iload 5, 2) := by decide +kernel
theorem d_Mo_isFlat_122 : decode b_Mo_isFlat 122 = .ok (.ireturn, 1) := by decide +kernel
theorem d_Mo_rounded_0 : decode b_Mo_rounded 0 = .ok (.lload_n 2, 1) := by decide +kernel
theorem d_Mo_rounded_1 : decode b_Mo_rounded 1 = .ok (.lconst 0, 1) := by decide +kernel
theorem d_Mo_rounded_2 : decode b_Mo_rounded 2 = .ok (.lcmp, 1) := by decide +kernel
theorem d_Mo_rounded_3 : decode b_Mo_rounded 3 = .ok (.ifCond .ge 8, 3) := by decide +kernel
theorem d_Mo_rounded_6 : decode b_Mo_rounded 6 = .ok (.lload_n 0, 1) := by decide +kernel
theorem d_Mo_rounded_7 : decode b_Mo_rounded 7 = .ok (.lneg, 1) := by decide +kernel
theorem d_Mo_rounded_8 : decode b_Mo_rounded 8 = .ok (.goto 4, 3) := by decide +kernel
theorem d_Mo_rounded_11 : decode b_Mo_rounded 11 = .ok (.lload_n 0, 1) := by decide +kernel
theorem d_Mo_rounded_12 : decode b_Mo_rounded 12 = .ok (.lstore 4, 2) := by decide +kernel
theorem d_Mo_rounded_14 : decode b_Mo_rounded 14 = .ok (.lload_n 2, 1) := by decide +kernel
theorem d_Mo_rounded_15 : decode b_Mo_rounded 15 = .ok (.lconst 0, 1) := by decide +kernel
theorem d_Mo_rounded_16 : decode b_Mo_rounded 16 = .ok (.lcmp, 1) := by decide +kernel
theorem d_Mo_rounded_17 : decode b_Mo_rounded 17 = .ok (.ifCond .ge 8, 3) := by decide +kernel
theorem d_Mo_rounded_20 : decode b_Mo_rounded 20 = .ok (.lload_n 2, 1) := by decide +kernel
theorem d_Mo_rounded_21 : decode b_Mo_rounded 21 = .ok (.lneg, 1) := by decide +kernel
theorem d_Mo_rounded_22 : decode b_Mo_rounded 22 = .ok (.goto 4, 3) := by decide +kernel
theorem d_Mo_rounded_25 : decode b_Mo_rounded 25 = .ok (.lload_n 2, 1) := by decide +kernel
theorem d_Mo_rounded_26 : decode b_Mo_rounded 26 = .ok (.lstore 6, 2) := by decide +kernel
theorem d_Mo_rounded_28 : decode b_Mo_rounded 28 = .ok (.lload 4, 2) := by decide +kernel
theorem d_Mo_rounded_30 : decode b_Mo_rounded 30 = .ok (.lload 6, 2) := by decide +kernel
theorem d_Mo_rounded_32 : decode b_Mo_rounded 32 = .ok (.ldiv, 1) := by decide +kernel
theorem d_Mo_rounded_33 : decode b_Mo_rounded 33 = .ok (.lstore 8, 2) := by decide +kernel
theorem d_Mo_rounded_35 : decode b_Mo_rounded 35 = .ok (.lload 4, 2) := by decide +kernel
theorem d_Mo_rounded_37 : decode b_Mo_rounded 37 = .ok (.lload 6, 2) := by decide +kernel
theorem d_Mo_rounded_39 : decode b_Mo_rounded 39 = .ok (.lrem, 1) := by decide +kernel
theorem d_Mo_rounded_40 : decode b_Mo_rounded 40 = .ok (.lstore 10, 2) := by decide +kernel
theorem d_Mo_rounded_42 : decode b_Mo_rounded 42 = .ok (.lload 10, 2) := by decide +kernel
theorem d_Mo_rounded_44 : decode b_Mo_rounded 44 = .ok (.lconst 0, 1) := by decide +kernel
theorem d_Mo_rounded_45 : decode b_Mo_rounded 45 = .ok (.lcmp, 1) := by decide +kernel
theorem d_Mo_rounded_46 : decode b_Mo_rounded 46 = .ok (.ifCond .ge 16, 3) := by decide +kernel
theorem d_Mo_rounded_49 : decode b_Mo_rounded 49 = .ok (.lload 8, 2) := by decide +kernel
theorem d_Mo_rounded_51 : decode b_Mo_rounded 51 = .ok (.lconst 1, 1) := by decide +kernel
theorem d_Mo_rounded_52 : decode b_Mo_rounded 52 = .ok (.lsub, 1) := by decide +kernel
theorem d_Mo_rounded_53 : decode b_Mo_rounded 53 = .ok (.lstore 8, 2) := by decide +kernel
theorem d_Mo_rounded_55 : decode b_Mo_rounded 55 = .ok (.lload 10, 2) := by decide +kernel
theorem d_Mo_rounded_57 : decode b_Mo_rounded 57 = .ok (.lload 6, 2) := by decide +kernel
theorem d_Mo_rounded_59 : decode b_Mo_rounded 59 = .ok (.ladd, 1) := by decide +kernel
theorem d_Mo_rounded_60 : decode b_Mo_rounded 60 = .ok (.lstore 10, 2) := by decide +kernel
theorem d_Mo_rounded_62 : decode b_Mo_rounded 62 = .ok (.ldc2_w 224, 3) := by decide +kernel
theorem d_Mo_rounded_65 : decode b_Mo_rounded 65 = .ok (.lload 10, 2) := by decide +kernel
theorem d_Mo_rounded_67 : decode b_Mo_rounded 67 = .ok (.lmul, 1) := by decide +kernel
theorem d_Mo_rounded_68 : decode b_Mo_rounded 68 = .ok (.lload 6, 2) := by decide +kernel
theorem d_Mo_rounded_70 : decode b_Mo_rounded 70 = .ok (.lcmp, 1) := by decide +kernel
theorem d_Mo_rounded_71 : decode b_Mo_rounded 71 = .ok (.ifCond .gt 24, 3) := by decide +kernel
theorem d_Mo_rounded_74 : decode b_Mo_rounded 74 = .ok (.ldc2_w 224, 3) := by decide +kernel
theorem d_Mo_rounded_77 : decode b_Mo_rounded 77 = .ok (.lload 10, 2) := by decide +kernel
theorem d_Mo_rounded_79 : decode b_Mo_rounded 79 = .ok (.lmul, 1) := by decide +kernel
theorem d_Mo_rounded_80 : decode b_Mo_rounded 80 = .ok (.lload 6, 2) := by decide +kernel
theorem d_Mo_rounded_82 : decode b_Mo_rounded 82 = .ok (.lcmp, 1) := by decide +kernel
theorem d_Mo_rounded_83 : decode b_Mo_rounded 83 = .ok (.ifCond .ne 19, 3) := by decide +kernel
theorem d_Mo_rounded_86 : decode b_Mo_rounded 86 = .ok (.lload 8, 2) := by decide +kernel
theorem d_Mo_rounded_88 : decode b_Mo_rounded 88 = .ok (.lconst 1, 1) := by decide +kernel
theorem d_Mo_rounded_89 : decode b_Mo_rounded 89 = .ok (.land, 1) := by decide +kernel
theorem d_Mo_rounded_90 : decode b_Mo_rounded 90 = .ok (.lconst 1, 1) := by decide +kernel
theorem d_Mo_rounded_91 : decode b_Mo_rounded 91 = .ok (.lcmp, 1) := by decide +kernel
theorem d_Mo_rounded_92 : decode b_Mo_rounded 92 = .ok (.ifCond .ne 10, 3) := by decide +kernel
theorem d_Mo_rounded_95 : decode b_Mo_rounded 95 = .ok (.lload 8, 2) := by decide +kernel
theorem d_Mo_rounded_97 : decode b_Mo_rounded 97 = .ok (.lconst 1, 1) := by decide +kernel
theorem d_Mo_rounded_98 : decode b_Mo_rounded 98 = .ok (.ladd, 1) := by decide +kernel
theorem d_Mo_rounded_99 : decode b_Mo_rounded 99 = .ok (.goto 5, 3) := by decide +kernel
theorem d_Mo_rounded_102 : decode b_Mo_rounded 102 = .ok (.lload 8, 2) := by decide +kernel
theorem d_Mo_rounded_104 : decode b_Mo_rounded 104 = .ok (.lreturn, 1) := by decide +kernel
theorem d_Mo_curve_0 : decode b_Mo_curve 0 = .ok (.iload_n 3, 1) := by decide +kernel
theorem d_Mo_curve_1 : decode b_Mo_curve 1 = .ok (.iconst 3, 1) := by decide +kernel
theorem d_Mo_curve_2 : decode b_Mo_curve 2 = .ok (.if_icmp .ne 9, 3) := by decide +kernel
theorem d_Mo_curve_5 : decode b_Mo_curve 5 = .ok (.ldc2_w 253, 3) := by decide +kernel
theorem d_Mo_curve_8 : decode b_Mo_curve 8 = .ok (.goto 6, 3) := by decide +kernel
theorem d_Mo_curve_11 : decode b_Mo_curve 11 = .ok (.ldc2_w 255, 3) := by decide +kernel
theorem d_Mo_curve_14 : decode b_Mo_curve 14 = .ok (.lstore 5, 2) := by decide +kernel
theorem d_Mo_curve_16 : decode b_Mo_curve 16 = .ok (.aload_n 0, 1) := by decide +kernel
theorem d_Mo_curve_17 : decode b_Mo_curve 17 = .ok (.iconst 1, 1) := by decide +kernel
theorem d_Mo_curve_18 : decode b_Mo_curve 18 = .ok (.putfield 250, 3) := by decide +kernel
theorem d_Mo_curve_21 : decode b_Mo_curve 21 = .ok (.aload_n 0, 1) := by decide +kernel
theorem d_Mo_curve_22 : decode b_Mo_curve 22 = .ok (.getfield 102, 3) := by decide +kernel
theorem d_Mo_curve_25 : decode b_Mo_curve 25 = .ok (.iconst 0, 1) := by decide +kernel
theorem d_Mo_curve_26 : decode b_Mo_curve 26 = .ok (.iconst 0, 1) := by decide +kernel
theorem d_Mo_curve_27 : decode b_Mo_curve 27 = .ok (.iastore, 1) := by decide +kernel
theorem d_Mo_curve_28 : decode b_Mo_curve 28 = .ok (.iconst 0, 1) := by decide +kernel
theorem d_Mo_curve_29 : decode b_Mo_curve 29 = .ok (.istore 7, 2) := by decide +kernel
theorem d_Mo_curve_31 : decode b_Mo_curve 31 = .ok (.iload 7, 2) := by decide +kernel
theorem d_Mo_curve_33 : decode b_Mo_curve 33 = .ok (.iload_n 3, 1) := by decide +kernel
theorem d_Mo_curve_34 : decode b_Mo_curve 34 = .ok (.if_icmp .ge 57, 3) := by decide +kernel
theorem d_Mo_curve_37 : decode b_Mo_curve 37 = .ok (.aload_n 0, 1) := by decide +kernel
theorem d_Mo_curve_38 : decode b_Mo_curve 38 = .ok (.getfield 99, 3) := by decide +kernel
theorem d_Mo_curve_41 : decode b_Mo_curve 41 = .ok (.iconst 2, 1) := by decide +kernel
theorem d_Mo_curve_42 : decode b_Mo_curve 42 = .ok (.iload 7, 2) := by decide +kernel
theorem d_Mo_curve_44 : decode b_Mo_curve 44 = .ok (.imul, 1) := by decide +kernel
theorem d_Mo_curve_45 : decode b_Mo_curve 45 = .ok (.aload_n 0, 1) := by decide +kernel
theorem d_Mo_curve_46 : decode b_Mo_curve 46 = .ok (.getfield 92, 3) := by decide +kernel
theorem d_Mo_curve_49 : decode b_Mo_curve 49 = .ok (.iload_n 1, 1) := by decide +kernel
theorem d_Mo_curve_50 : decode b_Mo_curve 50 = .ok (.iload 7, 2) := by decide +kernel
theorem d_Mo_curve_52 : decode b_Mo_curve 52 = .ok (.iadd, 1) := by decide +kernel
theorem d_Mo_curve_53 : decode b_Mo_curve 53 = .ok (.iload_n 2, 1) := by decide +kernel
theorem d_Mo_curve_54 : decode b_Mo_curve 54 = .ok (.irem, 1) := by decide +kernel
theorem d_Mo_curve_55 : decode b_Mo_curve 55 = .ok (.laload, 1) := by decide +kernel
theorem d_Mo_curve_56 : decode b_Mo_curve 56 = .ok (.lload 5, 2) := by decide +kernel
theorem d_Mo_curve_58 : decode b_Mo_curve 58 = .ok (.lmul, 1) := by decide +kernel
theorem d_Mo_curve_59 : decode b_Mo_curve 59 = .ok (.lastore, 1) := by decide +kernel
theorem d_Mo_curve_60 : decode b_Mo_curve 60 = .ok (.aload_n 0, 1) := by decide +kernel
theorem d_Mo_curve_61 : decode b_Mo_curve 61 = .ok (.getfield 99, 3) := by decide +kernel
theorem d_Mo_curve_64 : decode b_Mo_curve 64 = .ok (.iconst 2, 1) := by decide +kernel
theorem d_Mo_curve_65 : decode b_Mo_curve 65 = .ok (.iload 7, 2) := by decide +kernel
theorem d_Mo_curve_67 : decode b_Mo_curve 67 = .ok (.imul, 1) := by decide +kernel
theorem d_Mo_curve_68 : decode b_Mo_curve 68 = .ok (.iconst 1, 1) := by decide +kernel
theorem d_Mo_curve_69 : decode b_Mo_curve 69 = .ok (.iadd, 1) := by decide +kernel
theorem d_Mo_curve_70 : decode b_Mo_curve 70 = .ok (.aload_n 0, 1) := by decide +kernel
theorem d_Mo_curve_71 : decode b_Mo_curve 71 = .ok (.getfield 96, 3) := by decide +kernel
theorem d_Mo_curve_74 : decode b_Mo_curve 74 = .ok (.iload_n 1, 1) := by decide +kernel
theorem d_Mo_curve_75 : decode b_Mo_curve 75 = .ok (.iload 7, 2) := by decide +kernel
theorem d_Mo_curve_77 : decode b_Mo_curve 77 = .ok (.iadd, 1) := by decide +kernel
theorem d_Mo_curve_78 : decode b_Mo_curve 78 = .ok (.iload_n 2, 1) := by decide +kernel
theorem d_Mo_curve_79 : decode b_Mo_curve 79 = .ok (.irem, 1) := by decide +kernel
theorem d_Mo_curve_80 : decode b_Mo_curve 80 = .ok (.laload, 1) := by decide +kernel
theorem d_Mo_curve_81 : decode b_Mo_curve 81 = .ok (.lload 5, 2) := by decide +kernel
theorem d_Mo_curve_83 : decode b_Mo_curve 83 = .ok (.lmul, 1) := by decide +kernel
theorem d_Mo_curve_84 : decode b_Mo_curve 84 = .ok (.lastore, 1) := by decide +kernel
theorem d_Mo_curve_85 : decode b_Mo_curve 85 = .ok (.iinc 7 1, 3) := by decide +kernel
theorem d_Mo_curve_88 : decode b_Mo_curve 88 = .ok (.goto (-57), 3) := by decide +kernel
theorem d_Mo_curve_91 : decode b_Mo_curve 91 = .ok (.aload_n 0, 1) := by decide +kernel
theorem d_Mo_curve_92 : decode b_Mo_curve 92 = .ok (.getfield 250, 3) := by decide +kernel
theorem d_Mo_curve_95 : decode b_Mo_curve 95 = .ok (.ifCond .le 114, 3) := by decide +kernel
theorem d_Mo_curve_98 : decode b_Mo_curve 98 = .ok (.aload_n 0, 1) := by decide +kernel
theorem d_Mo_curve_99 : decode b_Mo_curve 99 = .ok (.getfield 233, 3) := by decide +kernel
theorem d_Mo_curve_102 : decode b_Mo_curve 102 = .ok (.ifCond .eq 107, 3) := by decide +kernel
theorem d_Mo_curve_105 : decode b_Mo_curve 105 = .ok (.bipush 8, 2) := by decide +kernel
theorem d_Mo_curve_107 : decode b_Mo_curve 107 = .ok (.aload_n 0, 1) := by decide +kernel
theorem d_Mo_curve_108 : decode b_Mo_curve 108 = .ok (.getfield 250, 3) := by decide +kernel
theorem d_Mo_curve_111 : decode b_Mo_curve 111 = .ok (.iconst 1, 1) := by decide +kernel
theorem d_Mo_curve_112 : decode b_Mo_curve 112 = .ok (.isub, 1) := by decide +kernel
theorem d_Mo_curve_113 : decode b_Mo_curve 113 = .ok (.imul, 1) := by decide +kernel
theorem d_Mo_curve_114 : decode b_Mo_curve 114 = .ok (.istore 7, 2) := by decide +kernel
theorem d_Mo_curve_116 : decode b_Mo_curve 116 = .ok (.aload_n 0, 1) := by decide +kernel
theorem d_Mo_curve_117 : decode b_Mo_curve 117 = .ok (.getfield 102, 3) := by decide +kernel
theorem d_Mo_curve_120 : decode b_Mo_curve 120 = .ok (.aload_n 0, 1) := by decide +kernel
theorem d_Mo_curve_121 : decode b_Mo_curve 121 = .ok (.getfield 250, 3) := by decide +kernel
theorem d_Mo_curve_124 : decode b_Mo_curve 124 = .ok (.iconst 1, 1) := by decide +kernel
theorem d_Mo_curve_125 : decode b_Mo_curve 125 = .ok (.isub, 1) := by decide +kernel
theorem d_Mo_curve_126 : decode b_Mo_curve 126 = .ok (.iaload, 1) := by decide +kernel
theorem d_Mo_curve_127 : decode b_Mo_curve 127 = .ok (.bipush 10, 2) := by decide +kernel
theorem d_Mo_curve_129 : decode b_Mo_curve 129 = .ok (.if_icmp .ge 27, 3) := by decide +kernel
theorem d_Mo_curve_132 : decode b_Mo_curve 132 = .ok (.aload_n 0, 1) := by decide +kernel
theorem d_Mo_curve_133 : decode b_Mo_curve 133 = .ok (.iload 7, 2) := by decide +kernel
theorem d_Mo_curve_135 : decode b_Mo_curve 135 = .ok (.iload_n 3, 1) := by decide +kernel
theorem d_Mo_curve_136 : decode b_Mo_curve 136 = .ok (.iload 4, 2) := by decide +kernel
theorem d_Mo_curve_138 : decode b_Mo_curve 138 = .ok (.i2l, 1) := by decide +kernel
theorem d_Mo_curve_139 : decode b_Mo_curve 139 = .ok (.lload 5, 2) := by decide +kernel
theorem d_Mo_curve_141 : decode b_Mo_curve 141 = .ok (.lmul, 1) := by decide +kernel
theorem d_Mo_curve_142 : decode b_Mo_curve 142 = .ok (.invokevirtual 257, 3) := by decide +kernel
theorem d_Mo_curve_145 : decode b_Mo_curve 145 = .ok (.ifCond .ne 11, 3) := by decide +kernel
theorem d_Mo_curve_148 : decode b_Mo_curve 148 = .ok (.aload_n 0, 1) := by decide +kernel
theorem d_Mo_curve_149 : decode b_Mo_curve 149 = .ok (.iload_n 3, 1) := by decide +kernel
theorem d_Mo_curve_150 : decode b_Mo_curve 150 = .ok (.invokevirtual 261, 3) := by decide +kernel
theorem d_Mo_curve_153 : decode b_Mo_curve 153 = .ok (.goto (-62), 3) := by decide +kernel
theorem d_Mo_curve_156 : decode b_Mo_curve 156 = .ok (.aload_n 0, 1) := by decide +kernel
theorem d_Mo_curve_157 : decode b_Mo_curve 157 = .ok (.dup, 1) := by decide +kernel
theorem d_Mo_curve_158 : decode b_Mo_curve 158 = .ok (.getfield 250, 3) := by decide +kernel
theorem d_Mo_curve_161 : decode b_Mo_curve 161 = .ok (.iconst 1, 1) := by decide +kernel
theorem d_Mo_curve_162 : decode b_Mo_curve 162 = .ok (.isub, 1) := by decide +kernel
theorem d_Mo_curve_163 : decode b_Mo_curve 163 = .ok (.putfield 250, 3) := by decide +kernel
theorem d_Mo_curve_166 : decode b_Mo_curve 166 = .ok (.aload_n 0, 1) := by decide +kernel
theorem d_Mo_curve_167 : decode b_Mo_curve 167 = .ok (.aload_n 0, 1) := by decide +kernel
theorem d_Mo_curve_168 : decode b_Mo_curve 168 = .ok (.getfield 99, 3) := by decide +kernel
theorem d_Mo_curve_171 : decode b_Mo_curve 171 = .ok (.iload 7, 2) := by decide +kernel
theorem d_Mo_curve_173 : decode b_Mo_curve 173 = .ok (.iconst 2, 1) := by decide +kernel
theorem d_Mo_curve_174 : decode b_Mo_curve 174 = .ok (.iload_n 3, 1) := by decide +kernel
theorem d_Mo_curve_175 : decode b_Mo_curve 175 = .ok (.imul, 1) := by decide +kernel
theorem d_Mo_curve_176 : decode b_Mo_curve 176 = .ok (.iadd, 1) := by decide +kernel
theorem d_Mo_curve_177 : decode b_Mo_curve 177 = .ok (.iconst 2, 1) := by decide +kernel
theorem d_Mo_curve_178 : decode b_Mo_curve 178 = .ok (.isub, 1) := by decide +kernel
theorem d_Mo_curve_179 : decode b_Mo_curve 179 = .ok (.laload, 1) := by decide +kernel
theorem d_Mo_curve_180 : decode b_Mo_curve 180 = .ok (.lload 5, 2) := by decide +kernel
theorem d_Mo_curve_182 : decode b_Mo_curve 182 = .ok (.invokestatic 265, 3) := by decide +kernel
theorem d_Mo_curve_185 : decode b_Mo_curve 185 = .ok (.aload_n 0, 1) := by decide +kernel
theorem d_Mo_curve_186 : decode b_Mo_curve 186 = .ok (.getfield 99, 3) := by decide +kernel
theorem d_Mo_curve_189 : decode b_Mo_curve 189 = .ok (.iload 7, 2) := by decide +kernel
theorem d_Mo_curve_191 : decode b_Mo_curve 191 = .ok (.iconst 2, 1) := by decide +kernel
theorem d_Mo_curve_192 : decode b_Mo_curve 192 = .ok (.iload_n 3, 1) := by decide +kernel
theorem d_Mo_curve_193 : decode b_Mo_curve 193 = .ok (.imul, 1) := by decide +kernel
theorem d_Mo_curve_194 : decode b_Mo_curve 194 = .ok (.iadd, 1) := by decide +kernel
theorem d_Mo_curve_195 : decode b_Mo_curve 195 = .ok (.iconst 1, 1) := by decide +kernel
theorem d_Mo_curve_196 : decode b_Mo_curve 196 = .ok (.isub, 1) := by decide +kernel
theorem d_Mo_curve_197 : decode b_Mo_curve 197 = .ok (.laload, 1) := by decide +kernel
theorem d_Mo_curve_198 : decode b_Mo_curve 198 = .ok (.lload 5, 2) := by decide +kernel
theorem d_Mo_curve_200 : decode b_Mo_curve 200 = .ok (.invokestatic 265, 3) := by decide +kernel
theorem d_Mo_curve_203 : decode b_Mo_curve 203 = .ok (.invokevirtual 269, 3) := by decide +kernel
theorem d_Mo_curve_206 : decode b_Mo_curve 206 = .ok (.goto (-115), 3) := by decide +kernel
theorem d_Mo_curve_209 : decode b_Mo_curve 209 = .ok (.return_, 1) := by decide +kernel
theorem d_Mo_outlineOf_0 : decode b_Mo_outlineOf 0 = .ok (.aload_n 0, 1) := by decide +kernel
theorem d_Mo_outlineOf_1 : decode b_Mo_outlineOf 1 = .ok (.iload_n 1, 1) := by decide +kernel
theorem d_Mo_outlineOf_2 : decode b_Mo_outlineOf 2 = .ok (.iload_n 2, 1) := by decide +kernel
theorem d_Mo_outlineOf_3 : decode b_Mo_outlineOf 3 = .ok (.invokevirtual 209, 3) := by decide +kernel
theorem d_Mo_outlineOf_6 : decode b_Mo_outlineOf 6 = .ok (.istore 5, 2) := by decide +kernel
theorem d_Mo_outlineOf_8 : decode b_Mo_outlineOf 8 = .ok (.aload_n 0, 1) := by decide +kernel
theorem d_Mo_outlineOf_9 : decode b_Mo_outlineOf 9 = .ok (.getfield 26, 3) := by decide +kernel
theorem d_Mo_outlineOf_12 : decode b_Mo_outlineOf 12 = .ok (.bipush 8, 2) := by decide +kernel
theorem d_Mo_outlineOf_14 : decode b_Mo_outlineOf 14 = .ok (.iload_n 1, 1) := by decide +kernel
theorem d_Mo_outlineOf_15 : decode b_Mo_outlineOf 15 = .ok (.imul, 1) := by decide +kernel
theorem d_Mo_outlineOf_16 : decode b_Mo_outlineOf 16 = .ok (.iload_n 2, 1) := by decide +kernel
theorem d_Mo_outlineOf_17 : decode b_Mo_outlineOf 17 = .ok (.iadd, 1) := by decide +kernel
theorem d_Mo_outlineOf_18 : decode b_Mo_outlineOf 18 = .ok (.iaload, 1) := by decide +kernel
theorem d_Mo_outlineOf_19 : decode b_Mo_outlineOf 19 = .ok (.iload 5, 2) := by decide +kernel
theorem d_Mo_outlineOf_21 : decode b_Mo_outlineOf 21 = .ok (.isub, 1) := by decide +kernel
theorem d_Mo_outlineOf_22 : decode b_Mo_outlineOf 22 = .ok (.istore 6, 2) := by decide +kernel
theorem d_Mo_outlineOf_24 : decode b_Mo_outlineOf 24 = .ok (.iconst 0, 1) := by decide +kernel
theorem d_Mo_outlineOf_25 : decode b_Mo_outlineOf 25 = .ok (.istore 7, 2) := by decide +kernel
theorem d_Mo_outlineOf_27 : decode b_Mo_outlineOf 27 = .ok (.iload 7, 2) := by decide +kernel
theorem d_Mo_outlineOf_29 : decode b_Mo_outlineOf 29 = .ok (.iload 6, 2) := by decide +kernel
theorem d_Mo_outlineOf_31 : decode b_Mo_outlineOf 31 = .ok (.if_icmp .ge 199, 3) := by decide +kernel
theorem d_Mo_outlineOf_34 : decode b_Mo_outlineOf 34 = .ok (.aload_n 0, 1) := by decide +kernel
theorem d_Mo_outlineOf_35 : decode b_Mo_outlineOf 35 = .ok (.getfield 29, 3) := by decide +kernel
theorem d_Mo_outlineOf_38 : decode b_Mo_outlineOf 38 = .ok (.bipush 100, 2) := by decide +kernel
theorem d_Mo_outlineOf_40 : decode b_Mo_outlineOf 40 = .ok (.iload_n 1, 1) := by decide +kernel
theorem d_Mo_outlineOf_41 : decode b_Mo_outlineOf 41 = .ok (.imul, 1) := by decide +kernel
theorem d_Mo_outlineOf_42 : decode b_Mo_outlineOf 42 = .ok (.iload 5, 2) := by decide +kernel
theorem d_Mo_outlineOf_44 : decode b_Mo_outlineOf 44 = .ok (.iadd, 1) := by decide +kernel
theorem d_Mo_outlineOf_45 : decode b_Mo_outlineOf 45 = .ok (.iload 7, 2) := by decide +kernel
theorem d_Mo_outlineOf_47 : decode b_Mo_outlineOf 47 = .ok (.iadd, 1) := by decide +kernel
theorem d_Mo_outlineOf_48 : decode b_Mo_outlineOf 48 = .ok (.iaload, 1) := by decide +kernel
theorem d_Mo_outlineOf_49 : decode b_Mo_outlineOf 49 = .ok (.i2l, 1) := by decide +kernel
theorem d_Mo_outlineOf_50 : decode b_Mo_outlineOf 50 = .ok (.lstore 8, 2) := by decide +kernel
theorem d_Mo_outlineOf_52 : decode b_Mo_outlineOf 52 = .ok (.aload_n 0, 1) := by decide +kernel
theorem d_Mo_outlineOf_53 : decode b_Mo_outlineOf 53 = .ok (.getfield 32, 3) := by decide +kernel
theorem d_Mo_outlineOf_56 : decode b_Mo_outlineOf 56 = .ok (.bipush 100, 2) := by decide +kernel
theorem d_Mo_outlineOf_58 : decode b_Mo_outlineOf 58 = .ok (.iload_n 1, 1) := by decide +kernel
theorem d_Mo_outlineOf_59 : decode b_Mo_outlineOf 59 = .ok (.imul, 1) := by decide +kernel
theorem d_Mo_outlineOf_60 : decode b_Mo_outlineOf 60 = .ok (.iload 5, 2) := by decide +kernel
theorem d_Mo_outlineOf_62 : decode b_Mo_outlineOf 62 = .ok (.iadd, 1) := by decide +kernel
theorem d_Mo_outlineOf_63 : decode b_Mo_outlineOf 63 = .ok (.iload 7, 2) := by decide +kernel
theorem d_Mo_outlineOf_65 : decode b_Mo_outlineOf 65 = .ok (.iadd, 1) := by decide +kernel
theorem d_Mo_outlineOf_66 : decode b_Mo_outlineOf 66 = .ok (.iaload, 1) := by decide +kernel
theorem d_Mo_outlineOf_67 : decode b_Mo_outlineOf 67 = .ok (.i2l, 1) := by decide +kernel
theorem d_Mo_outlineOf_68 : decode b_Mo_outlineOf 68 = .ok (.lstore 10, 2) := by decide +kernel
theorem d_Mo_outlineOf_70 : decode b_Mo_outlineOf 70 = .ok (.iload_n 3, 1) := by decide +kernel
theorem d_Mo_outlineOf_71 : decode b_Mo_outlineOf 71 = .ok (.iconst 1, 1) := by decide +kernel
theorem d_Mo_outlineOf_72 : decode b_Mo_outlineOf 72 = .ok (.isub, 1) := by decide +kernel
theorem d_Mo_outlineOf_73 : decode b_Mo_outlineOf 73 = .ok (.istore 12, 2) := by decide +kernel
theorem d_Mo_outlineOf_75 : decode b_Mo_outlineOf 75 = .ok (.iload 12, 2) := by decide +kernel
theorem d_Mo_outlineOf_77 : decode b_Mo_outlineOf 77 = .ok (.ifCond .lt 129, 3) := by decide +kernel
theorem d_Mo_outlineOf_80 : decode b_Mo_outlineOf 80 = .ok (.bipush 6, 2) := by decide +kernel
theorem d_Mo_outlineOf_82 : decode b_Mo_outlineOf 82 = .ok (.aload_n 0, 1) := by decide +kernel
theorem d_Mo_outlineOf_83 : decode b_Mo_outlineOf 83 = .ok (.getfield 68, 3) := by decide +kernel
theorem d_Mo_outlineOf_86 : decode b_Mo_outlineOf 86 = .ok (.iload 12, 2) := by decide +kernel
theorem d_Mo_outlineOf_88 : decode b_Mo_outlineOf 88 = .ok (.iaload, 1) := by decide +kernel
theorem d_Mo_outlineOf_89 : decode b_Mo_outlineOf 89 = .ok (.imul, 1) := by decide +kernel
theorem d_Mo_outlineOf_90 : decode b_Mo_outlineOf 90 = .ok (.aload_n 0, 1) := by decide +kernel
theorem d_Mo_outlineOf_91 : decode b_Mo_outlineOf 91 = .ok (.getfield 71, 3) := by decide +kernel
theorem d_Mo_outlineOf_94 : decode b_Mo_outlineOf 94 = .ok (.iload 12, 2) := by decide +kernel
theorem d_Mo_outlineOf_96 : decode b_Mo_outlineOf 96 = .ok (.iaload, 1) := by decide +kernel
theorem d_Mo_outlineOf_97 : decode b_Mo_outlineOf 97 = .ok (.iadd, 1) := by decide +kernel
theorem d_Mo_outlineOf_98 : decode b_Mo_outlineOf 98 = .ok (.iconst 1, 1) := by decide +kernel
theorem d_Mo_outlineOf_99 : decode b_Mo_outlineOf 99 = .ok (.isub, 1) := by decide +kernel
theorem d_Mo_outlineOf_100 : decode b_Mo_outlineOf 100 = .ok (.istore 13, 2) := by decide +kernel
theorem d_Mo_outlineOf_102 : decode b_Mo_outlineOf 102 = .ok (.aload_n 0, 1) := by decide +kernel
theorem d_Mo_outlineOf_103 : decode b_Mo_outlineOf 103 = .ok (.getfield 50, 3) := by decide +kernel
theorem d_Mo_outlineOf_106 : decode b_Mo_outlineOf 106 = .ok (.iconst 4, 1) := by decide +kernel
theorem d_Mo_outlineOf_107 : decode b_Mo_outlineOf 107 = .ok (.iload 13, 2) := by decide +kernel
theorem d_Mo_outlineOf_109 : decode b_Mo_outlineOf 109 = .ok (.imul, 1) := by decide +kernel
theorem d_Mo_outlineOf_110 : decode b_Mo_outlineOf 110 = .ok (.iaload, 1) := by decide +kernel
theorem d_Mo_outlineOf_111 : decode b_Mo_outlineOf 111 = .ok (.i2l, 1) := by decide +kernel
theorem d_Mo_outlineOf_112 : decode b_Mo_outlineOf 112 = .ok (.lload 8, 2) := by decide +kernel
theorem d_Mo_outlineOf_114 : decode b_Mo_outlineOf 114 = .ok (.lmul, 1) := by decide +kernel
theorem d_Mo_outlineOf_115 : decode b_Mo_outlineOf 115 = .ok (.aload_n 0, 1) := by decide +kernel
theorem d_Mo_outlineOf_116 : decode b_Mo_outlineOf 116 = .ok (.getfield 50, 3) := by decide +kernel
theorem d_Mo_outlineOf_119 : decode b_Mo_outlineOf 119 = .ok (.iconst 4, 1) := by decide +kernel
theorem d_Mo_outlineOf_120 : decode b_Mo_outlineOf 120 = .ok (.iload 13, 2) := by decide +kernel
theorem d_Mo_outlineOf_122 : decode b_Mo_outlineOf 122 = .ok (.imul, 1) := by decide +kernel
theorem d_Mo_outlineOf_123 : decode b_Mo_outlineOf 123 = .ok (.iconst 1, 1) := by decide +kernel
theorem d_Mo_outlineOf_124 : decode b_Mo_outlineOf 124 = .ok (.iadd, 1) := by decide +kernel
theorem d_Mo_outlineOf_125 : decode b_Mo_outlineOf 125 = .ok (.iaload, 1) := by decide +kernel
theorem d_Mo_outlineOf_126 : decode b_Mo_outlineOf 126 = .ok (.i2l, 1) := by decide +kernel
theorem d_Mo_outlineOf_127 : decode b_Mo_outlineOf 127 = .ok (.lload 10, 2) := by decide +kernel
theorem d_Mo_outlineOf_129 : decode b_Mo_outlineOf 129 = .ok (.lmul, 1) := by decide +kernel
theorem d_Mo_outlineOf_130 : decode b_Mo_outlineOf 130 = .ok (.ladd, 1) := by decide +kernel
theorem d_Mo_outlineOf_131 : decode b_Mo_outlineOf 131 = .ok (.ldc2_w 273, 3) := by decide +kernel
theorem d_Mo_outlineOf_134 : decode b_Mo_outlineOf 134 = .ok (.invokestatic 265, 3) := by decide +kernel
theorem d_Mo_outlineOf_137 : decode b_Mo_outlineOf 137 = .ok (.aload_n 0, 1) := by decide +kernel
theorem d_Mo_outlineOf_138 : decode b_Mo_outlineOf 138 = .ok (.getfield 53, 3) := by decide +kernel
theorem d_Mo_outlineOf_141 : decode b_Mo_outlineOf 141 = .ok (.iload 13, 2) := by decide +kernel
theorem d_Mo_outlineOf_143 : decode b_Mo_outlineOf 143 = .ok (.iaload, 1) := by decide +kernel
theorem d_Mo_outlineOf_144 : decode b_Mo_outlineOf 144 = .ok (.i2l, 1) := by decide +kernel
theorem d_Mo_outlineOf_145 : decode b_Mo_outlineOf 145 = .ok (.ladd, 1) := by decide +kernel
theorem d_Mo_outlineOf_146 : decode b_Mo_outlineOf 146 = .ok (.lstore 14, 2) := by decide +kernel
theorem d_Mo_outlineOf_148 : decode b_Mo_outlineOf 148 = .ok (.aload_n 0, 1) := by decide +kernel
theorem d_Mo_outlineOf_149 : decode b_Mo_outlineOf 149 = .ok (.getfield 50, 3) := by decide +kernel
theorem d_Mo_outlineOf_152 : decode b_Mo_outlineOf 152 = .ok (.iconst 4, 1) := by decide +kernel
theorem d_Mo_outlineOf_153 : decode b_Mo_outlineOf 153 = .ok (.iload 13, 2) := by decide +kernel
theorem d_Mo_outlineOf_155 : decode b_Mo_outlineOf 155 = .ok (.imul, 1) := by decide +kernel
theorem d_Mo_outlineOf_156 : decode b_Mo_outlineOf 156 = .ok (.iconst 2, 1) := by decide +kernel
theorem d_Mo_outlineOf_157 : decode b_Mo_outlineOf 157 = .ok (.iadd, 1) := by decide +kernel
theorem d_Mo_outlineOf_158 : decode b_Mo_outlineOf 158 = .ok (.iaload, 1) := by decide +kernel
theorem d_Mo_outlineOf_159 : decode b_Mo_outlineOf 159 = .ok (.i2l, 1) := by decide +kernel
theorem d_Mo_outlineOf_160 : decode b_Mo_outlineOf 160 = .ok (.lload 8, 2) := by decide +kernel
theorem d_Mo_outlineOf_162 : decode b_Mo_outlineOf 162 = .ok (.lmul, 1) := by decide +kernel
theorem d_Mo_outlineOf_163 : decode b_Mo_outlineOf 163 = .ok (.aload_n 0, 1) := by decide +kernel
theorem d_Mo_outlineOf_164 : decode b_Mo_outlineOf 164 = .ok (.getfield 50, 3) := by decide +kernel
theorem d_Mo_outlineOf_167 : decode b_Mo_outlineOf 167 = .ok (.iconst 4, 1) := by decide +kernel
theorem d_Mo_outlineOf_168 : decode b_Mo_outlineOf 168 = .ok (.iload 13, 2) := by decide +kernel
theorem d_Mo_outlineOf_170 : decode b_Mo_outlineOf 170 = .ok (.imul, 1) := by decide +kernel
theorem d_Mo_outlineOf_171 : decode b_Mo_outlineOf 171 = .ok (.iconst 3, 1) := by decide +kernel
theorem d_Mo_outlineOf_172 : decode b_Mo_outlineOf 172 = .ok (.iadd, 1) := by decide +kernel
theorem d_Mo_outlineOf_173 : decode b_Mo_outlineOf 173 = .ok (.iaload, 1) := by decide +kernel
theorem d_Mo_outlineOf_174 : decode b_Mo_outlineOf 174 = .ok (.i2l, 1) := by decide +kernel
theorem d_Mo_outlineOf_175 : decode b_Mo_outlineOf 175 = .ok (.lload 10, 2) := by decide +kernel
theorem d_Mo_outlineOf_177 : decode b_Mo_outlineOf 177 = .ok (.lmul, 1) := by decide +kernel
theorem d_Mo_outlineOf_178 : decode b_Mo_outlineOf 178 = .ok (.ladd, 1) := by decide +kernel
theorem d_Mo_outlineOf_179 : decode b_Mo_outlineOf 179 = .ok (.ldc2_w 273, 3) := by decide +kernel
theorem d_Mo_outlineOf_182 : decode b_Mo_outlineOf 182 = .ok (.invokestatic 265, 3) := by decide +kernel
theorem d_Mo_outlineOf_185 : decode b_Mo_outlineOf 185 = .ok (.aload_n 0, 1) := by decide +kernel
theorem d_Mo_outlineOf_186 : decode b_Mo_outlineOf 186 = .ok (.getfield 56, 3) := by decide +kernel
theorem d_Mo_outlineOf_189 : decode b_Mo_outlineOf 189 = .ok (.iload 13, 2) := by decide +kernel
theorem d_Mo_outlineOf_191 : decode b_Mo_outlineOf 191 = .ok (.iaload, 1) := by decide +kernel
theorem d_Mo_outlineOf_192 : decode b_Mo_outlineOf 192 = .ok (.i2l, 1) := by decide +kernel
theorem d_Mo_outlineOf_193 : decode b_Mo_outlineOf 193 = .ok (.ladd, 1) := by decide +kernel
theorem d_Mo_outlineOf_194 : decode b_Mo_outlineOf 194 = .ok (.lstore 10, 2) := by decide +kernel
theorem d_Mo_outlineOf_196 : decode b_Mo_outlineOf 196 = .ok (.lload 14, 2) := by decide +kernel
theorem d_Mo_outlineOf_198 : decode b_Mo_outlineOf 198 = .ok (.lstore 8, 2) := by decide +kernel
theorem d_Mo_outlineOf_200 : decode b_Mo_outlineOf 200 = .ok (.iinc 12 (-1), 3) := by decide +kernel
theorem d_Mo_outlineOf_203 : decode b_Mo_outlineOf 203 = .ok (.goto (-128), 3) := by decide +kernel
theorem d_Mo_outlineOf_206 : decode b_Mo_outlineOf 206 = .ok (.aload_n 0, 1) := by decide +kernel
theorem d_Mo_outlineOf_207 : decode b_Mo_outlineOf 207 = .ok (.getfield 92, 3) := by decide +kernel
theorem d_Mo_outlineOf_210 : decode b_Mo_outlineOf 210 = .ok (.iload 7, 2) := by decide +kernel
theorem d_Mo_outlineOf_212 : decode b_Mo_outlineOf 212 = .ok (.lload 8, 2) := by decide +kernel
theorem d_Mo_outlineOf_214 : decode b_Mo_outlineOf 214 = .ok (.lastore, 1) := by decide +kernel
theorem d_Mo_outlineOf_215 : decode b_Mo_outlineOf 215 = .ok (.aload_n 0, 1) := by decide +kernel
theorem d_Mo_outlineOf_216 : decode b_Mo_outlineOf 216 = .ok (.getfield 96, 3) := by decide +kernel
theorem d_Mo_outlineOf_219 : decode b_Mo_outlineOf 219 = .ok (.iload 7, 2) := by decide +kernel
theorem d_Mo_outlineOf_221 : decode b_Mo_outlineOf 221 = .ok (.lload 10, 2) := by decide +kernel
theorem d_Mo_outlineOf_223 : decode b_Mo_outlineOf 223 = .ok (.lastore, 1) := by decide +kernel
theorem d_Mo_outlineOf_224 : decode b_Mo_outlineOf 224 = .ok (.iinc 7 1, 3) := by decide +kernel
theorem d_Mo_outlineOf_227 : decode b_Mo_outlineOf 227 = .ok (.goto (-200), 3) := by decide +kernel
theorem d_Mo_outlineOf_230 : decode b_Mo_outlineOf 230 = .ok (.aload_n 0, 1) := by decide +kernel
theorem d_Mo_outlineOf_231 : decode b_Mo_outlineOf 231 = .ok (.aload_n 0, 1) := by decide +kernel
theorem d_Mo_outlineOf_232 : decode b_Mo_outlineOf 232 = .ok (.getfield 237, 3) := by decide +kernel
theorem d_Mo_outlineOf_235 : decode b_Mo_outlineOf 235 = .ok (.putfield 240, 3) := by decide +kernel
theorem d_Mo_outlineOf_238 : decode b_Mo_outlineOf 238 = .ok (.aload_n 0, 1) := by decide +kernel
theorem d_Mo_outlineOf_239 : decode b_Mo_outlineOf 239 = .ok (.aload_n 0, 1) := by decide +kernel
theorem d_Mo_outlineOf_240 : decode b_Mo_outlineOf 240 = .ok (.getfield 92, 3) := by decide +kernel
theorem d_Mo_outlineOf_243 : decode b_Mo_outlineOf 243 = .ok (.iconst 0, 1) := by decide +kernel
theorem d_Mo_outlineOf_244 : decode b_Mo_outlineOf 244 = .ok (.laload, 1) := by decide +kernel
theorem d_Mo_outlineOf_245 : decode b_Mo_outlineOf 245 = .ok (.aload_n 0, 1) := by decide +kernel
theorem d_Mo_outlineOf_246 : decode b_Mo_outlineOf 246 = .ok (.getfield 96, 3) := by decide +kernel
theorem d_Mo_outlineOf_249 : decode b_Mo_outlineOf 249 = .ok (.iconst 0, 1) := by decide +kernel
theorem d_Mo_outlineOf_250 : decode b_Mo_outlineOf 250 = .ok (.laload, 1) := by decide +kernel
theorem d_Mo_outlineOf_251 : decode b_Mo_outlineOf 251 = .ok (.invokevirtual 269, 3) := by decide +kernel
theorem d_Mo_outlineOf_254 : decode b_Mo_outlineOf 254 = .ok (.iconst 0, 1) := by decide +kernel
theorem d_Mo_outlineOf_255 : decode b_Mo_outlineOf 255 = .ok (.istore 7, 2) := by decide +kernel
theorem d_Mo_outlineOf_257 : decode b_Mo_outlineOf 257 = .ok (.iload 7, 2) := by decide +kernel
theorem d_Mo_outlineOf_259 : decode b_Mo_outlineOf 259 = .ok (.iload 6, 2) := by decide +kernel
theorem d_Mo_outlineOf_261 : decode b_Mo_outlineOf 261 = .ok (.if_icmp .ge 107, 3) := by decide +kernel
theorem d_Mo_outlineOf_264 : decode b_Mo_outlineOf 264 = .ok (.aload_n 0, 1) := by decide +kernel
theorem d_Mo_outlineOf_265 : decode b_Mo_outlineOf 265 = .ok (.getfield 233, 3) := by decide +kernel
theorem d_Mo_outlineOf_268 : decode b_Mo_outlineOf 268 = .ok (.ifCond .eq 100, 3) := by decide +kernel
theorem d_Mo_outlineOf_271 : decode b_Mo_outlineOf 271 = .ok (.iload 7, 2) := by decide +kernel
theorem d_Mo_outlineOf_273 : decode b_Mo_outlineOf 273 = .ok (.iconst 1, 1) := by decide +kernel
theorem d_Mo_outlineOf_274 : decode b_Mo_outlineOf 274 = .ok (.iadd, 1) := by decide +kernel
theorem d_Mo_outlineOf_275 : decode b_Mo_outlineOf 275 = .ok (.iload 6, 2) := by decide +kernel
theorem d_Mo_outlineOf_277 : decode b_Mo_outlineOf 277 = .ok (.if_icmp .ge 23, 3) := by decide +kernel
theorem d_Mo_outlineOf_280 : decode b_Mo_outlineOf 280 = .ok (.aload_n 0, 1) := by decide +kernel
theorem d_Mo_outlineOf_281 : decode b_Mo_outlineOf 281 = .ok (.getfield 35, 3) := by decide +kernel
theorem d_Mo_outlineOf_284 : decode b_Mo_outlineOf 284 = .ok (.bipush 100, 2) := by decide +kernel
theorem d_Mo_outlineOf_286 : decode b_Mo_outlineOf 286 = .ok (.iload_n 1, 1) := by decide +kernel
theorem d_Mo_outlineOf_287 : decode b_Mo_outlineOf 287 = .ok (.imul, 1) := by decide +kernel
theorem d_Mo_outlineOf_288 : decode b_Mo_outlineOf 288 = .ok (.iload 5, 2) := by decide +kernel
theorem d_Mo_outlineOf_290 : decode b_Mo_outlineOf 290 = .ok (.iadd, 1) := by decide +kernel
theorem d_Mo_outlineOf_291 : decode b_Mo_outlineOf 291 = .ok (.iload 7, 2) := by decide +kernel
theorem d_Mo_outlineOf_293 : decode b_Mo_outlineOf 293 = .ok (.iadd, 1) := by decide +kernel
theorem d_Mo_outlineOf_294 : decode b_Mo_outlineOf 294 = .ok (.iconst 1, 1) := by decide +kernel
theorem d_Mo_outlineOf_295 : decode b_Mo_outlineOf 295 = .ok (.iadd, 1) := by decide +kernel
theorem d_Mo_outlineOf_296 : decode b_Mo_outlineOf 296 = .ok (.iaload, 1) := by decide +kernel
theorem d_Mo_outlineOf_297 : decode b_Mo_outlineOf 297 = .ok (.goto 4, 3) := by decide +kernel
theorem d_Mo_outlineOf_300 : decode b_Mo_outlineOf 300 = .ok (.iconst 0, 1) := by decide +kernel
theorem d_Mo_outlineOf_301 : decode b_Mo_outlineOf 301 = .ok (.istore 8, 2) := by decide +kernel
theorem d_Mo_outlineOf_303 : decode b_Mo_outlineOf 303 = .ok (.iload 8, 2) := by decide +kernel
theorem d_Mo_outlineOf_305 : decode b_Mo_outlineOf 305 = .ok (.ifCond .ne 37, 3) := by decide +kernel
theorem d_Mo_outlineOf_308 : decode b_Mo_outlineOf 308 = .ok (.aload_n 0, 1) := by decide +kernel
theorem d_Mo_outlineOf_309 : decode b_Mo_outlineOf 309 = .ok (.aload_n 0, 1) := by decide +kernel
theorem d_Mo_outlineOf_310 : decode b_Mo_outlineOf 310 = .ok (.getfield 92, 3) := by decide +kernel
theorem d_Mo_outlineOf_313 : decode b_Mo_outlineOf 313 = .ok (.iload 7, 2) := by decide +kernel
theorem d_Mo_outlineOf_315 : decode b_Mo_outlineOf 315 = .ok (.iconst 1, 1) := by decide +kernel
theorem d_Mo_outlineOf_316 : decode b_Mo_outlineOf 316 = .ok (.iadd, 1) := by decide +kernel
theorem d_Mo_outlineOf_317 : decode b_Mo_outlineOf 317 = .ok (.iload 6, 2) := by decide +kernel
theorem d_Mo_outlineOf_319 : decode b_Mo_outlineOf 319 = .ok (.irem, 1) := by decide +kernel
theorem d_Mo_outlineOf_320 : decode b_Mo_outlineOf 320 = .ok (.laload, 1) := by decide +kernel
theorem d_Mo_outlineOf_321 : decode b_Mo_outlineOf 321 = .ok (.aload_n 0, 1) := by decide +kernel
theorem d_Mo_outlineOf_322 : decode b_Mo_outlineOf 322 = .ok (.getfield 96, 3) := by decide +kernel
theorem d_Mo_outlineOf_325 : decode b_Mo_outlineOf 325 = .ok (.iload 7, 2) := by decide +kernel
theorem d_Mo_outlineOf_327 : decode b_Mo_outlineOf 327 = .ok (.iconst 1, 1) := by decide +kernel
theorem d_Mo_outlineOf_328 : decode b_Mo_outlineOf 328 = .ok (.iadd, 1) := by decide +kernel
theorem d_Mo_outlineOf_329 : decode b_Mo_outlineOf 329 = .ok (.iload 6, 2) := by decide +kernel
theorem d_Mo_outlineOf_331 : decode b_Mo_outlineOf 331 = .ok (.irem, 1) := by decide +kernel
theorem d_Mo_outlineOf_332 : decode b_Mo_outlineOf 332 = .ok (.laload, 1) := by decide +kernel
theorem d_Mo_outlineOf_333 : decode b_Mo_outlineOf 333 = .ok (.invokevirtual 269, 3) := by decide +kernel
theorem d_Mo_outlineOf_336 : decode b_Mo_outlineOf 336 = .ok (.iinc 7 1, 3) := by decide +kernel
theorem d_Mo_outlineOf_339 : decode b_Mo_outlineOf 339 = .ok (.goto 26, 3) := by decide +kernel
theorem d_Mo_outlineOf_342 : decode b_Mo_outlineOf 342 = .ok (.aload_n 0, 1) := by decide +kernel
theorem d_Mo_outlineOf_343 : decode b_Mo_outlineOf 343 = .ok (.iload 7, 2) := by decide +kernel
theorem d_Mo_outlineOf_345 : decode b_Mo_outlineOf 345 = .ok (.iload 6, 2) := by decide +kernel
theorem d_Mo_outlineOf_347 : decode b_Mo_outlineOf 347 = .ok (.iconst 2, 1) := by decide +kernel
theorem d_Mo_outlineOf_348 : decode b_Mo_outlineOf 348 = .ok (.iload 8, 2) := by decide +kernel
theorem d_Mo_outlineOf_350 : decode b_Mo_outlineOf 350 = .ok (.iadd, 1) := by decide +kernel
theorem d_Mo_outlineOf_351 : decode b_Mo_outlineOf 351 = .ok (.iload 4, 2) := by decide +kernel
theorem d_Mo_outlineOf_353 : decode b_Mo_outlineOf 353 = .ok (.invokevirtual 275, 3) := by decide +kernel
theorem d_Mo_outlineOf_356 : decode b_Mo_outlineOf 356 = .ok (.iload 7, 2) := by decide +kernel
theorem d_Mo_outlineOf_358 : decode b_Mo_outlineOf 358 = .ok (.iconst 1, 1) := by decide +kernel
theorem d_Mo_outlineOf_359 : decode b_Mo_outlineOf 359 = .ok (.iload 8, 2) := by decide +kernel
theorem d_Mo_outlineOf_361 : decode b_Mo_outlineOf 361 = .ok (.iadd, 1) := by decide +kernel
theorem d_Mo_outlineOf_362 : decode b_Mo_outlineOf 362 = .ok (.iadd, 1) := by decide +kernel
theorem d_Mo_outlineOf_363 : decode b_Mo_outlineOf 363 = .ok (.istore 7, 2) := by decide +kernel
theorem d_Mo_outlineOf_365 : decode b_Mo_outlineOf 365 = .ok (.goto (-108), 3) := by decide +kernel
theorem d_Mo_outlineOf_368 : decode b_Mo_outlineOf 368 = .ok (.aload_n 0, 1) := by decide +kernel
theorem d_Mo_outlineOf_369 : decode b_Mo_outlineOf 369 = .ok (.getfield 237, 3) := by decide +kernel
theorem d_Mo_outlineOf_372 : decode b_Mo_outlineOf 372 = .ok (.aload_n 0, 1) := by decide +kernel
theorem d_Mo_outlineOf_373 : decode b_Mo_outlineOf 373 = .ok (.getfield 240, 3) := by decide +kernel
theorem d_Mo_outlineOf_376 : decode b_Mo_outlineOf 376 = .ok (.iconst 1, 1) := by decide +kernel
theorem d_Mo_outlineOf_377 : decode b_Mo_outlineOf 377 = .ok (.iadd, 1) := by decide +kernel
theorem d_Mo_outlineOf_378 : decode b_Mo_outlineOf 378 = .ok (.if_icmp .le 62, 3) := by decide +kernel
theorem d_Mo_outlineOf_381 : decode b_Mo_outlineOf 381 = .ok (.aload_n 0, 1) := by decide +kernel
theorem d_Mo_outlineOf_382 : decode b_Mo_outlineOf 382 = .ok (.getfield 74, 3) := by decide +kernel
theorem d_Mo_outlineOf_385 : decode b_Mo_outlineOf 385 = .ok (.aload_n 0, 1) := by decide +kernel
theorem d_Mo_outlineOf_386 : decode b_Mo_outlineOf 386 = .ok (.getfield 237, 3) := by decide +kernel
theorem d_Mo_outlineOf_389 : decode b_Mo_outlineOf 389 = .ok (.iconst 1, 1) := by decide +kernel
theorem d_Mo_outlineOf_390 : decode b_Mo_outlineOf 390 = .ok (.isub, 1) := by decide +kernel
theorem d_Mo_outlineOf_391 : decode b_Mo_outlineOf 391 = .ok (.iaload, 1) := by decide +kernel
theorem d_Mo_outlineOf_392 : decode b_Mo_outlineOf 392 = .ok (.aload_n 0, 1) := by decide +kernel
theorem d_Mo_outlineOf_393 : decode b_Mo_outlineOf 393 = .ok (.getfield 74, 3) := by decide +kernel
theorem d_Mo_outlineOf_396 : decode b_Mo_outlineOf 396 = .ok (.aload_n 0, 1) := by decide +kernel
theorem d_Mo_outlineOf_397 : decode b_Mo_outlineOf 397 = .ok (.getfield 240, 3) := by decide +kernel
theorem d_Mo_outlineOf_400 : decode b_Mo_outlineOf 400 = .ok (.iaload, 1) := by decide +kernel
theorem d_Mo_outlineOf_401 : decode b_Mo_outlineOf 401 = .ok (.if_icmp .ne 39, 3) := by decide +kernel
theorem d_Mo_outlineOf_404 : decode b_Mo_outlineOf 404 = .ok (.aload_n 0, 1) := by decide +kernel
theorem d_Mo_outlineOf_405 : decode b_Mo_outlineOf 405 = .ok (.getfield 77, 3) := by decide +kernel
theorem d_Mo_outlineOf_408 : decode b_Mo_outlineOf 408 = .ok (.aload_n 0, 1) := by decide +kernel
theorem d_Mo_outlineOf_409 : decode b_Mo_outlineOf 409 = .ok (.getfield 237, 3) := by decide +kernel
theorem d_Mo_outlineOf_412 : decode b_Mo_outlineOf 412 = .ok (.iconst 1, 1) := by decide +kernel
theorem d_Mo_outlineOf_413 : decode b_Mo_outlineOf 413 = .ok (.isub, 1) := by decide +kernel
theorem d_Mo_outlineOf_414 : decode b_Mo_outlineOf 414 = .ok (.iaload, 1) := by decide +kernel
theorem d_Mo_outlineOf_415 : decode b_Mo_outlineOf 415 = .ok (.aload_n 0, 1) := by decide +kernel
theorem d_Mo_outlineOf_416 : decode b_Mo_outlineOf 416 = .ok (.getfield 77, 3) := by decide +kernel
theorem d_Mo_outlineOf_419 : decode b_Mo_outlineOf 419 = .ok (.aload_n 0, 1) := by decide +kernel
theorem d_Mo_outlineOf_420 : decode b_Mo_outlineOf 420 = .ok (.getfield 240, 3) := by decide +kernel
theorem d_Mo_outlineOf_423 : decode b_Mo_outlineOf 423 = .ok (.iaload, 1) := by decide +kernel
theorem d_Mo_outlineOf_424 : decode b_Mo_outlineOf 424 = .ok (.if_icmp .ne 16, 3) := by decide +kernel
theorem d_Mo_outlineOf_427 : decode b_Mo_outlineOf 427 = .ok (.aload_n 0, 1) := by decide +kernel
theorem d_Mo_outlineOf_428 : decode b_Mo_outlineOf 428 = .ok (.dup, 1) := by decide +kernel
theorem d_Mo_outlineOf_429 : decode b_Mo_outlineOf 429 = .ok (.getfield 237, 3) := by decide +kernel
theorem d_Mo_outlineOf_432 : decode b_Mo_outlineOf 432 = .ok (.iconst 1, 1) := by decide +kernel
theorem d_Mo_outlineOf_433 : decode b_Mo_outlineOf 433 = .ok (.isub, 1) := by decide +kernel
theorem d_Mo_outlineOf_434 : decode b_Mo_outlineOf 434 = .ok (.putfield 237, 3) := by decide +kernel
theorem d_Mo_outlineOf_437 : decode b_Mo_outlineOf 437 = .ok (.goto (-69), 3) := by decide +kernel
theorem d_Mo_outlineOf_440 : decode b_Mo_outlineOf 440 = .ok (.aload_n 0, 1) := by decide +kernel
theorem d_Mo_outlineOf_441 : decode b_Mo_outlineOf 441 = .ok (.getfield 237, 3) := by decide +kernel
theorem d_Mo_outlineOf_444 : decode b_Mo_outlineOf 444 = .ok (.aload_n 0, 1) := by decide +kernel
theorem d_Mo_outlineOf_445 : decode b_Mo_outlineOf 445 = .ok (.getfield 240, 3) := by decide +kernel
theorem d_Mo_outlineOf_448 : decode b_Mo_outlineOf 448 = .ok (.iconst 1, 1) := by decide +kernel
theorem d_Mo_outlineOf_449 : decode b_Mo_outlineOf 449 = .ok (.iadd, 1) := by decide +kernel
theorem d_Mo_outlineOf_450 : decode b_Mo_outlineOf 450 = .ok (.if_icmp .gt 14, 3) := by decide +kernel
theorem d_Mo_outlineOf_453 : decode b_Mo_outlineOf 453 = .ok (.aload_n 0, 1) := by decide +kernel
theorem d_Mo_outlineOf_454 : decode b_Mo_outlineOf 454 = .ok (.aload_n 0, 1) := by decide +kernel
theorem d_Mo_outlineOf_455 : decode b_Mo_outlineOf 455 = .ok (.getfield 240, 3) := by decide +kernel
theorem d_Mo_outlineOf_458 : decode b_Mo_outlineOf 458 = .ok (.putfield 237, 3) := by decide +kernel
theorem d_Mo_outlineOf_461 : decode b_Mo_outlineOf 461 = .ok (.goto 13, 3) := by decide +kernel
theorem d_Mo_outlineOf_464 : decode b_Mo_outlineOf 464 = .ok (.aload_n 0, 1) := by decide +kernel
theorem d_Mo_outlineOf_465 : decode b_Mo_outlineOf 465 = .ok (.dup, 1) := by decide +kernel
theorem d_Mo_outlineOf_466 : decode b_Mo_outlineOf 466 = .ok (.getfield 243, 3) := by decide +kernel
theorem d_Mo_outlineOf_469 : decode b_Mo_outlineOf 469 = .ok (.iconst 1, 1) := by decide +kernel
theorem d_Mo_outlineOf_470 : decode b_Mo_outlineOf 470 = .ok (.iadd, 1) := by decide +kernel
theorem d_Mo_outlineOf_471 : decode b_Mo_outlineOf 471 = .ok (.putfield 243, 3) := by decide +kernel
theorem d_Mo_outlineOf_474 : decode b_Mo_outlineOf 474 = .ok (.return_, 1) := by decide +kernel
theorem d_Mo_flattens_0 : decode b_Mo_flattens 0 = .ok (.aload_n 0, 1) := by decide +kernel
theorem d_Mo_flattens_1 : decode b_Mo_flattens 1 = .ok (.iconst 0, 1) := by decide +kernel
theorem d_Mo_flattens_2 : decode b_Mo_flattens 2 = .ok (.putfield 237, 3) := by decide +kernel
theorem d_Mo_flattens_5 : decode b_Mo_flattens 5 = .ok (.aload_n 0, 1) := by decide +kernel
theorem d_Mo_flattens_6 : decode b_Mo_flattens 6 = .ok (.iconst 0, 1) := by decide +kernel
theorem d_Mo_flattens_7 : decode b_Mo_flattens 7 = .ok (.putfield 243, 3) := by decide +kernel
theorem d_Mo_flattens_10 : decode b_Mo_flattens 10 = .ok (.aload_n 0, 1) := by decide +kernel
theorem d_Mo_flattens_11 : decode b_Mo_flattens 11 = .ok (.iconst 0, 1) := by decide +kernel
theorem d_Mo_flattens_12 : decode b_Mo_flattens 12 = .ok (.putfield 226, 3) := by decide +kernel
theorem d_Mo_flattens_15 : decode b_Mo_flattens 15 = .ok (.aload_n 0, 1) := by decide +kernel
theorem d_Mo_flattens_16 : decode b_Mo_flattens 16 = .ok (.iconst 1, 1) := by decide +kernel
theorem d_Mo_flattens_17 : decode b_Mo_flattens 17 = .ok (.putfield 233, 3) := by decide +kernel
theorem d_Mo_flattens_20 : decode b_Mo_flattens 20 = .ok (.iconst 0, 1) := by decide +kernel
theorem d_Mo_flattens_21 : decode b_Mo_flattens 21 = .ok (.istore_n 3, 1) := by decide +kernel
theorem d_Mo_flattens_22 : decode b_Mo_flattens 22 = .ok (.aload_n 0, 1) := by decide +kernel
theorem d_Mo_flattens_23 : decode b_Mo_flattens 23 = .ok (.getfield 68, 3) := by decide +kernel
theorem d_Mo_flattens_26 : decode b_Mo_flattens 26 = .ok (.iconst 0, 1) := by decide +kernel
theorem d_Mo_flattens_27 : decode b_Mo_flattens 27 = .ok (.iload_n 1, 1) := by decide +kernel
theorem d_Mo_flattens_28 : decode b_Mo_flattens 28 = .ok (.iastore, 1) := by decide +kernel
theorem d_Mo_flattens_29 : decode b_Mo_flattens 29 = .ok (.aload_n 0, 1) := by decide +kernel
theorem d_Mo_flattens_30 : decode b_Mo_flattens 30 = .ok (.getfield 71, 3) := by decide +kernel
theorem d_Mo_flattens_33 : decode b_Mo_flattens 33 = .ok (.iconst 0, 1) := by decide +kernel
theorem d_Mo_flattens_34 : decode b_Mo_flattens 34 = .ok (.iconst 0, 1) := by decide +kernel
theorem d_Mo_flattens_35 : decode b_Mo_flattens 35 = .ok (.iastore, 1) := by decide +kernel
theorem d_Mo_flattens_36 : decode b_Mo_flattens 36 = .ok (.iload_n 3, 1) := by decide +kernel
theorem d_Mo_flattens_37 : decode b_Mo_flattens 37 = .ok (.ifCond .lt 138, 3) := by decide +kernel
theorem d_Mo_flattens_40 : decode b_Mo_flattens 40 = .ok (.aload_n 0, 1) := by decide +kernel
theorem d_Mo_flattens_41 : decode b_Mo_flattens 41 = .ok (.getfield 233, 3) := by decide +kernel
theorem d_Mo_flattens_44 : decode b_Mo_flattens 44 = .ok (.ifCond .eq 131, 3) := by decide +kernel
theorem d_Mo_flattens_47 : decode b_Mo_flattens 47 = .ok (.aload_n 0, 1) := by decide +kernel
theorem d_Mo_flattens_48 : decode b_Mo_flattens 48 = .ok (.getfield 68, 3) := by decide +kernel
theorem d_Mo_flattens_51 : decode b_Mo_flattens 51 = .ok (.iload_n 3, 1) := by decide +kernel
theorem d_Mo_flattens_52 : decode b_Mo_flattens 52 = .ok (.iaload, 1) := by decide +kernel
theorem d_Mo_flattens_53 : decode b_Mo_flattens 53 = .ok (.istore 4, 2) := by decide +kernel
theorem d_Mo_flattens_55 : decode b_Mo_flattens 55 = .ok (.aload_n 0, 1) := by decide +kernel
theorem d_Mo_flattens_56 : decode b_Mo_flattens 56 = .ok (.getfield 44, 3) := by decide +kernel
theorem d_Mo_flattens_59 : decode b_Mo_flattens 59 = .ok (.iload 4, 2) := by decide +kernel
theorem d_Mo_flattens_61 : decode b_Mo_flattens 61 = .ok (.iaload, 1) := by decide +kernel
theorem d_Mo_flattens_62 : decode b_Mo_flattens 62 = .ok (.ifCond .ne 41, 3) := by decide +kernel
theorem d_Mo_flattens_65 : decode b_Mo_flattens 65 = .ok (.iconst 0, 1) := by decide +kernel
theorem d_Mo_flattens_66 : decode b_Mo_flattens 66 = .ok (.istore 5, 2) := by decide +kernel
theorem d_Mo_flattens_68 : decode b_Mo_flattens 68 = .ok (.iload 5, 2) := by decide +kernel
theorem d_Mo_flattens_70 : decode b_Mo_flattens 70 = .ok (.aload_n 0, 1) := by decide +kernel
theorem d_Mo_flattens_71 : decode b_Mo_flattens 71 = .ok (.getfield 16, 3) := by decide +kernel
theorem d_Mo_flattens_74 : decode b_Mo_flattens 74 = .ok (.iload 4, 2) := by decide +kernel
theorem d_Mo_flattens_76 : decode b_Mo_flattens 76 = .ok (.iaload, 1) := by decide +kernel
theorem d_Mo_flattens_77 : decode b_Mo_flattens 77 = .ok (.if_icmp .ge 26, 3) := by decide +kernel
theorem d_Mo_flattens_80 : decode b_Mo_flattens 80 = .ok (.aload_n 0, 1) := by decide +kernel
theorem d_Mo_flattens_81 : decode b_Mo_flattens 81 = .ok (.getfield 233, 3) := by decide +kernel
theorem d_Mo_flattens_84 : decode b_Mo_flattens 84 = .ok (.ifCond .eq 19, 3) := by decide +kernel
theorem d_Mo_flattens_87 : decode b_Mo_flattens 87 = .ok (.aload_n 0, 1) := by decide +kernel
theorem d_Mo_flattens_88 : decode b_Mo_flattens 88 = .ok (.iload 4, 2) := by decide +kernel
theorem d_Mo_flattens_90 : decode b_Mo_flattens 90 = .ok (.iload 5, 2) := by decide +kernel
theorem d_Mo_flattens_92 : decode b_Mo_flattens 92 = .ok (.iload_n 3, 1) := by decide +kernel
theorem d_Mo_flattens_93 : decode b_Mo_flattens 93 = .ok (.iload_n 2, 1) := by decide +kernel
theorem d_Mo_flattens_94 : decode b_Mo_flattens 94 = .ok (.invokevirtual 279, 3) := by decide +kernel
theorem d_Mo_flattens_97 : decode b_Mo_flattens 97 = .ok (.iinc 5 1, 3) := by decide +kernel
theorem d_Mo_flattens_100 : decode b_Mo_flattens 100 = .ok (.goto (-32), 3) := by decide +kernel
theorem d_Mo_flattens_103 : decode b_Mo_flattens 103 = .ok (.aload_n 0, 1) := by decide +kernel
theorem d_Mo_flattens_104 : decode b_Mo_flattens 104 = .ok (.getfield 71, 3) := by decide +kernel
theorem d_Mo_flattens_107 : decode b_Mo_flattens 107 = .ok (.iload_n 3, 1) := by decide +kernel
theorem d_Mo_flattens_108 : decode b_Mo_flattens 108 = .ok (.iaload, 1) := by decide +kernel
theorem d_Mo_flattens_109 : decode b_Mo_flattens 109 = .ok (.aload_n 0, 1) := by decide +kernel
theorem d_Mo_flattens_110 : decode b_Mo_flattens 110 = .ok (.getfield 44, 3) := by decide +kernel
theorem d_Mo_flattens_113 : decode b_Mo_flattens 113 = .ok (.iload 4, 2) := by decide +kernel
theorem d_Mo_flattens_115 : decode b_Mo_flattens 115 = .ok (.iaload, 1) := by decide +kernel
theorem d_Mo_flattens_116 : decode b_Mo_flattens 116 = .ok (.if_icmp .ne 9, 3) := by decide +kernel
theorem d_Mo_flattens_119 : decode b_Mo_flattens 119 = .ok (.iinc 3 (-1), 3) := by decide +kernel
theorem d_Mo_flattens_122 : decode b_Mo_flattens 122 = .ok (.goto (-86), 3) := by decide +kernel
theorem d_Mo_flattens_125 : decode b_Mo_flattens 125 = .ok (.aload_n 0, 1) := by decide +kernel
theorem d_Mo_flattens_126 : decode b_Mo_flattens 126 = .ok (.getfield 47, 3) := by decide +kernel
theorem d_Mo_flattens_129 : decode b_Mo_flattens 129 = .ok (.bipush 6, 2) := by decide +kernel
theorem d_Mo_flattens_131 : decode b_Mo_flattens 131 = .ok (.iload 4, 2) := by decide +kernel
theorem d_Mo_flattens_133 : decode b_Mo_flattens 133 = .ok (.imul, 1) := by decide +kernel
theorem d_Mo_flattens_134 : decode b_Mo_flattens 134 = .ok (.aload_n 0, 1) := by decide +kernel
theorem d_Mo_flattens_135 : decode b_Mo_flattens 135 = .ok (.getfield 71, 3) := by decide +kernel
theorem d_Mo_flattens_138 : decode b_Mo_flattens 138 = .ok (.iload_n 3, 1) := by decide +kernel
theorem d_Mo_flattens_139 : decode b_Mo_flattens 139 = .ok (.iaload, 1) := by decide +kernel
theorem d_Mo_flattens_140 : decode b_Mo_flattens 140 = .ok (.iadd, 1) := by decide +kernel
theorem d_Mo_flattens_141 : decode b_Mo_flattens 141 = .ok (.iaload, 1) := by decide +kernel
theorem d_Mo_flattens_142 : decode b_Mo_flattens 142 = .ok (.istore 5, 2) := by decide +kernel
theorem d_Mo_flattens_144 : decode b_Mo_flattens 144 = .ok (.aload_n 0, 1) := by decide +kernel
theorem d_Mo_flattens_145 : decode b_Mo_flattens 145 = .ok (.getfield 71, 3) := by decide +kernel
theorem d_Mo_flattens_148 : decode b_Mo_flattens 148 = .ok (.iload_n 3, 1) := by decide +kernel
theorem d_Mo_flattens_149 : decode b_Mo_flattens 149 = .ok (.dup2, 1) := by decide +kernel
theorem d_Mo_flattens_150 : decode b_Mo_flattens 150 = .ok (.iaload, 1) := by decide +kernel
theorem d_Mo_flattens_151 : decode b_Mo_flattens 151 = .ok (.iconst 1, 1) := by decide +kernel
theorem d_Mo_flattens_152 : decode b_Mo_flattens 152 = .ok (.iadd, 1) := by decide +kernel
theorem d_Mo_flattens_153 : decode b_Mo_flattens 153 = .ok (.iastore, 1) := by decide +kernel
theorem d_Mo_flattens_154 : decode b_Mo_flattens 154 = .ok (.iinc 3 1, 3) := by decide +kernel
theorem d_Mo_flattens_157 : decode b_Mo_flattens 157 = .ok (.aload_n 0, 1) := by decide +kernel
theorem d_Mo_flattens_158 : decode b_Mo_flattens 158 = .ok (.getfield 68, 3) := by decide +kernel
theorem d_Mo_flattens_161 : decode b_Mo_flattens 161 = .ok (.iload_n 3, 1) := by decide +kernel
theorem d_Mo_flattens_162 : decode b_Mo_flattens 162 = .ok (.iload 5, 2) := by decide +kernel
theorem d_Mo_flattens_164 : decode b_Mo_flattens 164 = .ok (.iastore, 1) := by decide +kernel
theorem d_Mo_flattens_165 : decode b_Mo_flattens 165 = .ok (.aload_n 0, 1) := by decide +kernel
theorem d_Mo_flattens_166 : decode b_Mo_flattens 166 = .ok (.getfield 71, 3) := by decide +kernel
theorem d_Mo_flattens_169 : decode b_Mo_flattens 169 = .ok (.iload_n 3, 1) := by decide +kernel
theorem d_Mo_flattens_170 : decode b_Mo_flattens 170 = .ok (.iconst 0, 1) := by decide +kernel
theorem d_Mo_flattens_171 : decode b_Mo_flattens 171 = .ok (.iastore, 1) := by decide +kernel
theorem d_Mo_flattens_172 : decode b_Mo_flattens 172 = .ok (.goto (-136), 3) := by decide +kernel
theorem d_Mo_flattens_175 : decode b_Mo_flattens 175 = .ok (.aload_n 0, 1) := by decide +kernel
theorem d_Mo_flattens_176 : decode b_Mo_flattens 176 = .ok (.getfield 233, 3) := by decide +kernel
theorem d_Mo_flattens_179 : decode b_Mo_flattens 179 = .ok (.ireturn, 1) := by decide +kernel
theorem d_Mo_told_0 : decode b_Mo_told 0 = .ok (.aload_n 0, 1) := by decide +kernel
theorem d_Mo_told_1 : decode b_Mo_told 1 = .ok (.aload_n 0, 1) := by decide +kernel
theorem d_Mo_told_2 : decode b_Mo_told 2 = .ok (.getfield 237, 3) := by decide +kernel
theorem d_Mo_told_5 : decode b_Mo_told 5 = .ok (.putfield 282, 3) := by decide +kernel
theorem d_Mo_told_8 : decode b_Mo_told 8 = .ok (.iconst 0, 1) := by decide +kernel
theorem d_Mo_told_9 : decode b_Mo_told 9 = .ok (.istore_n 1, 1) := by decide +kernel
theorem d_Mo_told_10 : decode b_Mo_told 10 = .ok (.iload_n 1, 1) := by decide +kernel
theorem d_Mo_told_11 : decode b_Mo_told 11 = .ok (.aload_n 0, 1) := by decide +kernel
theorem d_Mo_told_12 : decode b_Mo_told 12 = .ok (.getfield 237, 3) := by decide +kernel
theorem d_Mo_told_15 : decode b_Mo_told 15 = .ok (.if_icmp .ge 45, 3) := by decide +kernel
theorem d_Mo_told_18 : decode b_Mo_told 18 = .ok (.aload_n 0, 1) := by decide +kernel
theorem d_Mo_told_19 : decode b_Mo_told 19 = .ok (.getfield 83, 3) := by decide +kernel
theorem d_Mo_told_22 : decode b_Mo_told 22 = .ok (.iload_n 1, 1) := by decide +kernel
theorem d_Mo_told_23 : decode b_Mo_told 23 = .ok (.aload_n 0, 1) := by decide +kernel
theorem d_Mo_told_24 : decode b_Mo_told 24 = .ok (.getfield 74, 3) := by decide +kernel
theorem d_Mo_told_27 : decode b_Mo_told 27 = .ok (.iload_n 1, 1) := by decide +kernel
theorem d_Mo_told_28 : decode b_Mo_told 28 = .ok (.iaload, 1) := by decide +kernel
theorem d_Mo_told_29 : decode b_Mo_told 29 = .ok (.iastore, 1) := by decide +kernel
theorem d_Mo_told_30 : decode b_Mo_told 30 = .ok (.aload_n 0, 1) := by decide +kernel
theorem d_Mo_told_31 : decode b_Mo_told 31 = .ok (.getfield 86, 3) := by decide +kernel
theorem d_Mo_told_34 : decode b_Mo_told 34 = .ok (.iload_n 1, 1) := by decide +kernel
theorem d_Mo_told_35 : decode b_Mo_told 35 = .ok (.aload_n 0, 1) := by decide +kernel
theorem d_Mo_told_36 : decode b_Mo_told 36 = .ok (.getfield 77, 3) := by decide +kernel
theorem d_Mo_told_39 : decode b_Mo_told 39 = .ok (.iload_n 1, 1) := by decide +kernel
theorem d_Mo_told_40 : decode b_Mo_told 40 = .ok (.iaload, 1) := by decide +kernel
theorem d_Mo_told_41 : decode b_Mo_told 41 = .ok (.iastore, 1) := by decide +kernel
theorem d_Mo_told_42 : decode b_Mo_told 42 = .ok (.aload_n 0, 1) := by decide +kernel
theorem d_Mo_told_43 : decode b_Mo_told 43 = .ok (.getfield 89, 3) := by decide +kernel
theorem d_Mo_told_46 : decode b_Mo_told 46 = .ok (.iload_n 1, 1) := by decide +kernel
theorem d_Mo_told_47 : decode b_Mo_told 47 = .ok (.aload_n 0, 1) := by decide +kernel
theorem d_Mo_told_48 : decode b_Mo_told 48 = .ok (.getfield 80, 3) := by decide +kernel
theorem d_Mo_told_51 : decode b_Mo_told 51 = .ok (.iload_n 1, 1) := by decide +kernel
theorem d_Mo_told_52 : decode b_Mo_told 52 = .ok (.iaload, 1) := by decide +kernel
theorem d_Mo_told_53 : decode b_Mo_told 53 = .ok (.iastore, 1) := by decide +kernel
theorem d_Mo_told_54 : decode b_Mo_told 54 = .ok (.iinc 1 1, 3) := by decide +kernel
theorem d_Mo_told_57 : decode b_Mo_told 57 = .ok (.goto (-47), 3) := by decide +kernel
theorem d_Mo_told_60 : decode b_Mo_told 60 = .ok (.return_, 1) := by decide +kernel
theorem d_Mo_flatten_0 : decode b_Mo_flatten 0 = .ok (.aload_n 0, 1) := by decide +kernel
theorem d_Mo_flatten_1 : decode b_Mo_flatten 1 = .ok (.iload_n 1, 1) := by decide +kernel
theorem d_Mo_flatten_2 : decode b_Mo_flatten 2 = .ok (.invokevirtual 192, 3) := by decide +kernel
theorem d_Mo_flatten_5 : decode b_Mo_flatten 5 = .ok (.ifCond .eq 24, 3) := by decide +kernel
theorem d_Mo_flatten_8 : decode b_Mo_flatten 8 = .ok (.iload_n 2, 1) := by decide +kernel
theorem d_Mo_flatten_9 : decode b_Mo_flatten 9 = .ok (.iconst 1, 1) := by decide +kernel
theorem d_Mo_flatten_10 : decode b_Mo_flatten 10 = .ok (.if_icmp .lt 19, 3) := by decide +kernel
theorem d_Mo_flatten_13 : decode b_Mo_flatten 13 = .ok (.iload_n 2, 1) := by decide +kernel
theorem d_Mo_flatten_14 : decode b_Mo_flatten 14 = .ok (.sipush 256, 3) := by decide +kernel
theorem d_Mo_flatten_17 : decode b_Mo_flatten 17 = .ok (.if_icmp .gt 12, 3) := by decide +kernel
theorem d_Mo_flatten_20 : decode b_Mo_flatten 20 = .ok (.aload_n 0, 1) := by decide +kernel
theorem d_Mo_flatten_21 : decode b_Mo_flatten 21 = .ok (.iload_n 1, 1) := by decide +kernel
theorem d_Mo_flatten_22 : decode b_Mo_flatten 22 = .ok (.iload_n 2, 1) := by decide +kernel
theorem d_Mo_flatten_23 : decode b_Mo_flatten 23 = .ok (.invokevirtual 285, 3) := by decide +kernel
theorem d_Mo_flatten_26 : decode b_Mo_flatten 26 = .ok (.ifCond .ne 5, 3) := by decide +kernel
theorem d_Mo_flatten_29 : decode b_Mo_flatten 29 = .ok (.iconst (-1), 1) := by decide +kernel
theorem d_Mo_flatten_30 : decode b_Mo_flatten 30 = .ok (.ireturn, 1) := by decide +kernel
theorem d_Mo_flatten_31 : decode b_Mo_flatten 31 = .ok (.aload_n 0, 1) := by decide +kernel
theorem d_Mo_flatten_32 : decode b_Mo_flatten 32 = .ok (.invokevirtual 288, 3) := by decide +kernel
theorem d_Mo_flatten_35 : decode b_Mo_flatten 35 = .ok (.aload_n 0, 1) := by decide +kernel
theorem d_Mo_flatten_36 : decode b_Mo_flatten 36 = .ok (.getfield 282, 3) := by decide +kernel
theorem d_Mo_flatten_39 : decode b_Mo_flatten 39 = .ok (.ireturn, 1) := by decide +kernel
theorem d_Mo_flat_0 : decode b_Mo_flat 0 = .ok (.iload_n 1, 1) := by decide +kernel
theorem d_Mo_flat_1 : decode b_Mo_flat 1 = .ok (.ifCond .lt 11, 3) := by decide +kernel
theorem d_Mo_flat_4 : decode b_Mo_flat 4 = .ok (.iload_n 1, 1) := by decide +kernel
theorem d_Mo_flat_5 : decode b_Mo_flat 5 = .ok (.aload_n 0, 1) := by decide +kernel
theorem d_Mo_flat_6 : decode b_Mo_flat 6 = .ok (.getfield 282, 3) := by decide +kernel
theorem d_Mo_flat_9 : decode b_Mo_flat 9 = .ok (.if_icmp .lt 7, 3) := by decide +kernel
theorem d_Mo_flat_12 : decode b_Mo_flat 12 = .ok (.ldc_w 291, 3) := by decide +kernel
theorem d_Mo_flat_15 : decode b_Mo_flat 15 = .ok (.ireturn, 1) := by decide +kernel
theorem d_Mo_flat_16 : decode b_Mo_flat 16 = .ok (.iload_n 2, 1) := by decide +kernel
theorem d_Mo_flat_17 : decode b_Mo_flat 17 = .ok (.ifCond .ne 12, 3) := by decide +kernel
theorem d_Mo_flat_20 : decode b_Mo_flat 20 = .ok (.aload_n 0, 1) := by decide +kernel
theorem d_Mo_flat_21 : decode b_Mo_flat 21 = .ok (.getfield 89, 3) := by decide +kernel
theorem d_Mo_flat_24 : decode b_Mo_flat 24 = .ok (.iload_n 1, 1) := by decide +kernel
theorem d_Mo_flat_25 : decode b_Mo_flat 25 = .ok (.iaload, 1) := by decide +kernel
theorem d_Mo_flat_26 : decode b_Mo_flat 26 = .ok (.goto 34, 3) := by decide +kernel
theorem d_Mo_flat_29 : decode b_Mo_flat 29 = .ok (.iload_n 2, 1) := by decide +kernel
theorem d_Mo_flat_30 : decode b_Mo_flat 30 = .ok (.iconst 1, 1) := by decide +kernel
theorem d_Mo_flat_31 : decode b_Mo_flat 31 = .ok (.if_icmp .ne 12, 3) := by decide +kernel
theorem d_Mo_flat_34 : decode b_Mo_flat 34 = .ok (.aload_n 0, 1) := by decide +kernel
theorem d_Mo_flat_35 : decode b_Mo_flat 35 = .ok (.getfield 83, 3) := by decide +kernel
theorem d_Mo_flat_38 : decode b_Mo_flat 38 = .ok (.iload_n 1, 1) := by decide +kernel
theorem d_Mo_flat_39 : decode b_Mo_flat 39 = .ok (.iaload, 1) := by decide +kernel
theorem d_Mo_flat_40 : decode b_Mo_flat 40 = .ok (.goto 20, 3) := by decide +kernel
theorem d_Mo_flat_43 : decode b_Mo_flat 43 = .ok (.iload_n 2, 1) := by decide +kernel
theorem d_Mo_flat_44 : decode b_Mo_flat 44 = .ok (.iconst 2, 1) := by decide +kernel
theorem d_Mo_flat_45 : decode b_Mo_flat 45 = .ok (.if_icmp .ne 12, 3) := by decide +kernel
theorem d_Mo_flat_48 : decode b_Mo_flat 48 = .ok (.aload_n 0, 1) := by decide +kernel
theorem d_Mo_flat_49 : decode b_Mo_flat 49 = .ok (.getfield 86, 3) := by decide +kernel
theorem d_Mo_flat_52 : decode b_Mo_flat 52 = .ok (.iload_n 1, 1) := by decide +kernel
theorem d_Mo_flat_53 : decode b_Mo_flat 53 = .ok (.iaload, 1) := by decide +kernel
theorem d_Mo_flat_54 : decode b_Mo_flat 54 = .ok (.goto 6, 3) := by decide +kernel
theorem d_Mo_flat_57 : decode b_Mo_flat 57 = .ok (.ldc_w 291, 3) := by decide +kernel
theorem d_Mo_flat_60 : decode b_Mo_flat 60 = .ok (.ireturn, 1) := by decide +kernel
theorem d_Mo_next_0 : decode b_Mo_next 0 = .ok (.iload_n 1, 1) := by decide +kernel
theorem d_Mo_next_1 : decode b_Mo_next 1 = .ok (.iconst 1, 1) := by decide +kernel
theorem d_Mo_next_2 : decode b_Mo_next 2 = .ok (.iadd, 1) := by decide +kernel
theorem d_Mo_next_3 : decode b_Mo_next 3 = .ok (.aload_n 0, 1) := by decide +kernel
theorem d_Mo_next_4 : decode b_Mo_next 4 = .ok (.getfield 282, 3) := by decide +kernel
theorem d_Mo_next_7 : decode b_Mo_next 7 = .ok (.if_icmp .ge 24, 3) := by decide +kernel
theorem d_Mo_next_10 : decode b_Mo_next 10 = .ok (.aload_n 0, 1) := by decide +kernel
theorem d_Mo_next_11 : decode b_Mo_next 11 = .ok (.getfield 89, 3) := by decide +kernel
theorem d_Mo_next_14 : decode b_Mo_next 14 = .ok (.iload_n 1, 1) := by decide +kernel
theorem d_Mo_next_15 : decode b_Mo_next 15 = .ok (.iconst 1, 1) := by decide +kernel
theorem d_Mo_next_16 : decode b_Mo_next 16 = .ok (.iadd, 1) := by decide +kernel
theorem d_Mo_next_17 : decode b_Mo_next 17 = .ok (.iaload, 1) := by decide +kernel
theorem d_Mo_next_18 : decode b_Mo_next 18 = .ok (.aload_n 0, 1) := by decide +kernel
theorem d_Mo_next_19 : decode b_Mo_next 19 = .ok (.getfield 89, 3) := by decide +kernel
theorem d_Mo_next_22 : decode b_Mo_next 22 = .ok (.iload_n 1, 1) := by decide +kernel
theorem d_Mo_next_23 : decode b_Mo_next 23 = .ok (.iaload, 1) := by decide +kernel
theorem d_Mo_next_24 : decode b_Mo_next 24 = .ok (.if_icmp .ne 7, 3) := by decide +kernel
theorem d_Mo_next_27 : decode b_Mo_next 27 = .ok (.iload_n 1, 1) := by decide +kernel
theorem d_Mo_next_28 : decode b_Mo_next 28 = .ok (.iconst 1, 1) := by decide +kernel
theorem d_Mo_next_29 : decode b_Mo_next 29 = .ok (.iadd, 1) := by decide +kernel
theorem d_Mo_next_30 : decode b_Mo_next 30 = .ok (.ireturn, 1) := by decide +kernel
theorem d_Mo_next_31 : decode b_Mo_next 31 = .ok (.iload_n 1, 1) := by decide +kernel
theorem d_Mo_next_32 : decode b_Mo_next 32 = .ok (.istore_n 2, 1) := by decide +kernel
theorem d_Mo_next_33 : decode b_Mo_next 33 = .ok (.iload_n 2, 1) := by decide +kernel
theorem d_Mo_next_34 : decode b_Mo_next 34 = .ok (.ifCond .le 26, 3) := by decide +kernel
theorem d_Mo_next_37 : decode b_Mo_next 37 = .ok (.aload_n 0, 1) := by decide +kernel
theorem d_Mo_next_38 : decode b_Mo_next 38 = .ok (.getfield 89, 3) := by decide +kernel
theorem d_Mo_next_41 : decode b_Mo_next 41 = .ok (.iload_n 2, 1) := by decide +kernel
theorem d_Mo_next_42 : decode b_Mo_next 42 = .ok (.iconst 1, 1) := by decide +kernel
theorem d_Mo_next_43 : decode b_Mo_next 43 = .ok (.isub, 1) := by decide +kernel
theorem d_Mo_next_44 : decode b_Mo_next 44 = .ok (.iaload, 1) := by decide +kernel
theorem d_Mo_next_45 : decode b_Mo_next 45 = .ok (.aload_n 0, 1) := by decide +kernel
theorem d_Mo_next_46 : decode b_Mo_next 46 = .ok (.getfield 89, 3) := by decide +kernel
theorem d_Mo_next_49 : decode b_Mo_next 49 = .ok (.iload_n 1, 1) := by decide +kernel
theorem d_Mo_next_50 : decode b_Mo_next 50 = .ok (.iaload, 1) := by decide +kernel
theorem d_Mo_next_51 : decode b_Mo_next 51 = .ok (.if_icmp .ne 9, 3) := by decide +kernel
theorem d_Mo_next_54 : decode b_Mo_next 54 = .ok (.iinc 2 (-1), 3) := by decide +kernel
theorem d_Mo_next_57 : decode b_Mo_next 57 = .ok (.goto (-24), 3) := by decide +kernel
theorem d_Mo_next_60 : decode b_Mo_next 60 = .ok (.iload_n 2, 1) := by decide +kernel
theorem d_Mo_next_61 : decode b_Mo_next 61 = .ok (.ireturn, 1) := by decide +kernel
theorem d_Mo_area_0 : decode b_Mo_area 0 = .ok (.lconst 0, 1) := by decide +kernel
theorem d_Mo_area_1 : decode b_Mo_area 1 = .ok (.lstore_n 1, 1) := by decide +kernel
theorem d_Mo_area_2 : decode b_Mo_area 2 = .ok (.iconst 0, 1) := by decide +kernel
theorem d_Mo_area_3 : decode b_Mo_area 3 = .ok (.istore_n 3, 1) := by decide +kernel
theorem d_Mo_area_4 : decode b_Mo_area 4 = .ok (.iload_n 3, 1) := by decide +kernel
theorem d_Mo_area_5 : decode b_Mo_area 5 = .ok (.aload_n 0, 1) := by decide +kernel
theorem d_Mo_area_6 : decode b_Mo_area 6 = .ok (.getfield 282, 3) := by decide +kernel
theorem d_Mo_area_9 : decode b_Mo_area 9 = .ok (.if_icmp .ge 52, 3) := by decide +kernel
theorem d_Mo_area_12 : decode b_Mo_area 12 = .ok (.aload_n 0, 1) := by decide +kernel
theorem d_Mo_area_13 : decode b_Mo_area 13 = .ok (.iload_n 3, 1) := by decide +kernel
theorem d_Mo_area_14 : decode b_Mo_area 14 = .ok (.invokevirtual 292, 3) := by decide +kernel
theorem d_Mo_area_17 : decode b_Mo_area 17 = .ok (.istore 4, 2) := by decide +kernel
theorem d_Mo_area_19 : decode b_Mo_area 19 = .ok (.lload_n 1, 1) := by decide +kernel
theorem d_Mo_area_20 : decode b_Mo_area 20 = .ok (.aload_n 0, 1) := by decide +kernel
theorem d_Mo_area_21 : decode b_Mo_area 21 = .ok (.getfield 83, 3) := by decide +kernel
theorem d_Mo_area_24 : decode b_Mo_area 24 = .ok (.iload_n 3, 1) := by decide +kernel
theorem d_Mo_area_25 : decode b_Mo_area 25 = .ok (.iaload, 1) := by decide +kernel
theorem d_Mo_area_26 : decode b_Mo_area 26 = .ok (.i2l, 1) := by decide +kernel
theorem d_Mo_area_27 : decode b_Mo_area 27 = .ok (.aload_n 0, 1) := by decide +kernel
theorem d_Mo_area_28 : decode b_Mo_area 28 = .ok (.getfield 86, 3) := by decide +kernel
theorem d_Mo_area_31 : decode b_Mo_area 31 = .ok (.iload 4, 2) := by decide +kernel
theorem d_Mo_area_33 : decode b_Mo_area 33 = .ok (.iaload, 1) := by decide +kernel
theorem d_Mo_area_34 : decode b_Mo_area 34 = .ok (.i2l, 1) := by decide +kernel
theorem d_Mo_area_35 : decode b_Mo_area 35 = .ok (.lmul, 1) := by decide +kernel
theorem d_Mo_area_36 : decode b_Mo_area 36 = .ok (.aload_n 0, 1) := by decide +kernel
theorem d_Mo_area_37 : decode b_Mo_area 37 = .ok (.getfield 83, 3) := by decide +kernel
theorem d_Mo_area_40 : decode b_Mo_area 40 = .ok (.iload 4, 2) := by decide +kernel
theorem d_Mo_area_42 : decode b_Mo_area 42 = .ok (.iaload, 1) := by decide +kernel
theorem d_Mo_area_43 : decode b_Mo_area 43 = .ok (.i2l, 1) := by decide +kernel
theorem d_Mo_area_44 : decode b_Mo_area 44 = .ok (.aload_n 0, 1) := by decide +kernel
theorem d_Mo_area_45 : decode b_Mo_area 45 = .ok (.getfield 86, 3) := by decide +kernel
theorem d_Mo_area_48 : decode b_Mo_area 48 = .ok (.iload_n 3, 1) := by decide +kernel
theorem d_Mo_area_49 : decode b_Mo_area 49 = .ok (.iaload, 1) := by decide +kernel
theorem d_Mo_area_50 : decode b_Mo_area 50 = .ok (.i2l, 1) := by decide +kernel
theorem d_Mo_area_51 : decode b_Mo_area 51 = .ok (.lmul, 1) := by decide +kernel
theorem d_Mo_area_52 : decode b_Mo_area 52 = .ok (.lsub, 1) := by decide +kernel
theorem d_Mo_area_53 : decode b_Mo_area 53 = .ok (.ladd, 1) := by decide +kernel
theorem d_Mo_area_54 : decode b_Mo_area 54 = .ok (.lstore_n 1, 1) := by decide +kernel
theorem d_Mo_area_55 : decode b_Mo_area 55 = .ok (.iinc 3 1, 3) := by decide +kernel
theorem d_Mo_area_58 : decode b_Mo_area 58 = .ok (.goto (-54), 3) := by decide +kernel
theorem d_Mo_area_61 : decode b_Mo_area 61 = .ok (.lload_n 1, 1) := by decide +kernel
theorem d_Mo_area_62 : decode b_Mo_area 62 = .ok (.lreturn, 1) := by decide +kernel
theorem d_Mo_winding_0 : decode b_Mo_winding 0 = .ok (.iload_n 1, 1) := by decide +kernel
theorem d_Mo_winding_1 : decode b_Mo_winding 1 = .ok (.ldc_w 295, 3) := by decide +kernel
theorem d_Mo_winding_4 : decode b_Mo_winding 4 = .ok (.if_icmp .lt 24, 3) := by decide +kernel
theorem d_Mo_winding_7 : decode b_Mo_winding 7 = .ok (.iload_n 1, 1) := by decide +kernel
theorem d_Mo_winding_8 : decode b_Mo_winding 8 = .ok (.ldc_w 296, 3) := by decide +kernel
theorem d_Mo_winding_11 : decode b_Mo_winding 11 = .ok (.if_icmp .gt 17, 3) := by decide +kernel
theorem d_Mo_winding_14 : decode b_Mo_winding 14 = .ok (.iload_n 2, 1) := by decide +kernel
theorem d_Mo_winding_15 : decode b_Mo_winding 15 = .ok (.ldc_w 295, 3) := by decide +kernel
theorem d_Mo_winding_18 : decode b_Mo_winding 18 = .ok (.if_icmp .lt 10, 3) := by decide +kernel
theorem d_Mo_winding_21 : decode b_Mo_winding 21 = .ok (.iload_n 2, 1) := by decide +kernel
theorem d_Mo_winding_22 : decode b_Mo_winding 22 = .ok (.ldc_w 296, 3) := by decide +kernel
theorem d_Mo_winding_25 : decode b_Mo_winding 25 = .ok (.if_icmp .le 5, 3) := by decide +kernel
theorem d_Mo_winding_28 : decode b_Mo_winding 28 = .ok (.iconst 0, 1) := by decide +kernel
theorem d_Mo_winding_29 : decode b_Mo_winding 29 = .ok (.ireturn, 1) := by decide +kernel
theorem d_Mo_winding_30 : decode b_Mo_winding 30 = .ok (.iconst 0, 1) := by decide +kernel
theorem d_Mo_winding_31 : decode b_Mo_winding 31 = .ok (.istore_n 3, 1) := by decide +kernel
theorem d_Mo_winding_32 : decode b_Mo_winding 32 = .ok (.iconst 0, 1) := by decide +kernel
theorem d_Mo_winding_33 : decode b_Mo_winding 33 = .ok (.istore 4, 2) := by decide +kernel
theorem d_Mo_winding_35 : decode b_Mo_winding 35 = .ok (.iload 4, 2) := by decide +kernel
theorem d_Mo_winding_37 : decode b_Mo_winding 37 = .ok (.aload_n 0, 1) := by decide +kernel
theorem d_Mo_winding_38 : decode b_Mo_winding 38 = .ok (.getfield 282, 3) := by decide +kernel
theorem d_Mo_winding_41 : decode b_Mo_winding 41 = .ok (.if_icmp .ge 150, 3) := by decide +kernel
theorem d_Mo_winding_44 : decode b_Mo_winding 44 = .ok (.aload_n 0, 1) := by decide +kernel
theorem d_Mo_winding_45 : decode b_Mo_winding 45 = .ok (.iload 4, 2) := by decide +kernel
theorem d_Mo_winding_47 : decode b_Mo_winding 47 = .ok (.invokevirtual 292, 3) := by decide +kernel
theorem d_Mo_winding_50 : decode b_Mo_winding 50 = .ok (.istore 5, 2) := by decide +kernel
theorem d_Mo_winding_52 : decode b_Mo_winding 52 = .ok (.ldc2_w 297, 3) := by decide +kernel
theorem d_Mo_winding_55 : decode b_Mo_winding 55 = .ok (.aload_n 0, 1) := by decide +kernel
theorem d_Mo_winding_56 : decode b_Mo_winding 56 = .ok (.getfield 83, 3) := by decide +kernel
theorem d_Mo_winding_59 : decode b_Mo_winding 59 = .ok (.iload 4, 2) := by decide +kernel
theorem d_Mo_winding_61 : decode b_Mo_winding 61 = .ok (.iaload, 1) := by decide +kernel
theorem d_Mo_winding_62 : decode b_Mo_winding 62 = .ok (.i2l, 1) := by decide +kernel
theorem d_Mo_winding_63 : decode b_Mo_winding 63 = .ok (.lmul, 1) := by decide +kernel
theorem d_Mo_winding_64 : decode b_Mo_winding 64 = .ok (.lstore 6, 2) := by decide +kernel
theorem d_Mo_winding_66 : decode b_Mo_winding 66 = .ok (.ldc2_w 297, 3) := by decide +kernel
theorem d_Mo_winding_69 : decode b_Mo_winding 69 = .ok (.aload_n 0, 1) := by decide +kernel
theorem d_Mo_winding_70 : decode b_Mo_winding 70 = .ok (.getfield 86, 3) := by decide +kernel
theorem d_Mo_winding_73 : decode b_Mo_winding 73 = .ok (.iload 4, 2) := by decide +kernel
theorem d_Mo_winding_75 : decode b_Mo_winding 75 = .ok (.iaload, 1) := by decide +kernel
theorem d_Mo_winding_76 : decode b_Mo_winding 76 = .ok (.i2l, 1) := by decide +kernel
theorem d_Mo_winding_77 : decode b_Mo_winding 77 = .ok (.lmul, 1) := by decide +kernel
theorem d_Mo_winding_78 : decode b_Mo_winding 78 = .ok (.lstore 8, 2) := by decide +kernel
theorem d_Mo_winding_80 : decode b_Mo_winding 80 = .ok (.ldc2_w 297, 3) := by decide +kernel
theorem d_Mo_winding_83 : decode b_Mo_winding 83 = .ok (.aload_n 0, 1) := by decide +kernel
theorem d_Mo_winding_84 : decode b_Mo_winding 84 = .ok (.getfield 83, 3) := by decide +kernel
theorem d_Mo_winding_87 : decode b_Mo_winding 87 = .ok (.iload 5, 2) := by decide +kernel
theorem d_Mo_winding_89 : decode b_Mo_winding 89 = .ok (.iaload, 1) := by decide +kernel
theorem d_Mo_winding_90 : decode b_Mo_winding 90 = .ok (.i2l, 1) := by decide +kernel
theorem d_Mo_winding_91 : decode b_Mo_winding 91 = .ok (.lmul, 1) := by decide +kernel
theorem d_Mo_winding_92 : decode b_Mo_winding 92 = .ok (.lstore 10, 2) := by decide +kernel
theorem d_Mo_winding_94 : decode b_Mo_winding 94 = .ok (.ldc2_w 297, 3) := by decide +kernel
theorem d_Mo_winding_97 : decode b_Mo_winding 97 = .ok (.aload_n 0, 1) := by decide +kernel
theorem d_Mo_winding_98 : decode b_Mo_winding 98 = .ok (.getfield 86, 3) := by decide +kernel
theorem d_Mo_winding_101 : decode b_Mo_winding 101 = .ok (.iload 5, 2) := by decide +kernel
theorem d_Mo_winding_103 : decode b_Mo_winding 103 = .ok (.iaload, 1) := by decide +kernel
theorem d_Mo_winding_104 : decode b_Mo_winding 104 = .ok (.i2l, 1) := by decide +kernel
theorem d_Mo_winding_105 : decode b_Mo_winding 105 = .ok (.lmul, 1) := by decide +kernel
theorem d_Mo_winding_106 : decode b_Mo_winding 106 = .ok (.lstore 12, 2) := by decide +kernel
theorem d_Mo_winding_108 : decode b_Mo_winding 108 = .ok (.lload 10, 2) := by decide +kernel
theorem d_Mo_winding_110 : decode b_Mo_winding 110 = .ok (.lload 6, 2) := by decide +kernel
theorem d_Mo_winding_112 : decode b_Mo_winding 112 = .ok (.lsub, 1) := by decide +kernel
theorem d_Mo_winding_113 : decode b_Mo_winding 113 = .ok (.iload_n 2, 1) := by decide +kernel
theorem d_Mo_winding_114 : decode b_Mo_winding 114 = .ok (.i2l, 1) := by decide +kernel
theorem d_Mo_winding_115 : decode b_Mo_winding 115 = .ok (.lload 8, 2) := by decide +kernel
theorem d_Mo_winding_117 : decode b_Mo_winding 117 = .ok (.lsub, 1) := by decide +kernel
theorem d_Mo_winding_118 : decode b_Mo_winding 118 = .ok (.lmul, 1) := by decide +kernel
theorem d_Mo_winding_119 : decode b_Mo_winding 119 = .ok (.iload_n 1, 1) := by decide +kernel
theorem d_Mo_winding_120 : decode b_Mo_winding 120 = .ok (.i2l, 1) := by decide +kernel
theorem d_Mo_winding_121 : decode b_Mo_winding 121 = .ok (.lload 6, 2) := by decide +kernel
theorem d_Mo_winding_123 : decode b_Mo_winding 123 = .ok (.lsub, 1) := by decide +kernel
theorem d_Mo_winding_124 : decode b_Mo_winding 124 = .ok (.lload 12, 2) := by decide +kernel
theorem d_Mo_winding_126 : decode b_Mo_winding 126 = .ok (.lload 8, 2) := by decide +kernel
theorem d_Mo_winding_128 : decode b_Mo_winding 128 = .ok (.lsub, 1) := by decide +kernel
theorem d_Mo_winding_129 : decode b_Mo_winding 129 = .ok (.lmul, 1) := by decide +kernel
theorem d_Mo_winding_130 : decode b_Mo_winding 130 = .ok (.lsub, 1) := by decide +kernel
theorem d_Mo_winding_131 : decode b_Mo_winding 131 = .ok (.lstore 14, 2) := by decide +kernel
theorem d_Mo_winding_133 : decode b_Mo_winding 133 = .ok (.lload 8, 2) := by decide +kernel
theorem d_Mo_winding_135 : decode b_Mo_winding 135 = .ok (.iload_n 2, 1) := by decide +kernel
theorem d_Mo_winding_136 : decode b_Mo_winding 136 = .ok (.i2l, 1) := by decide +kernel
theorem d_Mo_winding_137 : decode b_Mo_winding 137 = .ok (.lcmp, 1) := by decide +kernel
theorem d_Mo_winding_138 : decode b_Mo_winding 138 = .ok (.ifCond .gt 21, 3) := by decide +kernel
theorem d_Mo_winding_141 : decode b_Mo_winding 141 = .ok (.iload_n 2, 1) := by decide +kernel
theorem d_Mo_winding_142 : decode b_Mo_winding 142 = .ok (.i2l, 1) := by decide +kernel
theorem d_Mo_winding_143 : decode b_Mo_winding 143 = .ok (.lload 12, 2) := by decide +kernel
theorem d_Mo_winding_145 : decode b_Mo_winding 145 = .ok (.lcmp, 1) := by decide +kernel
theorem d_Mo_winding_146 : decode b_Mo_winding 146 = .ok (.ifCond .ge 13, 3) := by decide +kernel
theorem d_Mo_winding_149 : decode b_Mo_winding 149 = .ok (.lload 14, 2) := by decide +kernel
theorem d_Mo_winding_151 : decode b_Mo_winding 151 = .ok (.lconst 0, 1) := by decide +kernel
theorem d_Mo_winding_152 : decode b_Mo_winding 152 = .ok (.lcmp, 1) := by decide +kernel
theorem d_Mo_winding_153 : decode b_Mo_winding 153 = .ok (.ifCond .le 6, 3) := by decide +kernel
theorem d_Mo_winding_156 : decode b_Mo_winding 156 = .ok (.iinc 3 1, 3) := by decide +kernel
theorem d_Mo_winding_159 : decode b_Mo_winding 159 = .ok (.lload 12, 2) := by decide +kernel
theorem d_Mo_winding_161 : decode b_Mo_winding 161 = .ok (.iload_n 2, 1) := by decide +kernel
theorem d_Mo_winding_162 : decode b_Mo_winding 162 = .ok (.i2l, 1) := by decide +kernel
theorem d_Mo_winding_163 : decode b_Mo_winding 163 = .ok (.lcmp, 1) := by decide +kernel
theorem d_Mo_winding_164 : decode b_Mo_winding 164 = .ok (.ifCond .gt 21, 3) := by decide +kernel
theorem d_Mo_winding_167 : decode b_Mo_winding 167 = .ok (.iload_n 2, 1) := by decide +kernel
theorem d_Mo_winding_168 : decode b_Mo_winding 168 = .ok (.i2l, 1) := by decide +kernel
theorem d_Mo_winding_169 : decode b_Mo_winding 169 = .ok (.lload 8, 2) := by decide +kernel
theorem d_Mo_winding_171 : decode b_Mo_winding 171 = .ok (.lcmp, 1) := by decide +kernel
theorem d_Mo_winding_172 : decode b_Mo_winding 172 = .ok (.ifCond .ge 13, 3) := by decide +kernel
theorem d_Mo_winding_175 : decode b_Mo_winding 175 = .ok (.lload 14, 2) := by decide +kernel
theorem d_Mo_winding_177 : decode b_Mo_winding 177 = .ok (.lconst 0, 1) := by decide +kernel
theorem d_Mo_winding_178 : decode b_Mo_winding 178 = .ok (.lcmp, 1) := by decide +kernel
theorem d_Mo_winding_179 : decode b_Mo_winding 179 = .ok (.ifCond .ge 6, 3) := by decide +kernel
theorem d_Mo_winding_182 : decode b_Mo_winding 182 = .ok (.iinc 3 (-1), 3) := by decide +kernel
theorem d_Mo_winding_185 : decode b_Mo_winding 185 = .ok (.iinc 4 1, 3) := by decide +kernel
theorem d_Mo_winding_188 : decode b_Mo_winding 188 = .ok (.goto (-153), 3) := by decide +kernel
theorem d_Mo_winding_191 : decode b_Mo_winding 191 = .ok (.iload_n 3, 1) := by decide +kernel
theorem d_Mo_winding_192 : decode b_Mo_winding 192 = .ok (.ireturn, 1) := by decide +kernel
theorem d_Mo_signOf_0 : decode b_Mo_signOf 0 = .ok (.lload_n 0, 1) := by decide +kernel
theorem d_Mo_signOf_1 : decode b_Mo_signOf 1 = .ok (.lconst 0, 1) := by decide +kernel
theorem d_Mo_signOf_2 : decode b_Mo_signOf 2 = .ok (.lcmp, 1) := by decide +kernel
theorem d_Mo_signOf_3 : decode b_Mo_signOf 3 = .ok (.ifCond .le 7, 3) := by decide +kernel
theorem d_Mo_signOf_6 : decode b_Mo_signOf 6 = .ok (.iconst 1, 1) := by decide +kernel
theorem d_Mo_signOf_7 : decode b_Mo_signOf 7 = .ok (.goto 14, 3) := by decide +kernel
theorem d_Mo_signOf_10 : decode b_Mo_signOf 10 = .ok (.lload_n 0, 1) := by decide +kernel
theorem d_Mo_signOf_11 : decode b_Mo_signOf 11 = .ok (.lconst 0, 1) := by decide +kernel
theorem d_Mo_signOf_12 : decode b_Mo_signOf 12 = .ok (.lcmp, 1) := by decide +kernel
theorem d_Mo_signOf_13 : decode b_Mo_signOf 13 = .ok (.ifCond .ge 7, 3) := by decide +kernel
theorem d_Mo_signOf_16 : decode b_Mo_signOf 16 = .ok (.iconst (-1), 1) := by decide +kernel
theorem d_Mo_signOf_17 : decode b_Mo_signOf 17 = .ok (.goto 4, 3) := by decide +kernel
theorem d_Mo_signOf_20 : decode b_Mo_signOf 20 = .ok (.iconst 0, 1) := by decide +kernel
theorem d_Mo_signOf_21 : decode b_Mo_signOf 21 = .ok (.ireturn, 1) := by decide +kernel
theorem d_Mo_sideOf_0 : decode b_Mo_sideOf 0 = .ok (.aload_n 0, 1) := by decide +kernel
theorem d_Mo_sideOf_1 : decode b_Mo_sideOf 1 = .ok (.getfield 83, 3) := by decide +kernel
theorem d_Mo_sideOf_4 : decode b_Mo_sideOf 4 = .ok (.iload_n 2, 1) := by decide +kernel
theorem d_Mo_sideOf_5 : decode b_Mo_sideOf 5 = .ok (.iaload, 1) := by decide +kernel
theorem d_Mo_sideOf_6 : decode b_Mo_sideOf 6 = .ok (.aload_n 0, 1) := by decide +kernel
theorem d_Mo_sideOf_7 : decode b_Mo_sideOf 7 = .ok (.getfield 83, 3) := by decide +kernel
theorem d_Mo_sideOf_10 : decode b_Mo_sideOf 10 = .ok (.iload_n 1, 1) := by decide +kernel
theorem d_Mo_sideOf_11 : decode b_Mo_sideOf 11 = .ok (.iaload, 1) := by decide +kernel
theorem d_Mo_sideOf_12 : decode b_Mo_sideOf 12 = .ok (.isub, 1) := by decide +kernel
theorem d_Mo_sideOf_13 : decode b_Mo_sideOf 13 = .ok (.i2l, 1) := by decide +kernel
theorem d_Mo_sideOf_14 : decode b_Mo_sideOf 14 = .ok (.aload_n 0, 1) := by decide +kernel
theorem d_Mo_sideOf_15 : decode b_Mo_sideOf 15 = .ok (.getfield 86, 3) := by decide +kernel
theorem d_Mo_sideOf_18 : decode b_Mo_sideOf 18 = .ok (.iload_n 3, 1) := by decide +kernel
theorem d_Mo_sideOf_19 : decode b_Mo_sideOf 19 = .ok (.iaload, 1) := by decide +kernel
theorem d_Mo_sideOf_20 : decode b_Mo_sideOf 20 = .ok (.aload_n 0, 1) := by decide +kernel
theorem d_Mo_sideOf_21 : decode b_Mo_sideOf 21 = .ok (.getfield 86, 3) := by decide +kernel
theorem d_Mo_sideOf_24 : decode b_Mo_sideOf 24 = .ok (.iload_n 1, 1) := by decide +kernel
theorem d_Mo_sideOf_25 : decode b_Mo_sideOf 25 = .ok (.iaload, 1) := by decide +kernel
theorem d_Mo_sideOf_26 : decode b_Mo_sideOf 26 = .ok (.isub, 1) := by decide +kernel
theorem d_Mo_sideOf_27 : decode b_Mo_sideOf 27 = .ok (.i2l, 1) := by decide +kernel
theorem d_Mo_sideOf_28 : decode b_Mo_sideOf 28 = .ok (.lmul, 1) := by decide +kernel
theorem d_Mo_sideOf_29 : decode b_Mo_sideOf 29 = .ok (.aload_n 0, 1) := by decide +kernel
theorem d_Mo_sideOf_30 : decode b_Mo_sideOf 30 = .ok (.getfield 86, 3) := by decide +kernel
theorem d_Mo_sideOf_33 : decode b_Mo_sideOf 33 = .ok (.iload_n 2, 1) := by decide +kernel
theorem d_Mo_sideOf_34 : decode b_Mo_sideOf 34 = .ok (.iaload, 1) := by decide +kernel
theorem d_Mo_sideOf_35 : decode b_Mo_sideOf 35 = .ok (.aload_n 0, 1) := by decide +kernel
theorem d_Mo_sideOf_36 : decode b_Mo_sideOf 36 = .ok (.getfield 86, 3) := by decide +kernel
theorem d_Mo_sideOf_39 : decode b_Mo_sideOf 39 = .ok (.iload_n 1, 1) := by decide +kernel
theorem d_Mo_sideOf_40 : decode b_Mo_sideOf 40 = .ok (.iaload, 1) := by decide +kernel
theorem d_Mo_sideOf_41 : decode b_Mo_sideOf 41 = .ok (.isub, 1) := by decide +kernel
theorem d_Mo_sideOf_42 : decode b_Mo_sideOf 42 = .ok (.i2l, 1) := by decide +kernel
theorem d_Mo_sideOf_43 : decode b_Mo_sideOf 43 = .ok (.aload_n 0, 1) := by decide +kernel
theorem d_Mo_sideOf_44 : decode b_Mo_sideOf 44 = .ok (.getfield 83, 3) := by decide +kernel
theorem d_Mo_sideOf_47 : decode b_Mo_sideOf 47 = .ok (.iload_n 3, 1) := by decide +kernel
theorem d_Mo_sideOf_48 : decode b_Mo_sideOf 48 = .ok (.iaload, 1) := by decide +kernel
theorem d_Mo_sideOf_49 : decode b_Mo_sideOf 49 = .ok (.aload_n 0, 1) := by decide +kernel
theorem d_Mo_sideOf_50 : decode b_Mo_sideOf 50 = .ok (.getfield 83, 3) := by decide +kernel
theorem d_Mo_sideOf_53 : decode b_Mo_sideOf 53 = .ok (.iload_n 1, 1) := by decide +kernel
theorem d_Mo_sideOf_54 : decode b_Mo_sideOf 54 = .ok (.iaload, 1) := by decide +kernel
theorem d_Mo_sideOf_55 : decode b_Mo_sideOf 55 = .ok (.isub, 1) := by decide +kernel
theorem d_Mo_sideOf_56 : decode b_Mo_sideOf 56 = .ok (.i2l, 1) := by decide +kernel
theorem d_Mo_sideOf_57 : decode b_Mo_sideOf 57 = .ok (.lmul, 1) := by decide +kernel
theorem d_Mo_sideOf_58 : decode b_Mo_sideOf 58 = .ok (.lsub, 1) := by decide +kernel
theorem d_Mo_sideOf_59 : decode b_Mo_sideOf 59 = .ok (.invokestatic 299, 3) := by decide +kernel
theorem d_Mo_sideOf_62 : decode b_Mo_sideOf 62 = .ok (.ireturn, 1) := by decide +kernel
theorem d_Mo_crossings_0 : decode b_Mo_crossings 0 = .ok (.iconst 0, 1) := by decide +kernel
theorem d_Mo_crossings_1 : decode b_Mo_crossings 1 = .ok (.istore_n 1, 1) := by decide +kernel
theorem d_Mo_crossings_2 : decode b_Mo_crossings 2 = .ok (.iconst 0, 1) := by decide +kernel
theorem d_Mo_crossings_3 : decode b_Mo_crossings 3 = .ok (.istore_n 2, 1) := by decide +kernel
theorem d_Mo_crossings_4 : decode b_Mo_crossings 4 = .ok (.iload_n 2, 1) := by decide +kernel
theorem d_Mo_crossings_5 : decode b_Mo_crossings 5 = .ok (.aload_n 0, 1) := by decide +kernel
theorem d_Mo_crossings_6 : decode b_Mo_crossings 6 = .ok (.getfield 282, 3) := by decide +kernel
theorem d_Mo_crossings_9 : decode b_Mo_crossings 9 = .ok (.if_icmp .ge 86, 3) := by decide +kernel
theorem d_Mo_crossings_12 : decode b_Mo_crossings 12 = .ok (.iload_n 2, 1) := by decide +kernel
theorem d_Mo_crossings_13 : decode b_Mo_crossings 13 = .ok (.iconst 1, 1) := by decide +kernel
theorem d_Mo_crossings_14 : decode b_Mo_crossings 14 = .ok (.iadd, 1) := by decide +kernel
theorem d_Mo_crossings_15 : decode b_Mo_crossings 15 = .ok (.istore_n 3, 1) := by decide +kernel
theorem d_Mo_crossings_16 : decode b_Mo_crossings 16 = .ok (.iload_n 3, 1) := by decide +kernel
theorem d_Mo_crossings_17 : decode b_Mo_crossings 17 = .ok (.aload_n 0, 1) := by decide +kernel
theorem d_Mo_crossings_18 : decode b_Mo_crossings 18 = .ok (.getfield 282, 3) := by decide +kernel
theorem d_Mo_crossings_21 : decode b_Mo_crossings 21 = .ok (.if_icmp .ge 68, 3) := by decide +kernel
theorem d_Mo_crossings_24 : decode b_Mo_crossings 24 = .ok (.aload_n 0, 1) := by decide +kernel
theorem d_Mo_crossings_25 : decode b_Mo_crossings 25 = .ok (.iload_n 2, 1) := by decide +kernel
theorem d_Mo_crossings_26 : decode b_Mo_crossings 26 = .ok (.invokevirtual 292, 3) := by decide +kernel
theorem d_Mo_crossings_29 : decode b_Mo_crossings 29 = .ok (.istore 4, 2) := by decide +kernel
theorem d_Mo_crossings_31 : decode b_Mo_crossings 31 = .ok (.aload_n 0, 1) := by decide +kernel
theorem d_Mo_crossings_32 : decode b_Mo_crossings 32 = .ok (.iload_n 3, 1) := by decide +kernel
theorem d_Mo_crossings_33 : decode b_Mo_crossings 33 = .ok (.invokevirtual 292, 3) := by decide +kernel
theorem d_Mo_crossings_36 : decode b_Mo_crossings 36 = .ok (.istore 5, 2) := by decide +kernel
theorem d_Mo_crossings_38 : decode b_Mo_crossings 38 = .ok (.aload_n 0, 1) := by decide +kernel
theorem d_Mo_crossings_39 : decode b_Mo_crossings 39 = .ok (.iload_n 2, 1) := by decide +kernel
theorem d_Mo_crossings_40 : decode b_Mo_crossings 40 = .ok (.iload 4, 2) := by decide +kernel
theorem d_Mo_crossings_42 : decode b_Mo_crossings 42 = .ok (.iload_n 3, 1) := by decide +kernel
theorem d_Mo_crossings_43 : decode b_Mo_crossings 43 = .ok (.invokevirtual 303, 3) := by decide +kernel
theorem d_Mo_crossings_46 : decode b_Mo_crossings 46 = .ok (.aload_n 0, 1) := by decide +kernel
theorem d_Mo_crossings_47 : decode b_Mo_crossings 47 = .ok (.iload_n 2, 1) := by decide +kernel
theorem d_Mo_crossings_48 : decode b_Mo_crossings 48 = .ok (.iload 4, 2) := by decide +kernel
theorem d_Mo_crossings_50 : decode b_Mo_crossings 50 = .ok (.iload 5, 2) := by decide +kernel
theorem d_Mo_crossings_52 : decode b_Mo_crossings 52 = .ok (.invokevirtual 303, 3) := by decide +kernel
theorem d_Mo_crossings_55 : decode b_Mo_crossings 55 = .ok (.imul, 1) := by decide +kernel
theorem d_Mo_crossings_56 : decode b_Mo_crossings 56 = .ok (.ifCond .ge 27, 3) := by decide +kernel
theorem d_Mo_crossings_59 : decode b_Mo_crossings 59 = .ok (.aload_n 0, 1) := by decide +kernel
theorem d_Mo_crossings_60 : decode b_Mo_crossings 60 = .ok (.iload_n 3, 1) := by decide +kernel
theorem d_Mo_crossings_61 : decode b_Mo_crossings 61 = .ok (.iload 5, 2) := by decide +kernel
theorem d_Mo_crossings_63 : decode b_Mo_crossings 63 = .ok (.iload_n 2, 1) := by decide +kernel
theorem d_Mo_crossings_64 : decode b_Mo_crossings 64 = .ok (.invokevirtual 303, 3) := by decide +kernel
theorem d_Mo_crossings_67 : decode b_Mo_crossings 67 = .ok (.aload_n 0, 1) := by decide +kernel
theorem d_Mo_crossings_68 : decode b_Mo_crossings 68 = .ok (.iload_n 3, 1) := by decide +kernel
theorem d_Mo_crossings_69 : decode b_Mo_crossings 69 = .ok (.iload 5, 2) := by decide +kernel
theorem d_Mo_crossings_71 : decode b_Mo_crossings 71 = .ok (.iload 4, 2) := by decide +kernel
theorem d_Mo_crossings_73 : decode b_Mo_crossings 73 = .ok (.invokevirtual 303, 3) := by decide +kernel
theorem d_Mo_crossings_76 : decode b_Mo_crossings 76 = .ok (.imul, 1) := by decide +kernel
theorem d_Mo_crossings_77 : decode b_Mo_crossings 77 = .ok (.ifCond .ge 6, 3) := by decide +kernel
theorem d_Mo_crossings_80 : decode b_Mo_crossings 80 = .ok (.iinc 1 1, 3) := by decide +kernel
theorem d_Mo_crossings_83 : decode b_Mo_crossings 83 = .ok (.iinc 3 1, 3) := by decide +kernel
theorem d_Mo_crossings_86 : decode b_Mo_crossings 86 = .ok (.goto (-70), 3) := by decide +kernel
theorem d_Mo_crossings_89 : decode b_Mo_crossings 89 = .ok (.iinc 2 1, 3) := by decide +kernel
theorem d_Mo_crossings_92 : decode b_Mo_crossings 92 = .ok (.goto (-88), 3) := by decide +kernel
theorem d_Mo_crossings_95 : decode b_Mo_crossings 95 = .ok (.iload_n 1, 1) := by decide +kernel
theorem d_Mo_crossings_96 : decode b_Mo_crossings 96 = .ok (.ireturn, 1) := by decide +kernel
theorem d_Mo_isImage_0 : decode b_Mo_isImage 0 = .ok (.iconst 1, 1) := by decide +kernel
theorem d_Mo_isImage_1 : decode b_Mo_isImage 1 = .ok (.istore_n 2, 1) := by decide +kernel
theorem d_Mo_isImage_2 : decode b_Mo_isImage 2 = .ok (.iconst 0, 1) := by decide +kernel
theorem d_Mo_isImage_3 : decode b_Mo_isImage 3 = .ok (.istore_n 3, 1) := by decide +kernel
theorem d_Mo_isImage_4 : decode b_Mo_isImage 4 = .ok (.iload_n 3, 1) := by decide +kernel
theorem d_Mo_isImage_5 : decode b_Mo_isImage 5 = .ok (.aload_n 0, 1) := by decide +kernel
theorem d_Mo_isImage_6 : decode b_Mo_isImage 6 = .ok (.getfield 237, 3) := by decide +kernel
theorem d_Mo_isImage_9 : decode b_Mo_isImage 9 = .ok (.if_icmp .ge 71, 3) := by decide +kernel
theorem d_Mo_isImage_12 : decode b_Mo_isImage 12 = .ok (.aload_n 0, 1) := by decide +kernel
theorem d_Mo_isImage_13 : decode b_Mo_isImage 13 = .ok (.getfield 74, 3) := by decide +kernel
theorem d_Mo_isImage_16 : decode b_Mo_isImage 16 = .ok (.iload_n 3, 1) := by decide +kernel
theorem d_Mo_isImage_17 : decode b_Mo_isImage 17 = .ok (.iaload, 1) := by decide +kernel
theorem d_Mo_isImage_18 : decode b_Mo_isImage 18 = .ok (.iload_n 1, 1) := by decide +kernel
theorem d_Mo_isImage_19 : decode b_Mo_isImage 19 = .ok (.imul, 1) := by decide +kernel
theorem d_Mo_isImage_20 : decode b_Mo_isImage 20 = .ok (.istore 4, 2) := by decide +kernel
theorem d_Mo_isImage_22 : decode b_Mo_isImage 22 = .ok (.aload_n 0, 1) := by decide +kernel
theorem d_Mo_isImage_23 : decode b_Mo_isImage 23 = .ok (.getfield 77, 3) := by decide +kernel
theorem d_Mo_isImage_26 : decode b_Mo_isImage 26 = .ok (.iload_n 3, 1) := by decide +kernel
theorem d_Mo_isImage_27 : decode b_Mo_isImage 27 = .ok (.iaload, 1) := by decide +kernel
theorem d_Mo_isImage_28 : decode b_Mo_isImage 28 = .ok (.iload_n 1, 1) := by decide +kernel
theorem d_Mo_isImage_29 : decode b_Mo_isImage 29 = .ok (.imul, 1) := by decide +kernel
theorem d_Mo_isImage_30 : decode b_Mo_isImage 30 = .ok (.istore 5, 2) := by decide +kernel
theorem d_Mo_isImage_32 : decode b_Mo_isImage 32 = .ok (.iload_n 2, 1) := by decide +kernel
theorem d_Mo_isImage_33 : decode b_Mo_isImage 33 = .ok (.ifCond .eq 39, 3) := by decide +kernel
theorem d_Mo_isImage_36 : decode b_Mo_isImage 36 = .ok (.iload 4, 2) := by decide +kernel
theorem d_Mo_isImage_38 : decode b_Mo_isImage 38 = .ok (.sipush (-16384), 3) := by decide +kernel
theorem d_Mo_isImage_41 : decode b_Mo_isImage 41 = .ok (.if_icmp .lt 31, 3) := by decide +kernel
theorem d_Mo_isImage_44 : decode b_Mo_isImage 44 = .ok (.iload 4, 2) := by decide +kernel
theorem d_Mo_isImage_46 : decode b_Mo_isImage 46 = .ok (.ldc_w 316, 3) := by decide +kernel
theorem d_Mo_isImage_49 : decode b_Mo_isImage 49 = .ok (.if_icmp .ge 23, 3) := by decide +kernel
theorem d_Mo_isImage_52 : decode b_Mo_isImage 52 = .ok (.iload 5, 2) := by decide +kernel
theorem d_Mo_isImage_54 : decode b_Mo_isImage 54 = .ok (.sipush (-16384), 3) := by decide +kernel
theorem d_Mo_isImage_57 : decode b_Mo_isImage 57 = .ok (.if_icmp .lt 15, 3) := by decide +kernel
theorem d_Mo_isImage_60 : decode b_Mo_isImage 60 = .ok (.iload 5, 2) := by decide +kernel
theorem d_Mo_isImage_62 : decode b_Mo_isImage 62 = .ok (.ldc_w 316, 3) := by decide +kernel
theorem d_Mo_isImage_65 : decode b_Mo_isImage 65 = .ok (.if_icmp .ge 7, 3) := by decide +kernel
theorem d_Mo_isImage_68 : decode b_Mo_isImage 68 = .ok (.iconst 1, 1) := by decide +kernel
theorem d_Mo_isImage_69 : decode b_Mo_isImage 69 = .ok (.goto 4, 3) := by decide +kernel
theorem d_Mo_isImage_72 : decode b_Mo_isImage 72 = .ok (.iconst 0, 1) := by decide +kernel
theorem d_Mo_isImage_73 : decode b_Mo_isImage 73 = .ok (.istore_n 2, 1) := by decide +kernel
theorem d_Mo_isImage_74 : decode b_Mo_isImage 74 = .ok (.iinc 3 1, 3) := by decide +kernel
theorem d_Mo_isImage_77 : decode b_Mo_isImage 77 = .ok (.goto (-73), 3) := by decide +kernel
theorem d_Mo_isImage_80 : decode b_Mo_isImage 80 = .ok (.iload_n 2, 1) := by decide +kernel
theorem d_Mo_isImage_81 : decode b_Mo_isImage 81 = .ok (.ireturn, 1) := by decide +kernel
theorem d_Mo_floor_0 : decode b_Mo_floor 0 = .ok (.lload_n 0, 1) := by decide +kernel
theorem d_Mo_floor_1 : decode b_Mo_floor 1 = .ok (.lload_n 2, 1) := by decide +kernel
theorem d_Mo_floor_2 : decode b_Mo_floor 2 = .ok (.ldiv, 1) := by decide +kernel
theorem d_Mo_floor_3 : decode b_Mo_floor 3 = .ok (.lstore 4, 2) := by decide +kernel
theorem d_Mo_floor_5 : decode b_Mo_floor 5 = .ok (.lload_n 0, 1) := by decide +kernel
theorem d_Mo_floor_6 : decode b_Mo_floor 6 = .ok (.lload_n 2, 1) := by decide +kernel
theorem d_Mo_floor_7 : decode b_Mo_floor 7 = .ok (.lrem, 1) := by decide +kernel
theorem d_Mo_floor_8 : decode b_Mo_floor 8 = .ok (.lconst 0, 1) := by decide +kernel
theorem d_Mo_floor_9 : decode b_Mo_floor 9 = .ok (.lcmp, 1) := by decide +kernel
theorem d_Mo_floor_10 : decode b_Mo_floor 10 = .ok (.ifCond .ge 10, 3) := by decide +kernel
theorem d_Mo_floor_13 : decode b_Mo_floor 13 = .ok (.lload 4, 2) := by decide +kernel
