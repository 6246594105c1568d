theorem d_Mo_floor_15 : decode b_Mo_floor 15 = .ok (.lconst 1, 1) := by decide +kernel
theorem d_Mo_floor_16 : decode b_Mo_floor 16 = .ok (.lsub, 1) := by decide +kernel
theorem d_Mo_floor_17 : decode b_Mo_floor 17 = .ok (.goto 5, 3) := by decide +kernel
theorem d_Mo_floor_20 : decode b_Mo_floor 20 = .ok (.lload 4, 2) := by decide +kernel
theorem d_Mo_floor_22 : decode b_Mo_floor 22 = .ok (.lreturn, 1) := by decide +kernel
theorem d_Mo_steps_0 : decode b_Mo_steps 0 = .ok (.iconst 0, 1) := by decide +kernel
theorem d_Mo_steps_1 : decode b_Mo_steps 1 = .ok (.istore_n 3, 1) := by decide +kernel
theorem d_Mo_steps_2 : decode b_Mo_steps 2 = .ok (.iload_n 3, 1) := by decide +kernel
theorem d_Mo_steps_3 : decode b_Mo_steps 3 = .ok (.sipush 514, 3) := by decide +kernel
theorem d_Mo_steps_6 : decode b_Mo_steps 6 = .ok (.if_icmp .ge 16, 3) := by decide +kernel
theorem d_Mo_steps_9 : decode b_Mo_steps 9 = .ok (.aload_n 0, 1) := by decide +kernel
theorem d_Mo_steps_10 : decode b_Mo_steps 10 = .ok (.getfield 108, 3) := by decide +kernel
theorem d_Mo_steps_13 : decode b_Mo_steps 13 = .ok (.iload_n 3, 1) := by decide +kernel
theorem d_Mo_steps_14 : decode b_Mo_steps 14 = .ok (.iconst 0, 1) := by decide +kernel
theorem d_Mo_steps_15 : decode b_Mo_steps 15 = .ok (.iastore, 1) := by decide +kernel
theorem d_Mo_steps_16 : decode b_Mo_steps 16 = .ok (.iinc 3 1, 3) := by decide +kernel
theorem d_Mo_steps_19 : decode b_Mo_steps 19 = .ok (.goto (-17), 3) := by decide +kernel
theorem d_Mo_steps_22 : decode b_Mo_steps 22 = .ok (.ldc2_w 224, 3) := by decide +kernel
theorem d_Mo_steps_25 : decode b_Mo_steps 25 = .ok (.iload_n 1, 1) := by decide +kernel
theorem d_Mo_steps_26 : decode b_Mo_steps 26 = .ok (.i2l, 1) := by decide +kernel
theorem d_Mo_steps_27 : decode b_Mo_steps 27 = .ok (.lmul, 1) := by decide +kernel
theorem d_Mo_steps_28 : decode b_Mo_steps 28 = .ok (.lconst 1, 1) := by decide +kernel
theorem d_Mo_steps_29 : decode b_Mo_steps 29 = .ok (.ladd, 1) := by decide +kernel
theorem d_Mo_steps_30 : decode b_Mo_steps 30 = .ok (.ldc2_w 307, 3) := by decide +kernel
theorem d_Mo_steps_33 : decode b_Mo_steps 33 = .ok (.lmul, 1) := by decide +kernel
theorem d_Mo_steps_34 : decode b_Mo_steps 34 = .ok (.lstore_n 3, 1) := by decide +kernel
theorem d_Mo_steps_35 : decode b_Mo_steps 35 = .ok (.iconst 0, 1) := by decide +kernel
theorem d_Mo_steps_36 : decode b_Mo_steps 36 = .ok (.istore 5, 2) := by decide +kernel
theorem d_Mo_steps_38 : decode b_Mo_steps 38 = .ok (.iload 5, 2) := by decide +kernel
theorem d_Mo_steps_40 : decode b_Mo_steps 40 = .ok (.aload_n 0, 1) := by decide +kernel
theorem d_Mo_steps_41 : decode b_Mo_steps 41 = .ok (.getfield 282, 3) := by decide +kernel
theorem d_Mo_steps_44 : decode b_Mo_steps 44 = .ok (.if_icmp .ge 251, 3) := by decide +kernel
theorem d_Mo_steps_47 : decode b_Mo_steps 47 = .ok (.aload_n 0, 1) := by decide +kernel
theorem d_Mo_steps_48 : decode b_Mo_steps 48 = .ok (.iload 5, 2) := by decide +kernel
theorem d_Mo_steps_50 : decode b_Mo_steps 50 = .ok (.invokevirtual 292, 3) := by decide +kernel
theorem d_Mo_steps_53 : decode b_Mo_steps 53 = .ok (.istore 6, 2) := by decide +kernel
theorem d_Mo_steps_55 : decode b_Mo_steps 55 = .ok (.aload_n 0, 1) := by decide +kernel
theorem d_Mo_steps_56 : decode b_Mo_steps 56 = .ok (.getfield 86, 3) := by decide +kernel
theorem d_Mo_steps_59 : decode b_Mo_steps 59 = .ok (.iload 5, 2) := by decide +kernel
theorem d_Mo_steps_61 : decode b_Mo_steps 61 = .ok (.iaload, 1) := by decide +kernel
theorem d_Mo_steps_62 : decode b_Mo_steps 62 = .ok (.i2l, 1) := by decide +kernel
theorem d_Mo_steps_63 : decode b_Mo_steps 63 = .ok (.iload_n 2, 1) := by decide +kernel
theorem d_Mo_steps_64 : decode b_Mo_steps 64 = .ok (.i2l, 1) := by decide +kernel
theorem d_Mo_steps_65 : decode b_Mo_steps 65 = .ok (.lmul, 1) := by decide +kernel
theorem d_Mo_steps_66 : decode b_Mo_steps 66 = .ok (.lstore 7, 2) := by decide +kernel
theorem d_Mo_steps_68 : decode b_Mo_steps 68 = .ok (.aload_n 0, 1) := by decide +kernel
theorem d_Mo_steps_69 : decode b_Mo_steps 69 = .ok (.getfield 86, 3) := by decide +kernel
theorem d_Mo_steps_72 : decode b_Mo_steps 72 = .ok (.iload 6, 2) := by decide +kernel
theorem d_Mo_steps_74 : decode b_Mo_steps 74 = .ok (.iaload, 1) := by decide +kernel
theorem d_Mo_steps_75 : decode b_Mo_steps 75 = .ok (.i2l, 1) := by decide +kernel
theorem d_Mo_steps_76 : decode b_Mo_steps 76 = .ok (.iload_n 2, 1) := by decide +kernel
theorem d_Mo_steps_77 : decode b_Mo_steps 77 = .ok (.i2l, 1) := by decide +kernel
theorem d_Mo_steps_78 : decode b_Mo_steps 78 = .ok (.lmul, 1) := by decide +kernel
theorem d_Mo_steps_79 : decode b_Mo_steps 79 = .ok (.lstore 9, 2) := by decide +kernel
theorem d_Mo_steps_81 : decode b_Mo_steps 81 = .ok (.lload 7, 2) := by decide +kernel
theorem d_Mo_steps_83 : decode b_Mo_steps 83 = .ok (.lload_n 3, 1) := by decide +kernel
theorem d_Mo_steps_84 : decode b_Mo_steps 84 = .ok (.lcmp, 1) := by decide +kernel
theorem d_Mo_steps_85 : decode b_Mo_steps 85 = .ok (.ifCond .gt 14, 3) := by decide +kernel
theorem d_Mo_steps_88 : decode b_Mo_steps 88 = .ok (.lload_n 3, 1) := by decide +kernel
theorem d_Mo_steps_89 : decode b_Mo_steps 89 = .ok (.lload 9, 2) := by decide +kernel
theorem d_Mo_steps_91 : decode b_Mo_steps 91 = .ok (.lcmp, 1) := by decide +kernel
theorem d_Mo_steps_92 : decode b_Mo_steps 92 = .ok (.ifCond .ge 7, 3) := by decide +kernel
theorem d_Mo_steps_95 : decode b_Mo_steps 95 = .ok (.iconst 1, 1) := by decide +kernel
theorem d_Mo_steps_96 : decode b_Mo_steps 96 = .ok (.goto 4, 3) := by decide +kernel
theorem d_Mo_steps_99 : decode b_Mo_steps 99 = .ok (.iconst 0, 1) := by decide +kernel
theorem d_Mo_steps_100 : decode b_Mo_steps 100 = .ok (.istore 11, 2) := by decide +kernel
theorem d_Mo_steps_102 : decode b_Mo_steps 102 = .ok (.iload 11, 2) := by decide +kernel
theorem d_Mo_steps_104 : decode b_Mo_steps 104 = .ok (.ifCond .ne 20, 3) := by decide +kernel
theorem d_Mo_steps_107 : decode b_Mo_steps 107 = .ok (.lload 9, 2) := by decide +kernel
theorem d_Mo_steps_109 : decode b_Mo_steps 109 = .ok (.lload_n 3, 1) := by decide +kernel
theorem d_Mo_steps_110 : decode b_Mo_steps 110 = .ok (.lcmp, 1) := by decide +kernel
theorem d_Mo_steps_111 : decode b_Mo_steps 111 = .ok (.ifCond .gt 178, 3) := by decide +kernel
theorem d_Mo_steps_114 : decode b_Mo_steps 114 = .ok (.lload_n 3, 1) := by decide +kernel
theorem d_Mo_steps_115 : decode b_Mo_steps 115 = .ok (.lload 7, 2) := by decide +kernel
theorem d_Mo_steps_117 : decode b_Mo_steps 117 = .ok (.lcmp, 1) := by decide +kernel
theorem d_Mo_steps_118 : decode b_Mo_steps 118 = .ok (.ifCond .lt 6, 3) := by decide +kernel
theorem d_Mo_steps_121 : decode b_Mo_steps 121 = .ok (.goto 168, 3) := by decide +kernel
theorem d_Mo_steps_124 : decode b_Mo_steps 124 = .ok (.aload_n 0, 1) := by decide +kernel
theorem d_Mo_steps_125 : decode b_Mo_steps 125 = .ok (.getfield 86, 3) := by decide +kernel
theorem d_Mo_steps_128 : decode b_Mo_steps 128 = .ok (.iload 6, 2) := by decide +kernel
theorem d_Mo_steps_130 : decode b_Mo_steps 130 = .ok (.iaload, 1) := by decide +kernel
theorem d_Mo_steps_131 : decode b_Mo_steps 131 = .ok (.aload_n 0, 1) := by decide +kernel
theorem d_Mo_steps_132 : decode b_Mo_steps 132 = .ok (.getfield 86, 3) := by decide +kernel
theorem d_Mo_steps_135 : decode b_Mo_steps 135 = .ok (.iload 5, 2) := by decide +kernel
theorem d_Mo_steps_137 : decode b_Mo_steps 137 = .ok (.iaload, 1) := by decide +kernel
theorem d_Mo_steps_138 : decode b_Mo_steps 138 = .ok (.isub, 1) := by decide +kernel
theorem d_Mo_steps_139 : decode b_Mo_steps 139 = .ok (.i2l, 1) := by decide +kernel
theorem d_Mo_steps_140 : decode b_Mo_steps 140 = .ok (.lstore 12, 2) := by decide +kernel
theorem d_Mo_steps_142 : decode b_Mo_steps 142 = .ok (.lload 12, 2) := by decide +kernel
theorem d_Mo_steps_144 : decode b_Mo_steps 144 = .ok (.lconst 0, 1) := by decide +kernel
theorem d_Mo_steps_145 : decode b_Mo_steps 145 = .ok (.lcmp, 1) := by decide +kernel
theorem d_Mo_steps_146 : decode b_Mo_steps 146 = .ok (.ifCond .ge 8, 3) := by decide +kernel
theorem d_Mo_steps_149 : decode b_Mo_steps 149 = .ok (.lload 12, 2) := by decide +kernel
theorem d_Mo_steps_151 : decode b_Mo_steps 151 = .ok (.lneg, 1) := by decide +kernel
theorem d_Mo_steps_152 : decode b_Mo_steps 152 = .ok (.lstore 12, 2) := by decide +kernel
theorem d_Mo_steps_154 : decode b_Mo_steps 154 = .ok (.aload_n 0, 1) := by decide +kernel
theorem d_Mo_steps_155 : decode b_Mo_steps 155 = .ok (.getfield 83, 3) := by decide +kernel
theorem d_Mo_steps_158 : decode b_Mo_steps 158 = .ok (.iload 5, 2) := by decide +kernel
theorem d_Mo_steps_160 : decode b_Mo_steps 160 = .ok (.iaload, 1) := by decide +kernel
theorem d_Mo_steps_161 : decode b_Mo_steps 161 = .ok (.i2l, 1) := by decide +kernel
theorem d_Mo_steps_162 : decode b_Mo_steps 162 = .ok (.iload_n 2, 1) := by decide +kernel
theorem d_Mo_steps_163 : decode b_Mo_steps 163 = .ok (.i2l, 1) := by decide +kernel
theorem d_Mo_steps_164 : decode b_Mo_steps 164 = .ok (.lmul, 1) := by decide +kernel
theorem d_Mo_steps_165 : decode b_Mo_steps 165 = .ok (.lload 12, 2) := by decide +kernel
theorem d_Mo_steps_167 : decode b_Mo_steps 167 = .ok (.lmul, 1) := by decide +kernel
theorem d_Mo_steps_168 : decode b_Mo_steps 168 = .ok (.aload_n 0, 1) := by decide +kernel
theorem d_Mo_steps_169 : decode b_Mo_steps 169 = .ok (.getfield 83, 3) := by decide +kernel
theorem d_Mo_steps_172 : decode b_Mo_steps 172 = .ok (.iload 6, 2) := by decide +kernel
theorem d_Mo_steps_174 : decode b_Mo_steps 174 = .ok (.iaload, 1) := by decide +kernel
theorem d_Mo_steps_175 : decode b_Mo_steps 175 = .ok (.aload_n 0, 1) := by decide +kernel
theorem d_Mo_steps_176 : decode b_Mo_steps 176 = .ok (.getfield 83, 3) := by decide +kernel
theorem d_Mo_steps_179 : decode b_Mo_steps 179 = .ok (.iload 5, 2) := by decide +kernel
theorem d_Mo_steps_181 : decode b_Mo_steps 181 = .ok (.iaload, 1) := by decide +kernel
theorem d_Mo_steps_182 : decode b_Mo_steps 182 = .ok (.isub, 1) := by decide +kernel
theorem d_Mo_steps_183 : decode b_Mo_steps 183 = .ok (.i2l, 1) := by decide +kernel
theorem d_Mo_steps_184 : decode b_Mo_steps 184 = .ok (.lload_n 3, 1) := by decide +kernel
theorem d_Mo_steps_185 : decode b_Mo_steps 185 = .ok (.lload 7, 2) := by decide +kernel
theorem d_Mo_steps_187 : decode b_Mo_steps 187 = .ok (.lsub, 1) := by decide +kernel
theorem d_Mo_steps_188 : decode b_Mo_steps 188 = .ok (.invokestatic 246, 3) := by decide +kernel
theorem d_Mo_steps_191 : decode b_Mo_steps 191 = .ok (.lmul, 1) := by decide +kernel
theorem d_Mo_steps_192 : decode b_Mo_steps 192 = .ok (.ladd, 1) := by decide +kernel
theorem d_Mo_steps_193 : decode b_Mo_steps 193 = .ok (.lstore 14, 2) := by decide +kernel
theorem d_Mo_steps_195 : decode b_Mo_steps 195 = .ok (.lload 14, 2) := by decide +kernel
theorem d_Mo_steps_197 : decode b_Mo_steps 197 = .ok (.lneg, 1) := by decide +kernel
theorem d_Mo_steps_198 : decode b_Mo_steps 198 = .ok (.ldc2_w 307, 3) := by decide +kernel
theorem d_Mo_steps_201 : decode b_Mo_steps 201 = .ok (.lload 12, 2) := by decide +kernel
theorem d_Mo_steps_203 : decode b_Mo_steps 203 = .ok (.lmul, 1) := by decide +kernel
theorem d_Mo_steps_204 : decode b_Mo_steps 204 = .ok (.invokestatic 309, 3) := by decide +kernel
theorem d_Mo_steps_207 : decode b_Mo_steps 207 = .ok (.lneg, 1) := by decide +kernel
theorem d_Mo_steps_208 : decode b_Mo_steps 208 = .ok (.lconst 1, 1) := by decide +kernel
theorem d_Mo_steps_209 : decode b_Mo_steps 209 = .ok (.lsub, 1) := by decide +kernel
theorem d_Mo_steps_210 : decode b_Mo_steps 210 = .ok (.lstore 16, 2) := by decide +kernel
theorem d_Mo_steps_212 : decode b_Mo_steps 212 = .ok (.lload 16, 2) := by decide +kernel
theorem d_Mo_steps_214 : decode b_Mo_steps 214 = .ok (.lconst 1, 1) := by decide +kernel
theorem d_Mo_steps_215 : decode b_Mo_steps 215 = .ok (.lsub, 1) := by decide +kernel
theorem d_Mo_steps_216 : decode b_Mo_steps 216 = .ok (.ldc2_w 224, 3) := by decide +kernel
theorem d_Mo_steps_219 : decode b_Mo_steps 219 = .ok (.invokestatic 309, 3) := by decide +kernel
theorem d_Mo_steps_222 : decode b_Mo_steps 222 = .ok (.ldc2_w 312, 3) := by decide +kernel
theorem d_Mo_steps_225 : decode b_Mo_steps 225 = .ok (.ladd, 1) := by decide +kernel
theorem d_Mo_steps_226 : decode b_Mo_steps 226 = .ok (.lstore 18, 2) := by decide +kernel
theorem d_Mo_steps_228 : decode b_Mo_steps 228 = .ok (.lload 18, 2) := by decide +kernel
theorem d_Mo_steps_230 : decode b_Mo_steps 230 = .ok (.lconst 0, 1) := by decide +kernel
theorem d_Mo_steps_231 : decode b_Mo_steps 231 = .ok (.lcmp, 1) := by decide +kernel
theorem d_Mo_steps_232 : decode b_Mo_steps 232 = .ok (.ifCond .ge 6, 3) := by decide +kernel
theorem d_Mo_steps_235 : decode b_Mo_steps 235 = .ok (.goto 54, 3) := by decide +kernel
theorem d_Mo_steps_238 : decode b_Mo_steps 238 = .ok (.aload_n 0, 1) := by decide +kernel
theorem d_Mo_steps_239 : decode b_Mo_steps 239 = .ok (.getfield 108, 3) := by decide +kernel
theorem d_Mo_steps_242 : decode b_Mo_steps 242 = .ok (.iconst 0, 1) := by decide +kernel
theorem d_Mo_steps_243 : decode b_Mo_steps 243 = .ok (.dup2, 1) := by decide +kernel
theorem d_Mo_steps_244 : decode b_Mo_steps 244 = .ok (.iaload, 1) := by decide +kernel
theorem d_Mo_steps_245 : decode b_Mo_steps 245 = .ok (.iload 11, 2) := by decide +kernel
theorem d_Mo_steps_247 : decode b_Mo_steps 247 = .ok (.ifCond .eq 7, 3) := by decide +kernel
theorem d_Mo_steps_250 : decode b_Mo_steps 250 = .ok (.iconst 1, 1) := by decide +kernel
theorem d_Mo_steps_251 : decode b_Mo_steps 251 = .ok (.goto 4, 3) := by decide +kernel
theorem d_Mo_steps_254 : decode b_Mo_steps 254 = .ok (.iconst (-1), 1) := by decide +kernel
theorem d_Mo_steps_255 : decode b_Mo_steps 255 = .ok (.iadd, 1) := by decide +kernel
theorem d_Mo_steps_256 : decode b_Mo_steps 256 = .ok (.iastore, 1) := by decide +kernel
theorem d_Mo_steps_257 : decode b_Mo_steps 257 = .ok (.lload 18, 2) := by decide +kernel
theorem d_Mo_steps_259 : decode b_Mo_steps 259 = .ok (.ldc2_w 314, 3) := by decide +kernel
theorem d_Mo_steps_262 : decode b_Mo_steps 262 = .ok (.lcmp, 1) := by decide +kernel
theorem d_Mo_steps_263 : decode b_Mo_steps 263 = .ok (.ifCond .ge 26, 3) := by decide +kernel
theorem d_Mo_steps_266 : decode b_Mo_steps 266 = .ok (.aload_n 0, 1) := by decide +kernel
theorem d_Mo_steps_267 : decode b_Mo_steps 267 = .ok (.getfield 108, 3) := by decide +kernel
theorem d_Mo_steps_270 : decode b_Mo_steps 270 = .ok (.lload 18, 2) := by decide +kernel
theorem d_Mo_steps_272 : decode b_Mo_steps 272 = .ok (.l2i, 1) := by decide +kernel
theorem d_Mo_steps_273 : decode b_Mo_steps 273 = .ok (.iconst 1, 1) := by decide +kernel
theorem d_Mo_steps_274 : decode b_Mo_steps 274 = .ok (.iadd, 1) := by decide +kernel
theorem d_Mo_steps_275 : decode b_Mo_steps 275 = .ok (.dup2, 1) := by decide +kernel
theorem d_Mo_steps_276 : decode b_Mo_steps 276 = .ok (.iaload, 1) := by decide +kernel
theorem d_Mo_steps_277 : decode b_Mo_steps 277 = .ok (.iload 11, 2) := by decide +kernel
theorem d_Mo_steps_279 : decode b_Mo_steps 279 = .ok (.ifCond .eq 7, 3) := by decide +kernel
theorem d_Mo_steps_282 : decode b_Mo_steps 282 = .ok (.iconst 1, 1) := by decide +kernel
theorem d_Mo_steps_283 : decode b_Mo_steps 283 = .ok (.goto 4, 3) := by decide +kernel
theorem d_Mo_steps_286 : decode b_Mo_steps 286 = .ok (.iconst (-1), 1) := by decide +kernel
theorem d_Mo_steps_287 : decode b_Mo_steps 287 = .ok (.isub, 1) := by decide +kernel
theorem d_Mo_steps_288 : decode b_Mo_steps 288 = .ok (.iastore, 1) := by decide +kernel
theorem d_Mo_steps_289 : decode b_Mo_steps 289 = .ok (.iinc 5 1, 3) := by decide +kernel
theorem d_Mo_steps_292 : decode b_Mo_steps 292 = .ok (.goto (-254), 3) := by decide +kernel
theorem d_Mo_steps_295 : decode b_Mo_steps 295 = .ok (.return_, 1) := by decide +kernel
theorem d_Mo_image_0 : decode b_Mo_image 0 = .ok (.aload_n 0, 1) := by decide +kernel
theorem d_Mo_image_1 : decode b_Mo_image 1 = .ok (.iload_n 1, 1) := by decide +kernel
theorem d_Mo_image_2 : decode b_Mo_image 2 = .ok (.invokevirtual 192, 3) := by decide +kernel
theorem d_Mo_image_5 : decode b_Mo_image 5 = .ok (.ifCond .eq 54, 3) := by decide +kernel
theorem d_Mo_image_8 : decode b_Mo_image 8 = .ok (.iload_n 2, 1) := by decide +kernel
theorem d_Mo_image_9 : decode b_Mo_image 9 = .ok (.iconst 1, 1) := by decide +kernel
theorem d_Mo_image_10 : decode b_Mo_image 10 = .ok (.if_icmp .lt 49, 3) := by decide +kernel
theorem d_Mo_image_13 : decode b_Mo_image 13 = .ok (.iload_n 2, 1) := by decide +kernel
theorem d_Mo_image_14 : decode b_Mo_image 14 = .ok (.sipush 256, 3) := by decide +kernel
theorem d_Mo_image_17 : decode b_Mo_image 17 = .ok (.if_icmp .gt 42, 3) := by decide +kernel
theorem d_Mo_image_20 : decode b_Mo_image 20 = .ok (.iload_n 3, 1) := by decide +kernel
theorem d_Mo_image_21 : decode b_Mo_image 21 = .ok (.iconst 4, 1) := by decide +kernel
theorem d_Mo_image_22 : decode b_Mo_image 22 = .ok (.if_icmp .lt 37, 3) := by decide +kernel
theorem d_Mo_image_25 : decode b_Mo_image 25 = .ok (.iload_n 3, 1) := by decide +kernel
theorem d_Mo_image_26 : decode b_Mo_image 26 = .ok (.bipush 32, 2) := by decide +kernel
theorem d_Mo_image_28 : decode b_Mo_image 28 = .ok (.if_icmp .gt 31, 3) := by decide +kernel
theorem d_Mo_image_31 : decode b_Mo_image 31 = .ok (.iload 4, 2) := by decide +kernel
theorem d_Mo_image_33 : decode b_Mo_image 33 = .ok (.ifCond .lt 26, 3) := by decide +kernel
theorem d_Mo_image_36 : decode b_Mo_image 36 = .ok (.iload 4, 2) := by decide +kernel
theorem d_Mo_image_38 : decode b_Mo_image 38 = .ok (.iconst 1, 1) := by decide +kernel
theorem d_Mo_image_39 : decode b_Mo_image 39 = .ok (.if_icmp .gt 20, 3) := by decide +kernel
theorem d_Mo_image_42 : decode b_Mo_image 42 = .ok (.aload_n 0, 1) := by decide +kernel
theorem d_Mo_image_43 : decode b_Mo_image 43 = .ok (.iload_n 1, 1) := by decide +kernel
theorem d_Mo_image_44 : decode b_Mo_image 44 = .ok (.iload_n 2, 1) := by decide +kernel
theorem d_Mo_image_45 : decode b_Mo_image 45 = .ok (.invokevirtual 285, 3) := by decide +kernel
theorem d_Mo_image_48 : decode b_Mo_image 48 = .ok (.ifCond .eq 11, 3) := by decide +kernel
theorem d_Mo_image_51 : decode b_Mo_image 51 = .ok (.aload_n 0, 1) := by decide +kernel
theorem d_Mo_image_52 : decode b_Mo_image 52 = .ok (.iload_n 3, 1) := by decide +kernel
theorem d_Mo_image_53 : decode b_Mo_image 53 = .ok (.invokevirtual 317, 3) := by decide +kernel
theorem d_Mo_image_56 : decode b_Mo_image 56 = .ok (.ifCond .ne 5, 3) := by decide +kernel
theorem d_Mo_image_59 : decode b_Mo_image 59 = .ok (.iconst (-1), 1) := by decide +kernel
theorem d_Mo_image_60 : decode b_Mo_image 60 = .ok (.ireturn, 1) := by decide +kernel
theorem d_Mo_image_61 : decode b_Mo_image 61 = .ok (.aload_n 0, 1) := by decide +kernel
theorem d_Mo_image_62 : decode b_Mo_image 62 = .ok (.invokevirtual 288, 3) := by decide +kernel
theorem d_Mo_image_65 : decode b_Mo_image 65 = .ok (.iconst 0, 1) := by decide +kernel
theorem d_Mo_image_66 : decode b_Mo_image 66 = .ok (.istore 5, 2) := by decide +kernel
theorem d_Mo_image_68 : decode b_Mo_image 68 = .ok (.iload 5, 2) := by decide +kernel
theorem d_Mo_image_70 : decode b_Mo_image 70 = .ok (.sipush 4096, 3) := by decide +kernel
theorem d_Mo_image_73 : decode b_Mo_image 73 = .ok (.if_icmp .ge 17, 3) := by decide +kernel
theorem d_Mo_image_76 : decode b_Mo_image 76 = .ok (.aload_n 0, 1) := by decide +kernel
theorem d_Mo_image_77 : decode b_Mo_image 77 = .ok (.getfield 105, 3) := by decide +kernel
theorem d_Mo_image_80 : decode b_Mo_image 80 = .ok (.iload 5, 2) := by decide +kernel
theorem d_Mo_image_82 : decode b_Mo_image 82 = .ok (.iconst 0, 1) := by decide +kernel
theorem d_Mo_image_83 : decode b_Mo_image 83 = .ok (.iastore, 1) := by decide +kernel
theorem d_Mo_image_84 : decode b_Mo_image 84 = .ok (.iinc 5 1, 3) := by decide +kernel
theorem d_Mo_image_87 : decode b_Mo_image 87 = .ok (.goto (-19), 3) := by decide +kernel
theorem d_Mo_image_90 : decode b_Mo_image 90 = .ok (.bipush (-128), 2) := by decide +kernel
theorem d_Mo_image_92 : decode b_Mo_image 92 = .ok (.istore 5, 2) := by decide +kernel
theorem d_Mo_image_94 : decode b_Mo_image 94 = .ok (.iload 5, 2) := by decide +kernel
theorem d_Mo_image_96 : decode b_Mo_image 96 = .ok (.sipush 384, 3) := by decide +kernel
theorem d_Mo_image_99 : decode b_Mo_image 99 = .ok (.if_icmp .ge 113, 3) := by decide +kernel
theorem d_Mo_image_102 : decode b_Mo_image 102 = .ok (.aload_n 0, 1) := by decide +kernel
theorem d_Mo_image_103 : decode b_Mo_image 103 = .ok (.iload 5, 2) := by decide +kernel
theorem d_Mo_image_105 : decode b_Mo_image 105 = .ok (.iload_n 3, 1) := by decide +kernel
theorem d_Mo_image_106 : decode b_Mo_image 106 = .ok (.invokevirtual 320, 3) := by decide +kernel
theorem d_Mo_image_109 : decode b_Mo_image 109 = .ok (.iconst 0, 1) := by decide +kernel
theorem d_Mo_image_110 : decode b_Mo_image 110 = .ok (.istore 6, 2) := by decide +kernel
theorem d_Mo_image_112 : decode b_Mo_image 112 = .ok (.iconst 0, 1) := by decide +kernel
theorem d_Mo_image_113 : decode b_Mo_image 113 = .ok (.istore 7, 2) := by decide +kernel
theorem d_Mo_image_115 : decode b_Mo_image 115 = .ok (.iload 7, 2) := by decide +kernel
theorem d_Mo_image_117 : decode b_Mo_image 117 = .ok (.sipush 512, 3) := by decide +kernel
theorem d_Mo_image_120 : decode b_Mo_image 120 = .ok (.if_icmp .ge 86, 3) := by decide +kernel
theorem d_Mo_image_123 : decode b_Mo_image 123 = .ok (.iload 6, 2) := by decide +kernel
theorem d_Mo_image_125 : decode b_Mo_image 125 = .ok (.aload_n 0, 1) := by decide +kernel
theorem d_Mo_image_126 : decode b_Mo_image 126 = .ok (.getfield 108, 3) := by decide +kernel
theorem d_Mo_image_129 : decode b_Mo_image 129 = .ok (.iload 7, 2) := by decide +kernel
theorem d_Mo_image_131 : decode b_Mo_image 131 = .ok (.iaload, 1) := by decide +kernel
theorem d_Mo_image_132 : decode b_Mo_image 132 = .ok (.iadd, 1) := by decide +kernel
theorem d_Mo_image_133 : decode b_Mo_image 133 = .ok (.istore 6, 2) := by decide +kernel
theorem d_Mo_image_135 : decode b_Mo_image 135 = .ok (.iload 4, 2) := by decide +kernel
theorem d_Mo_image_137 : decode b_Mo_image 137 = .ok (.ifCond .ne 16, 3) := by decide +kernel
theorem d_Mo_image_140 : decode b_Mo_image 140 = .ok (.iload 6, 2) := by decide +kernel
theorem d_Mo_image_142 : decode b_Mo_image 142 = .ok (.ifCond .eq 7, 3) := by decide +kernel
theorem d_Mo_image_145 : decode b_Mo_image 145 = .ok (.iconst 1, 1) := by decide +kernel
theorem d_Mo_image_146 : decode b_Mo_image 146 = .ok (.goto 20, 3) := by decide +kernel
theorem d_Mo_image_149 : decode b_Mo_image 149 = .ok (.iconst 0, 1) := by decide +kernel
theorem d_Mo_image_150 : decode b_Mo_image 150 = .ok (.goto 16, 3) := by decide +kernel
theorem d_Mo_image_153 : decode b_Mo_image 153 = .ok (.iload 6, 2) := by decide +kernel
theorem d_Mo_image_155 : decode b_Mo_image 155 = .ok (.iconst 1, 1) := by decide +kernel
theorem d_Mo_image_156 : decode b_Mo_image 156 = .ok (.iand, 1) := by decide +kernel
theorem d_Mo_image_157 : decode b_Mo_image 157 = .ok (.iconst 1, 1) := by decide +kernel
theorem d_Mo_image_158 : decode b_Mo_image 158 = .ok (.if_icmp .ne 7, 3) := by decide +kernel
theorem d_Mo_image_161 : decode b_Mo_image 161 = .ok (.iconst 1, 1) := by decide +kernel
theorem d_Mo_image_162 : decode b_Mo_image 162 = .ok (.goto 4, 3) := by decide +kernel
theorem d_Mo_image_165 : decode b_Mo_image 165 = .ok (.iconst 0, 1) := by decide +kernel
theorem d_Mo_image_166 : decode b_Mo_image 166 = .ok (.istore 8, 2) := by decide +kernel
theorem d_Mo_image_168 : decode b_Mo_image 168 = .ok (.iload 8, 2) := by decide +kernel
theorem d_Mo_image_170 : decode b_Mo_image 170 = .ok (.ifCond .eq 30, 3) := by decide +kernel
theorem d_Mo_image_173 : decode b_Mo_image 173 = .ok (.aload_n 0, 1) := by decide +kernel
theorem d_Mo_image_174 : decode b_Mo_image 174 = .ok (.getfield 105, 3) := by decide +kernel
theorem d_Mo_image_177 : decode b_Mo_image 177 = .ok (.bipush 64, 2) := by decide +kernel
theorem d_Mo_image_179 : decode b_Mo_image 179 = .ok (.iload 5, 2) := by decide +kernel
theorem d_Mo_image_181 : decode b_Mo_image 181 = .ok (.sipush 128, 3) := by decide +kernel
theorem d_Mo_image_184 : decode b_Mo_image 184 = .ok (.iadd, 1) := by decide +kernel
theorem d_Mo_image_185 : decode b_Mo_image 185 = .ok (.bipush 8, 2) := by decide +kernel
theorem d_Mo_image_187 : decode b_Mo_image 187 = .ok (.idiv, 1) := by decide +kernel
theorem d_Mo_image_188 : decode b_Mo_image 188 = .ok (.imul, 1) := by decide +kernel
theorem d_Mo_image_189 : decode b_Mo_image 189 = .ok (.iload 7, 2) := by decide +kernel
theorem d_Mo_image_191 : decode b_Mo_image 191 = .ok (.bipush 8, 2) := by decide +kernel
theorem d_Mo_image_193 : decode b_Mo_image 193 = .ok (.idiv, 1) := by decide +kernel
theorem d_Mo_image_194 : decode b_Mo_image 194 = .ok (.iadd, 1) := by decide +kernel
theorem d_Mo_image_195 : decode b_Mo_image 195 = .ok (.dup2, 1) := by decide +kernel
theorem d_Mo_image_196 : decode b_Mo_image 196 = .ok (.iaload, 1) := by decide +kernel
theorem d_Mo_image_197 : decode b_Mo_image 197 = .ok (.iconst 1, 1) := by decide +kernel
theorem d_Mo_image_198 : decode b_Mo_image 198 = .ok (.iadd, 1) := by decide +kernel
theorem d_Mo_image_199 : decode b_Mo_image 199 = .ok (.iastore, 1) := by decide +kernel
theorem d_Mo_image_200 : decode b_Mo_image 200 = .ok (.iinc 7 1, 3) := by decide +kernel
theorem d_Mo_image_203 : decode b_Mo_image 203 = .ok (.goto (-88), 3) := by decide +kernel
theorem d_Mo_image_206 : decode b_Mo_image 206 = .ok (.iinc 5 1, 3) := by decide +kernel
theorem d_Mo_image_209 : decode b_Mo_image 209 = .ok (.goto (-115), 3) := by decide +kernel
theorem d_Mo_image_212 : decode b_Mo_image 212 = .ok (.iconst 0, 1) := by decide +kernel
theorem d_Mo_image_213 : decode b_Mo_image 213 = .ok (.istore 5, 2) := by decide +kernel
theorem d_Mo_image_215 : decode b_Mo_image 215 = .ok (.iconst 0, 1) := by decide +kernel
theorem d_Mo_image_216 : decode b_Mo_image 216 = .ok (.istore 6, 2) := by decide +kernel
theorem d_Mo_image_218 : decode b_Mo_image 218 = .ok (.iload 6, 2) := by decide +kernel
theorem d_Mo_image_220 : decode b_Mo_image 220 = .ok (.sipush 4096, 3) := by decide +kernel
theorem d_Mo_image_223 : decode b_Mo_image 223 = .ok (.if_icmp .ge 22, 3) := by decide +kernel
theorem d_Mo_image_226 : decode b_Mo_image 226 = .ok (.aload_n 0, 1) := by decide +kernel
theorem d_Mo_image_227 : decode b_Mo_image 227 = .ok (.getfield 105, 3) := by decide +kernel
theorem d_Mo_image_230 : decode b_Mo_image 230 = .ok (.iload 6, 2) := by decide +kernel
theorem d_Mo_image_232 : decode b_Mo_image 232 = .ok (.iaload, 1) := by decide +kernel
theorem d_Mo_image_233 : decode b_Mo_image 233 = .ok (.ifCond .le 6, 3) := by decide +kernel
theorem d_Mo_image_236 : decode b_Mo_image 236 = .ok (.iinc 5 1, 3) := by decide +kernel
theorem d_Mo_image_239 : decode b_Mo_image 239 = .ok (.iinc 6 1, 3) := by decide +kernel
theorem d_Mo_image_242 : decode b_Mo_image 242 = .ok (.goto (-24), 3) := by decide +kernel
theorem d_Mo_image_245 : decode b_Mo_image 245 = .ok (.iload 5, 2) := by decide +kernel
theorem d_Mo_image_247 : decode b_Mo_image 247 = .ok (.ireturn, 1) := by decide +kernel
theorem d_Mo_dot_0 : decode b_Mo_dot 0 = .ok (.iload_n 1, 1) := by decide +kernel
theorem d_Mo_dot_1 : decode b_Mo_dot 1 = .ok (.bipush (-16), 2) := by decide +kernel
theorem d_Mo_dot_3 : decode b_Mo_dot 3 = .ok (.if_icmp .lt 21, 3) := by decide +kernel
theorem d_Mo_dot_6 : decode b_Mo_dot 6 = .ok (.iload_n 1, 1) := by decide +kernel
theorem d_Mo_dot_7 : decode b_Mo_dot 7 = .ok (.bipush 47, 2) := by decide +kernel
theorem d_Mo_dot_9 : decode b_Mo_dot 9 = .ok (.if_icmp .gt 15, 3) := by decide +kernel
theorem d_Mo_dot_12 : decode b_Mo_dot 12 = .ok (.iload_n 2, 1) := by decide +kernel
theorem d_Mo_dot_13 : decode b_Mo_dot 13 = .ok (.bipush (-16), 2) := by decide +kernel
theorem d_Mo_dot_15 : decode b_Mo_dot 15 = .ok (.if_icmp .lt 9, 3) := by decide +kernel
theorem d_Mo_dot_18 : decode b_Mo_dot 18 = .ok (.iload_n 2, 1) := by decide +kernel
theorem d_Mo_dot_19 : decode b_Mo_dot 19 = .ok (.bipush 47, 2) := by decide +kernel
theorem d_Mo_dot_21 : decode b_Mo_dot 21 = .ok (.if_icmp .le 7, 3) := by decide +kernel
theorem d_Mo_dot_24 : decode b_Mo_dot 24 = .ok (.iconst 0, 1) := by decide +kernel
theorem d_Mo_dot_25 : decode b_Mo_dot 25 = .ok (.goto 20, 3) := by decide +kernel
theorem d_Mo_dot_28 : decode b_Mo_dot 28 = .ok (.aload_n 0, 1) := by decide +kernel
theorem d_Mo_dot_29 : decode b_Mo_dot 29 = .ok (.getfield 105, 3) := by decide +kernel
theorem d_Mo_dot_32 : decode b_Mo_dot 32 = .ok (.bipush 64, 2) := by decide +kernel
theorem d_Mo_dot_34 : decode b_Mo_dot 34 = .ok (.iload_n 2, 1) := by decide +kernel
theorem d_Mo_dot_35 : decode b_Mo_dot 35 = .ok (.bipush 16, 2) := by decide +kernel
theorem d_Mo_dot_37 : decode b_Mo_dot 37 = .ok (.iadd, 1) := by decide +kernel
theorem d_Mo_dot_38 : decode b_Mo_dot 38 = .ok (.imul, 1) := by decide +kernel
theorem d_Mo_dot_39 : decode b_Mo_dot 39 = .ok (.iload_n 1, 1) := by decide +kernel
theorem d_Mo_dot_40 : decode b_Mo_dot 40 = .ok (.iadd, 1) := by decide +kernel
theorem d_Mo_dot_41 : decode b_Mo_dot 41 = .ok (.bipush 16, 2) := by decide +kernel
theorem d_Mo_dot_43 : decode b_Mo_dot 43 = .ok (.iadd, 1) := by decide +kernel
theorem d_Mo_dot_44 : decode b_Mo_dot 44 = .ok (.iaload, 1) := by decide +kernel
theorem d_Mo_dot_45 : decode b_Mo_dot 45 = .ok (.ireturn, 1) := by decide +kernel
theorem d_Mo_box_0 : decode b_Mo_box 0 = .ok (.bipush 64, 2) := by decide +kernel
theorem d_Mo_box_2 : decode b_Mo_box 2 = .ok (.istore_n 2, 1) := by decide +kernel
theorem d_Mo_box_3 : decode b_Mo_box 3 = .ok (.iconst (-1), 1) := by decide +kernel
theorem d_Mo_box_4 : decode b_Mo_box 4 = .ok (.istore_n 3, 1) := by decide +kernel
theorem d_Mo_box_5 : decode b_Mo_box 5 = .ok (.iconst 0, 1) := by decide +kernel
theorem d_Mo_box_6 : decode b_Mo_box 6 = .ok (.istore 4, 2) := by decide +kernel
theorem d_Mo_box_8 : decode b_Mo_box 8 = .ok (.iload 4, 2) := by decide +kernel
theorem d_Mo_box_10 : decode b_Mo_box 10 = .ok (.sipush 4096, 3) := by decide +kernel
theorem d_Mo_box_13 : decode b_Mo_box 13 = .ok (.if_icmp .ge 61, 3) := by decide +kernel
theorem d_Mo_box_16 : decode b_Mo_box 16 = .ok (.aload_n 0, 1) := by decide +kernel
theorem d_Mo_box_17 : decode b_Mo_box 17 = .ok (.getfield 105, 3) := by decide +kernel
theorem d_Mo_box_20 : decode b_Mo_box 20 = .ok (.iload 4, 2) := by decide +kernel
theorem d_Mo_box_22 : decode b_Mo_box 22 = .ok (.iaload, 1) := by decide +kernel
theorem d_Mo_box_23 : decode b_Mo_box 23 = .ok (.ifCond .ne 6, 3) := by decide +kernel
theorem d_Mo_box_26 : decode b_Mo_box 26 = .ok (.goto 42, 3) := by decide +kernel
theorem d_Mo_box_29 : decode b_Mo_box 29 = .ok (.iload_n 1, 1) := by decide +kernel
theorem d_Mo_box_30 : decode b_Mo_box 30 = .ok (.iconst 2, 1) := by decide +kernel
theorem d_Mo_box_31 : decode b_Mo_box 31 = .ok (.irem, 1) := by decide +kernel
theorem d_Mo_box_32 : decode b_Mo_box 32 = .ok (.ifCond .ne 11, 3) := by decide +kernel
theorem d_Mo_box_35 : decode b_Mo_box 35 = .ok (.iload 4, 2) := by decide +kernel
theorem d_Mo_box_37 : decode b_Mo_box 37 = .ok (.bipush 64, 2) := by decide +kernel
theorem d_Mo_box_39 : decode b_Mo_box 39 = .ok (.irem, 1) := by decide +kernel
theorem d_Mo_box_40 : decode b_Mo_box 40 = .ok (.goto 8, 3) := by decide +kernel
theorem d_Mo_box_43 : decode b_Mo_box 43 = .ok (.iload 4, 2) := by decide +kernel
theorem d_Mo_box_45 : decode b_Mo_box 45 = .ok (.bipush 64, 2) := by decide +kernel
theorem d_Mo_box_47 : decode b_Mo_box 47 = .ok (.idiv, 1) := by decide +kernel
theorem d_Mo_box_48 : decode b_Mo_box 48 = .ok (.istore 5, 2) := by decide +kernel
theorem d_Mo_box_50 : decode b_Mo_box 50 = .ok (.iload 5, 2) := by decide +kernel
theorem d_Mo_box_52 : decode b_Mo_box 52 = .ok (.iload_n 2, 1) := by decide +kernel
theorem d_Mo_box_53 : decode b_Mo_box 53 = .ok (.if_icmp .ge 6, 3) := by decide +kernel
theorem d_Mo_box_56 : decode b_Mo_box 56 = .ok (.iload 5, 2) := by decide +kernel
theorem d_Mo_box_58 : decode b_Mo_box 58 = .ok (.istore_n 2, 1) := by decide +kernel
theorem d_Mo_box_59 : decode b_Mo_box 59 = .ok (.iload 5, 2) := by decide +kernel
theorem d_Mo_box_61 : decode b_Mo_box 61 = .ok (.iload_n 3, 1) := by decide +kernel
theorem d_Mo_box_62 : decode b_Mo_box 62 = .ok (.if_icmp .le 6, 3) := by decide +kernel
theorem d_Mo_box_65 : decode b_Mo_box 65 = .ok (.iload 5, 2) := by decide +kernel
theorem d_Mo_box_67 : decode b_Mo_box 67 = .ok (.istore_n 3, 1) := by decide +kernel
theorem d_Mo_box_68 : decode b_Mo_box 68 = .ok (.iinc 4 1, 3) := by decide +kernel
theorem d_Mo_box_71 : decode b_Mo_box 71 = .ok (.goto (-63), 3) := by decide +kernel
theorem d_Mo_box_74 : decode b_Mo_box 74 = .ok (.iload_n 3, 1) := by decide +kernel
theorem d_Mo_box_75 : decode b_Mo_box 75 = .ok (.iconst (-1), 1) := by decide +kernel
theorem d_Mo_box_76 : decode b_Mo_box 76 = .ok (.if_icmp .eq 12, 3) := by decide +kernel
theorem d_Mo_box_79 : decode b_Mo_box 79 = .ok (.iload_n 1, 1) := by decide +kernel
theorem d_Mo_box_80 : decode b_Mo_box 80 = .ok (.ifCond .lt 8, 3) := by decide +kernel
theorem d_Mo_box_83 : decode b_Mo_box 83 = .ok (.iload_n 1, 1) := by decide +kernel
theorem d_Mo_box_84 : decode b_Mo_box 84 = .ok (.iconst 3, 1) := by decide +kernel
theorem d_Mo_box_85 : decode b_Mo_box 85 = .ok (.if_icmp .le 7, 3) := by decide +kernel
theorem d_Mo_box_88 : decode b_Mo_box 88 = .ok (.sipush (-1000), 3) := by decide +kernel
theorem d_Mo_box_91 : decode b_Mo_box 91 = .ok (.ireturn, 1) := by decide +kernel
theorem d_Mo_box_92 : decode b_Mo_box 92 = .ok (.iload_n 1, 1) := by decide +kernel
theorem d_Mo_box_93 : decode b_Mo_box 93 = .ok (.iconst 2, 1) := by decide +kernel
theorem d_Mo_box_94 : decode b_Mo_box 94 = .ok (.if_icmp .ge 7, 3) := by decide +kernel
theorem d_Mo_box_97 : decode b_Mo_box 97 = .ok (.iload_n 2, 1) := by decide +kernel
theorem d_Mo_box_98 : decode b_Mo_box 98 = .ok (.goto 4, 3) := by decide +kernel
theorem d_Mo_box_101 : decode b_Mo_box 101 = .ok (.iload_n 3, 1) := by decide +kernel
theorem d_Mo_box_102 : decode b_Mo_box 102 = .ok (.bipush 16, 2) := by decide +kernel
theorem d_Mo_box_104 : decode b_Mo_box 104 = .ok (.isub, 1) := by decide +kernel
theorem d_Mo_box_105 : decode b_Mo_box 105 = .ok (.ireturn, 1) := by decide +kernel
theorem d_Mo_act_0 : decode b_Mo_act 0 = .ok (.aload_n 0, 1) := by decide +kernel
theorem d_Mo_act_1 : decode b_Mo_act 1 = .ok (.iload_n 1, 1) := by decide +kernel
theorem d_Mo_act_2 : decode b_Mo_act 2 = .ok (.invokevirtual 192, 3) := by decide +kernel
theorem d_Mo_act_5 : decode b_Mo_act 5 = .ok (.ifCond .eq 46, 3) := by decide +kernel
theorem d_Mo_act_8 : decode b_Mo_act 8 = .ok (.aload_n 0, 1) := by decide +kernel
theorem d_Mo_act_9 : decode b_Mo_act 9 = .ok (.getfield 44, 3) := by decide +kernel
theorem d_Mo_act_12 : decode b_Mo_act 12 = .ok (.iload_n 1, 1) := by decide +kernel
theorem d_Mo_act_13 : decode b_Mo_act 13 = .ok (.iaload, 1) := by decide +kernel
theorem d_Mo_act_14 : decode b_Mo_act 14 = .ok (.ifCond .gt 37, 3) := by decide +kernel
theorem d_Mo_act_17 : decode b_Mo_act 17 = .ok (.iload_n 2, 1) := by decide +kernel
theorem d_Mo_act_18 : decode b_Mo_act 18 = .ok (.ifCond .lt 33, 3) := by decide +kernel
theorem d_Mo_act_21 : decode b_Mo_act 21 = .ok (.iload_n 2, 1) := by decide +kernel
theorem d_Mo_act_22 : decode b_Mo_act 22 = .ok (.bipush 30, 2) := by decide +kernel
theorem d_Mo_act_24 : decode b_Mo_act 24 = .ok (.if_icmp .gt 27, 3) := by decide +kernel
theorem d_Mo_act_27 : decode b_Mo_act 27 = .ok (.iload_n 3, 1) := by decide +kernel
theorem d_Mo_act_28 : decode b_Mo_act 28 = .ok (.ldc 223, 2) := by decide +kernel
theorem d_Mo_act_30 : decode b_Mo_act 30 = .ok (.if_icmp .lt 21, 3) := by decide +kernel
theorem d_Mo_act_33 : decode b_Mo_act 33 = .ok (.iload_n 3, 1) := by decide +kernel
theorem d_Mo_act_34 : decode b_Mo_act 34 = .ok (.ldc_w 324, 3) := by decide +kernel
theorem d_Mo_act_37 : decode b_Mo_act 37 = .ok (.if_icmp .gt 14, 3) := by decide +kernel
theorem d_Mo_act_40 : decode b_Mo_act 40 = .ok (.aload_n 0, 1) := by decide +kernel
theorem d_Mo_act_41 : decode b_Mo_act 41 = .ok (.getfield 59, 3) := by decide +kernel
theorem d_Mo_act_44 : decode b_Mo_act 44 = .ok (.iload_n 1, 1) := by decide +kernel
theorem d_Mo_act_45 : decode b_Mo_act 45 = .ok (.iaload, 1) := by decide +kernel
theorem d_Mo_act_46 : decode b_Mo_act 46 = .ok (.bipush 100, 2) := by decide +kernel
theorem d_Mo_act_48 : decode b_Mo_act 48 = .ok (.if_icmp .ne 5, 3) := by decide +kernel
theorem d_Mo_act_51 : decode b_Mo_act 51 = .ok (.iconst (-1), 1) := by decide +kernel
theorem d_Mo_act_52 : decode b_Mo_act 52 = .ok (.ireturn, 1) := by decide +kernel
theorem d_Mo_act_53 : decode b_Mo_act 53 = .ok (.aload_n 0, 1) := by decide +kernel
theorem d_Mo_act_54 : decode b_Mo_act 54 = .ok (.getfield 62, 3) := by decide +kernel
theorem d_Mo_act_57 : decode b_Mo_act 57 = .ok (.bipush 100, 2) := by decide +kernel
theorem d_Mo_act_59 : decode b_Mo_act 59 = .ok (.iload_n 1, 1) := by decide +kernel
theorem d_Mo_act_60 : decode b_Mo_act 60 = .ok (.imul, 1) := by decide +kernel
theorem d_Mo_act_61 : decode b_Mo_act 61 = .ok (.aload_n 0, 1) := by decide +kernel
theorem d_Mo_act_62 : decode b_Mo_act 62 = .ok (.getfield 59, 3) := by decide +kernel
theorem d_Mo_act_65 : decode b_Mo_act 65 = .ok (.iload_n 1, 1) := by decide +kernel
theorem d_Mo_act_66 : decode b_Mo_act 66 = .ok (.iaload, 1) := by decide +kernel
theorem d_Mo_act_67 : decode b_Mo_act 67 = .ok (.iadd, 1) := by decide +kernel
theorem d_Mo_act_68 : decode b_Mo_act 68 = .ok (.iload_n 2, 1) := by decide +kernel
theorem d_Mo_act_69 : decode b_Mo_act 69 = .ok (.iastore, 1) := by decide +kernel
theorem d_Mo_act_70 : decode b_Mo_act 70 = .ok (.aload_n 0, 1) := by decide +kernel
theorem d_Mo_act_71 : decode b_Mo_act 71 = .ok (.getfield 65, 3) := by decide +kernel
theorem d_Mo_act_74 : decode b_Mo_act 74 = .ok (.bipush 100, 2) := by decide +kernel
theorem d_Mo_act_76 : decode b_Mo_act 76 = .ok (.iload_n 1, 1) := by decide +kernel
theorem d_Mo_act_77 : decode b_Mo_act 77 = .ok (.imul, 1) := by decide +kernel
theorem d_Mo_act_78 : decode b_Mo_act 78 = .ok (.aload_n 0, 1) := by decide +kernel
theorem d_Mo_act_79 : decode b_Mo_act 79 = .ok (.getfield 59, 3) := by decide +kernel
theorem d_Mo_act_82 : decode b_Mo_act 82 = .ok (.iload_n 1, 1) := by decide +kernel
theorem d_Mo_act_83 : decode b_Mo_act 83 = .ok (.iaload, 1) := by decide +kernel
theorem d_Mo_act_84 : decode b_Mo_act 84 = .ok (.iadd, 1) := by decide +kernel
theorem d_Mo_act_85 : decode b_Mo_act 85 = .ok (.iload_n 3, 1) := by decide +kernel
theorem d_Mo_act_86 : decode b_Mo_act 86 = .ok (.iastore, 1) := by decide +kernel
theorem d_Mo_act_87 : decode b_Mo_act 87 = .ok (.aload_n 0, 1) := by decide +kernel
theorem d_Mo_act_88 : decode b_Mo_act 88 = .ok (.getfield 59, 3) := by decide +kernel
theorem d_Mo_act_91 : decode b_Mo_act 91 = .ok (.iload_n 1, 1) := by decide +kernel
theorem d_Mo_act_92 : decode b_Mo_act 92 = .ok (.dup2, 1) := by decide +kernel
theorem d_Mo_act_93 : decode b_Mo_act 93 = .ok (.iaload, 1) := by decide +kernel
theorem d_Mo_act_94 : decode b_Mo_act 94 = .ok (.iconst 1, 1) := by decide +kernel
theorem d_Mo_act_95 : decode b_Mo_act 95 = .ok (.iadd, 1) := by decide +kernel
theorem d_Mo_act_96 : decode b_Mo_act 96 = .ok (.iastore, 1) := by decide +kernel
theorem d_Mo_act_97 : decode b_Mo_act 97 = .ok (.aload_n 0, 1) := by decide +kernel
theorem d_Mo_act_98 : decode b_Mo_act 98 = .ok (.getfield 59, 3) := by decide +kernel
theorem d_Mo_act_101 : decode b_Mo_act 101 = .ok (.iload_n 1, 1) := by decide +kernel
theorem d_Mo_act_102 : decode b_Mo_act 102 = .ok (.iaload, 1) := by decide +kernel
theorem d_Mo_act_103 : decode b_Mo_act 103 = .ok (.ireturn, 1) := by decide +kernel
theorem d_Mo_wipe_0 : decode b_Mo_wipe 0 = .ok (.aload_n 0, 1) := by decide +kernel
theorem d_Mo_wipe_1 : decode b_Mo_wipe 1 = .ok (.iload_n 1, 1) := by decide +kernel
theorem d_Mo_wipe_2 : decode b_Mo_wipe 2 = .ok (.invokevirtual 192, 3) := by decide +kernel
theorem d_Mo_wipe_5 : decode b_Mo_wipe 5 = .ok (.ifCond .ne 5, 3) := by decide +kernel
theorem d_Mo_wipe_8 : decode b_Mo_wipe 8 = .ok (.iconst (-1), 1) := by decide +kernel
theorem d_Mo_wipe_9 : decode b_Mo_wipe 9 = .ok (.ireturn, 1) := by decide +kernel
theorem d_Mo_wipe_10 : decode b_Mo_wipe 10 = .ok (.aload_n 0, 1) := by decide +kernel
theorem d_Mo_wipe_11 : decode b_Mo_wipe 11 = .ok (.getfield 59, 3) := by decide +kernel
theorem d_Mo_wipe_14 : decode b_Mo_wipe 14 = .ok (.iload_n 1, 1) := by decide +kernel
theorem d_Mo_wipe_15 : decode b_Mo_wipe 15 = .ok (.iaload, 1) := by decide +kernel
theorem d_Mo_wipe_16 : decode b_Mo_wipe 16 = .ok (.istore_n 2, 1) := by decide +kernel
theorem d_Mo_wipe_17 : decode b_Mo_wipe 17 = .ok (.aload_n 0, 1) := by decide +kernel
theorem d_Mo_wipe_18 : decode b_Mo_wipe 18 = .ok (.getfield 59, 3) := by decide +kernel
theorem d_Mo_wipe_21 : decode b_Mo_wipe 21 = .ok (.iload_n 1, 1) := by decide +kernel
theorem d_Mo_wipe_22 : decode b_Mo_wipe 22 = .ok (.iconst 0, 1) := by decide +kernel
theorem d_Mo_wipe_23 : decode b_Mo_wipe 23 = .ok (.iastore, 1) := by decide +kernel
theorem d_Mo_wipe_24 : decode b_Mo_wipe 24 = .ok (.iload_n 2, 1) := by decide +kernel
theorem d_Mo_wipe_25 : decode b_Mo_wipe 25 = .ok (.ireturn, 1) := by decide +kernel
theorem d_Mo_onPoint_0 : decode b_Mo_onPoint 0 = .ok (.iload_n 0, 1) := by decide +kernel
theorem d_Mo_onPoint_1 : decode b_Mo_onPoint 1 = .ok (.bipush 22, 2) := by decide +kernel
theorem d_Mo_onPoint_3 : decode b_Mo_onPoint 3 = .ok (.if_icmp .lt 13, 3) := by decide +kernel
theorem d_Mo_onPoint_6 : decode b_Mo_onPoint 6 = .ok (.iload_n 0, 1) := by decide +kernel
theorem d_Mo_onPoint_7 : decode b_Mo_onPoint 7 = .ok (.bipush 27, 2) := by decide +kernel
theorem d_Mo_onPoint_9 : decode b_Mo_onPoint 9 = .ok (.if_icmp .gt 7, 3) := by decide +kernel
theorem d_Mo_onPoint_12 : decode b_Mo_onPoint 12 = .ok (.iconst 1, 1) := by decide +kernel
theorem d_Mo_onPoint_13 : decode b_Mo_onPoint 13 = .ok (.goto 4, 3) := by decide +kernel
theorem d_Mo_onPoint_16 : decode b_Mo_onPoint 16 = .ok (.iconst 0, 1) := by decide +kernel
theorem d_Mo_onPoint_17 : decode b_Mo_onPoint 17 = .ok (.ireturn, 1) := by decide +kernel
theorem d_Mo_pushes_0 : decode b_Mo_pushes 0 = .ok (.iload_n 0, 1) := by decide +kernel
theorem d_Mo_pushes_1 : decode b_Mo_pushes 1 = .ok (.ifCond .eq 26, 3) := by decide +kernel
theorem d_Mo_pushes_4 : decode b_Mo_pushes 4 = .ok (.iload_n 0, 1) := by decide +kernel
theorem d_Mo_pushes_5 : decode b_Mo_pushes 5 = .ok (.iconst 1, 1) := by decide +kernel
theorem d_Mo_pushes_6 : decode b_Mo_pushes 6 = .ok (.if_icmp .eq 21, 3) := by decide +kernel
theorem d_Mo_pushes_9 : decode b_Mo_pushes 9 = .ok (.iload_n 0, 1) := by decide +kernel
theorem d_Mo_pushes_10 : decode b_Mo_pushes 10 = .ok (.bipush 21, 2) := by decide +kernel
theorem d_Mo_pushes_12 : decode b_Mo_pushes 12 = .ok (.if_icmp .eq 15, 3) := by decide +kernel
theorem d_Mo_pushes_15 : decode b_Mo_pushes 15 = .ok (.iload_n 0, 1) := by decide +kernel
theorem d_Mo_pushes_16 : decode b_Mo_pushes 16 = .ok (.bipush 22, 2) := by decide +kernel
theorem d_Mo_pushes_18 : decode b_Mo_pushes 18 = .ok (.if_icmp .eq 9, 3) := by decide +kernel
theorem d_Mo_pushes_21 : decode b_Mo_pushes 21 = .ok (.iload_n 0, 1) := by decide +kernel
theorem d_Mo_pushes_22 : decode b_Mo_pushes 22 = .ok (.bipush 24, 2) := by decide +kernel
theorem d_Mo_pushes_24 : decode b_Mo_pushes 24 = .ok (.if_icmp .ne 7, 3) := by decide +kernel
theorem d_Mo_pushes_27 : decode b_Mo_pushes 27 = .ok (.iconst 1, 1) := by decide +kernel
theorem d_Mo_pushes_28 : decode b_Mo_pushes 28 = .ok (.goto 4, 3) := by decide +kernel
theorem d_Mo_pushes_31 : decode b_Mo_pushes 31 = .ok (.iconst 0, 1) := by decide +kernel
theorem d_Mo_pushes_32 : decode b_Mo_pushes 32 = .ok (.ireturn, 1) := by decide +kernel
theorem d_Mo_wants_0 : decode b_Mo_wants 0 = .ok (.iload_n 0, 1) := by decide +kernel
theorem d_Mo_wants_1 : decode b_Mo_wants 1 = .ok (.tableswitch 119 1 25 #[115, 115, 117, 117, 117, 117, 117, 115, 115, 115, 115, 117, 117, 117, 117, 119, 115, 119, 119, 115, 119, 119, 115, 119, 115], 115) := by decide +kernel
theorem d_Mo_wants_116 : decode b_Mo_wants 116 = .ok (.iconst 1, 1) := by decide +kernel
theorem d_Mo_wants_117 : decode b_Mo_wants 117 = .ok (.ireturn, 1) := by decide +kernel
theorem d_Mo_wants_118 : decode b_Mo_wants 118 = .ok (.iconst 2, 1) := by decide +kernel
theorem d_Mo_wants_119 : decode b_Mo_wants 119 = .ok (.ireturn, 1) := by decide +kernel
theorem d_Mo_wants_120 : decode b_Mo_wants 120 = .ok (.iconst 0, 1) := by decide +kernel
theorem d_Mo_wants_121 : decode b_Mo_wants 121 = .ok (.ireturn, 1) := by decide +kernel
theorem d_Mo_faultOf_0 : decode b_Mo_faultOf 0 = .ok (.aload_n 0, 1) := by decide +kernel
theorem d_Mo_faultOf_1 : decode b_Mo_faultOf 1 = .ok (.getfield 329, 3) := by decide +kernel
theorem d_Mo_faultOf_4 : decode b_Mo_faultOf 4 = .ok (.iload_n 2, 1) := by decide +kernel
theorem d_Mo_faultOf_5 : decode b_Mo_faultOf 5 = .ok (.invokestatic 332, 3) := by decide +kernel
theorem d_Mo_faultOf_8 : decode b_Mo_faultOf 8 = .ok (.if_icmp .lt 19, 3) := by decide +kernel
theorem d_Mo_faultOf_11 : decode b_Mo_faultOf 11 = .ok (.iload_n 2, 1) := by decide +kernel
theorem d_Mo_faultOf_12 : decode b_Mo_faultOf 12 = .ok (.invokestatic 335, 3) := by decide +kernel
theorem d_Mo_faultOf_15 : decode b_Mo_faultOf 15 = .ok (.ifCond .eq 14, 3) := by decide +kernel
theorem d_Mo_faultOf_18 : decode b_Mo_faultOf 18 = .ok (.aload_n 0, 1) := by decide +kernel
theorem d_Mo_faultOf_19 : decode b_Mo_faultOf 19 = .ok (.getfield 329, 3) := by decide +kernel
theorem d_Mo_faultOf_22 : decode b_Mo_faultOf 22 = .ok (.bipush 32, 2) := by decide +kernel
theorem d_Mo_faultOf_24 : decode b_Mo_faultOf 24 = .ok (.if_icmp .ne 5, 3) := by decide +kernel
theorem d_Mo_faultOf_27 : decode b_Mo_faultOf 27 = .ok (.iconst 1, 1) := by decide +kernel
theorem d_Mo_faultOf_28 : decode b_Mo_faultOf 28 = .ok (.ireturn, 1) := by decide +kernel
theorem d_Mo_faultOf_29 : decode b_Mo_faultOf 29 = .ok (.iload_n 2, 1) := by decide +kernel
theorem d_Mo_faultOf_30 : decode b_Mo_faultOf 30 = .ok (.invokestatic 338, 3) := by decide +kernel
theorem d_Mo_faultOf_33 : decode b_Mo_faultOf 33 = .ok (.ifCond .eq 18, 3) := by decide +kernel
theorem d_Mo_faultOf_36 : decode b_Mo_faultOf 36 = .ok (.iload_n 3, 1) := by decide +kernel
theorem d_Mo_faultOf_37 : decode b_Mo_faultOf 37 = .ok (.ifCond .lt 12, 3) := by decide +kernel
theorem d_Mo_faultOf_40 : decode b_Mo_faultOf 40 = .ok (.iload_n 3, 1) := by decide +kernel
theorem d_Mo_faultOf_41 : decode b_Mo_faultOf 41 = .ok (.aload_n 0, 1) := by decide +kernel
theorem d_Mo_faultOf_42 : decode b_Mo_faultOf 42 = .ok (.iload_n 1, 1) := by decide +kernel
theorem d_Mo_faultOf_43 : decode b_Mo_faultOf 43 = .ok (.invokevirtual 198, 3) := by decide +kernel
theorem d_Mo_faultOf_46 : decode b_Mo_faultOf 46 = .ok (.if_icmp .lt 5, 3) := by decide +kernel
theorem d_Mo_faultOf_49 : decode b_Mo_faultOf 49 = .ok (.iconst 2, 1) := by decide +kernel
theorem d_Mo_faultOf_50 : decode b_Mo_faultOf 50 = .ok (.ireturn, 1) := by decide +kernel
theorem d_Mo_faultOf_51 : decode b_Mo_faultOf 51 = .ok (.iload_n 2, 1) := by decide +kernel
theorem d_Mo_faultOf_52 : decode b_Mo_faultOf 52 = .ok (.bipush 16, 2) := by decide +kernel
theorem d_Mo_faultOf_54 : decode b_Mo_faultOf 54 = .ok (.if_icmp .lt 25, 3) := by decide +kernel
theorem d_Mo_faultOf_57 : decode b_Mo_faultOf 57 = .ok (.iload_n 2, 1) := by decide +kernel
theorem d_Mo_faultOf_58 : decode b_Mo_faultOf 58 = .ok (.bipush 18, 2) := by decide +kernel
theorem d_Mo_faultOf_60 : decode b_Mo_faultOf 60 = .ok (.if_icmp .gt 19, 3) := by decide +kernel
theorem d_Mo_faultOf_63 : decode b_Mo_faultOf 63 = .ok (.iload_n 3, 1) := by decide +kernel
theorem d_Mo_faultOf_64 : decode b_Mo_faultOf 64 = .ok (.ifCond .lt 13, 3) := by decide +kernel
theorem d_Mo_faultOf_67 : decode b_Mo_faultOf 67 = .ok (.iload_n 3, 1) := by decide +kernel
theorem d_Mo_faultOf_68 : decode b_Mo_faultOf 68 = .ok (.aload_n 0, 1) := by decide +kernel
theorem d_Mo_faultOf_69 : decode b_Mo_faultOf 69 = .ok (.getfield 59, 3) := by decide +kernel
theorem d_Mo_faultOf_72 : decode b_Mo_faultOf 72 = .ok (.iload_n 1, 1) := by decide +kernel
theorem d_Mo_faultOf_73 : decode b_Mo_faultOf 73 = .ok (.iaload, 1) := by decide +kernel
theorem d_Mo_faultOf_74 : decode b_Mo_faultOf 74 = .ok (.if_icmp .le 5, 3) := by decide +kernel
theorem d_Mo_faultOf_77 : decode b_Mo_faultOf 77 = .ok (.iconst 3, 1) := by decide +kernel
theorem d_Mo_faultOf_78 : decode b_Mo_faultOf 78 = .ok (.ireturn, 1) := by decide +kernel
theorem d_Mo_faultOf_79 : decode b_Mo_faultOf 79 = .ok (.iload_n 2, 1) := by decide +kernel
theorem d_Mo_faultOf_80 : decode b_Mo_faultOf 80 = .ok (.bipush 18, 2) := by decide +kernel
theorem d_Mo_faultOf_82 : decode b_Mo_faultOf 82 = .ok (.if_icmp .ne 14, 3) := by decide +kernel
theorem d_Mo_faultOf_85 : decode b_Mo_faultOf 85 = .ok (.aload_n 0, 1) := by decide +kernel
theorem d_Mo_faultOf_86 : decode b_Mo_faultOf 86 = .ok (.getfield 341, 3) := by decide +kernel
theorem d_Mo_faultOf_89 : decode b_Mo_faultOf 89 = .ok (.bipush 8, 2) := by decide +kernel
theorem d_Mo_faultOf_91 : decode b_Mo_faultOf 91 = .ok (.if_icmp .ne 5, 3) := by decide +kernel
theorem d_Mo_faultOf_94 : decode b_Mo_faultOf 94 = .ok (.iconst 4, 1) := by decide +kernel
theorem d_Mo_faultOf_95 : decode b_Mo_faultOf 95 = .ok (.ireturn, 1) := by decide +kernel
theorem d_Mo_faultOf_96 : decode b_Mo_faultOf 96 = .ok (.iload_n 2, 1) := by decide +kernel
theorem d_Mo_faultOf_97 : decode b_Mo_faultOf 97 = .ok (.bipush 7, 2) := by decide +kernel
theorem d_Mo_faultOf_99 : decode b_Mo_faultOf 99 = .ok (.if_icmp .ne 21, 3) := by decide +kernel
theorem d_Mo_faultOf_102 : decode b_Mo_faultOf 102 = .ok (.aload_n 0, 1) := by decide +kernel
theorem d_Mo_faultOf_103 : decode b_Mo_faultOf 103 = .ok (.getfield 111, 3) := by decide +kernel
theorem d_Mo_faultOf_106 : decode b_Mo_faultOf 106 = .ok (.aload_n 0, 1) := by decide +kernel
theorem d_Mo_faultOf_107 : decode b_Mo_faultOf 107 = .ok (.getfield 329, 3) := by decide +kernel
theorem d_Mo_faultOf_110 : decode b_Mo_faultOf 110 = .ok (.iconst 1, 1) := by decide +kernel
theorem d_Mo_faultOf_111 : decode b_Mo_faultOf 111 = .ok (.isub, 1) := by decide +kernel
theorem d_Mo_faultOf_112 : decode b_Mo_faultOf 112 = .ok (.laload, 1) := by decide +kernel
theorem d_Mo_faultOf_113 : decode b_Mo_faultOf 113 = .ok (.lconst 0, 1) := by decide +kernel
theorem d_Mo_faultOf_114 : decode b_Mo_faultOf 114 = .ok (.lcmp, 1) := by decide +kernel
theorem d_Mo_faultOf_115 : decode b_Mo_faultOf 115 = .ok (.ifCond .ne 5, 3) := by decide +kernel
theorem d_Mo_faultOf_118 : decode b_Mo_faultOf 118 = .ok (.iconst 5, 1) := by decide +kernel
theorem d_Mo_faultOf_119 : decode b_Mo_faultOf 119 = .ok (.ireturn, 1) := by decide +kernel
theorem d_Mo_faultOf_120 : decode b_Mo_faultOf 120 = .ok (.iload_n 2, 1) := by decide +kernel
theorem d_Mo_faultOf_121 : decode b_Mo_faultOf 121 = .ok (.bipush 20, 2) := by decide +kernel
theorem d_Mo_faultOf_123 : decode b_Mo_faultOf 123 = .ok (.if_icmp .eq 9, 3) := by decide +kernel
theorem d_Mo_faultOf_126 : decode b_Mo_faultOf 126 = .ok (.iload_n 2, 1) := by decide +kernel
theorem d_Mo_faultOf_127 : decode b_Mo_faultOf 127 = .ok (.bipush 21, 2) := by decide +kernel
theorem d_Mo_faultOf_129 : decode b_Mo_faultOf 129 = .ok (.if_icmp .ne 18, 3) := by decide +kernel
theorem d_Mo_faultOf_132 : decode b_Mo_faultOf 132 = .ok (.iload_n 3, 1) := by decide +kernel
theorem d_Mo_faultOf_133 : decode b_Mo_faultOf 133 = .ok (.ifCond .lt 9, 3) := by decide +kernel
theorem d_Mo_faultOf_136 : decode b_Mo_faultOf 136 = .ok (.iload_n 3, 1) := by decide +kernel
theorem d_Mo_faultOf_137 : decode b_Mo_faultOf 137 = .ok (.bipush 15, 2) := by decide +kernel
theorem d_Mo_faultOf_139 : decode b_Mo_faultOf 139 = .ok (.if_icmp .le 8, 3) := by decide +kernel
theorem d_Mo_faultOf_142 : decode b_Mo_faultOf 142 = .ok (.bipush 7, 2) := by decide +kernel
theorem d_Mo_faultOf_144 : decode b_Mo_faultOf 144 = .ok (.goto 4, 3) := by decide +kernel
theorem d_Mo_faultOf_147 : decode b_Mo_faultOf 147 = .ok (.iconst 0, 1) := by decide +kernel
theorem d_Mo_faultOf_148 : decode b_Mo_faultOf 148 = .ok (.ireturn, 1) := by decide +kernel
theorem d_Mo_fitted_0 : decode b_Mo_fitted 0 = .ok (.lload_n 2, 1) := by decide +kernel
theorem d_Mo_fitted_1 : decode b_Mo_fitted 1 = .ok (.lload 6, 2) := by decide +kernel
theorem d_Mo_fitted_3 : decode b_Mo_fitted 3 = .ok (.lcmp, 1) := by decide +kernel
theorem d_Mo_fitted_4 : decode b_Mo_fitted 4 = .ok (.ifCond .gt 7, 3) := by decide +kernel
theorem d_Mo_fitted_7 : decode b_Mo_fitted 7 = .ok (.iconst 1, 1) := by decide +kernel
theorem d_Mo_fitted_8 : decode b_Mo_fitted 8 = .ok (.goto 4, 3) := by decide +kernel
theorem d_Mo_fitted_11 : decode b_Mo_fitted 11 = .ok (.iconst 0, 1) := by decide +kernel
theorem d_Mo_fitted_12 : decode b_Mo_fitted 12 = .ok (.istore 10, 2) := by decide +kernel
theorem d_Mo_fitted_14 : decode b_Mo_fitted 14 = .ok (.iload 10, 2) := by decide +kernel
theorem d_Mo_fitted_16 : decode b_Mo_fitted 16 = .ok (.ifCond .eq 7, 3) := by decide +kernel
theorem d_Mo_fitted_19 : decode b_Mo_fitted 19 = .ok (.lload_n 2, 1) := by decide +kernel
theorem d_Mo_fitted_20 : decode b_Mo_fitted 20 = .ok (.goto 5, 3) := by decide +kernel
theorem d_Mo_fitted_23 : decode b_Mo_fitted 23 = .ok (.lload 6, 2) := by decide +kernel
theorem d_Mo_fitted_25 : decode b_Mo_fitted 25 = .ok (.lstore 11, 2) := by decide +kernel
theorem d_Mo_fitted_27 : decode b_Mo_fitted 27 = .ok (.iload 10, 2) := by decide +kernel
theorem d_Mo_fitted_29 : decode b_Mo_fitted 29 = .ok (.ifCond .eq 8, 3) := by decide +kernel
theorem d_Mo_fitted_32 : decode b_Mo_fitted 32 = .ok (.lload 6, 2) := by decide +kernel
theorem d_Mo_fitted_34 : decode b_Mo_fitted 34 = .ok (.goto 4, 3) := by decide +kernel
theorem d_Mo_fitted_37 : decode b_Mo_fitted 37 = .ok (.lload_n 2, 1) := by decide +kernel
theorem d_Mo_fitted_38 : decode b_Mo_fitted 38 = .ok (.lstore 13, 2) := by decide +kernel
theorem d_Mo_fitted_40 : decode b_Mo_fitted 40 = .ok (.lload_n 0, 1) := by decide +kernel
theorem d_Mo_fitted_41 : decode b_Mo_fitted 41 = .ok (.lload 11, 2) := by decide +kernel
theorem d_Mo_fitted_43 : decode b_Mo_fitted 43 = .ok (.lcmp, 1) := by decide +kernel
theorem d_Mo_fitted_44 : decode b_Mo_fitted 44 = .ok (.ifCond .gt 25, 3) := by decide +kernel
theorem d_Mo_fitted_47 : decode b_Mo_fitted 47 = .ok (.iload 10, 2) := by decide +kernel
theorem d_Mo_fitted_49 : decode b_Mo_fitted 49 = .ok (.ifCond .eq 12, 3) := by decide +kernel
theorem d_Mo_fitted_52 : decode b_Mo_fitted 52 = .ok (.lload_n 0, 1) := by decide +kernel
theorem d_Mo_fitted_53 : decode b_Mo_fitted 53 = .ok (.lload 4, 2) := by decide +kernel
theorem d_Mo_fitted_55 : decode b_Mo_fitted 55 = .ok (.ladd, 1) := by decide +kernel
theorem d_Mo_fitted_56 : decode b_Mo_fitted 56 = .ok (.lload_n 2, 1) := by decide +kernel
theorem d_Mo_fitted_57 : decode b_Mo_fitted 57 = .ok (.lsub, 1) := by decide +kernel
theorem d_Mo_fitted_58 : decode b_Mo_fitted 58 = .ok (.goto 10, 3) := by decide +kernel
theorem d_Mo_fitted_61 : decode b_Mo_fitted 61 = .ok (.lload_n 0, 1) := by decide +kernel
theorem d_Mo_fitted_62 : decode b_Mo_fitted 62 = .ok (.lload 8, 2) := by decide +kernel
theorem d_Mo_fitted_64 : decode b_Mo_fitted 64 = .ok (.ladd, 1) := by decide +kernel
theorem d_Mo_fitted_65 : decode b_Mo_fitted 65 = .ok (.lload 6, 2) := by decide +kernel
theorem d_Mo_fitted_67 : decode b_Mo_fitted 67 = .ok (.lsub, 1) := by decide +kernel
theorem d_Mo_fitted_68 : decode b_Mo_fitted 68 = .ok (.lreturn, 1) := by decide +kernel
theorem d_Mo_fitted_69 : decode b_Mo_fitted 69 = .ok (.lload_n 0, 1) := by decide +kernel
theorem d_Mo_fitted_70 : decode b_Mo_fitted 70 = .ok (.lload 13, 2) := by decide +kernel
theorem d_Mo_fitted_72 : decode b_Mo_fitted 72 = .ok (.lcmp, 1) := by decide +kernel
theorem d_Mo_fitted_73 : decode b_Mo_fitted 73 = .ok (.ifCond .lt 32, 3) := by decide +kernel
theorem d_Mo_fitted_76 : decode b_Mo_fitted 76 = .ok (.iload 10, 2) := by decide +kernel
theorem d_Mo_fitted_78 : decode b_Mo_fitted 78 = .ok (.ifCond .eq 10, 3) := by decide +kernel
theorem d_Mo_fitted_81 : decode b_Mo_fitted 81 = .ok (.lload_n 2, 1) := by decide +kernel
theorem d_Mo_fitted_82 : decode b_Mo_fitted 82 = .ok (.lload 6, 2) := by decide +kernel
theorem d_Mo_fitted_84 : decode b_Mo_fitted 84 = .ok (.lcmp, 1) := by decide +kernel
theorem d_Mo_fitted_85 : decode b_Mo_fitted 85 = .ok (.ifCond .ne 12, 3) := by decide +kernel
theorem d_Mo_fitted_88 : decode b_Mo_fitted 88 = .ok (.lload_n 0, 1) := by decide +kernel
theorem d_Mo_fitted_89 : decode b_Mo_fitted 89 = .ok (.lload 4, 2) := by decide +kernel
theorem d_Mo_fitted_91 : decode b_Mo_fitted 91 = .ok (.ladd, 1) := by decide +kernel
theorem d_Mo_fitted_92 : decode b_Mo_fitted 92 = .ok (.lload_n 2, 1) := by decide +kernel
theorem d_Mo_fitted_93 : decode b_Mo_fitted 93 = .ok (.lsub, 1) := by decide +kernel
theorem d_Mo_fitted_94 : decode b_Mo_fitted 94 = .ok (.goto 10, 3) := by decide +kernel
theorem d_Mo_fitted_97 : decode b_Mo_fitted 97 = .ok (.lload_n 0, 1) := by decide +kernel
theorem d_Mo_fitted_98 : decode b_Mo_fitted 98 = .ok (.lload 8, 2) := by decide +kernel
theorem d_Mo_fitted_100 : decode b_Mo_fitted 100 = .ok (.ladd, 1) := by decide +kernel
theorem d_Mo_fitted_101 : decode b_Mo_fitted 101 = .ok (.lload 6, 2) := by decide +kernel
theorem d_Mo_fitted_103 : decode b_Mo_fitted 103 = .ok (.lsub, 1) := by decide +kernel
theorem d_Mo_fitted_104 : decode b_Mo_fitted 104 = .ok (.lreturn, 1) := by decide +kernel
theorem d_Mo_fitted_105 : decode b_Mo_fitted 105 = .ok (.lload 4, 2) := by decide +kernel
theorem d_Mo_fitted_107 : decode b_Mo_fitted 107 = .ok (.lload_n 0, 1) := by decide +kernel
theorem d_Mo_fitted_108 : decode b_Mo_fitted 108 = .ok (.lload_n 2, 1) := by decide +kernel
theorem d_Mo_fitted_109 : decode b_Mo_fitted 109 = .ok (.lsub, 1) := by decide +kernel
theorem d_Mo_fitted_110 : decode b_Mo_fitted 110 = .ok (.lload 8, 2) := by decide +kernel
theorem d_Mo_fitted_112 : decode b_Mo_fitted 112 = .ok (.lload 4, 2) := by decide +kernel
theorem d_Mo_fitted_114 : decode b_Mo_fitted 114 = .ok (.lsub, 1) := by decide +kernel
theorem d_Mo_fitted_115 : decode b_Mo_fitted 115 = .ok (.lmul, 1) := by decide +kernel
theorem d_Mo_fitted_116 : decode b_Mo_fitted 116 = .ok (.lload 6, 2) := by decide +kernel
theorem d_Mo_fitted_118 : decode b_Mo_fitted 118 = .ok (.lload_n 2, 1) := by decide +kernel
theorem d_Mo_fitted_119 : decode b_Mo_fitted 119 = .ok (.lsub, 1) := by decide +kernel
theorem d_Mo_fitted_120 : decode b_Mo_fitted 120 = .ok (.invokestatic 265, 3) := by decide +kernel
theorem d_Mo_fitted_123 : decode b_Mo_fitted 123 = .ok (.ladd, 1) := by decide +kernel
theorem d_Mo_fitted_124 : decode b_Mo_fitted 124 = .ok (.lreturn, 1) := by decide +kernel
theorem d_Mo_isFar_0 : decode b_Mo_isFar 0 = .ok (.lload_n 0, 1) := by decide +kernel
theorem d_Mo_isFar_1 : decode b_Mo_isFar 1 = .ok (.ldc2_w 325, 3) := by decide +kernel
theorem d_Mo_isFar_4 : decode b_Mo_isFar 4 = .ok (.lcmp, 1) := by decide +kernel
theorem d_Mo_isFar_5 : decode b_Mo_isFar 5 = .ok (.ifCond .gt 11, 3) := by decide +kernel
theorem d_Mo_isFar_8 : decode b_Mo_isFar 8 = .ok (.lload_n 0, 1) := by decide +kernel
theorem d_Mo_isFar_9 : decode b_Mo_isFar 9 = .ok (.ldc2_w 327, 3) := by decide +kernel
theorem d_Mo_isFar_12 : decode b_Mo_isFar 12 = .ok (.lcmp, 1) := by decide +kernel
theorem d_Mo_isFar_13 : decode b_Mo_isFar 13 = .ok (.ifCond .ge 7, 3) := by decide +kernel
theorem d_Mo_isFar_16 : decode b_Mo_isFar 16 = .ok (.iconst 1, 1) := by decide +kernel
theorem d_Mo_isFar_17 : decode b_Mo_isFar 17 = .ok (.goto 4, 3) := by decide +kernel
theorem d_Mo_isFar_20 : decode b_Mo_isFar 20 = .ok (.iconst 0, 1) := by decide +kernel
theorem d_Mo_isFar_21 : decode b_Mo_isFar 21 = .ok (.ireturn, 1) := by decide +kernel
theorem d_Mo_fits_0 : decode b_Mo_fits 0 = .ok (.iconst 0, 1) := by decide +kernel
theorem d_Mo_fits_1 : decode b_Mo_fits 1 = .ok (.istore 5, 2) := by decide +kernel
theorem d_Mo_fits_3 : decode b_Mo_fits 3 = .ok (.iload 5, 2) := by decide +kernel
theorem d_Mo_fits_5 : decode b_Mo_fits 5 = .ok (.aload_n 0, 1) := by decide +kernel
theorem d_Mo_fits_6 : decode b_Mo_fits 6 = .ok (.getfield 16, 3) := by decide +kernel
theorem d_Mo_fits_9 : decode b_Mo_fits 9 = .ok (.iload_n 1, 1) := by decide +kernel
theorem d_Mo_fits_10 : decode b_Mo_fits 10 = .ok (.iaload, 1) := by decide +kernel
theorem d_Mo_fits_11 : decode b_Mo_fits 11 = .ok (.if_icmp .ge 227, 3) := by decide +kernel
theorem d_Mo_fits_14 : decode b_Mo_fits 14 = .ok (.aload_n 0, 1) := by decide +kernel
theorem d_Mo_fits_15 : decode b_Mo_fits 15 = .ok (.iload_n 1, 1) := by decide +kernel
theorem d_Mo_fits_16 : decode b_Mo_fits 16 = .ok (.iload 5, 2) := by decide +kernel
theorem d_Mo_fits_18 : decode b_Mo_fits 18 = .ok (.invokevirtual 209, 3) := by decide +kernel
theorem d_Mo_fits_21 : decode b_Mo_fits 21 = .ok (.istore 6, 2) := by decide +kernel
theorem d_Mo_fits_23 : decode b_Mo_fits 23 = .ok (.aload_n 0, 1) := by decide +kernel
theorem d_Mo_fits_24 : decode b_Mo_fits 24 = .ok (.getfield 26, 3) := by decide +kernel
theorem d_Mo_fits_27 : decode b_Mo_fits 27 = .ok (.bipush 8, 2) := by decide +kernel
theorem d_Mo_fits_29 : decode b_Mo_fits 29 = .ok (.iload_n 1, 1) := by decide +kernel
theorem d_Mo_fits_30 : decode b_Mo_fits 30 = .ok (.imul, 1) := by decide +kernel
theorem d_Mo_fits_31 : decode b_Mo_fits 31 = .ok (.iload 5, 2) := by decide +kernel
theorem d_Mo_fits_33 : decode b_Mo_fits 33 = .ok (.iadd, 1) := by decide +kernel
theorem d_Mo_fits_34 : decode b_Mo_fits 34 = .ok (.iaload, 1) := by decide +kernel
theorem d_Mo_fits_35 : decode b_Mo_fits 35 = .ok (.iload 6, 2) := by decide +kernel
theorem d_Mo_fits_37 : decode b_Mo_fits 37 = .ok (.isub, 1) := by decide +kernel
theorem d_Mo_fits_38 : decode b_Mo_fits 38 = .ok (.istore 7, 2) := by decide +kernel
theorem d_Mo_fits_40 : decode b_Mo_fits 40 = .ok (.iconst 0, 1) := by decide +kernel
theorem d_Mo_fits_41 : decode b_Mo_fits 41 = .ok (.istore 8, 2) := by decide +kernel
theorem d_Mo_fits_43 : decode b_Mo_fits 43 = .ok (.iload 8, 2) := by decide +kernel
theorem d_Mo_fits_45 : decode b_Mo_fits 45 = .ok (.iload 7, 2) := by decide +kernel
theorem d_Mo_fits_47 : decode b_Mo_fits 47 = .ok (.if_icmp .ge 185, 3) := by decide +kernel
theorem d_Mo_fits_50 : decode b_Mo_fits 50 = .ok (.aload 4, 2) := by decide +kernel
theorem d_Mo_fits_52 : decode b_Mo_fits 52 = .ok (.iload 6, 2) := by decide +kernel
theorem d_Mo_fits_54 : decode b_Mo_fits 54 = .ok (.iload 8, 2) := by decide +kernel
theorem d_Mo_fits_56 : decode b_Mo_fits 56 = .ok (.iadd, 1) := by decide +kernel
theorem d_Mo_fits_57 : decode b_Mo_fits 57 = .ok (.baload, 1) := by decide +kernel
theorem d_Mo_fits_58 : decode b_Mo_fits 58 = .ok (.ifCond .eq 6, 3) := by decide +kernel
theorem d_Mo_fits_61 : decode b_Mo_fits 61 = .ok (.goto 165, 3) := by decide +kernel
theorem d_Mo_fits_64 : decode b_Mo_fits 64 = .ok (.iload 8, 2) := by decide +kernel
theorem d_Mo_fits_66 : decode b_Mo_fits 66 = .ok (.istore 9, 2) := by decide +kernel
theorem d_Mo_fits_68 : decode b_Mo_fits 68 = .ok (.iload 8, 2) := by decide +kernel
theorem d_Mo_fits_70 : decode b_Mo_fits 70 = .ok (.istore 10, 2) := by decide +kernel
theorem d_Mo_fits_72 : decode b_Mo_fits 72 = .ok (.iconst 1, 1) := by decide +kernel
theorem d_Mo_fits_73 : decode b_Mo_fits 73 = .ok (.istore 11, 2) := by decide +kernel
theorem d_Mo_fits_75 : decode b_Mo_fits 75 = .ok (.iload 11, 2) := by decide +kernel
theorem d_Mo_fits_77 : decode b_Mo_fits 77 = .ok (.iload 7, 2) := by decide +kernel
theorem d_Mo_fits_79 : decode b_Mo_fits 79 = .ok (.if_icmp .ge 33, 3) := by decide +kernel
theorem d_Mo_fits_82 : decode b_Mo_fits 82 = .ok (.aload 4, 2) := by decide +kernel
theorem d_Mo_fits_84 : decode b_Mo_fits 84 = .ok (.iload 6, 2) := by decide +kernel
theorem d_Mo_fits_86 : decode b_Mo_fits 86 = .ok (.iload 9, 2) := by decide +kernel
theorem d_Mo_fits_88 : decode b_Mo_fits 88 = .ok (.iadd, 1) := by decide +kernel
theorem d_Mo_fits_89 : decode b_Mo_fits 89 = .ok (.baload, 1) := by decide +kernel
theorem d_Mo_fits_90 : decode b_Mo_fits 90 = .ok (.ifCond .ne 22, 3) := by decide +kernel
theorem d_Mo_fits_93 : decode b_Mo_fits 93 = .ok (.iload 8, 2) := by decide +kernel
theorem d_Mo_fits_95 : decode b_Mo_fits 95 = .ok (.iload 7, 2) := by decide +kernel
theorem d_Mo_fits_97 : decode b_Mo_fits 97 = .ok (.iadd, 1) := by decide +kernel
theorem d_Mo_fits_98 : decode b_Mo_fits 98 = .ok (.iload 11, 2) := by decide +kernel
theorem d_Mo_fits_100 : decode b_Mo_fits 100 = .ok (.isub, 1) := by decide +kernel
theorem d_Mo_fits_101 : decode b_Mo_fits 101 = .ok (.iload 7, 2) := by decide +kernel
theorem d_Mo_fits_103 : decode b_Mo_fits 103 = .ok (.irem, 1) := by decide +kernel
theorem d_Mo_fits_104 : decode b_Mo_fits 104 = .ok (.istore 9, 2) := by decide +kernel
theorem d_Mo_fits_106 : decode b_Mo_fits 106 = .ok (.iinc 11 1, 3) := by decide +kernel
theorem d_Mo_fits_109 : decode b_Mo_fits 109 = .ok (.goto (-34), 3) := by decide +kernel
theorem d_Mo_fits_112 : decode b_Mo_fits 112 = .ok (.iconst 1, 1) := by decide +kernel
theorem d_Mo_fits_113 : decode b_Mo_fits 113 = .ok (.istore 11, 2) := by decide +kernel
theorem d_Mo_fits_115 : decode b_Mo_fits 115 = .ok (.iload 11, 2) := by decide +kernel
theorem d_Mo_fits_117 : decode b_Mo_fits 117 = .ok (.iload 7, 2) := by decide +kernel
theorem d_Mo_fits_119 : decode b_Mo_fits 119 = .ok (.if_icmp .ge 30, 3) := by decide +kernel
theorem d_Mo_fits_122 : decode b_Mo_fits 122 = .ok (.aload 4, 2) := by decide +kernel
theorem d_Mo_fits_124 : decode b_Mo_fits 124 = .ok (.iload 6, 2) := by decide +kernel
theorem d_Mo_fits_126 : decode b_Mo_fits 126 = .ok (.iload 10, 2) := by decide +kernel
theorem d_Mo_fits_128 : decode b_Mo_fits 128 = .ok (.iadd, 1) := by decide +kernel
theorem d_Mo_fits_129 : decode b_Mo_fits 129 = .ok (.baload, 1) := by decide +kernel
theorem d_Mo_fits_130 : decode b_Mo_fits 130 = .ok (.ifCond .ne 19, 3) := by decide +kernel
theorem d_Mo_fits_133 : decode b_Mo_fits 133 = .ok (.iload 8, 2) := by decide +kernel
theorem d_Mo_fits_135 : decode b_Mo_fits 135 = .ok (.iload 11, 2) := by decide +kernel
theorem d_Mo_fits_137 : decode b_Mo_fits 137 = .ok (.iadd, 1) := by decide +kernel
theorem d_Mo_fits_138 : decode b_Mo_fits 138 = .ok (.iload 7, 2) := by decide +kernel
theorem d_Mo_fits_140 : decode b_Mo_fits 140 = .ok (.irem, 1) := by decide +kernel
theorem d_Mo_fits_141 : decode b_Mo_fits 141 = .ok (.istore 10, 2) := by decide +kernel
theorem d_Mo_fits_143 : decode b_Mo_fits 143 = .ok (.iinc 11 1, 3) := by decide +kernel
theorem d_Mo_fits_146 : decode b_Mo_fits 146 = .ok (.goto (-31), 3) := by decide +kernel
theorem d_Mo_fits_149 : decode b_Mo_fits 149 = .ok (.aload 4, 2) := by decide +kernel
theorem d_Mo_fits_151 : decode b_Mo_fits 151 = .ok (.iload 6, 2) := by decide +kernel
theorem d_Mo_fits_153 : decode b_Mo_fits 153 = .ok (.iload 9, 2) := by decide +kernel
theorem d_Mo_fits_155 : decode b_Mo_fits 155 = .ok (.iadd, 1) := by decide +kernel
theorem d_Mo_fits_156 : decode b_Mo_fits 156 = .ok (.baload, 1) := by decide +kernel
theorem d_Mo_fits_157 : decode b_Mo_fits 157 = .ok (.ifCond .ne 6, 3) := by decide +kernel
theorem d_Mo_fits_160 : decode b_Mo_fits 160 = .ok (.goto 66, 3) := by decide +kernel
theorem d_Mo_fits_163 : decode b_Mo_fits 163 = .ok (.aload_n 2, 1) := by decide +kernel
theorem d_Mo_fits_164 : decode b_Mo_fits 164 = .ok (.iload 6, 2) := by decide +kernel
theorem d_Mo_fits_166 : decode b_Mo_fits 166 = .ok (.iload 8, 2) := by decide +kernel
theorem d_Mo_fits_168 : decode b_Mo_fits 168 = .ok (.iadd, 1) := by decide +kernel
theorem d_Mo_fits_169 : decode b_Mo_fits 169 = .ok (.laload, 1) := by decide +kernel
theorem d_Mo_fits_170 : decode b_Mo_fits 170 = .ok (.aload_n 2, 1) := by decide +kernel
theorem d_Mo_fits_171 : decode b_Mo_fits 171 = .ok (.iload 6, 2) := by decide +kernel
theorem d_Mo_fits_173 : decode b_Mo_fits 173 = .ok (.iload 9, 2) := by decide +kernel
theorem d_Mo_fits_175 : decode b_Mo_fits 175 = .ok (.iadd, 1) := by decide +kernel
theorem d_Mo_fits_176 : decode b_Mo_fits 176 = .ok (.laload, 1) := by decide +kernel
theorem d_Mo_fits_177 : decode b_Mo_fits 177 = .ok (.aload_n 3, 1) := by decide +kernel
theorem d_Mo_fits_178 : decode b_Mo_fits 178 = .ok (.iload 6, 2) := by decide +kernel
theorem d_Mo_fits_180 : decode b_Mo_fits 180 = .ok (.iload 9, 2) := by decide +kernel
theorem d_Mo_fits_182 : decode b_Mo_fits 182 = .ok (.iadd, 1) := by decide +kernel
theorem d_Mo_fits_183 : decode b_Mo_fits 183 = .ok (.laload, 1) := by decide +kernel
theorem d_Mo_fits_184 : decode b_Mo_fits 184 = .ok (.aload_n 2, 1) := by decide +kernel
theorem d_Mo_fits_185 : decode b_Mo_fits 185 = .ok (.iload 6, 2) := by decide +kernel
theorem d_Mo_fits_187 : decode b_Mo_fits 187 = .ok (.iload 10, 2) := by decide +kernel
theorem d_Mo_fits_189 : decode b_Mo_fits 189 = .ok (.iadd, 1) := by decide +kernel
theorem d_Mo_fits_190 : decode b_Mo_fits 190 = .ok (.laload, 1) := by decide +kernel
theorem d_Mo_fits_191 : decode b_Mo_fits 191 = .ok (.aload_n 3, 1) := by decide +kernel
theorem d_Mo_fits_192 : decode b_Mo_fits 192 = .ok (.iload 6, 2) := by decide +kernel
theorem d_Mo_fits_194 : decode b_Mo_fits 194 = .ok (.iload 10, 2) := by decide +kernel
theorem d_Mo_fits_196 : decode b_Mo_fits 196 = .ok (.iadd, 1) := by decide +kernel
theorem d_Mo_fits_197 : decode b_Mo_fits 197 = .ok (.laload, 1) := by decide +kernel
theorem d_Mo_fits_198 : decode b_Mo_fits 198 = .ok (.invokestatic 374, 3) := by decide +kernel
theorem d_Mo_fits_201 : decode b_Mo_fits 201 = .ok (.lstore 11, 2) := by decide +kernel
theorem d_Mo_fits_203 : decode b_Mo_fits 203 = .ok (.lload 11, 2) := by decide +kernel
theorem d_Mo_fits_205 : decode b_Mo_fits 205 = .ok (.invokestatic 344, 3) := by decide +kernel
theorem d_Mo_fits_208 : decode b_Mo_fits 208 = .ok (.ifCond .eq 9, 3) := by decide +kernel
theorem d_Mo_fits_211 : decode b_Mo_fits 211 = .ok (.aload_n 0, 1) := by decide +kernel
theorem d_Mo_fits_212 : decode b_Mo_fits 212 = .ok (.bipush 8, 2) := by decide +kernel
theorem d_Mo_fits_214 : decode b_Mo_fits 214 = .ok (.putfield 348, 3) := by decide +kernel
theorem d_Mo_fits_217 : decode b_Mo_fits 217 = .ok (.aload_n 3, 1) := by decide +kernel
theorem d_Mo_fits_218 : decode b_Mo_fits 218 = .ok (.iload 6, 2) := by decide +kernel
theorem d_Mo_fits_220 : decode b_Mo_fits 220 = .ok (.iload 8, 2) := by decide +kernel
theorem d_Mo_fits_222 : decode b_Mo_fits 222 = .ok (.iadd, 1) := by decide +kernel
theorem d_Mo_fits_223 : decode b_Mo_fits 223 = .ok (.lload 11, 2) := by decide +kernel
theorem d_Mo_fits_225 : decode b_Mo_fits 225 = .ok (.lastore, 1) := by decide +kernel
theorem d_Mo_fits_226 : decode b_Mo_fits 226 = .ok (.iinc 8 1, 3) := by decide +kernel
theorem d_Mo_fits_229 : decode b_Mo_fits 229 = .ok (.goto (-186), 3) := by decide +kernel
theorem d_Mo_fits_232 : decode b_Mo_fits 232 = .ok (.iinc 5 1, 3) := by decide +kernel
theorem d_Mo_fits_235 : decode b_Mo_fits 235 = .ok (.goto (-232), 3) := by decide +kernel
theorem d_Mo_fits_238 : decode b_Mo_fits 238 = .ok (.return_, 1) := by decide +kernel
theorem d_Mo_made_0 : decode b_Mo_made 0 = .ok (.iload_n 0, 1) := by decide +kernel
theorem d_Mo_made_1 : decode b_Mo_made 1 = .ok (.tableswitch 165 4 14 #[59, 63, 67, 77, 87, 90, 103, 115, 127, 139, 151], 59) := by decide +kernel
theorem d_Mo_made_60 : decode b_Mo_made 60 = .ok (.lload_n 1, 1) := by decide +kernel
theorem d_Mo_made_61 : decode b_Mo_made 61 = .ok (.lload_n 3, 1) := by decide +kernel
theorem d_Mo_made_62 : decode b_Mo_made 62 = .ok (.ladd, 1) := by decide +kernel
theorem d_Mo_made_63 : decode b_Mo_made 63 = .ok (.lreturn, 1) := by decide +kernel
theorem d_Mo_made_64 : decode b_Mo_made 64 = .ok (.lload_n 1, 1) := by decide +kernel
theorem d_Mo_made_65 : decode b_Mo_made 65 = .ok (.lload_n 3, 1) := by decide +kernel
theorem d_Mo_made_66 : decode b_Mo_made 66 = .ok (.lsub, 1) := by decide +kernel
theorem d_Mo_made_67 : decode b_Mo_made 67 = .ok (.lreturn, 1) := by decide +kernel
theorem d_Mo_made_68 : decode b_Mo_made 68 = .ok (.lload_n 1, 1) := by decide +kernel
theorem d_Mo_made_69 : decode b_Mo_made 69 = .ok (.lload_n 3, 1) := by decide +kernel
theorem d_Mo_made_70 : decode b_Mo_made 70 = .ok (.lmul, 1) := by decide +kernel
theorem d_Mo_made_71 : decode b_Mo_made 71 = .ok (.ldc2_w 307, 3) := by decide +kernel
theorem d_Mo_made_74 : decode b_Mo_made 74 = .ok (.invokestatic 265, 3) := by decide +kernel
theorem d_Mo_made_77 : decode b_Mo_made 77 = .ok (.lreturn, 1) := by decide +kernel
theorem d_Mo_made_78 : decode b_Mo_made 78 = .ok (.ldc2_w 307, 3) := by decide +kernel
theorem d_Mo_made_81 : decode b_Mo_made 81 = .ok (.lload_n 1, 1) := by decide +kernel
theorem d_Mo_made_82 : decode b_Mo_made 82 = .ok (.lmul, 1) := by decide +kernel
theorem d_Mo_made_83 : decode b_Mo_made 83 = .ok (.lload_n 3, 1) := by decide +kernel
theorem d_Mo_made_84 : decode b_Mo_made 84 = .ok (.invokestatic 265, 3) := by decide +kernel
theorem d_Mo_made_87 : decode b_Mo_made 87 = .ok (.lreturn, 1) := by decide +kernel
theorem d_Mo_made_88 : decode b_Mo_made 88 = .ok (.lload_n 3, 1) := by decide +kernel
theorem d_Mo_made_89 : decode b_Mo_made 89 = .ok (.lneg, 1) := by decide +kernel
theorem d_Mo_made_90 : decode b_Mo_made 90 = .ok (.lreturn, 1) := by decide +kernel
theorem d_Mo_made_91 : decode b_Mo_made 91 = .ok (.lload_n 3, 1) := by decide +kernel
theorem d_Mo_made_92 : decode b_Mo_made 92 = .ok (.lconst 0, 1) := by decide +kernel
theorem d_Mo_made_93 : decode b_Mo_made 93 = .ok (.lcmp, 1) := by decide +kernel
theorem d_Mo_made_94 : decode b_Mo_made 94 = .ok (.ifCond .ge 8, 3) := by decide +kernel
theorem d_Mo_made_97 : decode b_Mo_made 97 = .ok (.lload_n 3, 1) := by decide +kernel
theorem d_Mo_made_98 : decode b_Mo_made 98 = .ok (.lneg, 1) := by decide +kernel
theorem d_Mo_made_99 : decode b_Mo_made 99 = .ok (.goto 4, 3) := by decide +kernel
theorem d_Mo_made_102 : decode b_Mo_made 102 = .ok (.lload_n 3, 1) := by decide +kernel
theorem d_Mo_made_103 : decode b_Mo_made 103 = .ok (.lreturn, 1) := by decide +kernel
theorem d_Mo_made_104 : decode b_Mo_made 104 = .ok (.ldc2_w 307, 3) := by decide +kernel
theorem d_Mo_made_107 : decode b_Mo_made 107 = .ok (.lload_n 3, 1) := by decide +kernel
theorem d_Mo_made_108 : decode b_Mo_made 108 = .ok (.ldc2_w 307, 3) := by decide +kernel
theorem d_Mo_made_111 : decode b_Mo_made 111 = .ok (.invokestatic 265, 3) := by decide +kernel
theorem d_Mo_made_114 : decode b_Mo_made 114 = .ok (.lmul, 1) := by decide +kernel
theorem d_Mo_made_115 : decode b_Mo_made 115 = .ok (.lreturn, 1) := by decide +kernel
theorem d_Mo_made_116 : decode b_Mo_made 116 = .ok (.ldc2_w 307, 3) := by decide +kernel
theorem d_Mo_made_119 : decode b_Mo_made 119 = .ok (.lload_n 3, 1) := by decide +kernel
theorem d_Mo_made_120 : decode b_Mo_made 120 = .ok (.ldc2_w 307, 3) := by decide +kernel
theorem d_Mo_made_123 : decode b_Mo_made 123 = .ok (.invokestatic 309, 3) := by decide +kernel
theorem d_Mo_made_126 : decode b_Mo_made 126 = .ok (.lmul, 1) := by decide +kernel
theorem d_Mo_made_127 : decode b_Mo_made 127 = .ok (.lreturn, 1) := by decide +kernel
theorem d_Mo_made_128 : decode b_Mo_made 128 = .ok (.lload_n 1, 1) := by decide +kernel
theorem d_Mo_made_129 : decode b_Mo_made 129 = .ok (.lload_n 3, 1) := by decide +kernel
theorem d_Mo_made_130 : decode b_Mo_made 130 = .ok (.lcmp, 1) := by decide +kernel
theorem d_Mo_made_131 : decode b_Mo_made 131 = .ok (.ifCond .ge 7, 3) := by decide +kernel
theorem d_Mo_made_134 : decode b_Mo_made 134 = .ok (.lload_n 1, 1) := by decide +kernel
theorem d_Mo_made_135 : decode b_Mo_made 135 = .ok (.goto 4, 3) := by decide +kernel
theorem d_Mo_made_138 : decode b_Mo_made 138 = .ok (.lload_n 3, 1) := by decide +kernel
theorem d_Mo_made_139 : decode b_Mo_made 139 = .ok (.lreturn, 1) := by decide +kernel
theorem d_Mo_made_140 : decode b_Mo_made 140 = .ok (.lload_n 1, 1) := by decide +kernel
theorem d_Mo_made_141 : decode b_Mo_made 141 = .ok (.lload_n 3, 1) := by decide +kernel
theorem d_Mo_made_142 : decode b_Mo_made 142 = .ok (.lcmp, 1) := by decide +kernel
theorem d_Mo_made_143 : decode b_Mo_made 143 = .ok (.ifCond .le 7, 3) := by decide +kernel
theorem d_Mo_made_146 : decode b_Mo_made 146 = .ok (.lload_n 1, 1) := by decide +kernel
theorem d_Mo_made_147 : decode b_Mo_made 147 = .ok (.goto 4, 3) := by decide +kernel
theorem d_Mo_made_150 : decode b_Mo_made 150 = .ok (.lload_n 3, 1) := by decide +kernel
theorem d_Mo_made_151 : decode b_Mo_made 151 = .ok (.lreturn, 1) := by decide +kernel
theorem d_Mo_made_152 : decode b_Mo_made 152 = .ok (.lload_n 1, 1) := by decide +kernel
theorem d_Mo_made_153 : decode b_Mo_made 153 = .ok (.lload_n 3, 1) := by decide +kernel
theorem d_Mo_made_154 : decode b_Mo_made 154 = .ok (.lcmp, 1) := by decide +kernel
theorem d_Mo_made_155 : decode b_Mo_made 155 = .ok (.ifCond .ge 9, 3) := by decide +kernel
theorem d_Mo_made_158 : decode b_Mo_made 158 = .ok (.ldc2_w 307, 3) := by decide +kernel
theorem d_Mo_made_161 : decode b_Mo_made 161 = .ok (.goto 4, 3) := by decide +kernel
theorem d_Mo_made_164 : decode b_Mo_made 164 = .ok (.lconst 0, 1) := by decide +kernel
theorem d_Mo_made_165 : decode b_Mo_made 165 = .ok (.lreturn, 1) := by decide +kernel
theorem d_Mo_made_166 : decode b_Mo_made 166 = .ok (.lload_n 1, 1) := by decide +kernel
theorem d_Mo_made_167 : decode b_Mo_made 167 = .ok (.lload_n 3, 1) := by decide +kernel
theorem d_Mo_made_168 : decode b_Mo_made 168 = .ok (.lcmp, 1) := by decide +kernel
theorem d_Mo_made_169 : decode b_Mo_made 169 = .ok (.ifCond .ne 9, 3) := by decide +kernel
theorem d_Mo_made_172 : decode b_Mo_made 172 = .ok (.ldc2_w 307, 3) := by decide +kernel
theorem d_Mo_made_175 : decode b_Mo_made 175 = .ok (.goto 4, 3) := by decide +kernel
theorem d_Mo_made_178 : decode b_Mo_made 178 = .ok (.lconst 0, 1) := by decide +kernel
theorem d_Mo_made_179 : decode b_Mo_made 179 = .ok (.lreturn, 1) := by decide +kernel
theorem d_Mo_pop_0 : decode b_Mo_pop 0 = .ok (.aload_n 0, 1) := by decide +kernel
theorem d_Mo_pop_1 : decode b_Mo_pop 1 = .ok (.dup, 1) := by decide +kernel
theorem d_Mo_pop_2 : decode b_Mo_pop 2 = .ok (.getfield 329, 3) := by decide +kernel
theorem d_Mo_pop_5 : decode b_Mo_pop 5 = .ok (.iconst 1, 1) := by decide +kernel
theorem d_Mo_pop_6 : decode b_Mo_pop 6 = .ok (.isub, 1) := by decide +kernel
theorem d_Mo_pop_7 : decode b_Mo_pop 7 = .ok (.putfield 329, 3) := by decide +kernel
theorem d_Mo_pop_10 : decode b_Mo_pop 10 = .ok (.aload_n 0, 1) := by decide +kernel
theorem d_Mo_pop_11 : decode b_Mo_pop 11 = .ok (.getfield 111, 3) := by decide +kernel
theorem d_Mo_pop_14 : decode b_Mo_pop 14 = .ok (.aload_n 0, 1) := by decide +kernel
theorem d_Mo_pop_15 : decode b_Mo_pop 15 = .ok (.getfield 329, 3) := by decide +kernel
theorem d_Mo_pop_18 : decode b_Mo_pop 18 = .ok (.laload, 1) := by decide +kernel
theorem d_Mo_pop_19 : decode b_Mo_pop 19 = .ok (.lreturn, 1) := by decide +kernel
theorem d_Mo_push_0 : decode b_Mo_push 0 = .ok (.lload_n 1, 1) := by decide +kernel
theorem d_Mo_push_1 : decode b_Mo_push 1 = .ok (.invokestatic 344, 3) := by decide +kernel
theorem d_Mo_push_4 : decode b_Mo_push 4 = .ok (.ifCond .eq 9, 3) := by decide +kernel
theorem d_Mo_push_7 : decode b_Mo_push 7 = .ok (.aload_n 0, 1) := by decide +kernel
theorem d_Mo_push_8 : decode b_Mo_push 8 = .ok (.bipush 8, 2) := by decide +kernel
theorem d_Mo_push_10 : decode b_Mo_push 10 = .ok (.putfield 348, 3) := by decide +kernel
theorem d_Mo_push_13 : decode b_Mo_push 13 = .ok (.aload_n 0, 1) := by decide +kernel
theorem d_Mo_push_14 : decode b_Mo_push 14 = .ok (.getfield 111, 3) := by decide +kernel
theorem d_Mo_push_17 : decode b_Mo_push 17 = .ok (.aload_n 0, 1) := by decide +kernel
theorem d_Mo_push_18 : decode b_Mo_push 18 = .ok (.getfield 329, 3) := by decide +kernel
theorem d_Mo_push_21 : decode b_Mo_push 21 = .ok (.lload_n 1, 1) := by decide +kernel
theorem d_Mo_push_22 : decode b_Mo_push 22 = .ok (.lastore, 1) := by decide +kernel
theorem d_Mo_push_23 : decode b_Mo_push 23 = .ok (.aload_n 0, 1) := by decide +kernel
theorem d_Mo_push_24 : decode b_Mo_push 24 = .ok (.dup, 1) := by decide +kernel
theorem d_Mo_push_25 : decode b_Mo_push 25 = .ok (.getfield 329, 3) := by decide +kernel
theorem d_Mo_push_28 : decode b_Mo_push 28 = .ok (.iconst 1, 1) := by decide +kernel
theorem d_Mo_push_29 : decode b_Mo_push 29 = .ok (.iadd, 1) := by decide +kernel
theorem d_Mo_push_30 : decode b_Mo_push 30 = .ok (.putfield 329, 3) := by decide +kernel
theorem d_Mo_push_33 : decode b_Mo_push 33 = .ok (.return_, 1) := by decide +kernel
theorem d_Mo_puts_0 : decode b_Mo_puts 0 = .ok (.lload 4, 2) := by decide +kernel
theorem d_Mo_puts_2 : decode b_Mo_puts 2 = .ok (.invokestatic 344, 3) := by decide +kernel
theorem d_Mo_puts_5 : decode b_Mo_puts 5 = .ok (.ifCond .eq 9, 3) := by decide +kernel
theorem d_Mo_puts_8 : decode b_Mo_puts 8 = .ok (.aload_n 0, 1) := by decide +kernel
theorem d_Mo_puts_9 : decode b_Mo_puts 9 = .ok (.bipush 8, 2) := by decide +kernel
theorem d_Mo_puts_11 : decode b_Mo_puts 11 = .ok (.putfield 348, 3) := by decide +kernel
theorem d_Mo_puts_14 : decode b_Mo_puts 14 = .ok (.aload_n 1, 1) := by decide +kernel
theorem d_Mo_puts_15 : decode b_Mo_puts 15 = .ok (.iload_n 3, 1) := by decide +kernel
theorem d_Mo_puts_16 : decode b_Mo_puts 16 = .ok (.lload 4, 2) := by decide +kernel
theorem d_Mo_puts_18 : decode b_Mo_puts 18 = .ok (.lastore, 1) := by decide +kernel
theorem d_Mo_puts_19 : decode b_Mo_puts 19 = .ok (.aload_n 2, 1) := by decide +kernel
theorem d_Mo_puts_20 : decode b_Mo_puts 20 = .ok (.iload_n 3, 1) := by decide +kernel
theorem d_Mo_puts_21 : decode b_Mo_puts 21 = .ok (.iconst 1, 1) := by decide +kernel
theorem d_Mo_puts_22 : decode b_Mo_puts 22 = .ok (.bastore, 1) := by decide +kernel
theorem d_Mo_puts_23 : decode b_Mo_puts 23 = .ok (.return_, 1) := by decide +kernel
theorem d_Mo_does_0 : decode b_Mo_does 0 = .ok (.aload_n 0, 1) := by decide +kernel
theorem d_Mo_does_1 : decode b_Mo_does 1 = .ok (.getfield 62, 3) := by decide +kernel
theorem d_Mo_does_4 : decode b_Mo_does 4 = .ok (.bipush 100, 2) := by decide +kernel
theorem d_Mo_does_6 : decode b_Mo_does 6 = .ok (.iload_n 1, 1) := by decide +kernel
theorem d_Mo_does_7 : decode b_Mo_does 7 = .ok (.imul, 1) := by decide +kernel
theorem d_Mo_does_8 : decode b_Mo_does 8 = .ok (.iload_n 2, 1) := by decide +kernel
theorem d_Mo_does_9 : decode b_Mo_does 9 = .ok (.iadd, 1) := by decide +kernel
theorem d_Mo_does_10 : decode b_Mo_does 10 = .ok (.iaload, 1) := by decide +kernel
theorem d_Mo_does_11 : decode b_Mo_does 11 = .ok (.istore_n 3, 1) := by decide +kernel
theorem d_Mo_does_12 : decode b_Mo_does 12 = .ok (.aload_n 0, 1) := by decide +kernel
theorem d_Mo_does_13 : decode b_Mo_does 13 = .ok (.getfield 65, 3) := by decide +kernel
theorem d_Mo_does_16 : decode b_Mo_does 16 = .ok (.bipush 100, 2) := by decide +kernel
theorem d_Mo_does_18 : decode b_Mo_does 18 = .ok (.iload_n 1, 1) := by decide +kernel
theorem d_Mo_does_19 : decode b_Mo_does 19 = .ok (.imul, 1) := by decide +kernel
theorem d_Mo_does_20 : decode b_Mo_does 20 = .ok (.iload_n 2, 1) := by decide +kernel
theorem d_Mo_does_21 : decode b_Mo_does 21 = .ok (.iadd, 1) := by decide +kernel
theorem d_Mo_does_22 : decode b_Mo_does 22 = .ok (.iaload, 1) := by decide +kernel
theorem d_Mo_does_23 : decode b_Mo_does 23 = .ok (.istore 4, 2) := by decide +kernel
theorem d_Mo_does_25 : decode b_Mo_does 25 = .ok (.aload_n 0, 1) := by decide +kernel
theorem d_Mo_does_26 : decode b_Mo_does 26 = .ok (.aload_n 0, 1) := by decide +kernel
theorem d_Mo_does_27 : decode b_Mo_does 27 = .ok (.iload_n 1, 1) := by decide +kernel
theorem d_Mo_does_28 : decode b_Mo_does 28 = .ok (.iload_n 3, 1) := by decide +kernel
theorem d_Mo_does_29 : decode b_Mo_does 29 = .ok (.iload 4, 2) := by decide +kernel
theorem d_Mo_does_31 : decode b_Mo_does 31 = .ok (.invokevirtual 351, 3) := by decide +kernel
theorem d_Mo_does_34 : decode b_Mo_does 34 = .ok (.putfield 348, 3) := by decide +kernel
theorem d_Mo_does_37 : decode b_Mo_does 37 = .ok (.aload_n 0, 1) := by decide +kernel
theorem d_Mo_does_38 : decode b_Mo_does 38 = .ok (.getfield 348, 3) := by decide +kernel
theorem d_Mo_does_41 : decode b_Mo_does 41 = .ok (.ifCond .le 5, 3) := by decide +kernel
theorem d_Mo_does_44 : decode b_Mo_does 44 = .ok (.iload_n 2, 1) := by decide +kernel
theorem d_Mo_does_45 : decode b_Mo_does 45 = .ok (.ireturn, 1) := by decide +kernel
theorem d_Mo_does_46 : decode b_Mo_does 46 = .ok (.iload_n 3, 1) := by decide +kernel
theorem d_Mo_does_47 : decode b_Mo_does 47 = .ok (.iconst 4, 1) := by decide +kernel
theorem d_Mo_does_48 : decode b_Mo_does 48 = .ok (.if_icmp .lt 45, 3) := by decide +kernel
theorem d_Mo_does_51 : decode b_Mo_does 51 = .ok (.iload_n 3, 1) := by decide +kernel
theorem d_Mo_does_52 : decode b_Mo_does 52 = .ok (.bipush 15, 2) := by decide +kernel
theorem d_Mo_does_54 : decode b_Mo_does 54 = .ok (.if_icmp .gt 39, 3) := by decide +kernel
theorem d_Mo_does_57 : decode b_Mo_does 57 = .ok (.aload_n 0, 1) := by decide +kernel
theorem d_Mo_does_58 : decode b_Mo_does 58 = .ok (.invokevirtual 354, 3) := by decide +kernel
theorem d_Mo_does_61 : decode b_Mo_does 61 = .ok (.lstore 5, 2) := by decide +kernel
theorem d_Mo_does_63 : decode b_Mo_does 63 = .ok (.aload_n 0, 1) := by decide +kernel
theorem d_Mo_does_64 : decode b_Mo_does 64 = .ok (.iload_n 3, 1) := by decide +kernel
theorem d_Mo_does_65 : decode b_Mo_does 65 = .ok (.iload_n 3, 1) := by decide +kernel
theorem d_Mo_does_66 : decode b_Mo_does 66 = .ok (.invokestatic 332, 3) := by decide +kernel
theorem d_Mo_does_69 : decode b_Mo_does 69 = .ok (.iconst 2, 1) := by decide +kernel
theorem d_Mo_does_70 : decode b_Mo_does 70 = .ok (.if_icmp .ne 10, 3) := by decide +kernel
theorem d_Mo_does_73 : decode b_Mo_does 73 = .ok (.aload_n 0, 1) := by decide +kernel
theorem d_Mo_does_74 : decode b_Mo_does 74 = .ok (.invokevirtual 354, 3) := by decide +kernel
theorem d_Mo_does_77 : decode b_Mo_does 77 = .ok (.goto 4, 3) := by decide +kernel
theorem d_Mo_does_80 : decode b_Mo_does 80 = .ok (.lconst 0, 1) := by decide +kernel
theorem d_Mo_does_81 : decode b_Mo_does 81 = .ok (.lload 5, 2) := by decide +kernel
theorem d_Mo_does_83 : decode b_Mo_does 83 = .ok (.invokestatic 358, 3) := by decide +kernel
theorem d_Mo_does_86 : decode b_Mo_does 86 = .ok (.invokevirtual 362, 3) := by decide +kernel
theorem d_Mo_does_89 : decode b_Mo_does 89 = .ok (.iload_n 2, 1) := by decide +kernel
theorem d_Mo_does_90 : decode b_Mo_does 90 = .ok (.iconst 1, 1) := by decide +kernel
theorem d_Mo_does_91 : decode b_Mo_does 91 = .ok (.iadd, 1) := by decide +kernel
theorem d_Mo_does_92 : decode b_Mo_does 92 = .ok (.ireturn, 1) := by decide +kernel
theorem d_Mo_does_93 : decode b_Mo_does 93 = .ok (.iload_n 3, 1) := by decide +kernel
theorem d_Mo_does_94 : decode b_Mo_does 94 = .ok (.tableswitch 512 0 29 #[134, 144, 162, 175, 512, 512, 512, 512, 512, 512, 512, 512, 512, 512, 512, 512, 226, 229, 247, 272, 306, 320, 334, 348, 369, 383, 404, 438, 472, 492], 134) := by decide +kernel
theorem d_Mo_does_228 : decode b_Mo_does 228 = .ok (.aload_n 0, 1) := by decide +kernel
theorem d_Mo_does_229 : decode b_Mo_does 229 = .ok (.iload 4, 2) := by decide +kernel
theorem d_Mo_does_231 : decode b_Mo_does 231 = .ok (.i2l, 1) := by decide +kernel
theorem d_Mo_does_232 : decode b_Mo_does 232 = .ok (.invokevirtual 362, 3) := by decide +kernel
theorem d_Mo_does_235 : decode b_Mo_does 235 = .ok (.goto 378, 3) := by decide +kernel
theorem d_Mo_does_238 : decode b_Mo_does 238 = .ok (.aload_n 0, 1) := by decide +kernel
theorem d_Mo_does_239 : decode b_Mo_does 239 = .ok (.aload_n 0, 1) := by decide +kernel
theorem d_Mo_does_240 : decode b_Mo_does 240 = .ok (.getfield 111, 3) := by decide +kernel
theorem d_Mo_does_243 : decode b_Mo_does 243 = .ok (.aload_n 0, 1) := by decide +kernel
theorem d_Mo_does_244 : decode b_Mo_does 244 = .ok (.getfield 329, 3) := by decide +kernel
theorem d_Mo_does_247 : decode b_Mo_does 247 = .ok (.iconst 1, 1) := by decide +kernel
theorem d_Mo_does_248 : decode b_Mo_does 248 = .ok (.isub, 1) := by decide +kernel
theorem d_Mo_does_249 : decode b_Mo_does 249 = .ok (.laload, 1) := by decide +kernel
theorem d_Mo_does_250 : decode b_Mo_does 250 = .ok (.invokevirtual 362, 3) := by decide +kernel
theorem d_Mo_does_253 : decode b_Mo_does 253 = .ok (.goto 360, 3) := by decide +kernel
theorem d_Mo_does_256 : decode b_Mo_does 256 = .ok (.aload_n 0, 1) := by decide +kernel
theorem d_Mo_does_257 : decode b_Mo_does 257 = .ok (.dup, 1) := by decide +kernel
theorem d_Mo_does_258 : decode b_Mo_does 258 = .ok (.getfield 329, 3) := by decide +kernel
theorem d_Mo_does_261 : decode b_Mo_does 261 = .ok (.iconst 1, 1) := by decide +kernel
theorem d_Mo_does_262 : decode b_Mo_does 262 = .ok (.isub, 1) := by decide +kernel
theorem d_Mo_does_263 : decode b_Mo_does 263 = .ok (.putfield 329, 3) := by decide +kernel
theorem d_Mo_does_266 : decode b_Mo_does 266 = .ok (.goto 347, 3) := by decide +kernel
theorem d_Mo_does_269 : decode b_Mo_does 269 = .ok (.aload_n 0, 1) := by decide +kernel
theorem d_Mo_does_270 : decode b_Mo_does 270 = .ok (.getfield 111, 3) := by decide +kernel
theorem d_Mo_does_273 : decode b_Mo_does 273 = .ok (.aload_n 0, 1) := by decide +kernel
theorem d_Mo_does_274 : decode b_Mo_does 274 = .ok (.getfield 329, 3) := by decide +kernel
theorem d_Mo_does_277 : decode b_Mo_does 277 = .ok (.iconst 1, 1) := by decide +kernel
theorem d_Mo_does_278 : decode b_Mo_does 278 = .ok (.isub, 1) := by decide +kernel
theorem d_Mo_does_279 : decode b_Mo_does 279 = .ok (.laload, 1) := by decide +kernel
theorem d_Mo_does_280 : decode b_Mo_does 280 = .ok (.lstore 5, 2) := by decide +kernel
theorem d_Mo_does_282 : decode b_Mo_does 282 = .ok (.aload_n 0, 1) := by decide +kernel
theorem d_Mo_does_283 : decode b_Mo_does 283 = .ok (.getfield 111, 3) := by decide +kernel
theorem d_Mo_does_286 : decode b_Mo_does 286 = .ok (.aload_n 0, 1) := by decide +kernel
theorem d_Mo_does_287 : decode b_Mo_does 287 = .ok (.getfield 329, 3) := by decide +kernel
theorem d_Mo_does_290 : decode b_Mo_does 290 = .ok (.iconst 1, 1) := by decide +kernel
theorem d_Mo_does_291 : decode b_Mo_does 291 = .ok (.isub, 1) := by decide +kernel
theorem d_Mo_does_292 : decode b_Mo_does 292 = .ok (.aload_n 0, 1) := by decide +kernel
theorem d_Mo_does_293 : decode b_Mo_does 293 = .ok (.getfield 111, 3) := by decide +kernel
theorem d_Mo_does_296 : decode b_Mo_does 296 = .ok (.aload_n 0, 1) := by decide +kernel
theorem d_Mo_does_297 : decode b_Mo_does 297 = .ok (.getfield 329, 3) := by decide +kernel
theorem d_Mo_does_300 : decode b_Mo_does 300 = .ok (.iconst 2, 1) := by decide +kernel
theorem d_Mo_does_301 : decode b_Mo_does 301 = .ok (.isub, 1) := by decide +kernel
theorem d_Mo_does_302 : decode b_Mo_does 302 = .ok (.laload, 1) := by decide +kernel
theorem d_Mo_does_303 : decode b_Mo_does 303 = .ok (.lastore, 1) := by decide +kernel
theorem d_Mo_does_304 : decode b_Mo_does 304 = .ok (.aload_n 0, 1) := by decide +kernel
theorem d_Mo_does_305 : decode b_Mo_does 305 = .ok (.getfield 111, 3) := by decide +kernel
theorem d_Mo_does_308 : decode b_Mo_does 308 = .ok (.aload_n 0, 1) := by decide +kernel
theorem d_Mo_does_309 : decode b_Mo_does 309 = .ok (.getfield 329, 3) := by decide +kernel
theorem d_Mo_does_312 : decode b_Mo_does 312 = .ok (.iconst 2, 1) := by decide +kernel
theorem d_Mo_does_313 : decode b_Mo_does 313 = .ok (.isub, 1) := by decide +kernel
theorem d_Mo_does_314 : decode b_Mo_does 314 = .ok (.lload 5, 2) := by decide +kernel
theorem d_Mo_does_316 : decode b_Mo_does 316 = .ok (.lastore, 1) := by decide +kernel
theorem d_Mo_does_317 : decode b_Mo_does 317 = .ok (.goto 296, 3) := by decide +kernel
theorem d_Mo_does_320 : decode b_Mo_does 320 = .ok (.iload 4, 2) := by decide +kernel
theorem d_Mo_does_322 : decode b_Mo_does 322 = .ok (.ireturn, 1) := by decide +kernel
theorem d_Mo_does_323 : decode b_Mo_does 323 = .ok (.aload_n 0, 1) := by decide +kernel
theorem d_Mo_does_324 : decode b_Mo_does 324 = .ok (.invokevirtual 354, 3) := by decide +kernel
theorem d_Mo_does_327 : decode b_Mo_does 327 = .ok (.lconst 0, 1) := by decide +kernel
theorem d_Mo_does_328 : decode b_Mo_does 328 = .ok (.lcmp, 1) := by decide +kernel
theorem d_Mo_does_329 : decode b_Mo_does 329 = .ok (.ifCond .ne 8, 3) := by decide +kernel
theorem d_Mo_does_332 : decode b_Mo_does 332 = .ok (.iload 4, 2) := by decide +kernel
theorem d_Mo_does_334 : decode b_Mo_does 334 = .ok (.goto 6, 3) := by decide +kernel
theorem d_Mo_does_337 : decode b_Mo_does 337 = .ok (.iload_n 2, 1) := by decide +kernel
theorem d_Mo_does_338 : decode b_Mo_does 338 = .ok (.iconst 1, 1) := by decide +kernel
theorem d_Mo_does_339 : decode b_Mo_does 339 = .ok (.iadd, 1) := by decide +kernel
theorem d_Mo_does_340 : decode b_Mo_does 340 = .ok (.ireturn, 1) := by decide +kernel
theorem d_Mo_does_341 : decode b_Mo_does 341 = .ok (.aload_n 0, 1) := by decide +kernel
theorem d_Mo_does_342 : decode b_Mo_does 342 = .ok (.getfield 117, 3) := by decide +kernel
theorem d_Mo_does_345 : decode b_Mo_does 345 = .ok (.aload_n 0, 1) := by decide +kernel
theorem d_Mo_does_346 : decode b_Mo_does 346 = .ok (.getfield 341, 3) := by decide +kernel
theorem d_Mo_does_349 : decode b_Mo_does 349 = .ok (.iload_n 2, 1) := by decide +kernel
theorem d_Mo_does_350 : decode b_Mo_does 350 = .ok (.iconst 1, 1) := by decide +kernel
theorem d_Mo_does_351 : decode b_Mo_does 351 = .ok (.iadd, 1) := by decide +kernel
theorem d_Mo_does_352 : decode b_Mo_does 352 = .ok (.iastore, 1) := by decide +kernel
theorem d_Mo_does_353 : decode b_Mo_does 353 = .ok (.aload_n 0, 1) := by decide +kernel
theorem d_Mo_does_354 : decode b_Mo_does 354 = .ok (.dup, 1) := by decide +kernel
theorem d_Mo_does_355 : decode b_Mo_does 355 = .ok (.getfield 341, 3) := by decide +kernel
theorem d_Mo_does_358 : decode b_Mo_does 358 = .ok (.iconst 1, 1) := by decide +kernel
theorem d_Mo_does_359 : decode b_Mo_does 359 = .ok (.iadd, 1) := by decide +kernel
theorem d_Mo_does_360 : decode b_Mo_does 360 = .ok (.putfield 341, 3) := by decide +kernel
theorem d_Mo_does_363 : decode b_Mo_does 363 = .ok (.iload 4, 2) := by decide +kernel
theorem d_Mo_does_365 : decode b_Mo_does 365 = .ok (.ireturn, 1) := by decide +kernel
theorem d_Mo_does_366 : decode b_Mo_does 366 = .ok (.aload_n 0, 1) := by decide +kernel
theorem d_Mo_does_367 : decode b_Mo_does 367 = .ok (.getfield 341, 3) := by decide +kernel
theorem d_Mo_does_370 : decode b_Mo_does 370 = .ok (.ifCond .ne 10, 3) := by decide +kernel
theorem d_Mo_does_373 : decode b_Mo_does 373 = .ok (.aload_n 0, 1) := by decide +kernel
theorem d_Mo_does_374 : decode b_Mo_does 374 = .ok (.getfield 59, 3) := by decide +kernel
theorem d_Mo_does_377 : decode b_Mo_does 377 = .ok (.iload_n 1, 1) := by decide +kernel
theorem d_Mo_does_378 : decode b_Mo_does 378 = .ok (.iaload, 1) := by decide +kernel
theorem d_Mo_does_379 : decode b_Mo_does 379 = .ok (.ireturn, 1) := by decide +kernel
theorem d_Mo_does_380 : decode b_Mo_does 380 = .ok (.aload_n 0, 1) := by decide +kernel
theorem d_Mo_does_381 : decode b_Mo_does 381 = .ok (.dup, 1) := by decide +kernel
theorem d_Mo_does_382 : decode b_Mo_does 382 = .ok (.getfield 341, 3) := by decide +kernel
theorem d_Mo_does_385 : decode b_Mo_does 385 = .ok (.iconst 1, 1) := by decide +kernel
theorem d_Mo_does_386 : decode b_Mo_does 386 = .ok (.isub, 1) := by decide +kernel
theorem d_Mo_does_387 : decode b_Mo_does 387 = .ok (.putfield 341, 3) := by decide +kernel
theorem d_Mo_does_390 : decode b_Mo_does 390 = .ok (.aload_n 0, 1) := by decide +kernel
theorem d_Mo_does_391 : decode b_Mo_does 391 = .ok (.getfield 117, 3) := by decide +kernel
theorem d_Mo_does_394 : decode b_Mo_does 394 = .ok (.aload_n 0, 1) := by decide +kernel
theorem d_Mo_does_395 : decode b_Mo_does 395 = .ok (.getfield 341, 3) := by decide +kernel
theorem d_Mo_does_398 : decode b_Mo_does 398 = .ok (.iaload, 1) := by decide +kernel
theorem d_Mo_does_399 : decode b_Mo_does 399 = .ok (.ireturn, 1) := by decide +kernel
theorem d_Mo_does_400 : decode b_Mo_does 400 = .ok (.aload_n 0, 1) := by decide +kernel
theorem d_Mo_does_401 : decode b_Mo_does 401 = .ok (.getfield 114, 3) := by decide +kernel
theorem d_Mo_does_404 : decode b_Mo_does 404 = .ok (.iload 4, 2) := by decide +kernel
theorem d_Mo_does_406 : decode b_Mo_does 406 = .ok (.aload_n 0, 1) := by decide +kernel
theorem d_Mo_does_407 : decode b_Mo_does 407 = .ok (.invokevirtual 354, 3) := by decide +kernel
theorem d_Mo_does_410 : decode b_Mo_does 410 = .ok (.lastore, 1) := by decide +kernel
theorem d_Mo_does_411 : decode b_Mo_does 411 = .ok (.goto 202, 3) := by decide +kernel
theorem d_Mo_does_414 : decode b_Mo_does 414 = .ok (.aload_n 0, 1) := by decide +kernel
theorem d_Mo_does_415 : decode b_Mo_does 415 = .ok (.aload_n 0, 1) := by decide +kernel
theorem d_Mo_does_416 : decode b_Mo_does 416 = .ok (.getfield 114, 3) := by decide +kernel
theorem d_Mo_does_419 : decode b_Mo_does 419 = .ok (.iload 4, 2) := by decide +kernel
theorem d_Mo_does_421 : decode b_Mo_does 421 = .ok (.laload, 1) := by decide +kernel
theorem d_Mo_does_422 : decode b_Mo_does 422 = .ok (.invokevirtual 362, 3) := by decide +kernel
theorem d_Mo_does_425 : decode b_Mo_does 425 = .ok (.goto 188, 3) := by decide +kernel
theorem d_Mo_does_428 : decode b_Mo_does 428 = .ok (.aload_n 0, 1) := by decide +kernel
theorem d_Mo_does_429 : decode b_Mo_does 429 = .ok (.aload_n 0, 1) := by decide +kernel
theorem d_Mo_does_430 : decode b_Mo_does 430 = .ok (.getfield 126, 3) := by decide +kernel
theorem d_Mo_does_433 : decode b_Mo_does 433 = .ok (.iload 4, 2) := by decide +kernel
theorem d_Mo_does_435 : decode b_Mo_does 435 = .ok (.laload, 1) := by decide +kernel
theorem d_Mo_does_436 : decode b_Mo_does 436 = .ok (.invokevirtual 362, 3) := by decide +kernel
theorem d_Mo_does_439 : decode b_Mo_does 439 = .ok (.goto 174, 3) := by decide +kernel
theorem d_Mo_does_442 : decode b_Mo_does 442 = .ok (.aload_n 0, 1) := by decide +kernel
theorem d_Mo_does_443 : decode b_Mo_does 443 = .ok (.aload_n 0, 1) := by decide +kernel
theorem d_Mo_does_444 : decode b_Mo_does 444 = .ok (.getfield 126, 3) := by decide +kernel
theorem d_Mo_does_447 : decode b_Mo_does 447 = .ok (.aload_n 0, 1) := by decide +kernel
theorem d_Mo_does_448 : decode b_Mo_does 448 = .ok (.getfield 132, 3) := by decide +kernel
theorem d_Mo_does_451 : decode b_Mo_does 451 = .ok (.iload 4, 2) := by decide +kernel
theorem d_Mo_does_453 : decode b_Mo_does 453 = .ok (.aload_n 0, 1) := by decide +kernel
theorem d_Mo_does_454 : decode b_Mo_does 454 = .ok (.invokevirtual 354, 3) := by decide +kernel
theorem d_Mo_does_457 : decode b_Mo_does 457 = .ok (.invokevirtual 366, 3) := by decide +kernel
theorem d_Mo_does_460 : decode b_Mo_does 460 = .ok (.goto 153, 3) := by decide +kernel
theorem d_Mo_does_463 : decode b_Mo_does 463 = .ok (.aload_n 0, 1) := by decide +kernel
theorem d_Mo_does_464 : decode b_Mo_does 464 = .ok (.aload_n 0, 1) := by decide +kernel
theorem d_Mo_does_465 : decode b_Mo_does 465 = .ok (.getfield 129, 3) := by decide +kernel
theorem d_Mo_does_468 : decode b_Mo_does 468 = .ok (.iload 4, 2) := by decide +kernel
theorem d_Mo_does_470 : decode b_Mo_does 470 = .ok (.laload, 1) := by decide +kernel
theorem d_Mo_does_471 : decode b_Mo_does 471 = .ok (.invokevirtual 362, 3) := by decide +kernel
theorem d_Mo_does_474 : decode b_Mo_does 474 = .ok (.goto 139, 3) := by decide +kernel
theorem d_Mo_does_477 : decode b_Mo_does 477 = .ok (.aload_n 0, 1) := by decide +kernel
theorem d_Mo_does_478 : decode b_Mo_does 478 = .ok (.aload_n 0, 1) := by decide +kernel
theorem d_Mo_does_479 : decode b_Mo_does 479 = .ok (.getfield 129, 3) := by decide +kernel
theorem d_Mo_does_482 : decode b_Mo_does 482 = .ok (.aload_n 0, 1) := by decide +kernel
theorem d_Mo_does_483 : decode b_Mo_does 483 = .ok (.getfield 135, 3) := by decide +kernel
theorem d_Mo_does_486 : decode b_Mo_does 486 = .ok (.iload 4, 2) := by decide +kernel
theorem d_Mo_does_488 : decode b_Mo_does 488 = .ok (.aload_n 0, 1) := by decide +kernel
theorem d_Mo_does_489 : decode b_Mo_does 489 = .ok (.invokevirtual 354, 3) := by decide +kernel
theorem d_Mo_does_492 : decode b_Mo_does 492 = .ok (.invokevirtual 366, 3) := by decide +kernel
theorem d_Mo_does_495 : decode b_Mo_does 495 = .ok (.goto 118, 3) := by decide +kernel
theorem d_Mo_does_498 : decode b_Mo_does 498 = .ok (.aload_n 0, 1) := by decide +kernel
theorem d_Mo_does_499 : decode b_Mo_does 499 = .ok (.aload_n 0, 1) := by decide +kernel
theorem d_Mo_does_500 : decode b_Mo_does 500 = .ok (.getfield 126, 3) := by decide +kernel
theorem d_Mo_does_503 : decode b_Mo_does 503 = .ok (.aload_n 0, 1) := by decide +kernel
theorem d_Mo_does_504 : decode b_Mo_does 504 = .ok (.getfield 132, 3) := by decide +kernel
theorem d_Mo_does_507 : decode b_Mo_does 507 = .ok (.iload 4, 2) := by decide +kernel
theorem d_Mo_does_509 : decode b_Mo_does 509 = .ok (.ldc2_w 307, 3) := by decide +kernel
theorem d_Mo_does_512 : decode b_Mo_does 512 = .ok (.aload_n 0, 1) := by decide +kernel
theorem d_Mo_does_513 : decode b_Mo_does 513 = .ok (.getfield 126, 3) := by decide +kernel
theorem d_Mo_does_516 : decode b_Mo_does 516 = .ok (.iload 4, 2) := by decide +kernel
theorem d_Mo_does_518 : decode b_Mo_does 518 = .ok (.laload, 1) := by decide +kernel
theorem d_Mo_does_519 : decode b_Mo_does 519 = .ok (.ldc2_w 307, 3) := by decide +kernel
theorem d_Mo_does_522 : decode b_Mo_does 522 = .ok (.invokestatic 265, 3) := by decide +kernel
theorem d_Mo_does_525 : decode b_Mo_does 525 = .ok (.lmul, 1) := by decide +kernel
theorem d_Mo_does_526 : decode b_Mo_does 526 = .ok (.invokevirtual 366, 3) := by decide +kernel
theorem d_Mo_does_529 : decode b_Mo_does 529 = .ok (.goto 84, 3) := by decide +kernel
theorem d_Mo_does_532 : decode b_Mo_does 532 = .ok (.aload_n 0, 1) := by decide +kernel
theorem d_Mo_does_533 : decode b_Mo_does 533 = .ok (.aload_n 0, 1) := by decide +kernel
theorem d_Mo_does_534 : decode b_Mo_does 534 = .ok (.getfield 129, 3) := by decide +kernel
theorem d_Mo_does_537 : decode b_Mo_does 537 = .ok (.aload_n 0, 1) := by decide +kernel
theorem d_Mo_does_538 : decode b_Mo_does 538 = .ok (.getfield 135, 3) := by decide +kernel
theorem d_Mo_does_541 : decode b_Mo_does 541 = .ok (.iload 4, 2) := by decide +kernel
theorem d_Mo_does_543 : decode b_Mo_does 543 = .ok (.ldc2_w 307, 3) := by decide +kernel
theorem d_Mo_does_546 : decode b_Mo_does 546 = .ok (.aload_n 0, 1) := by decide +kernel
theorem d_Mo_does_547 : decode b_Mo_does 547 = .ok (.getfield 129, 3) := by decide +kernel
theorem d_Mo_does_550 : decode b_Mo_does 550 = .ok (.iload 4, 2) := by decide +kernel
theorem d_Mo_does_552 : decode b_Mo_does 552 = .ok (.laload, 1) := by decide +kernel
theorem d_Mo_does_553 : decode b_Mo_does 553 = .ok (.ldc2_w 307, 3) := by decide +kernel
theorem d_Mo_does_556 : decode b_Mo_does 556 = .ok (.invokestatic 265, 3) := by decide +kernel
theorem d_Mo_does_559 : decode b_Mo_does 559 = .ok (.lmul, 1) := by decide +kernel
theorem d_Mo_does_560 : decode b_Mo_does 560 = .ok (.invokevirtual 366, 3) := by decide +kernel
theorem d_Mo_does_563 : decode b_Mo_does 563 = .ok (.goto 50, 3) := by decide +kernel
theorem d_Mo_does_566 : decode b_Mo_does 566 = .ok (.aload_n 0, 1) := by decide +kernel
theorem d_Mo_does_567 : decode b_Mo_does 567 = .ok (.iload_n 1, 1) := by decide +kernel
theorem d_Mo_does_568 : decode b_Mo_does 568 = .ok (.aload_n 0, 1) := by decide +kernel
theorem d_Mo_does_569 : decode b_Mo_does 569 = .ok (.getfield 120, 3) := by decide +kernel
theorem d_Mo_does_572 : decode b_Mo_does 572 = .ok (.aload_n 0, 1) := by decide +kernel
theorem d_Mo_does_573 : decode b_Mo_does 573 = .ok (.getfield 126, 3) := by decide +kernel
theorem d_Mo_does_576 : decode b_Mo_does 576 = .ok (.aload_n 0, 1) := by decide +kernel
theorem d_Mo_does_577 : decode b_Mo_does 577 = .ok (.getfield 132, 3) := by decide +kernel
theorem d_Mo_does_580 : decode b_Mo_does 580 = .ok (.invokevirtual 370, 3) := by decide +kernel
theorem d_Mo_does_583 : decode b_Mo_does 583 = .ok (.goto 30, 3) := by decide +kernel
theorem d_Mo_does_586 : decode b_Mo_does 586 = .ok (.aload_n 0, 1) := by decide +kernel
theorem d_Mo_does_587 : decode b_Mo_does 587 = .ok (.iload_n 1, 1) := by decide +kernel
theorem d_Mo_does_588 : decode b_Mo_does 588 = .ok (.aload_n 0, 1) := by decide +kernel
theorem d_Mo_does_589 : decode b_Mo_does 589 = .ok (.getfield 123, 3) := by decide +kernel
theorem d_Mo_does_592 : decode b_Mo_does 592 = .ok (.aload_n 0, 1) := by decide +kernel
theorem d_Mo_does_593 : decode b_Mo_does 593 = .ok (.getfield 129, 3) := by decide +kernel
theorem d_Mo_does_596 : decode b_Mo_does 596 = .ok (.aload_n 0, 1) := by decide +kernel
theorem d_Mo_does_597 : decode b_Mo_does 597 = .ok (.getfield 135, 3) := by decide +kernel
theorem d_Mo_does_600 : decode b_Mo_does 600 = .ok (.invokevirtual 370, 3) := by decide +kernel
theorem d_Mo_does_603 : decode b_Mo_does 603 = .ok (.goto 10, 3) := by decide +kernel
theorem d_Mo_does_606 : decode b_Mo_does 606 = .ok (.aload_n 0, 1) := by decide +kernel
theorem d_Mo_does_607 : decode b_Mo_does 607 = .ok (.getfield 59, 3) := by decide +kernel
theorem d_Mo_does_610 : decode b_Mo_does 610 = .ok (.iload_n 1, 1) := by decide +kernel
theorem d_Mo_does_611 : decode b_Mo_does 611 = .ok (.iaload, 1) := by decide +kernel
theorem d_Mo_does_612 : decode b_Mo_does 612 = .ok (.ireturn, 1) := by decide +kernel
theorem d_Mo_does_613 : decode b_Mo_does 613 = .ok (.iload_n 2, 1) := by decide +kernel
theorem d_Mo_does_614 : decode b_Mo_does 614 = .ok (.iconst 1, 1) := by decide +kernel
theorem d_Mo_does_615 : decode b_Mo_does 615 = .ok (.iadd, 1) := by decide +kernel
theorem d_Mo_does_616 : decode b_Mo_does 616 = .ok (.ireturn, 1) := by decide +kernel
theorem d_Mo_run_0 : decode b_Mo_run 0 = .ok (.aload_n 0, 1) := by decide +kernel
theorem d_Mo_run_1 : decode b_Mo_run 1 = .ok (.iload_n 1, 1) := by decide +kernel
theorem d_Mo_run_2 : decode b_Mo_run 2 = .ok (.invokevirtual 192, 3) := by decide +kernel
theorem d_Mo_run_5 : decode b_Mo_run 5 = .ok (.ifCond .eq 23, 3) := by decide +kernel
theorem d_Mo_run_8 : decode b_Mo_run 8 = .ok (.aload_n 0, 1) := by decide +kernel
theorem d_Mo_run_9 : decode b_Mo_run 9 = .ok (.getfield 44, 3) := by decide +kernel
theorem d_Mo_run_12 : decode b_Mo_run 12 = .ok (.iload_n 1, 1) := by decide +kernel
theorem d_Mo_run_13 : decode b_Mo_run 13 = .ok (.iaload, 1) := by decide +kernel
theorem d_Mo_run_14 : decode b_Mo_run 14 = .ok (.ifCond .gt 14, 3) := by decide +kernel
theorem d_Mo_run_17 : decode b_Mo_run 17 = .ok (.iload_n 2, 1) := by decide +kernel
theorem d_Mo_run_18 : decode b_Mo_run 18 = .ok (.iconst 4, 1) := by decide +kernel
theorem d_Mo_run_19 : decode b_Mo_run 19 = .ok (.if_icmp .lt 9, 3) := by decide +kernel
theorem d_Mo_run_22 : decode b_Mo_run 22 = .ok (.iload_n 2, 1) := by decide +kernel
theorem d_Mo_run_23 : decode b_Mo_run 23 = .ok (.bipush 32, 2) := by decide +kernel
theorem d_Mo_run_25 : decode b_Mo_run 25 = .ok (.if_icmp .le 5, 3) := by decide +kernel
theorem d_Mo_run_28 : decode b_Mo_run 28 = .ok (.iconst (-1), 1) := by decide +kernel
theorem d_Mo_run_29 : decode b_Mo_run 29 = .ok (.ireturn, 1) := by decide +kernel
theorem d_Mo_run_30 : decode b_Mo_run 30 = .ok (.aload_n 0, 1) := by decide +kernel
theorem d_Mo_run_31 : decode b_Mo_run 31 = .ok (.iload_n 1, 1) := by decide +kernel
theorem d_Mo_run_32 : decode b_Mo_run 32 = .ok (.invokevirtual 198, 3) := by decide +kernel
theorem d_Mo_run_35 : decode b_Mo_run 35 = .ok (.istore_n 3, 1) := by decide +kernel
theorem d_Mo_run_36 : decode b_Mo_run 36 = .ok (.iconst 0, 1) := by decide +kernel
theorem d_Mo_run_37 : decode b_Mo_run 37 = .ok (.istore 4, 2) := by decide +kernel
theorem d_Mo_run_39 : decode b_Mo_run 39 = .ok (.iload 4, 2) := by decide +kernel
theorem d_Mo_run_41 : decode b_Mo_run 41 = .ok (.iload_n 3, 1) := by decide +kernel
theorem d_Mo_run_42 : decode b_Mo_run 42 = .ok (.if_icmp .ge 119, 3) := by decide +kernel
theorem d_Mo_run_45 : decode b_Mo_run 45 = .ok (.aload_n 0, 1) := by decide +kernel
theorem d_Mo_run_46 : decode b_Mo_run 46 = .ok (.getfield 120, 3) := by decide +kernel
theorem d_Mo_run_49 : decode b_Mo_run 49 = .ok (.iload 4, 2) := by decide +kernel
theorem d_Mo_run_51 : decode b_Mo_run 51 = .ok (.ldc2_w 307, 3) := by decide +kernel
theorem d_Mo_run_54 : decode b_Mo_run 54 = .ok (.iload_n 2, 1) := by decide +kernel
theorem d_Mo_run_55 : decode b_Mo_run 55 = .ok (.i2l, 1) := by decide +kernel
theorem d_Mo_run_56 : decode b_Mo_run 56 = .ok (.lmul, 1) := by decide +kernel
theorem d_Mo_run_57 : decode b_Mo_run 57 = .ok (.aload_n 0, 1) := by decide +kernel
theorem d_Mo_run_58 : decode b_Mo_run 58 = .ok (.getfield 29, 3) := by decide +kernel
theorem d_Mo_run_61 : decode b_Mo_run 61 = .ok (.bipush 100, 2) := by decide +kernel
theorem d_Mo_run_63 : decode b_Mo_run 63 = .ok (.iload_n 1, 1) := by decide +kernel
theorem d_Mo_run_64 : decode b_Mo_run 64 = .ok (.imul, 1) := by decide +kernel
theorem d_Mo_run_65 : decode b_Mo_run 65 = .ok (.iload 4, 2) := by decide +kernel
theorem d_Mo_run_67 : decode b_Mo_run 67 = .ok (.iadd, 1) := by decide +kernel
theorem d_Mo_run_68 : decode b_Mo_run 68 = .ok (.iaload, 1) := by decide +kernel
theorem d_Mo_run_69 : decode b_Mo_run 69 = .ok (.i2l, 1) := by decide +kernel
theorem d_Mo_run_70 : decode b_Mo_run 70 = .ok (.lmul, 1) := by decide +kernel
theorem d_Mo_run_71 : decode b_Mo_run 71 = .ok (.ldc2_w 378, 3) := by decide +kernel
theorem d_Mo_run_74 : decode b_Mo_run 74 = .ok (.invokestatic 265, 3) := by decide +kernel
theorem d_Mo_run_77 : decode b_Mo_run 77 = .ok (.lastore, 1) := by decide +kernel
theorem d_Mo_run_78 : decode b_Mo_run 78 = .ok (.aload_n 0, 1) := by decide +kernel
theorem d_Mo_run_79 : decode b_Mo_run 79 = .ok (.getfield 123, 3) := by decide +kernel
theorem d_Mo_run_82 : decode b_Mo_run 82 = .ok (.iload 4, 2) := by decide +kernel
theorem d_Mo_run_84 : decode b_Mo_run 84 = .ok (.ldc2_w 307, 3) := by decide +kernel
theorem d_Mo_run_87 : decode b_Mo_run 87 = .ok (.iload_n 2, 1) := by decide +kernel
theorem d_Mo_run_88 : decode b_Mo_run 88 = .ok (.i2l, 1) := by decide +kernel
theorem d_Mo_run_89 : decode b_Mo_run 89 = .ok (.lmul, 1) := by decide +kernel
theorem d_Mo_run_90 : decode b_Mo_run 90 = .ok (.aload_n 0, 1) := by decide +kernel
theorem d_Mo_run_91 : decode b_Mo_run 91 = .ok (.getfield 32, 3) := by decide +kernel
theorem d_Mo_run_94 : decode b_Mo_run 94 = .ok (.bipush 100, 2) := by decide +kernel
theorem d_Mo_run_96 : decode b_Mo_run 96 = .ok (.iload_n 1, 1) := by decide +kernel
theorem d_Mo_run_97 : decode b_Mo_run 97 = .ok (.imul, 1) := by decide +kernel
theorem d_Mo_run_98 : decode b_Mo_run 98 = .ok (.iload 4, 2) := by decide +kernel
theorem d_Mo_run_100 : decode b_Mo_run 100 = .ok (.iadd, 1) := by decide +kernel
theorem d_Mo_run_101 : decode b_Mo_run 101 = .ok (.iaload, 1) := by decide +kernel
theorem d_Mo_run_102 : decode b_Mo_run 102 = .ok (.i2l, 1) := by decide +kernel
theorem d_Mo_run_103 : decode b_Mo_run 103 = .ok (.lmul, 1) := by decide +kernel
theorem d_Mo_run_104 : decode b_Mo_run 104 = .ok (.ldc2_w 378, 3) := by decide +kernel
theorem d_Mo_run_107 : decode b_Mo_run 107 = .ok (.invokestatic 265, 3) := by decide +kernel
theorem d_Mo_run_110 : decode b_Mo_run 110 = .ok (.lastore, 1) := by decide +kernel
theorem d_Mo_run_111 : decode b_Mo_run 111 = .ok (.aload_n 0, 1) := by decide +kernel
theorem d_Mo_run_112 : decode b_Mo_run 112 = .ok (.getfield 126, 3) := by decide +kernel
theorem d_Mo_run_115 : decode b_Mo_run 115 = .ok (.iload 4, 2) := by decide +kernel
theorem d_Mo_run_117 : decode b_Mo_run 117 = .ok (.aload_n 0, 1) := by decide +kernel
theorem d_Mo_run_118 : decode b_Mo_run 118 = .ok (.getfield 120, 3) := by decide +kernel
theorem d_Mo_run_121 : decode b_Mo_run 121 = .ok (.iload 4, 2) := by decide +kernel
theorem d_Mo_run_123 : decode b_Mo_run 123 = .ok (.laload, 1) := by decide +kernel
theorem d_Mo_run_124 : decode b_Mo_run 124 = .ok (.lastore, 1) := by decide +kernel
theorem d_Mo_run_125 : decode b_Mo_run 125 = .ok (.aload_n 0, 1) := by decide +kernel
theorem d_Mo_run_126 : decode b_Mo_run 126 = .ok (.getfield 129, 3) := by decide +kernel
theorem d_Mo_run_129 : decode b_Mo_run 129 = .ok (.iload 4, 2) := by decide +kernel
theorem d_Mo_run_131 : decode b_Mo_run 131 = .ok (.aload_n 0, 1) := by decide +kernel
theorem d_Mo_run_132 : decode b_Mo_run 132 = .ok (.getfield 123, 3) := by decide +kernel
theorem d_Mo_run_135 : decode b_Mo_run 135 = .ok (.iload 4, 2) := by decide +kernel
theorem d_Mo_run_137 : decode b_Mo_run 137 = .ok (.laload, 1) := by decide +kernel
theorem d_Mo_run_138 : decode b_Mo_run 138 = .ok (.lastore, 1) := by decide +kernel
theorem d_Mo_run_139 : decode b_Mo_run 139 = .ok (.aload_n 0, 1) := by decide +kernel
theorem d_Mo_run_140 : decode b_Mo_run 140 = .ok (.getfield 132, 3) := by decide +kernel
theorem d_Mo_run_143 : decode b_Mo_run 143 = .ok (.iload 4, 2) := by decide +kernel
theorem d_Mo_run_145 : decode b_Mo_run 145 = .ok (.iconst 0, 1) := by decide +kernel
theorem d_Mo_run_146 : decode b_Mo_run 146 = .ok (.bastore, 1) := by decide +kernel
theorem d_Mo_run_147 : decode b_Mo_run 147 = .ok (.aload_n 0, 1) := by decide +kernel
theorem d_Mo_run_148 : decode b_Mo_run 148 = .ok (.getfield 135, 3) := by decide +kernel
theorem d_Mo_run_151 : decode b_Mo_run 151 = .ok (.iload 4, 2) := by decide +kernel
theorem d_Mo_run_153 : decode b_Mo_run 153 = .ok (.iconst 0, 1) := by decide +kernel
theorem d_Mo_run_154 : decode b_Mo_run 154 = .ok (.bastore, 1) := by decide +kernel
theorem d_Mo_run_155 : decode b_Mo_run 155 = .ok (.iinc 4 1, 3) := by decide +kernel
theorem d_Mo_run_158 : decode b_Mo_run 158 = .ok (.goto (-119), 3) := by decide +kernel
theorem d_Mo_run_161 : decode b_Mo_run 161 = .ok (.iconst 0, 1) := by decide +kernel
theorem d_Mo_run_162 : decode b_Mo_run 162 = .ok (.istore 4, 2) := by decide +kernel
theorem d_Mo_run_164 : decode b_Mo_run 164 = .ok (.iload 4, 2) := by decide +kernel
theorem d_Mo_run_166 : decode b_Mo_run 166 = .ok (.bipush 16, 2) := by decide +kernel
theorem d_Mo_run_168 : decode b_Mo_run 168 = .ok (.if_icmp .ge 17, 3) := by decide +kernel
theorem d_Mo_run_171 : decode b_Mo_run 171 = .ok (.aload_n 0, 1) := by decide +kernel
theorem d_Mo_run_172 : decode b_Mo_run 172 = .ok (.getfield 114, 3) := by decide +kernel
theorem d_Mo_run_175 : decode b_Mo_run 175 = .ok (.iload 4, 2) := by decide +kernel
theorem d_Mo_run_177 : decode b_Mo_run 177 = .ok (.lconst 0, 1) := by decide +kernel
theorem d_Mo_run_178 : decode b_Mo_run 178 = .ok (.lastore, 1) := by decide +kernel
theorem d_Mo_run_179 : decode b_Mo_run 179 = .ok (.iinc 4 1, 3) := by decide +kernel
theorem d_Mo_run_182 : decode b_Mo_run 182 = .ok (.goto (-18), 3) := by decide +kernel
theorem d_Mo_run_185 : decode b_Mo_run 185 = .ok (.aload_n 0, 1) := by decide +kernel
theorem d_Mo_run_186 : decode b_Mo_run 186 = .ok (.iconst 0, 1) := by decide +kernel
theorem d_Mo_run_187 : decode b_Mo_run 187 = .ok (.putfield 329, 3) := by decide +kernel
theorem d_Mo_run_190 : decode b_Mo_run 190 = .ok (.aload_n 0, 1) := by decide +kernel
theorem d_Mo_run_191 : decode b_Mo_run 191 = .ok (.iconst 0, 1) := by decide +kernel
theorem d_Mo_run_192 : decode b_Mo_run 192 = .ok (.putfield 341, 3) := by decide +kernel
theorem d_Mo_run_195 : decode b_Mo_run 195 = .ok (.aload_n 0, 1) := by decide +kernel
theorem d_Mo_run_196 : decode b_Mo_run 196 = .ok (.iconst 0, 1) := by decide +kernel
theorem d_Mo_run_197 : decode b_Mo_run 197 = .ok (.putfield 348, 3) := by decide +kernel
theorem d_Mo_run_200 : decode b_Mo_run 200 = .ok (.iconst 0, 1) := by decide +kernel
theorem d_Mo_run_201 : decode b_Mo_run 201 = .ok (.istore 4, 2) := by decide +kernel
theorem d_Mo_run_203 : decode b_Mo_run 203 = .ok (.iconst 0, 1) := by decide +kernel
theorem d_Mo_run_204 : decode b_Mo_run 204 = .ok (.istore 5, 2) := by decide +kernel
theorem d_Mo_run_206 : decode b_Mo_run 206 = .ok (.iload 4, 2) := by decide +kernel
theorem d_Mo_run_208 : decode b_Mo_run 208 = .ok (.aload_n 0, 1) := by decide +kernel
theorem d_Mo_run_209 : decode b_Mo_run 209 = .ok (.getfield 59, 3) := by decide +kernel
theorem d_Mo_run_212 : decode b_Mo_run 212 = .ok (.iload_n 1, 1) := by decide +kernel
theorem d_Mo_run_213 : decode b_Mo_run 213 = .ok (.iaload, 1) := by decide +kernel
theorem d_Mo_run_214 : decode b_Mo_run 214 = .ok (.if_icmp .ge 42, 3) := by decide +kernel
theorem d_Mo_run_217 : decode b_Mo_run 217 = .ok (.aload_n 0, 1) := by decide +kernel
theorem d_Mo_run_218 : decode b_Mo_run 218 = .ok (.getfield 348, 3) := by decide +kernel
theorem d_Mo_run_221 : decode b_Mo_run 221 = .ok (.ifCond .ne 35, 3) := by decide +kernel
theorem d_Mo_run_224 : decode b_Mo_run 224 = .ok (.iload 5, 2) := by decide +kernel
theorem d_Mo_run_226 : decode b_Mo_run 226 = .ok (.sipush 1000, 3) := by decide +kernel
theorem d_Mo_run_229 : decode b_Mo_run 229 = .ok (.if_icmp .ne 12, 3) := by decide +kernel
theorem d_Mo_run_232 : decode b_Mo_run 232 = .ok (.aload_n 0, 1) := by decide +kernel
theorem d_Mo_run_233 : decode b_Mo_run 233 = .ok (.bipush 6, 2) := by decide +kernel
theorem d_Mo_run_235 : decode b_Mo_run 235 = .ok (.putfield 348, 3) := by decide +kernel
theorem d_Mo_run_238 : decode b_Mo_run 238 = .ok (.goto 12, 3) := by decide +kernel
theorem d_Mo_run_241 : decode b_Mo_run 241 = .ok (.aload_n 0, 1) := by decide +kernel
theorem d_Mo_run_242 : decode b_Mo_run 242 = .ok (.iload_n 1, 1) := by decide +kernel
theorem d_Mo_run_243 : decode b_Mo_run 243 = .ok (.iload 4, 2) := by decide +kernel
theorem d_Mo_run_245 : decode b_Mo_run 245 = .ok (.invokevirtual 380, 3) := by decide +kernel
theorem d_Mo_run_248 : decode b_Mo_run 248 = .ok (.istore 4, 2) := by decide +kernel
theorem d_Mo_run_250 : decode b_Mo_run 250 = .ok (.iinc 5 1, 3) := by decide +kernel
theorem d_Mo_run_253 : decode b_Mo_run 253 = .ok (.goto (-47), 3) := by decide +kernel
theorem d_Mo_run_256 : decode b_Mo_run 256 = .ok (.aload_n 0, 1) := by decide +kernel
theorem d_Mo_run_257 : decode b_Mo_run 257 = .ok (.getfield 348, 3) := by decide +kernel
theorem d_Mo_run_260 : decode b_Mo_run 260 = .ok (.ifCond .le 8, 3) := by decide +kernel
theorem d_Mo_run_263 : decode b_Mo_run 263 = .ok (.aload_n 0, 1) := by decide +kernel
theorem d_Mo_run_264 : decode b_Mo_run 264 = .ok (.getfield 348, 3) := by decide +kernel
theorem d_Mo_run_267 : decode b_Mo_run 267 = .ok (.ireturn, 1) := by decide +kernel
theorem d_Mo_run_268 : decode b_Mo_run 268 = .ok (.aload_n 0, 1) := by decide +kernel
theorem d_Mo_run_269 : decode b_Mo_run 269 = .ok (.iload_n 3, 1) := by decide +kernel
theorem d_Mo_run_270 : decode b_Mo_run 270 = .ok (.putfield 383, 3) := by decide +kernel
theorem d_Mo_run_273 : decode b_Mo_run 273 = .ok (.iconst 0, 1) := by decide +kernel
theorem d_Mo_run_274 : decode b_Mo_run 274 = .ok (.istore 6, 2) := by decide +kernel
theorem d_Mo_run_276 : decode b_Mo_run 276 = .ok (.iload 6, 2) := by decide +kernel
theorem d_Mo_run_278 : decode b_Mo_run 278 = .ok (.iload_n 3, 1) := by decide +kernel
theorem d_Mo_run_279 : decode b_Mo_run 279 = .ok (.if_icmp .ge 67, 3) := by decide +kernel
theorem d_Mo_run_282 : decode b_Mo_run 282 = .ok (.aload_n 0, 1) := by decide +kernel
theorem d_Mo_run_283 : decode b_Mo_run 283 = .ok (.getfield 138, 3) := by decide +kernel
theorem d_Mo_run_286 : decode b_Mo_run 286 = .ok (.iload 6, 2) := by decide +kernel
theorem d_Mo_run_288 : decode b_Mo_run 288 = .ok (.aload_n 0, 1) := by decide +kernel
theorem d_Mo_run_289 : decode b_Mo_run 289 = .ok (.getfield 126, 3) := by decide +kernel
theorem d_Mo_run_292 : decode b_Mo_run 292 = .ok (.iload 6, 2) := by decide +kernel
theorem d_Mo_run_294 : decode b_Mo_run 294 = .ok (.laload, 1) := by decide +kernel
theorem d_Mo_run_295 : decode b_Mo_run 295 = .ok (.l2i, 1) := by decide +kernel
theorem d_Mo_run_296 : decode b_Mo_run 296 = .ok (.iastore, 1) := by decide +kernel
theorem d_Mo_run_297 : decode b_Mo_run 297 = .ok (.aload_n 0, 1) := by decide +kernel
theorem d_Mo_run_298 : decode b_Mo_run 298 = .ok (.getfield 141, 3) := by decide +kernel
theorem d_Mo_run_301 : decode b_Mo_run 301 = .ok (.iload 6, 2) := by decide +kernel
theorem d_Mo_run_303 : decode b_Mo_run 303 = .ok (.aload_n 0, 1) := by decide +kernel
theorem d_Mo_run_304 : decode b_Mo_run 304 = .ok (.getfield 129, 3) := by decide +kernel
theorem d_Mo_run_307 : decode b_Mo_run 307 = .ok (.iload 6, 2) := by decide +kernel
theorem d_Mo_run_309 : decode b_Mo_run 309 = .ok (.laload, 1) := by decide +kernel
theorem d_Mo_run_310 : decode b_Mo_run 310 = .ok (.l2i, 1) := by decide +kernel
theorem d_Mo_run_311 : decode b_Mo_run 311 = .ok (.iastore, 1) := by decide +kernel
theorem d_Mo_run_312 : decode b_Mo_run 312 = .ok (.aload_n 0, 1) := by decide +kernel
theorem d_Mo_run_313 : decode b_Mo_run 313 = .ok (.getfield 144, 3) := by decide +kernel
theorem d_Mo_run_316 : decode b_Mo_run 316 = .ok (.iload 6, 2) := by decide +kernel
theorem d_Mo_run_318 : decode b_Mo_run 318 = .ok (.aload_n 0, 1) := by decide +kernel
theorem d_Mo_run_319 : decode b_Mo_run 319 = .ok (.getfield 132, 3) := by decide +kernel
theorem d_Mo_run_322 : decode b_Mo_run 322 = .ok (.iload 6, 2) := by decide +kernel
theorem d_Mo_run_324 : decode b_Mo_run 324 = .ok (.baload, 1) := by decide +kernel
theorem d_Mo_run_325 : decode b_Mo_run 325 = .ok (.bastore, 1) := by decide +kernel
theorem d_Mo_run_326 : decode b_Mo_run 326 = .ok (.aload_n 0, 1) := by decide +kernel
theorem d_Mo_run_327 : decode b_Mo_run 327 = .ok (.getfield 147, 3) := by decide +kernel
theorem d_Mo_run_330 : decode b_Mo_run 330 = .ok (.iload 6, 2) := by decide +kernel
theorem d_Mo_run_332 : decode b_Mo_run 332 = .ok (.aload_n 0, 1) := by decide +kernel
theorem d_Mo_run_333 : decode b_Mo_run 333 = .ok (.getfield 135, 3) := by decide +kernel
theorem d_Mo_run_336 : decode b_Mo_run 336 = .ok (.iload 6, 2) := by decide +kernel
theorem d_Mo_run_338 : decode b_Mo_run 338 = .ok (.baload, 1) := by decide +kernel
theorem d_Mo_run_339 : decode b_Mo_run 339 = .ok (.bastore, 1) := by decide +kernel
theorem d_Mo_run_340 : decode b_Mo_run 340 = .ok (.iinc 6 1, 3) := by decide +kernel
theorem d_Mo_run_343 : decode b_Mo_run 343 = .ok (.goto (-67), 3) := by decide +kernel
theorem d_Mo_run_346 : decode b_Mo_run 346 = .ok (.iconst 0, 1) := by decide +kernel
theorem d_Mo_run_347 : decode b_Mo_run 347 = .ok (.ireturn, 1) := by decide +kernel
theorem d_Mo_fitted2_0 : decode b_Mo_fitted2 0 = .ok (.iload_n 1, 1) := by decide +kernel
theorem d_Mo_fitted2_1 : decode b_Mo_fitted2 1 = .ok (.ifCond .lt 11, 3) := by decide +kernel
theorem d_Mo_fitted2_4 : decode b_Mo_fitted2 4 = .ok (.iload_n 1, 1) := by decide +kernel
theorem d_Mo_fitted2_5 : decode b_Mo_fitted2 5 = .ok (.aload_n 0, 1) := by decide +kernel
theorem d_Mo_fitted2_6 : decode b_Mo_fitted2 6 = .ok (.getfield 383, 3) := by decide +kernel
theorem d_Mo_fitted2_9 : decode b_Mo_fitted2 9 = .ok (.if_icmp .lt 7, 3) := by decide +kernel
theorem d_Mo_fitted2_12 : decode b_Mo_fitted2 12 = .ok (.ldc_w 386, 3) := by decide +kernel
theorem d_Mo_fitted2_15 : decode b_Mo_fitted2 15 = .ok (.ireturn, 1) := by decide +kernel
theorem d_Mo_fitted2_16 : decode b_Mo_fitted2 16 = .ok (.iload_n 2, 1) := by decide +kernel
theorem d_Mo_fitted2_17 : decode b_Mo_fitted2 17 = .ok (.tableswitch 75 0 3 #[31, 38, 45, 60], 31) := by decide +kernel
theorem d_Mo_fitted2_48 : decode b_Mo_fitted2 48 = .ok (.aload_n 0, 1) := by decide +kernel
theorem d_Mo_fitted2_49 : decode b_Mo_fitted2 49 = .ok (.getfield 138, 3) := by decide +kernel
theorem d_Mo_fitted2_52 : decode b_Mo_fitted2 52 = .ok (.iload_n 1, 1) := by decide +kernel
theorem d_Mo_fitted2_53 : decode b_Mo_fitted2 53 = .ok (.iaload, 1) := by decide +kernel
theorem d_Mo_fitted2_54 : decode b_Mo_fitted2 54 = .ok (.ireturn, 1) := by decide +kernel
theorem d_Mo_fitted2_55 : decode b_Mo_fitted2 55 = .ok (.aload_n 0, 1) := by decide +kernel
theorem d_Mo_fitted2_56 : decode b_Mo_fitted2 56 = .ok (.getfield 141, 3) := by decide +kernel
theorem d_Mo_fitted2_59 : decode b_Mo_fitted2 59 = .ok (.iload_n 1, 1) := by decide +kernel
theorem d_Mo_fitted2_60 : decode b_Mo_fitted2 60 = .ok (.iaload, 1) := by decide +kernel
theorem d_Mo_fitted2_61 : decode b_Mo_fitted2 61 = .ok (.ireturn, 1) := by decide +kernel
theorem d_Mo_fitted2_62 : decode b_Mo_fitted2 62 = .ok (.aload_n 0, 1) := by decide +kernel
theorem d_Mo_fitted2_63 : decode b_Mo_fitted2 63 = .ok (.getfield 144, 3) := by decide +kernel
theorem d_Mo_fitted2_66 : decode b_Mo_fitted2 66 = .ok (.iload_n 1, 1) := by decide +kernel
theorem d_Mo_fitted2_67 : decode b_Mo_fitted2 67 = .ok (.baload, 1) := by decide +kernel
theorem d_Mo_fitted2_68 : decode b_Mo_fitted2 68 = .ok (.ifCond .eq 7, 3) := by decide +kernel
theorem d_Mo_fitted2_71 : decode b_Mo_fitted2 71 = .ok (.iconst 1, 1) := by decide +kernel
theorem d_Mo_fitted2_72 : decode b_Mo_fitted2 72 = .ok (.goto 4, 3) := by decide +kernel
theorem d_Mo_fitted2_75 : decode b_Mo_fitted2 75 = .ok (.iconst 0, 1) := by decide +kernel
theorem d_Mo_fitted2_76 : decode b_Mo_fitted2 76 = .ok (.ireturn, 1) := by decide +kernel
theorem d_Mo_fitted2_77 : decode b_Mo_fitted2 77 = .ok (.aload_n 0, 1) := by decide +kernel
theorem d_Mo_fitted2_78 : decode b_Mo_fitted2 78 = .ok (.getfield 147, 3) := by decide +kernel
theorem d_Mo_fitted2_81 : decode b_Mo_fitted2 81 = .ok (.iload_n 1, 1) := by decide +kernel
theorem d_Mo_fitted2_82 : decode b_Mo_fitted2 82 = .ok (.baload, 1) := by decide +kernel
theorem d_Mo_fitted2_83 : decode b_Mo_fitted2 83 = .ok (.ifCond .eq 7, 3) := by decide +kernel
theorem d_Mo_fitted2_86 : decode b_Mo_fitted2 86 = .ok (.iconst 1, 1) := by decide +kernel
theorem d_Mo_fitted2_87 : decode b_Mo_fitted2 87 = .ok (.goto 4, 3) := by decide +kernel
theorem d_Mo_fitted2_90 : decode b_Mo_fitted2 90 = .ok (.iconst 0, 1) := by decide +kernel
theorem d_Mo_fitted2_91 : decode b_Mo_fitted2 91 = .ok (.ireturn, 1) := by decide +kernel
theorem d_Mo_fitted2_92 : decode b_Mo_fitted2 92 = .ok (.ldc_w 386, 3) := by decide +kernel
theorem d_Mo_fitted2_95 : decode b_Mo_fitted2 95 = .ok (.ireturn, 1) := by decide +kernel
theorem d_Mo_delta_0 : decode b_Mo_delta 0 = .ok (.aload_n 0, 1) := by decide +kernel
theorem d_Mo_delta_1 : decode b_Mo_delta 1 = .ok (.iload_n 1, 1) := by decide +kernel
theorem d_Mo_delta_2 : decode b_Mo_delta 2 = .ok (.iload_n 3, 1) := by decide +kernel
theorem d_Mo_delta_3 : decode b_Mo_delta 3 = .ok (.invokevirtual 205, 3) := by decide +kernel
theorem d_Mo_delta_6 : decode b_Mo_delta 6 = .ok (.ifCond .eq 44, 3) := by decide +kernel
theorem d_Mo_delta_9 : decode b_Mo_delta 9 = .ok (.iload_n 2, 1) := by decide +kernel
theorem d_Mo_delta_10 : decode b_Mo_delta 10 = .ok (.ifCond .lt 40, 3) := by decide +kernel
theorem d_Mo_delta_13 : decode b_Mo_delta 13 = .ok (.iload_n 2, 1) := by decide +kernel
theorem d_Mo_delta_14 : decode b_Mo_delta 14 = .ok (.iconst 2, 1) := by decide +kernel
theorem d_Mo_delta_15 : decode b_Mo_delta 15 = .ok (.if_icmp .gt 35, 3) := by decide +kernel
theorem d_Mo_delta_18 : decode b_Mo_delta 18 = .ok (.iload 4, 2) := by decide +kernel
theorem d_Mo_delta_20 : decode b_Mo_delta 20 = .ok (.sipush (-2000), 3) := by decide +kernel
theorem d_Mo_delta_23 : decode b_Mo_delta 23 = .ok (.if_icmp .lt 27, 3) := by decide +kernel
theorem d_Mo_delta_26 : decode b_Mo_delta 26 = .ok (.iload 4, 2) := by decide +kernel
theorem d_Mo_delta_28 : decode b_Mo_delta 28 = .ok (.sipush 2000, 3) := by decide +kernel
theorem d_Mo_delta_31 : decode b_Mo_delta 31 = .ok (.if_icmp .gt 19, 3) := by decide +kernel
theorem d_Mo_delta_34 : decode b_Mo_delta 34 = .ok (.iload 5, 2) := by decide +kernel
theorem d_Mo_delta_36 : decode b_Mo_delta 36 = .ok (.sipush (-2000), 3) := by decide +kernel
theorem d_Mo_delta_39 : decode b_Mo_delta 39 = .ok (.if_icmp .lt 11, 3) := by decide +kernel
theorem d_Mo_delta_42 : decode b_Mo_delta 42 = .ok (.iload 5, 2) := by decide +kernel
theorem d_Mo_delta_44 : decode b_Mo_delta 44 = .ok (.sipush 2000, 3) := by decide +kernel
theorem d_Mo_delta_47 : decode b_Mo_delta 47 = .ok (.if_icmp .le 5, 3) := by decide +kernel
theorem d_Mo_delta_50 : decode b_Mo_delta 50 = .ok (.iconst 0, 1) := by decide +kernel
theorem d_Mo_delta_51 : decode b_Mo_delta 51 = .ok (.ireturn, 1) := by decide +kernel
theorem d_Mo_delta_52 : decode b_Mo_delta 52 = .ok (.aload_n 0, 1) := by decide +kernel
theorem d_Mo_delta_53 : decode b_Mo_delta 53 = .ok (.getfield 38, 3) := by decide +kernel
theorem d_Mo_delta_56 : decode b_Mo_delta 56 = .ok (.iconst 3, 1) := by decide +kernel
theorem d_Mo_delta_57 : decode b_Mo_delta 57 = .ok (.bipush 100, 2) := by decide +kernel
theorem d_Mo_delta_59 : decode b_Mo_delta 59 = .ok (.iload_n 1, 1) := by decide +kernel
theorem d_Mo_delta_60 : decode b_Mo_delta 60 = .ok (.imul, 1) := by decide +kernel
theorem d_Mo_delta_61 : decode b_Mo_delta 61 = .ok (.iload_n 3, 1) := by decide +kernel
theorem d_Mo_delta_62 : decode b_Mo_delta 62 = .ok (.iadd, 1) := by decide +kernel
theorem d_Mo_delta_63 : decode b_Mo_delta 63 = .ok (.imul, 1) := by decide +kernel
theorem d_Mo_delta_64 : decode b_Mo_delta 64 = .ok (.iload_n 2, 1) := by decide +kernel
theorem d_Mo_delta_65 : decode b_Mo_delta 65 = .ok (.iadd, 1) := by decide +kernel
theorem d_Mo_delta_66 : decode b_Mo_delta 66 = .ok (.iload 4, 2) := by decide +kernel
theorem d_Mo_delta_68 : decode b_Mo_delta 68 = .ok (.iastore, 1) := by decide +kernel
theorem d_Mo_delta_69 : decode b_Mo_delta 69 = .ok (.aload_n 0, 1) := by decide +kernel
theorem d_Mo_delta_70 : decode b_Mo_delta 70 = .ok (.getfield 41, 3) := by decide +kernel
theorem d_Mo_delta_73 : decode b_Mo_delta 73 = .ok (.iconst 3, 1) := by decide +kernel
theorem d_Mo_delta_74 : decode b_Mo_delta 74 = .ok (.bipush 100, 2) := by decide +kernel
theorem d_Mo_delta_76 : decode b_Mo_delta 76 = .ok (.iload_n 1, 1) := by decide +kernel
theorem d_Mo_delta_77 : decode b_Mo_delta 77 = .ok (.imul, 1) := by decide +kernel
theorem d_Mo_delta_78 : decode b_Mo_delta 78 = .ok (.iload_n 3, 1) := by decide +kernel
theorem d_Mo_delta_79 : decode b_Mo_delta 79 = .ok (.iadd, 1) := by decide +kernel
theorem d_Mo_delta_80 : decode b_Mo_delta 80 = .ok (.imul, 1) := by decide +kernel
theorem d_Mo_delta_81 : decode b_Mo_delta 81 = .ok (.iload_n 2, 1) := by decide +kernel
theorem d_Mo_delta_82 : decode b_Mo_delta 82 = .ok (.iadd, 1) := by decide +kernel
theorem d_Mo_delta_83 : decode b_Mo_delta 83 = .ok (.iload 5, 2) := by decide +kernel
theorem d_Mo_delta_85 : decode b_Mo_delta 85 = .ok (.iastore, 1) := by decide +kernel
theorem d_Mo_delta_86 : decode b_Mo_delta 86 = .ok (.iconst 1, 1) := by decide +kernel
theorem d_Mo_delta_87 : decode b_Mo_delta 87 = .ok (.ireturn, 1) := by decide +kernel
theorem d_Mo_weight_0 : decode b_Mo_weight 0 = .ok (.iload_n 1, 1) := by decide +kernel
theorem d_Mo_weight_1 : decode b_Mo_weight 1 = .ok (.ifCond .lt 15, 3) := by decide +kernel
theorem d_Mo_weight_4 : decode b_Mo_weight 4 = .ok (.iload_n 1, 1) := by decide +kernel
theorem d_Mo_weight_5 : decode b_Mo_weight 5 = .ok (.iconst 2, 1) := by decide +kernel
theorem d_Mo_weight_6 : decode b_Mo_weight 6 = .ok (.if_icmp .gt 10, 3) := by decide +kernel
theorem d_Mo_weight_9 : decode b_Mo_weight 9 = .ok (.iload_n 2, 1) := by decide +kernel
theorem d_Mo_weight_10 : decode b_Mo_weight 10 = .ok (.invokestatic 220, 3) := by decide +kernel
theorem d_Mo_weight_13 : decode b_Mo_weight 13 = .ok (.ifCond .ne 5, 3) := by decide +kernel
theorem d_Mo_weight_16 : decode b_Mo_weight 16 = .ok (.iconst 0, 1) := by decide +kernel
theorem d_Mo_weight_17 : decode b_Mo_weight 17 = .ok (.ireturn, 1) := by decide +kernel
theorem d_Mo_weight_18 : decode b_Mo_weight 18 = .ok (.aload_n 0, 1) := by decide +kernel
theorem d_Mo_weight_19 : decode b_Mo_weight 19 = .ok (.getfield 150, 3) := by decide +kernel
theorem d_Mo_weight_22 : decode b_Mo_weight 22 = .ok (.iload_n 1, 1) := by decide +kernel
theorem d_Mo_weight_23 : decode b_Mo_weight 23 = .ok (.iload_n 2, 1) := by decide +kernel
theorem d_Mo_weight_24 : decode b_Mo_weight 24 = .ok (.iastore, 1) := by decide +kernel
theorem d_Mo_weight_25 : decode b_Mo_weight 25 = .ok (.iconst 1, 1) := by decide +kernel
theorem d_Mo_weight_26 : decode b_Mo_weight 26 = .ok (.ireturn, 1) := by decide +kernel
theorem d_Mo_mixed_0 : decode b_Mo_mixed 0 = .ok (.aload_n 0, 1) := by decide +kernel
theorem d_Mo_mixed_1 : decode b_Mo_mixed 1 = .ok (.iload_n 1, 1) := by decide +kernel
theorem d_Mo_mixed_2 : decode b_Mo_mixed 2 = .ok (.iload_n 2, 1) := by decide +kernel
theorem d_Mo_mixed_3 : decode b_Mo_mixed 3 = .ok (.invokevirtual 205, 3) := by decide +kernel
theorem d_Mo_mixed_6 : decode b_Mo_mixed 6 = .ok (.ifCond .eq 12, 3) := by decide +kernel
theorem d_Mo_mixed_9 : decode b_Mo_mixed 9 = .ok (.iload_n 3, 1) := by decide +kernel
theorem d_Mo_mixed_10 : decode b_Mo_mixed 10 = .ok (.ifCond .eq 11, 3) := by decide +kernel
theorem d_Mo_mixed_13 : decode b_Mo_mixed 13 = .ok (.iload_n 3, 1) := by decide +kernel
theorem d_Mo_mixed_14 : decode b_Mo_mixed 14 = .ok (.iconst 1, 1) := by decide +kernel
theorem d_Mo_mixed_15 : decode b_Mo_mixed 15 = .ok (.if_icmp .eq 6, 3) := by decide +kernel
theorem d_Mo_mixed_18 : decode b_Mo_mixed 18 = .ok (.ldc 223, 2) := by decide +kernel
theorem d_Mo_mixed_20 : decode b_Mo_mixed 20 = .ok (.ireturn, 1) := by decide +kernel
theorem d_Mo_mixed_21 : decode b_Mo_mixed 21 = .ok (.bipush 100, 2) := by decide +kernel
theorem d_Mo_mixed_23 : decode b_Mo_mixed 23 = .ok (.iload_n 1, 1) := by decide +kernel
theorem d_Mo_mixed_24 : decode b_Mo_mixed 24 = .ok (.imul, 1) := by decide +kernel
theorem d_Mo_mixed_25 : decode b_Mo_mixed 25 = .ok (.iload_n 2, 1) := by decide +kernel
theorem d_Mo_mixed_26 : decode b_Mo_mixed 26 = .ok (.iadd, 1) := by decide +kernel
theorem d_Mo_mixed_27 : decode b_Mo_mixed 27 = .ok (.istore 4, 2) := by decide +kernel
theorem d_Mo_mixed_29 : decode b_Mo_mixed 29 = .ok (.lconst 0, 1) := by decide +kernel
theorem d_Mo_mixed_30 : decode b_Mo_mixed 30 = .ok (.lstore 5, 2) := by decide +kernel
theorem d_Mo_mixed_32 : decode b_Mo_mixed 32 = .ok (.iconst 0, 1) := by decide +kernel
theorem d_Mo_mixed_33 : decode b_Mo_mixed 33 = .ok (.istore 7, 2) := by decide +kernel
theorem d_Mo_mixed_35 : decode b_Mo_mixed 35 = .ok (.iload 7, 2) := by decide +kernel
theorem d_Mo_mixed_37 : decode b_Mo_mixed 37 = .ok (.iconst 3, 1) := by decide +kernel
theorem d_Mo_mixed_38 : decode b_Mo_mixed 38 = .ok (.if_icmp .ge 55, 3) := by decide +kernel
theorem d_Mo_mixed_41 : decode b_Mo_mixed 41 = .ok (.lload 5, 2) := by decide +kernel
theorem d_Mo_mixed_43 : decode b_Mo_mixed 43 = .ok (.aload_n 0, 1) := by decide +kernel
theorem d_Mo_mixed_44 : decode b_Mo_mixed 44 = .ok (.getfield 150, 3) := by decide +kernel
theorem d_Mo_mixed_47 : decode b_Mo_mixed 47 = .ok (.iload 7, 2) := by decide +kernel
theorem d_Mo_mixed_49 : decode b_Mo_mixed 49 = .ok (.iaload, 1) := by decide +kernel
theorem d_Mo_mixed_50 : decode b_Mo_mixed 50 = .ok (.i2l, 1) := by decide +kernel
theorem d_Mo_mixed_51 : decode b_Mo_mixed 51 = .ok (.iload_n 3, 1) := by decide +kernel
theorem d_Mo_mixed_52 : decode b_Mo_mixed 52 = .ok (.ifCond .ne 18, 3) := by decide +kernel
theorem d_Mo_mixed_55 : decode b_Mo_mixed 55 = .ok (.aload_n 0, 1) := by decide +kernel
theorem d_Mo_mixed_56 : decode b_Mo_mixed 56 = .ok (.getfield 38, 3) := by decide +kernel
theorem d_Mo_mixed_59 : decode b_Mo_mixed 59 = .ok (.iconst 3, 1) := by decide +kernel
theorem d_Mo_mixed_60 : decode b_Mo_mixed 60 = .ok (.iload 4, 2) := by decide +kernel
theorem d_Mo_mixed_62 : decode b_Mo_mixed 62 = .ok (.imul, 1) := by decide +kernel
theorem d_Mo_mixed_63 : decode b_Mo_mixed 63 = .ok (.iload 7, 2) := by decide +kernel
theorem d_Mo_mixed_65 : decode b_Mo_mixed 65 = .ok (.iadd, 1) := by decide +kernel
theorem d_Mo_mixed_66 : decode b_Mo_mixed 66 = .ok (.iaload, 1) := by decide +kernel
theorem d_Mo_mixed_67 : decode b_Mo_mixed 67 = .ok (.goto 15, 3) := by decide +kernel
theorem d_Mo_mixed_70 : decode b_Mo_mixed 70 = .ok (.aload_n 0, 1) := by decide +kernel
theorem d_Mo_mixed_71 : decode b_Mo_mixed 71 = .ok (.getfield 41, 3) := by decide +kernel
theorem d_Mo_mixed_74 : decode b_Mo_mixed 74 = .ok (.iconst 3, 1) := by decide +kernel
theorem d_Mo_mixed_75 : decode b_Mo_mixed 75 = .ok (.iload 4, 2) := by decide +kernel
theorem d_Mo_mixed_77 : decode b_Mo_mixed 77 = .ok (.imul, 1) := by decide +kernel
theorem d_Mo_mixed_78 : decode b_Mo_mixed 78 = .ok (.iload 7, 2) := by decide +kernel
theorem d_Mo_mixed_80 : decode b_Mo_mixed 80 = .ok (.iadd, 1) := by decide +kernel
theorem d_Mo_mixed_81 : decode b_Mo_mixed 81 = .ok (.iaload, 1) := by decide +kernel
theorem d_Mo_mixed_82 : decode b_Mo_mixed 82 = .ok (.i2l, 1) := by decide +kernel
theorem d_Mo_mixed_83 : decode b_Mo_mixed 83 = .ok (.lmul, 1) := by decide +kernel
theorem d_Mo_mixed_84 : decode b_Mo_mixed 84 = .ok (.ladd, 1) := by decide +kernel
theorem d_Mo_mixed_85 : decode b_Mo_mixed 85 = .ok (.lstore 5, 2) := by decide +kernel
theorem d_Mo_mixed_87 : decode b_Mo_mixed 87 = .ok (.iinc 7 1, 3) := by decide +kernel
theorem d_Mo_mixed_90 : decode b_Mo_mixed 90 = .ok (.goto (-55), 3) := by decide +kernel
theorem d_Mo_mixed_93 : decode b_Mo_mixed 93 = .ok (.iload_n 3, 1) := by decide +kernel
theorem d_Mo_mixed_94 : decode b_Mo_mixed 94 = .ok (.ifCond .ne 13, 3) := by decide +kernel
theorem d_Mo_mixed_97 : decode b_Mo_mixed 97 = .ok (.aload_n 0, 1) := by decide +kernel
theorem d_Mo_mixed_98 : decode b_Mo_mixed 98 = .ok (.getfield 29, 3) := by decide +kernel
theorem d_Mo_mixed_101 : decode b_Mo_mixed 101 = .ok (.iload 4, 2) := by decide +kernel
theorem d_Mo_mixed_103 : decode b_Mo_mixed 103 = .ok (.iaload, 1) := by decide +kernel
theorem d_Mo_mixed_104 : decode b_Mo_mixed 104 = .ok (.goto 10, 3) := by decide +kernel
theorem d_Mo_mixed_107 : decode b_Mo_mixed 107 = .ok (.aload_n 0, 1) := by decide +kernel
theorem d_Mo_mixed_108 : decode b_Mo_mixed 108 = .ok (.getfield 32, 3) := by decide +kernel
theorem d_Mo_mixed_111 : decode b_Mo_mixed 111 = .ok (.iload 4, 2) := by decide +kernel
theorem d_Mo_mixed_113 : decode b_Mo_mixed 113 = .ok (.iaload, 1) := by decide +kernel
theorem d_Mo_mixed_114 : decode b_Mo_mixed 114 = .ok (.lload 5, 2) := by decide +kernel
theorem d_Mo_mixed_116 : decode b_Mo_mixed 116 = .ok (.ldc2_w 273, 3) := by decide +kernel
theorem d_Mo_mixed_119 : decode b_Mo_mixed 119 = .ok (.invokestatic 265, 3) := by decide +kernel
theorem d_Mo_mixed_122 : decode b_Mo_mixed 122 = .ok (.l2i, 1) := by decide +kernel
theorem d_Mo_mixed_123 : decode b_Mo_mixed 123 = .ok (.iadd, 1) := by decide +kernel
theorem d_Mo_mixed_124 : decode b_Mo_mixed 124 = .ok (.ireturn, 1) := by decide +kernel
theorem d_Mo_classOf_0 : decode b_Mo_classOf 0 = .ok (.aload_n 0, 1) := by decide +kernel
theorem d_Mo_classOf_1 : decode b_Mo_classOf 1 = .ok (.iload_n 1, 1) := by decide +kernel
theorem d_Mo_classOf_2 : decode b_Mo_classOf 2 = .ok (.invokevirtual 192, 3) := by decide +kernel
theorem d_Mo_classOf_5 : decode b_Mo_classOf 5 = .ok (.ifCond .eq 22, 3) := by decide +kernel
theorem d_Mo_classOf_8 : decode b_Mo_classOf 8 = .ok (.iload_n 2, 1) := by decide +kernel
theorem d_Mo_classOf_9 : decode b_Mo_classOf 9 = .ok (.ifCond .eq 8, 3) := by decide +kernel
theorem d_Mo_classOf_12 : decode b_Mo_classOf 12 = .ok (.iload_n 2, 1) := by decide +kernel
theorem d_Mo_classOf_13 : decode b_Mo_classOf 13 = .ok (.iconst 1, 1) := by decide +kernel
theorem d_Mo_classOf_14 : decode b_Mo_classOf 14 = .ok (.if_icmp .ne 13, 3) := by decide +kernel
theorem d_Mo_classOf_17 : decode b_Mo_classOf 17 = .ok (.iload_n 3, 1) := by decide +kernel
theorem d_Mo_classOf_18 : decode b_Mo_classOf 18 = .ok (.ifCond .lt 9, 3) := by decide +kernel
theorem d_Mo_classOf_21 : decode b_Mo_classOf 21 = .ok (.iload_n 3, 1) := by decide +kernel
theorem d_Mo_classOf_22 : decode b_Mo_classOf 22 = .ok (.bipush 15, 2) := by decide +kernel
theorem d_Mo_classOf_24 : decode b_Mo_classOf 24 = .ok (.if_icmp .le 5, 3) := by decide +kernel
theorem d_Mo_classOf_27 : decode b_Mo_classOf 27 = .ok (.iconst 0, 1) := by decide +kernel
theorem d_Mo_classOf_28 : decode b_Mo_classOf 28 = .ok (.ireturn, 1) := by decide +kernel
theorem d_Mo_classOf_29 : decode b_Mo_classOf 29 = .ok (.iload_n 2, 1) := by decide +kernel
theorem d_Mo_classOf_30 : decode b_Mo_classOf 30 = .ok (.ifCond .ne 13, 3) := by decide +kernel
theorem d_Mo_classOf_33 : decode b_Mo_classOf 33 = .ok (.aload_n 0, 1) := by decide +kernel
theorem d_Mo_classOf_34 : decode b_Mo_classOf 34 = .ok (.getfield 153, 3) := by decide +kernel
theorem d_Mo_classOf_37 : decode b_Mo_classOf 37 = .ok (.iload_n 1, 1) := by decide +kernel
theorem d_Mo_classOf_38 : decode b_Mo_classOf 38 = .ok (.iload_n 3, 1) := by decide +kernel
theorem d_Mo_classOf_39 : decode b_Mo_classOf 39 = .ok (.iastore, 1) := by decide +kernel
theorem d_Mo_classOf_40 : decode b_Mo_classOf 40 = .ok (.goto 10, 3) := by decide +kernel
theorem d_Mo_classOf_43 : decode b_Mo_classOf 43 = .ok (.aload_n 0, 1) := by decide +kernel
theorem d_Mo_classOf_44 : decode b_Mo_classOf 44 = .ok (.getfield 156, 3) := by decide +kernel
theorem d_Mo_classOf_47 : decode b_Mo_classOf 47 = .ok (.iload_n 1, 1) := by decide +kernel
theorem d_Mo_classOf_48 : decode b_Mo_classOf 48 = .ok (.iload_n 3, 1) := by decide +kernel
theorem d_Mo_classOf_49 : decode b_Mo_classOf 49 = .ok (.iastore, 1) := by decide +kernel
theorem d_Mo_classOf_50 : decode b_Mo_classOf 50 = .ok (.iconst 1, 1) := by decide +kernel
theorem d_Mo_classOf_51 : decode b_Mo_classOf 51 = .ok (.ireturn, 1) := by decide +kernel
theorem d_Mo_isKern_0 : decode b_Mo_isKern 0 = .ok (.iload_n 0, 1) := by decide +kernel
theorem d_Mo_isKern_1 : decode b_Mo_isKern 1 = .ok (.sipush (-2000), 3) := by decide +kernel
theorem d_Mo_isKern_4 : decode b_Mo_isKern 4 = .ok (.if_icmp .lt 14, 3) := by decide +kernel
theorem d_Mo_isKern_7 : decode b_Mo_isKern 7 = .ok (.iload_n 0, 1) := by decide +kernel
theorem d_Mo_isKern_8 : decode b_Mo_isKern 8 = .ok (.sipush 2000, 3) := by decide +kernel
theorem d_Mo_isKern_11 : decode b_Mo_isKern 11 = .ok (.if_icmp .gt 7, 3) := by decide +kernel
theorem d_Mo_isKern_14 : decode b_Mo_isKern 14 = .ok (.iconst 1, 1) := by decide +kernel
theorem d_Mo_isKern_15 : decode b_Mo_isKern 15 = .ok (.goto 4, 3) := by decide +kernel
theorem d_Mo_isKern_18 : decode b_Mo_isKern 18 = .ok (.iconst 0, 1) := by decide +kernel
theorem d_Mo_isKern_19 : decode b_Mo_isKern 19 = .ok (.ireturn, 1) := by decide +kernel
theorem d_Mo_kern_0 : decode b_Mo_kern 0 = .ok (.iload_n 1, 1) := by decide +kernel
theorem d_Mo_kern_1 : decode b_Mo_kern 1 = .ok (.ifCond .lt 26, 3) := by decide +kernel
theorem d_Mo_kern_4 : decode b_Mo_kern 4 = .ok (.iload_n 1, 1) := by decide +kernel
theorem d_Mo_kern_5 : decode b_Mo_kern 5 = .ok (.bipush 15, 2) := by decide +kernel
theorem d_Mo_kern_7 : decode b_Mo_kern 7 = .ok (.if_icmp .gt 20, 3) := by decide +kernel
theorem d_Mo_kern_10 : decode b_Mo_kern 10 = .ok (.iload_n 2, 1) := by decide +kernel
theorem d_Mo_kern_11 : decode b_Mo_kern 11 = .ok (.ifCond .lt 16, 3) := by decide +kernel
theorem d_Mo_kern_14 : decode b_Mo_kern 14 = .ok (.iload_n 2, 1) := by decide +kernel
theorem d_Mo_kern_15 : decode b_Mo_kern 15 = .ok (.bipush 15, 2) := by decide +kernel
theorem d_Mo_kern_17 : decode b_Mo_kern 17 = .ok (.if_icmp .gt 10, 3) := by decide +kernel
theorem d_Mo_kern_20 : decode b_Mo_kern 20 = .ok (.iload_n 3, 1) := by decide +kernel
theorem d_Mo_kern_21 : decode b_Mo_kern 21 = .ok (.invokestatic 387, 3) := by decide +kernel
theorem d_Mo_kern_24 : decode b_Mo_kern 24 = .ok (.ifCond .ne 5, 3) := by decide +kernel
theorem d_Mo_kern_27 : decode b_Mo_kern 27 = .ok (.iconst 0, 1) := by decide +kernel
theorem d_Mo_kern_28 : decode b_Mo_kern 28 = .ok (.ireturn, 1) := by decide +kernel
theorem d_Mo_kern_29 : decode b_Mo_kern 29 = .ok (.aload_n 0, 1) := by decide +kernel
theorem d_Mo_kern_30 : decode b_Mo_kern 30 = .ok (.getfield 159, 3) := by decide +kernel
theorem d_Mo_kern_33 : decode b_Mo_kern 33 = .ok (.bipush 16, 2) := by decide +kernel
theorem d_Mo_kern_35 : decode b_Mo_kern 35 = .ok (.iload_n 1, 1) := by decide +kernel
theorem d_Mo_kern_36 : decode b_Mo_kern 36 = .ok (.imul, 1) := by decide +kernel
theorem d_Mo_kern_37 : decode b_Mo_kern 37 = .ok (.iload_n 2, 1) := by decide +kernel
theorem d_Mo_kern_38 : decode b_Mo_kern 38 = .ok (.iadd, 1) := by decide +kernel
theorem d_Mo_kern_39 : decode b_Mo_kern 39 = .ok (.iload_n 3, 1) := by decide +kernel
theorem d_Mo_kern_40 : decode b_Mo_kern 40 = .ok (.iastore, 1) := by decide +kernel
theorem d_Mo_kern_41 : decode b_Mo_kern 41 = .ok (.iconst 1, 1) := by decide +kernel
theorem d_Mo_kern_42 : decode b_Mo_kern 42 = .ok (.ireturn, 1) := by decide +kernel
theorem d_Mo_exception_0 : decode b_Mo_exception 0 = .ok (.aload_n 0, 1) := by decide +kernel
theorem d_Mo_exception_1 : decode b_Mo_exception 1 = .ok (.iload_n 1, 1) := by decide +kernel
theorem d_Mo_exception_2 : decode b_Mo_exception 2 = .ok (.invokevirtual 192, 3) := by decide +kernel
theorem d_Mo_exception_5 : decode b_Mo_exception 5 = .ok (.ifCond .eq 25, 3) := by decide +kernel
theorem d_Mo_exception_8 : decode b_Mo_exception 8 = .ok (.aload_n 0, 1) := by decide +kernel
theorem d_Mo_exception_9 : decode b_Mo_exception 9 = .ok (.iload_n 2, 1) := by decide +kernel
theorem d_Mo_exception_10 : decode b_Mo_exception 10 = .ok (.invokevirtual 192, 3) := by decide +kernel
theorem d_Mo_exception_13 : decode b_Mo_exception 13 = .ok (.ifCond .eq 17, 3) := by decide +kernel
theorem d_Mo_exception_16 : decode b_Mo_exception 16 = .ok (.iload_n 3, 1) := by decide +kernel
theorem d_Mo_exception_17 : decode b_Mo_exception 17 = .ok (.invokestatic 387, 3) := by decide +kernel
theorem d_Mo_exception_20 : decode b_Mo_exception 20 = .ok (.ifCond .ne 12, 3) := by decide +kernel
theorem d_Mo_exception_23 : decode b_Mo_exception 23 = .ok (.iload_n 3, 1) := by decide +kernel
theorem d_Mo_exception_24 : decode b_Mo_exception 24 = .ok (.sipush 10000, 3) := by decide +kernel
theorem d_Mo_exception_27 : decode b_Mo_exception 27 = .ok (.if_icmp .eq 5, 3) := by decide +kernel
theorem d_Mo_exception_30 : decode b_Mo_exception 30 = .ok (.iconst 0, 1) := by decide +kernel
theorem d_Mo_exception_31 : decode b_Mo_exception 31 = .ok (.ireturn, 1) := by decide +kernel
theorem d_Mo_exception_32 : decode b_Mo_exception 32 = .ok (.aload_n 0, 1) := by decide +kernel
theorem d_Mo_exception_33 : decode b_Mo_exception 33 = .ok (.getfield 165, 3) := by decide +kernel
theorem d_Mo_exception_36 : decode b_Mo_exception 36 = .ok (.bipush 32, 2) := by decide +kernel
theorem d_Mo_exception_38 : decode b_Mo_exception 38 = .ok (.iload_n 1, 1) := by decide +kernel
theorem d_Mo_exception_39 : decode b_Mo_exception 39 = .ok (.imul, 1) := by decide +kernel
theorem d_Mo_exception_40 : decode b_Mo_exception 40 = .ok (.iload_n 2, 1) := by decide +kernel
theorem d_Mo_exception_41 : decode b_Mo_exception 41 = .ok (.iadd, 1) := by decide +kernel
theorem d_Mo_exception_42 : decode b_Mo_exception 42 = .ok (.iload_n 3, 1) := by decide +kernel
theorem d_Mo_exception_43 : decode b_Mo_exception 43 = .ok (.sipush 10000, 3) := by decide +kernel
theorem d_Mo_exception_46 : decode b_Mo_exception 46 = .ok (.if_icmp .eq 7, 3) := by decide +kernel
theorem d_Mo_exception_49 : decode b_Mo_exception 49 = .ok (.iconst 1, 1) := by decide +kernel
theorem d_Mo_exception_50 : decode b_Mo_exception 50 = .ok (.goto 4, 3) := by decide +kernel
theorem d_Mo_exception_53 : decode b_Mo_exception 53 = .ok (.iconst 0, 1) := by decide +kernel
theorem d_Mo_exception_54 : decode b_Mo_exception 54 = .ok (.bastore, 1) := by decide +kernel
theorem d_Mo_exception_55 : decode b_Mo_exception 55 = .ok (.aload_n 0, 1) := by decide +kernel
theorem d_Mo_exception_56 : decode b_Mo_exception 56 = .ok (.getfield 162, 3) := by decide +kernel
theorem d_Mo_exception_59 : decode b_Mo_exception 59 = .ok (.bipush 32, 2) := by decide +kernel
theorem d_Mo_exception_61 : decode b_Mo_exception 61 = .ok (.iload_n 1, 1) := by decide +kernel
theorem d_Mo_exception_62 : decode b_Mo_exception 62 = .ok (.imul, 1) := by decide +kernel
theorem d_Mo_exception_63 : decode b_Mo_exception 63 = .ok (.iload_n 2, 1) := by decide +kernel
theorem d_Mo_exception_64 : decode b_Mo_exception 64 = .ok (.iadd, 1) := by decide +kernel
theorem d_Mo_exception_65 : decode b_Mo_exception 65 = .ok (.iload_n 3, 1) := by decide +kernel
theorem d_Mo_exception_66 : decode b_Mo_exception 66 = .ok (.iastore, 1) := by decide +kernel
theorem d_Mo_exception_67 : decode b_Mo_exception 67 = .ok (.iconst 1, 1) := by decide +kernel
theorem d_Mo_exception_68 : decode b_Mo_exception 68 = .ok (.ireturn, 1) := by decide +kernel
theorem d_Mo_kerning_0 : decode b_Mo_kerning 0 = .ok (.aload_n 0, 1) := by decide +kernel
theorem d_Mo_kerning_1 : decode b_Mo_kerning 1 = .ok (.iload_n 1, 1) := by decide +kernel
theorem d_Mo_kerning_2 : decode b_Mo_kerning 2 = .ok (.invokevirtual 192, 3) := by decide +kernel
theorem d_Mo_kerning_5 : decode b_Mo_kerning 5 = .ok (.ifCond .eq 11, 3) := by decide +kernel
theorem d_Mo_kerning_8 : decode b_Mo_kerning 8 = .ok (.aload_n 0, 1) := by decide +kernel
theorem d_Mo_kerning_9 : decode b_Mo_kerning 9 = .ok (.iload_n 2, 1) := by decide +kernel
theorem d_Mo_kerning_10 : decode b_Mo_kerning 10 = .ok (.invokevirtual 192, 3) := by decide +kernel
theorem d_Mo_kerning_13 : decode b_Mo_kerning 13 = .ok (.ifCond .ne 5, 3) := by decide +kernel
theorem d_Mo_kerning_16 : decode b_Mo_kerning 16 = .ok (.iconst 0, 1) := by decide +kernel
theorem d_Mo_kerning_17 : decode b_Mo_kerning 17 = .ok (.ireturn, 1) := by decide +kernel
theorem d_Mo_kerning_18 : decode b_Mo_kerning 18 = .ok (.aload_n 0, 1) := by decide +kernel
theorem d_Mo_kerning_19 : decode b_Mo_kerning 19 = .ok (.getfield 165, 3) := by decide +kernel
theorem d_Mo_kerning_22 : decode b_Mo_kerning 22 = .ok (.bipush 32, 2) := by decide +kernel
theorem d_Mo_kerning_24 : decode b_Mo_kerning 24 = .ok (.iload_n 1, 1) := by decide +kernel
theorem d_Mo_kerning_25 : decode b_Mo_kerning 25 = .ok (.imul, 1) := by decide +kernel
theorem d_Mo_kerning_26 : decode b_Mo_kerning 26 = .ok (.iload_n 2, 1) := by decide +kernel
theorem d_Mo_kerning_27 : decode b_Mo_kerning 27 = .ok (.iadd, 1) := by decide +kernel
theorem d_Mo_kerning_28 : decode b_Mo_kerning 28 = .ok (.baload, 1) := by decide +kernel
theorem d_Mo_kerning_29 : decode b_Mo_kerning 29 = .ok (.ifCond .eq 17, 3) := by decide +kernel
theorem d_Mo_kerning_32 : decode b_Mo_kerning 32 = .ok (.aload_n 0, 1) := by decide +kernel
theorem d_Mo_kerning_33 : decode b_Mo_kerning 33 = .ok (.getfield 162, 3) := by decide +kernel
theorem d_Mo_kerning_36 : decode b_Mo_kerning 36 = .ok (.bipush 32, 2) := by decide +kernel
theorem d_Mo_kerning_38 : decode b_Mo_kerning 38 = .ok (.iload_n 1, 1) := by decide +kernel
theorem d_Mo_kerning_39 : decode b_Mo_kerning 39 = .ok (.imul, 1) := by decide +kernel
theorem d_Mo_kerning_40 : decode b_Mo_kerning 40 = .ok (.iload_n 2, 1) := by decide +kernel
theorem d_Mo_kerning_41 : decode b_Mo_kerning 41 = .ok (.iadd, 1) := by decide +kernel
theorem d_Mo_kerning_42 : decode b_Mo_kerning 42 = .ok (.iaload, 1) := by decide +kernel
theorem d_Mo_kerning_43 : decode b_Mo_kerning 43 = .ok (.goto 24, 3) := by decide +kernel
theorem d_Mo_kerning_46 : decode b_Mo_kerning 46 = .ok (.aload_n 0, 1) := by decide +kernel
theorem d_Mo_kerning_47 : decode b_Mo_kerning 47 = .ok (.getfield 159, 3) := by decide +kernel
theorem d_Mo_kerning_50 : decode b_Mo_kerning 50 = .ok (.bipush 16, 2) := by decide +kernel
theorem d_Mo_kerning_52 : decode b_Mo_kerning 52 = .ok (.aload_n 0, 1) := by decide +kernel
theorem d_Mo_kerning_53 : decode b_Mo_kerning 53 = .ok (.getfield 156, 3) := by decide +kernel
theorem d_Mo_kerning_56 : decode b_Mo_kerning 56 = .ok (.iload_n 1, 1) := by decide +kernel
theorem d_Mo_kerning_57 : decode b_Mo_kerning 57 = .ok (.iaload, 1) := by decide +kernel
theorem d_Mo_kerning_58 : decode b_Mo_kerning 58 = .ok (.imul, 1) := by decide +kernel
theorem d_Mo_kerning_59 : decode b_Mo_kerning 59 = .ok (.aload_n 0, 1) := by decide +kernel
theorem d_Mo_kerning_60 : decode b_Mo_kerning 60 = .ok (.getfield 153, 3) := by decide +kernel
theorem d_Mo_kerning_63 : decode b_Mo_kerning 63 = .ok (.iload_n 2, 1) := by decide +kernel
theorem d_Mo_kerning_64 : decode b_Mo_kerning 64 = .ok (.iaload, 1) := by decide +kernel
theorem d_Mo_kerning_65 : decode b_Mo_kerning 65 = .ok (.iadd, 1) := by decide +kernel
theorem d_Mo_kerning_66 : decode b_Mo_kerning 66 = .ok (.iaload, 1) := by decide +kernel
theorem d_Mo_kerning_67 : decode b_Mo_kerning 67 = .ok (.ireturn, 1) := by decide +kernel
theorem d_Mo_join_0 : decode b_Mo_join 0 = .ok (.iload_n 1, 1) := by decide +kernel
theorem d_Mo_join_1 : decode b_Mo_join 1 = .ok (.invokestatic 188, 3) := by decide +kernel
theorem d_Mo_join_4 : decode b_Mo_join 4 = .ok (.ifCond .eq 39, 3) := by decide +kernel
theorem d_Mo_join_7 : decode b_Mo_join 7 = .ok (.iload_n 2, 1) := by decide +kernel
theorem d_Mo_join_8 : decode b_Mo_join 8 = .ok (.invokestatic 188, 3) := by decide +kernel
theorem d_Mo_join_11 : decode b_Mo_join 11 = .ok (.ifCond .eq 32, 3) := by decide +kernel
theorem d_Mo_join_14 : decode b_Mo_join 14 = .ok (.iload_n 3, 1) := by decide +kernel
theorem d_Mo_join_15 : decode b_Mo_join 15 = .ok (.iconst (-1), 1) := by decide +kernel
theorem d_Mo_join_16 : decode b_Mo_join 16 = .ok (.if_icmp .eq 10, 3) := by decide +kernel
theorem d_Mo_join_19 : decode b_Mo_join 19 = .ok (.iload_n 3, 1) := by decide +kernel
theorem d_Mo_join_20 : decode b_Mo_join 20 = .ok (.invokestatic 188, 3) := by decide +kernel
theorem d_Mo_join_23 : decode b_Mo_join 23 = .ok (.ifCond .eq 20, 3) := by decide +kernel
theorem d_Mo_join_26 : decode b_Mo_join 26 = .ok (.iload 4, 2) := by decide +kernel
theorem d_Mo_join_28 : decode b_Mo_join 28 = .ok (.invokestatic 188, 3) := by decide +kernel
theorem d_Mo_join_31 : decode b_Mo_join 31 = .ok (.ifCond .eq 12, 3) := by decide +kernel
theorem d_Mo_join_34 : decode b_Mo_join 34 = .ok (.aload_n 0, 1) := by decide +kernel
theorem d_Mo_join_35 : decode b_Mo_join 35 = .ok (.getfield 390, 3) := by decide +kernel
theorem d_Mo_join_38 : decode b_Mo_join 38 = .ok (.bipush 40, 2) := by decide +kernel
theorem d_Mo_join_40 : decode b_Mo_join 40 = .ok (.if_icmp .ne 5, 3) := by decide +kernel
theorem d_Mo_join_43 : decode b_Mo_join 43 = .ok (.iconst (-1), 1) := by decide +kernel
theorem d_Mo_join_44 : decode b_Mo_join 44 = .ok (.ireturn, 1) := by decide +kernel
theorem d_Mo_join_45 : decode b_Mo_join 45 = .ok (.aload_n 0, 1) := by decide +kernel
theorem d_Mo_join_46 : decode b_Mo_join 46 = .ok (.getfield 168, 3) := by decide +kernel
theorem d_Mo_join_49 : decode b_Mo_join 49 = .ok (.iconst 4, 1) := by decide +kernel
theorem d_Mo_join_50 : decode b_Mo_join 50 = .ok (.aload_n 0, 1) := by decide +kernel
theorem d_Mo_join_51 : decode b_Mo_join 51 = .ok (.getfield 390, 3) := by decide +kernel
theorem d_Mo_join_54 : decode b_Mo_join 54 = .ok (.imul, 1) := by decide +kernel
theorem d_Mo_join_55 : decode b_Mo_join 55 = .ok (.iload_n 1, 1) := by decide +kernel
theorem d_Mo_join_56 : decode b_Mo_join 56 = .ok (.iastore, 1) := by decide +kernel
theorem d_Mo_join_57 : decode b_Mo_join 57 = .ok (.aload_n 0, 1) := by decide +kernel
theorem d_Mo_join_58 : decode b_Mo_join 58 = .ok (.getfield 168, 3) := by decide +kernel
theorem d_Mo_join_61 : decode b_Mo_join 61 = .ok (.iconst 4, 1) := by decide +kernel
theorem d_Mo_join_62 : decode b_Mo_join 62 = .ok (.aload_n 0, 1) := by decide +kernel
theorem d_Mo_join_63 : decode b_Mo_join 63 = .ok (.getfield 390, 3) := by decide +kernel
theorem d_Mo_join_66 : decode b_Mo_join 66 = .ok (.imul, 1) := by decide +kernel
theorem d_Mo_join_67 : decode b_Mo_join 67 = .ok (.iconst 1, 1) := by decide +kernel
theorem d_Mo_join_68 : decode b_Mo_join 68 = .ok (.iadd, 1) := by decide +kernel
theorem d_Mo_join_69 : decode b_Mo_join 69 = .ok (.iload_n 2, 1) := by decide +kernel
theorem d_Mo_join_70 : decode b_Mo_join 70 = .ok (.iastore, 1) := by decide +kernel
theorem d_Mo_join_71 : decode b_Mo_join 71 = .ok (.aload_n 0, 1) := by decide +kernel
theorem d_Mo_join_72 : decode b_Mo_join 72 = .ok (.getfield 168, 3) := by decide +kernel
theorem d_Mo_join_75 : decode b_Mo_join 75 = .ok (.iconst 4, 1) := by decide +kernel
theorem d_Mo_join_76 : decode b_Mo_join 76 = .ok (.aload_n 0, 1) := by decide +kernel
theorem d_Mo_join_77 : decode b_Mo_join 77 = .ok (.getfield 390, 3) := by decide +kernel
theorem d_Mo_join_80 : decode b_Mo_join 80 = .ok (.imul, 1) := by decide +kernel
theorem d_Mo_join_81 : decode b_Mo_join 81 = .ok (.iconst 2, 1) := by decide +kernel
theorem d_Mo_join_82 : decode b_Mo_join 82 = .ok (.iadd, 1) := by decide +kernel
theorem d_Mo_join_83 : decode b_Mo_join 83 = .ok (.iload_n 3, 1) := by decide +kernel
theorem d_Mo_join_84 : decode b_Mo_join 84 = .ok (.iastore, 1) := by decide +kernel
theorem d_Mo_join_85 : decode b_Mo_join 85 = .ok (.aload_n 0, 1) := by decide +kernel
theorem d_Mo_join_86 : decode b_Mo_join 86 = .ok (.getfield 168, 3) := by decide +kernel
theorem d_Mo_join_89 : decode b_Mo_join 89 = .ok (.iconst 4, 1) := by decide +kernel
theorem d_Mo_join_90 : decode b_Mo_join 90 = .ok (.aload_n 0, 1) := by decide +kernel
theorem d_Mo_join_91 : decode b_Mo_join 91 = .ok (.getfield 390, 3) := by decide +kernel
theorem d_Mo_join_94 : decode b_Mo_join 94 = .ok (.imul, 1) := by decide +kernel
theorem d_Mo_join_95 : decode b_Mo_join 95 = .ok (.iconst 3, 1) := by decide +kernel
theorem d_Mo_join_96 : decode b_Mo_join 96 = .ok (.iadd, 1) := by decide +kernel
theorem d_Mo_join_97 : decode b_Mo_join 97 = .ok (.iload 4, 2) := by decide +kernel
theorem d_Mo_join_99 : decode b_Mo_join 99 = .ok (.iastore, 1) := by decide +kernel
theorem d_Mo_join_100 : decode b_Mo_join 100 = .ok (.aload_n 0, 1) := by decide +kernel
theorem d_Mo_join_101 : decode b_Mo_join 101 = .ok (.dup, 1) := by decide +kernel
theorem d_Mo_join_102 : decode b_Mo_join 102 = .ok (.getfield 390, 3) := by decide +kernel
theorem d_Mo_join_105 : decode b_Mo_join 105 = .ok (.iconst 1, 1) := by decide +kernel
theorem d_Mo_join_106 : decode b_Mo_join 106 = .ok (.iadd, 1) := by decide +kernel
theorem d_Mo_join_107 : decode b_Mo_join 107 = .ok (.putfield 390, 3) := by decide +kernel
theorem d_Mo_join_110 : decode b_Mo_join 110 = .ok (.aload_n 0, 1) := by decide +kernel
theorem d_Mo_join_111 : decode b_Mo_join 111 = .ok (.getfield 390, 3) := by decide +kernel
theorem d_Mo_join_114 : decode b_Mo_join 114 = .ok (.ireturn, 1) := by decide +kernel
theorem d_Mo_sign_0 : decode b_Mo_sign 0 = .ok (.iload_n 1, 1) := by decide +kernel
theorem d_Mo_sign_1 : decode b_Mo_sign 1 = .ok (.invokestatic 188, 3) := by decide +kernel
theorem d_Mo_sign_4 : decode b_Mo_sign 4 = .ok (.ifCond .eq 12, 3) := by decide +kernel
theorem d_Mo_sign_7 : decode b_Mo_sign 7 = .ok (.aload_n 0, 1) := by decide +kernel
