theorem d_Fl_addOutline_173 : decode b_Fl_addOutline 173 = .ok (.iinc 8 1, 3) := by decide +kernel
theorem d_Fl_addOutline_176 : decode b_Fl_addOutline 176 = .ok (.goto (-68), 3) := by decide +kernel
theorem d_Fl_addOutline_179 : decode b_Fl_addOutline 179 = .ok (.aload_n 0, 1) := by decide +kernel
theorem d_Fl_addOutline_180 : decode b_Fl_addOutline 180 = .ok (.iconst 0, 1) := by decide +kernel
theorem d_Fl_addOutline_181 : decode b_Fl_addOutline 181 = .ok (.aload 4, 2) := by decide +kernel
theorem d_Fl_addOutline_183 : decode b_Fl_addOutline 183 = .ok (.invokevirtual 101, 3) := by decide +kernel
theorem d_Fl_addOutline_186 : decode b_Fl_addOutline 186 = .ok (.iload 7, 2) := by decide +kernel
theorem d_Fl_addOutline_188 : decode b_Fl_addOutline 188 = .ok (.iconst 1, 1) := by decide +kernel
theorem d_Fl_addOutline_189 : decode b_Fl_addOutline 189 = .ok (.aload_n 0, 1) := by decide +kernel
theorem d_Fl_addOutline_190 : decode b_Fl_addOutline 190 = .ok (.getfield 98, 3) := by decide +kernel
theorem d_Fl_addOutline_193 : decode b_Fl_addOutline 193 = .ok (.invokestatic 105, 3) := by decide +kernel
theorem d_Fl_addOutline_196 : decode b_Fl_addOutline 196 = .ok (.iadd, 1) := by decide +kernel
theorem d_Fl_addOutline_197 : decode b_Fl_addOutline 197 = .ok (.istore 7, 2) := by decide +kernel
theorem d_Fl_addOutline_199 : decode b_Fl_addOutline 199 = .ok (.goto (-137), 3) := by decide +kernel
theorem d_Fl_addOutline_202 : decode b_Fl_addOutline 202 = .ok (.aload 4, 2) := by decide +kernel
theorem d_Fl_addOutline_204 : decode b_Fl_addOutline 204 = .ok (.invokevirtual 111, 3) := by decide +kernel
theorem d_Fl_addOutline_207 : decode b_Fl_addOutline 207 = .ok (.return_, 1) := by decide +kernel
theorem d_Fl_addLetter_0 : decode b_Fl_addLetter 0 = .ok (.iconst 0, 1) := by decide +kernel
theorem d_Fl_addLetter_1 : decode b_Fl_addLetter 1 = .ok (.istore 4, 2) := by decide +kernel
theorem d_Fl_addLetter_3 : decode b_Fl_addLetter 3 = .ok (.iload 4, 2) := by decide +kernel
theorem d_Fl_addLetter_5 : decode b_Fl_addLetter 5 = .ok (.aload_n 1, 1) := by decide +kernel
theorem d_Fl_addLetter_6 : decode b_Fl_addLetter 6 = .ok (.getfield 53, 3) := by decide +kernel
theorem d_Fl_addLetter_9 : decode b_Fl_addLetter 9 = .ok (.getfield 59, 3) := by decide +kernel
theorem d_Fl_addLetter_12 : decode b_Fl_addLetter 12 = .ok (.if_icmp .ge 28, 3) := by decide +kernel
theorem d_Fl_addLetter_15 : decode b_Fl_addLetter 15 = .ok (.aload_n 3, 1) := by decide +kernel
theorem d_Fl_addLetter_16 : decode b_Fl_addLetter 16 = .ok (.getfield 49, 3) := by decide +kernel
theorem d_Fl_addLetter_19 : decode b_Fl_addLetter 19 = .ok (.ifCond .eq 21, 3) := by decide +kernel
theorem d_Fl_addLetter_22 : decode b_Fl_addLetter 22 = .ok (.aload_n 0, 1) := by decide +kernel
theorem d_Fl_addLetter_23 : decode b_Fl_addLetter 23 = .ok (.aload_n 1, 1) := by decide +kernel
theorem d_Fl_addLetter_24 : decode b_Fl_addLetter 24 = .ok (.getfield 53, 3) := by decide +kernel
theorem d_Fl_addLetter_27 : decode b_Fl_addLetter 27 = .ok (.iload 4, 2) := by decide +kernel
theorem d_Fl_addLetter_29 : decode b_Fl_addLetter 29 = .ok (.iload_n 2, 1) := by decide +kernel
theorem d_Fl_addLetter_30 : decode b_Fl_addLetter 30 = .ok (.aload_n 3, 1) := by decide +kernel
theorem d_Fl_addLetter_31 : decode b_Fl_addLetter 31 = .ok (.invokevirtual 65, 3) := by decide +kernel
theorem d_Fl_addLetter_34 : decode b_Fl_addLetter 34 = .ok (.iinc 4 1, 3) := by decide +kernel
theorem d_Fl_addLetter_37 : decode b_Fl_addLetter 37 = .ok (.goto (-34), 3) := by decide +kernel
theorem d_Fl_addLetter_40 : decode b_Fl_addLetter 40 = .ok (.iload_n 2, 1) := by decide +kernel
theorem d_Fl_addLetter_41 : decode b_Fl_addLetter 41 = .ok (.iconst 4, 1) := by decide +kernel
theorem d_Fl_addLetter_42 : decode b_Fl_addLetter 42 = .ok (.if_icmp .lt 4, 3) := by decide +kernel
theorem d_Fl_addLetter_45 : decode b_Fl_addLetter 45 = .ok (.return_, 1) := by decide +kernel
theorem d_Fl_addLetter_46 : decode b_Fl_addLetter 46 = .ok (.iconst 0, 1) := by decide +kernel
theorem d_Fl_addLetter_47 : decode b_Fl_addLetter 47 = .ok (.istore 4, 2) := by decide +kernel
theorem d_Fl_addLetter_49 : decode b_Fl_addLetter 49 = .ok (.iload 4, 2) := by decide +kernel
theorem d_Fl_addLetter_51 : decode b_Fl_addLetter 51 = .ok (.aload_n 1, 1) := by decide +kernel
theorem d_Fl_addLetter_52 : decode b_Fl_addLetter 52 = .ok (.getfield 69, 3) := by decide +kernel
theorem d_Fl_addLetter_55 : decode b_Fl_addLetter 55 = .ok (.if_icmp .ge 51, 3) := by decide +kernel
theorem d_Fl_addLetter_58 : decode b_Fl_addLetter 58 = .ok (.aload_n 3, 1) := by decide +kernel
theorem d_Fl_addLetter_59 : decode b_Fl_addLetter 59 = .ok (.getfield 49, 3) := by decide +kernel
theorem d_Fl_addLetter_62 : decode b_Fl_addLetter 62 = .ok (.ifCond .eq 44, 3) := by decide +kernel
theorem d_Fl_addLetter_65 : decode b_Fl_addLetter 65 = .ok (.aload_n 1, 1) := by decide +kernel
theorem d_Fl_addLetter_66 : decode b_Fl_addLetter 66 = .ok (.getfield 72, 3) := by decide +kernel
theorem d_Fl_addLetter_69 : decode b_Fl_addLetter 69 = .ok (.iload 4, 2) := by decide +kernel
theorem d_Fl_addLetter_71 : decode b_Fl_addLetter 71 = .ok (.aaload, 1) := by decide +kernel
theorem d_Fl_addLetter_72 : decode b_Fl_addLetter 72 = .ok (.astore 5, 2) := by decide +kernel
theorem d_Fl_addLetter_74 : decode b_Fl_addLetter 74 = .ok (.aload 5, 2) := by decide +kernel
theorem d_Fl_addLetter_76 : decode b_Fl_addLetter 76 = .ok (.ifnull 24, 3) := by decide +kernel
theorem d_Fl_addLetter_79 : decode b_Fl_addLetter 79 = .ok (.aload_n 0, 1) := by decide +kernel
theorem d_Fl_addLetter_80 : decode b_Fl_addLetter 80 = .ok (.getfield 26, 3) := by decide +kernel
theorem d_Fl_addLetter_83 : decode b_Fl_addLetter 83 = .ok (.iload_n 2, 1) := by decide +kernel
theorem d_Fl_addLetter_84 : decode b_Fl_addLetter 84 = .ok (.aload 5, 2) := by decide +kernel
theorem d_Fl_addLetter_86 : decode b_Fl_addLetter 86 = .ok (.aastore, 1) := by decide +kernel
theorem d_Fl_addLetter_87 : decode b_Fl_addLetter 87 = .ok (.aload_n 0, 1) := by decide +kernel
theorem d_Fl_addLetter_88 : decode b_Fl_addLetter 88 = .ok (.aload 5, 2) := by decide +kernel
theorem d_Fl_addLetter_90 : decode b_Fl_addLetter 90 = .ok (.getfield 75, 3) := by decide +kernel
theorem d_Fl_addLetter_93 : decode b_Fl_addLetter 93 = .ok (.iload_n 2, 1) := by decide +kernel
theorem d_Fl_addLetter_94 : decode b_Fl_addLetter 94 = .ok (.iconst 1, 1) := by decide +kernel
theorem d_Fl_addLetter_95 : decode b_Fl_addLetter 95 = .ok (.iadd, 1) := by decide +kernel
theorem d_Fl_addLetter_96 : decode b_Fl_addLetter 96 = .ok (.aload_n 3, 1) := by decide +kernel
theorem d_Fl_addLetter_97 : decode b_Fl_addLetter 97 = .ok (.invokevirtual 45, 3) := by decide +kernel
theorem d_Fl_addLetter_100 : decode b_Fl_addLetter 100 = .ok (.iinc 4 1, 3) := by decide +kernel
theorem d_Fl_addLetter_103 : decode b_Fl_addLetter 103 = .ok (.goto (-54), 3) := by decide +kernel
theorem d_Fl_addLetter_106 : decode b_Fl_addLetter 106 = .ok (.return_, 1) := by decide +kernel
theorem d_Po_clear_0 : decode b_Po_clear 0 = .ok (.aload_n 0, 1) := by decide +kernel
theorem d_Po_clear_1 : decode b_Po_clear 1 = .ok (.iconst 0, 1) := by decide +kernel
theorem d_Po_clear_2 : decode b_Po_clear 2 = .ok (.putfield 22, 3) := by decide +kernel
theorem d_Po_clear_5 : decode b_Po_clear 5 = .ok (.aload_n 0, 1) := by decide +kernel
theorem d_Po_clear_6 : decode b_Po_clear 6 = .ok (.iconst 1, 1) := by decide +kernel
theorem d_Po_clear_7 : decode b_Po_clear 7 = .ok (.putfield 26, 3) := by decide +kernel
theorem d_Po_clear_10 : decode b_Po_clear 10 = .ok (.aload_n 0, 1) := by decide +kernel
theorem d_Po_clear_11 : decode b_Po_clear 11 = .ok (.iconst 0, 1) := by decide +kernel
theorem d_Po_clear_12 : decode b_Po_clear 12 = .ok (.putfield 30, 3) := by decide +kernel
theorem d_Po_clear_15 : decode b_Po_clear 15 = .ok (.aload_n 0, 1) := by decide +kernel
theorem d_Po_clear_16 : decode b_Po_clear 16 = .ok (.iconst 0, 1) := by decide +kernel
theorem d_Po_clear_17 : decode b_Po_clear 17 = .ok (.putfield 33, 3) := by decide +kernel
theorem d_Po_clear_20 : decode b_Po_clear 20 = .ok (.aload_n 0, 1) := by decide +kernel
theorem d_Po_clear_21 : decode b_Po_clear 21 = .ok (.iconst 0, 1) := by decide +kernel
theorem d_Po_clear_22 : decode b_Po_clear 22 = .ok (.putfield 36, 3) := by decide +kernel
theorem d_Po_clear_25 : decode b_Po_clear 25 = .ok (.return_, 1) := by decide +kernel
theorem d_Fl_fill_0 : decode b_Fl_fill 0 = .ok (.aload_n 1, 1) := by decide +kernel
theorem d_Fl_fill_1 : decode b_Fl_fill 1 = .ok (.ifnull 15, 3) := by decide +kernel
theorem d_Fl_fill_4 : decode b_Fl_fill 4 = .ok (.iload_n 2, 1) := by decide +kernel
theorem d_Fl_fill_5 : decode b_Fl_fill 5 = .ok (.i2l, 1) := by decide +kernel
theorem d_Fl_fill_6 : decode b_Fl_fill 6 = .ok (.lconst 1, 1) := by decide +kernel
theorem d_Fl_fill_7 : decode b_Fl_fill 7 = .ok (.ldc2_w 30, 3) := by decide +kernel
theorem d_Fl_fill_10 : decode b_Fl_fill 10 = .ok (.invokestatic 32, 3) := by decide +kernel
theorem d_Fl_fill_13 : decode b_Fl_fill 13 = .ok (.ifCond .ne 5, 3) := by decide +kernel
theorem d_Fl_fill_16 : decode b_Fl_fill 16 = .ok (.iconst 0, 1) := by decide +kernel
theorem d_Fl_fill_17 : decode b_Fl_fill 17 = .ok (.ireturn, 1) := by decide +kernel
theorem d_Fl_fill_18 : decode b_Fl_fill 18 = .ok (.aload_n 0, 1) := by decide +kernel
theorem d_Fl_fill_19 : decode b_Fl_fill 19 = .ok (.iload_n 2, 1) := by decide +kernel
theorem d_Fl_fill_20 : decode b_Fl_fill 20 = .ok (.i2l, 1) := by decide +kernel
theorem d_Fl_fill_21 : decode b_Fl_fill 21 = .ok (.bipush 30, 2) := by decide +kernel
theorem d_Fl_fill_23 : decode b_Fl_fill 23 = .ok (.lshl, 1) := by decide +kernel
theorem d_Fl_fill_24 : decode b_Fl_fill 24 = .ok (.putfield 36, 3) := by decide +kernel
theorem d_Fl_fill_27 : decode b_Fl_fill 27 = .ok (.aload_n 3, 1) := by decide +kernel
theorem d_Fl_fill_28 : decode b_Fl_fill 28 = .ok (.invokevirtual 40, 3) := by decide +kernel
theorem d_Fl_fill_31 : decode b_Fl_fill 31 = .ok (.aload_n 0, 1) := by decide +kernel
theorem d_Fl_fill_32 : decode b_Fl_fill 32 = .ok (.aload_n 1, 1) := by decide +kernel
theorem d_Fl_fill_33 : decode b_Fl_fill 33 = .ok (.iconst 0, 1) := by decide +kernel
theorem d_Fl_fill_34 : decode b_Fl_fill 34 = .ok (.aload_n 3, 1) := by decide +kernel
theorem d_Fl_fill_35 : decode b_Fl_fill 35 = .ok (.invokevirtual 45, 3) := by decide +kernel
theorem d_Fl_fill_38 : decode b_Fl_fill 38 = .ok (.aload_n 3, 1) := by decide +kernel
theorem d_Fl_fill_39 : decode b_Fl_fill 39 = .ok (.getfield 49, 3) := by decide +kernel
theorem d_Fl_fill_42 : decode b_Fl_fill 42 = .ok (.ireturn, 1) := by decide +kernel
theorem d_Fo_flatten_0 : decode b_Fo_flatten 0 = .ok (.aload_n 0, 1) := by decide +kernel
theorem d_Fo_flatten_1 : decode b_Fo_flatten 1 = .ok (.getfield 22, 3) := by decide +kernel
theorem d_Fo_flatten_4 : decode b_Fo_flatten 4 = .ok (.aload_n 0, 1) := by decide +kernel
theorem d_Fo_flatten_5 : decode b_Fo_flatten 5 = .ok (.iload_n 1, 1) := by decide +kernel
theorem d_Fo_flatten_6 : decode b_Fo_flatten 6 = .ok (.invokevirtual 99, 3) := by decide +kernel
theorem d_Fo_flatten_9 : decode b_Fo_flatten 9 = .ok (.iload_n 2, 1) := by decide +kernel
theorem d_Fo_flatten_10 : decode b_Fo_flatten 10 = .ok (.aload_n 0, 1) := by decide +kernel
theorem d_Fo_flatten_11 : decode b_Fo_flatten 11 = .ok (.getfield 33, 3) := by decide +kernel
theorem d_Fo_flatten_14 : decode b_Fo_flatten 14 = .ok (.invokevirtual 207, 3) := by decide +kernel
theorem d_Fo_flatten_17 : decode b_Fo_flatten 17 = .ok (.ifCond .ne 5, 3) := by decide +kernel
theorem d_Fo_flatten_20 : decode b_Fo_flatten 20 = .ok (.iconst (-1), 1) := by decide +kernel
theorem d_Fo_flatten_21 : decode b_Fo_flatten 21 = .ok (.ireturn, 1) := by decide +kernel
theorem d_Fo_flatten_22 : decode b_Fo_flatten 22 = .ok (.aload_n 0, 1) := by decide +kernel
theorem d_Fo_flatten_23 : decode b_Fo_flatten 23 = .ok (.invokevirtual 211, 3) := by decide +kernel
theorem d_Fo_flatten_26 : decode b_Fo_flatten 26 = .ok (.aload_n 0, 1) := by decide +kernel
theorem d_Fo_flatten_27 : decode b_Fo_flatten 27 = .ok (.getfield 29, 3) := by decide +kernel
theorem d_Fo_flatten_30 : decode b_Fo_flatten 30 = .ok (.getfield 214, 3) := by decide +kernel
theorem d_Fo_flatten_33 : decode b_Fo_flatten 33 = .ok (.ireturn, 1) := by decide +kernel
theorem d_Fo_flat_0 : decode b_Fo_flat 0 = .ok (.iload_n 1, 1) := by decide +kernel
theorem d_Fo_flat_1 : decode b_Fo_flat 1 = .ok (.i2l, 1) := by decide +kernel
theorem d_Fo_flat_2 : decode b_Fo_flat 2 = .ok (.lconst 0, 1) := by decide +kernel
theorem d_Fo_flat_3 : decode b_Fo_flat 3 = .ok (.aload_n 0, 1) := by decide +kernel
theorem d_Fo_flat_4 : decode b_Fo_flat 4 = .ok (.getfield 29, 3) := by decide +kernel
theorem d_Fo_flat_7 : decode b_Fo_flat 7 = .ok (.getfield 214, 3) := by decide +kernel
theorem d_Fo_flat_10 : decode b_Fo_flat 10 = .ok (.iconst 1, 1) := by decide +kernel
theorem d_Fo_flat_11 : decode b_Fo_flat 11 = .ok (.isub, 1) := by decide +kernel
theorem d_Fo_flat_12 : decode b_Fo_flat 12 = .ok (.i2l, 1) := by decide +kernel
theorem d_Fo_flat_13 : decode b_Fo_flat 13 = .ok (.invokestatic 84, 3) := by decide +kernel
theorem d_Fo_flat_16 : decode b_Fo_flat 16 = .ok (.ifCond .ne 6, 3) := by decide +kernel
theorem d_Fo_flat_19 : decode b_Fo_flat 19 = .ok (.ldc 215, 2) := by decide +kernel
theorem d_Fo_flat_21 : decode b_Fo_flat 21 = .ok (.ireturn, 1) := by decide +kernel
theorem d_Fo_flat_22 : decode b_Fo_flat 22 = .ok (.iload_n 2, 1) := by decide +kernel
theorem d_Fo_flat_23 : decode b_Fo_flat 23 = .ok (.tableswitch 55 0 2 #[25, 35, 45], 25) := by decide +kernel
theorem d_Fo_flat_48 : decode b_Fo_flat 48 = .ok (.aload_n 0, 1) := by decide +kernel
theorem d_Fo_flat_49 : decode b_Fo_flat 49 = .ok (.getfield 29, 3) := by decide +kernel
theorem d_Fo_flat_52 : decode b_Fo_flat 52 = .ok (.getfield 216, 3) := by decide +kernel
theorem d_Fo_flat_55 : decode b_Fo_flat 55 = .ok (.iload_n 1, 1) := by decide +kernel
theorem d_Fo_flat_56 : decode b_Fo_flat 56 = .ok (.iaload, 1) := by decide +kernel
theorem d_Fo_flat_57 : decode b_Fo_flat 57 = .ok (.ireturn, 1) := by decide +kernel
theorem d_Fo_flat_58 : decode b_Fo_flat 58 = .ok (.aload_n 0, 1) := by decide +kernel
theorem d_Fo_flat_59 : decode b_Fo_flat 59 = .ok (.getfield 29, 3) := by decide +kernel
theorem d_Fo_flat_62 : decode b_Fo_flat 62 = .ok (.getfield 219, 3) := by decide +kernel
theorem d_Fo_flat_65 : decode b_Fo_flat 65 = .ok (.iload_n 1, 1) := by decide +kernel
theorem d_Fo_flat_66 : decode b_Fo_flat 66 = .ok (.iaload, 1) := by decide +kernel
theorem d_Fo_flat_67 : decode b_Fo_flat 67 = .ok (.ireturn, 1) := by decide +kernel
theorem d_Fo_flat_68 : decode b_Fo_flat 68 = .ok (.aload_n 0, 1) := by decide +kernel
theorem d_Fo_flat_69 : decode b_Fo_flat 69 = .ok (.getfield 29, 3) := by decide +kernel
theorem d_Fo_flat_72 : decode b_Fo_flat 72 = .ok (.getfield 220, 3) := by decide +kernel
theorem d_Fo_flat_75 : decode b_Fo_flat 75 = .ok (.iload_n 1, 1) := by decide +kernel
theorem d_Fo_flat_76 : decode b_Fo_flat 76 = .ok (.iaload, 1) := by decide +kernel
theorem d_Fo_flat_77 : decode b_Fo_flat 77 = .ok (.ireturn, 1) := by decide +kernel
theorem d_Fo_flat_78 : decode b_Fo_flat 78 = .ok (.ldc 215, 2) := by decide +kernel
theorem d_Fo_flat_80 : decode b_Fo_flat 80 = .ok (.ireturn, 1) := by decide +kernel
theorem d_Po_doubleArea_0 : decode b_Po_doubleArea 0 = .ok (.lconst 0, 1) := by decide +kernel
theorem d_Po_doubleArea_1 : decode b_Po_doubleArea 1 = .ok (.lstore_n 1, 1) := by decide +kernel
theorem d_Po_doubleArea_2 : decode b_Po_doubleArea 2 = .ok (.iconst 0, 1) := by decide +kernel
theorem d_Po_doubleArea_3 : decode b_Po_doubleArea 3 = .ok (.istore_n 3, 1) := by decide +kernel
theorem d_Po_doubleArea_4 : decode b_Po_doubleArea 4 = .ok (.iload_n 3, 1) := by decide +kernel
theorem d_Po_doubleArea_5 : decode b_Po_doubleArea 5 = .ok (.aload_n 0, 1) := by decide +kernel
theorem d_Po_doubleArea_6 : decode b_Po_doubleArea 6 = .ok (.getfield 22, 3) := by decide +kernel
theorem d_Po_doubleArea_9 : decode b_Po_doubleArea 9 = .ok (.if_icmp .ge 53, 3) := by decide +kernel
theorem d_Po_doubleArea_12 : decode b_Po_doubleArea 12 = .ok (.aload_n 0, 1) := by decide +kernel
theorem d_Po_doubleArea_13 : decode b_Po_doubleArea 13 = .ok (.getfield 19, 3) := by decide +kernel
theorem d_Po_doubleArea_16 : decode b_Po_doubleArea 16 = .ok (.iload_n 3, 1) := by decide +kernel
theorem d_Po_doubleArea_17 : decode b_Po_doubleArea 17 = .ok (.iaload, 1) := by decide +kernel
theorem d_Po_doubleArea_18 : decode b_Po_doubleArea 18 = .ok (.istore 4, 2) := by decide +kernel
theorem d_Po_doubleArea_20 : decode b_Po_doubleArea 20 = .ok (.lload_n 1, 1) := by decide +kernel
theorem d_Po_doubleArea_21 : decode b_Po_doubleArea 21 = .ok (.aload_n 0, 1) := by decide +kernel
theorem d_Po_doubleArea_22 : decode b_Po_doubleArea 22 = .ok (.getfield 9, 3) := by decide +kernel
theorem d_Po_doubleArea_25 : decode b_Po_doubleArea 25 = .ok (.iload_n 3, 1) := by decide +kernel
theorem d_Po_doubleArea_26 : decode b_Po_doubleArea 26 = .ok (.iaload, 1) := by decide +kernel
theorem d_Po_doubleArea_27 : decode b_Po_doubleArea 27 = .ok (.i2l, 1) := by decide +kernel
theorem d_Po_doubleArea_28 : decode b_Po_doubleArea 28 = .ok (.aload_n 0, 1) := by decide +kernel
theorem d_Po_doubleArea_29 : decode b_Po_doubleArea 29 = .ok (.getfield 13, 3) := by decide +kernel
theorem d_Po_doubleArea_32 : decode b_Po_doubleArea 32 = .ok (.iload 4, 2) := by decide +kernel
theorem d_Po_doubleArea_34 : decode b_Po_doubleArea 34 = .ok (.iaload, 1) := by decide +kernel
theorem d_Po_doubleArea_35 : decode b_Po_doubleArea 35 = .ok (.i2l, 1) := by decide +kernel
theorem d_Po_doubleArea_36 : decode b_Po_doubleArea 36 = .ok (.lmul, 1) := by decide +kernel
theorem d_Po_doubleArea_37 : decode b_Po_doubleArea 37 = .ok (.aload_n 0, 1) := by decide +kernel
theorem d_Po_doubleArea_38 : decode b_Po_doubleArea 38 = .ok (.getfield 13, 3) := by decide +kernel
theorem d_Po_doubleArea_41 : decode b_Po_doubleArea 41 = .ok (.iload_n 3, 1) := by decide +kernel
theorem d_Po_doubleArea_42 : decode b_Po_doubleArea 42 = .ok (.iaload, 1) := by decide +kernel
theorem d_Po_doubleArea_43 : decode b_Po_doubleArea 43 = .ok (.i2l, 1) := by decide +kernel
theorem d_Po_doubleArea_44 : decode b_Po_doubleArea 44 = .ok (.aload_n 0, 1) := by decide +kernel
theorem d_Po_doubleArea_45 : decode b_Po_doubleArea 45 = .ok (.getfield 9, 3) := by decide +kernel
theorem d_Po_doubleArea_48 : decode b_Po_doubleArea 48 = .ok (.iload 4, 2) := by decide +kernel
theorem d_Po_doubleArea_50 : decode b_Po_doubleArea 50 = .ok (.iaload, 1) := by decide +kernel
theorem d_Po_doubleArea_51 : decode b_Po_doubleArea 51 = .ok (.i2l, 1) := by decide +kernel
theorem d_Po_doubleArea_52 : decode b_Po_doubleArea 52 = .ok (.lmul, 1) := by decide +kernel
theorem d_Po_doubleArea_53 : decode b_Po_doubleArea 53 = .ok (.lsub, 1) := by decide +kernel
theorem d_Po_doubleArea_54 : decode b_Po_doubleArea 54 = .ok (.ladd, 1) := by decide +kernel
theorem d_Po_doubleArea_55 : decode b_Po_doubleArea 55 = .ok (.lstore_n 1, 1) := by decide +kernel
theorem d_Po_doubleArea_56 : decode b_Po_doubleArea 56 = .ok (.iinc 3 1, 3) := by decide +kernel
theorem d_Po_doubleArea_59 : decode b_Po_doubleArea 59 = .ok (.goto (-55), 3) := by decide +kernel
theorem d_Po_doubleArea_62 : decode b_Po_doubleArea 62 = .ok (.lload_n 1, 1) := by decide +kernel
theorem d_Po_doubleArea_63 : decode b_Po_doubleArea 63 = .ok (.lreturn, 1) := by decide +kernel
theorem d_Fo_area_0 : decode b_Fo_area 0 = .ok (.aload_n 0, 1) := by decide +kernel
theorem d_Fo_area_1 : decode b_Fo_area 1 = .ok (.getfield 29, 3) := by decide +kernel
theorem d_Fo_area_4 : decode b_Fo_area 4 = .ok (.invokevirtual 221, 3) := by decide +kernel
theorem d_Fo_area_7 : decode b_Fo_area 7 = .ok (.lreturn, 1) := by decide +kernel
theorem d_Po_turnsAround_0 : decode b_Po_turnsAround 0 = .ok (.iconst 0, 1) := by decide +kernel
theorem d_Po_turnsAround_1 : decode b_Po_turnsAround 1 = .ok (.istore_n 3, 1) := by decide +kernel
theorem d_Po_turnsAround_2 : decode b_Po_turnsAround 2 = .ok (.iconst 0, 1) := by decide +kernel
theorem d_Po_turnsAround_3 : decode b_Po_turnsAround 3 = .ok (.istore 4, 2) := by decide +kernel
theorem d_Po_turnsAround_5 : decode b_Po_turnsAround 5 = .ok (.iload 4, 2) := by decide +kernel
theorem d_Po_turnsAround_7 : decode b_Po_turnsAround 7 = .ok (.aload_n 0, 1) := by decide +kernel
theorem d_Po_turnsAround_8 : decode b_Po_turnsAround 8 = .ok (.getfield 22, 3) := by decide +kernel
theorem d_Po_turnsAround_11 : decode b_Po_turnsAround 11 = .ok (.if_icmp .ge 180, 3) := by decide +kernel
theorem d_Po_turnsAround_14 : decode b_Po_turnsAround 14 = .ok (.aload_n 0, 1) := by decide +kernel
theorem d_Po_turnsAround_15 : decode b_Po_turnsAround 15 = .ok (.getfield 19, 3) := by decide +kernel
theorem d_Po_turnsAround_18 : decode b_Po_turnsAround 18 = .ok (.iload 4, 2) := by decide +kernel
theorem d_Po_turnsAround_20 : decode b_Po_turnsAround 20 = .ok (.iaload, 1) := by decide +kernel
theorem d_Po_turnsAround_21 : decode b_Po_turnsAround 21 = .ok (.istore 5, 2) := by decide +kernel
theorem d_Po_turnsAround_23 : decode b_Po_turnsAround 23 = .ok (.aload_n 0, 1) := by decide +kernel
theorem d_Po_turnsAround_24 : decode b_Po_turnsAround 24 = .ok (.getfield 9, 3) := by decide +kernel
theorem d_Po_turnsAround_27 : decode b_Po_turnsAround 27 = .ok (.iload 5, 2) := by decide +kernel
theorem d_Po_turnsAround_29 : decode b_Po_turnsAround 29 = .ok (.iaload, 1) := by decide +kernel
theorem d_Po_turnsAround_30 : decode b_Po_turnsAround 30 = .ok (.aload_n 0, 1) := by decide +kernel
theorem d_Po_turnsAround_31 : decode b_Po_turnsAround 31 = .ok (.getfield 9, 3) := by decide +kernel
theorem d_Po_turnsAround_34 : decode b_Po_turnsAround 34 = .ok (.iload 4, 2) := by decide +kernel
theorem d_Po_turnsAround_36 : decode b_Po_turnsAround 36 = .ok (.iaload, 1) := by decide +kernel
theorem d_Po_turnsAround_37 : decode b_Po_turnsAround 37 = .ok (.isub, 1) := by decide +kernel
theorem d_Po_turnsAround_38 : decode b_Po_turnsAround 38 = .ok (.i2l, 1) := by decide +kernel
theorem d_Po_turnsAround_39 : decode b_Po_turnsAround 39 = .ok (.iload_n 2, 1) := by decide +kernel
theorem d_Po_turnsAround_40 : decode b_Po_turnsAround 40 = .ok (.i2l, 1) := by decide +kernel
theorem d_Po_turnsAround_41 : decode b_Po_turnsAround 41 = .ok (.ldc2_w 47, 3) := by decide +kernel
theorem d_Po_turnsAround_44 : decode b_Po_turnsAround 44 = .ok (.aload_n 0, 1) := by decide +kernel
theorem d_Po_turnsAround_45 : decode b_Po_turnsAround 45 = .ok (.getfield 13, 3) := by decide +kernel
theorem d_Po_turnsAround_48 : decode b_Po_turnsAround 48 = .ok (.iload 4, 2) := by decide +kernel
theorem d_Po_turnsAround_50 : decode b_Po_turnsAround 50 = .ok (.iaload, 1) := by decide +kernel
theorem d_Po_turnsAround_51 : decode b_Po_turnsAround 51 = .ok (.i2l, 1) := by decide +kernel
theorem d_Po_turnsAround_52 : decode b_Po_turnsAround 52 = .ok (.lmul, 1) := by decide +kernel
theorem d_Po_turnsAround_53 : decode b_Po_turnsAround 53 = .ok (.lsub, 1) := by decide +kernel
theorem d_Po_turnsAround_54 : decode b_Po_turnsAround 54 = .ok (.lmul, 1) := by decide +kernel
theorem d_Po_turnsAround_55 : decode b_Po_turnsAround 55 = .ok (.iload_n 1, 1) := by decide +kernel
theorem d_Po_turnsAround_56 : decode b_Po_turnsAround 56 = .ok (.i2l, 1) := by decide +kernel
theorem d_Po_turnsAround_57 : decode b_Po_turnsAround 57 = .ok (.ldc2_w 47, 3) := by decide +kernel
theorem d_Po_turnsAround_60 : decode b_Po_turnsAround 60 = .ok (.aload_n 0, 1) := by decide +kernel
theorem d_Po_turnsAround_61 : decode b_Po_turnsAround 61 = .ok (.getfield 9, 3) := by decide +kernel
theorem d_Po_turnsAround_64 : decode b_Po_turnsAround 64 = .ok (.iload 4, 2) := by decide +kernel
theorem d_Po_turnsAround_66 : decode b_Po_turnsAround 66 = .ok (.iaload, 1) := by decide +kernel
theorem d_Po_turnsAround_67 : decode b_Po_turnsAround 67 = .ok (.i2l, 1) := by decide +kernel
theorem d_Po_turnsAround_68 : decode b_Po_turnsAround 68 = .ok (.lmul, 1) := by decide +kernel
theorem d_Po_turnsAround_69 : decode b_Po_turnsAround 69 = .ok (.lsub, 1) := by decide +kernel
theorem d_Po_turnsAround_70 : decode b_Po_turnsAround 70 = .ok (.aload_n 0, 1) := by decide +kernel
theorem d_Po_turnsAround_71 : decode b_Po_turnsAround 71 = .ok (.getfield 13, 3) := by decide +kernel
theorem d_Po_turnsAround_74 : decode b_Po_turnsAround 74 = .ok (.iload 5, 2) := by decide +kernel
theorem d_Po_turnsAround_76 : decode b_Po_turnsAround 76 = .ok (.iaload, 1) := by decide +kernel
theorem d_Po_turnsAround_77 : decode b_Po_turnsAround 77 = .ok (.aload_n 0, 1) := by decide +kernel
theorem d_Po_turnsAround_78 : decode b_Po_turnsAround 78 = .ok (.getfield 13, 3) := by decide +kernel
theorem d_Po_turnsAround_81 : decode b_Po_turnsAround 81 = .ok (.iload 4, 2) := by decide +kernel
theorem d_Po_turnsAround_83 : decode b_Po_turnsAround 83 = .ok (.iaload, 1) := by decide +kernel
theorem d_Po_turnsAround_84 : decode b_Po_turnsAround 84 = .ok (.isub, 1) := by decide +kernel
theorem d_Po_turnsAround_85 : decode b_Po_turnsAround 85 = .ok (.i2l, 1) := by decide +kernel
theorem d_Po_turnsAround_86 : decode b_Po_turnsAround 86 = .ok (.lmul, 1) := by decide +kernel
theorem d_Po_turnsAround_87 : decode b_Po_turnsAround 87 = .ok (.lsub, 1) := by decide +kernel
theorem d_Po_turnsAround_88 : decode b_Po_turnsAround 88 = .ok (.lstore 6, 2) := by decide +kernel
theorem d_Po_turnsAround_90 : decode b_Po_turnsAround 90 = .ok (.ldc2_w 47, 3) := by decide +kernel
theorem d_Po_turnsAround_93 : decode b_Po_turnsAround 93 = .ok (.aload_n 0, 1) := by decide +kernel
theorem d_Po_turnsAround_94 : decode b_Po_turnsAround 94 = .ok (.getfield 13, 3) := by decide +kernel
theorem d_Po_turnsAround_97 : decode b_Po_turnsAround 97 = .ok (.iload 4, 2) := by decide +kernel
theorem d_Po_turnsAround_99 : decode b_Po_turnsAround 99 = .ok (.iaload, 1) := by decide +kernel
theorem d_Po_turnsAround_100 : decode b_Po_turnsAround 100 = .ok (.i2l, 1) := by decide +kernel
theorem d_Po_turnsAround_101 : decode b_Po_turnsAround 101 = .ok (.lmul, 1) := by decide +kernel
theorem d_Po_turnsAround_102 : decode b_Po_turnsAround 102 = .ok (.iload_n 2, 1) := by decide +kernel
theorem d_Po_turnsAround_103 : decode b_Po_turnsAround 103 = .ok (.i2l, 1) := by decide +kernel
theorem d_Po_turnsAround_104 : decode b_Po_turnsAround 104 = .ok (.lcmp, 1) := by decide +kernel
theorem d_Po_turnsAround_105 : decode b_Po_turnsAround 105 = .ok (.ifCond .gt 34, 3) := by decide +kernel
theorem d_Po_turnsAround_108 : decode b_Po_turnsAround 108 = .ok (.iload_n 2, 1) := by decide +kernel
theorem d_Po_turnsAround_109 : decode b_Po_turnsAround 109 = .ok (.i2l, 1) := by decide +kernel
theorem d_Po_turnsAround_110 : decode b_Po_turnsAround 110 = .ok (.ldc2_w 47, 3) := by decide +kernel
theorem d_Po_turnsAround_113 : decode b_Po_turnsAround 113 = .ok (.aload_n 0, 1) := by decide +kernel
theorem d_Po_turnsAround_114 : decode b_Po_turnsAround 114 = .ok (.getfield 13, 3) := by decide +kernel
theorem d_Po_turnsAround_117 : decode b_Po_turnsAround 117 = .ok (.iload 5, 2) := by decide +kernel
theorem d_Po_turnsAround_119 : decode b_Po_turnsAround 119 = .ok (.iaload, 1) := by decide +kernel
theorem d_Po_turnsAround_120 : decode b_Po_turnsAround 120 = .ok (.i2l, 1) := by decide +kernel
theorem d_Po_turnsAround_121 : decode b_Po_turnsAround 121 = .ok (.lmul, 1) := by decide +kernel
theorem d_Po_turnsAround_122 : decode b_Po_turnsAround 122 = .ok (.lcmp, 1) := by decide +kernel
theorem d_Po_turnsAround_123 : decode b_Po_turnsAround 123 = .ok (.ifCond .ge 16, 3) := by decide +kernel
theorem d_Po_turnsAround_126 : decode b_Po_turnsAround 126 = .ok (.lload 6, 2) := by decide +kernel
theorem d_Po_turnsAround_128 : decode b_Po_turnsAround 128 = .ok (.lconst 0, 1) := by decide +kernel
theorem d_Po_turnsAround_129 : decode b_Po_turnsAround 129 = .ok (.lcmp, 1) := by decide +kernel
theorem d_Po_turnsAround_130 : decode b_Po_turnsAround 130 = .ok (.ifCond .le 9, 3) := by decide +kernel
theorem d_Po_turnsAround_133 : decode b_Po_turnsAround 133 = .ok (.iinc 3 1, 3) := by decide +kernel
theorem d_Po_turnsAround_136 : decode b_Po_turnsAround 136 = .ok (.goto 49, 3) := by decide +kernel
theorem d_Po_turnsAround_139 : decode b_Po_turnsAround 139 = .ok (.ldc2_w 47, 3) := by decide +kernel
theorem d_Po_turnsAround_142 : decode b_Po_turnsAround 142 = .ok (.aload_n 0, 1) := by decide +kernel
theorem d_Po_turnsAround_143 : decode b_Po_turnsAround 143 = .ok (.getfield 13, 3) := by decide +kernel
theorem d_Po_turnsAround_146 : decode b_Po_turnsAround 146 = .ok (.iload 5, 2) := by decide +kernel
theorem d_Po_turnsAround_148 : decode b_Po_turnsAround 148 = .ok (.iaload, 1) := by decide +kernel
theorem d_Po_turnsAround_149 : decode b_Po_turnsAround 149 = .ok (.i2l, 1) := by decide +kernel
theorem d_Po_turnsAround_150 : decode b_Po_turnsAround 150 = .ok (.lmul, 1) := by decide +kernel
theorem d_Po_turnsAround_151 : decode b_Po_turnsAround 151 = .ok (.iload_n 2, 1) := by decide +kernel
theorem d_Po_turnsAround_152 : decode b_Po_turnsAround 152 = .ok (.i2l, 1) := by decide +kernel
theorem d_Po_turnsAround_153 : decode b_Po_turnsAround 153 = .ok (.lcmp, 1) := by decide +kernel
theorem d_Po_turnsAround_154 : decode b_Po_turnsAround 154 = .ok (.ifCond .gt 31, 3) := by decide +kernel
theorem d_Po_turnsAround_157 : decode b_Po_turnsAround 157 = .ok (.iload_n 2, 1) := by decide +kernel
theorem d_Po_turnsAround_158 : decode b_Po_turnsAround 158 = .ok (.i2l, 1) := by decide +kernel
theorem d_Po_turnsAround_159 : decode b_Po_turnsAround 159 = .ok (.ldc2_w 47, 3) := by decide +kernel
theorem d_Po_turnsAround_162 : decode b_Po_turnsAround 162 = .ok (.aload_n 0, 1) := by decide +kernel
theorem d_Po_turnsAround_163 : decode b_Po_turnsAround 163 = .ok (.getfield 13, 3) := by decide +kernel
theorem d_Po_turnsAround_166 : decode b_Po_turnsAround 166 = .ok (.iload 4, 2) := by decide +kernel
theorem d_Po_turnsAround_168 : decode b_Po_turnsAround 168 = .ok (.iaload, 1) := by decide +kernel
theorem d_Po_turnsAround_169 : decode b_Po_turnsAround 169 = .ok (.i2l, 1) := by decide +kernel
theorem d_Po_turnsAround_170 : decode b_Po_turnsAround 170 = .ok (.lmul, 1) := by decide +kernel
theorem d_Po_turnsAround_171 : decode b_Po_turnsAround 171 = .ok (.lcmp, 1) := by decide +kernel
theorem d_Po_turnsAround_172 : decode b_Po_turnsAround 172 = .ok (.ifCond .ge 13, 3) := by decide +kernel
theorem d_Po_turnsAround_175 : decode b_Po_turnsAround 175 = .ok (.lload 6, 2) := by decide +kernel
theorem d_Po_turnsAround_177 : decode b_Po_turnsAround 177 = .ok (.lconst 0, 1) := by decide +kernel
theorem d_Po_turnsAround_178 : decode b_Po_turnsAround 178 = .ok (.lcmp, 1) := by decide +kernel
theorem d_Po_turnsAround_179 : decode b_Po_turnsAround 179 = .ok (.ifCond .ge 6, 3) := by decide +kernel
theorem d_Po_turnsAround_182 : decode b_Po_turnsAround 182 = .ok (.iinc 3 (-1), 3) := by decide +kernel
theorem d_Po_turnsAround_185 : decode b_Po_turnsAround 185 = .ok (.iinc 4 1, 3) := by decide +kernel
theorem d_Po_turnsAround_188 : decode b_Po_turnsAround 188 = .ok (.goto (-183), 3) := by decide +kernel
theorem d_Po_turnsAround_191 : decode b_Po_turnsAround 191 = .ok (.iload_n 3, 1) := by decide +kernel
theorem d_Po_turnsAround_192 : decode b_Po_turnsAround 192 = .ok (.ireturn, 1) := by decide +kernel
theorem d_Fo_winding_0 : decode b_Fo_winding 0 = .ok (.iload_n 1, 1) := by decide +kernel
theorem d_Fo_winding_1 : decode b_Fo_winding 1 = .ok (.i2l, 1) := by decide +kernel
theorem d_Fo_winding_2 : decode b_Fo_winding 2 = .ok (.ldc2_w 225, 3) := by decide +kernel
theorem d_Fo_winding_5 : decode b_Fo_winding 5 = .ok (.ldc2_w 227, 3) := by decide +kernel
theorem d_Fo_winding_8 : decode b_Fo_winding 8 = .ok (.invokestatic 84, 3) := by decide +kernel
theorem d_Fo_winding_11 : decode b_Fo_winding 11 = .ok (.ifCond .eq 17, 3) := by decide +kernel
theorem d_Fo_winding_14 : decode b_Fo_winding 14 = .ok (.iload_n 2, 1) := by decide +kernel
theorem d_Fo_winding_15 : decode b_Fo_winding 15 = .ok (.i2l, 1) := by decide +kernel
theorem d_Fo_winding_16 : decode b_Fo_winding 16 = .ok (.ldc2_w 225, 3) := by decide +kernel
theorem d_Fo_winding_19 : decode b_Fo_winding 19 = .ok (.ldc2_w 227, 3) := by decide +kernel
theorem d_Fo_winding_22 : decode b_Fo_winding 22 = .ok (.invokestatic 84, 3) := by decide +kernel
theorem d_Fo_winding_25 : decode b_Fo_winding 25 = .ok (.ifCond .ne 5, 3) := by decide +kernel
theorem d_Fo_winding_28 : decode b_Fo_winding 28 = .ok (.iconst 0, 1) := by decide +kernel
theorem d_Fo_winding_29 : decode b_Fo_winding 29 = .ok (.ireturn, 1) := by decide +kernel
theorem d_Fo_winding_30 : decode b_Fo_winding 30 = .ok (.aload_n 0, 1) := by decide +kernel
theorem d_Fo_winding_31 : decode b_Fo_winding 31 = .ok (.getfield 29, 3) := by decide +kernel
theorem d_Fo_winding_34 : decode b_Fo_winding 34 = .ok (.iload_n 1, 1) := by decide +kernel
theorem d_Fo_winding_35 : decode b_Fo_winding 35 = .ok (.iload_n 2, 1) := by decide +kernel
theorem d_Fo_winding_36 : decode b_Fo_winding 36 = .ok (.invokevirtual 229, 3) := by decide +kernel
theorem d_Fo_winding_39 : decode b_Fo_winding 39 = .ok (.ireturn, 1) := by decide +kernel
theorem d_Po_side_0 : decode b_Po_side 0 = .ok (.aload_n 0, 1) := by decide +kernel
theorem d_Po_side_1 : decode b_Po_side 1 = .ok (.getfield 9, 3) := by decide +kernel
theorem d_Po_side_4 : decode b_Po_side 4 = .ok (.iload_n 2, 1) := by decide +kernel
theorem d_Po_side_5 : decode b_Po_side 5 = .ok (.iaload, 1) := by decide +kernel
theorem d_Po_side_6 : decode b_Po_side 6 = .ok (.aload_n 0, 1) := by decide +kernel
theorem d_Po_side_7 : decode b_Po_side 7 = .ok (.getfield 9, 3) := by decide +kernel
theorem d_Po_side_10 : decode b_Po_side 10 = .ok (.iload_n 1, 1) := by decide +kernel
theorem d_Po_side_11 : decode b_Po_side 11 = .ok (.iaload, 1) := by decide +kernel
theorem d_Po_side_12 : decode b_Po_side 12 = .ok (.isub, 1) := by decide +kernel
theorem d_Po_side_13 : decode b_Po_side 13 = .ok (.i2l, 1) := by decide +kernel
theorem d_Po_side_14 : decode b_Po_side 14 = .ok (.aload_n 0, 1) := by decide +kernel
theorem d_Po_side_15 : decode b_Po_side 15 = .ok (.getfield 13, 3) := by decide +kernel
theorem d_Po_side_18 : decode b_Po_side 18 = .ok (.iload_n 3, 1) := by decide +kernel
theorem d_Po_side_19 : decode b_Po_side 19 = .ok (.iaload, 1) := by decide +kernel
theorem d_Po_side_20 : decode b_Po_side 20 = .ok (.aload_n 0, 1) := by decide +kernel
theorem d_Po_side_21 : decode b_Po_side 21 = .ok (.getfield 13, 3) := by decide +kernel
theorem d_Po_side_24 : decode b_Po_side 24 = .ok (.iload_n 1, 1) := by decide +kernel
theorem d_Po_side_25 : decode b_Po_side 25 = .ok (.iaload, 1) := by decide +kernel
theorem d_Po_side_26 : decode b_Po_side 26 = .ok (.isub, 1) := by decide +kernel
theorem d_Po_side_27 : decode b_Po_side 27 = .ok (.i2l, 1) := by decide +kernel
theorem d_Po_side_28 : decode b_Po_side 28 = .ok (.lmul, 1) := by decide +kernel
theorem d_Po_side_29 : decode b_Po_side 29 = .ok (.aload_n 0, 1) := by decide +kernel
theorem d_Po_side_30 : decode b_Po_side 30 = .ok (.getfield 9, 3) := by decide +kernel
theorem d_Po_side_33 : decode b_Po_side 33 = .ok (.iload_n 3, 1) := by decide +kernel
theorem d_Po_side_34 : decode b_Po_side 34 = .ok (.iaload, 1) := by decide +kernel
theorem d_Po_side_35 : decode b_Po_side 35 = .ok (.aload_n 0, 1) := by decide +kernel
theorem d_Po_side_36 : decode b_Po_side 36 = .ok (.getfield 9, 3) := by decide +kernel
theorem d_Po_side_39 : decode b_Po_side 39 = .ok (.iload_n 1, 1) := by decide +kernel
theorem d_Po_side_40 : decode b_Po_side 40 = .ok (.iaload, 1) := by decide +kernel
theorem d_Po_side_41 : decode b_Po_side 41 = .ok (.isub, 1) := by decide +kernel
theorem d_Po_side_42 : decode b_Po_side 42 = .ok (.i2l, 1) := by decide +kernel
theorem d_Po_side_43 : decode b_Po_side 43 = .ok (.aload_n 0, 1) := by decide +kernel
theorem d_Po_side_44 : decode b_Po_side 44 = .ok (.getfield 13, 3) := by decide +kernel
theorem d_Po_side_47 : decode b_Po_side 47 = .ok (.iload_n 2, 1) := by decide +kernel
theorem d_Po_side_48 : decode b_Po_side 48 = .ok (.iaload, 1) := by decide +kernel
theorem d_Po_side_49 : decode b_Po_side 49 = .ok (.aload_n 0, 1) := by decide +kernel
theorem d_Po_side_50 : decode b_Po_side 50 = .ok (.getfield 13, 3) := by decide +kernel
theorem d_Po_side_53 : decode b_Po_side 53 = .ok (.iload_n 1, 1) := by decide +kernel
theorem d_Po_side_54 : decode b_Po_side 54 = .ok (.iaload, 1) := by decide +kernel
theorem d_Po_side_55 : decode b_Po_side 55 = .ok (.isub, 1) := by decide +kernel
theorem d_Po_side_56 : decode b_Po_side 56 = .ok (.i2l, 1) := by decide +kernel
theorem d_Po_side_57 : decode b_Po_side 57 = .ok (.lmul, 1) := by decide +kernel
theorem d_Po_side_58 : decode b_Po_side 58 = .ok (.lsub, 1) := by decide +kernel
theorem d_Po_side_59 : decode b_Po_side 59 = .ok (.lreturn, 1) := by decide +kernel
theorem d_Po_parts_0 : decode b_Po_parts 0 = .ok (.aload_n 0, 1) := by decide +kernel
theorem d_Po_parts_1 : decode b_Po_parts 1 = .ok (.iload_n 1, 1) := by decide +kernel
theorem d_Po_parts_2 : decode b_Po_parts 2 = .ok (.iload_n 2, 1) := by decide +kernel
theorem d_Po_parts_3 : decode b_Po_parts 3 = .ok (.iload_n 3, 1) := by decide +kernel
theorem d_Po_parts_4 : decode b_Po_parts 4 = .ok (.invokevirtual 53, 3) := by decide +kernel
theorem d_Po_parts_7 : decode b_Po_parts 7 = .ok (.lstore 5, 2) := by decide +kernel
theorem d_Po_parts_9 : decode b_Po_parts 9 = .ok (.aload_n 0, 1) := by decide +kernel
theorem d_Po_parts_10 : decode b_Po_parts 10 = .ok (.iload_n 1, 1) := by decide +kernel
theorem d_Po_parts_11 : decode b_Po_parts 11 = .ok (.iload_n 2, 1) := by decide +kernel
theorem d_Po_parts_12 : decode b_Po_parts 12 = .ok (.iload 4, 2) := by decide +kernel
theorem d_Po_parts_14 : decode b_Po_parts 14 = .ok (.invokevirtual 53, 3) := by decide +kernel
theorem d_Po_parts_17 : decode b_Po_parts 17 = .ok (.lstore 7, 2) := by decide +kernel
theorem d_Po_parts_19 : decode b_Po_parts 19 = .ok (.lload 5, 2) := by decide +kernel
theorem d_Po_parts_21 : decode b_Po_parts 21 = .ok (.lconst 0, 1) := by decide +kernel
theorem d_Po_parts_22 : decode b_Po_parts 22 = .ok (.lcmp, 1) := by decide +kernel
theorem d_Po_parts_23 : decode b_Po_parts 23 = .ok (.ifCond .ge 10, 3) := by decide +kernel
theorem d_Po_parts_26 : decode b_Po_parts 26 = .ok (.lload 7, 2) := by decide +kernel
theorem d_Po_parts_28 : decode b_Po_parts 28 = .ok (.lconst 0, 1) := by decide +kernel
theorem d_Po_parts_29 : decode b_Po_parts 29 = .ok (.lcmp, 1) := by decide +kernel
theorem d_Po_parts_30 : decode b_Po_parts 30 = .ok (.ifCond .gt 17, 3) := by decide +kernel
theorem d_Po_parts_33 : decode b_Po_parts 33 = .ok (.lload 5, 2) := by decide +kernel
theorem d_Po_parts_35 : decode b_Po_parts 35 = .ok (.lconst 0, 1) := by decide +kernel
theorem d_Po_parts_36 : decode b_Po_parts 36 = .ok (.lcmp, 1) := by decide +kernel
theorem d_Po_parts_37 : decode b_Po_parts 37 = .ok (.ifCond .le 14, 3) := by decide +kernel
theorem d_Po_parts_40 : decode b_Po_parts 40 = .ok (.lload 7, 2) := by decide +kernel
theorem d_Po_parts_42 : decode b_Po_parts 42 = .ok (.lconst 0, 1) := by decide +kernel
theorem d_Po_parts_43 : decode b_Po_parts 43 = .ok (.lcmp, 1) := by decide +kernel
theorem d_Po_parts_44 : decode b_Po_parts 44 = .ok (.ifCond .ge 7, 3) := by decide +kernel
theorem d_Po_parts_47 : decode b_Po_parts 47 = .ok (.iconst 1, 1) := by decide +kernel
theorem d_Po_parts_48 : decode b_Po_parts 48 = .ok (.goto 4, 3) := by decide +kernel
theorem d_Po_parts_51 : decode b_Po_parts 51 = .ok (.iconst 0, 1) := by decide +kernel
theorem d_Po_parts_52 : decode b_Po_parts 52 = .ok (.ireturn, 1) := by decide +kernel
theorem d_Po_crossingPairs_0 : decode b_Po_crossingPairs 0 = .ok (.iconst 0, 1) := by decide +kernel
theorem d_Po_crossingPairs_1 : decode b_Po_crossingPairs 1 = .ok (.istore_n 1, 1) := by decide +kernel
theorem d_Po_crossingPairs_2 : decode b_Po_crossingPairs 2 = .ok (.iconst 0, 1) := by decide +kernel
theorem d_Po_crossingPairs_3 : decode b_Po_crossingPairs 3 = .ok (.istore_n 2, 1) := by decide +kernel
theorem d_Po_crossingPairs_4 : decode b_Po_crossingPairs 4 = .ok (.iload_n 2, 1) := by decide +kernel
theorem d_Po_crossingPairs_5 : decode b_Po_crossingPairs 5 = .ok (.aload_n 0, 1) := by decide +kernel
theorem d_Po_crossingPairs_6 : decode b_Po_crossingPairs 6 = .ok (.getfield 22, 3) := by decide +kernel
theorem d_Po_crossingPairs_9 : decode b_Po_crossingPairs 9 = .ok (.if_icmp .ge 72, 3) := by decide +kernel
theorem d_Po_crossingPairs_12 : decode b_Po_crossingPairs 12 = .ok (.iload_n 2, 1) := by decide +kernel
theorem d_Po_crossingPairs_13 : decode b_Po_crossingPairs 13 = .ok (.iconst 1, 1) := by decide +kernel
theorem d_Po_crossingPairs_14 : decode b_Po_crossingPairs 14 = .ok (.iadd, 1) := by decide +kernel
theorem d_Po_crossingPairs_15 : decode b_Po_crossingPairs 15 = .ok (.istore_n 3, 1) := by decide +kernel
theorem d_Po_crossingPairs_16 : decode b_Po_crossingPairs 16 = .ok (.iload_n 3, 1) := by decide +kernel
theorem d_Po_crossingPairs_17 : decode b_Po_crossingPairs 17 = .ok (.aload_n 0, 1) := by decide +kernel
theorem d_Po_crossingPairs_18 : decode b_Po_crossingPairs 18 = .ok (.getfield 22, 3) := by decide +kernel
theorem d_Po_crossingPairs_21 : decode b_Po_crossingPairs 21 = .ok (.if_icmp .ge 54, 3) := by decide +kernel
theorem d_Po_crossingPairs_24 : decode b_Po_crossingPairs 24 = .ok (.aload_n 0, 1) := by decide +kernel
theorem d_Po_crossingPairs_25 : decode b_Po_crossingPairs 25 = .ok (.iload_n 2, 1) := by decide +kernel
theorem d_Po_crossingPairs_26 : decode b_Po_crossingPairs 26 = .ok (.aload_n 0, 1) := by decide +kernel
theorem d_Po_crossingPairs_27 : decode b_Po_crossingPairs 27 = .ok (.getfield 19, 3) := by decide +kernel
theorem d_Po_crossingPairs_30 : decode b_Po_crossingPairs 30 = .ok (.iload_n 2, 1) := by decide +kernel
theorem d_Po_crossingPairs_31 : decode b_Po_crossingPairs 31 = .ok (.iaload, 1) := by decide +kernel
theorem d_Po_crossingPairs_32 : decode b_Po_crossingPairs 32 = .ok (.iload_n 3, 1) := by decide +kernel
theorem d_Po_crossingPairs_33 : decode b_Po_crossingPairs 33 = .ok (.aload_n 0, 1) := by decide +kernel
theorem d_Po_crossingPairs_34 : decode b_Po_crossingPairs 34 = .ok (.getfield 19, 3) := by decide +kernel
theorem d_Po_crossingPairs_37 : decode b_Po_crossingPairs 37 = .ok (.iload_n 3, 1) := by decide +kernel
theorem d_Po_crossingPairs_38 : decode b_Po_crossingPairs 38 = .ok (.iaload, 1) := by decide +kernel
theorem d_Po_crossingPairs_39 : decode b_Po_crossingPairs 39 = .ok (.invokevirtual 49, 3) := by decide +kernel
theorem d_Po_crossingPairs_42 : decode b_Po_crossingPairs 42 = .ok (.ifCond .eq 27, 3) := by decide +kernel
theorem d_Po_crossingPairs_45 : decode b_Po_crossingPairs 45 = .ok (.aload_n 0, 1) := by decide +kernel
theorem d_Po_crossingPairs_46 : decode b_Po_crossingPairs 46 = .ok (.iload_n 3, 1) := by decide +kernel
theorem d_Po_crossingPairs_47 : decode b_Po_crossingPairs 47 = .ok (.aload_n 0, 1) := by decide +kernel
theorem d_Po_crossingPairs_48 : decode b_Po_crossingPairs 48 = .ok (.getfield 19, 3) := by decide +kernel
theorem d_Po_crossingPairs_51 : decode b_Po_crossingPairs 51 = .ok (.iload_n 3, 1) := by decide +kernel
theorem d_Po_crossingPairs_52 : decode b_Po_crossingPairs 52 = .ok (.iaload, 1) := by decide +kernel
theorem d_Po_crossingPairs_53 : decode b_Po_crossingPairs 53 = .ok (.iload_n 2, 1) := by decide +kernel
theorem d_Po_crossingPairs_54 : decode b_Po_crossingPairs 54 = .ok (.aload_n 0, 1) := by decide +kernel
theorem d_Po_crossingPairs_55 : decode b_Po_crossingPairs 55 = .ok (.getfield 19, 3) := by decide +kernel
theorem d_Po_crossingPairs_58 : decode b_Po_crossingPairs 58 = .ok (.iload_n 2, 1) := by decide +kernel
theorem d_Po_crossingPairs_59 : decode b_Po_crossingPairs 59 = .ok (.iaload, 1) := by decide +kernel
theorem d_Po_crossingPairs_60 : decode b_Po_crossingPairs 60 = .ok (.invokevirtual 49, 3) := by decide +kernel
theorem d_Po_crossingPairs_63 : decode b_Po_crossingPairs 63 = .ok (.ifCond .eq 6, 3) := by decide +kernel
theorem d_Po_crossingPairs_66 : decode b_Po_crossingPairs 66 = .ok (.iinc 1 1, 3) := by decide +kernel
theorem d_Po_crossingPairs_69 : decode b_Po_crossingPairs 69 = .ok (.iinc 3 1, 3) := by decide +kernel
theorem d_Po_crossingPairs_72 : decode b_Po_crossingPairs 72 = .ok (.goto (-56), 3) := by decide +kernel
theorem d_Po_crossingPairs_75 : decode b_Po_crossingPairs 75 = .ok (.iinc 2 1, 3) := by decide +kernel
theorem d_Po_crossingPairs_78 : decode b_Po_crossingPairs 78 = .ok (.goto (-74), 3) := by decide +kernel
theorem d_Po_crossingPairs_81 : decode b_Po_crossingPairs 81 = .ok (.iload_n 1, 1) := by decide +kernel
theorem d_Po_crossingPairs_82 : decode b_Po_crossingPairs 82 = .ok (.ireturn, 1) := by decide +kernel
theorem d_Fo_crossings_0 : decode b_Fo_crossings 0 = .ok (.aload_n 0, 1) := by decide +kernel
theorem d_Fo_crossings_1 : decode b_Fo_crossings 1 = .ok (.getfield 29, 3) := by decide +kernel
theorem d_Fo_crossings_4 : decode b_Fo_crossings 4 = .ok (.invokevirtual 233, 3) := by decide +kernel
theorem d_Fo_crossings_7 : decode b_Fo_crossings 7 = .ok (.ireturn, 1) := by decide +kernel
theorem d_Fo_isDots_0 : decode b_Fo_isDots 0 = .ok (.iload_n 0, 1) := by decide +kernel
theorem d_Fo_isDots_1 : decode b_Fo_isDots 1 = .ok (.i2l, 1) := by decide +kernel
theorem d_Fo_isDots_2 : decode b_Fo_isDots 2 = .ok (.ldc2_w 364, 3) := by decide +kernel
theorem d_Fo_isDots_5 : decode b_Fo_isDots 5 = .ok (.ldc2_w 366, 3) := by decide +kernel
theorem d_Fo_isDots_8 : decode b_Fo_isDots 8 = .ok (.invokestatic 84, 3) := by decide +kernel
theorem d_Fo_isDots_11 : decode b_Fo_isDots 11 = .ok (.ireturn, 1) := by decide +kernel
theorem d_Im_countRow_0 : decode b_Im_countRow 0 = .ok (.iconst 0, 1) := by decide +kernel
theorem d_Im_countRow_1 : decode b_Im_countRow 1 = .ok (.istore_n 3, 1) := by decide +kernel
theorem d_Im_countRow_2 : decode b_Im_countRow 2 = .ok (.aload_n 0, 1) := by decide +kernel
theorem d_Im_countRow_3 : decode b_Im_countRow 3 = .ok (.getfield 78, 3) := by decide +kernel
theorem d_Im_countRow_6 : decode b_Im_countRow 6 = .ok (.istore 4, 2) := by decide +kernel
theorem d_Im_countRow_8 : decode b_Im_countRow 8 = .ok (.iload 4, 2) := by decide +kernel
theorem d_Im_countRow_10 : decode b_Im_countRow 10 = .ok (.aload_n 0, 1) := by decide +kernel
theorem d_Im_countRow_11 : decode b_Im_countRow 11 = .ok (.getfield 75, 3) := by decide +kernel
theorem d_Im_countRow_14 : decode b_Im_countRow 14 = .ok (.if_icmp .lt 89, 3) := by decide +kernel
theorem d_Im_countRow_17 : decode b_Im_countRow 17 = .ok (.iload 4, 2) := by decide +kernel
theorem d_Im_countRow_19 : decode b_Im_countRow 19 = .ok (.ifCond .lt 84, 3) := by decide +kernel
theorem d_Im_countRow_22 : decode b_Im_countRow 22 = .ok (.iload_n 3, 1) := by decide +kernel
theorem d_Im_countRow_23 : decode b_Im_countRow 23 = .ok (.aload_n 0, 1) := by decide +kernel
theorem d_Im_countRow_24 : decode b_Im_countRow 24 = .ok (.getfield 13, 3) := by decide +kernel
theorem d_Im_countRow_27 : decode b_Im_countRow 27 = .ok (.iload 4, 2) := by decide +kernel
theorem d_Im_countRow_29 : decode b_Im_countRow 29 = .ok (.iaload, 1) := by decide +kernel
theorem d_Im_countRow_30 : decode b_Im_countRow 30 = .ok (.iadd, 1) := by decide +kernel
theorem d_Im_countRow_31 : decode b_Im_countRow 31 = .ok (.istore_n 3, 1) := by decide +kernel
theorem d_Im_countRow_32 : decode b_Im_countRow 32 = .ok (.aload_n 0, 1) := by decide +kernel
theorem d_Im_countRow_33 : decode b_Im_countRow 33 = .ok (.getfield 13, 3) := by decide +kernel
theorem d_Im_countRow_36 : decode b_Im_countRow 36 = .ok (.iload 4, 2) := by decide +kernel
theorem d_Im_countRow_38 : decode b_Im_countRow 38 = .ok (.iconst 0, 1) := by decide +kernel
theorem d_Im_countRow_39 : decode b_Im_countRow 39 = .ok (.iastore, 1) := by decide +kernel
theorem d_Im_countRow_40 : decode b_Im_countRow 40 = .ok (.iload_n 2, 1) := by decide +kernel
theorem d_Im_countRow_41 : decode b_Im_countRow 41 = .ok (.ifCond .ne 15, 3) := by decide +kernel
theorem d_Im_countRow_44 : decode b_Im_countRow 44 = .ok (.iload_n 3, 1) := by decide +kernel
theorem d_Im_countRow_45 : decode b_Im_countRow 45 = .ok (.ifCond .eq 7, 3) := by decide +kernel
theorem d_Im_countRow_48 : decode b_Im_countRow 48 = .ok (.iconst 1, 1) := by decide +kernel
theorem d_Im_countRow_49 : decode b_Im_countRow 49 = .ok (.goto 18, 3) := by decide +kernel
theorem d_Im_countRow_52 : decode b_Im_countRow 52 = .ok (.iconst 0, 1) := by decide +kernel
theorem d_Im_countRow_53 : decode b_Im_countRow 53 = .ok (.goto 14, 3) := by decide +kernel
theorem d_Im_countRow_56 : decode b_Im_countRow 56 = .ok (.iload_n 3, 1) := by decide +kernel
theorem d_Im_countRow_57 : decode b_Im_countRow 57 = .ok (.iconst 1, 1) := by decide +kernel
theorem d_Im_countRow_58 : decode b_Im_countRow 58 = .ok (.iand, 1) := by decide +kernel
theorem d_Im_countRow_59 : decode b_Im_countRow 59 = .ok (.ifCond .eq 7, 3) := by decide +kernel
theorem d_Im_countRow_62 : decode b_Im_countRow 62 = .ok (.iconst 1, 1) := by decide +kernel
theorem d_Im_countRow_63 : decode b_Im_countRow 63 = .ok (.goto 4, 3) := by decide +kernel
theorem d_Im_countRow_66 : decode b_Im_countRow 66 = .ok (.iconst 0, 1) := by decide +kernel
theorem d_Im_countRow_67 : decode b_Im_countRow 67 = .ok (.istore 5, 2) := by decide +kernel
theorem d_Im_countRow_69 : decode b_Im_countRow 69 = .ok (.iload 5, 2) := by decide +kernel
theorem d_Im_countRow_71 : decode b_Im_countRow 71 = .ok (.ifCond .eq 26, 3) := by decide +kernel
theorem d_Im_countRow_74 : decode b_Im_countRow 74 = .ok (.iload 4, 2) := by decide +kernel
theorem d_Im_countRow_76 : decode b_Im_countRow 76 = .ok (.ifCond .le 21, 3) := by decide +kernel
theorem d_Im_countRow_79 : decode b_Im_countRow 79 = .ok (.aload_n 0, 1) := by decide +kernel
theorem d_Im_countRow_80 : decode b_Im_countRow 80 = .ok (.getfield 9, 3) := by decide +kernel
theorem d_Im_countRow_83 : decode b_Im_countRow 83 = .ok (.iload_n 1, 1) := by decide +kernel
theorem d_Im_countRow_84 : decode b_Im_countRow 84 = .ok (.iload 4, 2) := by decide +kernel
theorem d_Im_countRow_86 : decode b_Im_countRow 86 = .ok (.iconst 1, 1) := by decide +kernel
theorem d_Im_countRow_87 : decode b_Im_countRow 87 = .ok (.isub, 1) := by decide +kernel
theorem d_Im_countRow_88 : decode b_Im_countRow 88 = .ok (.bipush 8, 2) := by decide +kernel
theorem d_Im_countRow_90 : decode b_Im_countRow 90 = .ok (.idiv, 1) := by decide +kernel
theorem d_Im_countRow_91 : decode b_Im_countRow 91 = .ok (.iadd, 1) := by decide +kernel
theorem d_Im_countRow_92 : decode b_Im_countRow 92 = .ok (.dup2, 1) := by decide +kernel
theorem d_Im_countRow_93 : decode b_Im_countRow 93 = .ok (.iaload, 1) := by decide +kernel
theorem d_Im_countRow_94 : decode b_Im_countRow 94 = .ok (.iconst 1, 1) := by decide +kernel
theorem d_Im_countRow_95 : decode b_Im_countRow 95 = .ok (.iadd, 1) := by decide +kernel
theorem d_Im_countRow_96 : decode b_Im_countRow 96 = .ok (.iastore, 1) := by decide +kernel
theorem d_Im_countRow_97 : decode b_Im_countRow 97 = .ok (.iinc 4 (-1), 3) := by decide +kernel
theorem d_Im_countRow_100 : decode b_Im_countRow 100 = .ok (.goto (-92), 3) := by decide +kernel
theorem d_Im_countRow_103 : decode b_Im_countRow 103 = .ok (.return_, 1) := by decide +kernel
theorem d_Ma_min2_0 : decode b_Ma_min2 0 = .ok (.iload_n 0, 1) := by decide +kernel
theorem d_Ma_min2_1 : decode b_Ma_min2 1 = .ok (.iload_n 1, 1) := by decide +kernel
theorem d_Ma_min2_2 : decode b_Ma_min2 2 = .ok (.if_icmp .gt 7, 3) := by decide +kernel
theorem d_Ma_min2_5 : decode b_Ma_min2 5 = .ok (.iload_n 0, 1) := by decide +kernel
theorem d_Ma_min2_6 : decode b_Ma_min2 6 = .ok (.goto 4, 3) := by decide +kernel
theorem d_Ma_min2_9 : decode b_Ma_min2 9 = .ok (.iload_n 1, 1) := by decide +kernel
theorem d_Ma_min2_10 : decode b_Ma_min2 10 = .ok (.ireturn, 1) := by decide +kernel
theorem d_Im_mark_0 : decode b_Im_mark 0 = .ok (.aload_n 0, 1) := by decide +kernel
theorem d_Im_mark_1 : decode b_Im_mark 1 = .ok (.getfield 13, 3) := by decide +kernel
theorem d_Im_mark_4 : decode b_Im_mark 4 = .ok (.iload_n 1, 1) := by decide +kernel
theorem d_Im_mark_5 : decode b_Im_mark 5 = .ok (.dup2, 1) := by decide +kernel
theorem d_Im_mark_6 : decode b_Im_mark 6 = .ok (.iaload, 1) := by decide +kernel
theorem d_Im_mark_7 : decode b_Im_mark 7 = .ok (.iload_n 2, 1) := by decide +kernel
theorem d_Im_mark_8 : decode b_Im_mark 8 = .ok (.iadd, 1) := by decide +kernel
theorem d_Im_mark_9 : decode b_Im_mark 9 = .ok (.iastore, 1) := by decide +kernel
theorem d_Im_mark_10 : decode b_Im_mark 10 = .ok (.aload_n 0, 1) := by decide +kernel
theorem d_Im_mark_11 : decode b_Im_mark 11 = .ok (.aload_n 0, 1) := by decide +kernel
theorem d_Im_mark_12 : decode b_Im_mark 12 = .ok (.getfield 75, 3) := by decide +kernel
theorem d_Im_mark_15 : decode b_Im_mark 15 = .ok (.iload_n 1, 1) := by decide +kernel
theorem d_Im_mark_16 : decode b_Im_mark 16 = .ok (.invokestatic 91, 3) := by decide +kernel
theorem d_Im_mark_19 : decode b_Im_mark 19 = .ok (.putfield 75, 3) := by decide +kernel
theorem d_Im_mark_22 : decode b_Im_mark 22 = .ok (.aload_n 0, 1) := by decide +kernel
theorem d_Im_mark_23 : decode b_Im_mark 23 = .ok (.aload_n 0, 1) := by decide +kernel
theorem d_Im_mark_24 : decode b_Im_mark 24 = .ok (.getfield 78, 3) := by decide +kernel
theorem d_Im_mark_27 : decode b_Im_mark 27 = .ok (.iload_n 1, 1) := by decide +kernel
theorem d_Im_mark_28 : decode b_Im_mark 28 = .ok (.invokestatic 97, 3) := by decide +kernel
theorem d_Im_mark_31 : decode b_Im_mark 31 = .ok (.putfield 78, 3) := by decide +kernel
theorem d_Im_mark_34 : decode b_Im_mark 34 = .ok (.return_, 1) := by decide +kernel
theorem d_Ma_max2_0 : decode b_Ma_max2 0 = .ok (.lload_n 0, 1) := by decide +kernel
theorem d_Ma_max2_1 : decode b_Ma_max2 1 = .ok (.lload_n 2, 1) := by decide +kernel
theorem d_Ma_max2_2 : decode b_Ma_max2 2 = .ok (.lcmp, 1) := by decide +kernel
theorem d_Ma_max2_3 : decode b_Ma_max2 3 = .ok (.ifCond .lt 7, 3) := by decide +kernel
theorem d_Ma_max2_6 : decode b_Ma_max2 6 = .ok (.lload_n 0, 1) := by decide +kernel
theorem d_Ma_max2_7 : decode b_Ma_max2 7 = .ok (.goto 4, 3) := by decide +kernel
theorem d_Ma_max2_10 : decode b_Ma_max2 10 = .ok (.lload_n 2, 1) := by decide +kernel
theorem d_Ma_max2_11 : decode b_Ma_max2 11 = .ok (.lreturn, 1) := by decide +kernel
theorem d_Ma_min_0 : decode b_Ma_min 0 = .ok (.lload_n 0, 1) := by decide +kernel
theorem d_Ma_min_1 : decode b_Ma_min 1 = .ok (.lload_n 2, 1) := by decide +kernel
theorem d_Ma_min_2 : decode b_Ma_min 2 = .ok (.lcmp, 1) := by decide +kernel
theorem d_Ma_min_3 : decode b_Ma_min 3 = .ok (.ifCond .gt 7, 3) := by decide +kernel
theorem d_Ma_min_6 : decode b_Ma_min 6 = .ok (.lload_n 0, 1) := by decide +kernel
theorem d_Ma_min_7 : decode b_Ma_min 7 = .ok (.goto 4, 3) := by decide +kernel
theorem d_Ma_min_10 : decode b_Ma_min 10 = .ok (.lload_n 2, 1) := by decide +kernel
theorem d_Ma_min_11 : decode b_Ma_min 11 = .ok (.lreturn, 1) := by decide +kernel
theorem d_Im_samplesLeft_0 : decode b_Im_samplesLeft 0 = .ok (.aload_n 0, 1) := by decide +kernel
theorem d_Im_samplesLeft_1 : decode b_Im_samplesLeft 1 = .ok (.getfield 29, 3) := by decide +kernel
theorem d_Im_samplesLeft_4 : decode b_Im_samplesLeft 4 = .ok (.iload_n 2, 1) := by decide +kernel
theorem d_Im_samplesLeft_5 : decode b_Im_samplesLeft 5 = .ok (.iaload, 1) := by decide +kernel
theorem d_Im_samplesLeft_6 : decode b_Im_samplesLeft 6 = .ok (.aload_n 0, 1) := by decide +kernel
theorem d_Im_samplesLeft_7 : decode b_Im_samplesLeft 7 = .ok (.getfield 29, 3) := by decide +kernel
theorem d_Im_samplesLeft_10 : decode b_Im_samplesLeft 10 = .ok (.iload_n 1, 1) := by decide +kernel
theorem d_Im_samplesLeft_11 : decode b_Im_samplesLeft 11 = .ok (.iaload, 1) := by decide +kernel
theorem d_Im_samplesLeft_12 : decode b_Im_samplesLeft 12 = .ok (.isub, 1) := by decide +kernel
theorem d_Im_samplesLeft_13 : decode b_Im_samplesLeft 13 = .ok (.i2l, 1) := by decide +kernel
theorem d_Im_samplesLeft_14 : decode b_Im_samplesLeft 14 = .ok (.lstore 6, 2) := by decide +kernel
theorem d_Im_samplesLeft_16 : decode b_Im_samplesLeft 16 = .ok (.lload 6, 2) := by decide +kernel
theorem d_Im_samplesLeft_18 : decode b_Im_samplesLeft 18 = .ok (.lconst 0, 1) := by decide +kernel
theorem d_Im_samplesLeft_19 : decode b_Im_samplesLeft 19 = .ok (.lcmp, 1) := by decide +kernel
theorem d_Im_samplesLeft_20 : decode b_Im_samplesLeft 20 = .ok (.ifCond .gt 5, 3) := by decide +kernel
theorem d_Im_samplesLeft_23 : decode b_Im_samplesLeft 23 = .ok (.iconst 0, 1) := by decide +kernel
theorem d_Im_samplesLeft_24 : decode b_Im_samplesLeft 24 = .ok (.ireturn, 1) := by decide +kernel
theorem d_Im_samplesLeft_25 : decode b_Im_samplesLeft 25 = .ok (.iload_n 3, 1) := by decide +kernel
theorem d_Im_samplesLeft_26 : decode b_Im_samplesLeft 26 = .ok (.aload_n 0, 1) := by decide +kernel
theorem d_Im_samplesLeft_27 : decode b_Im_samplesLeft 27 = .ok (.getfield 22, 3) := by decide +kernel
theorem d_Im_samplesLeft_30 : decode b_Im_samplesLeft 30 = .ok (.iload_n 1, 1) := by decide +kernel
theorem d_Im_samplesLeft_31 : decode b_Im_samplesLeft 31 = .ok (.iaload, 1) := by decide +kernel
theorem d_Im_samplesLeft_32 : decode b_Im_samplesLeft 32 = .ok (.imul, 1) := by decide +kernel
theorem d_Im_samplesLeft_33 : decode b_Im_samplesLeft 33 = .ok (.i2l, 1) := by decide +kernel
theorem d_Im_samplesLeft_34 : decode b_Im_samplesLeft 34 = .ok (.lload 6, 2) := by decide +kernel
theorem d_Im_samplesLeft_36 : decode b_Im_samplesLeft 36 = .ok (.lmul, 1) := by decide +kernel
theorem d_Im_samplesLeft_37 : decode b_Im_samplesLeft 37 = .ok (.aload_n 0, 1) := by decide +kernel
theorem d_Im_samplesLeft_38 : decode b_Im_samplesLeft 38 = .ok (.getfield 22, 3) := by decide +kernel
theorem d_Im_samplesLeft_41 : decode b_Im_samplesLeft 41 = .ok (.iload_n 2, 1) := by decide +kernel
theorem d_Im_samplesLeft_42 : decode b_Im_samplesLeft 42 = .ok (.iaload, 1) := by decide +kernel
theorem d_Im_samplesLeft_43 : decode b_Im_samplesLeft 43 = .ok (.aload_n 0, 1) := by decide +kernel
theorem d_Im_samplesLeft_44 : decode b_Im_samplesLeft 44 = .ok (.getfield 22, 3) := by decide +kernel
theorem d_Im_samplesLeft_47 : decode b_Im_samplesLeft 47 = .ok (.iload_n 1, 1) := by decide +kernel
theorem d_Im_samplesLeft_48 : decode b_Im_samplesLeft 48 = .ok (.iaload, 1) := by decide +kernel
theorem d_Im_samplesLeft_49 : decode b_Im_samplesLeft 49 = .ok (.isub, 1) := by decide +kernel
theorem d_Im_samplesLeft_50 : decode b_Im_samplesLeft 50 = .ok (.i2l, 1) := by decide +kernel
theorem d_Im_samplesLeft_51 : decode b_Im_samplesLeft 51 = .ok (.lload 4, 2) := by decide +kernel
theorem d_Im_samplesLeft_53 : decode b_Im_samplesLeft 53 = .ok (.iload_n 3, 1) := by decide +kernel
theorem d_Im_samplesLeft_54 : decode b_Im_samplesLeft 54 = .ok (.i2l, 1) := by decide +kernel
theorem d_Im_samplesLeft_55 : decode b_Im_samplesLeft 55 = .ok (.aload_n 0, 1) := by decide +kernel
theorem d_Im_samplesLeft_56 : decode b_Im_samplesLeft 56 = .ok (.getfield 29, 3) := by decide +kernel
theorem d_Im_samplesLeft_59 : decode b_Im_samplesLeft 59 = .ok (.iload_n 1, 1) := by decide +kernel
theorem d_Im_samplesLeft_60 : decode b_Im_samplesLeft 60 = .ok (.iaload, 1) := by decide +kernel
theorem d_Im_samplesLeft_61 : decode b_Im_samplesLeft 61 = .ok (.i2l, 1) := by decide +kernel
theorem d_Im_samplesLeft_62 : decode b_Im_samplesLeft 62 = .ok (.lmul, 1) := by decide +kernel
theorem d_Im_samplesLeft_63 : decode b_Im_samplesLeft 63 = .ok (.lsub, 1) := by decide +kernel
theorem d_Im_samplesLeft_64 : decode b_Im_samplesLeft 64 = .ok (.lmul, 1) := by decide +kernel
theorem d_Im_samplesLeft_65 : decode b_Im_samplesLeft 65 = .ok (.ladd, 1) := by decide +kernel
theorem d_Im_samplesLeft_66 : decode b_Im_samplesLeft 66 = .ok (.lstore 8, 2) := by decide +kernel
theorem d_Im_samplesLeft_68 : decode b_Im_samplesLeft 68 = .ok (.ldc2_w 100, 3) := by decide +kernel
theorem d_Im_samplesLeft_71 : decode b_Im_samplesLeft 71 = .ok (.lstore 10, 2) := by decide +kernel
theorem d_Im_samplesLeft_73 : decode b_Im_samplesLeft 73 = .ok (.lload 10, 2) := by decide +kernel
theorem d_Im_samplesLeft_75 : decode b_Im_samplesLeft 75 = .ok (.lload 6, 2) := by decide +kernel
theorem d_Im_samplesLeft_77 : decode b_Im_samplesLeft 77 = .ok (.lmul, 1) := by decide +kernel
theorem d_Im_samplesLeft_78 : decode b_Im_samplesLeft 78 = .ok (.lload 8, 2) := by decide +kernel
theorem d_Im_samplesLeft_80 : decode b_Im_samplesLeft 80 = .ok (.lsub, 1) := by decide +kernel
theorem d_Im_samplesLeft_81 : decode b_Im_samplesLeft 81 = .ok (.ldc2_w 102, 3) := by decide +kernel
theorem d_Im_samplesLeft_84 : decode b_Im_samplesLeft 84 = .ok (.lload 6, 2) := by decide +kernel
theorem d_Im_samplesLeft_86 : decode b_Im_samplesLeft 86 = .ok (.lmul, 1) := by decide +kernel
theorem d_Im_samplesLeft_87 : decode b_Im_samplesLeft 87 = .ok (.invokestatic 104, 3) := by decide +kernel
theorem d_Im_samplesLeft_90 : decode b_Im_samplesLeft 90 = .ok (.lneg, 1) := by decide +kernel
theorem d_Im_samplesLeft_91 : decode b_Im_samplesLeft 91 = .ok (.lstore 12, 2) := by decide +kernel
theorem d_Im_samplesLeft_93 : decode b_Im_samplesLeft 93 = .ok (.lconst 0, 1) := by decide +kernel
theorem d_Im_samplesLeft_94 : decode b_Im_samplesLeft 94 = .ok (.ldc2_w 108, 3) := by decide +kernel
theorem d_Im_samplesLeft_97 : decode b_Im_samplesLeft 97 = .ok (.lload 12, 2) := by decide +kernel
theorem d_Im_samplesLeft_99 : decode b_Im_samplesLeft 99 = .ok (.invokestatic 110, 3) := by decide +kernel
theorem d_Im_samplesLeft_102 : decode b_Im_samplesLeft 102 = .ok (.invokestatic 112, 3) := by decide +kernel
theorem d_Im_samplesLeft_105 : decode b_Im_samplesLeft 105 = .ok (.l2i, 1) := by decide +kernel
theorem d_Im_samplesLeft_106 : decode b_Im_samplesLeft 106 = .ok (.ireturn, 1) := by decide +kernel
theorem d_Im_markRow_0 : decode b_Im_markRow 0 = .ok (.aload_n 0, 1) := by decide +kernel
theorem d_Im_markRow_1 : decode b_Im_markRow 1 = .ok (.aload_n 0, 1) := by decide +kernel
theorem d_Im_markRow_2 : decode b_Im_markRow 2 = .ok (.getfield 13, 3) := by decide +kernel
theorem d_Im_markRow_5 : decode b_Im_markRow 5 = .ok (.arraylength, 1) := by decide +kernel
theorem d_Im_markRow_6 : decode b_Im_markRow 6 = .ok (.putfield 75, 3) := by decide +kernel
theorem d_Im_markRow_9 : decode b_Im_markRow 9 = .ok (.aload_n 0, 1) := by decide +kernel
theorem d_Im_markRow_10 : decode b_Im_markRow 10 = .ok (.iconst 0, 1) := by decide +kernel
theorem d_Im_markRow_11 : decode b_Im_markRow 11 = .ok (.putfield 78, 3) := by decide +kernel
theorem d_Im_markRow_14 : decode b_Im_markRow 14 = .ok (.sipush (-16384), 3) := by decide +kernel
theorem d_Im_markRow_17 : decode b_Im_markRow 17 = .ok (.iload_n 3, 1) := by decide +kernel
theorem d_Im_markRow_18 : decode b_Im_markRow 18 = .ok (.sipush 128, 3) := by decide +kernel
theorem d_Im_markRow_21 : decode b_Im_markRow 21 = .ok (.imul, 1) := by decide +kernel
theorem d_Im_markRow_22 : decode b_Im_markRow 22 = .ok (.iadd, 1) := by decide +kernel
theorem d_Im_markRow_23 : decode b_Im_markRow 23 = .ok (.bipush 64, 2) := by decide +kernel
theorem d_Im_markRow_25 : decode b_Im_markRow 25 = .ok (.iadd, 1) := by decide +kernel
theorem d_Im_markRow_26 : decode b_Im_markRow 26 = .ok (.i2l, 1) := by decide +kernel
theorem d_Im_markRow_27 : decode b_Im_markRow 27 = .ok (.lstore 4, 2) := by decide +kernel
theorem d_Im_markRow_29 : decode b_Im_markRow 29 = .ok (.iconst 0, 1) := by decide +kernel
theorem d_Im_markRow_30 : decode b_Im_markRow 30 = .ok (.istore 6, 2) := by decide +kernel
theorem d_Im_markRow_32 : decode b_Im_markRow 32 = .ok (.iload 6, 2) := by decide +kernel
theorem d_Im_markRow_34 : decode b_Im_markRow 34 = .ok (.aload_n 1, 1) := by decide +kernel
theorem d_Im_markRow_35 : decode b_Im_markRow 35 = .ok (.getfield 16, 3) := by decide +kernel
theorem d_Im_markRow_38 : decode b_Im_markRow 38 = .ok (.if_icmp .ge 121, 3) := by decide +kernel
theorem d_Im_markRow_41 : decode b_Im_markRow 41 = .ok (.aload_n 1, 1) := by decide +kernel
theorem d_Im_markRow_42 : decode b_Im_markRow 42 = .ok (.getfield 81, 3) := by decide +kernel
theorem d_Im_markRow_45 : decode b_Im_markRow 45 = .ok (.iload 6, 2) := by decide +kernel
theorem d_Im_markRow_47 : decode b_Im_markRow 47 = .ok (.iaload, 1) := by decide +kernel
theorem d_Im_markRow_48 : decode b_Im_markRow 48 = .ok (.istore 7, 2) := by decide +kernel
theorem d_Im_markRow_50 : decode b_Im_markRow 50 = .ok (.iload_n 2, 1) := by decide +kernel
theorem d_Im_markRow_51 : decode b_Im_markRow 51 = .ok (.i2l, 1) := by decide +kernel
theorem d_Im_markRow_52 : decode b_Im_markRow 52 = .ok (.aload_n 1, 1) := by decide +kernel
theorem d_Im_markRow_53 : decode b_Im_markRow 53 = .ok (.getfield 29, 3) := by decide +kernel
theorem d_Im_markRow_56 : decode b_Im_markRow 56 = .ok (.iload 6, 2) := by decide +kernel
theorem d_Im_markRow_58 : decode b_Im_markRow 58 = .ok (.iaload, 1) := by decide +kernel
theorem d_Im_markRow_59 : decode b_Im_markRow 59 = .ok (.i2l, 1) := by decide +kernel
theorem d_Im_markRow_60 : decode b_Im_markRow 60 = .ok (.lmul, 1) := by decide +kernel
theorem d_Im_markRow_61 : decode b_Im_markRow 61 = .ok (.lload 4, 2) := by decide +kernel
theorem d_Im_markRow_63 : decode b_Im_markRow 63 = .ok (.lcmp, 1) := by decide +kernel
theorem d_Im_markRow_64 : decode b_Im_markRow 64 = .ok (.ifCond .gt 7, 3) := by decide +kernel
theorem d_Im_markRow_67 : decode b_Im_markRow 67 = .ok (.iconst 1, 1) := by decide +kernel
theorem d_Im_markRow_68 : decode b_Im_markRow 68 = .ok (.goto 4, 3) := by decide +kernel
theorem d_Im_markRow_71 : decode b_Im_markRow 71 = .ok (.iconst 0, 1) := by decide +kernel
theorem d_Im_markRow_72 : decode b_Im_markRow 72 = .ok (.istore 8, 2) := by decide +kernel
theorem d_Im_markRow_74 : decode b_Im_markRow 74 = .ok (.iload_n 2, 1) := by decide +kernel
theorem d_Im_markRow_75 : decode b_Im_markRow 75 = .ok (.i2l, 1) := by decide +kernel
theorem d_Im_markRow_76 : decode b_Im_markRow 76 = .ok (.aload_n 1, 1) := by decide +kernel
theorem d_Im_markRow_77 : decode b_Im_markRow 77 = .ok (.getfield 29, 3) := by decide +kernel
theorem d_Im_markRow_80 : decode b_Im_markRow 80 = .ok (.iload 7, 2) := by decide +kernel
theorem d_Im_markRow_82 : decode b_Im_markRow 82 = .ok (.iaload, 1) := by decide +kernel
theorem d_Im_markRow_83 : decode b_Im_markRow 83 = .ok (.i2l, 1) := by decide +kernel
theorem d_Im_markRow_84 : decode b_Im_markRow 84 = .ok (.lmul, 1) := by decide +kernel
theorem d_Im_markRow_85 : decode b_Im_markRow 85 = .ok (.lload 4, 2) := by decide +kernel
theorem d_Im_markRow_87 : decode b_Im_markRow 87 = .ok (.lcmp, 1) := by decide +kernel
theorem d_Im_markRow_88 : decode b_Im_markRow 88 = .ok (.ifCond .gt 7, 3) := by decide +kernel
theorem d_Im_markRow_91 : decode b_Im_markRow 91 = .ok (.iconst 1, 1) := by decide +kernel
theorem d_Im_markRow_92 : decode b_Im_markRow 92 = .ok (.goto 4, 3) := by decide +kernel
theorem d_Im_markRow_95 : decode b_Im_markRow 95 = .ok (.iconst 0, 1) := by decide +kernel
theorem d_Im_markRow_96 : decode b_Im_markRow 96 = .ok (.istore 9, 2) := by decide +kernel
theorem d_Im_markRow_98 : decode b_Im_markRow 98 = .ok (.iload 8, 2) := by decide +kernel
theorem d_Im_markRow_100 : decode b_Im_markRow 100 = .ok (.ifCond .eq 27, 3) := by decide +kernel
theorem d_Im_markRow_103 : decode b_Im_markRow 103 = .ok (.iload 9, 2) := by decide +kernel
theorem d_Im_markRow_105 : decode b_Im_markRow 105 = .ok (.ifCond .ne 22, 3) := by decide +kernel
theorem d_Im_markRow_108 : decode b_Im_markRow 108 = .ok (.aload_n 0, 1) := by decide +kernel
theorem d_Im_markRow_109 : decode b_Im_markRow 109 = .ok (.aload_n 1, 1) := by decide +kernel
theorem d_Im_markRow_110 : decode b_Im_markRow 110 = .ok (.iload 6, 2) := by decide +kernel
theorem d_Im_markRow_112 : decode b_Im_markRow 112 = .ok (.iload 7, 2) := by decide +kernel
theorem d_Im_markRow_114 : decode b_Im_markRow 114 = .ok (.iload_n 2, 1) := by decide +kernel
theorem d_Im_markRow_115 : decode b_Im_markRow 115 = .ok (.lload 4, 2) := by decide +kernel
theorem d_Im_markRow_117 : decode b_Im_markRow 117 = .ok (.invokestatic 84, 3) := by decide +kernel
theorem d_Im_markRow_120 : decode b_Im_markRow 120 = .ok (.iconst 1, 1) := by decide +kernel
theorem d_Im_markRow_121 : decode b_Im_markRow 121 = .ok (.invokevirtual 88, 3) := by decide +kernel
theorem d_Im_markRow_124 : decode b_Im_markRow 124 = .ok (.goto 29, 3) := by decide +kernel
theorem d_Im_markRow_127 : decode b_Im_markRow 127 = .ok (.iload 9, 2) := by decide +kernel
theorem d_Im_markRow_129 : decode b_Im_markRow 129 = .ok (.ifCond .eq 24, 3) := by decide +kernel
theorem d_Im_markRow_132 : decode b_Im_markRow 132 = .ok (.iload 8, 2) := by decide +kernel
theorem d_Im_markRow_134 : decode b_Im_markRow 134 = .ok (.ifCond .ne 19, 3) := by decide +kernel
theorem d_Im_markRow_137 : decode b_Im_markRow 137 = .ok (.aload_n 0, 1) := by decide +kernel
theorem d_Im_markRow_138 : decode b_Im_markRow 138 = .ok (.aload_n 1, 1) := by decide +kernel
theorem d_Im_markRow_139 : decode b_Im_markRow 139 = .ok (.iload 7, 2) := by decide +kernel
theorem d_Im_markRow_141 : decode b_Im_markRow 141 = .ok (.iload 6, 2) := by decide +kernel
theorem d_Im_markRow_143 : decode b_Im_markRow 143 = .ok (.iload_n 2, 1) := by decide +kernel
theorem d_Im_markRow_144 : decode b_Im_markRow 144 = .ok (.lload 4, 2) := by decide +kernel
theorem d_Im_markRow_146 : decode b_Im_markRow 146 = .ok (.invokestatic 84, 3) := by decide +kernel
theorem d_Im_markRow_149 : decode b_Im_markRow 149 = .ok (.iconst (-1), 1) := by decide +kernel
theorem d_Im_markRow_150 : decode b_Im_markRow 150 = .ok (.invokevirtual 88, 3) := by decide +kernel
theorem d_Im_markRow_153 : decode b_Im_markRow 153 = .ok (.iinc 6 1, 3) := by decide +kernel
theorem d_Im_markRow_156 : decode b_Im_markRow 156 = .ok (.goto (-124), 3) := by decide +kernel
theorem d_Im_markRow_159 : decode b_Im_markRow 159 = .ok (.return_, 1) := by decide +kernel
theorem d_Im_measure_0 : decode b_Im_measure 0 = .ok (.aload_n 0, 1) := by decide +kernel
theorem d_Im_measure_1 : decode b_Im_measure 1 = .ok (.iconst 0, 1) := by decide +kernel
theorem d_Im_measure_2 : decode b_Im_measure 2 = .ok (.putfield 59, 3) := by decide +kernel
theorem d_Im_measure_5 : decode b_Im_measure 5 = .ok (.aload_n 0, 1) := by decide +kernel
theorem d_Im_measure_6 : decode b_Im_measure 6 = .ok (.bipush 48, 2) := by decide +kernel
theorem d_Im_measure_8 : decode b_Im_measure 8 = .ok (.putfield 62, 3) := by decide +kernel
theorem d_Im_measure_11 : decode b_Im_measure 11 = .ok (.aload_n 0, 1) := by decide +kernel
theorem d_Im_measure_12 : decode b_Im_measure 12 = .ok (.bipush 48, 2) := by decide +kernel
theorem d_Im_measure_14 : decode b_Im_measure 14 = .ok (.putfield 65, 3) := by decide +kernel
theorem d_Im_measure_17 : decode b_Im_measure 17 = .ok (.aload_n 0, 1) := by decide +kernel
theorem d_Im_measure_18 : decode b_Im_measure 18 = .ok (.bipush (-16), 2) := by decide +kernel
theorem d_Im_measure_20 : decode b_Im_measure 20 = .ok (.putfield 68, 3) := by decide +kernel
theorem d_Im_measure_23 : decode b_Im_measure 23 = .ok (.aload_n 0, 1) := by decide +kernel
theorem d_Im_measure_24 : decode b_Im_measure 24 = .ok (.bipush (-16), 2) := by decide +kernel
theorem d_Im_measure_26 : decode b_Im_measure 26 = .ok (.putfield 71, 3) := by decide +kernel
theorem d_Im_measure_29 : decode b_Im_measure 29 = .ok (.iconst 0, 1) := by decide +kernel
theorem d_Im_measure_30 : decode b_Im_measure 30 = .ok (.istore_n 1, 1) := by decide +kernel
theorem d_Im_measure_31 : decode b_Im_measure 31 = .ok (.iload_n 1, 1) := by decide +kernel
theorem d_Im_measure_32 : decode b_Im_measure 32 = .ok (.aload_n 0, 1) := by decide +kernel
theorem d_Im_measure_33 : decode b_Im_measure 33 = .ok (.getfield 9, 3) := by decide +kernel
theorem d_Im_measure_36 : decode b_Im_measure 36 = .ok (.arraylength, 1) := by decide +kernel
theorem d_Im_measure_37 : decode b_Im_measure 37 = .ok (.if_icmp .ge 100, 3) := by decide +kernel
theorem d_Im_measure_40 : decode b_Im_measure 40 = .ok (.aload_n 0, 1) := by decide +kernel
theorem d_Im_measure_41 : decode b_Im_measure 41 = .ok (.getfield 9, 3) := by decide +kernel
theorem d_Im_measure_44 : decode b_Im_measure 44 = .ok (.iload_n 1, 1) := by decide +kernel
theorem d_Im_measure_45 : decode b_Im_measure 45 = .ok (.iaload, 1) := by decide +kernel
theorem d_Im_measure_46 : decode b_Im_measure 46 = .ok (.ifCond .le 85, 3) := by decide +kernel
theorem d_Im_measure_49 : decode b_Im_measure 49 = .ok (.aload_n 0, 1) := by decide +kernel
theorem d_Im_measure_50 : decode b_Im_measure 50 = .ok (.dup, 1) := by decide +kernel
theorem d_Im_measure_51 : decode b_Im_measure 51 = .ok (.getfield 59, 3) := by decide +kernel
theorem d_Im_measure_54 : decode b_Im_measure 54 = .ok (.iconst 1, 1) := by decide +kernel
theorem d_Im_measure_55 : decode b_Im_measure 55 = .ok (.iadd, 1) := by decide +kernel
theorem d_Im_measure_56 : decode b_Im_measure 56 = .ok (.putfield 59, 3) := by decide +kernel
theorem d_Im_measure_59 : decode b_Im_measure 59 = .ok (.aload_n 0, 1) := by decide +kernel
theorem d_Im_measure_60 : decode b_Im_measure 60 = .ok (.aload_n 0, 1) := by decide +kernel
theorem d_Im_measure_61 : decode b_Im_measure 61 = .ok (.getfield 62, 3) := by decide +kernel
theorem d_Im_measure_64 : decode b_Im_measure 64 = .ok (.iload_n 1, 1) := by decide +kernel
theorem d_Im_measure_65 : decode b_Im_measure 65 = .ok (.bipush 64, 2) := by decide +kernel
theorem d_Im_measure_67 : decode b_Im_measure 67 = .ok (.irem, 1) := by decide +kernel
theorem d_Im_measure_68 : decode b_Im_measure 68 = .ok (.bipush (-16), 2) := by decide +kernel
theorem d_Im_measure_70 : decode b_Im_measure 70 = .ok (.iadd, 1) := by decide +kernel
theorem d_Im_measure_71 : decode b_Im_measure 71 = .ok (.invokestatic 91, 3) := by decide +kernel
theorem d_Im_measure_74 : decode b_Im_measure 74 = .ok (.putfield 62, 3) := by decide +kernel
theorem d_Im_measure_77 : decode b_Im_measure 77 = .ok (.aload_n 0, 1) := by decide +kernel
theorem d_Im_measure_78 : decode b_Im_measure 78 = .ok (.aload_n 0, 1) := by decide +kernel
theorem d_Im_measure_79 : decode b_Im_measure 79 = .ok (.getfield 68, 3) := by decide +kernel
theorem d_Im_measure_82 : decode b_Im_measure 82 = .ok (.iload_n 1, 1) := by decide +kernel
theorem d_Im_measure_83 : decode b_Im_measure 83 = .ok (.bipush 64, 2) := by decide +kernel
theorem d_Im_measure_85 : decode b_Im_measure 85 = .ok (.irem, 1) := by decide +kernel
theorem d_Im_measure_86 : decode b_Im_measure 86 = .ok (.bipush (-16), 2) := by decide +kernel
theorem d_Im_measure_88 : decode b_Im_measure 88 = .ok (.iadd, 1) := by decide +kernel
theorem d_Im_measure_89 : decode b_Im_measure 89 = .ok (.invokestatic 97, 3) := by decide +kernel
theorem d_Im_measure_92 : decode b_Im_measure 92 = .ok (.putfield 68, 3) := by decide +kernel
theorem d_Im_measure_95 : decode b_Im_measure 95 = .ok (.aload_n 0, 1) := by decide +kernel
theorem d_Im_measure_96 : decode b_Im_measure 96 = .ok (.aload_n 0, 1) := by decide +kernel
theorem d_Im_measure_97 : decode b_Im_measure 97 = .ok (.getfield 65, 3) := by decide +kernel
theorem d_Im_measure_100 : decode b_Im_measure 100 = .ok (.iload_n 1, 1) := by decide +kernel
theorem d_Im_measure_101 : decode b_Im_measure 101 = .ok (.bipush 64, 2) := by decide +kernel
theorem d_Im_measure_103 : decode b_Im_measure 103 = .ok (.idiv, 1) := by decide +kernel
theorem d_Im_measure_104 : decode b_Im_measure 104 = .ok (.bipush (-16), 2) := by decide +kernel
theorem d_Im_measure_106 : decode b_Im_measure 106 = .ok (.iadd, 1) := by decide +kernel
theorem d_Im_measure_107 : decode b_Im_measure 107 = .ok (.invokestatic 91, 3) := by decide +kernel
theorem d_Im_measure_110 : decode b_Im_measure 110 = .ok (.putfield 65, 3) := by decide +kernel
theorem d_Im_measure_113 : decode b_Im_measure 113 = .ok (.aload_n 0, 1) := by decide +kernel
theorem d_Im_measure_114 : decode b_Im_measure 114 = .ok (.aload_n 0, 1) := by decide +kernel
theorem d_Im_measure_115 : decode b_Im_measure 115 = .ok (.getfield 71, 3) := by decide +kernel
theorem d_Im_measure_118 : decode b_Im_measure 118 = .ok (.iload_n 1, 1) := by decide +kernel
theorem d_Im_measure_119 : decode b_Im_measure 119 = .ok (.bipush 64, 2) := by decide +kernel
theorem d_Im_measure_121 : decode b_Im_measure 121 = .ok (.idiv, 1) := by decide +kernel
theorem d_Im_measure_122 : decode b_Im_measure 122 = .ok (.bipush (-16), 2) := by decide +kernel
theorem d_Im_measure_124 : decode b_Im_measure 124 = .ok (.iadd, 1) := by decide +kernel
theorem d_Im_measure_125 : decode b_Im_measure 125 = .ok (.invokestatic 97, 3) := by decide +kernel
theorem d_Im_measure_128 : decode b_Im_measure 128 = .ok (.putfield 71, 3) := by decide +kernel
theorem d_Im_measure_131 : decode b_Im_measure 131 = .ok (.iinc 1 1, 3) := by decide +kernel
theorem d_Im_measure_134 : decode b_Im_measure 134 = .ok (.goto (-103), 3) := by decide +kernel
theorem d_Im_measure_137 : decode b_Im_measure 137 = .ok (.return_, 1) := by decide +kernel
theorem d_Im_draw_0 : decode b_Im_draw 0 = .ok (.aload_n 0, 1) := by decide +kernel
theorem d_Im_draw_1 : decode b_Im_draw 1 = .ok (.getfield 9, 3) := by decide +kernel
theorem d_Im_draw_4 : decode b_Im_draw 4 = .ok (.iconst 0, 1) := by decide +kernel
theorem d_Im_draw_5 : decode b_Im_draw 5 = .ok (.invokestatic 32, 3) := by decide +kernel
theorem d_Im_draw_8 : decode b_Im_draw 8 = .ok (.iconst 0, 1) := by decide +kernel
theorem d_Im_draw_9 : decode b_Im_draw 9 = .ok (.istore 4, 2) := by decide +kernel
theorem d_Im_draw_11 : decode b_Im_draw 11 = .ok (.iload 4, 2) := by decide +kernel
theorem d_Im_draw_13 : decode b_Im_draw 13 = .ok (.sipush 512, 3) := by decide +kernel
theorem d_Im_draw_16 : decode b_Im_draw 16 = .ok (.if_icmp .ge 30, 3) := by decide +kernel
theorem d_Im_draw_19 : decode b_Im_draw 19 = .ok (.aload_n 0, 1) := by decide +kernel
theorem d_Im_draw_20 : decode b_Im_draw 20 = .ok (.aload_n 1, 1) := by decide +kernel
theorem d_Im_draw_21 : decode b_Im_draw 21 = .ok (.iload_n 2, 1) := by decide +kernel
theorem d_Im_draw_22 : decode b_Im_draw 22 = .ok (.iload 4, 2) := by decide +kernel
theorem d_Im_draw_24 : decode b_Im_draw 24 = .ok (.invokevirtual 38, 3) := by decide +kernel
theorem d_Im_draw_27 : decode b_Im_draw 27 = .ok (.aload_n 0, 1) := by decide +kernel
theorem d_Im_draw_28 : decode b_Im_draw 28 = .ok (.iload 4, 2) := by decide +kernel
theorem d_Im_draw_30 : decode b_Im_draw 30 = .ok (.bipush 8, 2) := by decide +kernel
theorem d_Im_draw_32 : decode b_Im_draw 32 = .ok (.idiv, 1) := by decide +kernel
theorem d_Im_draw_33 : decode b_Im_draw 33 = .ok (.bipush 64, 2) := by decide +kernel
theorem d_Im_draw_35 : decode b_Im_draw 35 = .ok (.imul, 1) := by decide +kernel
theorem d_Im_draw_36 : decode b_Im_draw 36 = .ok (.iload_n 3, 1) := by decide +kernel
theorem d_Im_draw_37 : decode b_Im_draw 37 = .ok (.invokevirtual 42, 3) := by decide +kernel
theorem d_Im_draw_40 : decode b_Im_draw 40 = .ok (.iinc 4 1, 3) := by decide +kernel
theorem d_Im_draw_43 : decode b_Im_draw 43 = .ok (.goto (-32), 3) := by decide +kernel
theorem d_Im_draw_46 : decode b_Im_draw 46 = .ok (.aload_n 0, 1) := by decide +kernel
theorem d_Im_draw_47 : decode b_Im_draw 47 = .ok (.invokevirtual 46, 3) := by decide +kernel
theorem d_Im_draw_50 : decode b_Im_draw 50 = .ok (.return_, 1) := by decide +kernel
theorem d_Im_isInside_0 : decode b_Im_isInside 0 = .ok (.iload_n 0, 1) := by decide +kernel
theorem d_Im_isInside_1 : decode b_Im_isInside 1 = .ok (.sipush (-16384), 3) := by decide +kernel
theorem d_Im_isInside_4 : decode b_Im_isInside 4 = .ok (.if_icmp .lt 13, 3) := by decide +kernel
theorem d_Im_isInside_7 : decode b_Im_isInside 7 = .ok (.iload_n 0, 1) := by decide +kernel
theorem d_Im_isInside_8 : decode b_Im_isInside 8 = .ok (.ldc 74, 2) := by decide +kernel
theorem d_Im_isInside_10 : decode b_Im_isInside 10 = .ok (.if_icmp .ge 7, 3) := by decide +kernel
theorem d_Im_isInside_13 : decode b_Im_isInside 13 = .ok (.iconst 1, 1) := by decide +kernel
theorem d_Im_isInside_14 : decode b_Im_isInside 14 = .ok (.goto 4, 3) := by decide +kernel
theorem d_Im_isInside_17 : decode b_Im_isInside 17 = .ok (.iconst 0, 1) := by decide +kernel
theorem d_Im_isInside_18 : decode b_Im_isInside 18 = .ok (.ireturn, 1) := by decide +kernel
theorem d_Im_holds_0 : decode b_Im_holds 0 = .ok (.iconst 0, 1) := by decide +kernel
theorem d_Im_holds_1 : decode b_Im_holds 1 = .ok (.istore_n 2, 1) := by decide +kernel
theorem d_Im_holds_2 : decode b_Im_holds 2 = .ok (.iload_n 2, 1) := by decide +kernel
theorem d_Im_holds_3 : decode b_Im_holds 3 = .ok (.aload_n 0, 1) := by decide +kernel
theorem d_Im_holds_4 : decode b_Im_holds 4 = .ok (.getfield 16, 3) := by decide +kernel
theorem d_Im_holds_7 : decode b_Im_holds 7 = .ok (.if_icmp .ge 39, 3) := by decide +kernel
theorem d_Im_holds_10 : decode b_Im_holds 10 = .ok (.iload_n 1, 1) := by decide +kernel
theorem d_Im_holds_11 : decode b_Im_holds 11 = .ok (.aload_n 0, 1) := by decide +kernel
theorem d_Im_holds_12 : decode b_Im_holds 12 = .ok (.getfield 22, 3) := by decide +kernel
theorem d_Im_holds_15 : decode b_Im_holds 15 = .ok (.iload_n 2, 1) := by decide +kernel
theorem d_Im_holds_16 : decode b_Im_holds 16 = .ok (.iaload, 1) := by decide +kernel
theorem d_Im_holds_17 : decode b_Im_holds 17 = .ok (.imul, 1) := by decide +kernel
theorem d_Im_holds_18 : decode b_Im_holds 18 = .ok (.invokestatic 25, 3) := by decide +kernel
theorem d_Im_holds_21 : decode b_Im_holds 21 = .ok (.ifCond .eq 17, 3) := by decide +kernel
theorem d_Im_holds_24 : decode b_Im_holds 24 = .ok (.iload_n 1, 1) := by decide +kernel
theorem d_Im_holds_25 : decode b_Im_holds 25 = .ok (.aload_n 0, 1) := by decide +kernel
theorem d_Im_holds_26 : decode b_Im_holds 26 = .ok (.getfield 29, 3) := by decide +kernel
theorem d_Im_holds_29 : decode b_Im_holds 29 = .ok (.iload_n 2, 1) := by decide +kernel
theorem d_Im_holds_30 : decode b_Im_holds 30 = .ok (.iaload, 1) := by decide +kernel
theorem d_Im_holds_31 : decode b_Im_holds 31 = .ok (.imul, 1) := by decide +kernel
theorem d_Im_holds_32 : decode b_Im_holds 32 = .ok (.invokestatic 25, 3) := by decide +kernel
theorem d_Im_holds_35 : decode b_Im_holds 35 = .ok (.ifCond .ne 5, 3) := by decide +kernel
theorem d_Im_holds_38 : decode b_Im_holds 38 = .ok (.iconst 0, 1) := by decide +kernel
theorem d_Im_holds_39 : decode b_Im_holds 39 = .ok (.ireturn, 1) := by decide +kernel
theorem d_Im_holds_40 : decode b_Im_holds 40 = .ok (.iinc 2 1, 3) := by decide +kernel
theorem d_Im_holds_43 : decode b_Im_holds 43 = .ok (.goto (-41), 3) := by decide +kernel
theorem d_Im_holds_46 : decode b_Im_holds 46 = .ok (.iconst 1, 1) := by decide +kernel
theorem d_Im_holds_47 : decode b_Im_holds 47 = .ok (.ireturn, 1) := by decide +kernel
theorem d_Fo_image_0 : decode b_Fo_image 0 = .ok (.iload_n 3, 1) := by decide +kernel
theorem d_Fo_image_1 : decode b_Fo_image 1 = .ok (.invokestatic 236, 3) := by decide +kernel
theorem d_Fo_image_4 : decode b_Fo_image 4 = .ok (.ifCond .eq 14, 3) := by decide +kernel
theorem d_Fo_image_7 : decode b_Fo_image 7 = .ok (.iload 4, 2) := by decide +kernel
theorem d_Fo_image_9 : decode b_Fo_image 9 = .ok (.i2l, 1) := by decide +kernel
theorem d_Fo_image_10 : decode b_Fo_image 10 = .ok (.lconst 0, 1) := by decide +kernel
theorem d_Fo_image_11 : decode b_Fo_image 11 = .ok (.lconst 1, 1) := by decide +kernel
theorem d_Fo_image_12 : decode b_Fo_image 12 = .ok (.invokestatic 84, 3) := by decide +kernel
theorem d_Fo_image_15 : decode b_Fo_image 15 = .ok (.ifCond .ne 5, 3) := by decide +kernel
theorem d_Fo_image_18 : decode b_Fo_image 18 = .ok (.iconst (-1), 1) := by decide +kernel
theorem d_Fo_image_19 : decode b_Fo_image 19 = .ok (.ireturn, 1) := by decide +kernel
theorem d_Fo_image_20 : decode b_Fo_image 20 = .ok (.aload_n 0, 1) := by decide +kernel
theorem d_Fo_image_21 : decode b_Fo_image 21 = .ok (.getfield 22, 3) := by decide +kernel
theorem d_Fo_image_24 : decode b_Fo_image 24 = .ok (.aload_n 0, 1) := by decide +kernel
theorem d_Fo_image_25 : decode b_Fo_image 25 = .ok (.iload_n 1, 1) := by decide +kernel
theorem d_Fo_image_26 : decode b_Fo_image 26 = .ok (.invokevirtual 99, 3) := by decide +kernel
theorem d_Fo_image_29 : decode b_Fo_image 29 = .ok (.iload_n 2, 1) := by decide +kernel
theorem d_Fo_image_30 : decode b_Fo_image 30 = .ok (.aload_n 0, 1) := by decide +kernel
theorem d_Fo_image_31 : decode b_Fo_image 31 = .ok (.getfield 33, 3) := by decide +kernel
theorem d_Fo_image_34 : decode b_Fo_image 34 = .ok (.invokevirtual 207, 3) := by decide +kernel
theorem d_Fo_image_37 : decode b_Fo_image 37 = .ok (.ifCond .eq 14, 3) := by decide +kernel
theorem d_Fo_image_40 : decode b_Fo_image 40 = .ok (.aload_n 0, 1) := by decide +kernel
theorem d_Fo_image_41 : decode b_Fo_image 41 = .ok (.getfield 33, 3) := by decide +kernel
theorem d_Fo_image_44 : decode b_Fo_image 44 = .ok (.iload_n 3, 1) := by decide +kernel
theorem d_Fo_image_45 : decode b_Fo_image 45 = .ok (.invokestatic 239, 3) := by decide +kernel
theorem d_Fo_image_48 : decode b_Fo_image 48 = .ok (.ifCond .ne 5, 3) := by decide +kernel
theorem d_Fo_image_51 : decode b_Fo_image 51 = .ok (.iconst (-1), 1) := by decide +kernel
theorem d_Fo_image_52 : decode b_Fo_image 52 = .ok (.ireturn, 1) := by decide +kernel
theorem d_Fo_image_53 : decode b_Fo_image 53 = .ok (.aload_n 0, 1) := by decide +kernel
theorem d_Fo_image_54 : decode b_Fo_image 54 = .ok (.invokevirtual 211, 3) := by decide +kernel
theorem d_Fo_image_57 : decode b_Fo_image 57 = .ok (.aload_n 0, 1) := by decide +kernel
theorem d_Fo_image_58 : decode b_Fo_image 58 = .ok (.getfield 39, 3) := by decide +kernel
theorem d_Fo_image_61 : decode b_Fo_image 61 = .ok (.aload_n 0, 1) := by decide +kernel
theorem d_Fo_image_62 : decode b_Fo_image 62 = .ok (.getfield 29, 3) := by decide +kernel
theorem d_Fo_image_65 : decode b_Fo_image 65 = .ok (.iload_n 3, 1) := by decide +kernel
theorem d_Fo_image_66 : decode b_Fo_image 66 = .ok (.iload 4, 2) := by decide +kernel
theorem d_Fo_image_68 : decode b_Fo_image 68 = .ok (.invokevirtual 243, 3) := by decide +kernel
theorem d_Fo_image_71 : decode b_Fo_image 71 = .ok (.aload_n 0, 1) := by decide +kernel
theorem d_Fo_image_72 : decode b_Fo_image 72 = .ok (.getfield 39, 3) := by decide +kernel
theorem d_Fo_image_75 : decode b_Fo_image 75 = .ok (.getfield 247, 3) := by decide +kernel
theorem d_Fo_image_78 : decode b_Fo_image 78 = .ok (.ireturn, 1) := by decide +kernel
theorem d_Im_countAt_0 : decode b_Im_countAt 0 = .ok (.iload_n 1, 1) := by decide +kernel
theorem d_Im_countAt_1 : decode b_Im_countAt 1 = .ok (.i2l, 1) := by decide +kernel
theorem d_Im_countAt_2 : decode b_Im_countAt 2 = .ok (.ldc2_w 49, 3) := by decide +kernel
theorem d_Im_countAt_5 : decode b_Im_countAt 5 = .ok (.ldc2_w 51, 3) := by decide +kernel
theorem d_Im_countAt_8 : decode b_Im_countAt 8 = .ok (.invokestatic 53, 3) := by decide +kernel
theorem d_Im_countAt_11 : decode b_Im_countAt 11 = .ok (.ifCond .eq 17, 3) := by decide +kernel
theorem d_Im_countAt_14 : decode b_Im_countAt 14 = .ok (.iload_n 2, 1) := by decide +kernel
theorem d_Im_countAt_15 : decode b_Im_countAt 15 = .ok (.i2l, 1) := by decide +kernel
theorem d_Im_countAt_16 : decode b_Im_countAt 16 = .ok (.ldc2_w 49, 3) := by decide +kernel
theorem d_Im_countAt_19 : decode b_Im_countAt 19 = .ok (.ldc2_w 51, 3) := by decide +kernel
theorem d_Im_countAt_22 : decode b_Im_countAt 22 = .ok (.invokestatic 53, 3) := by decide +kernel
theorem d_Im_countAt_25 : decode b_Im_countAt 25 = .ok (.ifCond .ne 5, 3) := by decide +kernel
theorem d_Im_countAt_28 : decode b_Im_countAt 28 = .ok (.iconst 0, 1) := by decide +kernel
theorem d_Im_countAt_29 : decode b_Im_countAt 29 = .ok (.ireturn, 1) := by decide +kernel
theorem d_Im_countAt_30 : decode b_Im_countAt 30 = .ok (.aload_n 0, 1) := by decide +kernel
theorem d_Im_countAt_31 : decode b_Im_countAt 31 = .ok (.getfield 9, 3) := by decide +kernel
theorem d_Im_countAt_34 : decode b_Im_countAt 34 = .ok (.iload_n 2, 1) := by decide +kernel
theorem d_Im_countAt_35 : decode b_Im_countAt 35 = .ok (.bipush (-16), 2) := by decide +kernel
theorem d_Im_countAt_37 : decode b_Im_countAt 37 = .ok (.isub, 1) := by decide +kernel
theorem d_Im_countAt_38 : decode b_Im_countAt 38 = .ok (.bipush 64, 2) := by decide +kernel
theorem d_Im_countAt_40 : decode b_Im_countAt 40 = .ok (.imul, 1) := by decide +kernel
theorem d_Im_countAt_41 : decode b_Im_countAt 41 = .ok (.iload_n 1, 1) := by decide +kernel
theorem d_Im_countAt_42 : decode b_Im_countAt 42 = .ok (.iadd, 1) := by decide +kernel
theorem d_Im_countAt_43 : decode b_Im_countAt 43 = .ok (.bipush (-16), 2) := by decide +kernel
theorem d_Im_countAt_45 : decode b_Im_countAt 45 = .ok (.isub, 1) := by decide +kernel
theorem d_Im_countAt_46 : decode b_Im_countAt 46 = .ok (.iaload, 1) := by decide +kernel
theorem d_Im_countAt_47 : decode b_Im_countAt 47 = .ok (.ireturn, 1) := by decide +kernel
theorem d_Fo_dot_0 : decode b_Fo_dot 0 = .ok (.aload_n 0, 1) := by decide +kernel
theorem d_Fo_dot_1 : decode b_Fo_dot 1 = .ok (.getfield 39, 3) := by decide +kernel
theorem d_Fo_dot_4 : decode b_Fo_dot 4 = .ok (.iload_n 1, 1) := by decide +kernel
theorem d_Fo_dot_5 : decode b_Fo_dot 5 = .ok (.iload_n 2, 1) := by decide +kernel
theorem d_Fo_dot_6 : decode b_Fo_dot 6 = .ok (.invokevirtual 250, 3) := by decide +kernel
theorem d_Fo_dot_9 : decode b_Fo_dot 9 = .ok (.ireturn, 1) := by decide +kernel
theorem d_Im_edge_0 : decode b_Im_edge 0 = .ok (.aload_n 0, 1) := by decide +kernel
theorem d_Im_edge_1 : decode b_Im_edge 1 = .ok (.getfield 59, 3) := by decide +kernel
theorem d_Im_edge_4 : decode b_Im_edge 4 = .ok (.ifCond .ne 7, 3) := by decide +kernel
theorem d_Im_edge_7 : decode b_Im_edge 7 = .ok (.sipush (-1000), 3) := by decide +kernel
theorem d_Im_edge_10 : decode b_Im_edge 10 = .ok (.ireturn, 1) := by decide +kernel
theorem d_Im_edge_11 : decode b_Im_edge 11 = .ok (.iload_n 1, 1) := by decide +kernel
theorem d_Im_edge_12 : decode b_Im_edge 12 = .ok (.tableswitch 52 0 3 #[32, 37, 42, 47], 32) := by decide +kernel
theorem d_Im_edge_44 : decode b_Im_edge 44 = .ok (.aload_n 0, 1) := by decide +kernel
theorem d_Im_edge_45 : decode b_Im_edge 45 = .ok (.getfield 62, 3) := by decide +kernel
theorem d_Im_edge_48 : decode b_Im_edge 48 = .ok (.ireturn, 1) := by decide +kernel
theorem d_Im_edge_49 : decode b_Im_edge 49 = .ok (.aload_n 0, 1) := by decide +kernel
theorem d_Im_edge_50 : decode b_Im_edge 50 = .ok (.getfield 65, 3) := by decide +kernel
theorem d_Im_edge_53 : decode b_Im_edge 53 = .ok (.ireturn, 1) := by decide +kernel
theorem d_Im_edge_54 : decode b_Im_edge 54 = .ok (.aload_n 0, 1) := by decide +kernel
theorem d_Im_edge_55 : decode b_Im_edge 55 = .ok (.getfield 68, 3) := by decide +kernel
theorem d_Im_edge_58 : decode b_Im_edge 58 = .ok (.ireturn, 1) := by decide +kernel
theorem d_Im_edge_59 : decode b_Im_edge 59 = .ok (.aload_n 0, 1) := by decide +kernel
theorem d_Im_edge_60 : decode b_Im_edge 60 = .ok (.getfield 71, 3) := by decide +kernel
theorem d_Im_edge_63 : decode b_Im_edge 63 = .ok (.ireturn, 1) := by decide +kernel
theorem d_Im_edge_64 : decode b_Im_edge 64 = .ok (.sipush (-1000), 3) := by decide +kernel
theorem d_Im_edge_67 : decode b_Im_edge 67 = .ok (.ireturn, 1) := by decide +kernel
theorem d_Fo_box_0 : decode b_Fo_box 0 = .ok (.aload_n 0, 1) := by decide +kernel
theorem d_Fo_box_1 : decode b_Fo_box 1 = .ok (.getfield 39, 3) := by decide +kernel
theorem d_Fo_box_4 : decode b_Fo_box 4 = .ok (.iload_n 1, 1) := by decide +kernel
theorem d_Fo_box_5 : decode b_Fo_box 5 = .ok (.invokevirtual 253, 3) := by decide +kernel
theorem d_Fo_box_8 : decode b_Fo_box 8 = .ok (.ireturn, 1) := by decide +kernel
theorem d_Pr_add_0 : decode b_Pr_add 0 = .ok (.aload_n 0, 1) := by decide +kernel
theorem d_Pr_add_1 : decode b_Pr_add 1 = .ok (.getfield 18, 3) := by decide +kernel
theorem d_Pr_add_4 : decode b_Pr_add 4 = .ok (.bipush 100, 2) := by decide +kernel
theorem d_Pr_add_6 : decode b_Pr_add 6 = .ok (.if_icmp .lt 5, 3) := by decide +kernel
theorem d_Pr_add_9 : decode b_Pr_add 9 = .ok (.iconst (-1), 1) := by decide +kernel
theorem d_Pr_add_10 : decode b_Pr_add 10 = .ok (.ireturn, 1) := by decide +kernel
theorem d_Pr_add_11 : decode b_Pr_add 11 = .ok (.aload_n 0, 1) := by decide +kernel
theorem d_Pr_add_12 : decode b_Pr_add 12 = .ok (.getfield 9, 3) := by decide +kernel
theorem d_Pr_add_15 : decode b_Pr_add 15 = .ok (.aload_n 0, 1) := by decide +kernel
theorem d_Pr_add_16 : decode b_Pr_add 16 = .ok (.getfield 18, 3) := by decide +kernel
theorem d_Pr_add_19 : decode b_Pr_add 19 = .ok (.iload_n 1, 1) := by decide +kernel
theorem d_Pr_add_20 : decode b_Pr_add 20 = .ok (.iastore, 1) := by decide +kernel
theorem d_Pr_add_21 : decode b_Pr_add 21 = .ok (.aload_n 0, 1) := by decide +kernel
theorem d_Pr_add_22 : decode b_Pr_add 22 = .ok (.getfield 15, 3) := by decide +kernel
theorem d_Pr_add_25 : decode b_Pr_add 25 = .ok (.aload_n 0, 1) := by decide +kernel
theorem d_Pr_add_26 : decode b_Pr_add 26 = .ok (.getfield 18, 3) := by decide +kernel
theorem d_Pr_add_29 : decode b_Pr_add 29 = .ok (.iload_n 2, 1) := by decide +kernel
theorem d_Pr_add_30 : decode b_Pr_add 30 = .ok (.iastore, 1) := by decide +kernel
theorem d_Pr_add_31 : decode b_Pr_add 31 = .ok (.aload_n 0, 1) := by decide +kernel
theorem d_Pr_add_32 : decode b_Pr_add 32 = .ok (.dup, 1) := by decide +kernel
theorem d_Pr_add_33 : decode b_Pr_add 33 = .ok (.getfield 18, 3) := by decide +kernel
theorem d_Pr_add_36 : decode b_Pr_add 36 = .ok (.iconst 1, 1) := by decide +kernel
theorem d_Pr_add_37 : decode b_Pr_add 37 = .ok (.iadd, 1) := by decide +kernel
theorem d_Pr_add_38 : decode b_Pr_add 38 = .ok (.putfield 18, 3) := by decide +kernel
theorem d_Pr_add_41 : decode b_Pr_add 41 = .ok (.aload_n 0, 1) := by decide +kernel
theorem d_Pr_add_42 : decode b_Pr_add 42 = .ok (.getfield 18, 3) := by decide +kernel
theorem d_Pr_add_45 : decode b_Pr_add 45 = .ok (.ireturn, 1) := by decide +kernel
theorem d_Fo_act_0 : decode b_Fo_act 0 = .ok (.aload_n 0, 1) := by decide +kernel
theorem d_Fo_act_1 : decode b_Fo_act 1 = .ok (.iload_n 1, 1) := by decide +kernel
theorem d_Fo_act_2 : decode b_Fo_act 2 = .ok (.invokevirtual 99, 3) := by decide +kernel
theorem d_Fo_act_5 : decode b_Fo_act 5 = .ok (.astore 4, 2) := by decide +kernel
theorem d_Fo_act_7 : decode b_Fo_act 7 = .ok (.aload 4, 2) := by decide +kernel
theorem d_Fo_act_9 : decode b_Fo_act 9 = .ok (.ifnull 11, 3) := by decide +kernel
theorem d_Fo_act_12 : decode b_Fo_act 12 = .ok (.aload 4, 2) := by decide +kernel
theorem d_Fo_act_14 : decode b_Fo_act 14 = .ok (.getfield 103, 3) := by decide +kernel
theorem d_Fo_act_17 : decode b_Fo_act 17 = .ok (.ifCond .le 5, 3) := by decide +kernel
theorem d_Fo_act_20 : decode b_Fo_act 20 = .ok (.iconst (-1), 1) := by decide +kernel
theorem d_Fo_act_21 : decode b_Fo_act 21 = .ok (.ireturn, 1) := by decide +kernel
theorem d_Fo_act_22 : decode b_Fo_act 22 = .ok (.iload_n 2, 1) := by decide +kernel
theorem d_Fo_act_23 : decode b_Fo_act 23 = .ok (.i2l, 1) := by decide +kernel
theorem d_Fo_act_24 : decode b_Fo_act 24 = .ok (.lconst 0, 1) := by decide +kernel
theorem d_Fo_act_25 : decode b_Fo_act 25 = .ok (.ldc2_w 256, 3) := by decide +kernel
theorem d_Fo_act_28 : decode b_Fo_act 28 = .ok (.invokestatic 84, 3) := by decide +kernel
theorem d_Fo_act_31 : decode b_Fo_act 31 = .ok (.ifCond .eq 17, 3) := by decide +kernel
theorem d_Fo_act_34 : decode b_Fo_act 34 = .ok (.iload_n 3, 1) := by decide +kernel
theorem d_Fo_act_35 : decode b_Fo_act 35 = .ok (.i2l, 1) := by decide +kernel
theorem d_Fo_act_36 : decode b_Fo_act 36 = .ok (.ldc2_w 258, 3) := by decide +kernel
theorem d_Fo_act_39 : decode b_Fo_act 39 = .ok (.ldc2_w 260, 3) := by decide +kernel
theorem d_Fo_act_42 : decode b_Fo_act 42 = .ok (.invokestatic 84, 3) := by decide +kernel
theorem d_Fo_act_45 : decode b_Fo_act 45 = .ok (.ifCond .ne 5, 3) := by decide +kernel
theorem d_Fo_act_48 : decode b_Fo_act 48 = .ok (.iconst (-1), 1) := by decide +kernel
theorem d_Fo_act_49 : decode b_Fo_act 49 = .ok (.ireturn, 1) := by decide +kernel
theorem d_Fo_act_50 : decode b_Fo_act 50 = .ok (.aload 4, 2) := by decide +kernel
theorem d_Fo_act_52 : decode b_Fo_act 52 = .ok (.getfield 191, 3) := by decide +kernel
theorem d_Fo_act_55 : decode b_Fo_act 55 = .ok (.iload_n 2, 1) := by decide +kernel
theorem d_Fo_act_56 : decode b_Fo_act 56 = .ok (.iload_n 3, 1) := by decide +kernel
theorem d_Fo_act_57 : decode b_Fo_act 57 = .ok (.invokevirtual 262, 3) := by decide +kernel
theorem d_Fo_act_60 : decode b_Fo_act 60 = .ok (.ireturn, 1) := by decide +kernel
theorem d_Pr_clear_0 : decode b_Pr_clear 0 = .ok (.aload_n 0, 1) := by decide +kernel
theorem d_Pr_clear_1 : decode b_Pr_clear 1 = .ok (.getfield 18, 3) := by decide +kernel
theorem d_Pr_clear_4 : decode b_Pr_clear 4 = .ok (.istore_n 1, 1) := by decide +kernel
theorem d_Pr_clear_5 : decode b_Pr_clear 5 = .ok (.aload_n 0, 1) := by decide +kernel
theorem d_Pr_clear_6 : decode b_Pr_clear 6 = .ok (.iconst 0, 1) := by decide +kernel
theorem d_Pr_clear_7 : decode b_Pr_clear 7 = .ok (.putfield 18, 3) := by decide +kernel
theorem d_Pr_clear_10 : decode b_Pr_clear 10 = .ok (.iload_n 1, 1) := by decide +kernel
theorem d_Pr_clear_11 : decode b_Pr_clear 11 = .ok (.ireturn, 1) := by decide +kernel
theorem d_Fo_wipe_0 : decode b_Fo_wipe 0 = .ok (.aload_n 0, 1) := by decide +kernel
theorem d_Fo_wipe_1 : decode b_Fo_wipe 1 = .ok (.iload_n 1, 1) := by decide +kernel
theorem d_Fo_wipe_2 : decode b_Fo_wipe 2 = .ok (.invokevirtual 99, 3) := by decide +kernel
theorem d_Fo_wipe_5 : decode b_Fo_wipe 5 = .ok (.astore_n 2, 1) := by decide +kernel
theorem d_Fo_wipe_6 : decode b_Fo_wipe 6 = .ok (.aload_n 2, 1) := by decide +kernel
theorem d_Fo_wipe_7 : decode b_Fo_wipe 7 = .ok (.ifnonnull 7, 3) := by decide +kernel
theorem d_Fo_wipe_10 : decode b_Fo_wipe 10 = .ok (.iconst (-1), 1) := by decide +kernel
theorem d_Fo_wipe_11 : decode b_Fo_wipe 11 = .ok (.goto 10, 3) := by decide +kernel
theorem d_Fo_wipe_14 : decode b_Fo_wipe 14 = .ok (.aload_n 2, 1) := by decide +kernel
theorem d_Fo_wipe_15 : decode b_Fo_wipe 15 = .ok (.getfield 191, 3) := by decide +kernel
theorem d_Fo_wipe_18 : decode b_Fo_wipe 18 = .ok (.invokevirtual 264, 3) := by decide +kernel
theorem d_Fo_wipe_21 : decode b_Fo_wipe 21 = .ok (.ireturn, 1) := by decide +kernel
theorem d_Fit_start_0 : decode b_Fit_start 0 = .ok (.aload_n 0, 1) := by decide +kernel
theorem d_Fit_start_1 : decode b_Fit_start 1 = .ok (.aload_n 1, 1) := by decide +kernel
theorem d_Fit_start_2 : decode b_Fit_start 2 = .ok (.invokevirtual 26, 3) := by decide +kernel
theorem d_Fit_start_5 : decode b_Fit_start 5 = .ok (.putfield 32, 3) := by decide +kernel
theorem d_Fit_start_8 : decode b_Fit_start 8 = .ok (.aload_n 0, 1) := by decide +kernel
theorem d_Fit_start_9 : decode b_Fit_start 9 = .ok (.aload_n 1, 1) := by decide +kernel
theorem d_Fit_start_10 : decode b_Fit_start 10 = .ok (.getfield 36, 3) := by decide +kernel
theorem d_Fit_start_13 : decode b_Fit_start 13 = .ok (.putfield 39, 3) := by decide +kernel
theorem d_Fit_start_16 : decode b_Fit_start 16 = .ok (.iconst 0, 1) := by decide +kernel
theorem d_Fit_start_17 : decode b_Fit_start 17 = .ok (.istore_n 3, 1) := by decide +kernel
theorem d_Fit_start_18 : decode b_Fit_start 18 = .ok (.iload_n 3, 1) := by decide +kernel
theorem d_Fit_start_19 : decode b_Fit_start 19 = .ok (.aload_n 0, 1) := by decide +kernel
theorem d_Fit_start_20 : decode b_Fit_start 20 = .ok (.getfield 39, 3) := by decide +kernel
theorem d_Fit_start_23 : decode b_Fit_start 23 = .ok (.if_icmp .ge 20, 3) := by decide +kernel
theorem d_Fit_start_26 : decode b_Fit_start 26 = .ok (.aload_n 0, 1) := by decide +kernel
theorem d_Fit_start_27 : decode b_Fit_start 27 = .ok (.getfield 22, 3) := by decide +kernel
theorem d_Fit_start_30 : decode b_Fit_start 30 = .ok (.iload_n 3, 1) := by decide +kernel
theorem d_Fit_start_31 : decode b_Fit_start 31 = .ok (.aload_n 1, 1) := by decide +kernel
theorem d_Fit_start_32 : decode b_Fit_start 32 = .ok (.iload_n 3, 1) := by decide +kernel
theorem d_Fit_start_33 : decode b_Fit_start 33 = .ok (.invokevirtual 42, 3) := by decide +kernel
theorem d_Fit_start_36 : decode b_Fit_start 36 = .ok (.iastore, 1) := by decide +kernel
theorem d_Fit_start_37 : decode b_Fit_start 37 = .ok (.iinc 3 1, 3) := by decide +kernel
theorem d_Fit_start_40 : decode b_Fit_start 40 = .ok (.goto (-22), 3) := by decide +kernel
theorem d_Fit_start_43 : decode b_Fit_start 43 = .ok (.iconst 0, 1) := by decide +kernel
theorem d_Fit_start_44 : decode b_Fit_start 44 = .ok (.istore_n 3, 1) := by decide +kernel
theorem d_Fit_start_45 : decode b_Fit_start 45 = .ok (.iload_n 3, 1) := by decide +kernel
theorem d_Fit_start_46 : decode b_Fit_start 46 = .ok (.aload_n 0, 1) := by decide +kernel
theorem d_Fit_start_47 : decode b_Fit_start 47 = .ok (.getfield 32, 3) := by decide +kernel
theorem d_Fit_start_50 : decode b_Fit_start 50 = .ok (.if_icmp .ge 110, 3) := by decide +kernel
theorem d_Fit_start_53 : decode b_Fit_start 53 = .ok (.aload_n 0, 1) := by decide +kernel
theorem d_Fit_start_54 : decode b_Fit_start 54 = .ok (.getfield 11, 3) := by decide +kernel
theorem d_Fit_start_57 : decode b_Fit_start 57 = .ok (.iconst 0, 1) := by decide +kernel
theorem d_Fit_start_58 : decode b_Fit_start 58 = .ok (.aaload, 1) := by decide +kernel
theorem d_Fit_start_59 : decode b_Fit_start 59 = .ok (.iload_n 3, 1) := by decide +kernel
theorem d_Fit_start_60 : decode b_Fit_start 60 = .ok (.ldc2_w 46, 3) := by decide +kernel
theorem d_Fit_start_63 : decode b_Fit_start 63 = .ok (.iload_n 2, 1) := by decide +kernel
theorem d_Fit_start_64 : decode b_Fit_start 64 = .ok (.i2l, 1) := by decide +kernel
theorem d_Fit_start_65 : decode b_Fit_start 65 = .ok (.lmul, 1) := by decide +kernel
theorem d_Fit_start_66 : decode b_Fit_start 66 = .ok (.aload_n 1, 1) := by decide +kernel
theorem d_Fit_start_67 : decode b_Fit_start 67 = .ok (.getfield 48, 3) := by decide +kernel
theorem d_Fit_start_70 : decode b_Fit_start 70 = .ok (.iload_n 3, 1) := by decide +kernel
theorem d_Fit_start_71 : decode b_Fit_start 71 = .ok (.iaload, 1) := by decide +kernel
theorem d_Fit_start_72 : decode b_Fit_start 72 = .ok (.i2l, 1) := by decide +kernel
theorem d_Fit_start_73 : decode b_Fit_start 73 = .ok (.lmul, 1) := by decide +kernel
theorem d_Fit_start_74 : decode b_Fit_start 74 = .ok (.ldc2_w 51, 3) := by decide +kernel
theorem d_Fit_start_77 : decode b_Fit_start 77 = .ok (.invokestatic 53, 3) := by decide +kernel
theorem d_Fit_start_80 : decode b_Fit_start 80 = .ok (.l2i, 1) := by decide +kernel
theorem d_Fit_start_81 : decode b_Fit_start 81 = .ok (.iastore, 1) := by decide +kernel
theorem d_Fit_start_82 : decode b_Fit_start 82 = .ok (.aload_n 0, 1) := by decide +kernel
theorem d_Fit_start_83 : decode b_Fit_start 83 = .ok (.getfield 11, 3) := by decide +kernel
theorem d_Fit_start_86 : decode b_Fit_start 86 = .ok (.iconst 1, 1) := by decide +kernel
theorem d_Fit_start_87 : decode b_Fit_start 87 = .ok (.aaload, 1) := by decide +kernel
theorem d_Fit_start_88 : decode b_Fit_start 88 = .ok (.iload_n 3, 1) := by decide +kernel
theorem d_Fit_start_89 : decode b_Fit_start 89 = .ok (.ldc2_w 46, 3) := by decide +kernel
theorem d_Fit_start_92 : decode b_Fit_start 92 = .ok (.iload_n 2, 1) := by decide +kernel
theorem d_Fit_start_93 : decode b_Fit_start 93 = .ok (.i2l, 1) := by decide +kernel
theorem d_Fit_start_94 : decode b_Fit_start 94 = .ok (.lmul, 1) := by decide +kernel
theorem d_Fit_start_95 : decode b_Fit_start 95 = .ok (.aload_n 1, 1) := by decide +kernel
theorem d_Fit_start_96 : decode b_Fit_start 96 = .ok (.getfield 57, 3) := by decide +kernel
theorem d_Fit_start_99 : decode b_Fit_start 99 = .ok (.iload_n 3, 1) := by decide +kernel
theorem d_Fit_start_100 : decode b_Fit_start 100 = .ok (.iaload, 1) := by decide +kernel
theorem d_Fit_start_101 : decode b_Fit_start 101 = .ok (.i2l, 1) := by decide +kernel
theorem d_Fit_start_102 : decode b_Fit_start 102 = .ok (.lmul, 1) := by decide +kernel
theorem d_Fit_start_103 : decode b_Fit_start 103 = .ok (.ldc2_w 51, 3) := by decide +kernel
theorem d_Fit_start_106 : decode b_Fit_start 106 = .ok (.invokestatic 53, 3) := by decide +kernel
theorem d_Fit_start_109 : decode b_Fit_start 109 = .ok (.l2i, 1) := by decide +kernel
theorem d_Fit_start_110 : decode b_Fit_start 110 = .ok (.iastore, 1) := by decide +kernel
theorem d_Fit_start_111 : decode b_Fit_start 111 = .ok (.iconst 0, 1) := by decide +kernel
theorem d_Fit_start_112 : decode b_Fit_start 112 = .ok (.istore 4, 2) := by decide +kernel
theorem d_Fit_start_114 : decode b_Fit_start 114 = .ok (.iload 4, 2) := by decide +kernel
theorem d_Fit_start_116 : decode b_Fit_start 116 = .ok (.iconst 2, 1) := by decide +kernel
theorem d_Fit_start_117 : decode b_Fit_start 117 = .ok (.if_icmp .ge 37, 3) := by decide +kernel
theorem d_Fit_start_120 : decode b_Fit_start 120 = .ok (.aload_n 0, 1) := by decide +kernel
theorem d_Fit_start_121 : decode b_Fit_start 121 = .ok (.getfield 16, 3) := by decide +kernel
theorem d_Fit_start_124 : decode b_Fit_start 124 = .ok (.iload 4, 2) := by decide +kernel
theorem d_Fit_start_126 : decode b_Fit_start 126 = .ok (.aaload, 1) := by decide +kernel
theorem d_Fit_start_127 : decode b_Fit_start 127 = .ok (.iload_n 3, 1) := by decide +kernel
theorem d_Fit_start_128 : decode b_Fit_start 128 = .ok (.aload_n 0, 1) := by decide +kernel
theorem d_Fit_start_129 : decode b_Fit_start 129 = .ok (.getfield 11, 3) := by decide +kernel
theorem d_Fit_start_132 : decode b_Fit_start 132 = .ok (.iload 4, 2) := by decide +kernel
theorem d_Fit_start_134 : decode b_Fit_start 134 = .ok (.aaload, 1) := by decide +kernel
theorem d_Fit_start_135 : decode b_Fit_start 135 = .ok (.iload_n 3, 1) := by decide +kernel
theorem d_Fit_start_136 : decode b_Fit_start 136 = .ok (.iaload, 1) := by decide +kernel
theorem d_Fit_start_137 : decode b_Fit_start 137 = .ok (.iastore, 1) := by decide +kernel
theorem d_Fit_start_138 : decode b_Fit_start 138 = .ok (.aload_n 0, 1) := by decide +kernel
theorem d_Fit_start_139 : decode b_Fit_start 139 = .ok (.getfield 19, 3) := by decide +kernel
theorem d_Fit_start_142 : decode b_Fit_start 142 = .ok (.iload 4, 2) := by decide +kernel
theorem d_Fit_start_144 : decode b_Fit_start 144 = .ok (.aaload, 1) := by decide +kernel
theorem d_Fit_start_145 : decode b_Fit_start 145 = .ok (.iload_n 3, 1) := by decide +kernel
theorem d_Fit_start_146 : decode b_Fit_start 146 = .ok (.iconst 0, 1) := by decide +kernel
theorem d_Fit_start_147 : decode b_Fit_start 147 = .ok (.iastore, 1) := by decide +kernel
theorem d_Fit_start_148 : decode b_Fit_start 148 = .ok (.iinc 4 1, 3) := by decide +kernel
theorem d_Fit_start_151 : decode b_Fit_start 151 = .ok (.goto (-37), 3) := by decide +kernel
theorem d_Fit_start_154 : decode b_Fit_start 154 = .ok (.iinc 3 1, 3) := by decide +kernel
theorem d_Fit_start_157 : decode b_Fit_start 157 = .ok (.goto (-112), 3) := by decide +kernel
theorem d_Fit_start_160 : decode b_Fit_start 160 = .ok (.return_, 1) := by decide +kernel
theorem d_Fit_placeBetween_0 : decode b_Fit_placeBetween 0 = .ok (.aload_n 0, 1) := by decide +kernel
theorem d_Fit_placeBetween_1 : decode b_Fit_placeBetween 1 = .ok (.getfield 11, 3) := by decide +kernel
theorem d_Fit_placeBetween_4 : decode b_Fit_placeBetween 4 = .ok (.iload_n 1, 1) := by decide +kernel
theorem d_Fit_placeBetween_5 : decode b_Fit_placeBetween 5 = .ok (.aaload, 1) := by decide +kernel
theorem d_Fit_placeBetween_6 : decode b_Fit_placeBetween 6 = .ok (.iload_n 2, 1) := by decide +kernel
theorem d_Fit_placeBetween_7 : decode b_Fit_placeBetween 7 = .ok (.iaload, 1) := by decide +kernel
theorem d_Fit_placeBetween_8 : decode b_Fit_placeBetween 8 = .ok (.i2l, 1) := by decide +kernel
theorem d_Fit_placeBetween_9 : decode b_Fit_placeBetween 9 = .ok (.lstore 6, 2) := by decide +kernel
theorem d_Fit_placeBetween_11 : decode b_Fit_placeBetween 11 = .ok (.aload_n 0, 1) := by decide +kernel
theorem d_Fit_placeBetween_12 : decode b_Fit_placeBetween 12 = .ok (.getfield 11, 3) := by decide +kernel
theorem d_Fit_placeBetween_15 : decode b_Fit_placeBetween 15 = .ok (.iload_n 1, 1) := by decide +kernel
theorem d_Fit_placeBetween_16 : decode b_Fit_placeBetween 16 = .ok (.aaload, 1) := by decide +kernel
theorem d_Fit_placeBetween_17 : decode b_Fit_placeBetween 17 = .ok (.iload_n 3, 1) := by decide +kernel
theorem d_Fit_placeBetween_18 : decode b_Fit_placeBetween 18 = .ok (.iaload, 1) := by decide +kernel
theorem d_Fit_placeBetween_19 : decode b_Fit_placeBetween 19 = .ok (.i2l, 1) := by decide +kernel
theorem d_Fit_placeBetween_20 : decode b_Fit_placeBetween 20 = .ok (.lstore 8, 2) := by decide +kernel
theorem d_Fit_placeBetween_22 : decode b_Fit_placeBetween 22 = .ok (.aload_n 0, 1) := by decide +kernel
theorem d_Fit_placeBetween_23 : decode b_Fit_placeBetween 23 = .ok (.getfield 16, 3) := by decide +kernel
theorem d_Fit_placeBetween_26 : decode b_Fit_placeBetween 26 = .ok (.iload_n 1, 1) := by decide +kernel
theorem d_Fit_placeBetween_27 : decode b_Fit_placeBetween 27 = .ok (.aaload, 1) := by decide +kernel
theorem d_Fit_placeBetween_28 : decode b_Fit_placeBetween 28 = .ok (.iload_n 2, 1) := by decide +kernel
theorem d_Fit_placeBetween_29 : decode b_Fit_placeBetween 29 = .ok (.iaload, 1) := by decide +kernel
theorem d_Fit_placeBetween_30 : decode b_Fit_placeBetween 30 = .ok (.i2l, 1) := by decide +kernel
theorem d_Fit_placeBetween_31 : decode b_Fit_placeBetween 31 = .ok (.lstore 10, 2) := by decide +kernel
theorem d_Fit_placeBetween_33 : decode b_Fit_placeBetween 33 = .ok (.aload_n 0, 1) := by decide +kernel
theorem d_Fit_placeBetween_34 : decode b_Fit_placeBetween 34 = .ok (.getfield 16, 3) := by decide +kernel
theorem d_Fit_placeBetween_37 : decode b_Fit_placeBetween 37 = .ok (.iload_n 1, 1) := by decide +kernel
theorem d_Fit_placeBetween_38 : decode b_Fit_placeBetween 38 = .ok (.aaload, 1) := by decide +kernel
theorem d_Fit_placeBetween_39 : decode b_Fit_placeBetween 39 = .ok (.iload_n 3, 1) := by decide +kernel
theorem d_Fit_placeBetween_40 : decode b_Fit_placeBetween 40 = .ok (.iaload, 1) := by decide +kernel
theorem d_Fit_placeBetween_41 : decode b_Fit_placeBetween 41 = .ok (.i2l, 1) := by decide +kernel
theorem d_Fit_placeBetween_42 : decode b_Fit_placeBetween 42 = .ok (.lstore 12, 2) := by decide +kernel
theorem d_Fit_placeBetween_44 : decode b_Fit_placeBetween 44 = .ok (.lload 6, 2) := by decide +kernel
theorem d_Fit_placeBetween_46 : decode b_Fit_placeBetween 46 = .ok (.lload 8, 2) := by decide +kernel
theorem d_Fit_placeBetween_48 : decode b_Fit_placeBetween 48 = .ok (.lcmp, 1) := by decide +kernel
theorem d_Fit_placeBetween_49 : decode b_Fit_placeBetween 49 = .ok (.ifCond .gt 11, 3) := by decide +kernel
theorem d_Fit_placeBetween_52 : decode b_Fit_placeBetween 52 = .ok (.lload 10, 2) := by decide +kernel
theorem d_Fit_placeBetween_54 : decode b_Fit_placeBetween 54 = .ok (.lload 6, 2) := by decide +kernel
theorem d_Fit_placeBetween_56 : decode b_Fit_placeBetween 56 = .ok (.lsub, 1) := by decide +kernel
theorem d_Fit_placeBetween_57 : decode b_Fit_placeBetween 57 = .ok (.goto 8, 3) := by decide +kernel
theorem d_Fit_placeBetween_60 : decode b_Fit_placeBetween 60 = .ok (.lload 12, 2) := by decide +kernel
theorem d_Fit_placeBetween_62 : decode b_Fit_placeBetween 62 = .ok (.lload 8, 2) := by decide +kernel
theorem d_Fit_placeBetween_64 : decode b_Fit_placeBetween 64 = .ok (.lsub, 1) := by decide +kernel
theorem d_Fit_placeBetween_65 : decode b_Fit_placeBetween 65 = .ok (.lstore 14, 2) := by decide +kernel
theorem d_Fit_placeBetween_67 : decode b_Fit_placeBetween 67 = .ok (.lload 6, 2) := by decide +kernel
theorem d_Fit_placeBetween_69 : decode b_Fit_placeBetween 69 = .ok (.lload 8, 2) := by decide +kernel
theorem d_Fit_placeBetween_71 : decode b_Fit_placeBetween 71 = .ok (.lcmp, 1) := by decide +kernel
theorem d_Fit_placeBetween_72 : decode b_Fit_placeBetween 72 = .ok (.ifCond .lt 11, 3) := by decide +kernel
theorem d_Fit_placeBetween_75 : decode b_Fit_placeBetween 75 = .ok (.lload 10, 2) := by decide +kernel
theorem d_Fit_placeBetween_77 : decode b_Fit_placeBetween 77 = .ok (.lload 6, 2) := by decide +kernel
theorem d_Fit_placeBetween_79 : decode b_Fit_placeBetween 79 = .ok (.lsub, 1) := by decide +kernel
theorem d_Fit_placeBetween_80 : decode b_Fit_placeBetween 80 = .ok (.goto 8, 3) := by decide +kernel
theorem d_Fit_placeBetween_83 : decode b_Fit_placeBetween 83 = .ok (.lload 12, 2) := by decide +kernel
theorem d_Fit_placeBetween_85 : decode b_Fit_placeBetween 85 = .ok (.lload 8, 2) := by decide +kernel
theorem d_Fit_placeBetween_87 : decode b_Fit_placeBetween 87 = .ok (.lsub, 1) := by decide +kernel
theorem d_Fit_placeBetween_88 : decode b_Fit_placeBetween 88 = .ok (.lstore 16, 2) := by decide +kernel
theorem d_Fit_placeBetween_90 : decode b_Fit_placeBetween 90 = .ok (.lload 4, 2) := by decide +kernel
theorem d_Fit_placeBetween_92 : decode b_Fit_placeBetween 92 = .ok (.lload 6, 2) := by decide +kernel
theorem d_Fit_placeBetween_94 : decode b_Fit_placeBetween 94 = .ok (.lload 8, 2) := by decide +kernel
theorem d_Fit_placeBetween_96 : decode b_Fit_placeBetween 96 = .ok (.invokestatic 80, 3) := by decide +kernel
theorem d_Fit_placeBetween_99 : decode b_Fit_placeBetween 99 = .ok (.lcmp, 1) := by decide +kernel
theorem d_Fit_placeBetween_100 : decode b_Fit_placeBetween 100 = .ok (.ifCond .gt 9, 3) := by decide +kernel
theorem d_Fit_placeBetween_103 : decode b_Fit_placeBetween 103 = .ok (.lload 4, 2) := by decide +kernel
theorem d_Fit_placeBetween_105 : decode b_Fit_placeBetween 105 = .ok (.lload 14, 2) := by decide +kernel
theorem d_Fit_placeBetween_107 : decode b_Fit_placeBetween 107 = .ok (.ladd, 1) := by decide +kernel
theorem d_Fit_placeBetween_108 : decode b_Fit_placeBetween 108 = .ok (.lreturn, 1) := by decide +kernel
theorem d_Fit_placeBetween_109 : decode b_Fit_placeBetween 109 = .ok (.lload 4, 2) := by decide +kernel
theorem d_Fit_placeBetween_111 : decode b_Fit_placeBetween 111 = .ok (.lload 6, 2) := by decide +kernel
theorem d_Fit_placeBetween_113 : decode b_Fit_placeBetween 113 = .ok (.lload 8, 2) := by decide +kernel
theorem d_Fit_placeBetween_115 : decode b_Fit_placeBetween 115 = .ok (.invokestatic 85, 3) := by decide +kernel
theorem d_Fit_placeBetween_118 : decode b_Fit_placeBetween 118 = .ok (.lcmp, 1) := by decide +kernel
theorem d_Fit_placeBetween_119 : decode b_Fit_placeBetween 119 = .ok (.ifCond .lt 9, 3) := by decide +kernel
theorem d_Fit_placeBetween_122 : decode b_Fit_placeBetween 122 = .ok (.lload 4, 2) := by decide +kernel
theorem d_Fit_placeBetween_124 : decode b_Fit_placeBetween 124 = .ok (.lload 16, 2) := by decide +kernel
theorem d_Fit_placeBetween_126 : decode b_Fit_placeBetween 126 = .ok (.ladd, 1) := by decide +kernel
theorem d_Fit_placeBetween_127 : decode b_Fit_placeBetween 127 = .ok (.lreturn, 1) := by decide +kernel
theorem d_Fit_placeBetween_128 : decode b_Fit_placeBetween 128 = .ok (.lload 10, 2) := by decide +kernel
theorem d_Fit_placeBetween_130 : decode b_Fit_placeBetween 130 = .ok (.lload 4, 2) := by decide +kernel
theorem d_Fit_placeBetween_132 : decode b_Fit_placeBetween 132 = .ok (.lload 6, 2) := by decide +kernel
theorem d_Fit_placeBetween_134 : decode b_Fit_placeBetween 134 = .ok (.lsub, 1) := by decide +kernel
theorem d_Fit_placeBetween_135 : decode b_Fit_placeBetween 135 = .ok (.lload 12, 2) := by decide +kernel
theorem d_Fit_placeBetween_137 : decode b_Fit_placeBetween 137 = .ok (.lload 10, 2) := by decide +kernel
theorem d_Fit_placeBetween_139 : decode b_Fit_placeBetween 139 = .ok (.lsub, 1) := by decide +kernel
theorem d_Fit_placeBetween_140 : decode b_Fit_placeBetween 140 = .ok (.lmul, 1) := by decide +kernel
theorem d_Fit_placeBetween_141 : decode b_Fit_placeBetween 141 = .ok (.lload 8, 2) := by decide +kernel
theorem d_Fit_placeBetween_143 : decode b_Fit_placeBetween 143 = .ok (.lload 6, 2) := by decide +kernel
theorem d_Fit_placeBetween_145 : decode b_Fit_placeBetween 145 = .ok (.lsub, 1) := by decide +kernel
theorem d_Fit_placeBetween_146 : decode b_Fit_placeBetween 146 = .ok (.invokestatic 53, 3) := by decide +kernel
theorem d_Fit_placeBetween_149 : decode b_Fit_placeBetween 149 = .ok (.ladd, 1) := by decide +kernel
theorem d_Fit_placeBetween_150 : decode b_Fit_placeBetween 150 = .ok (.lreturn, 1) := by decide +kernel
theorem d_Fit_touchedBehind_0 : decode b_Fit_touchedBehind 0 = .ok (.iload_n 2, 1) := by decide +kernel
theorem d_Fit_touchedBehind_1 : decode b_Fit_touchedBehind 1 = .ok (.iconst 1, 1) := by decide +kernel
theorem d_Fit_touchedBehind_2 : decode b_Fit_touchedBehind 2 = .ok (.iadd, 1) := by decide +kernel
theorem d_Fit_touchedBehind_3 : decode b_Fit_touchedBehind 3 = .ok (.iload 4, 2) := by decide +kernel
theorem d_Fit_touchedBehind_5 : decode b_Fit_touchedBehind 5 = .ok (.if_icmp .ge 9, 3) := by decide +kernel
theorem d_Fit_touchedBehind_8 : decode b_Fit_touchedBehind 8 = .ok (.iload_n 2, 1) := by decide +kernel
theorem d_Fit_touchedBehind_9 : decode b_Fit_touchedBehind 9 = .ok (.iconst 1, 1) := by decide +kernel
theorem d_Fit_touchedBehind_10 : decode b_Fit_touchedBehind 10 = .ok (.iadd, 1) := by decide +kernel
theorem d_Fit_touchedBehind_11 : decode b_Fit_touchedBehind 11 = .ok (.goto 4, 3) := by decide +kernel
theorem d_Fit_touchedBehind_14 : decode b_Fit_touchedBehind 14 = .ok (.iload_n 3, 1) := by decide +kernel
theorem d_Fit_touchedBehind_15 : decode b_Fit_touchedBehind 15 = .ok (.istore 5, 2) := by decide +kernel
theorem d_Fit_touchedBehind_17 : decode b_Fit_touchedBehind 17 = .ok (.iload_n 3, 1) := by decide +kernel
theorem d_Fit_touchedBehind_18 : decode b_Fit_touchedBehind 18 = .ok (.istore 6, 2) := by decide +kernel
theorem d_Fit_touchedBehind_20 : decode b_Fit_touchedBehind 20 = .ok (.iload 6, 2) := by decide +kernel
theorem d_Fit_touchedBehind_22 : decode b_Fit_touchedBehind 22 = .ok (.iload 4, 2) := by decide +kernel
theorem d_Fit_touchedBehind_24 : decode b_Fit_touchedBehind 24 = .ok (.if_icmp .ge 40, 3) := by decide +kernel
theorem d_Fit_touchedBehind_27 : decode b_Fit_touchedBehind 27 = .ok (.aload_n 0, 1) := by decide +kernel
theorem d_Fit_touchedBehind_28 : decode b_Fit_touchedBehind 28 = .ok (.getfield 19, 3) := by decide +kernel
theorem d_Fit_touchedBehind_31 : decode b_Fit_touchedBehind 31 = .ok (.iload_n 1, 1) := by decide +kernel
theorem d_Fit_touchedBehind_32 : decode b_Fit_touchedBehind 32 = .ok (.aaload, 1) := by decide +kernel
theorem d_Fit_touchedBehind_33 : decode b_Fit_touchedBehind 33 = .ok (.iload 5, 2) := by decide +kernel
theorem d_Fit_touchedBehind_35 : decode b_Fit_touchedBehind 35 = .ok (.iaload, 1) := by decide +kernel
theorem d_Fit_touchedBehind_36 : decode b_Fit_touchedBehind 36 = .ok (.ifCond .ne 28, 3) := by decide +kernel
theorem d_Fit_touchedBehind_39 : decode b_Fit_touchedBehind 39 = .ok (.iload 5, 2) := by decide +kernel
theorem d_Fit_touchedBehind_41 : decode b_Fit_touchedBehind 41 = .ok (.iconst 1, 1) := by decide +kernel
theorem d_Fit_touchedBehind_42 : decode b_Fit_touchedBehind 42 = .ok (.iadd, 1) := by decide +kernel
theorem d_Fit_touchedBehind_43 : decode b_Fit_touchedBehind 43 = .ok (.iload 4, 2) := by decide +kernel
theorem d_Fit_touchedBehind_45 : decode b_Fit_touchedBehind 45 = .ok (.if_icmp .ge 10, 3) := by decide +kernel
theorem d_Fit_touchedBehind_48 : decode b_Fit_touchedBehind 48 = .ok (.iload 5, 2) := by decide +kernel
theorem d_Fit_touchedBehind_50 : decode b_Fit_touchedBehind 50 = .ok (.iconst 1, 1) := by decide +kernel
theorem d_Fit_touchedBehind_51 : decode b_Fit_touchedBehind 51 = .ok (.iadd, 1) := by decide +kernel
theorem d_Fit_touchedBehind_52 : decode b_Fit_touchedBehind 52 = .ok (.goto 4, 3) := by decide +kernel
theorem d_Fit_touchedBehind_55 : decode b_Fit_touchedBehind 55 = .ok (.iload_n 3, 1) := by decide +kernel
theorem d_Fit_touchedBehind_56 : decode b_Fit_touchedBehind 56 = .ok (.istore 5, 2) := by decide +kernel
theorem d_Fit_touchedBehind_58 : decode b_Fit_touchedBehind 58 = .ok (.iinc 6 1, 3) := by decide +kernel
theorem d_Fit_touchedBehind_61 : decode b_Fit_touchedBehind 61 = .ok (.goto (-41), 3) := by decide +kernel
theorem d_Fit_touchedBehind_64 : decode b_Fit_touchedBehind 64 = .ok (.iload 5, 2) := by decide +kernel
theorem d_Fit_touchedBehind_66 : decode b_Fit_touchedBehind 66 = .ok (.ireturn, 1) := by decide +kernel
theorem d_Fit_fitOutline_0 : decode b_Fit_fitOutline 0 = .ok (.iload_n 2, 1) := by decide +kernel
theorem d_Fit_fitOutline_1 : decode b_Fit_fitOutline 1 = .ok (.istore 4, 2) := by decide +kernel
theorem d_Fit_fitOutline_3 : decode b_Fit_fitOutline 3 = .ok (.iload 4, 2) := by decide +kernel
theorem d_Fit_fitOutline_5 : decode b_Fit_fitOutline 5 = .ok (.iload_n 3, 1) := by decide +kernel
theorem d_Fit_fitOutline_6 : decode b_Fit_fitOutline 6 = .ok (.if_icmp .ge 21, 3) := by decide +kernel
theorem d_Fit_fitOutline_9 : decode b_Fit_fitOutline 9 = .ok (.aload_n 0, 1) := by decide +kernel
theorem d_Fit_fitOutline_10 : decode b_Fit_fitOutline 10 = .ok (.getfield 19, 3) := by decide +kernel
theorem d_Fit_fitOutline_13 : decode b_Fit_fitOutline 13 = .ok (.iload_n 1, 1) := by decide +kernel
theorem d_Fit_fitOutline_14 : decode b_Fit_fitOutline 14 = .ok (.aaload, 1) := by decide +kernel
theorem d_Fit_fitOutline_15 : decode b_Fit_fitOutline 15 = .ok (.iload 4, 2) := by decide +kernel
theorem d_Fit_fitOutline_17 : decode b_Fit_fitOutline 17 = .ok (.iaload, 1) := by decide +kernel
theorem d_Fit_fitOutline_18 : decode b_Fit_fitOutline 18 = .ok (.ifCond .ne 9, 3) := by decide +kernel
theorem d_Fit_fitOutline_21 : decode b_Fit_fitOutline 21 = .ok (.iinc 4 1, 3) := by decide +kernel
theorem d_Fit_fitOutline_24 : decode b_Fit_fitOutline 24 = .ok (.goto (-21), 3) := by decide +kernel
theorem d_Fit_fitOutline_27 : decode b_Fit_fitOutline 27 = .ok (.iconst 1, 1) := by decide +kernel
theorem d_Fit_fitOutline_28 : decode b_Fit_fitOutline 28 = .ok (.istore 5, 2) := by decide +kernel
theorem d_Fit_fitOutline_30 : decode b_Fit_fitOutline 30 = .ok (.iload 4, 2) := by decide +kernel
theorem d_Fit_fitOutline_32 : decode b_Fit_fitOutline 32 = .ok (.istore 6, 2) := by decide +kernel
theorem d_Fit_fitOutline_34 : decode b_Fit_fitOutline 34 = .ok (.iload 4, 2) := by decide +kernel
theorem d_Fit_fitOutline_36 : decode b_Fit_fitOutline 36 = .ok (.istore 7, 2) := by decide +kernel
theorem d_Fit_fitOutline_38 : decode b_Fit_fitOutline 38 = .ok (.iconst 0, 1) := by decide +kernel
theorem d_Fit_fitOutline_39 : decode b_Fit_fitOutline 39 = .ok (.istore 8, 2) := by decide +kernel
theorem d_Fit_fitOutline_41 : decode b_Fit_fitOutline 41 = .ok (.iload 4, 2) := by decide +kernel
theorem d_Fit_fitOutline_43 : decode b_Fit_fitOutline 43 = .ok (.iload_n 3, 1) := by decide +kernel
theorem d_Fit_fitOutline_44 : decode b_Fit_fitOutline 44 = .ok (.if_icmp .ge 134, 3) := by decide +kernel
theorem d_Fit_fitOutline_47 : decode b_Fit_fitOutline 47 = .ok (.iload 8, 2) := by decide +kernel
theorem d_Fit_fitOutline_49 : decode b_Fit_fitOutline 49 = .ok (.iload_n 3, 1) := by decide +kernel
theorem d_Fit_fitOutline_50 : decode b_Fit_fitOutline 50 = .ok (.iload_n 2, 1) := by decide +kernel
theorem d_Fit_fitOutline_51 : decode b_Fit_fitOutline 51 = .ok (.isub, 1) := by decide +kernel
theorem d_Fit_fitOutline_52 : decode b_Fit_fitOutline 52 = .ok (.if_icmp .ge 126, 3) := by decide +kernel
theorem d_Fit_fitOutline_55 : decode b_Fit_fitOutline 55 = .ok (.iload 4, 2) := by decide +kernel
theorem d_Fit_fitOutline_57 : decode b_Fit_fitOutline 57 = .ok (.iload 8, 2) := by decide +kernel
theorem d_Fit_fitOutline_59 : decode b_Fit_fitOutline 59 = .ok (.iadd, 1) := by decide +kernel
theorem d_Fit_fitOutline_60 : decode b_Fit_fitOutline 60 = .ok (.iload_n 3, 1) := by decide +kernel
theorem d_Fit_fitOutline_61 : decode b_Fit_fitOutline 61 = .ok (.if_icmp .ge 11, 3) := by decide +kernel
theorem d_Fit_fitOutline_64 : decode b_Fit_fitOutline 64 = .ok (.iload 4, 2) := by decide +kernel
theorem d_Fit_fitOutline_66 : decode b_Fit_fitOutline 66 = .ok (.iload 8, 2) := by decide +kernel
theorem d_Fit_fitOutline_68 : decode b_Fit_fitOutline 68 = .ok (.iadd, 1) := by decide +kernel
theorem d_Fit_fitOutline_69 : decode b_Fit_fitOutline 69 = .ok (.goto 12, 3) := by decide +kernel
theorem d_Fit_fitOutline_72 : decode b_Fit_fitOutline 72 = .ok (.iload 4, 2) := by decide +kernel
theorem d_Fit_fitOutline_74 : decode b_Fit_fitOutline 74 = .ok (.iload 8, 2) := by decide +kernel
theorem d_Fit_fitOutline_76 : decode b_Fit_fitOutline 76 = .ok (.iadd, 1) := by decide +kernel
theorem d_Fit_fitOutline_77 : decode b_Fit_fitOutline 77 = .ok (.iload_n 3, 1) := by decide +kernel
theorem d_Fit_fitOutline_78 : decode b_Fit_fitOutline 78 = .ok (.isub, 1) := by decide +kernel
theorem d_Fit_fitOutline_79 : decode b_Fit_fitOutline 79 = .ok (.iload_n 2, 1) := by decide +kernel
theorem d_Fit_fitOutline_80 : decode b_Fit_fitOutline 80 = .ok (.iadd, 1) := by decide +kernel
theorem d_Fit_fitOutline_81 : decode b_Fit_fitOutline 81 = .ok (.istore 9, 2) := by decide +kernel
theorem d_Fit_fitOutline_83 : decode b_Fit_fitOutline 83 = .ok (.aload_n 0, 1) := by decide +kernel
theorem d_Fit_fitOutline_84 : decode b_Fit_fitOutline 84 = .ok (.getfield 19, 3) := by decide +kernel
theorem d_Fit_fitOutline_87 : decode b_Fit_fitOutline 87 = .ok (.iload_n 1, 1) := by decide +kernel
theorem d_Fit_fitOutline_88 : decode b_Fit_fitOutline 88 = .ok (.aaload, 1) := by decide +kernel
theorem d_Fit_fitOutline_89 : decode b_Fit_fitOutline 89 = .ok (.iload 9, 2) := by decide +kernel
theorem d_Fit_fitOutline_91 : decode b_Fit_fitOutline 91 = .ok (.iaload, 1) := by decide +kernel
theorem d_Fit_fitOutline_92 : decode b_Fit_fitOutline 92 = .ok (.ifCond .eq 21, 3) := by decide +kernel
theorem d_Fit_fitOutline_95 : decode b_Fit_fitOutline 95 = .ok (.iload 9, 2) := by decide +kernel
theorem d_Fit_fitOutline_97 : decode b_Fit_fitOutline 97 = .ok (.istore 6, 2) := by decide +kernel
theorem d_Fit_fitOutline_99 : decode b_Fit_fitOutline 99 = .ok (.aload_n 0, 1) := by decide +kernel
theorem d_Fit_fitOutline_100 : decode b_Fit_fitOutline 100 = .ok (.iload_n 1, 1) := by decide +kernel
theorem d_Fit_fitOutline_101 : decode b_Fit_fitOutline 101 = .ok (.iload 9, 2) := by decide +kernel
theorem d_Fit_fitOutline_103 : decode b_Fit_fitOutline 103 = .ok (.iload_n 2, 1) := by decide +kernel
theorem d_Fit_fitOutline_104 : decode b_Fit_fitOutline 104 = .ok (.iload_n 3, 1) := by decide +kernel
theorem d_Fit_fitOutline_105 : decode b_Fit_fitOutline 105 = .ok (.invokevirtual 68, 3) := by decide +kernel
theorem d_Fit_fitOutline_108 : decode b_Fit_fitOutline 108 = .ok (.istore 7, 2) := by decide +kernel
theorem d_Fit_fitOutline_110 : decode b_Fit_fitOutline 110 = .ok (.goto 62, 3) := by decide +kernel
theorem d_Fit_fitOutline_113 : decode b_Fit_fitOutline 113 = .ok (.aload_n 0, 1) := by decide +kernel
theorem d_Fit_fitOutline_114 : decode b_Fit_fitOutline 114 = .ok (.iload_n 1, 1) := by decide +kernel
theorem d_Fit_fitOutline_115 : decode b_Fit_fitOutline 115 = .ok (.iload 6, 2) := by decide +kernel
theorem d_Fit_fitOutline_117 : decode b_Fit_fitOutline 117 = .ok (.iload 7, 2) := by decide +kernel
theorem d_Fit_fitOutline_119 : decode b_Fit_fitOutline 119 = .ok (.aload_n 0, 1) := by decide +kernel
theorem d_Fit_fitOutline_120 : decode b_Fit_fitOutline 120 = .ok (.getfield 11, 3) := by decide +kernel
theorem d_Fit_fitOutline_123 : decode b_Fit_fitOutline 123 = .ok (.iload_n 1, 1) := by decide +kernel
theorem d_Fit_fitOutline_124 : decode b_Fit_fitOutline 124 = .ok (.aaload, 1) := by decide +kernel
theorem d_Fit_fitOutline_125 : decode b_Fit_fitOutline 125 = .ok (.iload 9, 2) := by decide +kernel
theorem d_Fit_fitOutline_127 : decode b_Fit_fitOutline 127 = .ok (.iaload, 1) := by decide +kernel
theorem d_Fit_fitOutline_128 : decode b_Fit_fitOutline 128 = .ok (.i2l, 1) := by decide +kernel
theorem d_Fit_fitOutline_129 : decode b_Fit_fitOutline 129 = .ok (.invokevirtual 72, 3) := by decide +kernel
theorem d_Fit_fitOutline_132 : decode b_Fit_fitOutline 132 = .ok (.lstore 10, 2) := by decide +kernel
theorem d_Fit_fitOutline_134 : decode b_Fit_fitOutline 134 = .ok (.iload 5, 2) := by decide +kernel
theorem d_Fit_fitOutline_136 : decode b_Fit_fitOutline 136 = .ok (.ifCond .eq 21, 3) := by decide +kernel
theorem d_Fit_fitOutline_139 : decode b_Fit_fitOutline 139 = .ok (.lload 10, 2) := by decide +kernel
theorem d_Fit_fitOutline_141 : decode b_Fit_fitOutline 141 = .ok (.ldc2_w 76, 3) := by decide +kernel
theorem d_Fit_fitOutline_144 : decode b_Fit_fitOutline 144 = .ok (.ldc2_w 78, 3) := by decide +kernel
theorem d_Fit_fitOutline_147 : decode b_Fit_fitOutline 147 = .ok (.invokestatic 60, 3) := by decide +kernel
theorem d_Fit_fitOutline_150 : decode b_Fit_fitOutline 150 = .ok (.ifCond .eq 7, 3) := by decide +kernel
theorem d_Fit_fitOutline_153 : decode b_Fit_fitOutline 153 = .ok (.iconst 1, 1) := by decide +kernel
theorem d_Fit_fitOutline_154 : decode b_Fit_fitOutline 154 = .ok (.goto 4, 3) := by decide +kernel
theorem d_Fit_fitOutline_157 : decode b_Fit_fitOutline 157 = .ok (.iconst 0, 1) := by decide +kernel
theorem d_Fit_fitOutline_158 : decode b_Fit_fitOutline 158 = .ok (.istore 5, 2) := by decide +kernel
theorem d_Fit_fitOutline_160 : decode b_Fit_fitOutline 160 = .ok (.aload_n 0, 1) := by decide +kernel
theorem d_Fit_fitOutline_161 : decode b_Fit_fitOutline 161 = .ok (.getfield 16, 3) := by decide +kernel
theorem d_Fit_fitOutline_164 : decode b_Fit_fitOutline 164 = .ok (.iload_n 1, 1) := by decide +kernel
theorem d_Fit_fitOutline_165 : decode b_Fit_fitOutline 165 = .ok (.aaload, 1) := by decide +kernel
theorem d_Fit_fitOutline_166 : decode b_Fit_fitOutline 166 = .ok (.iload 9, 2) := by decide +kernel
theorem d_Fit_fitOutline_168 : decode b_Fit_fitOutline 168 = .ok (.lload 10, 2) := by decide +kernel
theorem d_Fit_fitOutline_170 : decode b_Fit_fitOutline 170 = .ok (.l2i, 1) := by decide +kernel
theorem d_Fit_fitOutline_171 : decode b_Fit_fitOutline 171 = .ok (.iastore, 1) := by decide +kernel
theorem d_Fit_fitOutline_172 : decode b_Fit_fitOutline 172 = .ok (.iinc 8 1, 3) := by decide +kernel
theorem d_Fit_fitOutline_175 : decode b_Fit_fitOutline 175 = .ok (.goto (-134), 3) := by decide +kernel
theorem d_Fit_fitOutline_178 : decode b_Fit_fitOutline 178 = .ok (.iload 5, 2) := by decide +kernel
theorem d_Fit_fitOutline_180 : decode b_Fit_fitOutline 180 = .ok (.ireturn, 1) := by decide +kernel
theorem d_Fit_fitAll_0 : decode b_Fit_fitAll 0 = .ok (.iconst 1, 1) := by decide +kernel
theorem d_Fit_fitAll_1 : decode b_Fit_fitAll 1 = .ok (.istore_n 2, 1) := by decide +kernel
theorem d_Fit_fitAll_2 : decode b_Fit_fitAll 2 = .ok (.iconst 0, 1) := by decide +kernel
theorem d_Fit_fitAll_3 : decode b_Fit_fitAll 3 = .ok (.istore_n 3, 1) := by decide +kernel
theorem d_Fit_fitAll_4 : decode b_Fit_fitAll 4 = .ok (.iconst 0, 1) := by decide +kernel
theorem d_Fit_fitAll_5 : decode b_Fit_fitAll 5 = .ok (.istore 4, 2) := by decide +kernel
theorem d_Fit_fitAll_7 : decode b_Fit_fitAll 7 = .ok (.iload 4, 2) := by decide +kernel
theorem d_Fit_fitAll_9 : decode b_Fit_fitAll 9 = .ok (.aload_n 0, 1) := by decide +kernel
theorem d_Fit_fitAll_10 : decode b_Fit_fitAll 10 = .ok (.getfield 39, 3) := by decide +kernel
theorem d_Fit_fitAll_13 : decode b_Fit_fitAll 13 = .ok (.if_icmp .ge 43, 3) := by decide +kernel
theorem d_Fit_fitAll_16 : decode b_Fit_fitAll 16 = .ok (.aload_n 0, 1) := by decide +kernel
theorem d_Fit_fitAll_17 : decode b_Fit_fitAll 17 = .ok (.iload_n 1, 1) := by decide +kernel
theorem d_Fit_fitAll_18 : decode b_Fit_fitAll 18 = .ok (.iload_n 3, 1) := by decide +kernel
theorem d_Fit_fitAll_19 : decode b_Fit_fitAll 19 = .ok (.aload_n 0, 1) := by decide +kernel
theorem d_Fit_fitAll_20 : decode b_Fit_fitAll 20 = .ok (.getfield 22, 3) := by decide +kernel
theorem d_Fit_fitAll_23 : decode b_Fit_fitAll 23 = .ok (.iload 4, 2) := by decide +kernel
theorem d_Fit_fitAll_25 : decode b_Fit_fitAll 25 = .ok (.iaload, 1) := by decide +kernel
theorem d_Fit_fitAll_26 : decode b_Fit_fitAll 26 = .ok (.invokevirtual 64, 3) := by decide +kernel
theorem d_Fit_fitAll_29 : decode b_Fit_fitAll 29 = .ok (.ifCond .eq 11, 3) := by decide +kernel
theorem d_Fit_fitAll_32 : decode b_Fit_fitAll 32 = .ok (.iload_n 2, 1) := by decide +kernel
theorem d_Fit_fitAll_33 : decode b_Fit_fitAll 33 = .ok (.ifCond .eq 7, 3) := by decide +kernel
theorem d_Fit_fitAll_36 : decode b_Fit_fitAll 36 = .ok (.iconst 1, 1) := by decide +kernel
theorem d_Fit_fitAll_37 : decode b_Fit_fitAll 37 = .ok (.goto 4, 3) := by decide +kernel
theorem d_Fit_fitAll_40 : decode b_Fit_fitAll 40 = .ok (.iconst 0, 1) := by decide +kernel
theorem d_Fit_fitAll_41 : decode b_Fit_fitAll 41 = .ok (.istore_n 2, 1) := by decide +kernel
theorem d_Fit_fitAll_42 : decode b_Fit_fitAll 42 = .ok (.aload_n 0, 1) := by decide +kernel
theorem d_Fit_fitAll_43 : decode b_Fit_fitAll 43 = .ok (.getfield 22, 3) := by decide +kernel
theorem d_Fit_fitAll_46 : decode b_Fit_fitAll 46 = .ok (.iload 4, 2) := by decide +kernel
theorem d_Fit_fitAll_48 : decode b_Fit_fitAll 48 = .ok (.iaload, 1) := by decide +kernel
theorem d_Fit_fitAll_49 : decode b_Fit_fitAll 49 = .ok (.istore_n 3, 1) := by decide +kernel
theorem d_Fit_fitAll_50 : decode b_Fit_fitAll 50 = .ok (.iinc 4 1, 3) := by decide +kernel
theorem d_Fit_fitAll_53 : decode b_Fit_fitAll 53 = .ok (.goto (-46), 3) := by decide +kernel
theorem d_Fit_fitAll_56 : decode b_Fit_fitAll 56 = .ok (.iload_n 2, 1) := by decide +kernel
theorem d_Fit_fitAll_57 : decode b_Fit_fitAll 57 = .ok (.ireturn, 1) := by decide +kernel
theorem d_Ru_pop_0 : decode b_Ru_pop 0 = .ok (.aload_n 0, 1) := by decide +kernel
theorem d_Ru_pop_1 : decode b_Ru_pop 1 = .ok (.getfield 27, 3) := by decide +kernel
theorem d_Ru_pop_4 : decode b_Ru_pop 4 = .ok (.ifCond .gt 5, 3) := by decide +kernel
theorem d_Ru_pop_7 : decode b_Ru_pop 7 = .ok (.iconst 0, 1) := by decide +kernel
theorem d_Ru_pop_8 : decode b_Ru_pop 8 = .ok (.ireturn, 1) := by decide +kernel
theorem d_Ru_pop_9 : decode b_Ru_pop 9 = .ok (.aload_n 0, 1) := by decide +kernel
theorem d_Ru_pop_10 : decode b_Ru_pop 10 = .ok (.dup, 1) := by decide +kernel
theorem d_Ru_pop_11 : decode b_Ru_pop 11 = .ok (.getfield 27, 3) := by decide +kernel
theorem d_Ru_pop_14 : decode b_Ru_pop 14 = .ok (.iconst 1, 1) := by decide +kernel
theorem d_Ru_pop_15 : decode b_Ru_pop 15 = .ok (.isub, 1) := by decide +kernel
theorem d_Ru_pop_16 : decode b_Ru_pop 16 = .ok (.putfield 27, 3) := by decide +kernel
theorem d_Ru_pop_19 : decode b_Ru_pop 19 = .ok (.aload_n 0, 1) := by decide +kernel
theorem d_Ru_pop_20 : decode b_Ru_pop 20 = .ok (.getfield 11, 3) := by decide +kernel
theorem d_Ru_pop_23 : decode b_Ru_pop 23 = .ok (.aload_n 0, 1) := by decide +kernel
theorem d_Ru_pop_24 : decode b_Ru_pop 24 = .ok (.getfield 27, 3) := by decide +kernel
theorem d_Ru_pop_27 : decode b_Ru_pop 27 = .ok (.iaload, 1) := by decide +kernel
theorem d_Ru_pop_28 : decode b_Ru_pop 28 = .ok (.ireturn, 1) := by decide +kernel
theorem d_Ru_push_0 : decode b_Ru_push 0 = .ok (.aload_n 0, 1) := by decide +kernel
theorem d_Ru_push_1 : decode b_Ru_push 1 = .ok (.getfield 27, 3) := by decide +kernel
theorem d_Ru_push_4 : decode b_Ru_push 4 = .ok (.bipush 32, 2) := by decide +kernel
theorem d_Ru_push_6 : decode b_Ru_push 6 = .ok (.if_icmp .ge 23, 3) := by decide +kernel
theorem d_Ru_push_9 : decode b_Ru_push 9 = .ok (.aload_n 0, 1) := by decide +kernel
theorem d_Ru_push_10 : decode b_Ru_push 10 = .ok (.getfield 11, 3) := by decide +kernel
theorem d_Ru_push_13 : decode b_Ru_push 13 = .ok (.aload_n 0, 1) := by decide +kernel
theorem d_Ru_push_14 : decode b_Ru_push 14 = .ok (.getfield 27, 3) := by decide +kernel
theorem d_Ru_push_17 : decode b_Ru_push 17 = .ok (.iload_n 1, 1) := by decide +kernel
theorem d_Ru_push_18 : decode b_Ru_push 18 = .ok (.iastore, 1) := by decide +kernel
theorem d_Ru_push_19 : decode b_Ru_push 19 = .ok (.aload_n 0, 1) := by decide +kernel
theorem d_Ru_push_20 : decode b_Ru_push 20 = .ok (.dup, 1) := by decide +kernel
theorem d_Ru_push_21 : decode b_Ru_push 21 = .ok (.getfield 27, 3) := by decide +kernel
theorem d_Ru_push_24 : decode b_Ru_push 24 = .ok (.iconst 1, 1) := by decide +kernel
theorem d_Ru_push_25 : decode b_Ru_push 25 = .ok (.iadd, 1) := by decide +kernel
theorem d_Ru_push_26 : decode b_Ru_push 26 = .ok (.putfield 27, 3) := by decide +kernel
theorem d_Ru_push_29 : decode b_Ru_push 29 = .ok (.return_, 1) := by decide +kernel
theorem d_Ru_changeTwo_0 : decode b_Ru_changeTwo 0 = .ok (.aload_n 0, 1) := by decide +kernel
theorem d_Ru_changeTwo_1 : decode b_Ru_changeTwo 1 = .ok (.invokevirtual 67, 3) := by decide +kernel
theorem d_Ru_changeTwo_4 : decode b_Ru_changeTwo 4 = .ok (.istore_n 1, 1) := by decide +kernel
theorem d_Ru_changeTwo_5 : decode b_Ru_changeTwo 5 = .ok (.aload_n 0, 1) := by decide +kernel
theorem d_Ru_changeTwo_6 : decode b_Ru_changeTwo 6 = .ok (.invokevirtual 67, 3) := by decide +kernel
theorem d_Ru_changeTwo_9 : decode b_Ru_changeTwo 9 = .ok (.istore_n 2, 1) := by decide +kernel
theorem d_Ru_changeTwo_10 : decode b_Ru_changeTwo 10 = .ok (.aload_n 0, 1) := by decide +kernel
theorem d_Ru_changeTwo_11 : decode b_Ru_changeTwo 11 = .ok (.iload_n 1, 1) := by decide +kernel
theorem d_Ru_changeTwo_12 : decode b_Ru_changeTwo 12 = .ok (.invokevirtual 115, 3) := by decide +kernel
theorem d_Ru_changeTwo_15 : decode b_Ru_changeTwo 15 = .ok (.aload_n 0, 1) := by decide +kernel
theorem d_Ru_changeTwo_16 : decode b_Ru_changeTwo 16 = .ok (.iload_n 2, 1) := by decide +kernel
theorem d_Ru_changeTwo_17 : decode b_Ru_changeTwo 17 = .ok (.invokevirtual 115, 3) := by decide +kernel
theorem d_Ru_changeTwo_20 : decode b_Ru_changeTwo 20 = .ok (.return_, 1) := by decide +kernel
theorem d_Ru_carry_0 : decode b_Ru_carry 0 = .ok (.iload_n 1, 1) := by decide +kernel
theorem d_Ru_carry_1 : decode b_Ru_carry 1 = .ok (.lookupswitch 105 #[(0, 51), (1, 59), (2, 77), (3, 85), (20, 92)], 51) := by decide +kernel
theorem d_Ru_carry_52 : decode b_Ru_carry 52 = .ok (.aload_n 0, 1) := by decide +kernel
theorem d_Ru_carry_53 : decode b_Ru_carry 53 = .ok (.iload_n 2, 1) := by decide +kernel
theorem d_Ru_carry_54 : decode b_Ru_carry 54 = .ok (.invokevirtual 115, 3) := by decide +kernel
theorem d_Ru_carry_57 : decode b_Ru_carry 57 = .ok (.goto 59, 3) := by decide +kernel
theorem d_Ru_carry_60 : decode b_Ru_carry 60 = .ok (.aload_n 0, 1) := by decide +kernel
theorem d_Ru_carry_61 : decode b_Ru_carry 61 = .ok (.aload_n 0, 1) := by decide +kernel
theorem d_Ru_carry_62 : decode b_Ru_carry 62 = .ok (.getfield 11, 3) := by decide +kernel
theorem d_Ru_carry_65 : decode b_Ru_carry 65 = .ok (.aload_n 0, 1) := by decide +kernel
theorem d_Ru_carry_66 : decode b_Ru_carry 66 = .ok (.getfield 27, 3) := by decide +kernel
theorem d_Ru_carry_69 : decode b_Ru_carry 69 = .ok (.iconst 1, 1) := by decide +kernel
theorem d_Ru_carry_70 : decode b_Ru_carry 70 = .ok (.isub, 1) := by decide +kernel
theorem d_Ru_carry_71 : decode b_Ru_carry 71 = .ok (.iaload, 1) := by decide +kernel
theorem d_Ru_carry_72 : decode b_Ru_carry 72 = .ok (.invokevirtual 115, 3) := by decide +kernel
theorem d_Ru_carry_75 : decode b_Ru_carry 75 = .ok (.goto 41, 3) := by decide +kernel
theorem d_Ru_carry_78 : decode b_Ru_carry 78 = .ok (.aload_n 0, 1) := by decide +kernel
theorem d_Ru_carry_79 : decode b_Ru_carry 79 = .ok (.invokevirtual 67, 3) := by decide +kernel
theorem d_Ru_carry_82 : decode b_Ru_carry 82 = .ok (.pop, 1) := by decide +kernel
theorem d_Ru_carry_83 : decode b_Ru_carry 83 = .ok (.goto 33, 3) := by decide +kernel
theorem d_Ru_carry_86 : decode b_Ru_carry 86 = .ok (.aload_n 0, 1) := by decide +kernel
theorem d_Ru_carry_87 : decode b_Ru_carry 87 = .ok (.invokevirtual 119, 3) := by decide +kernel
theorem d_Ru_carry_90 : decode b_Ru_carry 90 = .ok (.goto 26, 3) := by decide +kernel
theorem d_Ru_carry_93 : decode b_Ru_carry 93 = .ok (.aload_n 0, 1) := by decide +kernel
theorem d_Ru_carry_94 : decode b_Ru_carry 94 = .ok (.getfield 15, 3) := by decide +kernel
theorem d_Ru_carry_97 : decode b_Ru_carry 97 = .ok (.iload_n 2, 1) := by decide +kernel
theorem d_Ru_carry_98 : decode b_Ru_carry 98 = .ok (.aload_n 0, 1) := by decide +kernel
theorem d_Ru_carry_99 : decode b_Ru_carry 99 = .ok (.invokevirtual 67, 3) := by decide +kernel
theorem d_Ru_carry_102 : decode b_Ru_carry 102 = .ok (.iastore, 1) := by decide +kernel
theorem d_Ru_carry_103 : decode b_Ru_carry 103 = .ok (.goto 13, 3) := by decide +kernel
theorem d_Ru_carry_106 : decode b_Ru_carry 106 = .ok (.aload_n 0, 1) := by decide +kernel
theorem d_Ru_carry_107 : decode b_Ru_carry 107 = .ok (.aload_n 0, 1) := by decide +kernel
theorem d_Ru_carry_108 : decode b_Ru_carry 108 = .ok (.getfield 15, 3) := by decide +kernel
theorem d_Ru_carry_111 : decode b_Ru_carry 111 = .ok (.iload_n 2, 1) := by decide +kernel
theorem d_Ru_carry_112 : decode b_Ru_carry 112 = .ok (.iaload, 1) := by decide +kernel
theorem d_Ru_carry_113 : decode b_Ru_carry 113 = .ok (.invokevirtual 115, 3) := by decide +kernel
theorem d_Ru_carry_116 : decode b_Ru_carry 116 = .ok (.return_, 1) := by decide +kernel
theorem d_Fit_hasPoint_0 : decode b_Fit_hasPoint 0 = .ok (.iload_n 1, 1) := by decide +kernel
theorem d_Fit_hasPoint_1 : decode b_Fit_hasPoint 1 = .ok (.i2l, 1) := by decide +kernel
theorem d_Fit_hasPoint_2 : decode b_Fit_hasPoint 2 = .ok (.lconst 0, 1) := by decide +kernel
theorem d_Fit_hasPoint_3 : decode b_Fit_hasPoint 3 = .ok (.aload_n 0, 1) := by decide +kernel
theorem d_Fit_hasPoint_4 : decode b_Fit_hasPoint 4 = .ok (.getfield 32, 3) := by decide +kernel
theorem d_Fit_hasPoint_7 : decode b_Fit_hasPoint 7 = .ok (.iconst 1, 1) := by decide +kernel
theorem d_Fit_hasPoint_8 : decode b_Fit_hasPoint 8 = .ok (.isub, 1) := by decide +kernel
theorem d_Fit_hasPoint_9 : decode b_Fit_hasPoint 9 = .ok (.i2l, 1) := by decide +kernel
theorem d_Fit_hasPoint_10 : decode b_Fit_hasPoint 10 = .ok (.invokestatic 60, 3) := by decide +kernel
theorem d_Fit_hasPoint_13 : decode b_Fit_hasPoint 13 = .ok (.ireturn, 1) := by decide +kernel
theorem d_Ru_faultAhead_0 : decode b_Ru_faultAhead 0 = .ok (.iload_n 1, 1) := by decide +kernel
theorem d_Ru_faultAhead_1 : decode b_Ru_faultAhead 1 = .ok (.i2l, 1) := by decide +kernel
theorem d_Ru_faultAhead_2 : decode b_Ru_faultAhead 2 = .ok (.lconst 0, 1) := by decide +kernel
theorem d_Ru_faultAhead_3 : decode b_Ru_faultAhead 3 = .ok (.ldc2_w 97, 3) := by decide +kernel
theorem d_Ru_faultAhead_6 : decode b_Ru_faultAhead 6 = .ok (.invokestatic 42, 3) := by decide +kernel
theorem d_Ru_faultAhead_9 : decode b_Ru_faultAhead 9 = .ok (.ifCond .ne 5, 3) := by decide +kernel
theorem d_Ru_faultAhead_12 : decode b_Ru_faultAhead 12 = .ok (.iconst 3, 1) := by decide +kernel
theorem d_Ru_faultAhead_13 : decode b_Ru_faultAhead 13 = .ok (.ireturn, 1) := by decide +kernel
theorem d_Ru_faultAhead_14 : decode b_Ru_faultAhead 14 = .ok (.aload_n 0, 1) := by decide +kernel
theorem d_Ru_faultAhead_15 : decode b_Ru_faultAhead 15 = .ok (.getfield 27, 3) := by decide +kernel
theorem d_Ru_faultAhead_18 : decode b_Ru_faultAhead 18 = .ok (.getstatic 64, 3) := by decide +kernel
theorem d_Ru_faultAhead_21 : decode b_Ru_faultAhead 21 = .ok (.iload_n 1, 1) := by decide +kernel
theorem d_Ru_faultAhead_22 : decode b_Ru_faultAhead 22 = .ok (.iaload, 1) := by decide +kernel
theorem d_Ru_faultAhead_23 : decode b_Ru_faultAhead 23 = .ok (.if_icmp .lt 24, 3) := by decide +kernel
theorem d_Ru_faultAhead_26 : decode b_Ru_faultAhead 26 = .ok (.aload_n 0, 1) := by decide +kernel
theorem d_Ru_faultAhead_27 : decode b_Ru_faultAhead 27 = .ok (.getfield 27, 3) := by decide +kernel
theorem d_Ru_faultAhead_30 : decode b_Ru_faultAhead 30 = .ok (.getstatic 64, 3) := by decide +kernel
theorem d_Ru_faultAhead_33 : decode b_Ru_faultAhead 33 = .ok (.iload_n 1, 1) := by decide +kernel
theorem d_Ru_faultAhead_34 : decode b_Ru_faultAhead 34 = .ok (.iaload, 1) := by decide +kernel
theorem d_Ru_faultAhead_35 : decode b_Ru_faultAhead 35 = .ok (.isub, 1) := by decide +kernel
theorem d_Ru_faultAhead_36 : decode b_Ru_faultAhead 36 = .ok (.getstatic 99, 3) := by decide +kernel
theorem d_Ru_faultAhead_39 : decode b_Ru_faultAhead 39 = .ok (.iload_n 1, 1) := by decide +kernel
theorem d_Ru_faultAhead_40 : decode b_Ru_faultAhead 40 = .ok (.iaload, 1) := by decide +kernel
theorem d_Ru_faultAhead_41 : decode b_Ru_faultAhead 41 = .ok (.iadd, 1) := by decide +kernel
theorem d_Ru_faultAhead_42 : decode b_Ru_faultAhead 42 = .ok (.bipush 32, 2) := by decide +kernel
theorem d_Ru_faultAhead_44 : decode b_Ru_faultAhead 44 = .ok (.if_icmp .le 5, 3) := by decide +kernel
theorem d_Ru_faultAhead_47 : decode b_Ru_faultAhead 47 = .ok (.iconst 1, 1) := by decide +kernel
theorem d_Ru_faultAhead_48 : decode b_Ru_faultAhead 48 = .ok (.ireturn, 1) := by decide +kernel
theorem d_Ru_faultAhead_49 : decode b_Ru_faultAhead 49 = .ok (.iload_n 1, 1) := by decide +kernel
theorem d_Ru_faultAhead_50 : decode b_Ru_faultAhead 50 = .ok (.i2l, 1) := by decide +kernel
theorem d_Ru_faultAhead_51 : decode b_Ru_faultAhead 51 = .ok (.ldc2_w 102, 3) := by decide +kernel
theorem d_Ru_faultAhead_54 : decode b_Ru_faultAhead 54 = .ok (.ldc2_w 104, 3) := by decide +kernel
theorem d_Ru_faultAhead_57 : decode b_Ru_faultAhead 57 = .ok (.invokestatic 42, 3) := by decide +kernel
theorem d_Ru_faultAhead_60 : decode b_Ru_faultAhead 60 = .ok (.ifCond .eq 14, 3) := by decide +kernel
theorem d_Ru_faultAhead_63 : decode b_Ru_faultAhead 63 = .ok (.aload 4, 2) := by decide +kernel
theorem d_Ru_faultAhead_65 : decode b_Ru_faultAhead 65 = .ok (.iload_n 2, 1) := by decide +kernel
theorem d_Ru_faultAhead_66 : decode b_Ru_faultAhead 66 = .ok (.invokevirtual 106, 3) := by decide +kernel
theorem d_Ru_faultAhead_69 : decode b_Ru_faultAhead 69 = .ok (.ifCond .ne 5, 3) := by decide +kernel
theorem d_Ru_faultAhead_72 : decode b_Ru_faultAhead 72 = .ok (.iconst 2, 1) := by decide +kernel
theorem d_Ru_faultAhead_73 : decode b_Ru_faultAhead 73 = .ok (.ireturn, 1) := by decide +kernel
theorem d_Ru_faultAhead_74 : decode b_Ru_faultAhead 74 = .ok (.iload_n 1, 1) := by decide +kernel
theorem d_Ru_faultAhead_75 : decode b_Ru_faultAhead 75 = .ok (.i2l, 1) := by decide +kernel
theorem d_Ru_faultAhead_76 : decode b_Ru_faultAhead 76 = .ok (.ldc2_w 109, 3) := by decide +kernel
theorem d_Ru_faultAhead_79 : decode b_Ru_faultAhead 79 = .ok (.ldc2_w 111, 3) := by decide +kernel
theorem d_Ru_faultAhead_82 : decode b_Ru_faultAhead 82 = .ok (.invokestatic 42, 3) := by decide +kernel
theorem d_Ru_faultAhead_85 : decode b_Ru_faultAhead 85 = .ok (.ifCond .eq 16, 3) := by decide +kernel
theorem d_Ru_faultAhead_88 : decode b_Ru_faultAhead 88 = .ok (.iload_n 2, 1) := by decide +kernel
theorem d_Ru_faultAhead_89 : decode b_Ru_faultAhead 89 = .ok (.i2l, 1) := by decide +kernel
theorem d_Ru_faultAhead_90 : decode b_Ru_faultAhead 90 = .ok (.lconst 0, 1) := by decide +kernel
theorem d_Ru_faultAhead_91 : decode b_Ru_faultAhead 91 = .ok (.iload_n 3, 1) := by decide +kernel
theorem d_Ru_faultAhead_92 : decode b_Ru_faultAhead 92 = .ok (.i2l, 1) := by decide +kernel
theorem d_Ru_faultAhead_93 : decode b_Ru_faultAhead 93 = .ok (.invokestatic 42, 3) := by decide +kernel
theorem d_Ru_faultAhead_96 : decode b_Ru_faultAhead 96 = .ok (.ifCond .ne 5, 3) := by decide +kernel
theorem d_Ru_faultAhead_99 : decode b_Ru_faultAhead 99 = .ok (.iconst 3, 1) := by decide +kernel
theorem d_Ru_faultAhead_100 : decode b_Ru_faultAhead 100 = .ok (.ireturn, 1) := by decide +kernel
theorem d_Ru_faultAhead_101 : decode b_Ru_faultAhead 101 = .ok (.iload_n 1, 1) := by decide +kernel
theorem d_Ru_faultAhead_102 : decode b_Ru_faultAhead 102 = .ok (.bipush 18, 2) := by decide +kernel
theorem d_Ru_faultAhead_104 : decode b_Ru_faultAhead 104 = .ok (.if_icmp .ne 14, 3) := by decide +kernel
theorem d_Ru_faultAhead_107 : decode b_Ru_faultAhead 107 = .ok (.aload_n 0, 1) := by decide +kernel
theorem d_Ru_faultAhead_108 : decode b_Ru_faultAhead 108 = .ok (.getfield 31, 3) := by decide +kernel
theorem d_Ru_faultAhead_111 : decode b_Ru_faultAhead 111 = .ok (.bipush 8, 2) := by decide +kernel
theorem d_Ru_faultAhead_113 : decode b_Ru_faultAhead 113 = .ok (.if_icmp .lt 5, 3) := by decide +kernel
theorem d_Ru_faultAhead_116 : decode b_Ru_faultAhead 116 = .ok (.iconst 4, 1) := by decide +kernel
theorem d_Ru_faultAhead_117 : decode b_Ru_faultAhead 117 = .ok (.ireturn, 1) := by decide +kernel
theorem d_Ru_faultAhead_118 : decode b_Ru_faultAhead 118 = .ok (.iload_n 1, 1) := by decide +kernel
theorem d_Ru_faultAhead_119 : decode b_Ru_faultAhead 119 = .ok (.bipush 7, 2) := by decide +kernel
theorem d_Ru_faultAhead_121 : decode b_Ru_faultAhead 121 = .ok (.if_icmp .ne 19, 3) := by decide +kernel
theorem d_Ru_faultAhead_124 : decode b_Ru_faultAhead 124 = .ok (.aload_n 0, 1) := by decide +kernel
theorem d_Ru_faultAhead_125 : decode b_Ru_faultAhead 125 = .ok (.getfield 11, 3) := by decide +kernel
theorem d_Ru_faultAhead_128 : decode b_Ru_faultAhead 128 = .ok (.aload_n 0, 1) := by decide +kernel
theorem d_Ru_faultAhead_129 : decode b_Ru_faultAhead 129 = .ok (.getfield 27, 3) := by decide +kernel
theorem d_Ru_faultAhead_132 : decode b_Ru_faultAhead 132 = .ok (.iconst 1, 1) := by decide +kernel
theorem d_Ru_faultAhead_133 : decode b_Ru_faultAhead 133 = .ok (.isub, 1) := by decide +kernel
theorem d_Ru_faultAhead_134 : decode b_Ru_faultAhead 134 = .ok (.iaload, 1) := by decide +kernel
theorem d_Ru_faultAhead_135 : decode b_Ru_faultAhead 135 = .ok (.ifCond .ne 5, 3) := by decide +kernel
theorem d_Ru_faultAhead_138 : decode b_Ru_faultAhead 138 = .ok (.iconst 5, 1) := by decide +kernel
theorem d_Ru_faultAhead_139 : decode b_Ru_faultAhead 139 = .ok (.ireturn, 1) := by decide +kernel
theorem d_Ru_faultAhead_140 : decode b_Ru_faultAhead 140 = .ok (.iload_n 1, 1) := by decide +kernel
theorem d_Ru_faultAhead_141 : decode b_Ru_faultAhead 141 = .ok (.bipush 20, 2) := by decide +kernel
theorem d_Ru_faultAhead_143 : decode b_Ru_faultAhead 143 = .ok (.if_icmp .eq 9, 3) := by decide +kernel
theorem d_Ru_faultAhead_146 : decode b_Ru_faultAhead 146 = .ok (.iload_n 1, 1) := by decide +kernel
theorem d_Ru_faultAhead_147 : decode b_Ru_faultAhead 147 = .ok (.bipush 21, 2) := by decide +kernel
theorem d_Ru_faultAhead_149 : decode b_Ru_faultAhead 149 = .ok (.if_icmp .ne 18, 3) := by decide +kernel
theorem d_Ru_faultAhead_152 : decode b_Ru_faultAhead 152 = .ok (.iload_n 2, 1) := by decide +kernel
theorem d_Ru_faultAhead_153 : decode b_Ru_faultAhead 153 = .ok (.i2l, 1) := by decide +kernel
theorem d_Ru_faultAhead_154 : decode b_Ru_faultAhead 154 = .ok (.lconst 0, 1) := by decide +kernel
theorem d_Ru_faultAhead_155 : decode b_Ru_faultAhead 155 = .ok (.ldc2_w 113, 3) := by decide +kernel
theorem d_Ru_faultAhead_158 : decode b_Ru_faultAhead 158 = .ok (.invokestatic 42, 3) := by decide +kernel
theorem d_Ru_faultAhead_161 : decode b_Ru_faultAhead 161 = .ok (.ifCond .ne 6, 3) := by decide +kernel
theorem d_Ru_faultAhead_164 : decode b_Ru_faultAhead 164 = .ok (.bipush 7, 2) := by decide +kernel
theorem d_Ru_faultAhead_166 : decode b_Ru_faultAhead 166 = .ok (.ireturn, 1) := by decide +kernel
theorem d_Ru_faultAhead_167 : decode b_Ru_faultAhead 167 = .ok (.iconst 0, 1) := by decide +kernel
theorem d_Ru_faultAhead_168 : decode b_Ru_faultAhead 168 = .ok (.ireturn, 1) := by decide +kernel
theorem d_Ru_go_0 : decode b_Ru_go 0 = .ok (.iload_n 1, 1) := by decide +kernel
theorem d_Ru_go_1 : decode b_Ru_go 1 = .ok (.bipush 16, 2) := by decide +kernel
theorem d_Ru_go_3 : decode b_Ru_go 3 = .ok (.if_icmp .eq 16, 3) := by decide +kernel
theorem d_Ru_go_6 : decode b_Ru_go 6 = .ok (.iload_n 1, 1) := by decide +kernel
theorem d_Ru_go_7 : decode b_Ru_go 7 = .ok (.bipush 17, 2) := by decide +kernel
theorem d_Ru_go_9 : decode b_Ru_go 9 = .ok (.if_icmp .ne 18, 3) := by decide +kernel
theorem d_Ru_go_12 : decode b_Ru_go 12 = .ok (.aload_n 0, 1) := by decide +kernel
theorem d_Ru_go_13 : decode b_Ru_go 13 = .ok (.invokevirtual 67, 3) := by decide +kernel
theorem d_Ru_go_16 : decode b_Ru_go 16 = .ok (.ifCond .ne 11, 3) := by decide +kernel
theorem d_Ru_go_19 : decode b_Ru_go 19 = .ok (.aload_n 0, 1) := by decide +kernel
theorem d_Ru_go_20 : decode b_Ru_go 20 = .ok (.iload_n 2, 1) := by decide +kernel
theorem d_Ru_go_21 : decode b_Ru_go 21 = .ok (.putfield 34, 3) := by decide +kernel
theorem d_Ru_go_24 : decode b_Ru_go 24 = .ok (.goto 96, 3) := by decide +kernel
theorem d_Ru_go_27 : decode b_Ru_go 27 = .ok (.iload_n 1, 1) := by decide +kernel
theorem d_Ru_go_28 : decode b_Ru_go 28 = .ok (.bipush 18, 2) := by decide +kernel
theorem d_Ru_go_30 : decode b_Ru_go 30 = .ok (.if_icmp .ne 34, 3) := by decide +kernel
theorem d_Ru_go_33 : decode b_Ru_go 33 = .ok (.aload_n 0, 1) := by decide +kernel
theorem d_Ru_go_34 : decode b_Ru_go 34 = .ok (.getfield 18, 3) := by decide +kernel
theorem d_Ru_go_37 : decode b_Ru_go 37 = .ok (.aload_n 0, 1) := by decide +kernel
theorem d_Ru_go_38 : decode b_Ru_go 38 = .ok (.getfield 31, 3) := by decide +kernel
theorem d_Ru_go_41 : decode b_Ru_go 41 = .ok (.aload_n 0, 1) := by decide +kernel
theorem d_Ru_go_42 : decode b_Ru_go 42 = .ok (.getfield 34, 3) := by decide +kernel
theorem d_Ru_go_45 : decode b_Ru_go 45 = .ok (.iastore, 1) := by decide +kernel
theorem d_Ru_go_46 : decode b_Ru_go 46 = .ok (.aload_n 0, 1) := by decide +kernel
theorem d_Ru_go_47 : decode b_Ru_go 47 = .ok (.dup, 1) := by decide +kernel
theorem d_Ru_go_48 : decode b_Ru_go 48 = .ok (.getfield 31, 3) := by decide +kernel
theorem d_Ru_go_51 : decode b_Ru_go 51 = .ok (.iconst 1, 1) := by decide +kernel
theorem d_Ru_go_52 : decode b_Ru_go 52 = .ok (.iadd, 1) := by decide +kernel
theorem d_Ru_go_53 : decode b_Ru_go 53 = .ok (.putfield 31, 3) := by decide +kernel
theorem d_Ru_go_56 : decode b_Ru_go 56 = .ok (.aload_n 0, 1) := by decide +kernel
theorem d_Ru_go_57 : decode b_Ru_go 57 = .ok (.iload_n 2, 1) := by decide +kernel
theorem d_Ru_go_58 : decode b_Ru_go 58 = .ok (.putfield 34, 3) := by decide +kernel
theorem d_Ru_go_61 : decode b_Ru_go 61 = .ok (.goto 59, 3) := by decide +kernel
theorem d_Ru_go_64 : decode b_Ru_go 64 = .ok (.iload_n 1, 1) := by decide +kernel
theorem d_Ru_go_65 : decode b_Ru_go 65 = .ok (.bipush 19, 2) := by decide +kernel
theorem d_Ru_go_67 : decode b_Ru_go 67 = .ok (.if_icmp .ne 36, 3) := by decide +kernel
theorem d_Ru_go_70 : decode b_Ru_go 70 = .ok (.aload_n 0, 1) := by decide +kernel
theorem d_Ru_go_71 : decode b_Ru_go 71 = .ok (.getfield 31, 3) := by decide +kernel
theorem d_Ru_go_74 : decode b_Ru_go 74 = .ok (.ifCond .le 29, 3) := by decide +kernel
theorem d_Ru_go_77 : decode b_Ru_go 77 = .ok (.aload_n 0, 1) := by decide +kernel
theorem d_Ru_go_78 : decode b_Ru_go 78 = .ok (.dup, 1) := by decide +kernel
theorem d_Ru_go_79 : decode b_Ru_go 79 = .ok (.getfield 31, 3) := by decide +kernel
theorem d_Ru_go_82 : decode b_Ru_go 82 = .ok (.iconst 1, 1) := by decide +kernel
theorem d_Ru_go_83 : decode b_Ru_go 83 = .ok (.isub, 1) := by decide +kernel
theorem d_Ru_go_84 : decode b_Ru_go 84 = .ok (.putfield 31, 3) := by decide +kernel
theorem d_Ru_go_87 : decode b_Ru_go 87 = .ok (.aload_n 0, 1) := by decide +kernel
theorem d_Ru_go_88 : decode b_Ru_go 88 = .ok (.aload_n 0, 1) := by decide +kernel
theorem d_Ru_go_89 : decode b_Ru_go 89 = .ok (.getfield 18, 3) := by decide +kernel
theorem d_Ru_go_92 : decode b_Ru_go 92 = .ok (.aload_n 0, 1) := by decide +kernel
theorem d_Ru_go_93 : decode b_Ru_go 93 = .ok (.getfield 31, 3) := by decide +kernel
theorem d_Ru_go_96 : decode b_Ru_go 96 = .ok (.iaload, 1) := by decide +kernel
theorem d_Ru_go_97 : decode b_Ru_go 97 = .ok (.putfield 34, 3) := by decide +kernel
theorem d_Ru_go_100 : decode b_Ru_go 100 = .ok (.goto 20, 3) := by decide +kernel
theorem d_Ru_go_103 : decode b_Ru_go 103 = .ok (.iload_n 1, 1) := by decide +kernel
theorem d_Ru_go_104 : decode b_Ru_go 104 = .ok (.bipush 19, 2) := by decide +kernel
theorem d_Ru_go_106 : decode b_Ru_go 106 = .ok (.if_icmp .eq 9, 3) := by decide +kernel
theorem d_Ru_go_109 : decode b_Ru_go 109 = .ok (.iload_n 1, 1) := by decide +kernel
theorem d_Ru_go_110 : decode b_Ru_go 110 = .ok (.bipush 30, 2) := by decide +kernel
theorem d_Ru_go_112 : decode b_Ru_go 112 = .ok (.if_icmp .ne 8, 3) := by decide +kernel
theorem d_Ru_go_115 : decode b_Ru_go 115 = .ok (.aload_n 0, 1) := by decide +kernel
theorem d_Ru_go_116 : decode b_Ru_go 116 = .ok (.iload_n 3, 1) := by decide +kernel
theorem d_Ru_go_117 : decode b_Ru_go 117 = .ok (.putfield 34, 3) := by decide +kernel
theorem d_Ru_go_120 : decode b_Ru_go 120 = .ok (.return_, 1) := by decide +kernel
theorem d_Ru_toGrid_0 : decode b_Ru_toGrid 0 = .ok (.ldc2_w 131, 3) := by decide +kernel
theorem d_Ru_toGrid_3 : decode b_Ru_toGrid 3 = .ok (.lload_n 0, 1) := by decide +kernel
theorem d_Ru_toGrid_4 : decode b_Ru_toGrid 4 = .ok (.ldc2_w 131, 3) := by decide +kernel
theorem d_Ru_toGrid_7 : decode b_Ru_toGrid 7 = .ok (.invokestatic 141, 3) := by decide +kernel
theorem d_Ru_toGrid_10 : decode b_Ru_toGrid 10 = .ok (.lmul, 1) := by decide +kernel
theorem d_Ru_toGrid_11 : decode b_Ru_toGrid 11 = .ok (.lreturn, 1) := by decide +kernel
theorem d_Ru_ofOne_0 : decode b_Ru_ofOne 0 = .ok (.iload_n 0, 1) := by decide +kernel
theorem d_Ru_ofOne_1 : decode b_Ru_ofOne 1 = .ok (.tableswitch 40 8 10 #[27, 30, 35], 27) := by decide +kernel
theorem d_Ru_ofOne_28 : decode b_Ru_ofOne 28 = .ok (.lload_n 1, 1) := by decide +kernel
theorem d_Ru_ofOne_29 : decode b_Ru_ofOne 29 = .ok (.lneg, 1) := by decide +kernel
theorem d_Ru_ofOne_30 : decode b_Ru_ofOne 30 = .ok (.lreturn, 1) := by decide +kernel
theorem d_Ru_ofOne_31 : decode b_Ru_ofOne 31 = .ok (.lload_n 1, 1) := by decide +kernel
theorem d_Ru_ofOne_32 : decode b_Ru_ofOne 32 = .ok (.invokestatic 122, 3) := by decide +kernel
theorem d_Ru_ofOne_35 : decode b_Ru_ofOne 35 = .ok (.lreturn, 1) := by decide +kernel
theorem d_Ru_ofOne_36 : decode b_Ru_ofOne 36 = .ok (.lload_n 1, 1) := by decide +kernel
theorem d_Ru_ofOne_37 : decode b_Ru_ofOne 37 = .ok (.invokestatic 128, 3) := by decide +kernel
theorem d_Ru_ofOne_40 : decode b_Ru_ofOne 40 = .ok (.lreturn, 1) := by decide +kernel
theorem d_Ru_ofOne_41 : decode b_Ru_ofOne 41 = .ok (.ldc2_w 131, 3) := by decide +kernel
theorem d_Ru_ofOne_44 : decode b_Ru_ofOne 44 = .ok (.lload_n 1, 1) := by decide +kernel
theorem d_Ru_ofOne_45 : decode b_Ru_ofOne 45 = .ok (.ldc2_w 131, 3) := by decide +kernel
theorem d_Ru_ofOne_48 : decode b_Ru_ofOne 48 = .ok (.invokestatic 133, 3) := by decide +kernel
theorem d_Ru_ofOne_51 : decode b_Ru_ofOne 51 = .ok (.lmul, 1) := by decide +kernel
theorem d_Ru_ofOne_52 : decode b_Ru_ofOne 52 = .ok (.lreturn, 1) := by decide +kernel
theorem d_Ru_pushNumber_0 : decode b_Ru_pushNumber 0 = .ok (.lload_n 1, 1) := by decide +kernel
theorem d_Ru_pushNumber_1 : decode b_Ru_pushNumber 1 = .ok (.ldc2_w 157, 3) := by decide +kernel
theorem d_Ru_pushNumber_4 : decode b_Ru_pushNumber 4 = .ok (.ldc2_w 159, 3) := by decide +kernel
theorem d_Ru_pushNumber_7 : decode b_Ru_pushNumber 7 = .ok (.invokestatic 42, 3) := by decide +kernel
theorem d_Ru_pushNumber_10 : decode b_Ru_pushNumber 10 = .ok (.ifCond .ne 6, 3) := by decide +kernel
theorem d_Ru_pushNumber_13 : decode b_Ru_pushNumber 13 = .ok (.bipush 8, 2) := by decide +kernel
theorem d_Ru_pushNumber_15 : decode b_Ru_pushNumber 15 = .ok (.ireturn, 1) := by decide +kernel
theorem d_Ru_pushNumber_16 : decode b_Ru_pushNumber 16 = .ok (.aload_n 0, 1) := by decide +kernel
theorem d_Ru_pushNumber_17 : decode b_Ru_pushNumber 17 = .ok (.lload_n 1, 1) := by decide +kernel
theorem d_Ru_pushNumber_18 : decode b_Ru_pushNumber 18 = .ok (.l2i, 1) := by decide +kernel
theorem d_Ru_pushNumber_19 : decode b_Ru_pushNumber 19 = .ok (.invokevirtual 115, 3) := by decide +kernel
theorem d_Ru_pushNumber_22 : decode b_Ru_pushNumber 22 = .ok (.iconst 0, 1) := by decide +kernel
theorem d_Ru_pushNumber_23 : decode b_Ru_pushNumber 23 = .ok (.ireturn, 1) := by decide +kernel
theorem d_Ru_ofTwo_0 : decode b_Ru_ofTwo 0 = .ok (.iload_n 0, 1) := by decide +kernel
theorem d_Ru_ofTwo_1 : decode b_Ru_ofTwo 1 = .ok (.tableswitch 113 4 14 #[59, 63, 67, 77, 113, 113, 113, 113, 87, 93, 99], 59) := by decide +kernel
theorem d_Ru_ofTwo_60 : decode b_Ru_ofTwo 60 = .ok (.lload_n 1, 1) := by decide +kernel
theorem d_Ru_ofTwo_61 : decode b_Ru_ofTwo 61 = .ok (.lload_n 3, 1) := by decide +kernel
theorem d_Ru_ofTwo_62 : decode b_Ru_ofTwo 62 = .ok (.ladd, 1) := by decide +kernel
theorem d_Ru_ofTwo_63 : decode b_Ru_ofTwo 63 = .ok (.lreturn, 1) := by decide +kernel
theorem d_Ru_ofTwo_64 : decode b_Ru_ofTwo 64 = .ok (.lload_n 1, 1) := by decide +kernel
theorem d_Ru_ofTwo_65 : decode b_Ru_ofTwo 65 = .ok (.lload_n 3, 1) := by decide +kernel
theorem d_Ru_ofTwo_66 : decode b_Ru_ofTwo 66 = .ok (.lsub, 1) := by decide +kernel
theorem d_Ru_ofTwo_67 : decode b_Ru_ofTwo 67 = .ok (.lreturn, 1) := by decide +kernel
theorem d_Ru_ofTwo_68 : decode b_Ru_ofTwo 68 = .ok (.lload_n 1, 1) := by decide +kernel
theorem d_Ru_ofTwo_69 : decode b_Ru_ofTwo 69 = .ok (.lload_n 3, 1) := by decide +kernel
theorem d_Ru_ofTwo_70 : decode b_Ru_ofTwo 70 = .ok (.lmul, 1) := by decide +kernel
theorem d_Ru_ofTwo_71 : decode b_Ru_ofTwo 71 = .ok (.ldc2_w 131, 3) := by decide +kernel
theorem d_Ru_ofTwo_74 : decode b_Ru_ofTwo 74 = .ok (.invokestatic 141, 3) := by decide +kernel
theorem d_Ru_ofTwo_77 : decode b_Ru_ofTwo 77 = .ok (.lreturn, 1) := by decide +kernel
theorem d_Ru_ofTwo_78 : decode b_Ru_ofTwo 78 = .ok (.ldc2_w 131, 3) := by decide +kernel
theorem d_Ru_ofTwo_81 : decode b_Ru_ofTwo 81 = .ok (.lload_n 1, 1) := by decide +kernel
theorem d_Ru_ofTwo_82 : decode b_Ru_ofTwo 82 = .ok (.lmul, 1) := by decide +kernel
theorem d_Ru_ofTwo_83 : decode b_Ru_ofTwo 83 = .ok (.lload_n 3, 1) := by decide +kernel
theorem d_Ru_ofTwo_84 : decode b_Ru_ofTwo 84 = .ok (.invokestatic 141, 3) := by decide +kernel
theorem d_Ru_ofTwo_87 : decode b_Ru_ofTwo 87 = .ok (.lreturn, 1) := by decide +kernel
theorem d_Ru_ofTwo_88 : decode b_Ru_ofTwo 88 = .ok (.lload_n 1, 1) := by decide +kernel
theorem d_Ru_ofTwo_89 : decode b_Ru_ofTwo 89 = .ok (.lload_n 3, 1) := by decide +kernel
theorem d_Ru_ofTwo_90 : decode b_Ru_ofTwo 90 = .ok (.invokestatic 144, 3) := by decide +kernel
theorem d_Ru_ofTwo_93 : decode b_Ru_ofTwo 93 = .ok (.lreturn, 1) := by decide +kernel
theorem d_Ru_ofTwo_94 : decode b_Ru_ofTwo 94 = .ok (.lload_n 1, 1) := by decide +kernel
theorem d_Ru_ofTwo_95 : decode b_Ru_ofTwo 95 = .ok (.lload_n 3, 1) := by decide +kernel
theorem d_Ru_ofTwo_96 : decode b_Ru_ofTwo 96 = .ok (.invokestatic 147, 3) := by decide +kernel
theorem d_Ru_ofTwo_99 : decode b_Ru_ofTwo 99 = .ok (.lreturn, 1) := by decide +kernel
theorem d_Ru_ofTwo_100 : decode b_Ru_ofTwo 100 = .ok (.lload_n 1, 1) := by decide +kernel
theorem d_Ru_ofTwo_101 : decode b_Ru_ofTwo 101 = .ok (.lload_n 3, 1) := by decide +kernel
theorem d_Ru_ofTwo_102 : decode b_Ru_ofTwo 102 = .ok (.lcmp, 1) := by decide +kernel
theorem d_Ru_ofTwo_103 : decode b_Ru_ofTwo 103 = .ok (.ifCond .ge 9, 3) := by decide +kernel
theorem d_Ru_ofTwo_106 : decode b_Ru_ofTwo 106 = .ok (.ldc2_w 131, 3) := by decide +kernel
theorem d_Ru_ofTwo_109 : decode b_Ru_ofTwo 109 = .ok (.goto 4, 3) := by decide +kernel
theorem d_Ru_ofTwo_112 : decode b_Ru_ofTwo 112 = .ok (.lconst 0, 1) := by decide +kernel
theorem d_Ru_ofTwo_113 : decode b_Ru_ofTwo 113 = .ok (.lreturn, 1) := by decide +kernel
theorem d_Ru_ofTwo_114 : decode b_Ru_ofTwo 114 = .ok (.lload_n 1, 1) := by decide +kernel
theorem d_Ru_ofTwo_115 : decode b_Ru_ofTwo 115 = .ok (.lload_n 3, 1) := by decide +kernel
theorem d_Ru_ofTwo_116 : decode b_Ru_ofTwo 116 = .ok (.lcmp, 1) := by decide +kernel
theorem d_Ru_ofTwo_117 : decode b_Ru_ofTwo 117 = .ok (.ifCond .ne 9, 3) := by decide +kernel
theorem d_Ru_ofTwo_120 : decode b_Ru_ofTwo 120 = .ok (.ldc2_w 131, 3) := by decide +kernel
theorem d_Ru_ofTwo_123 : decode b_Ru_ofTwo 123 = .ok (.goto 4, 3) := by decide +kernel
theorem d_Ru_ofTwo_126 : decode b_Ru_ofTwo 126 = .ok (.lconst 0, 1) := by decide +kernel
theorem d_Ru_ofTwo_127 : decode b_Ru_ofTwo 127 = .ok (.lreturn, 1) := by decide +kernel
theorem d_Ru_reckonTwo_0 : decode b_Ru_reckonTwo 0 = .ok (.aload_n 0, 1) := by decide +kernel
theorem d_Ru_reckonTwo_1 : decode b_Ru_reckonTwo 1 = .ok (.invokevirtual 67, 3) := by decide +kernel
theorem d_Ru_reckonTwo_4 : decode b_Ru_reckonTwo 4 = .ok (.i2l, 1) := by decide +kernel
theorem d_Ru_reckonTwo_5 : decode b_Ru_reckonTwo 5 = .ok (.lstore_n 2, 1) := by decide +kernel
theorem d_Ru_reckonTwo_6 : decode b_Ru_reckonTwo 6 = .ok (.aload_n 0, 1) := by decide +kernel
theorem d_Ru_reckonTwo_7 : decode b_Ru_reckonTwo 7 = .ok (.invokevirtual 67, 3) := by decide +kernel
theorem d_Ru_reckonTwo_10 : decode b_Ru_reckonTwo 10 = .ok (.i2l, 1) := by decide +kernel
theorem d_Ru_reckonTwo_11 : decode b_Ru_reckonTwo 11 = .ok (.lstore 4, 2) := by decide +kernel
theorem d_Ru_reckonTwo_13 : decode b_Ru_reckonTwo 13 = .ok (.aload_n 0, 1) := by decide +kernel
theorem d_Ru_reckonTwo_14 : decode b_Ru_reckonTwo 14 = .ok (.iload_n 1, 1) := by decide +kernel
theorem d_Ru_reckonTwo_15 : decode b_Ru_reckonTwo 15 = .ok (.lload 4, 2) := by decide +kernel
theorem d_Ru_reckonTwo_17 : decode b_Ru_reckonTwo 17 = .ok (.lload_n 2, 1) := by decide +kernel
theorem d_Ru_reckonTwo_18 : decode b_Ru_reckonTwo 18 = .ok (.invokestatic 137, 3) := by decide +kernel
theorem d_Ru_reckonTwo_21 : decode b_Ru_reckonTwo 21 = .ok (.invokevirtual 75, 3) := by decide +kernel
theorem d_Ru_reckonTwo_24 : decode b_Ru_reckonTwo 24 = .ok (.ireturn, 1) := by decide +kernel
theorem d_Fit_touch_0 : decode b_Fit_touch 0 = .ok (.aload_n 0, 1) := by decide +kernel
theorem d_Fit_touch_1 : decode b_Fit_touch 1 = .ok (.getfield 16, 3) := by decide +kernel
theorem d_Fit_touch_4 : decode b_Fit_touch 4 = .ok (.iload_n 1, 1) := by decide +kernel
theorem d_Fit_touch_5 : decode b_Fit_touch 5 = .ok (.aaload, 1) := by decide +kernel
theorem d_Fit_touch_6 : decode b_Fit_touch 6 = .ok (.iload_n 2, 1) := by decide +kernel
theorem d_Fit_touch_7 : decode b_Fit_touch 7 = .ok (.iload_n 3, 1) := by decide +kernel
theorem d_Fit_touch_8 : decode b_Fit_touch 8 = .ok (.iastore, 1) := by decide +kernel
theorem d_Fit_touch_9 : decode b_Fit_touch 9 = .ok (.aload_n 0, 1) := by decide +kernel
theorem d_Fit_touch_10 : decode b_Fit_touch 10 = .ok (.getfield 19, 3) := by decide +kernel
theorem d_Fit_touch_13 : decode b_Fit_touch 13 = .ok (.iload_n 1, 1) := by decide +kernel
theorem d_Fit_touch_14 : decode b_Fit_touch 14 = .ok (.aaload, 1) := by decide +kernel
theorem d_Fit_touch_15 : decode b_Fit_touch 15 = .ok (.iload_n 2, 1) := by decide +kernel
theorem d_Fit_touch_16 : decode b_Fit_touch 16 = .ok (.iconst 1, 1) := by decide +kernel
theorem d_Fit_touch_17 : decode b_Fit_touch 17 = .ok (.iastore, 1) := by decide +kernel
theorem d_Fit_touch_18 : decode b_Fit_touch 18 = .ok (.return_, 1) := by decide +kernel
theorem d_Ru_usePoint_0 : decode b_Ru_usePoint 0 = .ok (.iload_n 1, 1) := by decide +kernel
theorem d_Ru_usePoint_1 : decode b_Ru_usePoint 1 = .ok (.tableswitch 113 22 26 #[35, 50, 63, 78, 91], 35) := by decide +kernel
theorem d_Ru_usePoint_36 : decode b_Ru_usePoint 36 = .ok (.aload_n 0, 1) := by decide +kernel
theorem d_Ru_usePoint_37 : decode b_Ru_usePoint 37 = .ok (.aload_n 3, 1) := by decide +kernel
theorem d_Ru_usePoint_38 : decode b_Ru_usePoint 38 = .ok (.getfield 150, 3) := by decide +kernel
theorem d_Ru_usePoint_41 : decode b_Ru_usePoint 41 = .ok (.iconst 0, 1) := by decide +kernel
theorem d_Ru_usePoint_42 : decode b_Ru_usePoint 42 = .ok (.aaload, 1) := by decide +kernel
theorem d_Ru_usePoint_43 : decode b_Ru_usePoint 43 = .ok (.iload_n 2, 1) := by decide +kernel
theorem d_Ru_usePoint_44 : decode b_Ru_usePoint 44 = .ok (.iaload, 1) := by decide +kernel
theorem d_Ru_usePoint_45 : decode b_Ru_usePoint 45 = .ok (.invokevirtual 115, 3) := by decide +kernel
theorem d_Ru_usePoint_48 : decode b_Ru_usePoint 48 = .ok (.goto 85, 3) := by decide +kernel
theorem d_Ru_usePoint_51 : decode b_Ru_usePoint 51 = .ok (.aload_n 3, 1) := by decide +kernel
theorem d_Ru_usePoint_52 : decode b_Ru_usePoint 52 = .ok (.iconst 0, 1) := by decide +kernel
theorem d_Ru_usePoint_53 : decode b_Ru_usePoint 53 = .ok (.iload_n 2, 1) := by decide +kernel
theorem d_Ru_usePoint_54 : decode b_Ru_usePoint 54 = .ok (.aload_n 0, 1) := by decide +kernel
