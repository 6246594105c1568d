theorem d_Ru_usePoint_55 : decode b_Ru_usePoint 55 = .ok (.invokevirtual 67, 3) := by decide +kernel
theorem d_Ru_usePoint_58 : decode b_Ru_usePoint 58 = .ok (.invokevirtual 154, 3) := by decide +kernel
theorem d_Ru_usePoint_61 : decode b_Ru_usePoint 61 = .ok (.goto 72, 3) := by decide +kernel
theorem d_Ru_usePoint_64 : decode b_Ru_usePoint 64 = .ok (.aload_n 0, 1) := by decide +kernel
theorem d_Ru_usePoint_65 : decode b_Ru_usePoint 65 = .ok (.aload_n 3, 1) := by decide +kernel
theorem d_Ru_usePoint_66 : decode b_Ru_usePoint 66 = .ok (.getfield 150, 3) := by decide +kernel
theorem d_Ru_usePoint_69 : decode b_Ru_usePoint 69 = .ok (.iconst 1, 1) := by decide +kernel
theorem d_Ru_usePoint_70 : decode b_Ru_usePoint 70 = .ok (.aaload, 1) := by decide +kernel
theorem d_Ru_usePoint_71 : decode b_Ru_usePoint 71 = .ok (.iload_n 2, 1) := by decide +kernel
theorem d_Ru_usePoint_72 : decode b_Ru_usePoint 72 = .ok (.iaload, 1) := by decide +kernel
theorem d_Ru_usePoint_73 : decode b_Ru_usePoint 73 = .ok (.invokevirtual 115, 3) := by decide +kernel
theorem d_Ru_usePoint_76 : decode b_Ru_usePoint 76 = .ok (.goto 57, 3) := by decide +kernel
theorem d_Ru_usePoint_79 : decode b_Ru_usePoint 79 = .ok (.aload_n 3, 1) := by decide +kernel
theorem d_Ru_usePoint_80 : decode b_Ru_usePoint 80 = .ok (.iconst 1, 1) := by decide +kernel
theorem d_Ru_usePoint_81 : decode b_Ru_usePoint 81 = .ok (.iload_n 2, 1) := by decide +kernel
theorem d_Ru_usePoint_82 : decode b_Ru_usePoint 82 = .ok (.aload_n 0, 1) := by decide +kernel
theorem d_Ru_usePoint_83 : decode b_Ru_usePoint 83 = .ok (.invokevirtual 67, 3) := by decide +kernel
theorem d_Ru_usePoint_86 : decode b_Ru_usePoint 86 = .ok (.invokevirtual 154, 3) := by decide +kernel
theorem d_Ru_usePoint_89 : decode b_Ru_usePoint 89 = .ok (.goto 44, 3) := by decide +kernel
theorem d_Ru_usePoint_92 : decode b_Ru_usePoint 92 = .ok (.aload_n 3, 1) := by decide +kernel
theorem d_Ru_usePoint_93 : decode b_Ru_usePoint 93 = .ok (.iconst 0, 1) := by decide +kernel
theorem d_Ru_usePoint_94 : decode b_Ru_usePoint 94 = .ok (.iload_n 2, 1) := by decide +kernel
theorem d_Ru_usePoint_95 : decode b_Ru_usePoint 95 = .ok (.aload_n 3, 1) := by decide +kernel
theorem d_Ru_usePoint_96 : decode b_Ru_usePoint 96 = .ok (.getfield 150, 3) := by decide +kernel
theorem d_Ru_usePoint_99 : decode b_Ru_usePoint 99 = .ok (.iconst 0, 1) := by decide +kernel
theorem d_Ru_usePoint_100 : decode b_Ru_usePoint 100 = .ok (.aaload, 1) := by decide +kernel
theorem d_Ru_usePoint_101 : decode b_Ru_usePoint 101 = .ok (.iload_n 2, 1) := by decide +kernel
theorem d_Ru_usePoint_102 : decode b_Ru_usePoint 102 = .ok (.iaload, 1) := by decide +kernel
theorem d_Ru_usePoint_103 : decode b_Ru_usePoint 103 = .ok (.i2l, 1) := by decide +kernel
theorem d_Ru_usePoint_104 : decode b_Ru_usePoint 104 = .ok (.invokestatic 128, 3) := by decide +kernel
theorem d_Ru_usePoint_107 : decode b_Ru_usePoint 107 = .ok (.l2i, 1) := by decide +kernel
theorem d_Ru_usePoint_108 : decode b_Ru_usePoint 108 = .ok (.invokevirtual 154, 3) := by decide +kernel
theorem d_Ru_usePoint_111 : decode b_Ru_usePoint 111 = .ok (.goto 22, 3) := by decide +kernel
theorem d_Ru_usePoint_114 : decode b_Ru_usePoint 114 = .ok (.aload_n 3, 1) := by decide +kernel
theorem d_Ru_usePoint_115 : decode b_Ru_usePoint 115 = .ok (.iconst 1, 1) := by decide +kernel
theorem d_Ru_usePoint_116 : decode b_Ru_usePoint 116 = .ok (.iload_n 2, 1) := by decide +kernel
theorem d_Ru_usePoint_117 : decode b_Ru_usePoint 117 = .ok (.aload_n 3, 1) := by decide +kernel
theorem d_Ru_usePoint_118 : decode b_Ru_usePoint 118 = .ok (.getfield 150, 3) := by decide +kernel
theorem d_Ru_usePoint_121 : decode b_Ru_usePoint 121 = .ok (.iconst 1, 1) := by decide +kernel
theorem d_Ru_usePoint_122 : decode b_Ru_usePoint 122 = .ok (.aaload, 1) := by decide +kernel
theorem d_Ru_usePoint_123 : decode b_Ru_usePoint 123 = .ok (.iload_n 2, 1) := by decide +kernel
theorem d_Ru_usePoint_124 : decode b_Ru_usePoint 124 = .ok (.iaload, 1) := by decide +kernel
theorem d_Ru_usePoint_125 : decode b_Ru_usePoint 125 = .ok (.i2l, 1) := by decide +kernel
theorem d_Ru_usePoint_126 : decode b_Ru_usePoint 126 = .ok (.invokestatic 128, 3) := by decide +kernel
theorem d_Ru_usePoint_129 : decode b_Ru_usePoint 129 = .ok (.l2i, 1) := by decide +kernel
theorem d_Ru_usePoint_130 : decode b_Ru_usePoint 130 = .ok (.invokevirtual 154, 3) := by decide +kernel
theorem d_Ru_usePoint_133 : decode b_Ru_usePoint 133 = .ok (.return_, 1) := by decide +kernel
theorem d_Ru_step_0 : decode b_Ru_step 0 = .ok (.aload_n 1, 1) := by decide +kernel
theorem d_Ru_step_1 : decode b_Ru_step 1 = .ok (.getfield 50, 3) := by decide +kernel
theorem d_Ru_step_4 : decode b_Ru_step 4 = .ok (.aload_n 0, 1) := by decide +kernel
theorem d_Ru_step_5 : decode b_Ru_step 5 = .ok (.getfield 34, 3) := by decide +kernel
theorem d_Ru_step_8 : decode b_Ru_step 8 = .ok (.iaload, 1) := by decide +kernel
theorem d_Ru_step_9 : decode b_Ru_step 9 = .ok (.istore_n 3, 1) := by decide +kernel
theorem d_Ru_step_10 : decode b_Ru_step 10 = .ok (.aload_n 1, 1) := by decide +kernel
theorem d_Ru_step_11 : decode b_Ru_step 11 = .ok (.getfield 53, 3) := by decide +kernel
theorem d_Ru_step_14 : decode b_Ru_step 14 = .ok (.aload_n 0, 1) := by decide +kernel
theorem d_Ru_step_15 : decode b_Ru_step 15 = .ok (.getfield 34, 3) := by decide +kernel
theorem d_Ru_step_18 : decode b_Ru_step 18 = .ok (.iaload, 1) := by decide +kernel
theorem d_Ru_step_19 : decode b_Ru_step 19 = .ok (.istore 4, 2) := by decide +kernel
theorem d_Ru_step_21 : decode b_Ru_step 21 = .ok (.aload_n 0, 1) := by decide +kernel
theorem d_Ru_step_22 : decode b_Ru_step 22 = .ok (.iload_n 3, 1) := by decide +kernel
theorem d_Ru_step_23 : decode b_Ru_step 23 = .ok (.iload 4, 2) := by decide +kernel
theorem d_Ru_step_25 : decode b_Ru_step 25 = .ok (.aload_n 1, 1) := by decide +kernel
theorem d_Ru_step_26 : decode b_Ru_step 26 = .ok (.getfield 37, 3) := by decide +kernel
theorem d_Ru_step_29 : decode b_Ru_step 29 = .ok (.aload_n 2, 1) := by decide +kernel
theorem d_Ru_step_30 : decode b_Ru_step 30 = .ok (.invokevirtual 56, 3) := by decide +kernel
theorem d_Ru_step_33 : decode b_Ru_step 33 = .ok (.istore 5, 2) := by decide +kernel
theorem d_Ru_step_35 : decode b_Ru_step 35 = .ok (.iload 5, 2) := by decide +kernel
theorem d_Ru_step_37 : decode b_Ru_step 37 = .ok (.ifCond .eq 6, 3) := by decide +kernel
theorem d_Ru_step_40 : decode b_Ru_step 40 = .ok (.iload 5, 2) := by decide +kernel
theorem d_Ru_step_42 : decode b_Ru_step 42 = .ok (.ireturn, 1) := by decide +kernel
theorem d_Ru_step_43 : decode b_Ru_step 43 = .ok (.aload_n 0, 1) := by decide +kernel
theorem d_Ru_step_44 : decode b_Ru_step 44 = .ok (.dup, 1) := by decide +kernel
theorem d_Ru_step_45 : decode b_Ru_step 45 = .ok (.getfield 34, 3) := by decide +kernel
theorem d_Ru_step_48 : decode b_Ru_step 48 = .ok (.iconst 1, 1) := by decide +kernel
theorem d_Ru_step_49 : decode b_Ru_step 49 = .ok (.iadd, 1) := by decide +kernel
theorem d_Ru_step_50 : decode b_Ru_step 50 = .ok (.putfield 34, 3) := by decide +kernel
theorem d_Ru_step_53 : decode b_Ru_step 53 = .ok (.iload_n 3, 1) := by decide +kernel
theorem d_Ru_step_54 : decode b_Ru_step 54 = .ok (.iconst 3, 1) := by decide +kernel
theorem d_Ru_step_55 : decode b_Ru_step 55 = .ok (.if_icmp .le 15, 3) := by decide +kernel
theorem d_Ru_step_58 : decode b_Ru_step 58 = .ok (.iload_n 3, 1) := by decide +kernel
theorem d_Ru_step_59 : decode b_Ru_step 59 = .ok (.bipush 20, 2) := by decide +kernel
theorem d_Ru_step_61 : decode b_Ru_step 61 = .ok (.if_icmp .eq 9, 3) := by decide +kernel
theorem d_Ru_step_64 : decode b_Ru_step 64 = .ok (.iload_n 3, 1) := by decide +kernel
theorem d_Ru_step_65 : decode b_Ru_step 65 = .ok (.bipush 21, 2) := by decide +kernel
theorem d_Ru_step_67 : decode b_Ru_step 67 = .ok (.if_icmp .ne 12, 3) := by decide +kernel
theorem d_Ru_step_70 : decode b_Ru_step 70 = .ok (.aload_n 0, 1) := by decide +kernel
theorem d_Ru_step_71 : decode b_Ru_step 71 = .ok (.iload_n 3, 1) := by decide +kernel
theorem d_Ru_step_72 : decode b_Ru_step 72 = .ok (.iload 4, 2) := by decide +kernel
theorem d_Ru_step_74 : decode b_Ru_step 74 = .ok (.invokevirtual 60, 3) := by decide +kernel
theorem d_Ru_step_77 : decode b_Ru_step 77 = .ok (.iconst 0, 1) := by decide +kernel
theorem d_Ru_step_78 : decode b_Ru_step 78 = .ok (.ireturn, 1) := by decide +kernel
theorem d_Ru_step_79 : decode b_Ru_step 79 = .ok (.iload_n 3, 1) := by decide +kernel
theorem d_Ru_step_80 : decode b_Ru_step 80 = .ok (.bipush 15, 2) := by decide +kernel
theorem d_Ru_step_82 : decode b_Ru_step 82 = .ok (.if_icmp .gt 34, 3) := by decide +kernel
theorem d_Ru_step_85 : decode b_Ru_step 85 = .ok (.getstatic 64, 3) := by decide +kernel
theorem d_Ru_step_88 : decode b_Ru_step 88 = .ok (.iload_n 3, 1) := by decide +kernel
theorem d_Ru_step_89 : decode b_Ru_step 89 = .ok (.iaload, 1) := by decide +kernel
theorem d_Ru_step_90 : decode b_Ru_step 90 = .ok (.iconst 1, 1) := by decide +kernel
theorem d_Ru_step_91 : decode b_Ru_step 91 = .ok (.if_icmp .ne 19, 3) := by decide +kernel
theorem d_Ru_step_94 : decode b_Ru_step 94 = .ok (.aload_n 0, 1) := by decide +kernel
theorem d_Ru_step_95 : decode b_Ru_step 95 = .ok (.iload_n 3, 1) := by decide +kernel
theorem d_Ru_step_96 : decode b_Ru_step 96 = .ok (.aload_n 0, 1) := by decide +kernel
theorem d_Ru_step_97 : decode b_Ru_step 97 = .ok (.invokevirtual 67, 3) := by decide +kernel
theorem d_Ru_step_100 : decode b_Ru_step 100 = .ok (.i2l, 1) := by decide +kernel
theorem d_Ru_step_101 : decode b_Ru_step 101 = .ok (.invokestatic 71, 3) := by decide +kernel
theorem d_Ru_step_104 : decode b_Ru_step 104 = .ok (.invokevirtual 75, 3) := by decide +kernel
theorem d_Ru_step_107 : decode b_Ru_step 107 = .ok (.goto 8, 3) := by decide +kernel
theorem d_Ru_step_110 : decode b_Ru_step 110 = .ok (.aload_n 0, 1) := by decide +kernel
theorem d_Ru_step_111 : decode b_Ru_step 111 = .ok (.iload_n 3, 1) := by decide +kernel
theorem d_Ru_step_112 : decode b_Ru_step 112 = .ok (.invokevirtual 79, 3) := by decide +kernel
theorem d_Ru_step_115 : decode b_Ru_step 115 = .ok (.ireturn, 1) := by decide +kernel
theorem d_Ru_step_116 : decode b_Ru_step 116 = .ok (.iload_n 3, 1) := by decide +kernel
theorem d_Ru_step_117 : decode b_Ru_step 117 = .ok (.bipush 19, 2) := by decide +kernel
theorem d_Ru_step_119 : decode b_Ru_step 119 = .ok (.if_icmp .le 9, 3) := by decide +kernel
theorem d_Ru_step_122 : decode b_Ru_step 122 = .ok (.iload_n 3, 1) := by decide +kernel
theorem d_Ru_step_123 : decode b_Ru_step 123 = .ok (.bipush 30, 2) := by decide +kernel
theorem d_Ru_step_125 : decode b_Ru_step 125 = .ok (.if_icmp .ne 16, 3) := by decide +kernel
theorem d_Ru_step_128 : decode b_Ru_step 128 = .ok (.aload_n 0, 1) := by decide +kernel
theorem d_Ru_step_129 : decode b_Ru_step 129 = .ok (.iload_n 3, 1) := by decide +kernel
theorem d_Ru_step_130 : decode b_Ru_step 130 = .ok (.iload 4, 2) := by decide +kernel
theorem d_Ru_step_132 : decode b_Ru_step 132 = .ok (.aload_n 1, 1) := by decide +kernel
theorem d_Ru_step_133 : decode b_Ru_step 133 = .ok (.getfield 37, 3) := by decide +kernel
theorem d_Ru_step_136 : decode b_Ru_step 136 = .ok (.invokevirtual 83, 3) := by decide +kernel
theorem d_Ru_step_139 : decode b_Ru_step 139 = .ok (.iconst 0, 1) := by decide +kernel
theorem d_Ru_step_140 : decode b_Ru_step 140 = .ok (.ireturn, 1) := by decide +kernel
theorem d_Ru_step_141 : decode b_Ru_step 141 = .ok (.iload_n 3, 1) := by decide +kernel
theorem d_Ru_step_142 : decode b_Ru_step 142 = .ok (.bipush 27, 2) := by decide +kernel
theorem d_Ru_step_144 : decode b_Ru_step 144 = .ok (.if_icmp .gt 13, 3) := by decide +kernel
theorem d_Ru_step_147 : decode b_Ru_step 147 = .ok (.aload_n 0, 1) := by decide +kernel
theorem d_Ru_step_148 : decode b_Ru_step 148 = .ok (.iload_n 3, 1) := by decide +kernel
theorem d_Ru_step_149 : decode b_Ru_step 149 = .ok (.iload 4, 2) := by decide +kernel
theorem d_Ru_step_151 : decode b_Ru_step 151 = .ok (.aload_n 2, 1) := by decide +kernel
theorem d_Ru_step_152 : decode b_Ru_step 152 = .ok (.invokevirtual 87, 3) := by decide +kernel
theorem d_Ru_step_155 : decode b_Ru_step 155 = .ok (.iconst 0, 1) := by decide +kernel
theorem d_Ru_step_156 : decode b_Ru_step 156 = .ok (.ireturn, 1) := by decide +kernel
theorem d_Ru_step_157 : decode b_Ru_step 157 = .ok (.aload_n 2, 1) := by decide +kernel
theorem d_Ru_step_158 : decode b_Ru_step 158 = .ok (.iload_n 3, 1) := by decide +kernel
theorem d_Ru_step_159 : decode b_Ru_step 159 = .ok (.bipush 28, 2) := by decide +kernel
theorem d_Ru_step_161 : decode b_Ru_step 161 = .ok (.isub, 1) := by decide +kernel
theorem d_Ru_step_162 : decode b_Ru_step 162 = .ok (.invokevirtual 91, 3) := by decide +kernel
theorem d_Ru_step_165 : decode b_Ru_step 165 = .ok (.ifCond .eq 7, 3) := by decide +kernel
theorem d_Ru_step_168 : decode b_Ru_step 168 = .ok (.iconst 0, 1) := by decide +kernel
theorem d_Ru_step_169 : decode b_Ru_step 169 = .ok (.goto 5, 3) := by decide +kernel
theorem d_Ru_step_172 : decode b_Ru_step 172 = .ok (.bipush 8, 2) := by decide +kernel
theorem d_Ru_step_174 : decode b_Ru_step 174 = .ok (.ireturn, 1) := by decide +kernel
theorem d_Ru_perform_0 : decode b_Ru_perform 0 = .ok (.aload_n 0, 1) := by decide +kernel
theorem d_Ru_perform_1 : decode b_Ru_perform 1 = .ok (.getfield 15, 3) := by decide +kernel
theorem d_Ru_perform_4 : decode b_Ru_perform 4 = .ok (.iconst 0, 1) := by decide +kernel
theorem d_Ru_perform_5 : decode b_Ru_perform 5 = .ok (.invokestatic 21, 3) := by decide +kernel
theorem d_Ru_perform_8 : decode b_Ru_perform 8 = .ok (.aload_n 0, 1) := by decide +kernel
theorem d_Ru_perform_9 : decode b_Ru_perform 9 = .ok (.iconst 0, 1) := by decide +kernel
theorem d_Ru_perform_10 : decode b_Ru_perform 10 = .ok (.putfield 27, 3) := by decide +kernel
theorem d_Ru_perform_13 : decode b_Ru_perform 13 = .ok (.aload_n 0, 1) := by decide +kernel
theorem d_Ru_perform_14 : decode b_Ru_perform 14 = .ok (.iconst 0, 1) := by decide +kernel
theorem d_Ru_perform_15 : decode b_Ru_perform 15 = .ok (.putfield 31, 3) := by decide +kernel
theorem d_Ru_perform_18 : decode b_Ru_perform 18 = .ok (.aload_n 0, 1) := by decide +kernel
theorem d_Ru_perform_19 : decode b_Ru_perform 19 = .ok (.iconst 0, 1) := by decide +kernel
theorem d_Ru_perform_20 : decode b_Ru_perform 20 = .ok (.putfield 34, 3) := by decide +kernel
theorem d_Ru_perform_23 : decode b_Ru_perform 23 = .ok (.iconst 0, 1) := by decide +kernel
theorem d_Ru_perform_24 : decode b_Ru_perform 24 = .ok (.istore_n 3, 1) := by decide +kernel
theorem d_Ru_perform_25 : decode b_Ru_perform 25 = .ok (.iload_n 3, 1) := by decide +kernel
theorem d_Ru_perform_26 : decode b_Ru_perform 26 = .ok (.sipush 1000, 3) := by decide +kernel
theorem d_Ru_perform_29 : decode b_Ru_perform 29 = .ok (.if_icmp .ge 46, 3) := by decide +kernel
theorem d_Ru_perform_32 : decode b_Ru_perform 32 = .ok (.aload_n 0, 1) := by decide +kernel
theorem d_Ru_perform_33 : decode b_Ru_perform 33 = .ok (.getfield 34, 3) := by decide +kernel
theorem d_Ru_perform_36 : decode b_Ru_perform 36 = .ok (.i2l, 1) := by decide +kernel
theorem d_Ru_perform_37 : decode b_Ru_perform 37 = .ok (.lconst 0, 1) := by decide +kernel
theorem d_Ru_perform_38 : decode b_Ru_perform 38 = .ok (.aload_n 1, 1) := by decide +kernel
theorem d_Ru_perform_39 : decode b_Ru_perform 39 = .ok (.getfield 37, 3) := by decide +kernel
theorem d_Ru_perform_42 : decode b_Ru_perform 42 = .ok (.iconst 1, 1) := by decide +kernel
theorem d_Ru_perform_43 : decode b_Ru_perform 43 = .ok (.isub, 1) := by decide +kernel
theorem d_Ru_perform_44 : decode b_Ru_perform 44 = .ok (.i2l, 1) := by decide +kernel
theorem d_Ru_perform_45 : decode b_Ru_perform 45 = .ok (.invokestatic 42, 3) := by decide +kernel
theorem d_Ru_perform_48 : decode b_Ru_perform 48 = .ok (.ifCond .ne 5, 3) := by decide +kernel
theorem d_Ru_perform_51 : decode b_Ru_perform 51 = .ok (.iconst 0, 1) := by decide +kernel
theorem d_Ru_perform_52 : decode b_Ru_perform 52 = .ok (.ireturn, 1) := by decide +kernel
theorem d_Ru_perform_53 : decode b_Ru_perform 53 = .ok (.aload_n 0, 1) := by decide +kernel
theorem d_Ru_perform_54 : decode b_Ru_perform 54 = .ok (.aload_n 1, 1) := by decide +kernel
theorem d_Ru_perform_55 : decode b_Ru_perform 55 = .ok (.aload_n 2, 1) := by decide +kernel
theorem d_Ru_perform_56 : decode b_Ru_perform 56 = .ok (.invokevirtual 46, 3) := by decide +kernel
theorem d_Ru_perform_59 : decode b_Ru_perform 59 = .ok (.istore 4, 2) := by decide +kernel
theorem d_Ru_perform_61 : decode b_Ru_perform 61 = .ok (.iload 4, 2) := by decide +kernel
theorem d_Ru_perform_63 : decode b_Ru_perform 63 = .ok (.ifCond .eq 6, 3) := by decide +kernel
theorem d_Ru_perform_66 : decode b_Ru_perform 66 = .ok (.iload 4, 2) := by decide +kernel
theorem d_Ru_perform_68 : decode b_Ru_perform 68 = .ok (.ireturn, 1) := by decide +kernel
theorem d_Ru_perform_69 : decode b_Ru_perform 69 = .ok (.iinc 3 1, 3) := by decide +kernel
theorem d_Ru_perform_72 : decode b_Ru_perform 72 = .ok (.goto (-47), 3) := by decide +kernel
theorem d_Ru_perform_75 : decode b_Ru_perform 75 = .ok (.aload_n 0, 1) := by decide +kernel
theorem d_Ru_perform_76 : decode b_Ru_perform 76 = .ok (.getfield 34, 3) := by decide +kernel
theorem d_Ru_perform_79 : decode b_Ru_perform 79 = .ok (.aload_n 1, 1) := by decide +kernel
theorem d_Ru_perform_80 : decode b_Ru_perform 80 = .ok (.getfield 37, 3) := by decide +kernel
theorem d_Ru_perform_83 : decode b_Ru_perform 83 = .ok (.if_icmp .ge 8, 3) := by decide +kernel
theorem d_Ru_perform_86 : decode b_Ru_perform 86 = .ok (.bipush 6, 2) := by decide +kernel
theorem d_Ru_perform_88 : decode b_Ru_perform 88 = .ok (.goto 4, 3) := by decide +kernel
theorem d_Ru_perform_91 : decode b_Ru_perform 91 = .ok (.iconst 0, 1) := by decide +kernel
theorem d_Ru_perform_92 : decode b_Ru_perform 92 = .ok (.ireturn, 1) := by decide +kernel
theorem d_Fo_run_0 : decode b_Fo_run 0 = .ok (.aload_n 0, 1) := by decide +kernel
theorem d_Fo_run_1 : decode b_Fo_run 1 = .ok (.iload_n 1, 1) := by decide +kernel
theorem d_Fo_run_2 : decode b_Fo_run 2 = .ok (.invokevirtual 99, 3) := by decide +kernel
theorem d_Fo_run_5 : decode b_Fo_run 5 = .ok (.astore_n 3, 1) := by decide +kernel
theorem d_Fo_run_6 : decode b_Fo_run 6 = .ok (.aload_n 3, 1) := by decide +kernel
theorem d_Fo_run_7 : decode b_Fo_run 7 = .ok (.ifnull 17, 3) := by decide +kernel
theorem d_Fo_run_10 : decode b_Fo_run 10 = .ok (.aload_n 3, 1) := by decide +kernel
theorem d_Fo_run_11 : decode b_Fo_run 11 = .ok (.getfield 103, 3) := by decide +kernel
theorem d_Fo_run_14 : decode b_Fo_run 14 = .ok (.ifCond .gt 10, 3) := by decide +kernel
theorem d_Fo_run_17 : decode b_Fo_run 17 = .ok (.iload_n 2, 1) := by decide +kernel
theorem d_Fo_run_18 : decode b_Fo_run 18 = .ok (.invokestatic 236, 3) := by decide +kernel
theorem d_Fo_run_21 : decode b_Fo_run 21 = .ok (.ifCond .ne 5, 3) := by decide +kernel
theorem d_Fo_run_24 : decode b_Fo_run 24 = .ok (.iconst (-1), 1) := by decide +kernel
theorem d_Fo_run_25 : decode b_Fo_run 25 = .ok (.ireturn, 1) := by decide +kernel
theorem d_Fo_run_26 : decode b_Fo_run 26 = .ok (.aload_n 0, 1) := by decide +kernel
theorem d_Fo_run_27 : decode b_Fo_run 27 = .ok (.getfield 57, 3) := by decide +kernel
theorem d_Fo_run_30 : decode b_Fo_run 30 = .ok (.aload_n 3, 1) := by decide +kernel
theorem d_Fo_run_31 : decode b_Fo_run 31 = .ok (.getfield 106, 3) := by decide +kernel
theorem d_Fo_run_34 : decode b_Fo_run 34 = .ok (.iload_n 2, 1) := by decide +kernel
theorem d_Fo_run_35 : decode b_Fo_run 35 = .ok (.invokevirtual 267, 3) := by decide +kernel
theorem d_Fo_run_38 : decode b_Fo_run 38 = .ok (.aload_n 0, 1) := by decide +kernel
theorem d_Fo_run_39 : decode b_Fo_run 39 = .ok (.getfield 46, 3) := by decide +kernel
theorem d_Fo_run_42 : decode b_Fo_run 42 = .ok (.aload_n 3, 1) := by decide +kernel
theorem d_Fo_run_43 : decode b_Fo_run 43 = .ok (.getfield 191, 3) := by decide +kernel
theorem d_Fo_run_46 : decode b_Fo_run 46 = .ok (.aload_n 0, 1) := by decide +kernel
theorem d_Fo_run_47 : decode b_Fo_run 47 = .ok (.getfield 57, 3) := by decide +kernel
theorem d_Fo_run_50 : decode b_Fo_run 50 = .ok (.invokevirtual 271, 3) := by decide +kernel
theorem d_Fo_run_53 : decode b_Fo_run 53 = .ok (.istore 4, 2) := by decide +kernel
theorem d_Fo_run_55 : decode b_Fo_run 55 = .ok (.iload 4, 2) := by decide +kernel
theorem d_Fo_run_57 : decode b_Fo_run 57 = .ok (.ifCond .ne 23, 3) := by decide +kernel
theorem d_Fo_run_60 : decode b_Fo_run 60 = .ok (.aload_n 0, 1) := by decide +kernel
theorem d_Fo_run_61 : decode b_Fo_run 61 = .ok (.getfield 53, 3) := by decide +kernel
theorem d_Fo_run_64 : decode b_Fo_run 64 = .ok (.astore 5, 2) := by decide +kernel
theorem d_Fo_run_66 : decode b_Fo_run 66 = .ok (.aload_n 0, 1) := by decide +kernel
theorem d_Fo_run_67 : decode b_Fo_run 67 = .ok (.aload_n 0, 1) := by decide +kernel
theorem d_Fo_run_68 : decode b_Fo_run 68 = .ok (.getfield 57, 3) := by decide +kernel
theorem d_Fo_run_71 : decode b_Fo_run 71 = .ok (.putfield 53, 3) := by decide +kernel
theorem d_Fo_run_74 : decode b_Fo_run 74 = .ok (.aload_n 0, 1) := by decide +kernel
theorem d_Fo_run_75 : decode b_Fo_run 75 = .ok (.aload 5, 2) := by decide +kernel
theorem d_Fo_run_77 : decode b_Fo_run 77 = .ok (.putfield 57, 3) := by decide +kernel
theorem d_Fo_run_80 : decode b_Fo_run 80 = .ok (.iload 4, 2) := by decide +kernel
theorem d_Fo_run_82 : decode b_Fo_run 82 = .ok (.ireturn, 1) := by decide +kernel
theorem d_Fo_fitted_0 : decode b_Fo_fitted 0 = .ok (.aload_n 0, 1) := by decide +kernel
theorem d_Fo_fitted_1 : decode b_Fo_fitted 1 = .ok (.getfield 53, 3) := by decide +kernel
theorem d_Fo_fitted_4 : decode b_Fo_fitted 4 = .ok (.iload_n 1, 1) := by decide +kernel
theorem d_Fo_fitted_5 : decode b_Fo_fitted 5 = .ok (.invokevirtual 275, 3) := by decide +kernel
theorem d_Fo_fitted_8 : decode b_Fo_fitted 8 = .ok (.ifCond .ne 7, 3) := by decide +kernel
theorem d_Fo_fitted_11 : decode b_Fo_fitted 11 = .ok (.ldc_w 276, 3) := by decide +kernel
theorem d_Fo_fitted_14 : decode b_Fo_fitted 14 = .ok (.ireturn, 1) := by decide +kernel
theorem d_Fo_fitted_15 : decode b_Fo_fitted 15 = .ok (.iload_n 2, 1) := by decide +kernel
theorem d_Fo_fitted_16 : decode b_Fo_fitted 16 = .ok (.tableswitch 80 0 3 #[32, 44, 56, 68], 32) := by decide +kernel
theorem d_Fo_fitted_48 : decode b_Fo_fitted 48 = .ok (.aload_n 0, 1) := by decide +kernel
theorem d_Fo_fitted_49 : decode b_Fo_fitted 49 = .ok (.getfield 53, 3) := by decide +kernel
theorem d_Fo_fitted_52 : decode b_Fo_fitted 52 = .ok (.getfield 277, 3) := by decide +kernel
theorem d_Fo_fitted_55 : decode b_Fo_fitted 55 = .ok (.iconst 0, 1) := by decide +kernel
theorem d_Fo_fitted_56 : decode b_Fo_fitted 56 = .ok (.aaload, 1) := by decide +kernel
theorem d_Fo_fitted_57 : decode b_Fo_fitted 57 = .ok (.iload_n 1, 1) := by decide +kernel
theorem d_Fo_fitted_58 : decode b_Fo_fitted 58 = .ok (.iaload, 1) := by decide +kernel
theorem d_Fo_fitted_59 : decode b_Fo_fitted 59 = .ok (.ireturn, 1) := by decide +kernel
theorem d_Fo_fitted_60 : decode b_Fo_fitted 60 = .ok (.aload_n 0, 1) := by decide +kernel
theorem d_Fo_fitted_61 : decode b_Fo_fitted 61 = .ok (.getfield 53, 3) := by decide +kernel
theorem d_Fo_fitted_64 : decode b_Fo_fitted 64 = .ok (.getfield 277, 3) := by decide +kernel
theorem d_Fo_fitted_67 : decode b_Fo_fitted 67 = .ok (.iconst 1, 1) := by decide +kernel
theorem d_Fo_fitted_68 : decode b_Fo_fitted 68 = .ok (.aaload, 1) := by decide +kernel
theorem d_Fo_fitted_69 : decode b_Fo_fitted 69 = .ok (.iload_n 1, 1) := by decide +kernel
theorem d_Fo_fitted_70 : decode b_Fo_fitted 70 = .ok (.iaload, 1) := by decide +kernel
theorem d_Fo_fitted_71 : decode b_Fo_fitted 71 = .ok (.ireturn, 1) := by decide +kernel
theorem d_Fo_fitted_72 : decode b_Fo_fitted 72 = .ok (.aload_n 0, 1) := by decide +kernel
theorem d_Fo_fitted_73 : decode b_Fo_fitted 73 = .ok (.getfield 53, 3) := by decide +kernel
theorem d_Fo_fitted_76 : decode b_Fo_fitted 76 = .ok (.getfield 281, 3) := by decide +kernel
theorem d_Fo_fitted_79 : decode b_Fo_fitted 79 = .ok (.iconst 0, 1) := by decide +kernel
theorem d_Fo_fitted_80 : decode b_Fo_fitted 80 = .ok (.aaload, 1) := by decide +kernel
theorem d_Fo_fitted_81 : decode b_Fo_fitted 81 = .ok (.iload_n 1, 1) := by decide +kernel
theorem d_Fo_fitted_82 : decode b_Fo_fitted 82 = .ok (.iaload, 1) := by decide +kernel
theorem d_Fo_fitted_83 : decode b_Fo_fitted 83 = .ok (.ireturn, 1) := by decide +kernel
theorem d_Fo_fitted_84 : decode b_Fo_fitted 84 = .ok (.aload_n 0, 1) := by decide +kernel
theorem d_Fo_fitted_85 : decode b_Fo_fitted 85 = .ok (.getfield 53, 3) := by decide +kernel
theorem d_Fo_fitted_88 : decode b_Fo_fitted 88 = .ok (.getfield 281, 3) := by decide +kernel
theorem d_Fo_fitted_91 : decode b_Fo_fitted 91 = .ok (.iconst 1, 1) := by decide +kernel
theorem d_Fo_fitted_92 : decode b_Fo_fitted 92 = .ok (.aaload, 1) := by decide +kernel
theorem d_Fo_fitted_93 : decode b_Fo_fitted 93 = .ok (.iload_n 1, 1) := by decide +kernel
theorem d_Fo_fitted_94 : decode b_Fo_fitted 94 = .ok (.iaload, 1) := by decide +kernel
theorem d_Fo_fitted_95 : decode b_Fo_fitted 95 = .ok (.ireturn, 1) := by decide +kernel
theorem d_Fo_fitted_96 : decode b_Fo_fitted 96 = .ok (.ldc_w 276, 3) := by decide +kernel
theorem d_Fo_fitted_99 : decode b_Fo_fitted 99 = .ok (.ireturn, 1) := by decide +kernel
theorem d_Fo_isBy_0 : decode b_Fo_isBy 0 = .ok (.iload_n 0, 1) := by decide +kernel
theorem d_Fo_isBy_1 : decode b_Fo_isBy 1 = .ok (.i2l, 1) := by decide +kernel
theorem d_Fo_isBy_2 : decode b_Fo_isBy 2 = .ok (.ldc2_w 358, 3) := by decide +kernel
theorem d_Fo_isBy_5 : decode b_Fo_isBy 5 = .ok (.ldc2_w 360, 3) := by decide +kernel
theorem d_Fo_isBy_8 : decode b_Fo_isBy 8 = .ok (.invokestatic 84, 3) := by decide +kernel
theorem d_Fo_isBy_11 : decode b_Fo_isBy 11 = .ok (.ireturn, 1) := by decide +kernel
theorem d_Fo_isMaster_0 : decode b_Fo_isMaster 0 = .ok (.iload_n 0, 1) := by decide +kernel
theorem d_Fo_isMaster_1 : decode b_Fo_isMaster 1 = .ok (.i2l, 1) := by decide +kernel
theorem d_Fo_isMaster_2 : decode b_Fo_isMaster 2 = .ok (.lconst 0, 1) := by decide +kernel
theorem d_Fo_isMaster_3 : decode b_Fo_isMaster 3 = .ok (.ldc2_w 120, 3) := by decide +kernel
theorem d_Fo_isMaster_6 : decode b_Fo_isMaster 6 = .ok (.invokestatic 84, 3) := by decide +kernel
theorem d_Fo_isMaster_9 : decode b_Fo_isMaster 9 = .ok (.ireturn, 1) := by decide +kernel
theorem d_Fo_delta_0 : decode b_Fo_delta 0 = .ok (.aload_n 0, 1) := by decide +kernel
theorem d_Fo_delta_1 : decode b_Fo_delta 1 = .ok (.iload_n 1, 1) := by decide +kernel
theorem d_Fo_delta_2 : decode b_Fo_delta 2 = .ok (.invokevirtual 99, 3) := by decide +kernel
theorem d_Fo_delta_5 : decode b_Fo_delta 5 = .ok (.astore 6, 2) := by decide +kernel
theorem d_Fo_delta_7 : decode b_Fo_delta 7 = .ok (.aload 6, 2) := by decide +kernel
theorem d_Fo_delta_9 : decode b_Fo_delta 9 = .ok (.ifnull 22, 3) := by decide +kernel
theorem d_Fo_delta_12 : decode b_Fo_delta 12 = .ok (.iload_n 2, 1) := by decide +kernel
theorem d_Fo_delta_13 : decode b_Fo_delta 13 = .ok (.invokestatic 284, 3) := by decide +kernel
theorem d_Fo_delta_16 : decode b_Fo_delta 16 = .ok (.ifCond .eq 15, 3) := by decide +kernel
theorem d_Fo_delta_19 : decode b_Fo_delta 19 = .ok (.aload 6, 2) := by decide +kernel
theorem d_Fo_delta_21 : decode b_Fo_delta 21 = .ok (.getfield 106, 3) := by decide +kernel
theorem d_Fo_delta_24 : decode b_Fo_delta 24 = .ok (.iload_n 3, 1) := by decide +kernel
theorem d_Fo_delta_25 : decode b_Fo_delta 25 = .ok (.invokevirtual 136, 3) := by decide +kernel
theorem d_Fo_delta_28 : decode b_Fo_delta 28 = .ok (.ifCond .ne 5, 3) := by decide +kernel
theorem d_Fo_delta_31 : decode b_Fo_delta 31 = .ok (.iconst 0, 1) := by decide +kernel
theorem d_Fo_delta_32 : decode b_Fo_delta 32 = .ok (.ireturn, 1) := by decide +kernel
theorem d_Fo_delta_33 : decode b_Fo_delta 33 = .ok (.iload 4, 2) := by decide +kernel
theorem d_Fo_delta_35 : decode b_Fo_delta 35 = .ok (.invokestatic 287, 3) := by decide +kernel
theorem d_Fo_delta_38 : decode b_Fo_delta 38 = .ok (.ifCond .eq 11, 3) := by decide +kernel
theorem d_Fo_delta_41 : decode b_Fo_delta 41 = .ok (.iload 5, 2) := by decide +kernel
theorem d_Fo_delta_43 : decode b_Fo_delta 43 = .ok (.invokestatic 287, 3) := by decide +kernel
theorem d_Fo_delta_46 : decode b_Fo_delta 46 = .ok (.ifCond .ne 5, 3) := by decide +kernel
theorem d_Fo_delta_49 : decode b_Fo_delta 49 = .ok (.iconst 0, 1) := by decide +kernel
theorem d_Fo_delta_50 : decode b_Fo_delta 50 = .ok (.ireturn, 1) := by decide +kernel
theorem d_Fo_delta_51 : decode b_Fo_delta 51 = .ok (.aload 6, 2) := by decide +kernel
theorem d_Fo_delta_53 : decode b_Fo_delta 53 = .ok (.getfield 106, 3) := by decide +kernel
theorem d_Fo_delta_56 : decode b_Fo_delta 56 = .ok (.getfield 290, 3) := by decide +kernel
theorem d_Fo_delta_59 : decode b_Fo_delta 59 = .ok (.iload_n 2, 1) := by decide +kernel
theorem d_Fo_delta_60 : decode b_Fo_delta 60 = .ok (.aaload, 1) := by decide +kernel
theorem d_Fo_delta_61 : decode b_Fo_delta 61 = .ok (.iload_n 3, 1) := by decide +kernel
theorem d_Fo_delta_62 : decode b_Fo_delta 62 = .ok (.iload 4, 2) := by decide +kernel
theorem d_Fo_delta_64 : decode b_Fo_delta 64 = .ok (.iastore, 1) := by decide +kernel
theorem d_Fo_delta_65 : decode b_Fo_delta 65 = .ok (.aload 6, 2) := by decide +kernel
theorem d_Fo_delta_67 : decode b_Fo_delta 67 = .ok (.getfield 106, 3) := by decide +kernel
theorem d_Fo_delta_70 : decode b_Fo_delta 70 = .ok (.getfield 293, 3) := by decide +kernel
theorem d_Fo_delta_73 : decode b_Fo_delta 73 = .ok (.iload_n 2, 1) := by decide +kernel
theorem d_Fo_delta_74 : decode b_Fo_delta 74 = .ok (.aaload, 1) := by decide +kernel
theorem d_Fo_delta_75 : decode b_Fo_delta 75 = .ok (.iload_n 3, 1) := by decide +kernel
theorem d_Fo_delta_76 : decode b_Fo_delta 76 = .ok (.iload 5, 2) := by decide +kernel
theorem d_Fo_delta_78 : decode b_Fo_delta 78 = .ok (.iastore, 1) := by decide +kernel
theorem d_Fo_delta_79 : decode b_Fo_delta 79 = .ok (.iconst 1, 1) := by decide +kernel
theorem d_Fo_delta_80 : decode b_Fo_delta 80 = .ok (.ireturn, 1) := by decide +kernel
theorem d_Fo_weight_0 : decode b_Fo_weight 0 = .ok (.iload_n 1, 1) := by decide +kernel
theorem d_Fo_weight_1 : decode b_Fo_weight 1 = .ok (.invokestatic 284, 3) := by decide +kernel
theorem d_Fo_weight_4 : decode b_Fo_weight 4 = .ok (.ifCond .eq 10, 3) := by decide +kernel
theorem d_Fo_weight_7 : decode b_Fo_weight 7 = .ok (.iload_n 2, 1) := by decide +kernel
theorem d_Fo_weight_8 : decode b_Fo_weight 8 = .ok (.invokestatic 170, 3) := by decide +kernel
theorem d_Fo_weight_11 : decode b_Fo_weight 11 = .ok (.ifCond .ne 5, 3) := by decide +kernel
theorem d_Fo_weight_14 : decode b_Fo_weight 14 = .ok (.iconst 0, 1) := by decide +kernel
theorem d_Fo_weight_15 : decode b_Fo_weight 15 = .ok (.ireturn, 1) := by decide +kernel
theorem d_Fo_weight_16 : decode b_Fo_weight 16 = .ok (.aload_n 0, 1) := by decide +kernel
theorem d_Fo_weight_17 : decode b_Fo_weight 17 = .ok (.getfield 60, 3) := by decide +kernel
theorem d_Fo_weight_20 : decode b_Fo_weight 20 = .ok (.iload_n 1, 1) := by decide +kernel
theorem d_Fo_weight_21 : decode b_Fo_weight 21 = .ok (.iload_n 2, 1) := by decide +kernel
theorem d_Fo_weight_22 : decode b_Fo_weight 22 = .ok (.iastore, 1) := by decide +kernel
theorem d_Fo_weight_23 : decode b_Fo_weight 23 = .ok (.iconst 1, 1) := by decide +kernel
theorem d_Fo_weight_24 : decode b_Fo_weight 24 = .ok (.ireturn, 1) := by decide +kernel
theorem d_Fo_weighed_0 : decode b_Fo_weighed 0 = .ok (.lconst 0, 1) := by decide +kernel
theorem d_Fo_weighed_1 : decode b_Fo_weighed 1 = .ok (.lstore_n 3, 1) := by decide +kernel
theorem d_Fo_weighed_2 : decode b_Fo_weighed 2 = .ok (.iconst 0, 1) := by decide +kernel
theorem d_Fo_weighed_3 : decode b_Fo_weighed 3 = .ok (.istore 5, 2) := by decide +kernel
theorem d_Fo_weighed_5 : decode b_Fo_weighed 5 = .ok (.iload 5, 2) := by decide +kernel
theorem d_Fo_weighed_7 : decode b_Fo_weighed 7 = .ok (.iconst 3, 1) := by decide +kernel
theorem d_Fo_weighed_8 : decode b_Fo_weighed 8 = .ok (.if_icmp .ge 28, 3) := by decide +kernel
theorem d_Fo_weighed_11 : decode b_Fo_weighed 11 = .ok (.lload_n 3, 1) := by decide +kernel
theorem d_Fo_weighed_12 : decode b_Fo_weighed 12 = .ok (.aload_n 0, 1) := by decide +kernel
theorem d_Fo_weighed_13 : decode b_Fo_weighed 13 = .ok (.getfield 60, 3) := by decide +kernel
theorem d_Fo_weighed_16 : decode b_Fo_weighed 16 = .ok (.iload 5, 2) := by decide +kernel
theorem d_Fo_weighed_18 : decode b_Fo_weighed 18 = .ok (.iaload, 1) := by decide +kernel
theorem d_Fo_weighed_19 : decode b_Fo_weighed 19 = .ok (.i2l, 1) := by decide +kernel
theorem d_Fo_weighed_20 : decode b_Fo_weighed 20 = .ok (.aload_n 1, 1) := by decide +kernel
theorem d_Fo_weighed_21 : decode b_Fo_weighed 21 = .ok (.iload 5, 2) := by decide +kernel
theorem d_Fo_weighed_23 : decode b_Fo_weighed 23 = .ok (.aaload, 1) := by decide +kernel
theorem d_Fo_weighed_24 : decode b_Fo_weighed 24 = .ok (.iload_n 2, 1) := by decide +kernel
theorem d_Fo_weighed_25 : decode b_Fo_weighed 25 = .ok (.iaload, 1) := by decide +kernel
theorem d_Fo_weighed_26 : decode b_Fo_weighed 26 = .ok (.i2l, 1) := by decide +kernel
theorem d_Fo_weighed_27 : decode b_Fo_weighed 27 = .ok (.lmul, 1) := by decide +kernel
theorem d_Fo_weighed_28 : decode b_Fo_weighed 28 = .ok (.ladd, 1) := by decide +kernel
theorem d_Fo_weighed_29 : decode b_Fo_weighed 29 = .ok (.lstore_n 3, 1) := by decide +kernel
theorem d_Fo_weighed_30 : decode b_Fo_weighed 30 = .ok (.iinc 5 1, 3) := by decide +kernel
theorem d_Fo_weighed_33 : decode b_Fo_weighed 33 = .ok (.goto (-28), 3) := by decide +kernel
theorem d_Fo_weighed_36 : decode b_Fo_weighed 36 = .ok (.lload_n 3, 1) := by decide +kernel
theorem d_Fo_weighed_37 : decode b_Fo_weighed 37 = .ok (.ldc2_w 344, 3) := by decide +kernel
theorem d_Fo_weighed_40 : decode b_Fo_weighed 40 = .ok (.invokestatic 346, 3) := by decide +kernel
theorem d_Fo_weighed_43 : decode b_Fo_weighed 43 = .ok (.l2i, 1) := by decide +kernel
theorem d_Fo_weighed_44 : decode b_Fo_weighed 44 = .ok (.ireturn, 1) := by decide +kernel
theorem d_Fo_mixed_0 : decode b_Fo_mixed 0 = .ok (.aload_n 0, 1) := by decide +kernel
theorem d_Fo_mixed_1 : decode b_Fo_mixed 1 = .ok (.iload_n 1, 1) := by decide +kernel
theorem d_Fo_mixed_2 : decode b_Fo_mixed 2 = .ok (.invokevirtual 99, 3) := by decide +kernel
theorem d_Fo_mixed_5 : decode b_Fo_mixed 5 = .ok (.astore 4, 2) := by decide +kernel
theorem d_Fo_mixed_7 : decode b_Fo_mixed 7 = .ok (.aload 4, 2) := by decide +kernel
theorem d_Fo_mixed_9 : decode b_Fo_mixed 9 = .ok (.ifnull 15, 3) := by decide +kernel
theorem d_Fo_mixed_12 : decode b_Fo_mixed 12 = .ok (.aload 4, 2) := by decide +kernel
theorem d_Fo_mixed_14 : decode b_Fo_mixed 14 = .ok (.getfield 106, 3) := by decide +kernel
theorem d_Fo_mixed_17 : decode b_Fo_mixed 17 = .ok (.iload_n 2, 1) := by decide +kernel
theorem d_Fo_mixed_18 : decode b_Fo_mixed 18 = .ok (.invokevirtual 136, 3) := by decide +kernel
theorem d_Fo_mixed_21 : decode b_Fo_mixed 21 = .ok (.ifCond .ne 6, 3) := by decide +kernel
theorem d_Fo_mixed_24 : decode b_Fo_mixed 24 = .ok (.ldc 200, 2) := by decide +kernel
theorem d_Fo_mixed_26 : decode b_Fo_mixed 26 = .ok (.ireturn, 1) := by decide +kernel
theorem d_Fo_mixed_27 : decode b_Fo_mixed 27 = .ok (.aload 4, 2) := by decide +kernel
theorem d_Fo_mixed_29 : decode b_Fo_mixed 29 = .ok (.getfield 106, 3) := by decide +kernel
theorem d_Fo_mixed_32 : decode b_Fo_mixed 32 = .ok (.astore 5, 2) := by decide +kernel
theorem d_Fo_mixed_34 : decode b_Fo_mixed 34 = .ok (.iload_n 3, 1) := by decide +kernel
theorem d_Fo_mixed_35 : decode b_Fo_mixed 35 = .ok (.lookupswitch 63 #[(0, 25), (1, 44)], 25) := by decide +kernel
theorem d_Fo_mixed_60 : decode b_Fo_mixed 60 = .ok (.aload 5, 2) := by decide +kernel
theorem d_Fo_mixed_62 : decode b_Fo_mixed 62 = .ok (.getfield 139, 3) := by decide +kernel
theorem d_Fo_mixed_65 : decode b_Fo_mixed 65 = .ok (.iload_n 2, 1) := by decide +kernel
theorem d_Fo_mixed_66 : decode b_Fo_mixed 66 = .ok (.iaload, 1) := by decide +kernel
theorem d_Fo_mixed_67 : decode b_Fo_mixed 67 = .ok (.aload_n 0, 1) := by decide +kernel
theorem d_Fo_mixed_68 : decode b_Fo_mixed 68 = .ok (.aload 5, 2) := by decide +kernel
theorem d_Fo_mixed_70 : decode b_Fo_mixed 70 = .ok (.getfield 290, 3) := by decide +kernel
theorem d_Fo_mixed_73 : decode b_Fo_mixed 73 = .ok (.iload_n 2, 1) := by decide +kernel
theorem d_Fo_mixed_74 : decode b_Fo_mixed 74 = .ok (.invokevirtual 296, 3) := by decide +kernel
theorem d_Fo_mixed_77 : decode b_Fo_mixed 77 = .ok (.iadd, 1) := by decide +kernel
theorem d_Fo_mixed_78 : decode b_Fo_mixed 78 = .ok (.ireturn, 1) := by decide +kernel
theorem d_Fo_mixed_79 : decode b_Fo_mixed 79 = .ok (.aload 5, 2) := by decide +kernel
theorem d_Fo_mixed_81 : decode b_Fo_mixed 81 = .ok (.getfield 142, 3) := by decide +kernel
theorem d_Fo_mixed_84 : decode b_Fo_mixed 84 = .ok (.iload_n 2, 1) := by decide +kernel
theorem d_Fo_mixed_85 : decode b_Fo_mixed 85 = .ok (.iaload, 1) := by decide +kernel
theorem d_Fo_mixed_86 : decode b_Fo_mixed 86 = .ok (.aload_n 0, 1) := by decide +kernel
theorem d_Fo_mixed_87 : decode b_Fo_mixed 87 = .ok (.aload 5, 2) := by decide +kernel
theorem d_Fo_mixed_89 : decode b_Fo_mixed 89 = .ok (.getfield 293, 3) := by decide +kernel
theorem d_Fo_mixed_92 : decode b_Fo_mixed 92 = .ok (.iload_n 2, 1) := by decide +kernel
theorem d_Fo_mixed_93 : decode b_Fo_mixed 93 = .ok (.invokevirtual 296, 3) := by decide +kernel
theorem d_Fo_mixed_96 : decode b_Fo_mixed 96 = .ok (.iadd, 1) := by decide +kernel
theorem d_Fo_mixed_97 : decode b_Fo_mixed 97 = .ok (.ireturn, 1) := by decide +kernel
theorem d_Fo_mixed_98 : decode b_Fo_mixed 98 = .ok (.ldc 200, 2) := by decide +kernel
theorem d_Fo_mixed_100 : decode b_Fo_mixed 100 = .ok (.ireturn, 1) := by decide +kernel
theorem d_Fo_isClass_0 : decode b_Fo_isClass 0 = .ok (.iload_n 0, 1) := by decide +kernel
theorem d_Fo_isClass_1 : decode b_Fo_isClass 1 = .ok (.i2l, 1) := by decide +kernel
theorem d_Fo_isClass_2 : decode b_Fo_isClass 2 = .ok (.lconst 0, 1) := by decide +kernel
theorem d_Fo_isClass_3 : decode b_Fo_isClass 3 = .ok (.ldc2_w 362, 3) := by decide +kernel
theorem d_Fo_isClass_6 : decode b_Fo_isClass 6 = .ok (.invokestatic 84, 3) := by decide +kernel
theorem d_Fo_isClass_9 : decode b_Fo_isClass 9 = .ok (.ireturn, 1) := by decide +kernel
theorem d_Fo_classOf_0 : decode b_Fo_classOf 0 = .ok (.aload_n 0, 1) := by decide +kernel
theorem d_Fo_classOf_1 : decode b_Fo_classOf 1 = .ok (.iload_n 1, 1) := by decide +kernel
theorem d_Fo_classOf_2 : decode b_Fo_classOf 2 = .ok (.invokevirtual 99, 3) := by decide +kernel
theorem d_Fo_classOf_5 : decode b_Fo_classOf 5 = .ok (.astore 4, 2) := by decide +kernel
theorem d_Fo_classOf_7 : decode b_Fo_classOf 7 = .ok (.aload 4, 2) := by decide +kernel
theorem d_Fo_classOf_9 : decode b_Fo_classOf 9 = .ok (.ifnull 20, 3) := by decide +kernel
theorem d_Fo_classOf_12 : decode b_Fo_classOf 12 = .ok (.iload_n 2, 1) := by decide +kernel
theorem d_Fo_classOf_13 : decode b_Fo_classOf 13 = .ok (.i2l, 1) := by decide +kernel
theorem d_Fo_classOf_14 : decode b_Fo_classOf 14 = .ok (.lconst 0, 1) := by decide +kernel
theorem d_Fo_classOf_15 : decode b_Fo_classOf 15 = .ok (.lconst 1, 1) := by decide +kernel
theorem d_Fo_classOf_16 : decode b_Fo_classOf 16 = .ok (.invokestatic 84, 3) := by decide +kernel
theorem d_Fo_classOf_19 : decode b_Fo_classOf 19 = .ok (.ifCond .eq 10, 3) := by decide +kernel
theorem d_Fo_classOf_22 : decode b_Fo_classOf 22 = .ok (.iload_n 3, 1) := by decide +kernel
theorem d_Fo_classOf_23 : decode b_Fo_classOf 23 = .ok (.invokestatic 300, 3) := by decide +kernel
theorem d_Fo_classOf_26 : decode b_Fo_classOf 26 = .ok (.ifCond .ne 5, 3) := by decide +kernel
theorem d_Fo_classOf_29 : decode b_Fo_classOf 29 = .ok (.iconst 0, 1) := by decide +kernel
theorem d_Fo_classOf_30 : decode b_Fo_classOf 30 = .ok (.ireturn, 1) := by decide +kernel
theorem d_Fo_classOf_31 : decode b_Fo_classOf 31 = .ok (.iload_n 2, 1) := by decide +kernel
theorem d_Fo_classOf_32 : decode b_Fo_classOf 32 = .ok (.ifCond .ne 12, 3) := by decide +kernel
theorem d_Fo_classOf_35 : decode b_Fo_classOf 35 = .ok (.aload 4, 2) := by decide +kernel
theorem d_Fo_classOf_37 : decode b_Fo_classOf 37 = .ok (.iload_n 3, 1) := by decide +kernel
theorem d_Fo_classOf_38 : decode b_Fo_classOf 38 = .ok (.putfield 303, 3) := by decide +kernel
theorem d_Fo_classOf_41 : decode b_Fo_classOf 41 = .ok (.goto 9, 3) := by decide +kernel
theorem d_Fo_classOf_44 : decode b_Fo_classOf 44 = .ok (.aload 4, 2) := by decide +kernel
theorem d_Fo_classOf_46 : decode b_Fo_classOf 46 = .ok (.iload_n 3, 1) := by decide +kernel
theorem d_Fo_classOf_47 : decode b_Fo_classOf 47 = .ok (.putfield 306, 3) := by decide +kernel
theorem d_Fo_classOf_50 : decode b_Fo_classOf 50 = .ok (.iconst 1, 1) := by decide +kernel
theorem d_Fo_classOf_51 : decode b_Fo_classOf 51 = .ok (.ireturn, 1) := by decide +kernel
theorem d_Fo_kern_0 : decode b_Fo_kern 0 = .ok (.iload_n 1, 1) := by decide +kernel
theorem d_Fo_kern_1 : decode b_Fo_kern 1 = .ok (.invokestatic 300, 3) := by decide +kernel
theorem d_Fo_kern_4 : decode b_Fo_kern 4 = .ok (.ifCond .eq 17, 3) := by decide +kernel
theorem d_Fo_kern_7 : decode b_Fo_kern 7 = .ok (.iload_n 2, 1) := by decide +kernel
theorem d_Fo_kern_8 : decode b_Fo_kern 8 = .ok (.invokestatic 300, 3) := by decide +kernel
theorem d_Fo_kern_11 : decode b_Fo_kern 11 = .ok (.ifCond .eq 10, 3) := by decide +kernel
theorem d_Fo_kern_14 : decode b_Fo_kern 14 = .ok (.iload_n 3, 1) := by decide +kernel
theorem d_Fo_kern_15 : decode b_Fo_kern 15 = .ok (.invokestatic 287, 3) := by decide +kernel
theorem d_Fo_kern_18 : decode b_Fo_kern 18 = .ok (.ifCond .ne 5, 3) := by decide +kernel
theorem d_Fo_kern_21 : decode b_Fo_kern 21 = .ok (.iconst 0, 1) := by decide +kernel
theorem d_Fo_kern_22 : decode b_Fo_kern 22 = .ok (.ireturn, 1) := by decide +kernel
theorem d_Fo_kern_23 : decode b_Fo_kern 23 = .ok (.aload_n 0, 1) := by decide +kernel
theorem d_Fo_kern_24 : decode b_Fo_kern 24 = .ok (.getfield 67, 3) := by decide +kernel
theorem d_Fo_kern_27 : decode b_Fo_kern 27 = .ok (.getfield 309, 3) := by decide +kernel
theorem d_Fo_kern_30 : decode b_Fo_kern 30 = .ok (.iload_n 1, 1) := by decide +kernel
theorem d_Fo_kern_31 : decode b_Fo_kern 31 = .ok (.aaload, 1) := by decide +kernel
theorem d_Fo_kern_32 : decode b_Fo_kern 32 = .ok (.iload_n 2, 1) := by decide +kernel
theorem d_Fo_kern_33 : decode b_Fo_kern 33 = .ok (.iload_n 3, 1) := by decide +kernel
theorem d_Fo_kern_34 : decode b_Fo_kern 34 = .ok (.iastore, 1) := by decide +kernel
theorem d_Fo_kern_35 : decode b_Fo_kern 35 = .ok (.iconst 1, 1) := by decide +kernel
theorem d_Fo_kern_36 : decode b_Fo_kern 36 = .ok (.ireturn, 1) := by decide +kernel
theorem d_Fo_exception_0 : decode b_Fo_exception 0 = .ok (.aload_n 0, 1) := by decide +kernel
theorem d_Fo_exception_1 : decode b_Fo_exception 1 = .ok (.iload_n 1, 1) := by decide +kernel
theorem d_Fo_exception_2 : decode b_Fo_exception 2 = .ok (.invokevirtual 99, 3) := by decide +kernel
theorem d_Fo_exception_5 : decode b_Fo_exception 5 = .ok (.ifnull 11, 3) := by decide +kernel
theorem d_Fo_exception_8 : decode b_Fo_exception 8 = .ok (.aload_n 0, 1) := by decide +kernel
theorem d_Fo_exception_9 : decode b_Fo_exception 9 = .ok (.iload_n 2, 1) := by decide +kernel
theorem d_Fo_exception_10 : decode b_Fo_exception 10 = .ok (.invokevirtual 99, 3) := by decide +kernel
theorem d_Fo_exception_13 : decode b_Fo_exception 13 = .ok (.ifnonnull 5, 3) := by decide +kernel
theorem d_Fo_exception_16 : decode b_Fo_exception 16 = .ok (.iconst 0, 1) := by decide +kernel
theorem d_Fo_exception_17 : decode b_Fo_exception 17 = .ok (.ireturn, 1) := by decide +kernel
theorem d_Fo_exception_18 : decode b_Fo_exception 18 = .ok (.iload_n 3, 1) := by decide +kernel
theorem d_Fo_exception_19 : decode b_Fo_exception 19 = .ok (.invokestatic 287, 3) := by decide +kernel
theorem d_Fo_exception_22 : decode b_Fo_exception 22 = .ok (.ifCond .ne 12, 3) := by decide +kernel
theorem d_Fo_exception_25 : decode b_Fo_exception 25 = .ok (.iload_n 3, 1) := by decide +kernel
theorem d_Fo_exception_26 : decode b_Fo_exception 26 = .ok (.sipush 10000, 3) := by decide +kernel
theorem d_Fo_exception_29 : decode b_Fo_exception 29 = .ok (.if_icmp .eq 5, 3) := by decide +kernel
theorem d_Fo_exception_32 : decode b_Fo_exception 32 = .ok (.iconst 0, 1) := by decide +kernel
theorem d_Fo_exception_33 : decode b_Fo_exception 33 = .ok (.ireturn, 1) := by decide +kernel
theorem d_Fo_exception_34 : decode b_Fo_exception 34 = .ok (.aload_n 0, 1) := by decide +kernel
theorem d_Fo_exception_35 : decode b_Fo_exception 35 = .ok (.getfield 67, 3) := by decide +kernel
theorem d_Fo_exception_38 : decode b_Fo_exception 38 = .ok (.getfield 312, 3) := by decide +kernel
theorem d_Fo_exception_41 : decode b_Fo_exception 41 = .ok (.iload_n 1, 1) := by decide +kernel
theorem d_Fo_exception_42 : decode b_Fo_exception 42 = .ok (.aaload, 1) := by decide +kernel
theorem d_Fo_exception_43 : decode b_Fo_exception 43 = .ok (.iload_n 2, 1) := by decide +kernel
theorem d_Fo_exception_44 : decode b_Fo_exception 44 = .ok (.iload_n 3, 1) := by decide +kernel
theorem d_Fo_exception_45 : decode b_Fo_exception 45 = .ok (.iastore, 1) := by decide +kernel
theorem d_Fo_exception_46 : decode b_Fo_exception 46 = .ok (.iconst 1, 1) := by decide +kernel
theorem d_Fo_exception_47 : decode b_Fo_exception 47 = .ok (.ireturn, 1) := by decide +kernel
theorem d_Ke_between_0 : decode b_Ke_between 0 = .ok (.iload_n 2, 1) := by decide +kernel
theorem d_Ke_between_1 : decode b_Ke_between 1 = .ok (.i2l, 1) := by decide +kernel
theorem d_Ke_between_2 : decode b_Ke_between 2 = .ok (.lconst 0, 1) := by decide +kernel
theorem d_Ke_between_3 : decode b_Ke_between 3 = .ok (.aload_n 1, 1) := by decide +kernel
theorem d_Ke_between_4 : decode b_Ke_between 4 = .ok (.arraylength, 1) := by decide +kernel
theorem d_Ke_between_5 : decode b_Ke_between 5 = .ok (.iconst 1, 1) := by decide +kernel
theorem d_Ke_between_6 : decode b_Ke_between 6 = .ok (.isub, 1) := by decide +kernel
theorem d_Ke_between_7 : decode b_Ke_between 7 = .ok (.i2l, 1) := by decide +kernel
theorem d_Ke_between_8 : decode b_Ke_between 8 = .ok (.invokestatic 25, 3) := by decide +kernel
theorem d_Ke_between_11 : decode b_Ke_between 11 = .ok (.ifCond .eq 17, 3) := by decide +kernel
theorem d_Ke_between_14 : decode b_Ke_between 14 = .ok (.iload_n 3, 1) := by decide +kernel
theorem d_Ke_between_15 : decode b_Ke_between 15 = .ok (.i2l, 1) := by decide +kernel
theorem d_Ke_between_16 : decode b_Ke_between 16 = .ok (.lconst 0, 1) := by decide +kernel
theorem d_Ke_between_17 : decode b_Ke_between 17 = .ok (.aload_n 1, 1) := by decide +kernel
theorem d_Ke_between_18 : decode b_Ke_between 18 = .ok (.arraylength, 1) := by decide +kernel
theorem d_Ke_between_19 : decode b_Ke_between 19 = .ok (.iconst 1, 1) := by decide +kernel
theorem d_Ke_between_20 : decode b_Ke_between 20 = .ok (.isub, 1) := by decide +kernel
theorem d_Ke_between_21 : decode b_Ke_between 21 = .ok (.i2l, 1) := by decide +kernel
theorem d_Ke_between_22 : decode b_Ke_between 22 = .ok (.invokestatic 25, 3) := by decide +kernel
theorem d_Ke_between_25 : decode b_Ke_between 25 = .ok (.ifCond .ne 5, 3) := by decide +kernel
theorem d_Ke_between_28 : decode b_Ke_between 28 = .ok (.iconst 0, 1) := by decide +kernel
theorem d_Ke_between_29 : decode b_Ke_between 29 = .ok (.ireturn, 1) := by decide +kernel
theorem d_Ke_between_30 : decode b_Ke_between 30 = .ok (.aload_n 1, 1) := by decide +kernel
theorem d_Ke_between_31 : decode b_Ke_between 31 = .ok (.iload_n 2, 1) := by decide +kernel
theorem d_Ke_between_32 : decode b_Ke_between 32 = .ok (.aaload, 1) := by decide +kernel
theorem d_Ke_between_33 : decode b_Ke_between 33 = .ok (.astore 4, 2) := by decide +kernel
theorem d_Ke_between_35 : decode b_Ke_between 35 = .ok (.aload_n 1, 1) := by decide +kernel
theorem d_Ke_between_36 : decode b_Ke_between 36 = .ok (.iload_n 3, 1) := by decide +kernel
theorem d_Ke_between_37 : decode b_Ke_between 37 = .ok (.aaload, 1) := by decide +kernel
theorem d_Ke_between_38 : decode b_Ke_between 38 = .ok (.astore 5, 2) := by decide +kernel
theorem d_Ke_between_40 : decode b_Ke_between 40 = .ok (.aload 4, 2) := by decide +kernel
theorem d_Ke_between_42 : decode b_Ke_between 42 = .ok (.ifnull 8, 3) := by decide +kernel
theorem d_Ke_between_45 : decode b_Ke_between 45 = .ok (.aload 5, 2) := by decide +kernel
theorem d_Ke_between_47 : decode b_Ke_between 47 = .ok (.ifnonnull 5, 3) := by decide +kernel
theorem d_Ke_between_50 : decode b_Ke_between 50 = .ok (.iconst 0, 1) := by decide +kernel
theorem d_Ke_between_51 : decode b_Ke_between 51 = .ok (.ireturn, 1) := by decide +kernel
theorem d_Ke_between_52 : decode b_Ke_between 52 = .ok (.aload_n 0, 1) := by decide +kernel
theorem d_Ke_between_53 : decode b_Ke_between 53 = .ok (.getfield 16, 3) := by decide +kernel
theorem d_Ke_between_56 : decode b_Ke_between 56 = .ok (.iload_n 2, 1) := by decide +kernel
theorem d_Ke_between_57 : decode b_Ke_between 57 = .ok (.aaload, 1) := by decide +kernel
theorem d_Ke_between_58 : decode b_Ke_between 58 = .ok (.iload_n 3, 1) := by decide +kernel
theorem d_Ke_between_59 : decode b_Ke_between 59 = .ok (.iaload, 1) := by decide +kernel
theorem d_Ke_between_60 : decode b_Ke_between 60 = .ok (.istore 6, 2) := by decide +kernel
theorem d_Ke_between_62 : decode b_Ke_between 62 = .ok (.iload 6, 2) := by decide +kernel
theorem d_Ke_between_64 : decode b_Ke_between 64 = .ok (.sipush 10000, 3) := by decide +kernel
theorem d_Ke_between_67 : decode b_Ke_between 67 = .ok (.if_icmp .eq 8, 3) := by decide +kernel
theorem d_Ke_between_70 : decode b_Ke_between 70 = .ok (.iload 6, 2) := by decide +kernel
theorem d_Ke_between_72 : decode b_Ke_between 72 = .ok (.goto 19, 3) := by decide +kernel
theorem d_Ke_between_75 : decode b_Ke_between 75 = .ok (.aload_n 0, 1) := by decide +kernel
theorem d_Ke_between_76 : decode b_Ke_between 76 = .ok (.getfield 11, 3) := by decide +kernel
theorem d_Ke_between_79 : decode b_Ke_between 79 = .ok (.aload 4, 2) := by decide +kernel
theorem d_Ke_between_81 : decode b_Ke_between 81 = .ok (.getfield 29, 3) := by decide +kernel
theorem d_Ke_between_84 : decode b_Ke_between 84 = .ok (.aaload, 1) := by decide +kernel
theorem d_Ke_between_85 : decode b_Ke_between 85 = .ok (.aload 5, 2) := by decide +kernel
theorem d_Ke_between_87 : decode b_Ke_between 87 = .ok (.getfield 35, 3) := by decide +kernel
theorem d_Ke_between_90 : decode b_Ke_between 90 = .ok (.iaload, 1) := by decide +kernel
theorem d_Ke_between_91 : decode b_Ke_between 91 = .ok (.ireturn, 1) := by decide +kernel
theorem d_Fo_kerning_0 : decode b_Fo_kerning 0 = .ok (.aload_n 0, 1) := by decide +kernel
theorem d_Fo_kerning_1 : decode b_Fo_kerning 1 = .ok (.getfield 67, 3) := by decide +kernel
theorem d_Fo_kerning_4 : decode b_Fo_kerning 4 = .ok (.aload_n 0, 1) := by decide +kernel
theorem d_Fo_kerning_5 : decode b_Fo_kerning 5 = .ok (.getfield 11, 3) := by decide +kernel
theorem d_Fo_kerning_8 : decode b_Fo_kerning 8 = .ok (.iload_n 1, 1) := by decide +kernel
theorem d_Fo_kerning_9 : decode b_Fo_kerning 9 = .ok (.iload_n 2, 1) := by decide +kernel
theorem d_Fo_kerning_10 : decode b_Fo_kerning 10 = .ok (.invokevirtual 315, 3) := by decide +kernel
theorem d_Fo_kerning_13 : decode b_Fo_kerning 13 = .ok (.ireturn, 1) := by decide +kernel
theorem d_Li_addRule_0 : decode b_Li_addRule 0 = .ok (.aload_n 0, 1) := by decide +kernel
theorem d_Li_addRule_1 : decode b_Li_addRule 1 = .ok (.getfield 32, 3) := by decide +kernel
theorem d_Li_addRule_4 : decode b_Li_addRule 4 = .ok (.bipush 40, 2) := by decide +kernel
theorem d_Li_addRule_6 : decode b_Li_addRule 6 = .ok (.if_icmp .lt 5, 3) := by decide +kernel
theorem d_Li_addRule_9 : decode b_Li_addRule 9 = .ok (.iconst (-1), 1) := by decide +kernel
theorem d_Li_addRule_10 : decode b_Li_addRule 10 = .ok (.ireturn, 1) := by decide +kernel
theorem d_Li_addRule_11 : decode b_Li_addRule 11 = .ok (.aload_n 0, 1) := by decide +kernel
theorem d_Li_addRule_12 : decode b_Li_addRule 12 = .ok (.getfield 13, 3) := by decide +kernel
theorem d_Li_addRule_15 : decode b_Li_addRule 15 = .ok (.iconst 0, 1) := by decide +kernel
theorem d_Li_addRule_16 : decode b_Li_addRule 16 = .ok (.aaload, 1) := by decide +kernel
theorem d_Li_addRule_17 : decode b_Li_addRule 17 = .ok (.aload_n 0, 1) := by decide +kernel
theorem d_Li_addRule_18 : decode b_Li_addRule 18 = .ok (.getfield 32, 3) := by decide +kernel
theorem d_Li_addRule_21 : decode b_Li_addRule 21 = .ok (.iload_n 1, 1) := by decide +kernel
theorem d_Li_addRule_22 : decode b_Li_addRule 22 = .ok (.iastore, 1) := by decide +kernel
theorem d_Li_addRule_23 : decode b_Li_addRule 23 = .ok (.aload_n 0, 1) := by decide +kernel
theorem d_Li_addRule_24 : decode b_Li_addRule 24 = .ok (.getfield 13, 3) := by decide +kernel
theorem d_Li_addRule_27 : decode b_Li_addRule 27 = .ok (.iconst 1, 1) := by decide +kernel
theorem d_Li_addRule_28 : decode b_Li_addRule 28 = .ok (.aaload, 1) := by decide +kernel
theorem d_Li_addRule_29 : decode b_Li_addRule 29 = .ok (.aload_n 0, 1) := by decide +kernel
theorem d_Li_addRule_30 : decode b_Li_addRule 30 = .ok (.getfield 32, 3) := by decide +kernel
theorem d_Li_addRule_33 : decode b_Li_addRule 33 = .ok (.iload_n 2, 1) := by decide +kernel
theorem d_Li_addRule_34 : decode b_Li_addRule 34 = .ok (.iastore, 1) := by decide +kernel
theorem d_Li_addRule_35 : decode b_Li_addRule 35 = .ok (.aload_n 0, 1) := by decide +kernel
theorem d_Li_addRule_36 : decode b_Li_addRule 36 = .ok (.getfield 13, 3) := by decide +kernel
theorem d_Li_addRule_39 : decode b_Li_addRule 39 = .ok (.iconst 2, 1) := by decide +kernel
theorem d_Li_addRule_40 : decode b_Li_addRule 40 = .ok (.aaload, 1) := by decide +kernel
theorem d_Li_addRule_41 : decode b_Li_addRule 41 = .ok (.aload_n 0, 1) := by decide +kernel
theorem d_Li_addRule_42 : decode b_Li_addRule 42 = .ok (.getfield 32, 3) := by decide +kernel
theorem d_Li_addRule_45 : decode b_Li_addRule 45 = .ok (.iload_n 3, 1) := by decide +kernel
theorem d_Li_addRule_46 : decode b_Li_addRule 46 = .ok (.iastore, 1) := by decide +kernel
theorem d_Li_addRule_47 : decode b_Li_addRule 47 = .ok (.aload_n 0, 1) := by decide +kernel
theorem d_Li_addRule_48 : decode b_Li_addRule 48 = .ok (.getfield 16, 3) := by decide +kernel
theorem d_Li_addRule_51 : decode b_Li_addRule 51 = .ok (.aload_n 0, 1) := by decide +kernel
theorem d_Li_addRule_52 : decode b_Li_addRule 52 = .ok (.getfield 32, 3) := by decide +kernel
theorem d_Li_addRule_55 : decode b_Li_addRule 55 = .ok (.iload 4, 2) := by decide +kernel
theorem d_Li_addRule_57 : decode b_Li_addRule 57 = .ok (.iastore, 1) := by decide +kernel
theorem d_Li_addRule_58 : decode b_Li_addRule 58 = .ok (.aload_n 0, 1) := by decide +kernel
theorem d_Li_addRule_59 : decode b_Li_addRule 59 = .ok (.dup, 1) := by decide +kernel
theorem d_Li_addRule_60 : decode b_Li_addRule 60 = .ok (.getfield 32, 3) := by decide +kernel
theorem d_Li_addRule_63 : decode b_Li_addRule 63 = .ok (.iconst 1, 1) := by decide +kernel
theorem d_Li_addRule_64 : decode b_Li_addRule 64 = .ok (.iadd, 1) := by decide +kernel
theorem d_Li_addRule_65 : decode b_Li_addRule 65 = .ok (.putfield 32, 3) := by decide +kernel
theorem d_Li_addRule_68 : decode b_Li_addRule 68 = .ok (.aload_n 0, 1) := by decide +kernel
theorem d_Li_addRule_69 : decode b_Li_addRule 69 = .ok (.getfield 32, 3) := by decide +kernel
theorem d_Li_addRule_72 : decode b_Li_addRule 72 = .ok (.ireturn, 1) := by decide +kernel
theorem d_Fo_join_0 : decode b_Fo_join 0 = .ok (.iload_n 1, 1) := by decide +kernel
theorem d_Fo_join_1 : decode b_Fo_join 1 = .ok (.invokestatic 78, 3) := by decide +kernel
theorem d_Fo_join_4 : decode b_Fo_join 4 = .ok (.ifCond .eq 30, 3) := by decide +kernel
theorem d_Fo_join_7 : decode b_Fo_join 7 = .ok (.iload_n 2, 1) := by decide +kernel
theorem d_Fo_join_8 : decode b_Fo_join 8 = .ok (.invokestatic 78, 3) := by decide +kernel
theorem d_Fo_join_11 : decode b_Fo_join 11 = .ok (.ifCond .eq 23, 3) := by decide +kernel
theorem d_Fo_join_14 : decode b_Fo_join 14 = .ok (.iload 4, 2) := by decide +kernel
theorem d_Fo_join_16 : decode b_Fo_join 16 = .ok (.invokestatic 78, 3) := by decide +kernel
theorem d_Fo_join_19 : decode b_Fo_join 19 = .ok (.ifCond .eq 15, 3) := by decide +kernel
theorem d_Fo_join_22 : decode b_Fo_join 22 = .ok (.iload_n 3, 1) := by decide +kernel
theorem d_Fo_join_23 : decode b_Fo_join 23 = .ok (.invokestatic 78, 3) := by decide +kernel
theorem d_Fo_join_26 : decode b_Fo_join 26 = .ok (.ifCond .ne 10, 3) := by decide +kernel
theorem d_Fo_join_29 : decode b_Fo_join 29 = .ok (.iload_n 3, 1) := by decide +kernel
theorem d_Fo_join_30 : decode b_Fo_join 30 = .ok (.iconst (-1), 1) := by decide +kernel
theorem d_Fo_join_31 : decode b_Fo_join 31 = .ok (.if_icmp .eq 5, 3) := by decide +kernel
theorem d_Fo_join_34 : decode b_Fo_join 34 = .ok (.iconst (-1), 1) := by decide +kernel
theorem d_Fo_join_35 : decode b_Fo_join 35 = .ok (.ireturn, 1) := by decide +kernel
theorem d_Fo_join_36 : decode b_Fo_join 36 = .ok (.aload_n 0, 1) := by decide +kernel
theorem d_Fo_join_37 : decode b_Fo_join 37 = .ok (.getfield 74, 3) := by decide +kernel
theorem d_Fo_join_40 : decode b_Fo_join 40 = .ok (.iload_n 1, 1) := by decide +kernel
theorem d_Fo_join_41 : decode b_Fo_join 41 = .ok (.iload_n 2, 1) := by decide +kernel
theorem d_Fo_join_42 : decode b_Fo_join 42 = .ok (.iload_n 3, 1) := by decide +kernel
theorem d_Fo_join_43 : decode b_Fo_join 43 = .ok (.iload 4, 2) := by decide +kernel
theorem d_Fo_join_45 : decode b_Fo_join 45 = .ok (.invokevirtual 318, 3) := by decide +kernel
theorem d_Fo_join_48 : decode b_Fo_join 48 = .ok (.ireturn, 1) := by decide +kernel
theorem d_Li_addSign_0 : decode b_Li_addSign 0 = .ok (.aload_n 0, 1) := by decide +kernel
theorem d_Li_addSign_1 : decode b_Li_addSign 1 = .ok (.getfield 36, 3) := by decide +kernel
theorem d_Li_addSign_4 : decode b_Li_addSign 4 = .ok (.bipush 60, 2) := by decide +kernel
theorem d_Li_addSign_6 : decode b_Li_addSign 6 = .ok (.if_icmp .lt 5, 3) := by decide +kernel
theorem d_Li_addSign_9 : decode b_Li_addSign 9 = .ok (.iconst (-1), 1) := by decide +kernel
theorem d_Li_addSign_10 : decode b_Li_addSign 10 = .ok (.ireturn, 1) := by decide +kernel
theorem d_Li_addSign_11 : decode b_Li_addSign 11 = .ok (.aload_n 0, 1) := by decide +kernel
theorem d_Li_addSign_12 : decode b_Li_addSign 12 = .ok (.getfield 20, 3) := by decide +kernel
theorem d_Li_addSign_15 : decode b_Li_addSign 15 = .ok (.aload_n 0, 1) := by decide +kernel
theorem d_Li_addSign_16 : decode b_Li_addSign 16 = .ok (.getfield 36, 3) := by decide +kernel
theorem d_Li_addSign_19 : decode b_Li_addSign 19 = .ok (.iload_n 1, 1) := by decide +kernel
theorem d_Li_addSign_20 : decode b_Li_addSign 20 = .ok (.iastore, 1) := by decide +kernel
theorem d_Li_addSign_21 : decode b_Li_addSign 21 = .ok (.aload_n 0, 1) := by decide +kernel
theorem d_Li_addSign_22 : decode b_Li_addSign 22 = .ok (.dup, 1) := by decide +kernel
theorem d_Li_addSign_23 : decode b_Li_addSign 23 = .ok (.getfield 36, 3) := by decide +kernel
theorem d_Li_addSign_26 : decode b_Li_addSign 26 = .ok (.iconst 1, 1) := by decide +kernel
theorem d_Li_addSign_27 : decode b_Li_addSign 27 = .ok (.iadd, 1) := by decide +kernel
theorem d_Li_addSign_28 : decode b_Li_addSign 28 = .ok (.putfield 36, 3) := by decide +kernel
theorem d_Li_addSign_31 : decode b_Li_addSign 31 = .ok (.aload_n 0, 1) := by decide +kernel
theorem d_Li_addSign_32 : decode b_Li_addSign 32 = .ok (.getfield 36, 3) := by decide +kernel
theorem d_Li_addSign_35 : decode b_Li_addSign 35 = .ok (.ireturn, 1) := by decide +kernel
theorem d_Fo_sign_0 : decode b_Fo_sign 0 = .ok (.iload_n 1, 1) := by decide +kernel
theorem d_Fo_sign_1 : decode b_Fo_sign 1 = .ok (.invokestatic 78, 3) := by decide +kernel
theorem d_Fo_sign_4 : decode b_Fo_sign 4 = .ok (.ifCond .eq 14, 3) := by decide +kernel
theorem d_Fo_sign_7 : decode b_Fo_sign 7 = .ok (.aload_n 0, 1) := by decide +kernel
theorem d_Fo_sign_8 : decode b_Fo_sign 8 = .ok (.getfield 74, 3) := by decide +kernel
theorem d_Fo_sign_11 : decode b_Fo_sign 11 = .ok (.iload_n 1, 1) := by decide +kernel
theorem d_Fo_sign_12 : decode b_Fo_sign 12 = .ok (.invokevirtual 322, 3) := by decide +kernel
theorem d_Fo_sign_15 : decode b_Fo_sign 15 = .ok (.goto 4, 3) := by decide +kernel
theorem d_Fo_sign_18 : decode b_Fo_sign 18 = .ok (.iconst (-1), 1) := by decide +kernel
theorem d_Fo_sign_19 : decode b_Fo_sign 19 = .ok (.ireturn, 1) := by decide +kernel
theorem d_Li_place_0 : decode b_Li_place 0 = .ok (.aload_n 0, 1) := by decide +kernel
theorem d_Li_place_1 : decode b_Li_place 1 = .ok (.getfield 39, 3) := by decide +kernel
theorem d_Li_place_4 : decode b_Li_place 4 = .ok (.bipush 60, 2) := by decide +kernel
theorem d_Li_place_6 : decode b_Li_place 6 = .ok (.if_icmp .ge 9, 3) := by decide +kernel
theorem d_Li_place_9 : decode b_Li_place 9 = .ok (.aload_n 1, 1) := by decide +kernel
theorem d_Li_place_10 : decode b_Li_place 10 = .ok (.iload_n 2, 1) := by decide +kernel
theorem d_Li_place_11 : decode b_Li_place 11 = .ok (.aaload, 1) := by decide +kernel
theorem d_Li_place_12 : decode b_Li_place 12 = .ok (.ifnonnull 4, 3) := by decide +kernel
theorem d_Li_place_15 : decode b_Li_place 15 = .ok (.return_, 1) := by decide +kernel
theorem d_Li_place_16 : decode b_Li_place 16 = .ok (.aload_n 0, 1) := by decide +kernel
theorem d_Li_place_17 : decode b_Li_place 17 = .ok (.getfield 42, 3) := by decide +kernel
theorem d_Li_place_20 : decode b_Li_place 20 = .ok (.istore 5, 2) := by decide +kernel
theorem d_Li_place_22 : decode b_Li_place 22 = .ok (.aload_n 0, 1) := by decide +kernel
theorem d_Li_place_23 : decode b_Li_place 23 = .ok (.getfield 39, 3) := by decide +kernel
theorem d_Li_place_26 : decode b_Li_place 26 = .ok (.ifCond .le 26, 3) := by decide +kernel
theorem d_Li_place_29 : decode b_Li_place 29 = .ok (.iload 5, 2) := by decide +kernel
theorem d_Li_place_31 : decode b_Li_place 31 = .ok (.aload 4, 2) := by decide +kernel
theorem d_Li_place_33 : decode b_Li_place 33 = .ok (.aload_n 1, 1) := by decide +kernel
theorem d_Li_place_34 : decode b_Li_place 34 = .ok (.aload_n 0, 1) := by decide +kernel
theorem d_Li_place_35 : decode b_Li_place 35 = .ok (.getfield 23, 3) := by decide +kernel
theorem d_Li_place_38 : decode b_Li_place 38 = .ok (.aload_n 0, 1) := by decide +kernel
theorem d_Li_place_39 : decode b_Li_place 39 = .ok (.getfield 39, 3) := by decide +kernel
theorem d_Li_place_42 : decode b_Li_place 42 = .ok (.iconst 1, 1) := by decide +kernel
theorem d_Li_place_43 : decode b_Li_place 43 = .ok (.isub, 1) := by decide +kernel
theorem d_Li_place_44 : decode b_Li_place 44 = .ok (.iaload, 1) := by decide +kernel
theorem d_Li_place_45 : decode b_Li_place 45 = .ok (.iload_n 2, 1) := by decide +kernel
theorem d_Li_place_46 : decode b_Li_place 46 = .ok (.invokevirtual 60, 3) := by decide +kernel
theorem d_Li_place_49 : decode b_Li_place 49 = .ok (.iadd, 1) := by decide +kernel
theorem d_Li_place_50 : decode b_Li_place 50 = .ok (.istore 5, 2) := by decide +kernel
theorem d_Li_place_52 : decode b_Li_place 52 = .ok (.aload_n 0, 1) := by decide +kernel
theorem d_Li_place_53 : decode b_Li_place 53 = .ok (.getfield 23, 3) := by decide +kernel
theorem d_Li_place_56 : decode b_Li_place 56 = .ok (.aload_n 0, 1) := by decide +kernel
theorem d_Li_place_57 : decode b_Li_place 57 = .ok (.getfield 39, 3) := by decide +kernel
theorem d_Li_place_60 : decode b_Li_place 60 = .ok (.iload_n 2, 1) := by decide +kernel
theorem d_Li_place_61 : decode b_Li_place 61 = .ok (.iastore, 1) := by decide +kernel
theorem d_Li_place_62 : decode b_Li_place 62 = .ok (.aload_n 0, 1) := by decide +kernel
theorem d_Li_place_63 : decode b_Li_place 63 = .ok (.getfield 26, 3) := by decide +kernel
theorem d_Li_place_66 : decode b_Li_place 66 = .ok (.aload_n 0, 1) := by decide +kernel
theorem d_Li_place_67 : decode b_Li_place 67 = .ok (.getfield 39, 3) := by decide +kernel
theorem d_Li_place_70 : decode b_Li_place 70 = .ok (.iload 5, 2) := by decide +kernel
theorem d_Li_place_72 : decode b_Li_place 72 = .ok (.iastore, 1) := by decide +kernel
theorem d_Li_place_73 : decode b_Li_place 73 = .ok (.aload_n 0, 1) := by decide +kernel
theorem d_Li_place_74 : decode b_Li_place 74 = .ok (.getfield 29, 3) := by decide +kernel
theorem d_Li_place_77 : decode b_Li_place 77 = .ok (.aload_n 0, 1) := by decide +kernel
theorem d_Li_place_78 : decode b_Li_place 78 = .ok (.getfield 39, 3) := by decide +kernel
theorem d_Li_place_81 : decode b_Li_place 81 = .ok (.iload_n 3, 1) := by decide +kernel
theorem d_Li_place_82 : decode b_Li_place 82 = .ok (.iastore, 1) := by decide +kernel
theorem d_Li_place_83 : decode b_Li_place 83 = .ok (.aload_n 0, 1) := by decide +kernel
theorem d_Li_place_84 : decode b_Li_place 84 = .ok (.dup, 1) := by decide +kernel
theorem d_Li_place_85 : decode b_Li_place 85 = .ok (.getfield 39, 3) := by decide +kernel
theorem d_Li_place_88 : decode b_Li_place 88 = .ok (.iconst 1, 1) := by decide +kernel
theorem d_Li_place_89 : decode b_Li_place 89 = .ok (.iadd, 1) := by decide +kernel
theorem d_Li_place_90 : decode b_Li_place 90 = .ok (.putfield 39, 3) := by decide +kernel
theorem d_Li_place_93 : decode b_Li_place 93 = .ok (.aload_n 0, 1) := by decide +kernel
theorem d_Li_place_94 : decode b_Li_place 94 = .ok (.iload 5, 2) := by decide +kernel
theorem d_Li_place_96 : decode b_Li_place 96 = .ok (.aload_n 1, 1) := by decide +kernel
theorem d_Li_place_97 : decode b_Li_place 97 = .ok (.iload_n 2, 1) := by decide +kernel
theorem d_Li_place_98 : decode b_Li_place 98 = .ok (.aaload, 1) := by decide +kernel
theorem d_Li_place_99 : decode b_Li_place 99 = .ok (.getfield 65, 3) := by decide +kernel
theorem d_Li_place_102 : decode b_Li_place 102 = .ok (.iadd, 1) := by decide +kernel
theorem d_Li_place_103 : decode b_Li_place 103 = .ok (.putfield 42, 3) := by decide +kernel
theorem d_Li_place_106 : decode b_Li_place 106 = .ok (.return_, 1) := by decide +kernel
theorem d_Li_sizeOf_0 : decode b_Li_sizeOf 0 = .ok (.aload_n 0, 1) := by decide +kernel
theorem d_Li_sizeOf_1 : decode b_Li_sizeOf 1 = .ok (.getfield 13, 3) := by decide +kernel
theorem d_Li_sizeOf_4 : decode b_Li_sizeOf 4 = .ok (.iconst 2, 1) := by decide +kernel
theorem d_Li_sizeOf_5 : decode b_Li_sizeOf 5 = .ok (.aaload, 1) := by decide +kernel
theorem d_Li_sizeOf_6 : decode b_Li_sizeOf 6 = .ok (.iload_n 1, 1) := by decide +kernel
theorem d_Li_sizeOf_7 : decode b_Li_sizeOf 7 = .ok (.iaload, 1) := by decide +kernel
theorem d_Li_sizeOf_8 : decode b_Li_sizeOf 8 = .ok (.iconst (-1), 1) := by decide +kernel
theorem d_Li_sizeOf_9 : decode b_Li_sizeOf 9 = .ok (.if_icmp .ne 7, 3) := by decide +kernel
theorem d_Li_sizeOf_12 : decode b_Li_sizeOf 12 = .ok (.iconst 2, 1) := by decide +kernel
theorem d_Li_sizeOf_13 : decode b_Li_sizeOf 13 = .ok (.goto 4, 3) := by decide +kernel
theorem d_Li_sizeOf_16 : decode b_Li_sizeOf 16 = .ok (.iconst 3, 1) := by decide +kernel
theorem d_Li_sizeOf_17 : decode b_Li_sizeOf 17 = .ok (.ireturn, 1) := by decide +kernel
theorem d_Li_fitsAt_0 : decode b_Li_fitsAt 0 = .ok (.aload_n 0, 1) := by decide +kernel
theorem d_Li_fitsAt_1 : decode b_Li_fitsAt 1 = .ok (.iload_n 1, 1) := by decide +kernel
theorem d_Li_fitsAt_2 : decode b_Li_fitsAt 2 = .ok (.invokevirtual 57, 3) := by decide +kernel
theorem d_Li_fitsAt_5 : decode b_Li_fitsAt 5 = .ok (.istore_n 3, 1) := by decide +kernel
theorem d_Li_fitsAt_6 : decode b_Li_fitsAt 6 = .ok (.iload_n 2, 1) := by decide +kernel
theorem d_Li_fitsAt_7 : decode b_Li_fitsAt 7 = .ok (.iload_n 3, 1) := by decide +kernel
theorem d_Li_fitsAt_8 : decode b_Li_fitsAt 8 = .ok (.iadd, 1) := by decide +kernel
theorem d_Li_fitsAt_9 : decode b_Li_fitsAt 9 = .ok (.aload_n 0, 1) := by decide +kernel
theorem d_Li_fitsAt_10 : decode b_Li_fitsAt 10 = .ok (.getfield 36, 3) := by decide +kernel
theorem d_Li_fitsAt_13 : decode b_Li_fitsAt 13 = .ok (.if_icmp .le 5, 3) := by decide +kernel
theorem d_Li_fitsAt_16 : decode b_Li_fitsAt 16 = .ok (.iconst 0, 1) := by decide +kernel
theorem d_Li_fitsAt_17 : decode b_Li_fitsAt 17 = .ok (.ireturn, 1) := by decide +kernel
theorem d_Li_fitsAt_18 : decode b_Li_fitsAt 18 = .ok (.iconst 0, 1) := by decide +kernel
theorem d_Li_fitsAt_19 : decode b_Li_fitsAt 19 = .ok (.istore 4, 2) := by decide +kernel
theorem d_Li_fitsAt_21 : decode b_Li_fitsAt 21 = .ok (.iload 4, 2) := by decide +kernel
theorem d_Li_fitsAt_23 : decode b_Li_fitsAt 23 = .ok (.iload_n 3, 1) := by decide +kernel
theorem d_Li_fitsAt_24 : decode b_Li_fitsAt 24 = .ok (.if_icmp .ge 32, 3) := by decide +kernel
theorem d_Li_fitsAt_27 : decode b_Li_fitsAt 27 = .ok (.aload_n 0, 1) := by decide +kernel
theorem d_Li_fitsAt_28 : decode b_Li_fitsAt 28 = .ok (.getfield 13, 3) := by decide +kernel
theorem d_Li_fitsAt_31 : decode b_Li_fitsAt 31 = .ok (.iload 4, 2) := by decide +kernel
theorem d_Li_fitsAt_33 : decode b_Li_fitsAt 33 = .ok (.aaload, 1) := by decide +kernel
theorem d_Li_fitsAt_34 : decode b_Li_fitsAt 34 = .ok (.iload_n 1, 1) := by decide +kernel
theorem d_Li_fitsAt_35 : decode b_Li_fitsAt 35 = .ok (.iaload, 1) := by decide +kernel
theorem d_Li_fitsAt_36 : decode b_Li_fitsAt 36 = .ok (.aload_n 0, 1) := by decide +kernel
theorem d_Li_fitsAt_37 : decode b_Li_fitsAt 37 = .ok (.getfield 20, 3) := by decide +kernel
theorem d_Li_fitsAt_40 : decode b_Li_fitsAt 40 = .ok (.iload_n 2, 1) := by decide +kernel
theorem d_Li_fitsAt_41 : decode b_Li_fitsAt 41 = .ok (.iload 4, 2) := by decide +kernel
theorem d_Li_fitsAt_43 : decode b_Li_fitsAt 43 = .ok (.iadd, 1) := by decide +kernel
theorem d_Li_fitsAt_44 : decode b_Li_fitsAt 44 = .ok (.iaload, 1) := by decide +kernel
theorem d_Li_fitsAt_45 : decode b_Li_fitsAt 45 = .ok (.if_icmp .eq 5, 3) := by decide +kernel
theorem d_Li_fitsAt_48 : decode b_Li_fitsAt 48 = .ok (.iconst 0, 1) := by decide +kernel
theorem d_Li_fitsAt_49 : decode b_Li_fitsAt 49 = .ok (.ireturn, 1) := by decide +kernel
theorem d_Li_fitsAt_50 : decode b_Li_fitsAt 50 = .ok (.iinc 4 1, 3) := by decide +kernel
theorem d_Li_fitsAt_53 : decode b_Li_fitsAt 53 = .ok (.goto (-32), 3) := by decide +kernel
theorem d_Li_fitsAt_56 : decode b_Li_fitsAt 56 = .ok (.iconst 1, 1) := by decide +kernel
theorem d_Li_fitsAt_57 : decode b_Li_fitsAt 57 = .ok (.ireturn, 1) := by decide +kernel
theorem d_Li_ruleAt_0 : decode b_Li_ruleAt 0 = .ok (.iconst (-1), 1) := by decide +kernel
theorem d_Li_ruleAt_1 : decode b_Li_ruleAt 1 = .ok (.istore_n 2, 1) := by decide +kernel
theorem d_Li_ruleAt_2 : decode b_Li_ruleAt 2 = .ok (.iconst 0, 1) := by decide +kernel
theorem d_Li_ruleAt_3 : decode b_Li_ruleAt 3 = .ok (.istore_n 3, 1) := by decide +kernel
theorem d_Li_ruleAt_4 : decode b_Li_ruleAt 4 = .ok (.iload_n 3, 1) := by decide +kernel
theorem d_Li_ruleAt_5 : decode b_Li_ruleAt 5 = .ok (.aload_n 0, 1) := by decide +kernel
theorem d_Li_ruleAt_6 : decode b_Li_ruleAt 6 = .ok (.getfield 32, 3) := by decide +kernel
theorem d_Li_ruleAt_9 : decode b_Li_ruleAt 9 = .ok (.if_icmp .ge 50, 3) := by decide +kernel
theorem d_Li_ruleAt_12 : decode b_Li_ruleAt 12 = .ok (.iload_n 2, 1) := by decide +kernel
theorem d_Li_ruleAt_13 : decode b_Li_ruleAt 13 = .ok (.iconst (-1), 1) := by decide +kernel
theorem d_Li_ruleAt_14 : decode b_Li_ruleAt 14 = .ok (.if_icmp .eq 16, 3) := by decide +kernel
theorem d_Li_ruleAt_17 : decode b_Li_ruleAt 17 = .ok (.aload_n 0, 1) := by decide +kernel
theorem d_Li_ruleAt_18 : decode b_Li_ruleAt 18 = .ok (.iload_n 3, 1) := by decide +kernel
theorem d_Li_ruleAt_19 : decode b_Li_ruleAt 19 = .ok (.invokevirtual 57, 3) := by decide +kernel
theorem d_Li_ruleAt_22 : decode b_Li_ruleAt 22 = .ok (.aload_n 0, 1) := by decide +kernel
theorem d_Li_ruleAt_23 : decode b_Li_ruleAt 23 = .ok (.iload_n 2, 1) := by decide +kernel
theorem d_Li_ruleAt_24 : decode b_Li_ruleAt 24 = .ok (.invokevirtual 57, 3) := by decide +kernel
theorem d_Li_ruleAt_27 : decode b_Li_ruleAt 27 = .ok (.if_icmp .le 7, 3) := by decide +kernel
theorem d_Li_ruleAt_30 : decode b_Li_ruleAt 30 = .ok (.iconst 1, 1) := by decide +kernel
theorem d_Li_ruleAt_31 : decode b_Li_ruleAt 31 = .ok (.goto 4, 3) := by decide +kernel
theorem d_Li_ruleAt_34 : decode b_Li_ruleAt 34 = .ok (.iconst 0, 1) := by decide +kernel
theorem d_Li_ruleAt_35 : decode b_Li_ruleAt 35 = .ok (.istore 4, 2) := by decide +kernel
theorem d_Li_ruleAt_37 : decode b_Li_ruleAt 37 = .ok (.iload 4, 2) := by decide +kernel
theorem d_Li_ruleAt_39 : decode b_Li_ruleAt 39 = .ok (.ifCond .eq 14, 3) := by decide +kernel
theorem d_Li_ruleAt_42 : decode b_Li_ruleAt 42 = .ok (.aload_n 0, 1) := by decide +kernel
theorem d_Li_ruleAt_43 : decode b_Li_ruleAt 43 = .ok (.iload_n 3, 1) := by decide +kernel
theorem d_Li_ruleAt_44 : decode b_Li_ruleAt 44 = .ok (.iload_n 1, 1) := by decide +kernel
theorem d_Li_ruleAt_45 : decode b_Li_ruleAt 45 = .ok (.invokevirtual 70, 3) := by decide +kernel
theorem d_Li_ruleAt_48 : decode b_Li_ruleAt 48 = .ok (.ifCond .eq 5, 3) := by decide +kernel
theorem d_Li_ruleAt_51 : decode b_Li_ruleAt 51 = .ok (.iload_n 3, 1) := by decide +kernel
theorem d_Li_ruleAt_52 : decode b_Li_ruleAt 52 = .ok (.istore_n 2, 1) := by decide +kernel
theorem d_Li_ruleAt_53 : decode b_Li_ruleAt 53 = .ok (.iinc 3 1, 3) := by decide +kernel
theorem d_Li_ruleAt_56 : decode b_Li_ruleAt 56 = .ok (.goto (-52), 3) := by decide +kernel
theorem d_Li_ruleAt_59 : decode b_Li_ruleAt 59 = .ok (.iload_n 2, 1) := by decide +kernel
theorem d_Li_ruleAt_60 : decode b_Li_ruleAt 60 = .ok (.ireturn, 1) := by decide +kernel
theorem d_Li_compose_0 : decode b_Li_compose 0 = .ok (.aload_n 0, 1) := by decide +kernel
theorem d_Li_compose_1 : decode b_Li_compose 1 = .ok (.iconst 0, 1) := by decide +kernel
theorem d_Li_compose_2 : decode b_Li_compose 2 = .ok (.putfield 39, 3) := by decide +kernel
theorem d_Li_compose_5 : decode b_Li_compose 5 = .ok (.aload_n 0, 1) := by decide +kernel
theorem d_Li_compose_6 : decode b_Li_compose 6 = .ok (.iconst 0, 1) := by decide +kernel
theorem d_Li_compose_7 : decode b_Li_compose 7 = .ok (.putfield 42, 3) := by decide +kernel
theorem d_Li_compose_10 : decode b_Li_compose 10 = .ok (.iconst 0, 1) := by decide +kernel
theorem d_Li_compose_11 : decode b_Li_compose 11 = .ok (.istore 4, 2) := by decide +kernel
theorem d_Li_compose_13 : decode b_Li_compose 13 = .ok (.iload 4, 2) := by decide +kernel
theorem d_Li_compose_15 : decode b_Li_compose 15 = .ok (.aload_n 0, 1) := by decide +kernel
theorem d_Li_compose_16 : decode b_Li_compose 16 = .ok (.getfield 36, 3) := by decide +kernel
theorem d_Li_compose_19 : decode b_Li_compose 19 = .ok (.if_icmp .ge 99, 3) := by decide +kernel
theorem d_Li_compose_22 : decode b_Li_compose 22 = .ok (.aload_n 0, 1) := by decide +kernel
theorem d_Li_compose_23 : decode b_Li_compose 23 = .ok (.iload 4, 2) := by decide +kernel
theorem d_Li_compose_25 : decode b_Li_compose 25 = .ok (.invokevirtual 45, 3) := by decide +kernel
theorem d_Li_compose_28 : decode b_Li_compose 28 = .ok (.istore 5, 2) := by decide +kernel
theorem d_Li_compose_30 : decode b_Li_compose 30 = .ok (.iload 5, 2) := by decide +kernel
theorem d_Li_compose_32 : decode b_Li_compose 32 = .ok (.iconst (-1), 1) := by decide +kernel
theorem d_Li_compose_33 : decode b_Li_compose 33 = .ok (.if_icmp .ne 13, 3) := by decide +kernel
theorem d_Li_compose_36 : decode b_Li_compose 36 = .ok (.aload_n 0, 1) := by decide +kernel
theorem d_Li_compose_37 : decode b_Li_compose 37 = .ok (.getfield 20, 3) := by decide +kernel
theorem d_Li_compose_40 : decode b_Li_compose 40 = .ok (.iload 4, 2) := by decide +kernel
theorem d_Li_compose_42 : decode b_Li_compose 42 = .ok (.iaload, 1) := by decide +kernel
theorem d_Li_compose_43 : decode b_Li_compose 43 = .ok (.goto 10, 3) := by decide +kernel
theorem d_Li_compose_46 : decode b_Li_compose 46 = .ok (.aload_n 0, 1) := by decide +kernel
theorem d_Li_compose_47 : decode b_Li_compose 47 = .ok (.getfield 16, 3) := by decide +kernel
theorem d_Li_compose_50 : decode b_Li_compose 50 = .ok (.iload 5, 2) := by decide +kernel
theorem d_Li_compose_52 : decode b_Li_compose 52 = .ok (.iaload, 1) := by decide +kernel
theorem d_Li_compose_53 : decode b_Li_compose 53 = .ok (.istore 6, 2) := by decide +kernel
theorem d_Li_compose_55 : decode b_Li_compose 55 = .ok (.aload_n 1, 1) := by decide +kernel
theorem d_Li_compose_56 : decode b_Li_compose 56 = .ok (.iload_n 2, 1) := by decide +kernel
theorem d_Li_compose_57 : decode b_Li_compose 57 = .ok (.iload 6, 2) := by decide +kernel
theorem d_Li_compose_59 : decode b_Li_compose 59 = .ok (.invokestatic 49, 3) := by decide +kernel
theorem d_Li_compose_62 : decode b_Li_compose 62 = .ok (.istore 7, 2) := by decide +kernel
theorem d_Li_compose_64 : decode b_Li_compose 64 = .ok (.iload 7, 2) := by decide +kernel
theorem d_Li_compose_66 : decode b_Li_compose 66 = .ok (.iconst (-1), 1) := by decide +kernel
theorem d_Li_compose_67 : decode b_Li_compose 67 = .ok (.if_icmp .ne 11, 3) := by decide +kernel
theorem d_Li_compose_70 : decode b_Li_compose 70 = .ok (.aload_n 1, 1) := by decide +kernel
theorem d_Li_compose_71 : decode b_Li_compose 71 = .ok (.iload_n 2, 1) := by decide +kernel
theorem d_Li_compose_72 : decode b_Li_compose 72 = .ok (.iconst 0, 1) := by decide +kernel
theorem d_Li_compose_73 : decode b_Li_compose 73 = .ok (.invokestatic 49, 3) := by decide +kernel
theorem d_Li_compose_76 : decode b_Li_compose 76 = .ok (.istore 7, 2) := by decide +kernel
theorem d_Li_compose_78 : decode b_Li_compose 78 = .ok (.iload 7, 2) := by decide +kernel
theorem d_Li_compose_80 : decode b_Li_compose 80 = .ok (.iconst (-1), 1) := by decide +kernel
theorem d_Li_compose_81 : decode b_Li_compose 81 = .ok (.if_icmp .eq 13, 3) := by decide +kernel
theorem d_Li_compose_84 : decode b_Li_compose 84 = .ok (.aload_n 0, 1) := by decide +kernel
theorem d_Li_compose_85 : decode b_Li_compose 85 = .ok (.aload_n 1, 1) := by decide +kernel
theorem d_Li_compose_86 : decode b_Li_compose 86 = .ok (.iload 7, 2) := by decide +kernel
theorem d_Li_compose_88 : decode b_Li_compose 88 = .ok (.iload 4, 2) := by decide +kernel
theorem d_Li_compose_90 : decode b_Li_compose 90 = .ok (.aload_n 3, 1) := by decide +kernel
theorem d_Li_compose_91 : decode b_Li_compose 91 = .ok (.invokevirtual 53, 3) := by decide +kernel
theorem d_Li_compose_94 : decode b_Li_compose 94 = .ok (.iload 4, 2) := by decide +kernel
theorem d_Li_compose_96 : decode b_Li_compose 96 = .ok (.iload 5, 2) := by decide +kernel
theorem d_Li_compose_98 : decode b_Li_compose 98 = .ok (.iconst (-1), 1) := by decide +kernel
theorem d_Li_compose_99 : decode b_Li_compose 99 = .ok (.if_icmp .ne 7, 3) := by decide +kernel
theorem d_Li_compose_102 : decode b_Li_compose 102 = .ok (.iconst 1, 1) := by decide +kernel
theorem d_Li_compose_103 : decode b_Li_compose 103 = .ok (.goto 9, 3) := by decide +kernel
theorem d_Li_compose_106 : decode b_Li_compose 106 = .ok (.aload_n 0, 1) := by decide +kernel
theorem d_Li_compose_107 : decode b_Li_compose 107 = .ok (.iload 5, 2) := by decide +kernel
theorem d_Li_compose_109 : decode b_Li_compose 109 = .ok (.invokevirtual 57, 3) := by decide +kernel
theorem d_Li_compose_112 : decode b_Li_compose 112 = .ok (.iadd, 1) := by decide +kernel
theorem d_Li_compose_113 : decode b_Li_compose 113 = .ok (.istore 4, 2) := by decide +kernel
theorem d_Li_compose_115 : decode b_Li_compose 115 = .ok (.goto (-102), 3) := by decide +kernel
theorem d_Li_compose_118 : decode b_Li_compose 118 = .ok (.aload_n 0, 1) := by decide +kernel
theorem d_Li_compose_119 : decode b_Li_compose 119 = .ok (.iconst 0, 1) := by decide +kernel
theorem d_Li_compose_120 : decode b_Li_compose 120 = .ok (.putfield 36, 3) := by decide +kernel
theorem d_Li_compose_123 : decode b_Li_compose 123 = .ok (.return_, 1) := by decide +kernel
theorem d_Fo_set_0 : decode b_Fo_set 0 = .ok (.aload_n 0, 1) := by decide +kernel
theorem d_Fo_set_1 : decode b_Fo_set 1 = .ok (.getfield 74, 3) := by decide +kernel
theorem d_Fo_set_4 : decode b_Fo_set 4 = .ok (.aload_n 0, 1) := by decide +kernel
theorem d_Fo_set_5 : decode b_Fo_set 5 = .ok (.getfield 11, 3) := by decide +kernel
theorem d_Fo_set_8 : decode b_Fo_set 8 = .ok (.aload_n 0, 1) := by decide +kernel
theorem d_Fo_set_9 : decode b_Fo_set 9 = .ok (.getfield 15, 3) := by decide +kernel
theorem d_Fo_set_12 : decode b_Fo_set 12 = .ok (.aload_n 0, 1) := by decide +kernel
theorem d_Fo_set_13 : decode b_Fo_set 13 = .ok (.getfield 67, 3) := by decide +kernel
theorem d_Fo_set_16 : decode b_Fo_set 16 = .ok (.invokevirtual 325, 3) := by decide +kernel
theorem d_Fo_set_19 : decode b_Fo_set 19 = .ok (.aload_n 0, 1) := by decide +kernel
theorem d_Fo_set_20 : decode b_Fo_set 20 = .ok (.getfield 74, 3) := by decide +kernel
theorem d_Fo_set_23 : decode b_Fo_set 23 = .ok (.getfield 329, 3) := by decide +kernel
theorem d_Fo_set_26 : decode b_Fo_set 26 = .ok (.ireturn, 1) := by decide +kernel
theorem d_Fo_placed_0 : decode b_Fo_placed 0 = .ok (.iload_n 1, 1) := by decide +kernel
theorem d_Fo_placed_1 : decode b_Fo_placed 1 = .ok (.i2l, 1) := by decide +kernel
theorem d_Fo_placed_2 : decode b_Fo_placed 2 = .ok (.lconst 0, 1) := by decide +kernel
theorem d_Fo_placed_3 : decode b_Fo_placed 3 = .ok (.aload_n 0, 1) := by decide +kernel
theorem d_Fo_placed_4 : decode b_Fo_placed 4 = .ok (.getfield 74, 3) := by decide +kernel
theorem d_Fo_placed_7 : decode b_Fo_placed 7 = .ok (.getfield 329, 3) := by decide +kernel
theorem d_Fo_placed_10 : decode b_Fo_placed 10 = .ok (.iconst 1, 1) := by decide +kernel
theorem d_Fo_placed_11 : decode b_Fo_placed 11 = .ok (.isub, 1) := by decide +kernel
theorem d_Fo_placed_12 : decode b_Fo_placed 12 = .ok (.i2l, 1) := by decide +kernel
theorem d_Fo_placed_13 : decode b_Fo_placed 13 = .ok (.invokestatic 84, 3) := by decide +kernel
theorem d_Fo_placed_16 : decode b_Fo_placed 16 = .ok (.ifCond .ne 6, 3) := by decide +kernel
theorem d_Fo_placed_19 : decode b_Fo_placed 19 = .ok (.ldc 215, 2) := by decide +kernel
theorem d_Fo_placed_21 : decode b_Fo_placed 21 = .ok (.ireturn, 1) := by decide +kernel
theorem d_Fo_placed_22 : decode b_Fo_placed 22 = .ok (.iload_n 2, 1) := by decide +kernel
theorem d_Fo_placed_23 : decode b_Fo_placed 23 = .ok (.tableswitch 55 0 2 #[25, 35, 45], 25) := by decide +kernel
theorem d_Fo_placed_48 : decode b_Fo_placed 48 = .ok (.aload_n 0, 1) := by decide +kernel
theorem d_Fo_placed_49 : decode b_Fo_placed 49 = .ok (.getfield 74, 3) := by decide +kernel
theorem d_Fo_placed_52 : decode b_Fo_placed 52 = .ok (.getfield 332, 3) := by decide +kernel
theorem d_Fo_placed_55 : decode b_Fo_placed 55 = .ok (.iload_n 1, 1) := by decide +kernel
theorem d_Fo_placed_56 : decode b_Fo_placed 56 = .ok (.iaload, 1) := by decide +kernel
theorem d_Fo_placed_57 : decode b_Fo_placed 57 = .ok (.ireturn, 1) := by decide +kernel
theorem d_Fo_placed_58 : decode b_Fo_placed 58 = .ok (.aload_n 0, 1) := by decide +kernel
theorem d_Fo_placed_59 : decode b_Fo_placed 59 = .ok (.getfield 74, 3) := by decide +kernel
theorem d_Fo_placed_62 : decode b_Fo_placed 62 = .ok (.getfield 335, 3) := by decide +kernel
theorem d_Fo_placed_65 : decode b_Fo_placed 65 = .ok (.iload_n 1, 1) := by decide +kernel
theorem d_Fo_placed_66 : decode b_Fo_placed 66 = .ok (.iaload, 1) := by decide +kernel
theorem d_Fo_placed_67 : decode b_Fo_placed 67 = .ok (.ireturn, 1) := by decide +kernel
theorem d_Fo_placed_68 : decode b_Fo_placed 68 = .ok (.aload_n 0, 1) := by decide +kernel
theorem d_Fo_placed_69 : decode b_Fo_placed 69 = .ok (.getfield 74, 3) := by decide +kernel
theorem d_Fo_placed_72 : decode b_Fo_placed 72 = .ok (.getfield 338, 3) := by decide +kernel
theorem d_Fo_placed_75 : decode b_Fo_placed 75 = .ok (.iload_n 1, 1) := by decide +kernel
theorem d_Fo_placed_76 : decode b_Fo_placed 76 = .ok (.iaload, 1) := by decide +kernel
theorem d_Fo_placed_77 : decode b_Fo_placed 77 = .ok (.ireturn, 1) := by decide +kernel
theorem d_Fo_placed_78 : decode b_Fo_placed 78 = .ok (.ldc 215, 2) := by decide +kernel
theorem d_Fo_placed_80 : decode b_Fo_placed 80 = .ok (.ireturn, 1) := by decide +kernel
theorem d_Fo_length_0 : decode b_Fo_length 0 = .ok (.aload_n 0, 1) := by decide +kernel
theorem d_Fo_length_1 : decode b_Fo_length 1 = .ok (.getfield 74, 3) := by decide +kernel
theorem d_Fo_length_4 : decode b_Fo_length 4 = .ok (.getfield 341, 3) := by decide +kernel
theorem d_Fo_length_7 : decode b_Fo_length 7 = .ok (.ireturn, 1) := by decide +kernel
theorem d_Mo_init_0 : decode b_Mo_init 0 = .ok (.aload_n 0, 1) := by decide +kernel
theorem d_Mo_init_1 : decode b_Mo_init 1 = .ok (.invokespecial 1, 3) := by decide +kernel
theorem d_Mo_init_4 : decode b_Mo_init 4 = .ok (.aload_n 0, 1) := by decide +kernel
theorem d_Mo_init_5 : decode b_Mo_init 5 = .ok (.bipush 32, 2) := by decide +kernel
theorem d_Mo_init_7 : decode b_Mo_init 7 = .ok (.newarray .int, 2) := by decide +kernel
theorem d_Mo_init_9 : decode b_Mo_init 9 = .ok (.putfield 7, 3) := by decide +kernel
theorem d_Mo_init_12 : decode b_Mo_init 12 = .ok (.aload_n 0, 1) := by decide +kernel
theorem d_Mo_init_13 : decode b_Mo_init 13 = .ok (.bipush 32, 2) := by decide +kernel
theorem d_Mo_init_15 : decode b_Mo_init 15 = .ok (.newarray .int, 2) := by decide +kernel
theorem d_Mo_init_17 : decode b_Mo_init 17 = .ok (.putfield 13, 3) := by decide +kernel
theorem d_Mo_init_20 : decode b_Mo_init 20 = .ok (.aload_n 0, 1) := by decide +kernel
theorem d_Mo_init_21 : decode b_Mo_init 21 = .ok (.bipush 32, 2) := by decide +kernel
theorem d_Mo_init_23 : decode b_Mo_init 23 = .ok (.newarray .int, 2) := by decide +kernel
theorem d_Mo_init_25 : decode b_Mo_init 25 = .ok (.putfield 16, 3) := by decide +kernel
theorem d_Mo_init_28 : decode b_Mo_init 28 = .ok (.aload_n 0, 1) := by decide +kernel
theorem d_Mo_init_29 : decode b_Mo_init 29 = .ok (.bipush 32, 2) := by decide +kernel
theorem d_Mo_init_31 : decode b_Mo_init 31 = .ok (.newarray .boolean, 2) := by decide +kernel
theorem d_Mo_init_33 : decode b_Mo_init 33 = .ok (.putfield 19, 3) := by decide +kernel
theorem d_Mo_init_36 : decode b_Mo_init 36 = .ok (.aload_n 0, 1) := by decide +kernel
theorem d_Mo_init_37 : decode b_Mo_init 37 = .ok (.bipush 32, 2) := by decide +kernel
theorem d_Mo_init_39 : decode b_Mo_init 39 = .ok (.newarray .int, 2) := by decide +kernel
theorem d_Mo_init_41 : decode b_Mo_init 41 = .ok (.putfield 23, 3) := by decide +kernel
theorem d_Mo_init_44 : decode b_Mo_init 44 = .ok (.aload_n 0, 1) := by decide +kernel
theorem d_Mo_init_45 : decode b_Mo_init 45 = .ok (.sipush 256, 3) := by decide +kernel
theorem d_Mo_init_48 : decode b_Mo_init 48 = .ok (.newarray .int, 2) := by decide +kernel
theorem d_Mo_init_50 : decode b_Mo_init 50 = .ok (.putfield 26, 3) := by decide +kernel
theorem d_Mo_init_53 : decode b_Mo_init 53 = .ok (.aload_n 0, 1) := by decide +kernel
theorem d_Mo_init_54 : decode b_Mo_init 54 = .ok (.sipush 3200, 3) := by decide +kernel
theorem d_Mo_init_57 : decode b_Mo_init 57 = .ok (.newarray .int, 2) := by decide +kernel
theorem d_Mo_init_59 : decode b_Mo_init 59 = .ok (.putfield 29, 3) := by decide +kernel
theorem d_Mo_init_62 : decode b_Mo_init 62 = .ok (.aload_n 0, 1) := by decide +kernel
theorem d_Mo_init_63 : decode b_Mo_init 63 = .ok (.sipush 3200, 3) := by decide +kernel
theorem d_Mo_init_66 : decode b_Mo_init 66 = .ok (.newarray .int, 2) := by decide +kernel
theorem d_Mo_init_68 : decode b_Mo_init 68 = .ok (.putfield 32, 3) := by decide +kernel
theorem d_Mo_init_71 : decode b_Mo_init 71 = .ok (.aload_n 0, 1) := by decide +kernel
theorem d_Mo_init_72 : decode b_Mo_init 72 = .ok (.sipush 3200, 3) := by decide +kernel
theorem d_Mo_init_75 : decode b_Mo_init 75 = .ok (.newarray .int, 2) := by decide +kernel
theorem d_Mo_init_77 : decode b_Mo_init 77 = .ok (.putfield 35, 3) := by decide +kernel
theorem d_Mo_init_80 : decode b_Mo_init 80 = .ok (.aload_n 0, 1) := by decide +kernel
theorem d_Mo_init_81 : decode b_Mo_init 81 = .ok (.sipush 9600, 3) := by decide +kernel
theorem d_Mo_init_84 : decode b_Mo_init 84 = .ok (.newarray .int, 2) := by decide +kernel
theorem d_Mo_init_86 : decode b_Mo_init 86 = .ok (.putfield 38, 3) := by decide +kernel
theorem d_Mo_init_89 : decode b_Mo_init 89 = .ok (.aload_n 0, 1) := by decide +kernel
theorem d_Mo_init_90 : decode b_Mo_init 90 = .ok (.sipush 9600, 3) := by decide +kernel
theorem d_Mo_init_93 : decode b_Mo_init 93 = .ok (.newarray .int, 2) := by decide +kernel
theorem d_Mo_init_95 : decode b_Mo_init 95 = .ok (.putfield 41, 3) := by decide +kernel
theorem d_Mo_init_98 : decode b_Mo_init 98 = .ok (.aload_n 0, 1) := by decide +kernel
theorem d_Mo_init_99 : decode b_Mo_init 99 = .ok (.bipush 32, 2) := by decide +kernel
theorem d_Mo_init_101 : decode b_Mo_init 101 = .ok (.newarray .int, 2) := by decide +kernel
theorem d_Mo_init_103 : decode b_Mo_init 103 = .ok (.putfield 44, 3) := by decide +kernel
theorem d_Mo_init_106 : decode b_Mo_init 106 = .ok (.aload_n 0, 1) := by decide +kernel
theorem d_Mo_init_107 : decode b_Mo_init 107 = .ok (.sipush 192, 3) := by decide +kernel
theorem d_Mo_init_110 : decode b_Mo_init 110 = .ok (.newarray .int, 2) := by decide +kernel
theorem d_Mo_init_112 : decode b_Mo_init 112 = .ok (.putfield 47, 3) := by decide +kernel
theorem d_Mo_init_115 : decode b_Mo_init 115 = .ok (.aload_n 0, 1) := by decide +kernel
theorem d_Mo_init_116 : decode b_Mo_init 116 = .ok (.sipush 768, 3) := by decide +kernel
theorem d_Mo_init_119 : decode b_Mo_init 119 = .ok (.newarray .int, 2) := by decide +kernel
theorem d_Mo_init_121 : decode b_Mo_init 121 = .ok (.putfield 50, 3) := by decide +kernel
theorem d_Mo_init_124 : decode b_Mo_init 124 = .ok (.aload_n 0, 1) := by decide +kernel
theorem d_Mo_init_125 : decode b_Mo_init 125 = .ok (.sipush 192, 3) := by decide +kernel
theorem d_Mo_init_128 : decode b_Mo_init 128 = .ok (.newarray .int, 2) := by decide +kernel
theorem d_Mo_init_130 : decode b_Mo_init 130 = .ok (.putfield 53, 3) := by decide +kernel
theorem d_Mo_init_133 : decode b_Mo_init 133 = .ok (.aload_n 0, 1) := by decide +kernel
theorem d_Mo_init_134 : decode b_Mo_init 134 = .ok (.sipush 192, 3) := by decide +kernel
theorem d_Mo_init_137 : decode b_Mo_init 137 = .ok (.newarray .int, 2) := by decide +kernel
theorem d_Mo_init_139 : decode b_Mo_init 139 = .ok (.putfield 56, 3) := by decide +kernel
theorem d_Mo_init_142 : decode b_Mo_init 142 = .ok (.aload_n 0, 1) := by decide +kernel
theorem d_Mo_init_143 : decode b_Mo_init 143 = .ok (.bipush 32, 2) := by decide +kernel
theorem d_Mo_init_145 : decode b_Mo_init 145 = .ok (.newarray .int, 2) := by decide +kernel
theorem d_Mo_init_147 : decode b_Mo_init 147 = .ok (.putfield 59, 3) := by decide +kernel
theorem d_Mo_init_150 : decode b_Mo_init 150 = .ok (.aload_n 0, 1) := by decide +kernel
theorem d_Mo_init_151 : decode b_Mo_init 151 = .ok (.sipush 3200, 3) := by decide +kernel
theorem d_Mo_init_154 : decode b_Mo_init 154 = .ok (.newarray .int, 2) := by decide +kernel
theorem d_Mo_init_156 : decode b_Mo_init 156 = .ok (.putfield 62, 3) := by decide +kernel
theorem d_Mo_init_159 : decode b_Mo_init 159 = .ok (.aload_n 0, 1) := by decide +kernel
theorem d_Mo_init_160 : decode b_Mo_init 160 = .ok (.sipush 3200, 3) := by decide +kernel
theorem d_Mo_init_163 : decode b_Mo_init 163 = .ok (.newarray .int, 2) := by decide +kernel
theorem d_Mo_init_165 : decode b_Mo_init 165 = .ok (.putfield 65, 3) := by decide +kernel
theorem d_Mo_init_168 : decode b_Mo_init 168 = .ok (.aload_n 0, 1) := by decide +kernel
theorem d_Mo_init_169 : decode b_Mo_init 169 = .ok (.bipush 8, 2) := by decide +kernel
theorem d_Mo_init_171 : decode b_Mo_init 171 = .ok (.newarray .int, 2) := by decide +kernel
theorem d_Mo_init_173 : decode b_Mo_init 173 = .ok (.putfield 68, 3) := by decide +kernel
theorem d_Mo_init_176 : decode b_Mo_init 176 = .ok (.aload_n 0, 1) := by decide +kernel
theorem d_Mo_init_177 : decode b_Mo_init 177 = .ok (.bipush 8, 2) := by decide +kernel
theorem d_Mo_init_179 : decode b_Mo_init 179 = .ok (.newarray .int, 2) := by decide +kernel
theorem d_Mo_init_181 : decode b_Mo_init 181 = .ok (.putfield 71, 3) := by decide +kernel
theorem d_Mo_init_184 : decode b_Mo_init 184 = .ok (.aload_n 0, 1) := by decide +kernel
theorem d_Mo_init_185 : decode b_Mo_init 185 = .ok (.sipush 500, 3) := by decide +kernel
theorem d_Mo_init_188 : decode b_Mo_init 188 = .ok (.newarray .int, 2) := by decide +kernel
theorem d_Mo_init_190 : decode b_Mo_init 190 = .ok (.putfield 74, 3) := by decide +kernel
theorem d_Mo_init_193 : decode b_Mo_init 193 = .ok (.aload_n 0, 1) := by decide +kernel
theorem d_Mo_init_194 : decode b_Mo_init 194 = .ok (.sipush 500, 3) := by decide +kernel
theorem d_Mo_init_197 : decode b_Mo_init 197 = .ok (.newarray .int, 2) := by decide +kernel
theorem d_Mo_init_199 : decode b_Mo_init 199 = .ok (.putfield 77, 3) := by decide +kernel
theorem d_Mo_init_202 : decode b_Mo_init 202 = .ok (.aload_n 0, 1) := by decide +kernel
theorem d_Mo_init_203 : decode b_Mo_init 203 = .ok (.sipush 500, 3) := by decide +kernel
theorem d_Mo_init_206 : decode b_Mo_init 206 = .ok (.newarray .int, 2) := by decide +kernel
theorem d_Mo_init_208 : decode b_Mo_init 208 = .ok (.putfield 80, 3) := by decide +kernel
theorem d_Mo_init_211 : decode b_Mo_init 211 = .ok (.aload_n 0, 1) := by decide +kernel
theorem d_Mo_init_212 : decode b_Mo_init 212 = .ok (.sipush 500, 3) := by decide +kernel
theorem d_Mo_init_215 : decode b_Mo_init 215 = .ok (.newarray .int, 2) := by decide +kernel
theorem d_Mo_init_217 : decode b_Mo_init 217 = .ok (.putfield 83, 3) := by decide +kernel
theorem d_Mo_init_220 : decode b_Mo_init 220 = .ok (.aload_n 0, 1) := by decide +kernel
theorem d_Mo_init_221 : decode b_Mo_init 221 = .ok (.sipush 500, 3) := by decide +kernel
theorem d_Mo_init_224 : decode b_Mo_init 224 = .ok (.newarray .int, 2) := by decide +kernel
theorem d_Mo_init_226 : decode b_Mo_init 226 = .ok (.putfield 86, 3) := by decide +kernel
theorem d_Mo_init_229 : decode b_Mo_init 229 = .ok (.aload_n 0, 1) := by decide +kernel
theorem d_Mo_init_230 : decode b_Mo_init 230 = .ok (.sipush 500, 3) := by decide +kernel
theorem d_Mo_init_233 : decode b_Mo_init 233 = .ok (.newarray .int, 2) := by decide +kernel
theorem d_Mo_init_235 : decode b_Mo_init 235 = .ok (.putfield 89, 3) := by decide +kernel
theorem d_Mo_init_238 : decode b_Mo_init 238 = .ok (.aload_n 0, 1) := by decide +kernel
theorem d_Mo_init_239 : decode b_Mo_init 239 = .ok (.bipush 100, 2) := by decide +kernel
theorem d_Mo_init_241 : decode b_Mo_init 241 = .ok (.newarray .long, 2) := by decide +kernel
theorem d_Mo_init_243 : decode b_Mo_init 243 = .ok (.putfield 92, 3) := by decide +kernel
theorem d_Mo_init_246 : decode b_Mo_init 246 = .ok (.aload_n 0, 1) := by decide +kernel
theorem d_Mo_init_247 : decode b_Mo_init 247 = .ok (.bipush 100, 2) := by decide +kernel
theorem d_Mo_init_249 : decode b_Mo_init 249 = .ok (.newarray .long, 2) := by decide +kernel
theorem d_Mo_init_251 : decode b_Mo_init 251 = .ok (.putfield 96, 3) := by decide +kernel
theorem d_Mo_init_254 : decode b_Mo_init 254 = .ok (.aload_n 0, 1) := by decide +kernel
theorem d_Mo_init_255 : decode b_Mo_init 255 = .ok (.sipush 128, 3) := by decide +kernel
theorem d_Mo_init_258 : decode b_Mo_init 258 = .ok (.newarray .long, 2) := by decide +kernel
theorem d_Mo_init_260 : decode b_Mo_init 260 = .ok (.putfield 99, 3) := by decide +kernel
theorem d_Mo_init_263 : decode b_Mo_init 263 = .ok (.aload_n 0, 1) := by decide +kernel
theorem d_Mo_init_264 : decode b_Mo_init 264 = .ok (.bipush 16, 2) := by decide +kernel
theorem d_Mo_init_266 : decode b_Mo_init 266 = .ok (.newarray .int, 2) := by decide +kernel
theorem d_Mo_init_268 : decode b_Mo_init 268 = .ok (.putfield 102, 3) := by decide +kernel
theorem d_Mo_init_271 : decode b_Mo_init 271 = .ok (.aload_n 0, 1) := by decide +kernel
theorem d_Mo_init_272 : decode b_Mo_init 272 = .ok (.sipush 4096, 3) := by decide +kernel
theorem d_Mo_init_275 : decode b_Mo_init 275 = .ok (.newarray .int, 2) := by decide +kernel
theorem d_Mo_init_277 : decode b_Mo_init 277 = .ok (.putfield 105, 3) := by decide +kernel
theorem d_Mo_init_280 : decode b_Mo_init 280 = .ok (.aload_n 0, 1) := by decide +kernel
theorem d_Mo_init_281 : decode b_Mo_init 281 = .ok (.sipush 514, 3) := by decide +kernel
theorem d_Mo_init_284 : decode b_Mo_init 284 = .ok (.newarray .int, 2) := by decide +kernel
theorem d_Mo_init_286 : decode b_Mo_init 286 = .ok (.putfield 108, 3) := by decide +kernel
theorem d_Mo_init_289 : decode b_Mo_init 289 = .ok (.aload_n 0, 1) := by decide +kernel
theorem d_Mo_init_290 : decode b_Mo_init 290 = .ok (.bipush 33, 2) := by decide +kernel
theorem d_Mo_init_292 : decode b_Mo_init 292 = .ok (.newarray .long, 2) := by decide +kernel
theorem d_Mo_init_294 : decode b_Mo_init 294 = .ok (.putfield 111, 3) := by decide +kernel
theorem d_Mo_init_297 : decode b_Mo_init 297 = .ok (.aload_n 0, 1) := by decide +kernel
theorem d_Mo_init_298 : decode b_Mo_init 298 = .ok (.bipush 16, 2) := by decide +kernel
theorem d_Mo_init_300 : decode b_Mo_init 300 = .ok (.newarray .long, 2) := by decide +kernel
theorem d_Mo_init_302 : decode b_Mo_init 302 = .ok (.putfield 114, 3) := by decide +kernel
theorem d_Mo_init_305 : decode b_Mo_init 305 = .ok (.aload_n 0, 1) := by decide +kernel
theorem d_Mo_init_306 : decode b_Mo_init 306 = .ok (.bipush 8, 2) := by decide +kernel
theorem d_Mo_init_308 : decode b_Mo_init 308 = .ok (.newarray .int, 2) := by decide +kernel
theorem d_Mo_init_310 : decode b_Mo_init 310 = .ok (.putfield 117, 3) := by decide +kernel
theorem d_Mo_init_313 : decode b_Mo_init 313 = .ok (.aload_n 0, 1) := by decide +kernel
theorem d_Mo_init_314 : decode b_Mo_init 314 = .ok (.bipush 100, 2) := by decide +kernel
theorem d_Mo_init_316 : decode b_Mo_init 316 = .ok (.newarray .long, 2) := by decide +kernel
theorem d_Mo_init_318 : decode b_Mo_init 318 = .ok (.putfield 120, 3) := by decide +kernel
theorem d_Mo_init_321 : decode b_Mo_init 321 = .ok (.aload_n 0, 1) := by decide +kernel
theorem d_Mo_init_322 : decode b_Mo_init 322 = .ok (.bipush 100, 2) := by decide +kernel
theorem d_Mo_init_324 : decode b_Mo_init 324 = .ok (.newarray .long, 2) := by decide +kernel
theorem d_Mo_init_326 : decode b_Mo_init 326 = .ok (.putfield 123, 3) := by decide +kernel
theorem d_Mo_init_329 : decode b_Mo_init 329 = .ok (.aload_n 0, 1) := by decide +kernel
theorem d_Mo_init_330 : decode b_Mo_init 330 = .ok (.bipush 100, 2) := by decide +kernel
theorem d_Mo_init_332 : decode b_Mo_init 332 = .ok (.newarray .long, 2) := by decide +kernel
theorem d_Mo_init_334 : decode b_Mo_init 334 = .ok (.putfield 126, 3) := by decide +kernel
theorem d_Mo_init_337 : decode b_Mo_init 337 = .ok (.aload_n 0, 1) := by decide +kernel
theorem d_Mo_init_338 : decode b_Mo_init 338 = .ok (.bipush 100, 2) := by decide +kernel
theorem d_Mo_init_340 : decode b_Mo_init 340 = .ok (.newarray .long, 2) := by decide +kernel
theorem d_Mo_init_342 : decode b_Mo_init 342 = .ok (.putfield 129, 3) := by decide +kernel
theorem d_Mo_init_345 : decode b_Mo_init 345 = .ok (.aload_n 0, 1) := by decide +kernel
theorem d_Mo_init_346 : decode b_Mo_init 346 = .ok (.bipush 100, 2) := by decide +kernel
theorem d_Mo_init_348 : decode b_Mo_init 348 = .ok (.newarray .boolean, 2) := by decide +kernel
theorem d_Mo_init_350 : decode b_Mo_init 350 = .ok (.putfield 132, 3) := by decide +kernel
theorem d_Mo_init_353 : decode b_Mo_init 353 = .ok (.aload_n 0, 1) := by decide +kernel
theorem d_Mo_init_354 : decode b_Mo_init 354 = .ok (.bipush 100, 2) := by decide +kernel
theorem d_Mo_init_356 : decode b_Mo_init 356 = .ok (.newarray .boolean, 2) := by decide +kernel
theorem d_Mo_init_358 : decode b_Mo_init 358 = .ok (.putfield 135, 3) := by decide +kernel
theorem d_Mo_init_361 : decode b_Mo_init 361 = .ok (.aload_n 0, 1) := by decide +kernel
theorem d_Mo_init_362 : decode b_Mo_init 362 = .ok (.bipush 100, 2) := by decide +kernel
theorem d_Mo_init_364 : decode b_Mo_init 364 = .ok (.newarray .int, 2) := by decide +kernel
theorem d_Mo_init_366 : decode b_Mo_init 366 = .ok (.putfield 138, 3) := by decide +kernel
theorem d_Mo_init_369 : decode b_Mo_init 369 = .ok (.aload_n 0, 1) := by decide +kernel
theorem d_Mo_init_370 : decode b_Mo_init 370 = .ok (.bipush 100, 2) := by decide +kernel
theorem d_Mo_init_372 : decode b_Mo_init 372 = .ok (.newarray .int, 2) := by decide +kernel
theorem d_Mo_init_374 : decode b_Mo_init 374 = .ok (.putfield 141, 3) := by decide +kernel
theorem d_Mo_init_377 : decode b_Mo_init 377 = .ok (.aload_n 0, 1) := by decide +kernel
theorem d_Mo_init_378 : decode b_Mo_init 378 = .ok (.bipush 100, 2) := by decide +kernel
theorem d_Mo_init_380 : decode b_Mo_init 380 = .ok (.newarray .boolean, 2) := by decide +kernel
theorem d_Mo_init_382 : decode b_Mo_init 382 = .ok (.putfield 144, 3) := by decide +kernel
theorem d_Mo_init_385 : decode b_Mo_init 385 = .ok (.aload_n 0, 1) := by decide +kernel
theorem d_Mo_init_386 : decode b_Mo_init 386 = .ok (.bipush 100, 2) := by decide +kernel
theorem d_Mo_init_388 : decode b_Mo_init 388 = .ok (.newarray .boolean, 2) := by decide +kernel
theorem d_Mo_init_390 : decode b_Mo_init 390 = .ok (.putfield 147, 3) := by decide +kernel
theorem d_Mo_init_393 : decode b_Mo_init 393 = .ok (.aload_n 0, 1) := by decide +kernel
theorem d_Mo_init_394 : decode b_Mo_init 394 = .ok (.iconst 3, 1) := by decide +kernel
theorem d_Mo_init_395 : decode b_Mo_init 395 = .ok (.newarray .int, 2) := by decide +kernel
theorem d_Mo_init_397 : decode b_Mo_init 397 = .ok (.putfield 150, 3) := by decide +kernel
theorem d_Mo_init_400 : decode b_Mo_init 400 = .ok (.aload_n 0, 1) := by decide +kernel
theorem d_Mo_init_401 : decode b_Mo_init 401 = .ok (.bipush 32, 2) := by decide +kernel
theorem d_Mo_init_403 : decode b_Mo_init 403 = .ok (.newarray .int, 2) := by decide +kernel
theorem d_Mo_init_405 : decode b_Mo_init 405 = .ok (.putfield 153, 3) := by decide +kernel
theorem d_Mo_init_408 : decode b_Mo_init 408 = .ok (.aload_n 0, 1) := by decide +kernel
theorem d_Mo_init_409 : decode b_Mo_init 409 = .ok (.bipush 32, 2) := by decide +kernel
theorem d_Mo_init_411 : decode b_Mo_init 411 = .ok (.newarray .int, 2) := by decide +kernel
theorem d_Mo_init_413 : decode b_Mo_init 413 = .ok (.putfield 156, 3) := by decide +kernel
theorem d_Mo_init_416 : decode b_Mo_init 416 = .ok (.aload_n 0, 1) := by decide +kernel
theorem d_Mo_init_417 : decode b_Mo_init 417 = .ok (.sipush 256, 3) := by decide +kernel
theorem d_Mo_init_420 : decode b_Mo_init 420 = .ok (.newarray .int, 2) := by decide +kernel
theorem d_Mo_init_422 : decode b_Mo_init 422 = .ok (.putfield 159, 3) := by decide +kernel
theorem d_Mo_init_425 : decode b_Mo_init 425 = .ok (.aload_n 0, 1) := by decide +kernel
theorem d_Mo_init_426 : decode b_Mo_init 426 = .ok (.sipush 1024, 3) := by decide +kernel
theorem d_Mo_init_429 : decode b_Mo_init 429 = .ok (.newarray .int, 2) := by decide +kernel
theorem d_Mo_init_431 : decode b_Mo_init 431 = .ok (.putfield 162, 3) := by decide +kernel
theorem d_Mo_init_434 : decode b_Mo_init 434 = .ok (.aload_n 0, 1) := by decide +kernel
theorem d_Mo_init_435 : decode b_Mo_init 435 = .ok (.sipush 1024, 3) := by decide +kernel
theorem d_Mo_init_438 : decode b_Mo_init 438 = .ok (.newarray .boolean, 2) := by decide +kernel
theorem d_Mo_init_440 : decode b_Mo_init 440 = .ok (.putfield 165, 3) := by decide +kernel
theorem d_Mo_init_443 : decode b_Mo_init 443 = .ok (.aload_n 0, 1) := by decide +kernel
theorem d_Mo_init_444 : decode b_Mo_init 444 = .ok (.sipush 160, 3) := by decide +kernel
theorem d_Mo_init_447 : decode b_Mo_init 447 = .ok (.newarray .int, 2) := by decide +kernel
theorem d_Mo_init_449 : decode b_Mo_init 449 = .ok (.putfield 168, 3) := by decide +kernel
theorem d_Mo_init_452 : decode b_Mo_init 452 = .ok (.aload_n 0, 1) := by decide +kernel
theorem d_Mo_init_453 : decode b_Mo_init 453 = .ok (.bipush 60, 2) := by decide +kernel
theorem d_Mo_init_455 : decode b_Mo_init 455 = .ok (.newarray .int, 2) := by decide +kernel
theorem d_Mo_init_457 : decode b_Mo_init 457 = .ok (.putfield 171, 3) := by decide +kernel
theorem d_Mo_init_460 : decode b_Mo_init 460 = .ok (.aload_n 0, 1) := by decide +kernel
theorem d_Mo_init_461 : decode b_Mo_init 461 = .ok (.bipush 60, 2) := by decide +kernel
theorem d_Mo_init_463 : decode b_Mo_init 463 = .ok (.newarray .int, 2) := by decide +kernel
theorem d_Mo_init_465 : decode b_Mo_init 465 = .ok (.putfield 174, 3) := by decide +kernel
theorem d_Mo_init_468 : decode b_Mo_init 468 = .ok (.aload_n 0, 1) := by decide +kernel
theorem d_Mo_init_469 : decode b_Mo_init 469 = .ok (.bipush 60, 2) := by decide +kernel
theorem d_Mo_init_471 : decode b_Mo_init 471 = .ok (.newarray .int, 2) := by decide +kernel
theorem d_Mo_init_473 : decode b_Mo_init 473 = .ok (.putfield 177, 3) := by decide +kernel
theorem d_Mo_init_476 : decode b_Mo_init 476 = .ok (.aload_n 0, 1) := by decide +kernel
theorem d_Mo_init_477 : decode b_Mo_init 477 = .ok (.bipush 60, 2) := by decide +kernel
theorem d_Mo_init_479 : decode b_Mo_init 479 = .ok (.newarray .int, 2) := by decide +kernel
theorem d_Mo_init_481 : decode b_Mo_init 481 = .ok (.putfield 180, 3) := by decide +kernel
theorem d_Mo_init_484 : decode b_Mo_init 484 = .ok (.return_, 1) := by decide +kernel
theorem d_Mo_find_0 : decode b_Mo_find 0 = .ok (.iconst 0, 1) := by decide +kernel
theorem d_Mo_find_1 : decode b_Mo_find 1 = .ok (.istore_n 2, 1) := by decide +kernel
theorem d_Mo_find_2 : decode b_Mo_find 2 = .ok (.iload_n 2, 1) := by decide +kernel
theorem d_Mo_find_3 : decode b_Mo_find 3 = .ok (.aload_n 0, 1) := by decide +kernel
theorem d_Mo_find_4 : decode b_Mo_find 4 = .ok (.getfield 183, 3) := by decide +kernel
theorem d_Mo_find_7 : decode b_Mo_find 7 = .ok (.if_icmp .ge 21, 3) := by decide +kernel
theorem d_Mo_find_10 : decode b_Mo_find 10 = .ok (.aload_n 0, 1) := by decide +kernel
theorem d_Mo_find_11 : decode b_Mo_find 11 = .ok (.getfield 7, 3) := by decide +kernel
theorem d_Mo_find_14 : decode b_Mo_find 14 = .ok (.iload_n 2, 1) := by decide +kernel
theorem d_Mo_find_15 : decode b_Mo_find 15 = .ok (.iaload, 1) := by decide +kernel
theorem d_Mo_find_16 : decode b_Mo_find 16 = .ok (.iload_n 1, 1) := by decide +kernel
theorem d_Mo_find_17 : decode b_Mo_find 17 = .ok (.if_icmp .ne 5, 3) := by decide +kernel
theorem d_Mo_find_20 : decode b_Mo_find 20 = .ok (.iload_n 2, 1) := by decide +kernel
theorem d_Mo_find_21 : decode b_Mo_find 21 = .ok (.ireturn, 1) := by decide +kernel
theorem d_Mo_find_22 : decode b_Mo_find 22 = .ok (.iinc 2 1, 3) := by decide +kernel
theorem d_Mo_find_25 : decode b_Mo_find 25 = .ok (.goto (-23), 3) := by decide +kernel
theorem d_Mo_find_28 : decode b_Mo_find 28 = .ok (.iconst (-1), 1) := by decide +kernel
theorem d_Mo_find_29 : decode b_Mo_find 29 = .ok (.ireturn, 1) := by decide +kernel
theorem d_Mo_isCode_0 : decode b_Mo_isCode 0 = .ok (.iload_n 0, 1) := by decide +kernel
theorem d_Mo_isCode_1 : decode b_Mo_isCode 1 = .ok (.ifCond .lt 13, 3) := by decide +kernel
theorem d_Mo_isCode_4 : decode b_Mo_isCode 4 = .ok (.iload_n 0, 1) := by decide +kernel
theorem d_Mo_isCode_5 : decode b_Mo_isCode 5 = .ok (.ldc 187, 2) := by decide +kernel
theorem d_Mo_isCode_7 : decode b_Mo_isCode 7 = .ok (.if_icmp .gt 7, 3) := by decide +kernel
theorem d_Mo_isCode_10 : decode b_Mo_isCode 10 = .ok (.iconst 1, 1) := by decide +kernel
theorem d_Mo_isCode_11 : decode b_Mo_isCode 11 = .ok (.goto 4, 3) := by decide +kernel
theorem d_Mo_isCode_14 : decode b_Mo_isCode 14 = .ok (.iconst 0, 1) := by decide +kernel
theorem d_Mo_isCode_15 : decode b_Mo_isCode 15 = .ok (.ireturn, 1) := by decide +kernel
theorem d_Mo_letter_0 : decode b_Mo_letter 0 = .ok (.iconst 0, 1) := by decide +kernel
theorem d_Mo_letter_1 : decode b_Mo_letter 1 = .ok (.istore_n 3, 1) := by decide +kernel
theorem d_Mo_letter_2 : decode b_Mo_letter 2 = .ok (.iconst 0, 1) := by decide +kernel
theorem d_Mo_letter_3 : decode b_Mo_letter 3 = .ok (.istore 4, 2) := by decide +kernel
theorem d_Mo_letter_5 : decode b_Mo_letter 5 = .ok (.iload 4, 2) := by decide +kernel
theorem d_Mo_letter_7 : decode b_Mo_letter 7 = .ok (.aload_n 0, 1) := by decide +kernel
theorem d_Mo_letter_8 : decode b_Mo_letter 8 = .ok (.getfield 183, 3) := by decide +kernel
theorem d_Mo_letter_11 : decode b_Mo_letter 11 = .ok (.if_icmp .ge 30, 3) := by decide +kernel
theorem d_Mo_letter_14 : decode b_Mo_letter 14 = .ok (.iload_n 3, 1) := by decide +kernel
theorem d_Mo_letter_15 : decode b_Mo_letter 15 = .ok (.ifCond .ne 14, 3) := by decide +kernel
theorem d_Mo_letter_18 : decode b_Mo_letter 18 = .ok (.aload_n 0, 1) := by decide +kernel
theorem d_Mo_letter_19 : decode b_Mo_letter 19 = .ok (.getfield 7, 3) := by decide +kernel
theorem d_Mo_letter_22 : decode b_Mo_letter 22 = .ok (.iload 4, 2) := by decide +kernel
theorem d_Mo_letter_24 : decode b_Mo_letter 24 = .ok (.iaload, 1) := by decide +kernel
theorem d_Mo_letter_25 : decode b_Mo_letter 25 = .ok (.iload_n 1, 1) := by decide +kernel
theorem d_Mo_letter_26 : decode b_Mo_letter 26 = .ok (.if_icmp .ne 7, 3) := by decide +kernel
theorem d_Mo_letter_29 : decode b_Mo_letter 29 = .ok (.iconst 1, 1) := by decide +kernel
theorem d_Mo_letter_30 : decode b_Mo_letter 30 = .ok (.goto 4, 3) := by decide +kernel
theorem d_Mo_letter_33 : decode b_Mo_letter 33 = .ok (.iconst 0, 1) := by decide +kernel
theorem d_Mo_letter_34 : decode b_Mo_letter 34 = .ok (.istore_n 3, 1) := by decide +kernel
theorem d_Mo_letter_35 : decode b_Mo_letter 35 = .ok (.iinc 4 1, 3) := by decide +kernel
theorem d_Mo_letter_38 : decode b_Mo_letter 38 = .ok (.goto (-33), 3) := by decide +kernel
theorem d_Mo_letter_41 : decode b_Mo_letter 41 = .ok (.iload_n 3, 1) := by decide +kernel
theorem d_Mo_letter_42 : decode b_Mo_letter 42 = .ok (.ifCond .ne 30, 3) := by decide +kernel
theorem d_Mo_letter_45 : decode b_Mo_letter 45 = .ok (.iload_n 1, 1) := by decide +kernel
theorem d_Mo_letter_46 : decode b_Mo_letter 46 = .ok (.invokestatic 188, 3) := by decide +kernel
theorem d_Mo_letter_49 : decode b_Mo_letter 49 = .ok (.ifCond .eq 23, 3) := by decide +kernel
theorem d_Mo_letter_52 : decode b_Mo_letter 52 = .ok (.iload_n 2, 1) := by decide +kernel
theorem d_Mo_letter_53 : decode b_Mo_letter 53 = .ok (.ifCond .lt 19, 3) := by decide +kernel
theorem d_Mo_letter_56 : decode b_Mo_letter 56 = .ok (.iload_n 2, 1) := by decide +kernel
theorem d_Mo_letter_57 : decode b_Mo_letter 57 = .ok (.sipush 32000, 3) := by decide +kernel
theorem d_Mo_letter_60 : decode b_Mo_letter 60 = .ok (.if_icmp .gt 12, 3) := by decide +kernel
theorem d_Mo_letter_63 : decode b_Mo_letter 63 = .ok (.aload_n 0, 1) := by decide +kernel
theorem d_Mo_letter_64 : decode b_Mo_letter 64 = .ok (.getfield 183, 3) := by decide +kernel
theorem d_Mo_letter_67 : decode b_Mo_letter 67 = .ok (.bipush 32, 2) := by decide +kernel
theorem d_Mo_letter_69 : decode b_Mo_letter 69 = .ok (.if_icmp .ne 5, 3) := by decide +kernel
theorem d_Mo_letter_72 : decode b_Mo_letter 72 = .ok (.iconst (-1), 1) := by decide +kernel
theorem d_Mo_letter_73 : decode b_Mo_letter 73 = .ok (.ireturn, 1) := by decide +kernel
theorem d_Mo_letter_74 : decode b_Mo_letter 74 = .ok (.aload_n 0, 1) := by decide +kernel
theorem d_Mo_letter_75 : decode b_Mo_letter 75 = .ok (.getfield 7, 3) := by decide +kernel
theorem d_Mo_letter_78 : decode b_Mo_letter 78 = .ok (.aload_n 0, 1) := by decide +kernel
theorem d_Mo_letter_79 : decode b_Mo_letter 79 = .ok (.getfield 183, 3) := by decide +kernel
theorem d_Mo_letter_82 : decode b_Mo_letter 82 = .ok (.iload_n 1, 1) := by decide +kernel
theorem d_Mo_letter_83 : decode b_Mo_letter 83 = .ok (.iastore, 1) := by decide +kernel
theorem d_Mo_letter_84 : decode b_Mo_letter 84 = .ok (.aload_n 0, 1) := by decide +kernel
theorem d_Mo_letter_85 : decode b_Mo_letter 85 = .ok (.getfield 13, 3) := by decide +kernel
theorem d_Mo_letter_88 : decode b_Mo_letter 88 = .ok (.aload_n 0, 1) := by decide +kernel
theorem d_Mo_letter_89 : decode b_Mo_letter 89 = .ok (.getfield 183, 3) := by decide +kernel
theorem d_Mo_letter_92 : decode b_Mo_letter 92 = .ok (.iload_n 2, 1) := by decide +kernel
theorem d_Mo_letter_93 : decode b_Mo_letter 93 = .ok (.iastore, 1) := by decide +kernel
theorem d_Mo_letter_94 : decode b_Mo_letter 94 = .ok (.aload_n 0, 1) := by decide +kernel
theorem d_Mo_letter_95 : decode b_Mo_letter 95 = .ok (.dup, 1) := by decide +kernel
theorem d_Mo_letter_96 : decode b_Mo_letter 96 = .ok (.getfield 183, 3) := by decide +kernel
theorem d_Mo_letter_99 : decode b_Mo_letter 99 = .ok (.iconst 1, 1) := by decide +kernel
theorem d_Mo_letter_100 : decode b_Mo_letter 100 = .ok (.iadd, 1) := by decide +kernel
theorem d_Mo_letter_101 : decode b_Mo_letter 101 = .ok (.putfield 183, 3) := by decide +kernel
theorem d_Mo_letter_104 : decode b_Mo_letter 104 = .ok (.aload_n 0, 1) := by decide +kernel
theorem d_Mo_letter_105 : decode b_Mo_letter 105 = .ok (.getfield 183, 3) := by decide +kernel
theorem d_Mo_letter_108 : decode b_Mo_letter 108 = .ok (.iconst 1, 1) := by decide +kernel
theorem d_Mo_letter_109 : decode b_Mo_letter 109 = .ok (.isub, 1) := by decide +kernel
theorem d_Mo_letter_110 : decode b_Mo_letter 110 = .ok (.ireturn, 1) := by decide +kernel
theorem d_Mo_isLetter_0 : decode b_Mo_isLetter 0 = .ok (.iload_n 1, 1) := by decide +kernel
theorem d_Mo_isLetter_1 : decode b_Mo_isLetter 1 = .ok (.ifCond .lt 15, 3) := by decide +kernel
theorem d_Mo_isLetter_4 : decode b_Mo_isLetter 4 = .ok (.iload_n 1, 1) := by decide +kernel
theorem d_Mo_isLetter_5 : decode b_Mo_isLetter 5 = .ok (.aload_n 0, 1) := by decide +kernel
theorem d_Mo_isLetter_6 : decode b_Mo_isLetter 6 = .ok (.getfield 183, 3) := by decide +kernel
theorem d_Mo_isLetter_9 : decode b_Mo_isLetter 9 = .ok (.if_icmp .ge 7, 3) := by decide +kernel
theorem d_Mo_isLetter_12 : decode b_Mo_isLetter 12 = .ok (.iconst 1, 1) := by decide +kernel
theorem d_Mo_isLetter_13 : decode b_Mo_isLetter 13 = .ok (.goto 4, 3) := by decide +kernel
theorem d_Mo_isLetter_16 : decode b_Mo_isLetter 16 = .ok (.iconst 0, 1) := by decide +kernel
theorem d_Mo_isLetter_17 : decode b_Mo_isLetter 17 = .ok (.ireturn, 1) := by decide +kernel
theorem d_Mo_outline_0 : decode b_Mo_outline 0 = .ok (.aload_n 0, 1) := by decide +kernel
theorem d_Mo_outline_1 : decode b_Mo_outline 1 = .ok (.iload_n 1, 1) := by decide +kernel
theorem d_Mo_outline_2 : decode b_Mo_outline 2 = .ok (.invokevirtual 192, 3) := by decide +kernel
theorem d_Mo_outline_5 : decode b_Mo_outline 5 = .ok (.ifCond .eq 32, 3) := by decide +kernel
theorem d_Mo_outline_8 : decode b_Mo_outline 8 = .ok (.aload_n 0, 1) := by decide +kernel
theorem d_Mo_outline_9 : decode b_Mo_outline 9 = .ok (.getfield 19, 3) := by decide +kernel
theorem d_Mo_outline_12 : decode b_Mo_outline 12 = .ok (.iload_n 1, 1) := by decide +kernel
theorem d_Mo_outline_13 : decode b_Mo_outline 13 = .ok (.baload, 1) := by decide +kernel
theorem d_Mo_outline_14 : decode b_Mo_outline 14 = .ok (.ifCond .ne 23, 3) := by decide +kernel
theorem d_Mo_outline_17 : decode b_Mo_outline 17 = .ok (.aload_n 0, 1) := by decide +kernel
theorem d_Mo_outline_18 : decode b_Mo_outline 18 = .ok (.getfield 44, 3) := by decide +kernel
theorem d_Mo_outline_21 : decode b_Mo_outline 21 = .ok (.iload_n 1, 1) := by decide +kernel
theorem d_Mo_outline_22 : decode b_Mo_outline 22 = .ok (.iaload, 1) := by decide +kernel
theorem d_Mo_outline_23 : decode b_Mo_outline 23 = .ok (.ifCond .gt 14, 3) := by decide +kernel
theorem d_Mo_outline_26 : decode b_Mo_outline 26 = .ok (.aload_n 0, 1) := by decide +kernel
theorem d_Mo_outline_27 : decode b_Mo_outline 27 = .ok (.getfield 16, 3) := by decide +kernel
theorem d_Mo_outline_30 : decode b_Mo_outline 30 = .ok (.iload_n 1, 1) := by decide +kernel
theorem d_Mo_outline_31 : decode b_Mo_outline 31 = .ok (.iaload, 1) := by decide +kernel
theorem d_Mo_outline_32 : decode b_Mo_outline 32 = .ok (.bipush 8, 2) := by decide +kernel
theorem d_Mo_outline_34 : decode b_Mo_outline 34 = .ok (.if_icmp .ne 5, 3) := by decide +kernel
theorem d_Mo_outline_37 : decode b_Mo_outline 37 = .ok (.iconst (-1), 1) := by decide +kernel
theorem d_Mo_outline_38 : decode b_Mo_outline 38 = .ok (.ireturn, 1) := by decide +kernel
theorem d_Mo_outline_39 : decode b_Mo_outline 39 = .ok (.aload_n 0, 1) := by decide +kernel
theorem d_Mo_outline_40 : decode b_Mo_outline 40 = .ok (.getfield 19, 3) := by decide +kernel
theorem d_Mo_outline_43 : decode b_Mo_outline 43 = .ok (.iload_n 1, 1) := by decide +kernel
theorem d_Mo_outline_44 : decode b_Mo_outline 44 = .ok (.iconst 1, 1) := by decide +kernel
theorem d_Mo_outline_45 : decode b_Mo_outline 45 = .ok (.bastore, 1) := by decide +kernel
theorem d_Mo_outline_46 : decode b_Mo_outline 46 = .ok (.aload_n 0, 1) := by decide +kernel
theorem d_Mo_outline_47 : decode b_Mo_outline 47 = .ok (.getfield 16, 3) := by decide +kernel
theorem d_Mo_outline_50 : decode b_Mo_outline 50 = .ok (.iload_n 1, 1) := by decide +kernel
theorem d_Mo_outline_51 : decode b_Mo_outline 51 = .ok (.iaload, 1) := by decide +kernel
theorem d_Mo_outline_52 : decode b_Mo_outline 52 = .ok (.ireturn, 1) := by decide +kernel
theorem d_Mo_closed_0 : decode b_Mo_closed 0 = .ok (.aload_n 0, 1) := by decide +kernel
theorem d_Mo_closed_1 : decode b_Mo_closed 1 = .ok (.getfield 16, 3) := by decide +kernel
theorem d_Mo_closed_4 : decode b_Mo_closed 4 = .ok (.iload_n 1, 1) := by decide +kernel
theorem d_Mo_closed_5 : decode b_Mo_closed 5 = .ok (.iaload, 1) := by decide +kernel
theorem d_Mo_closed_6 : decode b_Mo_closed 6 = .ok (.ifCond .ne 7, 3) := by decide +kernel
theorem d_Mo_closed_9 : decode b_Mo_closed 9 = .ok (.iconst 0, 1) := by decide +kernel
theorem d_Mo_closed_10 : decode b_Mo_closed 10 = .ok (.goto 21, 3) := by decide +kernel
theorem d_Mo_closed_13 : decode b_Mo_closed 13 = .ok (.aload_n 0, 1) := by decide +kernel
theorem d_Mo_closed_14 : decode b_Mo_closed 14 = .ok (.getfield 26, 3) := by decide +kernel
theorem d_Mo_closed_17 : decode b_Mo_closed 17 = .ok (.bipush 8, 2) := by decide +kernel
theorem d_Mo_closed_19 : decode b_Mo_closed 19 = .ok (.iload_n 1, 1) := by decide +kernel
theorem d_Mo_closed_20 : decode b_Mo_closed 20 = .ok (.imul, 1) := by decide +kernel
theorem d_Mo_closed_21 : decode b_Mo_closed 21 = .ok (.aload_n 0, 1) := by decide +kernel
theorem d_Mo_closed_22 : decode b_Mo_closed 22 = .ok (.getfield 16, 3) := by decide +kernel
theorem d_Mo_closed_25 : decode b_Mo_closed 25 = .ok (.iload_n 1, 1) := by decide +kernel
theorem d_Mo_closed_26 : decode b_Mo_closed 26 = .ok (.iaload, 1) := by decide +kernel
theorem d_Mo_closed_27 : decode b_Mo_closed 27 = .ok (.iadd, 1) := by decide +kernel
theorem d_Mo_closed_28 : decode b_Mo_closed 28 = .ok (.iconst 1, 1) := by decide +kernel
theorem d_Mo_closed_29 : decode b_Mo_closed 29 = .ok (.isub, 1) := by decide +kernel
theorem d_Mo_closed_30 : decode b_Mo_closed 30 = .ok (.iaload, 1) := by decide +kernel
theorem d_Mo_closed_31 : decode b_Mo_closed 31 = .ok (.ireturn, 1) := by decide +kernel
theorem d_Mo_isPlace_0 : decode b_Mo_isPlace 0 = .ok (.iload_n 0, 1) := by decide +kernel
theorem d_Mo_isPlace_1 : decode b_Mo_isPlace 1 = .ok (.sipush (-32000), 3) := by decide +kernel
theorem d_Mo_isPlace_4 : decode b_Mo_isPlace 4 = .ok (.if_icmp .lt 14, 3) := by decide +kernel
theorem d_Mo_isPlace_7 : decode b_Mo_isPlace 7 = .ok (.iload_n 0, 1) := by decide +kernel
theorem d_Mo_isPlace_8 : decode b_Mo_isPlace 8 = .ok (.sipush 32000, 3) := by decide +kernel
theorem d_Mo_isPlace_11 : decode b_Mo_isPlace 11 = .ok (.if_icmp .gt 7, 3) := by decide +kernel
theorem d_Mo_isPlace_14 : decode b_Mo_isPlace 14 = .ok (.iconst 1, 1) := by decide +kernel
theorem d_Mo_isPlace_15 : decode b_Mo_isPlace 15 = .ok (.goto 4, 3) := by decide +kernel
theorem d_Mo_isPlace_18 : decode b_Mo_isPlace 18 = .ok (.iconst 0, 1) := by decide +kernel
theorem d_Mo_isPlace_19 : decode b_Mo_isPlace 19 = .ok (.ireturn, 1) := by decide +kernel
theorem d_Mo_point_0 : decode b_Mo_point 0 = .ok (.aload_n 0, 1) := by decide +kernel
theorem d_Mo_point_1 : decode b_Mo_point 1 = .ok (.iload_n 1, 1) := by decide +kernel
theorem d_Mo_point_2 : decode b_Mo_point 2 = .ok (.invokevirtual 192, 3) := by decide +kernel
theorem d_Mo_point_5 : decode b_Mo_point 5 = .ok (.ifCond .eq 48, 3) := by decide +kernel
theorem d_Mo_point_8 : decode b_Mo_point 8 = .ok (.aload_n 0, 1) := by decide +kernel
theorem d_Mo_point_9 : decode b_Mo_point 9 = .ok (.getfield 19, 3) := by decide +kernel
theorem d_Mo_point_12 : decode b_Mo_point 12 = .ok (.iload_n 1, 1) := by decide +kernel
theorem d_Mo_point_13 : decode b_Mo_point 13 = .ok (.baload, 1) := by decide +kernel
theorem d_Mo_point_14 : decode b_Mo_point 14 = .ok (.ifCond .eq 39, 3) := by decide +kernel
theorem d_Mo_point_17 : decode b_Mo_point 17 = .ok (.iload_n 2, 1) := by decide +kernel
theorem d_Mo_point_18 : decode b_Mo_point 18 = .ok (.invokestatic 195, 3) := by decide +kernel
theorem d_Mo_point_21 : decode b_Mo_point 21 = .ok (.ifCond .eq 32, 3) := by decide +kernel
theorem d_Mo_point_24 : decode b_Mo_point 24 = .ok (.iload_n 3, 1) := by decide +kernel
theorem d_Mo_point_25 : decode b_Mo_point 25 = .ok (.invokestatic 195, 3) := by decide +kernel
theorem d_Mo_point_28 : decode b_Mo_point 28 = .ok (.ifCond .eq 25, 3) := by decide +kernel
theorem d_Mo_point_31 : decode b_Mo_point 31 = .ok (.iload 4, 2) := by decide +kernel
theorem d_Mo_point_33 : decode b_Mo_point 33 = .ok (.ifCond .lt 20, 3) := by decide +kernel
theorem d_Mo_point_36 : decode b_Mo_point 36 = .ok (.iload 4, 2) := by decide +kernel
theorem d_Mo_point_38 : decode b_Mo_point 38 = .ok (.iconst 2, 1) := by decide +kernel
theorem d_Mo_point_39 : decode b_Mo_point 39 = .ok (.if_icmp .gt 14, 3) := by decide +kernel
theorem d_Mo_point_42 : decode b_Mo_point 42 = .ok (.aload_n 0, 1) := by decide +kernel
theorem d_Mo_point_43 : decode b_Mo_point 43 = .ok (.getfield 23, 3) := by decide +kernel
theorem d_Mo_point_46 : decode b_Mo_point 46 = .ok (.iload_n 1, 1) := by decide +kernel
theorem d_Mo_point_47 : decode b_Mo_point 47 = .ok (.iaload, 1) := by decide +kernel
theorem d_Mo_point_48 : decode b_Mo_point 48 = .ok (.bipush 100, 2) := by decide +kernel
theorem d_Mo_point_50 : decode b_Mo_point 50 = .ok (.if_icmp .ne 5, 3) := by decide +kernel
theorem d_Mo_point_53 : decode b_Mo_point 53 = .ok (.iconst (-1), 1) := by decide +kernel
theorem d_Mo_point_54 : decode b_Mo_point 54 = .ok (.ireturn, 1) := by decide +kernel
theorem d_Mo_point_55 : decode b_Mo_point 55 = .ok (.bipush 100, 2) := by decide +kernel
theorem d_Mo_point_57 : decode b_Mo_point 57 = .ok (.iload_n 1, 1) := by decide +kernel
theorem d_Mo_point_58 : decode b_Mo_point 58 = .ok (.imul, 1) := by decide +kernel
theorem d_Mo_point_59 : decode b_Mo_point 59 = .ok (.aload_n 0, 1) := by decide +kernel
theorem d_Mo_point_60 : decode b_Mo_point 60 = .ok (.getfield 23, 3) := by decide +kernel
theorem d_Mo_point_63 : decode b_Mo_point 63 = .ok (.iload_n 1, 1) := by decide +kernel
theorem d_Mo_point_64 : decode b_Mo_point 64 = .ok (.iaload, 1) := by decide +kernel
theorem d_Mo_point_65 : decode b_Mo_point 65 = .ok (.iadd, 1) := by decide +kernel
theorem d_Mo_point_66 : decode b_Mo_point 66 = .ok (.istore 5, 2) := by decide +kernel
theorem d_Mo_point_68 : decode b_Mo_point 68 = .ok (.aload_n 0, 1) := by decide +kernel
theorem d_Mo_point_69 : decode b_Mo_point 69 = .ok (.getfield 29, 3) := by decide +kernel
theorem d_Mo_point_72 : decode b_Mo_point 72 = .ok (.iload 5, 2) := by decide +kernel
theorem d_Mo_point_74 : decode b_Mo_point 74 = .ok (.iload_n 2, 1) := by decide +kernel
theorem d_Mo_point_75 : decode b_Mo_point 75 = .ok (.iastore, 1) := by decide +kernel
theorem d_Mo_point_76 : decode b_Mo_point 76 = .ok (.aload_n 0, 1) := by decide +kernel
theorem d_Mo_point_77 : decode b_Mo_point 77 = .ok (.getfield 32, 3) := by decide +kernel
theorem d_Mo_point_80 : decode b_Mo_point 80 = .ok (.iload 5, 2) := by decide +kernel
theorem d_Mo_point_82 : decode b_Mo_point 82 = .ok (.iload_n 3, 1) := by decide +kernel
theorem d_Mo_point_83 : decode b_Mo_point 83 = .ok (.iastore, 1) := by decide +kernel
theorem d_Mo_point_84 : decode b_Mo_point 84 = .ok (.aload_n 0, 1) := by decide +kernel
theorem d_Mo_point_85 : decode b_Mo_point 85 = .ok (.getfield 35, 3) := by decide +kernel
theorem d_Mo_point_88 : decode b_Mo_point 88 = .ok (.iload 5, 2) := by decide +kernel
theorem d_Mo_point_90 : decode b_Mo_point 90 = .ok (.iload 4, 2) := by decide +kernel
theorem d_Mo_point_92 : decode b_Mo_point 92 = .ok (.iastore, 1) := by decide +kernel
theorem d_Mo_point_93 : decode b_Mo_point 93 = .ok (.iconst 0, 1) := by decide +kernel
theorem d_Mo_point_94 : decode b_Mo_point 94 = .ok (.istore 6, 2) := by decide +kernel
theorem d_Mo_point_96 : decode b_Mo_point 96 = .ok (.iload 6, 2) := by decide +kernel
theorem d_Mo_point_98 : decode b_Mo_point 98 = .ok (.iconst 3, 1) := by decide +kernel
theorem d_Mo_point_99 : decode b_Mo_point 99 = .ok (.if_icmp .ge 35, 3) := by decide +kernel
theorem d_Mo_point_102 : decode b_Mo_point 102 = .ok (.aload_n 0, 1) := by decide +kernel
theorem d_Mo_point_103 : decode b_Mo_point 103 = .ok (.getfield 38, 3) := by decide +kernel
theorem d_Mo_point_106 : decode b_Mo_point 106 = .ok (.iconst 3, 1) := by decide +kernel
theorem d_Mo_point_107 : decode b_Mo_point 107 = .ok (.iload 5, 2) := by decide +kernel
theorem d_Mo_point_109 : decode b_Mo_point 109 = .ok (.imul, 1) := by decide +kernel
theorem d_Mo_point_110 : decode b_Mo_point 110 = .ok (.iload 6, 2) := by decide +kernel
theorem d_Mo_point_112 : decode b_Mo_point 112 = .ok (.iadd, 1) := by decide +kernel
theorem d_Mo_point_113 : decode b_Mo_point 113 = .ok (.iconst 0, 1) := by decide +kernel
theorem d_Mo_point_114 : decode b_Mo_point 114 = .ok (.iastore, 1) := by decide +kernel
theorem d_Mo_point_115 : decode b_Mo_point 115 = .ok (.aload_n 0, 1) := by decide +kernel
theorem d_Mo_point_116 : decode b_Mo_point 116 = .ok (.getfield 41, 3) := by decide +kernel
theorem d_Mo_point_119 : decode b_Mo_point 119 = .ok (.iconst 3, 1) := by decide +kernel
theorem d_Mo_point_120 : decode b_Mo_point 120 = .ok (.iload 5, 2) := by decide +kernel
theorem d_Mo_point_122 : decode b_Mo_point 122 = .ok (.imul, 1) := by decide +kernel
theorem d_Mo_point_123 : decode b_Mo_point 123 = .ok (.iload 6, 2) := by decide +kernel
theorem d_Mo_point_125 : decode b_Mo_point 125 = .ok (.iadd, 1) := by decide +kernel
theorem d_Mo_point_126 : decode b_Mo_point 126 = .ok (.iconst 0, 1) := by decide +kernel
theorem d_Mo_point_127 : decode b_Mo_point 127 = .ok (.iastore, 1) := by decide +kernel
theorem d_Mo_point_128 : decode b_Mo_point 128 = .ok (.iinc 6 1, 3) := by decide +kernel
theorem d_Mo_point_131 : decode b_Mo_point 131 = .ok (.goto (-35), 3) := by decide +kernel
theorem d_Mo_point_134 : decode b_Mo_point 134 = .ok (.aload_n 0, 1) := by decide +kernel
theorem d_Mo_point_135 : decode b_Mo_point 135 = .ok (.getfield 23, 3) := by decide +kernel
theorem d_Mo_point_138 : decode b_Mo_point 138 = .ok (.iload_n 1, 1) := by decide +kernel
theorem d_Mo_point_139 : decode b_Mo_point 139 = .ok (.dup2, 1) := by decide +kernel
theorem d_Mo_point_140 : decode b_Mo_point 140 = .ok (.iaload, 1) := by decide +kernel
theorem d_Mo_point_141 : decode b_Mo_point 141 = .ok (.iconst 1, 1) := by decide +kernel
theorem d_Mo_point_142 : decode b_Mo_point 142 = .ok (.iadd, 1) := by decide +kernel
theorem d_Mo_point_143 : decode b_Mo_point 143 = .ok (.iastore, 1) := by decide +kernel
theorem d_Mo_point_144 : decode b_Mo_point 144 = .ok (.aload_n 0, 1) := by decide +kernel
theorem d_Mo_point_145 : decode b_Mo_point 145 = .ok (.getfield 23, 3) := by decide +kernel
theorem d_Mo_point_148 : decode b_Mo_point 148 = .ok (.iload_n 1, 1) := by decide +kernel
theorem d_Mo_point_149 : decode b_Mo_point 149 = .ok (.iaload, 1) := by decide +kernel
theorem d_Mo_point_150 : decode b_Mo_point 150 = .ok (.aload_n 0, 1) := by decide +kernel
theorem d_Mo_point_151 : decode b_Mo_point 151 = .ok (.iload_n 1, 1) := by decide +kernel
theorem d_Mo_point_152 : decode b_Mo_point 152 = .ok (.invokevirtual 198, 3) := by decide +kernel
theorem d_Mo_point_155 : decode b_Mo_point 155 = .ok (.isub, 1) := by decide +kernel
theorem d_Mo_point_156 : decode b_Mo_point 156 = .ok (.ireturn, 1) := by decide +kernel
theorem d_Mo_bad_0 : decode b_Mo_bad 0 = .ok (.bipush 100, 2) := by decide +kernel
theorem d_Mo_bad_2 : decode b_Mo_bad 2 = .ok (.iload_n 1, 1) := by decide +kernel
theorem d_Mo_bad_3 : decode b_Mo_bad 3 = .ok (.imul, 1) := by decide +kernel
theorem d_Mo_bad_4 : decode b_Mo_bad 4 = .ok (.aload_n 0, 1) := by decide +kernel
theorem d_Mo_bad_5 : decode b_Mo_bad 5 = .ok (.iload_n 1, 1) := by decide +kernel
theorem d_Mo_bad_6 : decode b_Mo_bad 6 = .ok (.invokevirtual 198, 3) := by decide +kernel
theorem d_Mo_bad_9 : decode b_Mo_bad 9 = .ok (.iadd, 1) := by decide +kernel
theorem d_Mo_bad_10 : decode b_Mo_bad 10 = .ok (.istore_n 2, 1) := by decide +kernel
theorem d_Mo_bad_11 : decode b_Mo_bad 11 = .ok (.aload_n 0, 1) := by decide +kernel
theorem d_Mo_bad_12 : decode b_Mo_bad 12 = .ok (.getfield 23, 3) := by decide +kernel
theorem d_Mo_bad_15 : decode b_Mo_bad 15 = .ok (.iload_n 1, 1) := by decide +kernel
theorem d_Mo_bad_16 : decode b_Mo_bad 16 = .ok (.iaload, 1) := by decide +kernel
theorem d_Mo_bad_17 : decode b_Mo_bad 17 = .ok (.aload_n 0, 1) := by decide +kernel
theorem d_Mo_bad_18 : decode b_Mo_bad 18 = .ok (.iload_n 1, 1) := by decide +kernel
theorem d_Mo_bad_19 : decode b_Mo_bad 19 = .ok (.invokevirtual 198, 3) := by decide +kernel
theorem d_Mo_bad_22 : decode b_Mo_bad 22 = .ok (.isub, 1) := by decide +kernel
theorem d_Mo_bad_23 : decode b_Mo_bad 23 = .ok (.istore_n 3, 1) := by decide +kernel
theorem d_Mo_bad_24 : decode b_Mo_bad 24 = .ok (.iconst 1, 1) := by decide +kernel
theorem d_Mo_bad_25 : decode b_Mo_bad 25 = .ok (.istore 4, 2) := by decide +kernel
theorem d_Mo_bad_27 : decode b_Mo_bad 27 = .ok (.iconst 0, 1) := by decide +kernel
theorem d_Mo_bad_28 : decode b_Mo_bad 28 = .ok (.istore 5, 2) := by decide +kernel
theorem d_Mo_bad_30 : decode b_Mo_bad 30 = .ok (.iload 5, 2) := by decide +kernel
theorem d_Mo_bad_32 : decode b_Mo_bad 32 = .ok (.iload_n 3, 1) := by decide +kernel
theorem d_Mo_bad_33 : decode b_Mo_bad 33 = .ok (.if_icmp .ge 80, 3) := by decide +kernel
theorem d_Mo_bad_36 : decode b_Mo_bad 36 = .ok (.aload_n 0, 1) := by decide +kernel
theorem d_Mo_bad_37 : decode b_Mo_bad 37 = .ok (.getfield 35, 3) := by decide +kernel
theorem d_Mo_bad_40 : decode b_Mo_bad 40 = .ok (.iload_n 2, 1) := by decide +kernel
theorem d_Mo_bad_41 : decode b_Mo_bad 41 = .ok (.iload 5, 2) := by decide +kernel
theorem d_Mo_bad_43 : decode b_Mo_bad 43 = .ok (.iadd, 1) := by decide +kernel
theorem d_Mo_bad_44 : decode b_Mo_bad 44 = .ok (.iaload, 1) := by decide +kernel
theorem d_Mo_bad_45 : decode b_Mo_bad 45 = .ok (.istore 6, 2) := by decide +kernel
theorem d_Mo_bad_47 : decode b_Mo_bad 47 = .ok (.iload 4, 2) := by decide +kernel
theorem d_Mo_bad_49 : decode b_Mo_bad 49 = .ok (.iconst 1, 1) := by decide +kernel
theorem d_Mo_bad_50 : decode b_Mo_bad 50 = .ok (.if_icmp .ne 8, 3) := by decide +kernel
theorem d_Mo_bad_53 : decode b_Mo_bad 53 = .ok (.iload 6, 2) := by decide +kernel
theorem d_Mo_bad_55 : decode b_Mo_bad 55 = .ok (.ifCond .ne 15, 3) := by decide +kernel
theorem d_Mo_bad_58 : decode b_Mo_bad 58 = .ok (.iload 4, 2) := by decide +kernel
theorem d_Mo_bad_60 : decode b_Mo_bad 60 = .ok (.iconst 2, 1) := by decide +kernel
theorem d_Mo_bad_61 : decode b_Mo_bad 61 = .ok (.if_icmp .ne 12, 3) := by decide +kernel
theorem d_Mo_bad_64 : decode b_Mo_bad 64 = .ok (.iload 6, 2) := by decide +kernel
theorem d_Mo_bad_66 : decode b_Mo_bad 66 = .ok (.iconst 2, 1) := by decide +kernel
theorem d_Mo_bad_67 : decode b_Mo_bad 67 = .ok (.if_icmp .eq 6, 3) := by decide +kernel
theorem d_Mo_bad_70 : decode b_Mo_bad 70 = .ok (.iload 5, 2) := by decide +kernel
theorem d_Mo_bad_72 : decode b_Mo_bad 72 = .ok (.ireturn, 1) := by decide +kernel
theorem d_Mo_bad_73 : decode b_Mo_bad 73 = .ok (.iload 4, 2) := by decide +kernel
theorem d_Mo_bad_75 : decode b_Mo_bad 75 = .ok (.iconst 2, 1) := by decide +kernel
theorem d_Mo_bad_76 : decode b_Mo_bad 76 = .ok (.if_icmp .eq 9, 3) := by decide +kernel
theorem d_Mo_bad_79 : decode b_Mo_bad 79 = .ok (.iload 6, 2) := by decide +kernel
theorem d_Mo_bad_81 : decode b_Mo_bad 81 = .ok (.iconst 1, 1) := by decide +kernel
theorem d_Mo_bad_82 : decode b_Mo_bad 82 = .ok (.if_icmp .ne 7, 3) := by decide +kernel
theorem d_Mo_bad_85 : decode b_Mo_bad 85 = .ok (.iconst 1, 1) := by decide +kernel
theorem d_Mo_bad_86 : decode b_Mo_bad 86 = .ok (.goto 19, 3) := by decide +kernel
theorem d_Mo_bad_89 : decode b_Mo_bad 89 = .ok (.iload 6, 2) := by decide +kernel
theorem d_Mo_bad_91 : decode b_Mo_bad 91 = .ok (.iconst 2, 1) := by decide +kernel
theorem d_Mo_bad_92 : decode b_Mo_bad 92 = .ok (.if_icmp .ne 12, 3) := by decide +kernel
theorem d_Mo_bad_95 : decode b_Mo_bad 95 = .ok (.iload 4, 2) := by decide +kernel
theorem d_Mo_bad_97 : decode b_Mo_bad 97 = .ok (.ifCond .ne 7, 3) := by decide +kernel
theorem d_Mo_bad_100 : decode b_Mo_bad 100 = .ok (.iconst 2, 1) := by decide +kernel
theorem d_Mo_bad_101 : decode b_Mo_bad 101 = .ok (.goto 4, 3) := by decide +kernel
theorem d_Mo_bad_104 : decode b_Mo_bad 104 = .ok (.iconst 0, 1) := by decide +kernel
theorem d_Mo_bad_105 : decode b_Mo_bad 105 = .ok (.istore 4, 2) := by decide +kernel
theorem d_Mo_bad_107 : decode b_Mo_bad 107 = .ok (.iinc 5 1, 3) := by decide +kernel
theorem d_Mo_bad_110 : decode b_Mo_bad 110 = .ok (.goto (-80), 3) := by decide +kernel
theorem d_Mo_bad_113 : decode b_Mo_bad 113 = .ok (.iload_n 3, 1) := by decide +kernel
theorem d_Mo_bad_114 : decode b_Mo_bad 114 = .ok (.iconst 2, 1) := by decide +kernel
theorem d_Mo_bad_115 : decode b_Mo_bad 115 = .ok (.if_icmp .lt 9, 3) := by decide +kernel
theorem d_Mo_bad_118 : decode b_Mo_bad 118 = .ok (.iload 4, 2) := by decide +kernel
theorem d_Mo_bad_120 : decode b_Mo_bad 120 = .ok (.iconst 2, 1) := by decide +kernel
theorem d_Mo_bad_121 : decode b_Mo_bad 121 = .ok (.if_icmp .ne 7, 3) := by decide +kernel
theorem d_Mo_bad_124 : decode b_Mo_bad 124 = .ok (.iload_n 3, 1) := by decide +kernel
theorem d_Mo_bad_125 : decode b_Mo_bad 125 = .ok (.goto 4, 3) := by decide +kernel
theorem d_Mo_bad_128 : decode b_Mo_bad 128 = .ok (.iconst (-1), 1) := by decide +kernel
theorem d_Mo_bad_129 : decode b_Mo_bad 129 = .ok (.ireturn, 1) := by decide +kernel
theorem d_Mo_close_0 : decode b_Mo_close 0 = .ok (.aload_n 0, 1) := by decide +kernel
theorem d_Mo_close_1 : decode b_Mo_close 1 = .ok (.iload_n 1, 1) := by decide +kernel
theorem d_Mo_close_2 : decode b_Mo_close 2 = .ok (.invokevirtual 192, 3) := by decide +kernel
theorem d_Mo_close_5 : decode b_Mo_close 5 = .ok (.ifCond .eq 12, 3) := by decide +kernel
theorem d_Mo_close_8 : decode b_Mo_close 8 = .ok (.aload_n 0, 1) := by decide +kernel
theorem d_Mo_close_9 : decode b_Mo_close 9 = .ok (.getfield 19, 3) := by decide +kernel
theorem d_Mo_close_12 : decode b_Mo_close 12 = .ok (.iload_n 1, 1) := by decide +kernel
theorem d_Mo_close_13 : decode b_Mo_close 13 = .ok (.baload, 1) := by decide +kernel
theorem d_Mo_close_14 : decode b_Mo_close 14 = .ok (.ifCond .ne 6, 3) := by decide +kernel
theorem d_Mo_close_17 : decode b_Mo_close 17 = .ok (.bipush (-2), 2) := by decide +kernel
theorem d_Mo_close_19 : decode b_Mo_close 19 = .ok (.ireturn, 1) := by decide +kernel
theorem d_Mo_close_20 : decode b_Mo_close 20 = .ok (.aload_n 0, 1) := by decide +kernel
theorem d_Mo_close_21 : decode b_Mo_close 21 = .ok (.iload_n 1, 1) := by decide +kernel
theorem d_Mo_close_22 : decode b_Mo_close 22 = .ok (.invokevirtual 202, 3) := by decide +kernel
theorem d_Mo_close_25 : decode b_Mo_close 25 = .ok (.istore_n 2, 1) := by decide +kernel
theorem d_Mo_close_26 : decode b_Mo_close 26 = .ok (.iload_n 2, 1) := by decide +kernel
theorem d_Mo_close_27 : decode b_Mo_close 27 = .ok (.iconst (-1), 1) := by decide +kernel
theorem d_Mo_close_28 : decode b_Mo_close 28 = .ok (.if_icmp .eq 7, 3) := by decide +kernel
theorem d_Mo_close_31 : decode b_Mo_close 31 = .ok (.iconst 1, 1) := by decide +kernel
theorem d_Mo_close_32 : decode b_Mo_close 32 = .ok (.iload_n 2, 1) := by decide +kernel
theorem d_Mo_close_33 : decode b_Mo_close 33 = .ok (.iadd, 1) := by decide +kernel
theorem d_Mo_close_34 : decode b_Mo_close 34 = .ok (.ireturn, 1) := by decide +kernel
theorem d_Mo_close_35 : decode b_Mo_close 35 = .ok (.aload_n 0, 1) := by decide +kernel
theorem d_Mo_close_36 : decode b_Mo_close 36 = .ok (.getfield 26, 3) := by decide +kernel
theorem d_Mo_close_39 : decode b_Mo_close 39 = .ok (.bipush 8, 2) := by decide +kernel
theorem d_Mo_close_41 : decode b_Mo_close 41 = .ok (.iload_n 1, 1) := by decide +kernel
theorem d_Mo_close_42 : decode b_Mo_close 42 = .ok (.imul, 1) := by decide +kernel
theorem d_Mo_close_43 : decode b_Mo_close 43 = .ok (.aload_n 0, 1) := by decide +kernel
theorem d_Mo_close_44 : decode b_Mo_close 44 = .ok (.getfield 16, 3) := by decide +kernel
theorem d_Mo_close_47 : decode b_Mo_close 47 = .ok (.iload_n 1, 1) := by decide +kernel
theorem d_Mo_close_48 : decode b_Mo_close 48 = .ok (.iaload, 1) := by decide +kernel
theorem d_Mo_close_49 : decode b_Mo_close 49 = .ok (.iadd, 1) := by decide +kernel
theorem d_Mo_close_50 : decode b_Mo_close 50 = .ok (.aload_n 0, 1) := by decide +kernel
theorem d_Mo_close_51 : decode b_Mo_close 51 = .ok (.getfield 23, 3) := by decide +kernel
theorem d_Mo_close_54 : decode b_Mo_close 54 = .ok (.iload_n 1, 1) := by decide +kernel
theorem d_Mo_close_55 : decode b_Mo_close 55 = .ok (.iaload, 1) := by decide +kernel
theorem d_Mo_close_56 : decode b_Mo_close 56 = .ok (.iastore, 1) := by decide +kernel
theorem d_Mo_close_57 : decode b_Mo_close 57 = .ok (.aload_n 0, 1) := by decide +kernel
theorem d_Mo_close_58 : decode b_Mo_close 58 = .ok (.getfield 16, 3) := by decide +kernel
theorem d_Mo_close_61 : decode b_Mo_close 61 = .ok (.iload_n 1, 1) := by decide +kernel
theorem d_Mo_close_62 : decode b_Mo_close 62 = .ok (.dup2, 1) := by decide +kernel
theorem d_Mo_close_63 : decode b_Mo_close 63 = .ok (.iaload, 1) := by decide +kernel
theorem d_Mo_close_64 : decode b_Mo_close 64 = .ok (.iconst 1, 1) := by decide +kernel
theorem d_Mo_close_65 : decode b_Mo_close 65 = .ok (.iadd, 1) := by decide +kernel
theorem d_Mo_close_66 : decode b_Mo_close 66 = .ok (.iastore, 1) := by decide +kernel
theorem d_Mo_close_67 : decode b_Mo_close 67 = .ok (.aload_n 0, 1) := by decide +kernel
theorem d_Mo_close_68 : decode b_Mo_close 68 = .ok (.getfield 19, 3) := by decide +kernel
theorem d_Mo_close_71 : decode b_Mo_close 71 = .ok (.iload_n 1, 1) := by decide +kernel
theorem d_Mo_close_72 : decode b_Mo_close 72 = .ok (.iconst 0, 1) := by decide +kernel
theorem d_Mo_close_73 : decode b_Mo_close 73 = .ok (.bastore, 1) := by decide +kernel
theorem d_Mo_close_74 : decode b_Mo_close 74 = .ok (.iconst 0, 1) := by decide +kernel
theorem d_Mo_close_75 : decode b_Mo_close 75 = .ok (.ireturn, 1) := by decide +kernel
theorem d_Mo_drop_0 : decode b_Mo_drop 0 = .ok (.aload_n 0, 1) := by decide +kernel
theorem d_Mo_drop_1 : decode b_Mo_drop 1 = .ok (.iload_n 1, 1) := by decide +kernel
theorem d_Mo_drop_2 : decode b_Mo_drop 2 = .ok (.invokevirtual 192, 3) := by decide +kernel
theorem d_Mo_drop_5 : decode b_Mo_drop 5 = .ok (.ifCond .eq 21, 3) := by decide +kernel
theorem d_Mo_drop_8 : decode b_Mo_drop 8 = .ok (.aload_n 0, 1) := by decide +kernel
theorem d_Mo_drop_9 : decode b_Mo_drop 9 = .ok (.getfield 16, 3) := by decide +kernel
theorem d_Mo_drop_12 : decode b_Mo_drop 12 = .ok (.iload_n 1, 1) := by decide +kernel
theorem d_Mo_drop_13 : decode b_Mo_drop 13 = .ok (.iaload, 1) := by decide +kernel
theorem d_Mo_drop_14 : decode b_Mo_drop 14 = .ok (.ifCond .ne 14, 3) := by decide +kernel
theorem d_Mo_drop_17 : decode b_Mo_drop 17 = .ok (.aload_n 0, 1) := by decide +kernel
theorem d_Mo_drop_18 : decode b_Mo_drop 18 = .ok (.getfield 19, 3) := by decide +kernel
theorem d_Mo_drop_21 : decode b_Mo_drop 21 = .ok (.iload_n 1, 1) := by decide +kernel
theorem d_Mo_drop_22 : decode b_Mo_drop 22 = .ok (.baload, 1) := by decide +kernel
theorem d_Mo_drop_23 : decode b_Mo_drop 23 = .ok (.ifCond .ne 5, 3) := by decide +kernel
theorem d_Mo_drop_26 : decode b_Mo_drop 26 = .ok (.iconst (-1), 1) := by decide +kernel
theorem d_Mo_drop_27 : decode b_Mo_drop 27 = .ok (.ireturn, 1) := by decide +kernel
theorem d_Mo_drop_28 : decode b_Mo_drop 28 = .ok (.aload_n 0, 1) := by decide +kernel
theorem d_Mo_drop_29 : decode b_Mo_drop 29 = .ok (.getfield 19, 3) := by decide +kernel
theorem d_Mo_drop_32 : decode b_Mo_drop 32 = .ok (.iload_n 1, 1) := by decide +kernel
theorem d_Mo_drop_33 : decode b_Mo_drop 33 = .ok (.baload, 1) := by decide +kernel
theorem d_Mo_drop_34 : decode b_Mo_drop 34 = .ok (.ifCond .eq 13, 3) := by decide +kernel
theorem d_Mo_drop_37 : decode b_Mo_drop 37 = .ok (.aload_n 0, 1) := by decide +kernel
theorem d_Mo_drop_38 : decode b_Mo_drop 38 = .ok (.getfield 19, 3) := by decide +kernel
theorem d_Mo_drop_41 : decode b_Mo_drop 41 = .ok (.iload_n 1, 1) := by decide +kernel
theorem d_Mo_drop_42 : decode b_Mo_drop 42 = .ok (.iconst 0, 1) := by decide +kernel
theorem d_Mo_drop_43 : decode b_Mo_drop 43 = .ok (.bastore, 1) := by decide +kernel
theorem d_Mo_drop_44 : decode b_Mo_drop 44 = .ok (.goto 13, 3) := by decide +kernel
theorem d_Mo_drop_47 : decode b_Mo_drop 47 = .ok (.aload_n 0, 1) := by decide +kernel
theorem d_Mo_drop_48 : decode b_Mo_drop 48 = .ok (.getfield 16, 3) := by decide +kernel
theorem d_Mo_drop_51 : decode b_Mo_drop 51 = .ok (.iload_n 1, 1) := by decide +kernel
theorem d_Mo_drop_52 : decode b_Mo_drop 52 = .ok (.dup2, 1) := by decide +kernel
theorem d_Mo_drop_53 : decode b_Mo_drop 53 = .ok (.iaload, 1) := by decide +kernel
theorem d_Mo_drop_54 : decode b_Mo_drop 54 = .ok (.iconst 1, 1) := by decide +kernel
theorem d_Mo_drop_55 : decode b_Mo_drop 55 = .ok (.isub, 1) := by decide +kernel
theorem d_Mo_drop_56 : decode b_Mo_drop 56 = .ok (.iastore, 1) := by decide +kernel
theorem d_Mo_drop_57 : decode b_Mo_drop 57 = .ok (.aload_n 0, 1) := by decide +kernel
theorem d_Mo_drop_58 : decode b_Mo_drop 58 = .ok (.getfield 23, 3) := by decide +kernel
theorem d_Mo_drop_61 : decode b_Mo_drop 61 = .ok (.iload_n 1, 1) := by decide +kernel
theorem d_Mo_drop_62 : decode b_Mo_drop 62 = .ok (.aload_n 0, 1) := by decide +kernel
theorem d_Mo_drop_63 : decode b_Mo_drop 63 = .ok (.iload_n 1, 1) := by decide +kernel
theorem d_Mo_drop_64 : decode b_Mo_drop 64 = .ok (.invokevirtual 198, 3) := by decide +kernel
theorem d_Mo_drop_67 : decode b_Mo_drop 67 = .ok (.iastore, 1) := by decide +kernel
theorem d_Mo_drop_68 : decode b_Mo_drop 68 = .ok (.aload_n 0, 1) := by decide +kernel
theorem d_Mo_drop_69 : decode b_Mo_drop 69 = .ok (.getfield 16, 3) := by decide +kernel
theorem d_Mo_drop_72 : decode b_Mo_drop 72 = .ok (.iload_n 1, 1) := by decide +kernel
theorem d_Mo_drop_73 : decode b_Mo_drop 73 = .ok (.iaload, 1) := by decide +kernel
theorem d_Mo_drop_74 : decode b_Mo_drop 74 = .ok (.ireturn, 1) := by decide +kernel
theorem d_Mo_isPoint_0 : decode b_Mo_isPoint 0 = .ok (.aload_n 0, 1) := by decide +kernel
theorem d_Mo_isPoint_1 : decode b_Mo_isPoint 1 = .ok (.iload_n 1, 1) := by decide +kernel
theorem d_Mo_isPoint_2 : decode b_Mo_isPoint 2 = .ok (.invokevirtual 192, 3) := by decide +kernel
theorem d_Mo_isPoint_5 : decode b_Mo_isPoint 5 = .ok (.ifCond .eq 20, 3) := by decide +kernel
theorem d_Mo_isPoint_8 : decode b_Mo_isPoint 8 = .ok (.iload_n 2, 1) := by decide +kernel
theorem d_Mo_isPoint_9 : decode b_Mo_isPoint 9 = .ok (.ifCond .lt 16, 3) := by decide +kernel
theorem d_Mo_isPoint_12 : decode b_Mo_isPoint 12 = .ok (.iload_n 2, 1) := by decide +kernel
theorem d_Mo_isPoint_13 : decode b_Mo_isPoint 13 = .ok (.aload_n 0, 1) := by decide +kernel
theorem d_Mo_isPoint_14 : decode b_Mo_isPoint 14 = .ok (.iload_n 1, 1) := by decide +kernel
theorem d_Mo_isPoint_15 : decode b_Mo_isPoint 15 = .ok (.invokevirtual 198, 3) := by decide +kernel
theorem d_Mo_isPoint_18 : decode b_Mo_isPoint 18 = .ok (.if_icmp .ge 7, 3) := by decide +kernel
theorem d_Mo_isPoint_21 : decode b_Mo_isPoint 21 = .ok (.iconst 1, 1) := by decide +kernel
theorem d_Mo_isPoint_22 : decode b_Mo_isPoint 22 = .ok (.goto 4, 3) := by decide +kernel
theorem d_Mo_isPoint_25 : decode b_Mo_isPoint 25 = .ok (.iconst 0, 1) := by decide +kernel
theorem d_Mo_isPoint_26 : decode b_Mo_isPoint 26 = .ok (.ireturn, 1) := by decide +kernel
theorem d_Mo_move_0 : decode b_Mo_move 0 = .ok (.aload_n 0, 1) := by decide +kernel
theorem d_Mo_move_1 : decode b_Mo_move 1 = .ok (.iload_n 1, 1) := by decide +kernel
theorem d_Mo_move_2 : decode b_Mo_move 2 = .ok (.iload_n 2, 1) := by decide +kernel
theorem d_Mo_move_3 : decode b_Mo_move 3 = .ok (.invokevirtual 205, 3) := by decide +kernel
theorem d_Mo_move_6 : decode b_Mo_move 6 = .ok (.ifCond .eq 18, 3) := by decide +kernel
theorem d_Mo_move_9 : decode b_Mo_move 9 = .ok (.iload_n 3, 1) := by decide +kernel
theorem d_Mo_move_10 : decode b_Mo_move 10 = .ok (.invokestatic 195, 3) := by decide +kernel
theorem d_Mo_move_13 : decode b_Mo_move 13 = .ok (.ifCond .eq 11, 3) := by decide +kernel
theorem d_Mo_move_16 : decode b_Mo_move 16 = .ok (.iload 4, 2) := by decide +kernel
theorem d_Mo_move_18 : decode b_Mo_move 18 = .ok (.invokestatic 195, 3) := by decide +kernel
theorem d_Mo_move_21 : decode b_Mo_move 21 = .ok (.ifCond .ne 5, 3) := by decide +kernel
theorem d_Mo_move_24 : decode b_Mo_move 24 = .ok (.iconst 0, 1) := by decide +kernel
theorem d_Mo_move_25 : decode b_Mo_move 25 = .ok (.ireturn, 1) := by decide +kernel
theorem d_Mo_move_26 : decode b_Mo_move 26 = .ok (.aload_n 0, 1) := by decide +kernel
theorem d_Mo_move_27 : decode b_Mo_move 27 = .ok (.getfield 29, 3) := by decide +kernel
theorem d_Mo_move_30 : decode b_Mo_move 30 = .ok (.bipush 100, 2) := by decide +kernel
theorem d_Mo_move_32 : decode b_Mo_move 32 = .ok (.iload_n 1, 1) := by decide +kernel
theorem d_Mo_move_33 : decode b_Mo_move 33 = .ok (.imul, 1) := by decide +kernel
theorem d_Mo_move_34 : decode b_Mo_move 34 = .ok (.iload_n 2, 1) := by decide +kernel
theorem d_Mo_move_35 : decode b_Mo_move 35 = .ok (.iadd, 1) := by decide +kernel
theorem d_Mo_move_36 : decode b_Mo_move 36 = .ok (.iload_n 3, 1) := by decide +kernel
theorem d_Mo_move_37 : decode b_Mo_move 37 = .ok (.iastore, 1) := by decide +kernel
theorem d_Mo_move_38 : decode b_Mo_move 38 = .ok (.aload_n 0, 1) := by decide +kernel
theorem d_Mo_move_39 : decode b_Mo_move 39 = .ok (.getfield 32, 3) := by decide +kernel
theorem d_Mo_move_42 : decode b_Mo_move 42 = .ok (.bipush 100, 2) := by decide +kernel
theorem d_Mo_move_44 : decode b_Mo_move 44 = .ok (.iload_n 1, 1) := by decide +kernel
theorem d_Mo_move_45 : decode b_Mo_move 45 = .ok (.imul, 1) := by decide +kernel
theorem d_Mo_move_46 : decode b_Mo_move 46 = .ok (.iload_n 2, 1) := by decide +kernel
theorem d_Mo_move_47 : decode b_Mo_move 47 = .ok (.iadd, 1) := by decide +kernel
theorem d_Mo_move_48 : decode b_Mo_move 48 = .ok (.iload 4, 2) := by decide +kernel
theorem d_Mo_move_50 : decode b_Mo_move 50 = .ok (.iastore, 1) := by decide +kernel
theorem d_Mo_move_51 : decode b_Mo_move 51 = .ok (.iconst 1, 1) := by decide +kernel
theorem d_Mo_move_52 : decode b_Mo_move 52 = .ok (.ireturn, 1) := by decide +kernel
theorem d_Mo_beginOf_0 : decode b_Mo_beginOf 0 = .ok (.iload_n 2, 1) := by decide +kernel
theorem d_Mo_beginOf_1 : decode b_Mo_beginOf 1 = .ok (.ifCond .ne 7, 3) := by decide +kernel
theorem d_Mo_beginOf_4 : decode b_Mo_beginOf 4 = .ok (.iconst 0, 1) := by decide +kernel
theorem d_Mo_beginOf_5 : decode b_Mo_beginOf 5 = .ok (.goto 16, 3) := by decide +kernel
theorem d_Mo_beginOf_8 : decode b_Mo_beginOf 8 = .ok (.aload_n 0, 1) := by decide +kernel
theorem d_Mo_beginOf_9 : decode b_Mo_beginOf 9 = .ok (.getfield 26, 3) := by decide +kernel
theorem d_Mo_beginOf_12 : decode b_Mo_beginOf 12 = .ok (.bipush 8, 2) := by decide +kernel
theorem d_Mo_beginOf_14 : decode b_Mo_beginOf 14 = .ok (.iload_n 1, 1) := by decide +kernel
theorem d_Mo_beginOf_15 : decode b_Mo_beginOf 15 = .ok (.imul, 1) := by decide +kernel
theorem d_Mo_beginOf_16 : decode b_Mo_beginOf 16 = .ok (.iload_n 2, 1) := by decide +kernel
theorem d_Mo_beginOf_17 : decode b_Mo_beginOf 17 = .ok (.iadd, 1) := by decide +kernel
theorem d_Mo_beginOf_18 : decode b_Mo_beginOf 18 = .ok (.iconst 1, 1) := by decide +kernel
theorem d_Mo_beginOf_19 : decode b_Mo_beginOf 19 = .ok (.isub, 1) := by decide +kernel
theorem d_Mo_beginOf_20 : decode b_Mo_beginOf 20 = .ok (.iaload, 1) := by decide +kernel
theorem d_Mo_beginOf_21 : decode b_Mo_beginOf 21 = .ok (.ireturn, 1) := by decide +kernel
theorem d_Mo_swap_0 : decode b_Mo_swap 0 = .ok (.aload_n 1, 1) := by decide +kernel
theorem d_Mo_swap_1 : decode b_Mo_swap 1 = .ok (.iload_n 2, 1) := by decide +kernel
theorem d_Mo_swap_2 : decode b_Mo_swap 2 = .ok (.iaload, 1) := by decide +kernel
theorem d_Mo_swap_3 : decode b_Mo_swap 3 = .ok (.istore 4, 2) := by decide +kernel
theorem d_Mo_swap_5 : decode b_Mo_swap 5 = .ok (.aload_n 1, 1) := by decide +kernel
theorem d_Mo_swap_6 : decode b_Mo_swap 6 = .ok (.iload_n 2, 1) := by decide +kernel
theorem d_Mo_swap_7 : decode b_Mo_swap 7 = .ok (.aload_n 1, 1) := by decide +kernel
theorem d_Mo_swap_8 : decode b_Mo_swap 8 = .ok (.iload_n 3, 1) := by decide +kernel
theorem d_Mo_swap_9 : decode b_Mo_swap 9 = .ok (.iaload, 1) := by decide +kernel
theorem d_Mo_swap_10 : decode b_Mo_swap 10 = .ok (.iastore, 1) := by decide +kernel
theorem d_Mo_swap_11 : decode b_Mo_swap 11 = .ok (.aload_n 1, 1) := by decide +kernel
theorem d_Mo_swap_12 : decode b_Mo_swap 12 = .ok (.iload_n 3, 1) := by decide +kernel
theorem d_Mo_swap_13 : decode b_Mo_swap 13 = .ok (.iload 4, 2) := by decide +kernel
theorem d_Mo_swap_15 : decode b_Mo_swap 15 = .ok (.iastore, 1) := by decide +kernel
theorem d_Mo_swap_16 : decode b_Mo_swap 16 = .ok (.return_, 1) := by decide +kernel
theorem d_Mo_reverse_0 : decode b_Mo_reverse 0 = .ok (.aload_n 0, 1) := by decide +kernel
theorem d_Mo_reverse_1 : decode b_Mo_reverse 1 = .ok (.iload_n 1, 1) := by decide +kernel
theorem d_Mo_reverse_2 : decode b_Mo_reverse 2 = .ok (.invokevirtual 192, 3) := by decide +kernel
theorem d_Mo_reverse_5 : decode b_Mo_reverse 5 = .ok (.ifCond .eq 17, 3) := by decide +kernel
theorem d_Mo_reverse_8 : decode b_Mo_reverse 8 = .ok (.iload_n 2, 1) := by decide +kernel
theorem d_Mo_reverse_9 : decode b_Mo_reverse 9 = .ok (.ifCond .lt 13, 3) := by decide +kernel
theorem d_Mo_reverse_12 : decode b_Mo_reverse 12 = .ok (.iload_n 2, 1) := by decide +kernel
theorem d_Mo_reverse_13 : decode b_Mo_reverse 13 = .ok (.aload_n 0, 1) := by decide +kernel
theorem d_Mo_reverse_14 : decode b_Mo_reverse 14 = .ok (.getfield 16, 3) := by decide +kernel
theorem d_Mo_reverse_17 : decode b_Mo_reverse 17 = .ok (.iload_n 1, 1) := by decide +kernel
theorem d_Mo_reverse_18 : decode b_Mo_reverse 18 = .ok (.iaload, 1) := by decide +kernel
theorem d_Mo_reverse_19 : decode b_Mo_reverse 19 = .ok (.if_icmp .lt 5, 3) := by decide +kernel
theorem d_Mo_reverse_22 : decode b_Mo_reverse 22 = .ok (.iconst 0, 1) := by decide +kernel
theorem d_Mo_reverse_23 : decode b_Mo_reverse 23 = .ok (.ireturn, 1) := by decide +kernel
theorem d_Mo_reverse_24 : decode b_Mo_reverse 24 = .ok (.bipush 100, 2) := by decide +kernel
theorem d_Mo_reverse_26 : decode b_Mo_reverse 26 = .ok (.iload_n 1, 1) := by decide +kernel
theorem d_Mo_reverse_27 : decode b_Mo_reverse 27 = .ok (.imul, 1) := by decide +kernel
theorem d_Mo_reverse_28 : decode b_Mo_reverse 28 = .ok (.aload_n 0, 1) := by decide +kernel
theorem d_Mo_reverse_29 : decode b_Mo_reverse 29 = .ok (.iload_n 1, 1) := by decide +kernel
theorem d_Mo_reverse_30 : decode b_Mo_reverse 30 = .ok (.iload_n 2, 1) := by decide +kernel
theorem d_Mo_reverse_31 : decode b_Mo_reverse 31 = .ok (.invokevirtual 209, 3) := by decide +kernel
theorem d_Mo_reverse_34 : decode b_Mo_reverse 34 = .ok (.iadd, 1) := by decide +kernel
theorem d_Mo_reverse_35 : decode b_Mo_reverse 35 = .ok (.iconst 1, 1) := by decide +kernel
theorem d_Mo_reverse_36 : decode b_Mo_reverse 36 = .ok (.iadd, 1) := by decide +kernel
theorem d_Mo_reverse_37 : decode b_Mo_reverse 37 = .ok (.istore_n 3, 1) := by decide +kernel
theorem d_Mo_reverse_38 : decode b_Mo_reverse 38 = .ok (.bipush 100, 2) := by decide +kernel
theorem d_Mo_reverse_40 : decode b_Mo_reverse 40 = .ok (.iload_n 1, 1) := by decide +kernel
theorem d_Mo_reverse_41 : decode b_Mo_reverse 41 = .ok (.imul, 1) := by decide +kernel
theorem d_Mo_reverse_42 : decode b_Mo_reverse 42 = .ok (.aload_n 0, 1) := by decide +kernel
theorem d_Mo_reverse_43 : decode b_Mo_reverse 43 = .ok (.getfield 26, 3) := by decide +kernel
theorem d_Mo_reverse_46 : decode b_Mo_reverse 46 = .ok (.bipush 8, 2) := by decide +kernel
theorem d_Mo_reverse_48 : decode b_Mo_reverse 48 = .ok (.iload_n 1, 1) := by decide +kernel
theorem d_Mo_reverse_49 : decode b_Mo_reverse 49 = .ok (.imul, 1) := by decide +kernel
theorem d_Mo_reverse_50 : decode b_Mo_reverse 50 = .ok (.iload_n 2, 1) := by decide +kernel
theorem d_Mo_reverse_51 : decode b_Mo_reverse 51 = .ok (.iadd, 1) := by decide +kernel
theorem d_Mo_reverse_52 : decode b_Mo_reverse 52 = .ok (.iaload, 1) := by decide +kernel
theorem d_Mo_reverse_53 : decode b_Mo_reverse 53 = .ok (.iadd, 1) := by decide +kernel
theorem d_Mo_reverse_54 : decode b_Mo_reverse 54 = .ok (.iconst 1, 1) := by decide +kernel
theorem d_Mo_reverse_55 : decode b_Mo_reverse 55 = .ok (.isub, 1) := by decide +kernel
theorem d_Mo_reverse_56 : decode b_Mo_reverse 56 = .ok (.istore 4, 2) := by decide +kernel
theorem d_Mo_reverse_58 : decode b_Mo_reverse 58 = .ok (.iload_n 3, 1) := by decide +kernel
theorem d_Mo_reverse_59 : decode b_Mo_reverse 59 = .ok (.iload 4, 2) := by decide +kernel
theorem d_Mo_reverse_61 : decode b_Mo_reverse 61 = .ok (.if_icmp .ge 102, 3) := by decide +kernel
theorem d_Mo_reverse_64 : decode b_Mo_reverse 64 = .ok (.aload_n 0, 1) := by decide +kernel
theorem d_Mo_reverse_65 : decode b_Mo_reverse 65 = .ok (.aload_n 0, 1) := by decide +kernel
theorem d_Mo_reverse_66 : decode b_Mo_reverse 66 = .ok (.getfield 29, 3) := by decide +kernel
theorem d_Mo_reverse_69 : decode b_Mo_reverse 69 = .ok (.iload_n 3, 1) := by decide +kernel
theorem d_Mo_reverse_70 : decode b_Mo_reverse 70 = .ok (.iload 4, 2) := by decide +kernel
theorem d_Mo_reverse_72 : decode b_Mo_reverse 72 = .ok (.invokevirtual 213, 3) := by decide +kernel
theorem d_Mo_reverse_75 : decode b_Mo_reverse 75 = .ok (.aload_n 0, 1) := by decide +kernel
theorem d_Mo_reverse_76 : decode b_Mo_reverse 76 = .ok (.aload_n 0, 1) := by decide +kernel
theorem d_Mo_reverse_77 : decode b_Mo_reverse 77 = .ok (.getfield 32, 3) := by decide +kernel
theorem d_Mo_reverse_80 : decode b_Mo_reverse 80 = .ok (.iload_n 3, 1) := by decide +kernel
theorem d_Mo_reverse_81 : decode b_Mo_reverse 81 = .ok (.iload 4, 2) := by decide +kernel
theorem d_Mo_reverse_83 : decode b_Mo_reverse 83 = .ok (.invokevirtual 213, 3) := by decide +kernel
theorem d_Mo_reverse_86 : decode b_Mo_reverse 86 = .ok (.aload_n 0, 1) := by decide +kernel
theorem d_Mo_reverse_87 : decode b_Mo_reverse 87 = .ok (.aload_n 0, 1) := by decide +kernel
theorem d_Mo_reverse_88 : decode b_Mo_reverse 88 = .ok (.getfield 35, 3) := by decide +kernel
theorem d_Mo_reverse_91 : decode b_Mo_reverse 91 = .ok (.iload_n 3, 1) := by decide +kernel
theorem d_Mo_reverse_92 : decode b_Mo_reverse 92 = .ok (.iload 4, 2) := by decide +kernel
theorem d_Mo_reverse_94 : decode b_Mo_reverse 94 = .ok (.invokevirtual 213, 3) := by decide +kernel
theorem d_Mo_reverse_97 : decode b_Mo_reverse 97 = .ok (.iconst 0, 1) := by decide +kernel
theorem d_Mo_reverse_98 : decode b_Mo_reverse 98 = .ok (.istore 5, 2) := by decide +kernel
theorem d_Mo_reverse_100 : decode b_Mo_reverse 100 = .ok (.iload 5, 2) := by decide +kernel
theorem d_Mo_reverse_102 : decode b_Mo_reverse 102 = .ok (.iconst 3, 1) := by decide +kernel
theorem d_Mo_reverse_103 : decode b_Mo_reverse 103 = .ok (.if_icmp .ge 51, 3) := by decide +kernel
theorem d_Mo_reverse_106 : decode b_Mo_reverse 106 = .ok (.aload_n 0, 1) := by decide +kernel
theorem d_Mo_reverse_107 : decode b_Mo_reverse 107 = .ok (.aload_n 0, 1) := by decide +kernel
theorem d_Mo_reverse_108 : decode b_Mo_reverse 108 = .ok (.getfield 38, 3) := by decide +kernel
theorem d_Mo_reverse_111 : decode b_Mo_reverse 111 = .ok (.iconst 3, 1) := by decide +kernel
theorem d_Mo_reverse_112 : decode b_Mo_reverse 112 = .ok (.iload_n 3, 1) := by decide +kernel
theorem d_Mo_reverse_113 : decode b_Mo_reverse 113 = .ok (.imul, 1) := by decide +kernel
theorem d_Mo_reverse_114 : decode b_Mo_reverse 114 = .ok (.iload 5, 2) := by decide +kernel
theorem d_Mo_reverse_116 : decode b_Mo_reverse 116 = .ok (.iadd, 1) := by decide +kernel
theorem d_Mo_reverse_117 : decode b_Mo_reverse 117 = .ok (.iconst 3, 1) := by decide +kernel
theorem d_Mo_reverse_118 : decode b_Mo_reverse 118 = .ok (.iload 4, 2) := by decide +kernel
theorem d_Mo_reverse_120 : decode b_Mo_reverse 120 = .ok (.imul, 1) := by decide +kernel
theorem d_Mo_reverse_121 : decode b_Mo_reverse 121 = .ok (.iload 5, 2) := by decide +kernel
theorem d_Mo_reverse_123 : decode b_Mo_reverse 123 = .ok (.iadd, 1) := by decide +kernel
theorem d_Mo_reverse_124 : decode b_Mo_reverse 124 = .ok (.invokevirtual 213, 3) := by decide +kernel
theorem d_Mo_reverse_127 : decode b_Mo_reverse 127 = .ok (.aload_n 0, 1) := by decide +kernel
theorem d_Mo_reverse_128 : decode b_Mo_reverse 128 = .ok (.aload_n 0, 1) := by decide +kernel
theorem d_Mo_reverse_129 : decode b_Mo_reverse 129 = .ok (.getfield 41, 3) := by decide +kernel
theorem d_Mo_reverse_132 : decode b_Mo_reverse 132 = .ok (.iconst 3, 1) := by decide +kernel
theorem d_Mo_reverse_133 : decode b_Mo_reverse 133 = .ok (.iload_n 3, 1) := by decide +kernel
theorem d_Mo_reverse_134 : decode b_Mo_reverse 134 = .ok (.imul, 1) := by decide +kernel
theorem d_Mo_reverse_135 : decode b_Mo_reverse 135 = .ok (.iload 5, 2) := by decide +kernel
theorem d_Mo_reverse_137 : decode b_Mo_reverse 137 = .ok (.iadd, 1) := by decide +kernel
theorem d_Mo_reverse_138 : decode b_Mo_reverse 138 = .ok (.iconst 3, 1) := by decide +kernel
theorem d_Mo_reverse_139 : decode b_Mo_reverse 139 = .ok (.iload 4, 2) := by decide +kernel
theorem d_Mo_reverse_141 : decode b_Mo_reverse 141 = .ok (.imul, 1) := by decide +kernel
theorem d_Mo_reverse_142 : decode b_Mo_reverse 142 = .ok (.iload 5, 2) := by decide +kernel
theorem d_Mo_reverse_144 : decode b_Mo_reverse 144 = .ok (.iadd, 1) := by decide +kernel
theorem d_Mo_reverse_145 : decode b_Mo_reverse 145 = .ok (.invokevirtual 213, 3) := by decide +kernel
theorem d_Mo_reverse_148 : decode b_Mo_reverse 148 = .ok (.iinc 5 1, 3) := by decide +kernel
theorem d_Mo_reverse_151 : decode b_Mo_reverse 151 = .ok (.goto (-51), 3) := by decide +kernel
theorem d_Mo_reverse_154 : decode b_Mo_reverse 154 = .ok (.iinc 3 1, 3) := by decide +kernel
theorem d_Mo_reverse_157 : decode b_Mo_reverse 157 = .ok (.iinc 4 (-1), 3) := by decide +kernel
theorem d_Mo_reverse_160 : decode b_Mo_reverse 160 = .ok (.goto (-102), 3) := by decide +kernel
theorem d_Mo_reverse_163 : decode b_Mo_reverse 163 = .ok (.iconst 1, 1) := by decide +kernel
theorem d_Mo_reverse_164 : decode b_Mo_reverse 164 = .ok (.ireturn, 1) := by decide +kernel
theorem d_Mo_depth_0 : decode b_Mo_depth 0 = .ok (.iconst 0, 1) := by decide +kernel
theorem d_Mo_depth_1 : decode b_Mo_depth 1 = .ok (.istore_n 2, 1) := by decide +kernel
theorem d_Mo_depth_2 : decode b_Mo_depth 2 = .ok (.iconst 0, 1) := by decide +kernel
theorem d_Mo_depth_3 : decode b_Mo_depth 3 = .ok (.istore_n 3, 1) := by decide +kernel
theorem d_Mo_depth_4 : decode b_Mo_depth 4 = .ok (.aload_n 0, 1) := by decide +kernel
theorem d_Mo_depth_5 : decode b_Mo_depth 5 = .ok (.getfield 68, 3) := by decide +kernel
theorem d_Mo_depth_8 : decode b_Mo_depth 8 = .ok (.iconst 0, 1) := by decide +kernel
theorem d_Mo_depth_9 : decode b_Mo_depth 9 = .ok (.iload_n 1, 1) := by decide +kernel
theorem d_Mo_depth_10 : decode b_Mo_depth 10 = .ok (.iastore, 1) := by decide +kernel
theorem d_Mo_depth_11 : decode b_Mo_depth 11 = .ok (.aload_n 0, 1) := by decide +kernel
theorem d_Mo_depth_12 : decode b_Mo_depth 12 = .ok (.getfield 71, 3) := by decide +kernel
theorem d_Mo_depth_15 : decode b_Mo_depth 15 = .ok (.iconst 0, 1) := by decide +kernel
theorem d_Mo_depth_16 : decode b_Mo_depth 16 = .ok (.iconst 0, 1) := by decide +kernel
theorem d_Mo_depth_17 : decode b_Mo_depth 17 = .ok (.iastore, 1) := by decide +kernel
theorem d_Mo_depth_18 : decode b_Mo_depth 18 = .ok (.iload_n 3, 1) := by decide +kernel
theorem d_Mo_depth_19 : decode b_Mo_depth 19 = .ok (.ifCond .lt 90, 3) := by decide +kernel
theorem d_Mo_depth_22 : decode b_Mo_depth 22 = .ok (.aload_n 0, 1) := by decide +kernel
theorem d_Mo_depth_23 : decode b_Mo_depth 23 = .ok (.getfield 71, 3) := by decide +kernel
theorem d_Mo_depth_26 : decode b_Mo_depth 26 = .ok (.iload_n 3, 1) := by decide +kernel
theorem d_Mo_depth_27 : decode b_Mo_depth 27 = .ok (.iaload, 1) := by decide +kernel
theorem d_Mo_depth_28 : decode b_Mo_depth 28 = .ok (.aload_n 0, 1) := by decide +kernel
theorem d_Mo_depth_29 : decode b_Mo_depth 29 = .ok (.getfield 44, 3) := by decide +kernel
theorem d_Mo_depth_32 : decode b_Mo_depth 32 = .ok (.aload_n 0, 1) := by decide +kernel
theorem d_Mo_depth_33 : decode b_Mo_depth 33 = .ok (.getfield 68, 3) := by decide +kernel
theorem d_Mo_depth_36 : decode b_Mo_depth 36 = .ok (.iload_n 3, 1) := by decide +kernel
theorem d_Mo_depth_37 : decode b_Mo_depth 37 = .ok (.iaload, 1) := by decide +kernel
theorem d_Mo_depth_38 : decode b_Mo_depth 38 = .ok (.iaload, 1) := by decide +kernel
theorem d_Mo_depth_39 : decode b_Mo_depth 39 = .ok (.if_icmp .ne 9, 3) := by decide +kernel
