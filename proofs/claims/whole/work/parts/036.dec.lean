theorem d_Mo_sign_8 : decode b_Mo_sign 8 = .ok (.getfield 393, 3) := by decide +kernel
theorem d_Mo_sign_11 : decode b_Mo_sign 11 = .ok (.bipush 60, 2) := by decide +kernel
theorem d_Mo_sign_13 : decode b_Mo_sign 13 = .ok (.if_icmp .ne 5, 3) := by decide +kernel
theorem d_Mo_sign_16 : decode b_Mo_sign 16 = .ok (.iconst (-1), 1) := by decide +kernel
theorem d_Mo_sign_17 : decode b_Mo_sign 17 = .ok (.ireturn, 1) := by decide +kernel
theorem d_Mo_sign_18 : decode b_Mo_sign 18 = .ok (.aload_n 0, 1) := by decide +kernel
theorem d_Mo_sign_19 : decode b_Mo_sign 19 = .ok (.getfield 171, 3) := by decide +kernel
theorem d_Mo_sign_22 : decode b_Mo_sign 22 = .ok (.aload_n 0, 1) := by decide +kernel
theorem d_Mo_sign_23 : decode b_Mo_sign 23 = .ok (.getfield 393, 3) := by decide +kernel
theorem d_Mo_sign_26 : decode b_Mo_sign 26 = .ok (.iload_n 1, 1) := by decide +kernel
theorem d_Mo_sign_27 : decode b_Mo_sign 27 = .ok (.iastore, 1) := by decide +kernel
theorem d_Mo_sign_28 : decode b_Mo_sign 28 = .ok (.aload_n 0, 1) := by decide +kernel
theorem d_Mo_sign_29 : decode b_Mo_sign 29 = .ok (.dup, 1) := by decide +kernel
theorem d_Mo_sign_30 : decode b_Mo_sign 30 = .ok (.getfield 393, 3) := by decide +kernel
theorem d_Mo_sign_33 : decode b_Mo_sign 33 = .ok (.iconst 1, 1) := by decide +kernel
theorem d_Mo_sign_34 : decode b_Mo_sign 34 = .ok (.iadd, 1) := by decide +kernel
theorem d_Mo_sign_35 : decode b_Mo_sign 35 = .ok (.putfield 393, 3) := by decide +kernel
theorem d_Mo_sign_38 : decode b_Mo_sign 38 = .ok (.aload_n 0, 1) := by decide +kernel
theorem d_Mo_sign_39 : decode b_Mo_sign 39 = .ok (.getfield 393, 3) := by decide +kernel
theorem d_Mo_sign_42 : decode b_Mo_sign 42 = .ok (.ireturn, 1) := by decide +kernel
theorem d_Mo_letterOf_0 : decode b_Mo_letterOf 0 = .ok (.iconst (-1), 1) := by decide +kernel
theorem d_Mo_letterOf_1 : decode b_Mo_letterOf 1 = .ok (.istore_n 2, 1) := by decide +kernel
theorem d_Mo_letterOf_2 : decode b_Mo_letterOf 2 = .ok (.iconst 0, 1) := by decide +kernel
theorem d_Mo_letterOf_3 : decode b_Mo_letterOf 3 = .ok (.istore_n 3, 1) := by decide +kernel
theorem d_Mo_letterOf_4 : decode b_Mo_letterOf 4 = .ok (.iload_n 3, 1) := by decide +kernel
theorem d_Mo_letterOf_5 : decode b_Mo_letterOf 5 = .ok (.aload_n 0, 1) := by decide +kernel
theorem d_Mo_letterOf_6 : decode b_Mo_letterOf 6 = .ok (.getfield 183, 3) := by decide +kernel
theorem d_Mo_letterOf_9 : decode b_Mo_letterOf 9 = .ok (.if_icmp .ge 32, 3) := by decide +kernel
theorem d_Mo_letterOf_12 : decode b_Mo_letterOf 12 = .ok (.aload_n 0, 1) := by decide +kernel
theorem d_Mo_letterOf_13 : decode b_Mo_letterOf 13 = .ok (.getfield 7, 3) := by decide +kernel
theorem d_Mo_letterOf_16 : decode b_Mo_letterOf 16 = .ok (.iload_n 3, 1) := by decide +kernel
theorem d_Mo_letterOf_17 : decode b_Mo_letterOf 17 = .ok (.iaload, 1) := by decide +kernel
theorem d_Mo_letterOf_18 : decode b_Mo_letterOf 18 = .ok (.iload_n 1, 1) := by decide +kernel
theorem d_Mo_letterOf_19 : decode b_Mo_letterOf 19 = .ok (.if_icmp .ne 5, 3) := by decide +kernel
theorem d_Mo_letterOf_22 : decode b_Mo_letterOf 22 = .ok (.iload_n 3, 1) := by decide +kernel
theorem d_Mo_letterOf_23 : decode b_Mo_letterOf 23 = .ok (.ireturn, 1) := by decide +kernel
theorem d_Mo_letterOf_24 : decode b_Mo_letterOf 24 = .ok (.aload_n 0, 1) := by decide +kernel
theorem d_Mo_letterOf_25 : decode b_Mo_letterOf 25 = .ok (.getfield 7, 3) := by decide +kernel
theorem d_Mo_letterOf_28 : decode b_Mo_letterOf 28 = .ok (.iload_n 3, 1) := by decide +kernel
theorem d_Mo_letterOf_29 : decode b_Mo_letterOf 29 = .ok (.iaload, 1) := by decide +kernel
theorem d_Mo_letterOf_30 : decode b_Mo_letterOf 30 = .ok (.ifCond .ne 5, 3) := by decide +kernel
theorem d_Mo_letterOf_33 : decode b_Mo_letterOf 33 = .ok (.iload_n 3, 1) := by decide +kernel
theorem d_Mo_letterOf_34 : decode b_Mo_letterOf 34 = .ok (.istore_n 2, 1) := by decide +kernel
theorem d_Mo_letterOf_35 : decode b_Mo_letterOf 35 = .ok (.iinc 3 1, 3) := by decide +kernel
theorem d_Mo_letterOf_38 : decode b_Mo_letterOf 38 = .ok (.goto (-34), 3) := by decide +kernel
theorem d_Mo_letterOf_41 : decode b_Mo_letterOf 41 = .ok (.iload_n 2, 1) := by decide +kernel
theorem d_Mo_letterOf_42 : decode b_Mo_letterOf 42 = .ok (.ireturn, 1) := by decide +kernel
theorem d_Mo_manyOf_0 : decode b_Mo_manyOf 0 = .ok (.aload_n 0, 1) := by decide +kernel
theorem d_Mo_manyOf_1 : decode b_Mo_manyOf 1 = .ok (.getfield 168, 3) := by decide +kernel
theorem d_Mo_manyOf_4 : decode b_Mo_manyOf 4 = .ok (.iconst 4, 1) := by decide +kernel
theorem d_Mo_manyOf_5 : decode b_Mo_manyOf 5 = .ok (.iload_n 1, 1) := by decide +kernel
theorem d_Mo_manyOf_6 : decode b_Mo_manyOf 6 = .ok (.imul, 1) := by decide +kernel
theorem d_Mo_manyOf_7 : decode b_Mo_manyOf 7 = .ok (.iconst 2, 1) := by decide +kernel
theorem d_Mo_manyOf_8 : decode b_Mo_manyOf 8 = .ok (.iadd, 1) := by decide +kernel
theorem d_Mo_manyOf_9 : decode b_Mo_manyOf 9 = .ok (.iaload, 1) := by decide +kernel
theorem d_Mo_manyOf_10 : decode b_Mo_manyOf 10 = .ok (.iconst (-1), 1) := by decide +kernel
theorem d_Mo_manyOf_11 : decode b_Mo_manyOf 11 = .ok (.if_icmp .ne 7, 3) := by decide +kernel
theorem d_Mo_manyOf_14 : decode b_Mo_manyOf 14 = .ok (.iconst 2, 1) := by decide +kernel
theorem d_Mo_manyOf_15 : decode b_Mo_manyOf 15 = .ok (.goto 4, 3) := by decide +kernel
theorem d_Mo_manyOf_18 : decode b_Mo_manyOf 18 = .ok (.iconst 3, 1) := by decide +kernel
theorem d_Mo_manyOf_19 : decode b_Mo_manyOf 19 = .ok (.ireturn, 1) := by decide +kernel
theorem d_Mo_ruleAt_0 : decode b_Mo_ruleAt 0 = .ok (.iconst (-1), 1) := by decide +kernel
theorem d_Mo_ruleAt_1 : decode b_Mo_ruleAt 1 = .ok (.istore_n 2, 1) := by decide +kernel
theorem d_Mo_ruleAt_2 : decode b_Mo_ruleAt 2 = .ok (.iconst 0, 1) := by decide +kernel
theorem d_Mo_ruleAt_3 : decode b_Mo_ruleAt 3 = .ok (.istore_n 3, 1) := by decide +kernel
theorem d_Mo_ruleAt_4 : decode b_Mo_ruleAt 4 = .ok (.iload_n 3, 1) := by decide +kernel
theorem d_Mo_ruleAt_5 : decode b_Mo_ruleAt 5 = .ok (.aload_n 0, 1) := by decide +kernel
theorem d_Mo_ruleAt_6 : decode b_Mo_ruleAt 6 = .ok (.getfield 390, 3) := by decide +kernel
theorem d_Mo_ruleAt_9 : decode b_Mo_ruleAt 9 = .ok (.if_icmp .ge 107, 3) := by decide +kernel
theorem d_Mo_ruleAt_12 : decode b_Mo_ruleAt 12 = .ok (.aload_n 0, 1) := by decide +kernel
theorem d_Mo_ruleAt_13 : decode b_Mo_ruleAt 13 = .ok (.iload_n 3, 1) := by decide +kernel
theorem d_Mo_ruleAt_14 : decode b_Mo_ruleAt 14 = .ok (.invokevirtual 396, 3) := by decide +kernel
theorem d_Mo_ruleAt_17 : decode b_Mo_ruleAt 17 = .ok (.istore 4, 2) := by decide +kernel
theorem d_Mo_ruleAt_19 : decode b_Mo_ruleAt 19 = .ok (.iload_n 1, 1) := by decide +kernel
theorem d_Mo_ruleAt_20 : decode b_Mo_ruleAt 20 = .ok (.iload 4, 2) := by decide +kernel
theorem d_Mo_ruleAt_22 : decode b_Mo_ruleAt 22 = .ok (.iadd, 1) := by decide +kernel
theorem d_Mo_ruleAt_23 : decode b_Mo_ruleAt 23 = .ok (.aload_n 0, 1) := by decide +kernel
theorem d_Mo_ruleAt_24 : decode b_Mo_ruleAt 24 = .ok (.getfield 393, 3) := by decide +kernel
theorem d_Mo_ruleAt_27 : decode b_Mo_ruleAt 27 = .ok (.if_icmp .gt 22, 3) := by decide +kernel
theorem d_Mo_ruleAt_30 : decode b_Mo_ruleAt 30 = .ok (.iload_n 2, 1) := by decide +kernel
theorem d_Mo_ruleAt_31 : decode b_Mo_ruleAt 31 = .ok (.iconst (-1), 1) := by decide +kernel
theorem d_Mo_ruleAt_32 : decode b_Mo_ruleAt 32 = .ok (.if_icmp .eq 13, 3) := by decide +kernel
theorem d_Mo_ruleAt_35 : decode b_Mo_ruleAt 35 = .ok (.iload 4, 2) := by decide +kernel
theorem d_Mo_ruleAt_37 : decode b_Mo_ruleAt 37 = .ok (.aload_n 0, 1) := by decide +kernel
theorem d_Mo_ruleAt_38 : decode b_Mo_ruleAt 38 = .ok (.iload_n 2, 1) := by decide +kernel
theorem d_Mo_ruleAt_39 : decode b_Mo_ruleAt 39 = .ok (.invokevirtual 396, 3) := by decide +kernel
theorem d_Mo_ruleAt_42 : decode b_Mo_ruleAt 42 = .ok (.if_icmp .le 7, 3) := by decide +kernel
theorem d_Mo_ruleAt_45 : decode b_Mo_ruleAt 45 = .ok (.iconst 1, 1) := by decide +kernel
theorem d_Mo_ruleAt_46 : decode b_Mo_ruleAt 46 = .ok (.goto 4, 3) := by decide +kernel
theorem d_Mo_ruleAt_49 : decode b_Mo_ruleAt 49 = .ok (.iconst 0, 1) := by decide +kernel
theorem d_Mo_ruleAt_50 : decode b_Mo_ruleAt 50 = .ok (.istore 5, 2) := by decide +kernel
theorem d_Mo_ruleAt_52 : decode b_Mo_ruleAt 52 = .ok (.iconst 0, 1) := by decide +kernel
theorem d_Mo_ruleAt_53 : decode b_Mo_ruleAt 53 = .ok (.istore 6, 2) := by decide +kernel
theorem d_Mo_ruleAt_55 : decode b_Mo_ruleAt 55 = .ok (.iload 6, 2) := by decide +kernel
theorem d_Mo_ruleAt_57 : decode b_Mo_ruleAt 57 = .ok (.iload 4, 2) := by decide +kernel
theorem d_Mo_ruleAt_59 : decode b_Mo_ruleAt 59 = .ok (.if_icmp .ge 44, 3) := by decide +kernel
theorem d_Mo_ruleAt_62 : decode b_Mo_ruleAt 62 = .ok (.iload 5, 2) := by decide +kernel
theorem d_Mo_ruleAt_64 : decode b_Mo_ruleAt 64 = .ok (.ifCond .eq 39, 3) := by decide +kernel
theorem d_Mo_ruleAt_67 : decode b_Mo_ruleAt 67 = .ok (.aload_n 0, 1) := by decide +kernel
theorem d_Mo_ruleAt_68 : decode b_Mo_ruleAt 68 = .ok (.getfield 168, 3) := by decide +kernel
theorem d_Mo_ruleAt_71 : decode b_Mo_ruleAt 71 = .ok (.iconst 4, 1) := by decide +kernel
theorem d_Mo_ruleAt_72 : decode b_Mo_ruleAt 72 = .ok (.iload_n 3, 1) := by decide +kernel
theorem d_Mo_ruleAt_73 : decode b_Mo_ruleAt 73 = .ok (.imul, 1) := by decide +kernel
theorem d_Mo_ruleAt_74 : decode b_Mo_ruleAt 74 = .ok (.iload 6, 2) := by decide +kernel
theorem d_Mo_ruleAt_76 : decode b_Mo_ruleAt 76 = .ok (.iadd, 1) := by decide +kernel
theorem d_Mo_ruleAt_77 : decode b_Mo_ruleAt 77 = .ok (.iaload, 1) := by decide +kernel
theorem d_Mo_ruleAt_78 : decode b_Mo_ruleAt 78 = .ok (.aload_n 0, 1) := by decide +kernel
theorem d_Mo_ruleAt_79 : decode b_Mo_ruleAt 79 = .ok (.getfield 171, 3) := by decide +kernel
theorem d_Mo_ruleAt_82 : decode b_Mo_ruleAt 82 = .ok (.iload_n 1, 1) := by decide +kernel
theorem d_Mo_ruleAt_83 : decode b_Mo_ruleAt 83 = .ok (.iload 6, 2) := by decide +kernel
theorem d_Mo_ruleAt_85 : decode b_Mo_ruleAt 85 = .ok (.iadd, 1) := by decide +kernel
theorem d_Mo_ruleAt_86 : decode b_Mo_ruleAt 86 = .ok (.iaload, 1) := by decide +kernel
theorem d_Mo_ruleAt_87 : decode b_Mo_ruleAt 87 = .ok (.if_icmp .ne 7, 3) := by decide +kernel
theorem d_Mo_ruleAt_90 : decode b_Mo_ruleAt 90 = .ok (.iconst 1, 1) := by decide +kernel
theorem d_Mo_ruleAt_91 : decode b_Mo_ruleAt 91 = .ok (.goto 4, 3) := by decide +kernel
theorem d_Mo_ruleAt_94 : decode b_Mo_ruleAt 94 = .ok (.iconst 0, 1) := by decide +kernel
theorem d_Mo_ruleAt_95 : decode b_Mo_ruleAt 95 = .ok (.istore 5, 2) := by decide +kernel
theorem d_Mo_ruleAt_97 : decode b_Mo_ruleAt 97 = .ok (.iinc 6 1, 3) := by decide +kernel
theorem d_Mo_ruleAt_100 : decode b_Mo_ruleAt 100 = .ok (.goto (-45), 3) := by decide +kernel
theorem d_Mo_ruleAt_103 : decode b_Mo_ruleAt 103 = .ok (.iload 5, 2) := by decide +kernel
theorem d_Mo_ruleAt_105 : decode b_Mo_ruleAt 105 = .ok (.ifCond .eq 5, 3) := by decide +kernel
theorem d_Mo_ruleAt_108 : decode b_Mo_ruleAt 108 = .ok (.iload_n 3, 1) := by decide +kernel
theorem d_Mo_ruleAt_109 : decode b_Mo_ruleAt 109 = .ok (.istore_n 2, 1) := by decide +kernel
theorem d_Mo_ruleAt_110 : decode b_Mo_ruleAt 110 = .ok (.iinc 3 1, 3) := by decide +kernel
theorem d_Mo_ruleAt_113 : decode b_Mo_ruleAt 113 = .ok (.goto (-109), 3) := by decide +kernel
theorem d_Mo_ruleAt_116 : decode b_Mo_ruleAt 116 = .ok (.iload_n 2, 1) := by decide +kernel
theorem d_Mo_ruleAt_117 : decode b_Mo_ruleAt 117 = .ok (.ireturn, 1) := by decide +kernel
theorem d_Mo_set_0 : decode b_Mo_set 0 = .ok (.aload_n 0, 1) := by decide +kernel
theorem d_Mo_set_1 : decode b_Mo_set 1 = .ok (.iconst 0, 1) := by decide +kernel
theorem d_Mo_set_2 : decode b_Mo_set 2 = .ok (.putfield 399, 3) := by decide +kernel
theorem d_Mo_set_5 : decode b_Mo_set 5 = .ok (.iconst 0, 1) := by decide +kernel
theorem d_Mo_set_6 : decode b_Mo_set 6 = .ok (.istore_n 1, 1) := by decide +kernel
theorem d_Mo_set_7 : decode b_Mo_set 7 = .ok (.iload_n 1, 1) := by decide +kernel
theorem d_Mo_set_8 : decode b_Mo_set 8 = .ok (.aload_n 0, 1) := by decide +kernel
theorem d_Mo_set_9 : decode b_Mo_set 9 = .ok (.getfield 393, 3) := by decide +kernel
theorem d_Mo_set_12 : decode b_Mo_set 12 = .ok (.if_icmp .ge 156, 3) := by decide +kernel
theorem d_Mo_set_15 : decode b_Mo_set 15 = .ok (.aload_n 0, 1) := by decide +kernel
theorem d_Mo_set_16 : decode b_Mo_set 16 = .ok (.iload_n 1, 1) := by decide +kernel
theorem d_Mo_set_17 : decode b_Mo_set 17 = .ok (.invokevirtual 402, 3) := by decide +kernel
theorem d_Mo_set_20 : decode b_Mo_set 20 = .ok (.istore_n 2, 1) := by decide +kernel
theorem d_Mo_set_21 : decode b_Mo_set 21 = .ok (.aload_n 0, 1) := by decide +kernel
theorem d_Mo_set_22 : decode b_Mo_set 22 = .ok (.iload_n 2, 1) := by decide +kernel
theorem d_Mo_set_23 : decode b_Mo_set 23 = .ok (.iconst (-1), 1) := by decide +kernel
theorem d_Mo_set_24 : decode b_Mo_set 24 = .ok (.if_icmp .ne 12, 3) := by decide +kernel
theorem d_Mo_set_27 : decode b_Mo_set 27 = .ok (.aload_n 0, 1) := by decide +kernel
theorem d_Mo_set_28 : decode b_Mo_set 28 = .ok (.getfield 171, 3) := by decide +kernel
theorem d_Mo_set_31 : decode b_Mo_set 31 = .ok (.iload_n 1, 1) := by decide +kernel
theorem d_Mo_set_32 : decode b_Mo_set 32 = .ok (.iaload, 1) := by decide +kernel
theorem d_Mo_set_33 : decode b_Mo_set 33 = .ok (.goto 13, 3) := by decide +kernel
theorem d_Mo_set_36 : decode b_Mo_set 36 = .ok (.aload_n 0, 1) := by decide +kernel
theorem d_Mo_set_37 : decode b_Mo_set 37 = .ok (.getfield 168, 3) := by decide +kernel
theorem d_Mo_set_40 : decode b_Mo_set 40 = .ok (.iconst 4, 1) := by decide +kernel
theorem d_Mo_set_41 : decode b_Mo_set 41 = .ok (.iload_n 2, 1) := by decide +kernel
theorem d_Mo_set_42 : decode b_Mo_set 42 = .ok (.imul, 1) := by decide +kernel
theorem d_Mo_set_43 : decode b_Mo_set 43 = .ok (.iconst 3, 1) := by decide +kernel
theorem d_Mo_set_44 : decode b_Mo_set 44 = .ok (.iadd, 1) := by decide +kernel
theorem d_Mo_set_45 : decode b_Mo_set 45 = .ok (.iaload, 1) := by decide +kernel
theorem d_Mo_set_46 : decode b_Mo_set 46 = .ok (.invokevirtual 405, 3) := by decide +kernel
theorem d_Mo_set_49 : decode b_Mo_set 49 = .ok (.istore_n 3, 1) := by decide +kernel
theorem d_Mo_set_50 : decode b_Mo_set 50 = .ok (.iload_n 3, 1) := by decide +kernel
theorem d_Mo_set_51 : decode b_Mo_set 51 = .ok (.iconst (-1), 1) := by decide +kernel
theorem d_Mo_set_52 : decode b_Mo_set 52 = .ok (.if_icmp .eq 96, 3) := by decide +kernel
theorem d_Mo_set_55 : decode b_Mo_set 55 = .ok (.aload_n 0, 1) := by decide +kernel
theorem d_Mo_set_56 : decode b_Mo_set 56 = .ok (.getfield 399, 3) := by decide +kernel
theorem d_Mo_set_59 : decode b_Mo_set 59 = .ok (.istore 4, 2) := by decide +kernel
theorem d_Mo_set_61 : decode b_Mo_set 61 = .ok (.iload 4, 2) := by decide +kernel
theorem d_Mo_set_63 : decode b_Mo_set 63 = .ok (.ifCond .ne 7, 3) := by decide +kernel
theorem d_Mo_set_66 : decode b_Mo_set 66 = .ok (.iconst (-1), 1) := by decide +kernel
theorem d_Mo_set_67 : decode b_Mo_set 67 = .ok (.goto 12, 3) := by decide +kernel
theorem d_Mo_set_70 : decode b_Mo_set 70 = .ok (.aload_n 0, 1) := by decide +kernel
theorem d_Mo_set_71 : decode b_Mo_set 71 = .ok (.getfield 174, 3) := by decide +kernel
theorem d_Mo_set_74 : decode b_Mo_set 74 = .ok (.iload 4, 2) := by decide +kernel
theorem d_Mo_set_76 : decode b_Mo_set 76 = .ok (.iconst 1, 1) := by decide +kernel
theorem d_Mo_set_77 : decode b_Mo_set 77 = .ok (.isub, 1) := by decide +kernel
theorem d_Mo_set_78 : decode b_Mo_set 78 = .ok (.iaload, 1) := by decide +kernel
theorem d_Mo_set_79 : decode b_Mo_set 79 = .ok (.istore 5, 2) := by decide +kernel
theorem d_Mo_set_81 : decode b_Mo_set 81 = .ok (.aload_n 0, 1) := by decide +kernel
theorem d_Mo_set_82 : decode b_Mo_set 82 = .ok (.getfield 174, 3) := by decide +kernel
theorem d_Mo_set_85 : decode b_Mo_set 85 = .ok (.iload 4, 2) := by decide +kernel
theorem d_Mo_set_87 : decode b_Mo_set 87 = .ok (.iload_n 3, 1) := by decide +kernel
theorem d_Mo_set_88 : decode b_Mo_set 88 = .ok (.iastore, 1) := by decide +kernel
theorem d_Mo_set_89 : decode b_Mo_set 89 = .ok (.aload_n 0, 1) := by decide +kernel
theorem d_Mo_set_90 : decode b_Mo_set 90 = .ok (.getfield 177, 3) := by decide +kernel
theorem d_Mo_set_93 : decode b_Mo_set 93 = .ok (.iload 4, 2) := by decide +kernel
theorem d_Mo_set_95 : decode b_Mo_set 95 = .ok (.iload 4, 2) := by decide +kernel
theorem d_Mo_set_97 : decode b_Mo_set 97 = .ok (.ifCond .ne 7, 3) := by decide +kernel
theorem d_Mo_set_100 : decode b_Mo_set 100 = .ok (.iconst 0, 1) := by decide +kernel
theorem d_Mo_set_101 : decode b_Mo_set 101 = .ok (.goto 28, 3) := by decide +kernel
theorem d_Mo_set_104 : decode b_Mo_set 104 = .ok (.aload_n 0, 1) := by decide +kernel
theorem d_Mo_set_105 : decode b_Mo_set 105 = .ok (.getfield 177, 3) := by decide +kernel
theorem d_Mo_set_108 : decode b_Mo_set 108 = .ok (.iload 4, 2) := by decide +kernel
theorem d_Mo_set_110 : decode b_Mo_set 110 = .ok (.iconst 1, 1) := by decide +kernel
theorem d_Mo_set_111 : decode b_Mo_set 111 = .ok (.isub, 1) := by decide +kernel
theorem d_Mo_set_112 : decode b_Mo_set 112 = .ok (.iaload, 1) := by decide +kernel
theorem d_Mo_set_113 : decode b_Mo_set 113 = .ok (.aload_n 0, 1) := by decide +kernel
theorem d_Mo_set_114 : decode b_Mo_set 114 = .ok (.getfield 13, 3) := by decide +kernel
theorem d_Mo_set_117 : decode b_Mo_set 117 = .ok (.iload 5, 2) := by decide +kernel
theorem d_Mo_set_119 : decode b_Mo_set 119 = .ok (.iaload, 1) := by decide +kernel
theorem d_Mo_set_120 : decode b_Mo_set 120 = .ok (.iadd, 1) := by decide +kernel
theorem d_Mo_set_121 : decode b_Mo_set 121 = .ok (.aload_n 0, 1) := by decide +kernel
theorem d_Mo_set_122 : decode b_Mo_set 122 = .ok (.iload 5, 2) := by decide +kernel
theorem d_Mo_set_124 : decode b_Mo_set 124 = .ok (.iload_n 3, 1) := by decide +kernel
theorem d_Mo_set_125 : decode b_Mo_set 125 = .ok (.invokevirtual 408, 3) := by decide +kernel
theorem d_Mo_set_128 : decode b_Mo_set 128 = .ok (.iadd, 1) := by decide +kernel
theorem d_Mo_set_129 : decode b_Mo_set 129 = .ok (.iastore, 1) := by decide +kernel
theorem d_Mo_set_130 : decode b_Mo_set 130 = .ok (.aload_n 0, 1) := by decide +kernel
theorem d_Mo_set_131 : decode b_Mo_set 131 = .ok (.getfield 180, 3) := by decide +kernel
theorem d_Mo_set_134 : decode b_Mo_set 134 = .ok (.iload 4, 2) := by decide +kernel
theorem d_Mo_set_136 : decode b_Mo_set 136 = .ok (.iload_n 1, 1) := by decide +kernel
theorem d_Mo_set_137 : decode b_Mo_set 137 = .ok (.iastore, 1) := by decide +kernel
theorem d_Mo_set_138 : decode b_Mo_set 138 = .ok (.aload_n 0, 1) := by decide +kernel
theorem d_Mo_set_139 : decode b_Mo_set 139 = .ok (.dup, 1) := by decide +kernel
theorem d_Mo_set_140 : decode b_Mo_set 140 = .ok (.getfield 399, 3) := by decide +kernel
theorem d_Mo_set_143 : decode b_Mo_set 143 = .ok (.iconst 1, 1) := by decide +kernel
theorem d_Mo_set_144 : decode b_Mo_set 144 = .ok (.iadd, 1) := by decide +kernel
theorem d_Mo_set_145 : decode b_Mo_set 145 = .ok (.putfield 399, 3) := by decide +kernel
theorem d_Mo_set_148 : decode b_Mo_set 148 = .ok (.iload_n 1, 1) := by decide +kernel
theorem d_Mo_set_149 : decode b_Mo_set 149 = .ok (.iload_n 2, 1) := by decide +kernel
theorem d_Mo_set_150 : decode b_Mo_set 150 = .ok (.iconst (-1), 1) := by decide +kernel
theorem d_Mo_set_151 : decode b_Mo_set 151 = .ok (.if_icmp .ne 7, 3) := by decide +kernel
theorem d_Mo_set_154 : decode b_Mo_set 154 = .ok (.iconst 1, 1) := by decide +kernel
theorem d_Mo_set_155 : decode b_Mo_set 155 = .ok (.goto 8, 3) := by decide +kernel
theorem d_Mo_set_158 : decode b_Mo_set 158 = .ok (.aload_n 0, 1) := by decide +kernel
theorem d_Mo_set_159 : decode b_Mo_set 159 = .ok (.iload_n 2, 1) := by decide +kernel
theorem d_Mo_set_160 : decode b_Mo_set 160 = .ok (.invokevirtual 396, 3) := by decide +kernel
theorem d_Mo_set_163 : decode b_Mo_set 163 = .ok (.iadd, 1) := by decide +kernel
theorem d_Mo_set_164 : decode b_Mo_set 164 = .ok (.istore_n 1, 1) := by decide +kernel
theorem d_Mo_set_165 : decode b_Mo_set 165 = .ok (.goto (-158), 3) := by decide +kernel
theorem d_Mo_set_168 : decode b_Mo_set 168 = .ok (.aload_n 0, 1) := by decide +kernel
theorem d_Mo_set_169 : decode b_Mo_set 169 = .ok (.iconst 0, 1) := by decide +kernel
theorem d_Mo_set_170 : decode b_Mo_set 170 = .ok (.putfield 393, 3) := by decide +kernel
theorem d_Mo_set_173 : decode b_Mo_set 173 = .ok (.aload_n 0, 1) := by decide +kernel
theorem d_Mo_set_174 : decode b_Mo_set 174 = .ok (.getfield 399, 3) := by decide +kernel
theorem d_Mo_set_177 : decode b_Mo_set 177 = .ok (.ireturn, 1) := by decide +kernel
theorem d_Mo_placed_0 : decode b_Mo_placed 0 = .ok (.iload_n 1, 1) := by decide +kernel
theorem d_Mo_placed_1 : decode b_Mo_placed 1 = .ok (.ifCond .lt 11, 3) := by decide +kernel
theorem d_Mo_placed_4 : decode b_Mo_placed 4 = .ok (.iload_n 1, 1) := by decide +kernel
theorem d_Mo_placed_5 : decode b_Mo_placed 5 = .ok (.aload_n 0, 1) := by decide +kernel
theorem d_Mo_placed_6 : decode b_Mo_placed 6 = .ok (.getfield 399, 3) := by decide +kernel
theorem d_Mo_placed_9 : decode b_Mo_placed 9 = .ok (.if_icmp .lt 7, 3) := by decide +kernel
theorem d_Mo_placed_12 : decode b_Mo_placed 12 = .ok (.ldc_w 291, 3) := by decide +kernel
theorem d_Mo_placed_15 : decode b_Mo_placed 15 = .ok (.ireturn, 1) := by decide +kernel
theorem d_Mo_placed_16 : decode b_Mo_placed 16 = .ok (.iload_n 2, 1) := by decide +kernel
theorem d_Mo_placed_17 : decode b_Mo_placed 17 = .ok (.ifCond .ne 12, 3) := by decide +kernel
theorem d_Mo_placed_20 : decode b_Mo_placed 20 = .ok (.aload_n 0, 1) := by decide +kernel
theorem d_Mo_placed_21 : decode b_Mo_placed 21 = .ok (.getfield 174, 3) := by decide +kernel
theorem d_Mo_placed_24 : decode b_Mo_placed 24 = .ok (.iload_n 1, 1) := by decide +kernel
theorem d_Mo_placed_25 : decode b_Mo_placed 25 = .ok (.iaload, 1) := by decide +kernel
theorem d_Mo_placed_26 : decode b_Mo_placed 26 = .ok (.goto 34, 3) := by decide +kernel
theorem d_Mo_placed_29 : decode b_Mo_placed 29 = .ok (.iload_n 2, 1) := by decide +kernel
theorem d_Mo_placed_30 : decode b_Mo_placed 30 = .ok (.iconst 1, 1) := by decide +kernel
theorem d_Mo_placed_31 : decode b_Mo_placed 31 = .ok (.if_icmp .ne 12, 3) := by decide +kernel
theorem d_Mo_placed_34 : decode b_Mo_placed 34 = .ok (.aload_n 0, 1) := by decide +kernel
theorem d_Mo_placed_35 : decode b_Mo_placed 35 = .ok (.getfield 177, 3) := by decide +kernel
theorem d_Mo_placed_38 : decode b_Mo_placed 38 = .ok (.iload_n 1, 1) := by decide +kernel
theorem d_Mo_placed_39 : decode b_Mo_placed 39 = .ok (.iaload, 1) := by decide +kernel
theorem d_Mo_placed_40 : decode b_Mo_placed 40 = .ok (.goto 20, 3) := by decide +kernel
theorem d_Mo_placed_43 : decode b_Mo_placed 43 = .ok (.iload_n 2, 1) := by decide +kernel
theorem d_Mo_placed_44 : decode b_Mo_placed 44 = .ok (.iconst 2, 1) := by decide +kernel
theorem d_Mo_placed_45 : decode b_Mo_placed 45 = .ok (.if_icmp .ne 12, 3) := by decide +kernel
theorem d_Mo_placed_48 : decode b_Mo_placed 48 = .ok (.aload_n 0, 1) := by decide +kernel
theorem d_Mo_placed_49 : decode b_Mo_placed 49 = .ok (.getfield 180, 3) := by decide +kernel
theorem d_Mo_placed_52 : decode b_Mo_placed 52 = .ok (.iload_n 1, 1) := by decide +kernel
theorem d_Mo_placed_53 : decode b_Mo_placed 53 = .ok (.iaload, 1) := by decide +kernel
theorem d_Mo_placed_54 : decode b_Mo_placed 54 = .ok (.goto 6, 3) := by decide +kernel
theorem d_Mo_placed_57 : decode b_Mo_placed 57 = .ok (.ldc_w 291, 3) := by decide +kernel
theorem d_Mo_placed_60 : decode b_Mo_placed 60 = .ok (.ireturn, 1) := by decide +kernel
theorem d_Mo_length_0 : decode b_Mo_length 0 = .ok (.aload_n 0, 1) := by decide +kernel
theorem d_Mo_length_1 : decode b_Mo_length 1 = .ok (.getfield 399, 3) := by decide +kernel
theorem d_Mo_length_4 : decode b_Mo_length 4 = .ok (.ifCond .ne 7, 3) := by decide +kernel
theorem d_Mo_length_7 : decode b_Mo_length 7 = .ok (.iconst 0, 1) := by decide +kernel
theorem d_Mo_length_8 : decode b_Mo_length 8 = .ok (.goto 31, 3) := by decide +kernel
theorem d_Mo_length_11 : decode b_Mo_length 11 = .ok (.aload_n 0, 1) := by decide +kernel
theorem d_Mo_length_12 : decode b_Mo_length 12 = .ok (.getfield 177, 3) := by decide +kernel
theorem d_Mo_length_15 : decode b_Mo_length 15 = .ok (.aload_n 0, 1) := by decide +kernel
theorem d_Mo_length_16 : decode b_Mo_length 16 = .ok (.getfield 399, 3) := by decide +kernel
theorem d_Mo_length_19 : decode b_Mo_length 19 = .ok (.iconst 1, 1) := by decide +kernel
theorem d_Mo_length_20 : decode b_Mo_length 20 = .ok (.isub, 1) := by decide +kernel
theorem d_Mo_length_21 : decode b_Mo_length 21 = .ok (.iaload, 1) := by decide +kernel
theorem d_Mo_length_22 : decode b_Mo_length 22 = .ok (.aload_n 0, 1) := by decide +kernel
theorem d_Mo_length_23 : decode b_Mo_length 23 = .ok (.getfield 13, 3) := by decide +kernel
theorem d_Mo_length_26 : decode b_Mo_length 26 = .ok (.aload_n 0, 1) := by decide +kernel
theorem d_Mo_length_27 : decode b_Mo_length 27 = .ok (.getfield 174, 3) := by decide +kernel
theorem d_Mo_length_30 : decode b_Mo_length 30 = .ok (.aload_n 0, 1) := by decide +kernel
theorem d_Mo_length_31 : decode b_Mo_length 31 = .ok (.getfield 399, 3) := by decide +kernel
theorem d_Mo_length_34 : decode b_Mo_length 34 = .ok (.iconst 1, 1) := by decide +kernel
theorem d_Mo_length_35 : decode b_Mo_length 35 = .ok (.isub, 1) := by decide +kernel
theorem d_Mo_length_36 : decode b_Mo_length 36 = .ok (.iaload, 1) := by decide +kernel
theorem d_Mo_length_37 : decode b_Mo_length 37 = .ok (.iaload, 1) := by decide +kernel
theorem d_Mo_length_38 : decode b_Mo_length 38 = .ok (.iadd, 1) := by decide +kernel
theorem d_Mo_length_39 : decode b_Mo_length 39 = .ok (.ireturn, 1) := by decide +kernel
