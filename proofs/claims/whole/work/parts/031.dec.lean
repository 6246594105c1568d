theorem d_Fit_init_0 : decode b_Fit_init 0 = .ok (.aload_n 0, 1) := by decide +kernel
theorem d_Fit_init_1 : decode b_Fit_init 1 = .ok (.invokespecial 3, 3) := by decide +kernel
theorem d_Fit_init_4 : decode b_Fit_init 4 = .ok (.aload_n 0, 1) := by decide +kernel
theorem d_Fit_init_5 : decode b_Fit_init 5 = .ok (.iconst 2, 1) := by decide +kernel
theorem d_Fit_init_6 : decode b_Fit_init 6 = .ok (.bipush 100, 2) := by decide +kernel
theorem d_Fit_init_8 : decode b_Fit_init 8 = .ok (.multianewarray 9 2, 4) := by decide +kernel
theorem d_Fit_init_12 : decode b_Fit_init 12 = .ok (.putfield 11, 3) := by decide +kernel
theorem d_Fit_init_15 : decode b_Fit_init 15 = .ok (.aload_n 0, 1) := by decide +kernel
theorem d_Fit_init_16 : decode b_Fit_init 16 = .ok (.iconst 2, 1) := by decide +kernel
theorem d_Fit_init_17 : decode b_Fit_init 17 = .ok (.bipush 100, 2) := by decide +kernel
theorem d_Fit_init_19 : decode b_Fit_init 19 = .ok (.multianewarray 9 2, 4) := by decide +kernel
theorem d_Fit_init_23 : decode b_Fit_init 23 = .ok (.putfield 16, 3) := by decide +kernel
theorem d_Fit_init_26 : decode b_Fit_init 26 = .ok (.aload_n 0, 1) := by decide +kernel
theorem d_Fit_init_27 : decode b_Fit_init 27 = .ok (.iconst 2, 1) := by decide +kernel
theorem d_Fit_init_28 : decode b_Fit_init 28 = .ok (.bipush 100, 2) := by decide +kernel
theorem d_Fit_init_30 : decode b_Fit_init 30 = .ok (.multianewarray 9 2, 4) := by decide +kernel
theorem d_Fit_init_34 : decode b_Fit_init 34 = .ok (.putfield 19, 3) := by decide +kernel
theorem d_Fit_init_37 : decode b_Fit_init 37 = .ok (.aload_n 0, 1) := by decide +kernel
theorem d_Fit_init_38 : decode b_Fit_init 38 = .ok (.bipush 8, 2) := by decide +kernel
theorem d_Fit_init_40 : decode b_Fit_init 40 = .ok (.newarray .int, 2) := by decide +kernel
theorem d_Fit_init_42 : decode b_Fit_init 42 = .ok (.putfield 22, 3) := by decide +kernel
theorem d_Fit_init_45 : decode b_Fit_init 45 = .ok (.return_, 1) := by decide +kernel
theorem d_Fl_init_0 : decode b_Fl_init 0 = .ok (.aload_n 0, 1) := by decide +kernel
theorem d_Fl_init_1 : decode b_Fl_init 1 = .ok (.invokespecial 3, 3) := by decide +kernel
theorem d_Fl_init_4 : decode b_Fl_init 4 = .ok (.aload_n 0, 1) := by decide +kernel
theorem d_Fl_init_5 : decode b_Fl_init 5 = .ok (.bipush 44, 2) := by decide +kernel
theorem d_Fl_init_7 : decode b_Fl_init 7 = .ok (.newarray .long, 2) := by decide +kernel
theorem d_Fl_init_9 : decode b_Fl_init 9 = .ok (.putfield 11, 3) := by decide +kernel
theorem d_Fl_init_12 : decode b_Fl_init 12 = .ok (.aload_n 0, 1) := by decide +kernel
theorem d_Fl_init_13 : decode b_Fl_init 13 = .ok (.bipush 44, 2) := by decide +kernel
theorem d_Fl_init_15 : decode b_Fl_init 15 = .ok (.newarray .long, 2) := by decide +kernel
theorem d_Fl_init_17 : decode b_Fl_init 17 = .ok (.putfield 15, 3) := by decide +kernel
theorem d_Fl_init_20 : decode b_Fl_init 20 = .ok (.aload_n 0, 1) := by decide +kernel
theorem d_Fl_init_21 : decode b_Fl_init 21 = .ok (.bipush 100, 2) := by decide +kernel
theorem d_Fl_init_23 : decode b_Fl_init 23 = .ok (.newarray .long, 2) := by decide +kernel
theorem d_Fl_init_25 : decode b_Fl_init 25 = .ok (.putfield 18, 3) := by decide +kernel
theorem d_Fl_init_28 : decode b_Fl_init 28 = .ok (.aload_n 0, 1) := by decide +kernel
theorem d_Fl_init_29 : decode b_Fl_init 29 = .ok (.bipush 100, 2) := by decide +kernel
theorem d_Fl_init_31 : decode b_Fl_init 31 = .ok (.newarray .long, 2) := by decide +kernel
theorem d_Fl_init_33 : decode b_Fl_init 33 = .ok (.putfield 21, 3) := by decide +kernel
theorem d_Fl_init_36 : decode b_Fl_init 36 = .ok (.aload_n 0, 1) := by decide +kernel
theorem d_Fl_init_37 : decode b_Fl_init 37 = .ok (.iconst 4, 1) := by decide +kernel
theorem d_Fl_init_38 : decode b_Fl_init 38 = .ok (.anewarray 24, 3) := by decide +kernel
theorem d_Fl_init_41 : decode b_Fl_init 41 = .ok (.putfield 26, 3) := by decide +kernel
theorem d_Fl_init_44 : decode b_Fl_init 44 = .ok (.return_, 1) := by decide +kernel
theorem d_Im_init_0 : decode b_Im_init 0 = .ok (.aload_n 0, 1) := by decide +kernel
theorem d_Im_init_1 : decode b_Im_init 1 = .ok (.invokespecial 3, 3) := by decide +kernel
theorem d_Im_init_4 : decode b_Im_init 4 = .ok (.aload_n 0, 1) := by decide +kernel
theorem d_Im_init_5 : decode b_Im_init 5 = .ok (.sipush 4096, 3) := by decide +kernel
theorem d_Im_init_8 : decode b_Im_init 8 = .ok (.newarray .int, 2) := by decide +kernel
theorem d_Im_init_10 : decode b_Im_init 10 = .ok (.putfield 9, 3) := by decide +kernel
theorem d_Im_init_13 : decode b_Im_init 13 = .ok (.aload_n 0, 1) := by decide +kernel
theorem d_Im_init_14 : decode b_Im_init 14 = .ok (.sipush 513, 3) := by decide +kernel
theorem d_Im_init_17 : decode b_Im_init 17 = .ok (.newarray .int, 2) := by decide +kernel
theorem d_Im_init_19 : decode b_Im_init 19 = .ok (.putfield 13, 3) := by decide +kernel
theorem d_Im_init_22 : decode b_Im_init 22 = .ok (.return_, 1) := by decide +kernel
theorem d_Ar_fill_0 : decode b_Ar_fill 0 = .ok (.iconst 0, 1) := by decide +kernel
theorem d_Ar_fill_1 : decode b_Ar_fill 1 = .ok (.istore_n 2, 1) := by decide +kernel
theorem d_Ar_fill_2 : decode b_Ar_fill 2 = .ok (.aload_n 0, 1) := by decide +kernel
theorem d_Ar_fill_3 : decode b_Ar_fill 3 = .ok (.arraylength, 1) := by decide +kernel
theorem d_Ar_fill_4 : decode b_Ar_fill 4 = .ok (.istore_n 3, 1) := by decide +kernel
theorem d_Ar_fill_5 : decode b_Ar_fill 5 = .ok (.iload_n 2, 1) := by decide +kernel
theorem d_Ar_fill_6 : decode b_Ar_fill 6 = .ok (.iload_n 3, 1) := by decide +kernel
theorem d_Ar_fill_7 : decode b_Ar_fill 7 = .ok (.if_icmp .ge 13, 3) := by decide +kernel
theorem d_Ar_fill_10 : decode b_Ar_fill 10 = .ok (.aload_n 0, 1) := by decide +kernel
theorem d_Ar_fill_11 : decode b_Ar_fill 11 = .ok (.iload_n 2, 1) := by decide +kernel
theorem d_Ar_fill_12 : decode b_Ar_fill 12 = .ok (.iload_n 1, 1) := by decide +kernel
theorem d_Ar_fill_13 : decode b_Ar_fill 13 = .ok (.iastore, 1) := by decide +kernel
theorem d_Ar_fill_14 : decode b_Ar_fill 14 = .ok (.iinc 2 1, 3) := by decide +kernel
theorem d_Ar_fill_17 : decode b_Ar_fill 17 = .ok (.goto (-12), 3) := by decide +kernel
theorem d_Ar_fill_20 : decode b_Ar_fill 20 = .ok (.return_, 1) := by decide +kernel
theorem d_Ke_init_0 : decode b_Ke_init 0 = .ok (.aload_n 0, 1) := by decide +kernel
theorem d_Ke_init_1 : decode b_Ke_init 1 = .ok (.invokespecial 3, 3) := by decide +kernel
theorem d_Ke_init_4 : decode b_Ke_init 4 = .ok (.aload_n 0, 1) := by decide +kernel
theorem d_Ke_init_5 : decode b_Ke_init 5 = .ok (.bipush 16, 2) := by decide +kernel
theorem d_Ke_init_7 : decode b_Ke_init 7 = .ok (.bipush 16, 2) := by decide +kernel
theorem d_Ke_init_9 : decode b_Ke_init 9 = .ok (.multianewarray 9 2, 4) := by decide +kernel
theorem d_Ke_init_13 : decode b_Ke_init 13 = .ok (.putfield 11, 3) := by decide +kernel
theorem d_Ke_init_16 : decode b_Ke_init 16 = .ok (.aload_n 0, 1) := by decide +kernel
theorem d_Ke_init_17 : decode b_Ke_init 17 = .ok (.bipush 32, 2) := by decide +kernel
theorem d_Ke_init_19 : decode b_Ke_init 19 = .ok (.bipush 32, 2) := by decide +kernel
theorem d_Ke_init_21 : decode b_Ke_init 21 = .ok (.multianewarray 9 2, 4) := by decide +kernel
theorem d_Ke_init_25 : decode b_Ke_init 25 = .ok (.putfield 16, 3) := by decide +kernel
theorem d_Ke_init_28 : decode b_Ke_init 28 = .ok (.iconst 0, 1) := by decide +kernel
theorem d_Ke_init_29 : decode b_Ke_init 29 = .ok (.istore_n 1, 1) := by decide +kernel
theorem d_Ke_init_30 : decode b_Ke_init 30 = .ok (.iload_n 1, 1) := by decide +kernel
theorem d_Ke_init_31 : decode b_Ke_init 31 = .ok (.bipush 32, 2) := by decide +kernel
theorem d_Ke_init_33 : decode b_Ke_init 33 = .ok (.if_icmp .ge 21, 3) := by decide +kernel
theorem d_Ke_init_36 : decode b_Ke_init 36 = .ok (.aload_n 0, 1) := by decide +kernel
theorem d_Ke_init_37 : decode b_Ke_init 37 = .ok (.getfield 16, 3) := by decide +kernel
theorem d_Ke_init_40 : decode b_Ke_init 40 = .ok (.iload_n 1, 1) := by decide +kernel
theorem d_Ke_init_41 : decode b_Ke_init 41 = .ok (.aaload, 1) := by decide +kernel
theorem d_Ke_init_42 : decode b_Ke_init 42 = .ok (.sipush 10000, 3) := by decide +kernel
theorem d_Ke_init_45 : decode b_Ke_init 45 = .ok (.invokestatic 19, 3) := by decide +kernel
theorem d_Ke_init_48 : decode b_Ke_init 48 = .ok (.iinc 1 1, 3) := by decide +kernel
theorem d_Ke_init_51 : decode b_Ke_init 51 = .ok (.goto (-21), 3) := by decide +kernel
theorem d_Ke_init_54 : decode b_Ke_init 54 = .ok (.return_, 1) := by decide +kernel
theorem d_Li_init_0 : decode b_Li_init 0 = .ok (.aload_n 0, 1) := by decide +kernel
theorem d_Li_init_1 : decode b_Li_init 1 = .ok (.invokespecial 3, 3) := by decide +kernel
theorem d_Li_init_4 : decode b_Li_init 4 = .ok (.aload_n 0, 1) := by decide +kernel
theorem d_Li_init_5 : decode b_Li_init 5 = .ok (.iconst 3, 1) := by decide +kernel
theorem d_Li_init_6 : decode b_Li_init 6 = .ok (.bipush 40, 2) := by decide +kernel
theorem d_Li_init_8 : decode b_Li_init 8 = .ok (.multianewarray 11 2, 4) := by decide +kernel
theorem d_Li_init_12 : decode b_Li_init 12 = .ok (.putfield 13, 3) := by decide +kernel
theorem d_Li_init_15 : decode b_Li_init 15 = .ok (.aload_n 0, 1) := by decide +kernel
theorem d_Li_init_16 : decode b_Li_init 16 = .ok (.bipush 40, 2) := by decide +kernel
theorem d_Li_init_18 : decode b_Li_init 18 = .ok (.newarray .int, 2) := by decide +kernel
theorem d_Li_init_20 : decode b_Li_init 20 = .ok (.putfield 16, 3) := by decide +kernel
theorem d_Li_init_23 : decode b_Li_init 23 = .ok (.aload_n 0, 1) := by decide +kernel
theorem d_Li_init_24 : decode b_Li_init 24 = .ok (.bipush 60, 2) := by decide +kernel
theorem d_Li_init_26 : decode b_Li_init 26 = .ok (.newarray .int, 2) := by decide +kernel
theorem d_Li_init_28 : decode b_Li_init 28 = .ok (.putfield 20, 3) := by decide +kernel
theorem d_Li_init_31 : decode b_Li_init 31 = .ok (.aload_n 0, 1) := by decide +kernel
theorem d_Li_init_32 : decode b_Li_init 32 = .ok (.bipush 60, 2) := by decide +kernel
theorem d_Li_init_34 : decode b_Li_init 34 = .ok (.newarray .int, 2) := by decide +kernel
theorem d_Li_init_36 : decode b_Li_init 36 = .ok (.putfield 23, 3) := by decide +kernel
theorem d_Li_init_39 : decode b_Li_init 39 = .ok (.aload_n 0, 1) := by decide +kernel
theorem d_Li_init_40 : decode b_Li_init 40 = .ok (.bipush 60, 2) := by decide +kernel
theorem d_Li_init_42 : decode b_Li_init 42 = .ok (.newarray .int, 2) := by decide +kernel
theorem d_Li_init_44 : decode b_Li_init 44 = .ok (.putfield 26, 3) := by decide +kernel
theorem d_Li_init_47 : decode b_Li_init 47 = .ok (.aload_n 0, 1) := by decide +kernel
theorem d_Li_init_48 : decode b_Li_init 48 = .ok (.bipush 60, 2) := by decide +kernel
theorem d_Li_init_50 : decode b_Li_init 50 = .ok (.newarray .int, 2) := by decide +kernel
theorem d_Li_init_52 : decode b_Li_init 52 = .ok (.putfield 29, 3) := by decide +kernel
theorem d_Li_init_55 : decode b_Li_init 55 = .ok (.return_, 1) := by decide +kernel
theorem d_Po_init_0 : decode b_Po_init 0 = .ok (.aload_n 0, 1) := by decide +kernel
theorem d_Po_init_1 : decode b_Po_init 1 = .ok (.invokespecial 1, 3) := by decide +kernel
theorem d_Po_init_4 : decode b_Po_init 4 = .ok (.aload_n 0, 1) := by decide +kernel
theorem d_Po_init_5 : decode b_Po_init 5 = .ok (.sipush 500, 3) := by decide +kernel
theorem d_Po_init_8 : decode b_Po_init 8 = .ok (.newarray .int, 2) := by decide +kernel
theorem d_Po_init_10 : decode b_Po_init 10 = .ok (.putfield 9, 3) := by decide +kernel
theorem d_Po_init_13 : decode b_Po_init 13 = .ok (.aload_n 0, 1) := by decide +kernel
theorem d_Po_init_14 : decode b_Po_init 14 = .ok (.sipush 500, 3) := by decide +kernel
theorem d_Po_init_17 : decode b_Po_init 17 = .ok (.newarray .int, 2) := by decide +kernel
theorem d_Po_init_19 : decode b_Po_init 19 = .ok (.putfield 13, 3) := by decide +kernel
theorem d_Po_init_22 : decode b_Po_init 22 = .ok (.aload_n 0, 1) := by decide +kernel
theorem d_Po_init_23 : decode b_Po_init 23 = .ok (.sipush 500, 3) := by decide +kernel
theorem d_Po_init_26 : decode b_Po_init 26 = .ok (.newarray .int, 2) := by decide +kernel
theorem d_Po_init_28 : decode b_Po_init 28 = .ok (.putfield 16, 3) := by decide +kernel
theorem d_Po_init_31 : decode b_Po_init 31 = .ok (.aload_n 0, 1) := by decide +kernel
theorem d_Po_init_32 : decode b_Po_init 32 = .ok (.sipush 500, 3) := by decide +kernel
theorem d_Po_init_35 : decode b_Po_init 35 = .ok (.newarray .int, 2) := by decide +kernel
theorem d_Po_init_37 : decode b_Po_init 37 = .ok (.putfield 19, 3) := by decide +kernel
theorem d_Po_init_40 : decode b_Po_init 40 = .ok (.return_, 1) := by decide +kernel
theorem d_Ru_init_0 : decode b_Ru_init 0 = .ok (.aload_n 0, 1) := by decide +kernel
theorem d_Ru_init_1 : decode b_Ru_init 1 = .ok (.invokespecial 3, 3) := by decide +kernel
theorem d_Ru_init_4 : decode b_Ru_init 4 = .ok (.aload_n 0, 1) := by decide +kernel
theorem d_Ru_init_5 : decode b_Ru_init 5 = .ok (.bipush 32, 2) := by decide +kernel
theorem d_Ru_init_7 : decode b_Ru_init 7 = .ok (.newarray .int, 2) := by decide +kernel
theorem d_Ru_init_9 : decode b_Ru_init 9 = .ok (.putfield 11, 3) := by decide +kernel
theorem d_Ru_init_12 : decode b_Ru_init 12 = .ok (.aload_n 0, 1) := by decide +kernel
theorem d_Ru_init_13 : decode b_Ru_init 13 = .ok (.bipush 16, 2) := by decide +kernel
theorem d_Ru_init_15 : decode b_Ru_init 15 = .ok (.newarray .int, 2) := by decide +kernel
theorem d_Ru_init_17 : decode b_Ru_init 17 = .ok (.putfield 15, 3) := by decide +kernel
theorem d_Ru_init_20 : decode b_Ru_init 20 = .ok (.aload_n 0, 1) := by decide +kernel
theorem d_Ru_init_21 : decode b_Ru_init 21 = .ok (.bipush 8, 2) := by decide +kernel
theorem d_Ru_init_23 : decode b_Ru_init 23 = .ok (.newarray .int, 2) := by decide +kernel
theorem d_Ru_init_25 : decode b_Ru_init 25 = .ok (.putfield 18, 3) := by decide +kernel
theorem d_Ru_init_28 : decode b_Ru_init 28 = .ok (.return_, 1) := by decide +kernel
theorem d_Fo_init_0 : decode b_Fo_init 0 = .ok (.aload_n 0, 1) := by decide +kernel
theorem d_Fo_init_1 : decode b_Fo_init 1 = .ok (.invokespecial 1, 3) := by decide +kernel
theorem d_Fo_init_4 : decode b_Fo_init 4 = .ok (.aload_n 0, 1) := by decide +kernel
theorem d_Fo_init_5 : decode b_Fo_init 5 = .ok (.bipush 32, 2) := by decide +kernel
theorem d_Fo_init_7 : decode b_Fo_init 7 = .ok (.anewarray 9, 3) := by decide +kernel
theorem d_Fo_init_10 : decode b_Fo_init 10 = .ok (.putfield 11, 3) := by decide +kernel
theorem d_Fo_init_13 : decode b_Fo_init 13 = .ok (.aload_n 0, 1) := by decide +kernel
theorem d_Fo_init_14 : decode b_Fo_init 14 = .ok (.iconst 0, 1) := by decide +kernel
theorem d_Fo_init_15 : decode b_Fo_init 15 = .ok (.putfield 15, 3) := by decide +kernel
theorem d_Fo_init_18 : decode b_Fo_init 18 = .ok (.aload_n 0, 1) := by decide +kernel
theorem d_Fo_init_19 : decode b_Fo_init 19 = .ok (.new 19, 3) := by decide +kernel
theorem d_Fo_init_22 : decode b_Fo_init 22 = .ok (.dup, 1) := by decide +kernel
theorem d_Fo_init_23 : decode b_Fo_init 23 = .ok (.invokespecial 21, 3) := by decide +kernel
theorem d_Fo_init_26 : decode b_Fo_init 26 = .ok (.putfield 22, 3) := by decide +kernel
theorem d_Fo_init_29 : decode b_Fo_init 29 = .ok (.aload_n 0, 1) := by decide +kernel
theorem d_Fo_init_30 : decode b_Fo_init 30 = .ok (.new 26, 3) := by decide +kernel
theorem d_Fo_init_33 : decode b_Fo_init 33 = .ok (.dup, 1) := by decide +kernel
theorem d_Fo_init_34 : decode b_Fo_init 34 = .ok (.invokespecial 28, 3) := by decide +kernel
theorem d_Fo_init_37 : decode b_Fo_init 37 = .ok (.putfield 29, 3) := by decide +kernel
theorem d_Fo_init_40 : decode b_Fo_init 40 = .ok (.aload_n 0, 1) := by decide +kernel
theorem d_Fo_init_41 : decode b_Fo_init 41 = .ok (.new 26, 3) := by decide +kernel
theorem d_Fo_init_44 : decode b_Fo_init 44 = .ok (.dup, 1) := by decide +kernel
theorem d_Fo_init_45 : decode b_Fo_init 45 = .ok (.invokespecial 28, 3) := by decide +kernel
theorem d_Fo_init_48 : decode b_Fo_init 48 = .ok (.putfield 33, 3) := by decide +kernel
theorem d_Fo_init_51 : decode b_Fo_init 51 = .ok (.aload_n 0, 1) := by decide +kernel
theorem d_Fo_init_52 : decode b_Fo_init 52 = .ok (.new 36, 3) := by decide +kernel
theorem d_Fo_init_55 : decode b_Fo_init 55 = .ok (.dup, 1) := by decide +kernel
theorem d_Fo_init_56 : decode b_Fo_init 56 = .ok (.invokespecial 38, 3) := by decide +kernel
theorem d_Fo_init_59 : decode b_Fo_init 59 = .ok (.putfield 39, 3) := by decide +kernel
theorem d_Fo_init_62 : decode b_Fo_init 62 = .ok (.aload_n 0, 1) := by decide +kernel
theorem d_Fo_init_63 : decode b_Fo_init 63 = .ok (.new 43, 3) := by decide +kernel
theorem d_Fo_init_66 : decode b_Fo_init 66 = .ok (.dup, 1) := by decide +kernel
theorem d_Fo_init_67 : decode b_Fo_init 67 = .ok (.invokespecial 45, 3) := by decide +kernel
theorem d_Fo_init_70 : decode b_Fo_init 70 = .ok (.putfield 46, 3) := by decide +kernel
theorem d_Fo_init_73 : decode b_Fo_init 73 = .ok (.aload_n 0, 1) := by decide +kernel
theorem d_Fo_init_74 : decode b_Fo_init 74 = .ok (.new 50, 3) := by decide +kernel
theorem d_Fo_init_77 : decode b_Fo_init 77 = .ok (.dup, 1) := by decide +kernel
theorem d_Fo_init_78 : decode b_Fo_init 78 = .ok (.invokespecial 52, 3) := by decide +kernel
theorem d_Fo_init_81 : decode b_Fo_init 81 = .ok (.putfield 53, 3) := by decide +kernel
theorem d_Fo_init_84 : decode b_Fo_init 84 = .ok (.aload_n 0, 1) := by decide +kernel
theorem d_Fo_init_85 : decode b_Fo_init 85 = .ok (.new 50, 3) := by decide +kernel
theorem d_Fo_init_88 : decode b_Fo_init 88 = .ok (.dup, 1) := by decide +kernel
theorem d_Fo_init_89 : decode b_Fo_init 89 = .ok (.invokespecial 52, 3) := by decide +kernel
theorem d_Fo_init_92 : decode b_Fo_init 92 = .ok (.putfield 57, 3) := by decide +kernel
theorem d_Fo_init_95 : decode b_Fo_init 95 = .ok (.aload_n 0, 1) := by decide +kernel
theorem d_Fo_init_96 : decode b_Fo_init 96 = .ok (.iconst 3, 1) := by decide +kernel
theorem d_Fo_init_97 : decode b_Fo_init 97 = .ok (.newarray .int, 2) := by decide +kernel
theorem d_Fo_init_99 : decode b_Fo_init 99 = .ok (.putfield 60, 3) := by decide +kernel
theorem d_Fo_init_102 : decode b_Fo_init 102 = .ok (.aload_n 0, 1) := by decide +kernel
theorem d_Fo_init_103 : decode b_Fo_init 103 = .ok (.new 64, 3) := by decide +kernel
theorem d_Fo_init_106 : decode b_Fo_init 106 = .ok (.dup, 1) := by decide +kernel
theorem d_Fo_init_107 : decode b_Fo_init 107 = .ok (.invokespecial 66, 3) := by decide +kernel
theorem d_Fo_init_110 : decode b_Fo_init 110 = .ok (.putfield 67, 3) := by decide +kernel
theorem d_Fo_init_113 : decode b_Fo_init 113 = .ok (.aload_n 0, 1) := by decide +kernel
theorem d_Fo_init_114 : decode b_Fo_init 114 = .ok (.new 71, 3) := by decide +kernel
theorem d_Fo_init_117 : decode b_Fo_init 117 = .ok (.dup, 1) := by decide +kernel
theorem d_Fo_init_118 : decode b_Fo_init 118 = .ok (.invokespecial 73, 3) := by decide +kernel
theorem d_Fo_init_121 : decode b_Fo_init 121 = .ok (.putfield 74, 3) := by decide +kernel
theorem d_Fo_init_124 : decode b_Fo_init 124 = .ok (.return_, 1) := by decide +kernel
theorem d_Fo_indexOfCode_0 : decode b_Fo_indexOfCode 0 = .ok (.iconst 0, 1) := by decide +kernel
theorem d_Fo_indexOfCode_1 : decode b_Fo_indexOfCode 1 = .ok (.istore_n 3, 1) := by decide +kernel
theorem d_Fo_indexOfCode_2 : decode b_Fo_indexOfCode 2 = .ok (.iload_n 3, 1) := by decide +kernel
theorem d_Fo_indexOfCode_3 : decode b_Fo_indexOfCode 3 = .ok (.iload_n 1, 1) := by decide +kernel
theorem d_Fo_indexOfCode_4 : decode b_Fo_indexOfCode 4 = .ok (.if_icmp .ge 33, 3) := by decide +kernel
theorem d_Fo_indexOfCode_7 : decode b_Fo_indexOfCode 7 = .ok (.iload_n 3, 1) := by decide +kernel
theorem d_Fo_indexOfCode_8 : decode b_Fo_indexOfCode 8 = .ok (.aload_n 0, 1) := by decide +kernel
theorem d_Fo_indexOfCode_9 : decode b_Fo_indexOfCode 9 = .ok (.arraylength, 1) := by decide +kernel
theorem d_Fo_indexOfCode_10 : decode b_Fo_indexOfCode 10 = .ok (.if_icmp .ge 27, 3) := by decide +kernel
theorem d_Fo_indexOfCode_13 : decode b_Fo_indexOfCode 13 = .ok (.aload_n 0, 1) := by decide +kernel
theorem d_Fo_indexOfCode_14 : decode b_Fo_indexOfCode 14 = .ok (.iload_n 3, 1) := by decide +kernel
theorem d_Fo_indexOfCode_15 : decode b_Fo_indexOfCode 15 = .ok (.aaload, 1) := by decide +kernel
theorem d_Fo_indexOfCode_16 : decode b_Fo_indexOfCode 16 = .ok (.ifnull 15, 3) := by decide +kernel
theorem d_Fo_indexOfCode_19 : decode b_Fo_indexOfCode 19 = .ok (.aload_n 0, 1) := by decide +kernel
theorem d_Fo_indexOfCode_20 : decode b_Fo_indexOfCode 20 = .ok (.iload_n 3, 1) := by decide +kernel
theorem d_Fo_indexOfCode_21 : decode b_Fo_indexOfCode 21 = .ok (.aaload, 1) := by decide +kernel
theorem d_Fo_indexOfCode_22 : decode b_Fo_indexOfCode 22 = .ok (.getfield 179, 3) := by decide +kernel
theorem d_Fo_indexOfCode_25 : decode b_Fo_indexOfCode 25 = .ok (.iload_n 2, 1) := by decide +kernel
theorem d_Fo_indexOfCode_26 : decode b_Fo_indexOfCode 26 = .ok (.if_icmp .ne 5, 3) := by decide +kernel
theorem d_Fo_indexOfCode_29 : decode b_Fo_indexOfCode 29 = .ok (.iload_n 3, 1) := by decide +kernel
theorem d_Fo_indexOfCode_30 : decode b_Fo_indexOfCode 30 = .ok (.ireturn, 1) := by decide +kernel
theorem d_Fo_indexOfCode_31 : decode b_Fo_indexOfCode 31 = .ok (.iinc 3 1, 3) := by decide +kernel
theorem d_Fo_indexOfCode_34 : decode b_Fo_indexOfCode 34 = .ok (.goto (-32), 3) := by decide +kernel
theorem d_Fo_indexOfCode_37 : decode b_Fo_indexOfCode 37 = .ok (.iconst (-1), 1) := by decide +kernel
theorem d_Fo_indexOfCode_38 : decode b_Fo_indexOfCode 38 = .ok (.ireturn, 1) := by decide +kernel
theorem d_Fo_find_0 : decode b_Fo_find 0 = .ok (.aload_n 0, 1) := by decide +kernel
theorem d_Fo_find_1 : decode b_Fo_find 1 = .ok (.getfield 11, 3) := by decide +kernel
theorem d_Fo_find_4 : decode b_Fo_find 4 = .ok (.aload_n 0, 1) := by decide +kernel
theorem d_Fo_find_5 : decode b_Fo_find 5 = .ok (.getfield 15, 3) := by decide +kernel
theorem d_Fo_find_8 : decode b_Fo_find 8 = .ok (.iload_n 1, 1) := by decide +kernel
theorem d_Fo_find_9 : decode b_Fo_find 9 = .ok (.invokestatic 95, 3) := by decide +kernel
theorem d_Fo_find_12 : decode b_Fo_find 12 = .ok (.ireturn, 1) := by decide +kernel
theorem d_Fo_within_0 : decode b_Fo_within 0 = .ok (.lload_n 0, 1) := by decide +kernel
theorem d_Fo_within_1 : decode b_Fo_within 1 = .ok (.lload_n 2, 1) := by decide +kernel
theorem d_Fo_within_2 : decode b_Fo_within 2 = .ok (.lcmp, 1) := by decide +kernel
theorem d_Fo_within_3 : decode b_Fo_within 3 = .ok (.ifCond .lt 14, 3) := by decide +kernel
theorem d_Fo_within_6 : decode b_Fo_within 6 = .ok (.lload_n 0, 1) := by decide +kernel
theorem d_Fo_within_7 : decode b_Fo_within 7 = .ok (.lload 4, 2) := by decide +kernel
theorem d_Fo_within_9 : decode b_Fo_within 9 = .ok (.lcmp, 1) := by decide +kernel
theorem d_Fo_within_10 : decode b_Fo_within 10 = .ok (.ifCond .gt 7, 3) := by decide +kernel
theorem d_Fo_within_13 : decode b_Fo_within 13 = .ok (.iconst 1, 1) := by decide +kernel
theorem d_Fo_within_14 : decode b_Fo_within 14 = .ok (.goto 4, 3) := by decide +kernel
theorem d_Fo_within_17 : decode b_Fo_within 17 = .ok (.iconst 0, 1) := by decide +kernel
theorem d_Fo_within_18 : decode b_Fo_within 18 = .ok (.ireturn, 1) := by decide +kernel
theorem d_Fo_isCode_0 : decode b_Fo_isCode 0 = .ok (.iload_n 0, 1) := by decide +kernel
theorem d_Fo_isCode_1 : decode b_Fo_isCode 1 = .ok (.i2l, 1) := by decide +kernel
theorem d_Fo_isCode_2 : decode b_Fo_isCode 2 = .ok (.lconst 0, 1) := by decide +kernel
theorem d_Fo_isCode_3 : decode b_Fo_isCode 3 = .ok (.ldc2_w 350, 3) := by decide +kernel
theorem d_Fo_isCode_6 : decode b_Fo_isCode 6 = .ok (.invokestatic 84, 3) := by decide +kernel
theorem d_Fo_isCode_9 : decode b_Fo_isCode 9 = .ok (.ireturn, 1) := by decide +kernel
theorem d_Pr_init_0 : decode b_Pr_init 0 = .ok (.aload_n 0, 1) := by decide +kernel
theorem d_Pr_init_1 : decode b_Pr_init 1 = .ok (.invokespecial 3, 3) := by decide +kernel
theorem d_Pr_init_4 : decode b_Pr_init 4 = .ok (.aload_n 0, 1) := by decide +kernel
theorem d_Pr_init_5 : decode b_Pr_init 5 = .ok (.bipush 100, 2) := by decide +kernel
theorem d_Pr_init_7 : decode b_Pr_init 7 = .ok (.newarray .int, 2) := by decide +kernel
theorem d_Pr_init_9 : decode b_Pr_init 9 = .ok (.putfield 9, 3) := by decide +kernel
theorem d_Pr_init_12 : decode b_Pr_init 12 = .ok (.aload_n 0, 1) := by decide +kernel
theorem d_Pr_init_13 : decode b_Pr_init 13 = .ok (.bipush 100, 2) := by decide +kernel
theorem d_Pr_init_15 : decode b_Pr_init 15 = .ok (.newarray .int, 2) := by decide +kernel
theorem d_Pr_init_17 : decode b_Pr_init 17 = .ok (.putfield 15, 3) := by decide +kernel
theorem d_Pr_init_20 : decode b_Pr_init 20 = .ok (.return_, 1) := by decide +kernel
theorem d_Sh_init_0 : decode b_Sh_init 0 = .ok (.aload_n 0, 1) := by decide +kernel
theorem d_Sh_init_1 : decode b_Sh_init 1 = .ok (.invokespecial 3, 3) := by decide +kernel
theorem d_Sh_init_4 : decode b_Sh_init 4 = .ok (.aload_n 0, 1) := by decide +kernel
theorem d_Sh_init_5 : decode b_Sh_init 5 = .ok (.bipush 100, 2) := by decide +kernel
theorem d_Sh_init_7 : decode b_Sh_init 7 = .ok (.newarray .int, 2) := by decide +kernel
theorem d_Sh_init_9 : decode b_Sh_init 9 = .ok (.putfield 9, 3) := by decide +kernel
theorem d_Sh_init_12 : decode b_Sh_init 12 = .ok (.aload_n 0, 1) := by decide +kernel
theorem d_Sh_init_13 : decode b_Sh_init 13 = .ok (.bipush 100, 2) := by decide +kernel
theorem d_Sh_init_15 : decode b_Sh_init 15 = .ok (.newarray .int, 2) := by decide +kernel
theorem d_Sh_init_17 : decode b_Sh_init 17 = .ok (.putfield 15, 3) := by decide +kernel
theorem d_Sh_init_20 : decode b_Sh_init 20 = .ok (.aload_n 0, 1) := by decide +kernel
theorem d_Sh_init_21 : decode b_Sh_init 21 = .ok (.bipush 100, 2) := by decide +kernel
theorem d_Sh_init_23 : decode b_Sh_init 23 = .ok (.newarray .int, 2) := by decide +kernel
theorem d_Sh_init_25 : decode b_Sh_init 25 = .ok (.putfield 18, 3) := by decide +kernel
theorem d_Sh_init_28 : decode b_Sh_init 28 = .ok (.aload_n 0, 1) := by decide +kernel
theorem d_Sh_init_29 : decode b_Sh_init 29 = .ok (.iconst 3, 1) := by decide +kernel
theorem d_Sh_init_30 : decode b_Sh_init 30 = .ok (.bipush 100, 2) := by decide +kernel
theorem d_Sh_init_32 : decode b_Sh_init 32 = .ok (.multianewarray 21 2, 4) := by decide +kernel
theorem d_Sh_init_36 : decode b_Sh_init 36 = .ok (.putfield 23, 3) := by decide +kernel
theorem d_Sh_init_39 : decode b_Sh_init 39 = .ok (.aload_n 0, 1) := by decide +kernel
theorem d_Sh_init_40 : decode b_Sh_init 40 = .ok (.iconst 3, 1) := by decide +kernel
theorem d_Sh_init_41 : decode b_Sh_init 41 = .ok (.bipush 100, 2) := by decide +kernel
theorem d_Sh_init_43 : decode b_Sh_init 43 = .ok (.multianewarray 21 2, 4) := by decide +kernel
theorem d_Sh_init_47 : decode b_Sh_init 47 = .ok (.putfield 26, 3) := by decide +kernel
theorem d_Sh_init_50 : decode b_Sh_init 50 = .ok (.aload_n 0, 1) := by decide +kernel
theorem d_Sh_init_51 : decode b_Sh_init 51 = .ok (.bipush 8, 2) := by decide +kernel
theorem d_Sh_init_53 : decode b_Sh_init 53 = .ok (.newarray .int, 2) := by decide +kernel
theorem d_Sh_init_55 : decode b_Sh_init 55 = .ok (.putfield 29, 3) := by decide +kernel
theorem d_Sh_init_58 : decode b_Sh_init 58 = .ok (.return_, 1) := by decide +kernel
theorem d_Le_init_0 : decode b_Le_init 0 = .ok (.aload_n 0, 1) := by decide +kernel
theorem d_Le_init_1 : decode b_Le_init 1 = .ok (.invokespecial 3, 3) := by decide +kernel
theorem d_Le_init_4 : decode b_Le_init 4 = .ok (.aload_n 0, 1) := by decide +kernel
theorem d_Le_init_5 : decode b_Le_init 5 = .ok (.new 9, 3) := by decide +kernel
theorem d_Le_init_8 : decode b_Le_init 8 = .ok (.dup, 1) := by decide +kernel
theorem d_Le_init_9 : decode b_Le_init 9 = .ok (.invokespecial 11, 3) := by decide +kernel
theorem d_Le_init_12 : decode b_Le_init 12 = .ok (.putfield 12, 3) := by decide +kernel
theorem d_Le_init_15 : decode b_Le_init 15 = .ok (.aload_n 0, 1) := by decide +kernel
theorem d_Le_init_16 : decode b_Le_init 16 = .ok (.new 18, 3) := by decide +kernel
theorem d_Le_init_19 : decode b_Le_init 19 = .ok (.dup, 1) := by decide +kernel
theorem d_Le_init_20 : decode b_Le_init 20 = .ok (.invokespecial 20, 3) := by decide +kernel
theorem d_Le_init_23 : decode b_Le_init 23 = .ok (.putfield 21, 3) := by decide +kernel
theorem d_Le_init_26 : decode b_Le_init 26 = .ok (.aload_n 0, 1) := by decide +kernel
theorem d_Le_init_27 : decode b_Le_init 27 = .ok (.bipush 6, 2) := by decide +kernel
theorem d_Le_init_29 : decode b_Le_init 29 = .ok (.anewarray 25, 3) := by decide +kernel
theorem d_Le_init_32 : decode b_Le_init 32 = .ok (.putfield 27, 3) := by decide +kernel
theorem d_Le_init_35 : decode b_Le_init 35 = .ok (.aload_n 0, 1) := by decide +kernel
theorem d_Le_init_36 : decode b_Le_init 36 = .ok (.iload_n 1, 1) := by decide +kernel
theorem d_Le_init_37 : decode b_Le_init 37 = .ok (.putfield 31, 3) := by decide +kernel
theorem d_Le_init_40 : decode b_Le_init 40 = .ok (.aload_n 0, 1) := by decide +kernel
theorem d_Le_init_41 : decode b_Le_init 41 = .ok (.iload_n 2, 1) := by decide +kernel
theorem d_Le_init_42 : decode b_Le_init 42 = .ok (.putfield 35, 3) := by decide +kernel
theorem d_Le_init_45 : decode b_Le_init 45 = .ok (.return_, 1) := by decide +kernel
theorem d_Fo_letter_0 : decode b_Fo_letter 0 = .ok (.iload_n 1, 1) := by decide +kernel
theorem d_Fo_letter_1 : decode b_Fo_letter 1 = .ok (.invokestatic 78, 3) := by decide +kernel
theorem d_Fo_letter_4 : decode b_Fo_letter 4 = .ok (.ifCond .eq 24, 3) := by decide +kernel
theorem d_Fo_letter_7 : decode b_Fo_letter 7 = .ok (.iload_n 2, 1) := by decide +kernel
theorem d_Fo_letter_8 : decode b_Fo_letter 8 = .ok (.i2l, 1) := by decide +kernel
theorem d_Fo_letter_9 : decode b_Fo_letter 9 = .ok (.lconst 0, 1) := by decide +kernel
theorem d_Fo_letter_10 : decode b_Fo_letter 10 = .ok (.ldc2_w 82, 3) := by decide +kernel
theorem d_Fo_letter_13 : decode b_Fo_letter 13 = .ok (.invokestatic 84, 3) := by decide +kernel
theorem d_Fo_letter_16 : decode b_Fo_letter 16 = .ok (.ifCond .eq 12, 3) := by decide +kernel
theorem d_Fo_letter_19 : decode b_Fo_letter 19 = .ok (.aload_n 0, 1) := by decide +kernel
theorem d_Fo_letter_20 : decode b_Fo_letter 20 = .ok (.getfield 15, 3) := by decide +kernel
theorem d_Fo_letter_23 : decode b_Fo_letter 23 = .ok (.bipush 32, 2) := by decide +kernel
theorem d_Fo_letter_25 : decode b_Fo_letter 25 = .ok (.if_icmp .lt 5, 3) := by decide +kernel
theorem d_Fo_letter_28 : decode b_Fo_letter 28 = .ok (.iconst (-1), 1) := by decide +kernel
theorem d_Fo_letter_29 : decode b_Fo_letter 29 = .ok (.ireturn, 1) := by decide +kernel
theorem d_Fo_letter_30 : decode b_Fo_letter 30 = .ok (.aload_n 0, 1) := by decide +kernel
theorem d_Fo_letter_31 : decode b_Fo_letter 31 = .ok (.iload_n 1, 1) := by decide +kernel
theorem d_Fo_letter_32 : decode b_Fo_letter 32 = .ok (.invokevirtual 88, 3) := by decide +kernel
theorem d_Fo_letter_35 : decode b_Fo_letter 35 = .ok (.iconst (-1), 1) := by decide +kernel
theorem d_Fo_letter_36 : decode b_Fo_letter 36 = .ok (.if_icmp .eq 5, 3) := by decide +kernel
theorem d_Fo_letter_39 : decode b_Fo_letter 39 = .ok (.iconst (-1), 1) := by decide +kernel
theorem d_Fo_letter_40 : decode b_Fo_letter 40 = .ok (.ireturn, 1) := by decide +kernel
theorem d_Fo_letter_41 : decode b_Fo_letter 41 = .ok (.aload_n 0, 1) := by decide +kernel
theorem d_Fo_letter_42 : decode b_Fo_letter 42 = .ok (.getfield 11, 3) := by decide +kernel
theorem d_Fo_letter_45 : decode b_Fo_letter 45 = .ok (.aload_n 0, 1) := by decide +kernel
theorem d_Fo_letter_46 : decode b_Fo_letter 46 = .ok (.getfield 15, 3) := by decide +kernel
theorem d_Fo_letter_49 : decode b_Fo_letter 49 = .ok (.new 9, 3) := by decide +kernel
theorem d_Fo_letter_52 : decode b_Fo_letter 52 = .ok (.dup, 1) := by decide +kernel
theorem d_Fo_letter_53 : decode b_Fo_letter 53 = .ok (.iload_n 1, 1) := by decide +kernel
theorem d_Fo_letter_54 : decode b_Fo_letter 54 = .ok (.iload_n 2, 1) := by decide +kernel
theorem d_Fo_letter_55 : decode b_Fo_letter 55 = .ok (.invokespecial 92, 3) := by decide +kernel
theorem d_Fo_letter_58 : decode b_Fo_letter 58 = .ok (.aastore, 1) := by decide +kernel
theorem d_Fo_letter_59 : decode b_Fo_letter 59 = .ok (.aload_n 0, 1) := by decide +kernel
theorem d_Fo_letter_60 : decode b_Fo_letter 60 = .ok (.dup, 1) := by decide +kernel
theorem d_Fo_letter_61 : decode b_Fo_letter 61 = .ok (.getfield 15, 3) := by decide +kernel
theorem d_Fo_letter_64 : decode b_Fo_letter 64 = .ok (.iconst 1, 1) := by decide +kernel
theorem d_Fo_letter_65 : decode b_Fo_letter 65 = .ok (.iadd, 1) := by decide +kernel
theorem d_Fo_letter_66 : decode b_Fo_letter 66 = .ok (.putfield 15, 3) := by decide +kernel
theorem d_Fo_letter_69 : decode b_Fo_letter 69 = .ok (.aload_n 0, 1) := by decide +kernel
theorem d_Fo_letter_70 : decode b_Fo_letter 70 = .ok (.getfield 15, 3) := by decide +kernel
theorem d_Fo_letter_73 : decode b_Fo_letter 73 = .ok (.iconst 1, 1) := by decide +kernel
theorem d_Fo_letter_74 : decode b_Fo_letter 74 = .ok (.isub, 1) := by decide +kernel
theorem d_Fo_letter_75 : decode b_Fo_letter 75 = .ok (.ireturn, 1) := by decide +kernel
theorem d_Fo_letterOf_0 : decode b_Fo_letterOf 0 = .ok (.iload_n 1, 1) := by decide +kernel
theorem d_Fo_letterOf_1 : decode b_Fo_letterOf 1 = .ok (.i2l, 1) := by decide +kernel
theorem d_Fo_letterOf_2 : decode b_Fo_letterOf 2 = .ok (.lconst 0, 1) := by decide +kernel
theorem d_Fo_letterOf_3 : decode b_Fo_letterOf 3 = .ok (.aload_n 0, 1) := by decide +kernel
theorem d_Fo_letterOf_4 : decode b_Fo_letterOf 4 = .ok (.getfield 15, 3) := by decide +kernel
theorem d_Fo_letterOf_7 : decode b_Fo_letterOf 7 = .ok (.iconst 1, 1) := by decide +kernel
theorem d_Fo_letterOf_8 : decode b_Fo_letterOf 8 = .ok (.isub, 1) := by decide +kernel
theorem d_Fo_letterOf_9 : decode b_Fo_letterOf 9 = .ok (.i2l, 1) := by decide +kernel
theorem d_Fo_letterOf_10 : decode b_Fo_letterOf 10 = .ok (.invokestatic 84, 3) := by decide +kernel
theorem d_Fo_letterOf_13 : decode b_Fo_letterOf 13 = .ok (.ifCond .eq 12, 3) := by decide +kernel
theorem d_Fo_letterOf_16 : decode b_Fo_letterOf 16 = .ok (.aload_n 0, 1) := by decide +kernel
theorem d_Fo_letterOf_17 : decode b_Fo_letterOf 17 = .ok (.getfield 11, 3) := by decide +kernel
theorem d_Fo_letterOf_20 : decode b_Fo_letterOf 20 = .ok (.iload_n 1, 1) := by decide +kernel
theorem d_Fo_letterOf_21 : decode b_Fo_letterOf 21 = .ok (.aaload, 1) := by decide +kernel
theorem d_Fo_letterOf_22 : decode b_Fo_letterOf 22 = .ok (.goto 4, 3) := by decide +kernel
theorem d_Fo_letterOf_25 : decode b_Fo_letterOf 25 = .ok (.aconst_null, 1) := by decide +kernel
theorem d_Fo_letterOf_26 : decode b_Fo_letterOf 26 = .ok (.areturn, 1) := by decide +kernel
theorem d_Sh_begin_0 : decode b_Sh_begin 0 = .ok (.aload_n 0, 1) := by decide +kernel
theorem d_Sh_begin_1 : decode b_Sh_begin 1 = .ok (.getfield 32, 3) := by decide +kernel
theorem d_Sh_begin_4 : decode b_Sh_begin 4 = .ok (.ifCond .ne 12, 3) := by decide +kernel
theorem d_Sh_begin_7 : decode b_Sh_begin 7 = .ok (.aload_n 0, 1) := by decide +kernel
theorem d_Sh_begin_8 : decode b_Sh_begin 8 = .ok (.getfield 36, 3) := by decide +kernel
theorem d_Sh_begin_11 : decode b_Sh_begin 11 = .ok (.bipush 8, 2) := by decide +kernel
theorem d_Sh_begin_13 : decode b_Sh_begin 13 = .ok (.if_icmp .lt 5, 3) := by decide +kernel
theorem d_Sh_begin_16 : decode b_Sh_begin 16 = .ok (.iconst (-1), 1) := by decide +kernel
theorem d_Sh_begin_17 : decode b_Sh_begin 17 = .ok (.ireturn, 1) := by decide +kernel
theorem d_Sh_begin_18 : decode b_Sh_begin 18 = .ok (.aload_n 0, 1) := by decide +kernel
theorem d_Sh_begin_19 : decode b_Sh_begin 19 = .ok (.iconst 1, 1) := by decide +kernel
theorem d_Sh_begin_20 : decode b_Sh_begin 20 = .ok (.putfield 32, 3) := by decide +kernel
theorem d_Sh_begin_23 : decode b_Sh_begin 23 = .ok (.aload_n 0, 1) := by decide +kernel
theorem d_Sh_begin_24 : decode b_Sh_begin 24 = .ok (.getfield 36, 3) := by decide +kernel
theorem d_Sh_begin_27 : decode b_Sh_begin 27 = .ok (.ireturn, 1) := by decide +kernel
theorem d_Fo_outline_0 : decode b_Fo_outline 0 = .ok (.aload_n 0, 1) := by decide +kernel
theorem d_Fo_outline_1 : decode b_Fo_outline 1 = .ok (.iload_n 1, 1) := by decide +kernel
theorem d_Fo_outline_2 : decode b_Fo_outline 2 = .ok (.invokevirtual 99, 3) := by decide +kernel
theorem d_Fo_outline_5 : decode b_Fo_outline 5 = .ok (.astore_n 2, 1) := by decide +kernel
theorem d_Fo_outline_6 : decode b_Fo_outline 6 = .ok (.aload_n 2, 1) := by decide +kernel
theorem d_Fo_outline_7 : decode b_Fo_outline 7 = .ok (.ifnull 10, 3) := by decide +kernel
theorem d_Fo_outline_10 : decode b_Fo_outline 10 = .ok (.aload_n 2, 1) := by decide +kernel
theorem d_Fo_outline_11 : decode b_Fo_outline 11 = .ok (.getfield 103, 3) := by decide +kernel
theorem d_Fo_outline_14 : decode b_Fo_outline 14 = .ok (.ifCond .le 5, 3) := by decide +kernel
theorem d_Fo_outline_17 : decode b_Fo_outline 17 = .ok (.iconst (-1), 1) := by decide +kernel
theorem d_Fo_outline_18 : decode b_Fo_outline 18 = .ok (.ireturn, 1) := by decide +kernel
theorem d_Fo_outline_19 : decode b_Fo_outline 19 = .ok (.aload_n 2, 1) := by decide +kernel
theorem d_Fo_outline_20 : decode b_Fo_outline 20 = .ok (.getfield 106, 3) := by decide +kernel
theorem d_Fo_outline_23 : decode b_Fo_outline 23 = .ok (.invokevirtual 110, 3) := by decide +kernel
theorem d_Fo_outline_26 : decode b_Fo_outline 26 = .ok (.ireturn, 1) := by decide +kernel
theorem d_Fo_isPlace_0 : decode b_Fo_isPlace 0 = .ok (.iload_n 0, 1) := by decide +kernel
theorem d_Fo_isPlace_1 : decode b_Fo_isPlace 1 = .ok (.i2l, 1) := by decide +kernel
theorem d_Fo_isPlace_2 : decode b_Fo_isPlace 2 = .ok (.ldc2_w 352, 3) := by decide +kernel
theorem d_Fo_isPlace_5 : decode b_Fo_isPlace 5 = .ok (.ldc2_w 82, 3) := by decide +kernel
theorem d_Fo_isPlace_8 : decode b_Fo_isPlace 8 = .ok (.invokestatic 84, 3) := by decide +kernel
theorem d_Fo_isPlace_11 : decode b_Fo_isPlace 11 = .ok (.ifCond .eq 21, 3) := by decide +kernel
theorem d_Fo_isPlace_14 : decode b_Fo_isPlace 14 = .ok (.iload_n 1, 1) := by decide +kernel
theorem d_Fo_isPlace_15 : decode b_Fo_isPlace 15 = .ok (.i2l, 1) := by decide +kernel
theorem d_Fo_isPlace_16 : decode b_Fo_isPlace 16 = .ok (.ldc2_w 352, 3) := by decide +kernel
theorem d_Fo_isPlace_19 : decode b_Fo_isPlace 19 = .ok (.ldc2_w 82, 3) := by decide +kernel
theorem d_Fo_isPlace_22 : decode b_Fo_isPlace 22 = .ok (.invokestatic 84, 3) := by decide +kernel
theorem d_Fo_isPlace_25 : decode b_Fo_isPlace 25 = .ok (.ifCond .eq 7, 3) := by decide +kernel
theorem d_Fo_isPlace_28 : decode b_Fo_isPlace 28 = .ok (.iconst 1, 1) := by decide +kernel
theorem d_Fo_isPlace_29 : decode b_Fo_isPlace 29 = .ok (.goto 4, 3) := by decide +kernel
theorem d_Fo_isPlace_32 : decode b_Fo_isPlace 32 = .ok (.iconst 0, 1) := by decide +kernel
theorem d_Fo_isPlace_33 : decode b_Fo_isPlace 33 = .ok (.ireturn, 1) := by decide +kernel
theorem d_Sh_startOf_0 : decode b_Sh_startOf 0 = .ok (.iload_n 1, 1) := by decide +kernel
theorem d_Sh_startOf_1 : decode b_Sh_startOf 1 = .ok (.i2l, 1) := by decide +kernel
theorem d_Sh_startOf_2 : decode b_Sh_startOf 2 = .ok (.lconst 1, 1) := by decide +kernel
theorem d_Sh_startOf_3 : decode b_Sh_startOf 3 = .ok (.ldc2_w 72, 3) := by decide +kernel
theorem d_Sh_startOf_6 : decode b_Sh_startOf 6 = .ok (.invokestatic 68, 3) := by decide +kernel
theorem d_Sh_startOf_9 : decode b_Sh_startOf 9 = .ok (.ifCond .eq 14, 3) := by decide +kernel
theorem d_Sh_startOf_12 : decode b_Sh_startOf 12 = .ok (.aload_n 0, 1) := by decide +kernel
theorem d_Sh_startOf_13 : decode b_Sh_startOf 13 = .ok (.getfield 29, 3) := by decide +kernel
theorem d_Sh_startOf_16 : decode b_Sh_startOf 16 = .ok (.iload_n 1, 1) := by decide +kernel
theorem d_Sh_startOf_17 : decode b_Sh_startOf 17 = .ok (.iconst 1, 1) := by decide +kernel
theorem d_Sh_startOf_18 : decode b_Sh_startOf 18 = .ok (.isub, 1) := by decide +kernel
theorem d_Sh_startOf_19 : decode b_Sh_startOf 19 = .ok (.iaload, 1) := by decide +kernel
theorem d_Sh_startOf_20 : decode b_Sh_startOf 20 = .ok (.goto 4, 3) := by decide +kernel
theorem d_Sh_startOf_23 : decode b_Sh_startOf 23 = .ok (.iconst 0, 1) := by decide +kernel
theorem d_Sh_startOf_24 : decode b_Sh_startOf 24 = .ok (.ireturn, 1) := by decide +kernel
theorem d_Sh_closedPoints_0 : decode b_Sh_closedPoints 0 = .ok (.aload_n 0, 1) := by decide +kernel
theorem d_Sh_closedPoints_1 : decode b_Sh_closedPoints 1 = .ok (.aload_n 0, 1) := by decide +kernel
theorem d_Sh_closedPoints_2 : decode b_Sh_closedPoints 2 = .ok (.getfield 36, 3) := by decide +kernel
theorem d_Sh_closedPoints_5 : decode b_Sh_closedPoints 5 = .ok (.invokevirtual 57, 3) := by decide +kernel
theorem d_Sh_closedPoints_8 : decode b_Sh_closedPoints 8 = .ok (.ireturn, 1) := by decide +kernel
theorem d_Sh_openPoints_0 : decode b_Sh_openPoints 0 = .ok (.aload_n 0, 1) := by decide +kernel
theorem d_Sh_openPoints_1 : decode b_Sh_openPoints 1 = .ok (.getfield 40, 3) := by decide +kernel
theorem d_Sh_openPoints_4 : decode b_Sh_openPoints 4 = .ok (.aload_n 0, 1) := by decide +kernel
theorem d_Sh_openPoints_5 : decode b_Sh_openPoints 5 = .ok (.invokevirtual 54, 3) := by decide +kernel
theorem d_Sh_openPoints_8 : decode b_Sh_openPoints 8 = .ok (.isub, 1) := by decide +kernel
theorem d_Sh_openPoints_9 : decode b_Sh_openPoints 9 = .ok (.ireturn, 1) := by decide +kernel
theorem d_Sh_add_0 : decode b_Sh_add 0 = .ok (.aload_n 0, 1) := by decide +kernel
theorem d_Sh_add_1 : decode b_Sh_add 1 = .ok (.getfield 32, 3) := by decide +kernel
theorem d_Sh_add_4 : decode b_Sh_add 4 = .ok (.ifCond .eq 12, 3) := by decide +kernel
theorem d_Sh_add_7 : decode b_Sh_add 7 = .ok (.aload_n 0, 1) := by decide +kernel
theorem d_Sh_add_8 : decode b_Sh_add 8 = .ok (.getfield 40, 3) := by decide +kernel
theorem d_Sh_add_11 : decode b_Sh_add 11 = .ok (.bipush 100, 2) := by decide +kernel
theorem d_Sh_add_13 : decode b_Sh_add 13 = .ok (.if_icmp .lt 5, 3) := by decide +kernel
theorem d_Sh_add_16 : decode b_Sh_add 16 = .ok (.iconst (-1), 1) := by decide +kernel
theorem d_Sh_add_17 : decode b_Sh_add 17 = .ok (.ireturn, 1) := by decide +kernel
theorem d_Sh_add_18 : decode b_Sh_add 18 = .ok (.aload_n 0, 1) := by decide +kernel
theorem d_Sh_add_19 : decode b_Sh_add 19 = .ok (.getfield 9, 3) := by decide +kernel
theorem d_Sh_add_22 : decode b_Sh_add 22 = .ok (.aload_n 0, 1) := by decide +kernel
theorem d_Sh_add_23 : decode b_Sh_add 23 = .ok (.getfield 40, 3) := by decide +kernel
theorem d_Sh_add_26 : decode b_Sh_add 26 = .ok (.iload_n 1, 1) := by decide +kernel
theorem d_Sh_add_27 : decode b_Sh_add 27 = .ok (.iastore, 1) := by decide +kernel
theorem d_Sh_add_28 : decode b_Sh_add 28 = .ok (.aload_n 0, 1) := by decide +kernel
theorem d_Sh_add_29 : decode b_Sh_add 29 = .ok (.getfield 15, 3) := by decide +kernel
theorem d_Sh_add_32 : decode b_Sh_add 32 = .ok (.aload_n 0, 1) := by decide +kernel
theorem d_Sh_add_33 : decode b_Sh_add 33 = .ok (.getfield 40, 3) := by decide +kernel
theorem d_Sh_add_36 : decode b_Sh_add 36 = .ok (.iload_n 2, 1) := by decide +kernel
theorem d_Sh_add_37 : decode b_Sh_add 37 = .ok (.iastore, 1) := by decide +kernel
theorem d_Sh_add_38 : decode b_Sh_add 38 = .ok (.aload_n 0, 1) := by decide +kernel
theorem d_Sh_add_39 : decode b_Sh_add 39 = .ok (.getfield 18, 3) := by decide +kernel
theorem d_Sh_add_42 : decode b_Sh_add 42 = .ok (.aload_n 0, 1) := by decide +kernel
theorem d_Sh_add_43 : decode b_Sh_add 43 = .ok (.getfield 40, 3) := by decide +kernel
theorem d_Sh_add_46 : decode b_Sh_add 46 = .ok (.iload_n 3, 1) := by decide +kernel
theorem d_Sh_add_47 : decode b_Sh_add 47 = .ok (.iastore, 1) := by decide +kernel
theorem d_Sh_add_48 : decode b_Sh_add 48 = .ok (.iconst 0, 1) := by decide +kernel
theorem d_Sh_add_49 : decode b_Sh_add 49 = .ok (.istore 4, 2) := by decide +kernel
theorem d_Sh_add_51 : decode b_Sh_add 51 = .ok (.iload 4, 2) := by decide +kernel
theorem d_Sh_add_53 : decode b_Sh_add 53 = .ok (.iconst 3, 1) := by decide +kernel
theorem d_Sh_add_54 : decode b_Sh_add 54 = .ok (.if_icmp .ge 35, 3) := by decide +kernel
theorem d_Sh_add_57 : decode b_Sh_add 57 = .ok (.aload_n 0, 1) := by decide +kernel
theorem d_Sh_add_58 : decode b_Sh_add 58 = .ok (.getfield 23, 3) := by decide +kernel
theorem d_Sh_add_61 : decode b_Sh_add 61 = .ok (.iload 4, 2) := by decide +kernel
theorem d_Sh_add_63 : decode b_Sh_add 63 = .ok (.aaload, 1) := by decide +kernel
theorem d_Sh_add_64 : decode b_Sh_add 64 = .ok (.aload_n 0, 1) := by decide +kernel
theorem d_Sh_add_65 : decode b_Sh_add 65 = .ok (.getfield 40, 3) := by decide +kernel
theorem d_Sh_add_68 : decode b_Sh_add 68 = .ok (.iconst 0, 1) := by decide +kernel
theorem d_Sh_add_69 : decode b_Sh_add 69 = .ok (.iastore, 1) := by decide +kernel
theorem d_Sh_add_70 : decode b_Sh_add 70 = .ok (.aload_n 0, 1) := by decide +kernel
theorem d_Sh_add_71 : decode b_Sh_add 71 = .ok (.getfield 26, 3) := by decide +kernel
theorem d_Sh_add_74 : decode b_Sh_add 74 = .ok (.iload 4, 2) := by decide +kernel
theorem d_Sh_add_76 : decode b_Sh_add 76 = .ok (.aaload, 1) := by decide +kernel
theorem d_Sh_add_77 : decode b_Sh_add 77 = .ok (.aload_n 0, 1) := by decide +kernel
theorem d_Sh_add_78 : decode b_Sh_add 78 = .ok (.getfield 40, 3) := by decide +kernel
theorem d_Sh_add_81 : decode b_Sh_add 81 = .ok (.iconst 0, 1) := by decide +kernel
theorem d_Sh_add_82 : decode b_Sh_add 82 = .ok (.iastore, 1) := by decide +kernel
theorem d_Sh_add_83 : decode b_Sh_add 83 = .ok (.iinc 4 1, 3) := by decide +kernel
theorem d_Sh_add_86 : decode b_Sh_add 86 = .ok (.goto (-35), 3) := by decide +kernel
theorem d_Sh_add_89 : decode b_Sh_add 89 = .ok (.aload_n 0, 1) := by decide +kernel
theorem d_Sh_add_90 : decode b_Sh_add 90 = .ok (.dup, 1) := by decide +kernel
theorem d_Sh_add_91 : decode b_Sh_add 91 = .ok (.getfield 40, 3) := by decide +kernel
theorem d_Sh_add_94 : decode b_Sh_add 94 = .ok (.iconst 1, 1) := by decide +kernel
theorem d_Sh_add_95 : decode b_Sh_add 95 = .ok (.iadd, 1) := by decide +kernel
theorem d_Sh_add_96 : decode b_Sh_add 96 = .ok (.putfield 40, 3) := by decide +kernel
theorem d_Sh_add_99 : decode b_Sh_add 99 = .ok (.aload_n 0, 1) := by decide +kernel
theorem d_Sh_add_100 : decode b_Sh_add 100 = .ok (.invokevirtual 43, 3) := by decide +kernel
theorem d_Sh_add_103 : decode b_Sh_add 103 = .ok (.ireturn, 1) := by decide +kernel
theorem d_Fo_point_0 : decode b_Fo_point 0 = .ok (.aload_n 0, 1) := by decide +kernel
theorem d_Fo_point_1 : decode b_Fo_point 1 = .ok (.iload_n 1, 1) := by decide +kernel
theorem d_Fo_point_2 : decode b_Fo_point 2 = .ok (.invokevirtual 99, 3) := by decide +kernel
theorem d_Fo_point_5 : decode b_Fo_point 5 = .ok (.astore 5, 2) := by decide +kernel
theorem d_Fo_point_7 : decode b_Fo_point 7 = .ok (.aload 5, 2) := by decide +kernel
theorem d_Fo_point_9 : decode b_Fo_point 9 = .ok (.ifnull 24, 3) := by decide +kernel
theorem d_Fo_point_12 : decode b_Fo_point 12 = .ok (.iload_n 2, 1) := by decide +kernel
theorem d_Fo_point_13 : decode b_Fo_point 13 = .ok (.iload_n 3, 1) := by decide +kernel
theorem d_Fo_point_14 : decode b_Fo_point 14 = .ok (.invokestatic 116, 3) := by decide +kernel
theorem d_Fo_point_17 : decode b_Fo_point 17 = .ok (.ifCond .eq 16, 3) := by decide +kernel
theorem d_Fo_point_20 : decode b_Fo_point 20 = .ok (.iload 4, 2) := by decide +kernel
theorem d_Fo_point_22 : decode b_Fo_point 22 = .ok (.i2l, 1) := by decide +kernel
theorem d_Fo_point_23 : decode b_Fo_point 23 = .ok (.lconst 0, 1) := by decide +kernel
theorem d_Fo_point_24 : decode b_Fo_point 24 = .ok (.ldc2_w 120, 3) := by decide +kernel
theorem d_Fo_point_27 : decode b_Fo_point 27 = .ok (.invokestatic 84, 3) := by decide +kernel
theorem d_Fo_point_30 : decode b_Fo_point 30 = .ok (.ifCond .ne 5, 3) := by decide +kernel
theorem d_Fo_point_33 : decode b_Fo_point 33 = .ok (.iconst (-1), 1) := by decide +kernel
theorem d_Fo_point_34 : decode b_Fo_point 34 = .ok (.ireturn, 1) := by decide +kernel
theorem d_Fo_point_35 : decode b_Fo_point 35 = .ok (.aload 5, 2) := by decide +kernel
theorem d_Fo_point_37 : decode b_Fo_point 37 = .ok (.getfield 106, 3) := by decide +kernel
theorem d_Fo_point_40 : decode b_Fo_point 40 = .ok (.iload_n 2, 1) := by decide +kernel
theorem d_Fo_point_41 : decode b_Fo_point 41 = .ok (.iload_n 3, 1) := by decide +kernel
theorem d_Fo_point_42 : decode b_Fo_point 42 = .ok (.iload 4, 2) := by decide +kernel
theorem d_Fo_point_44 : decode b_Fo_point 44 = .ok (.invokevirtual 122, 3) := by decide +kernel
theorem d_Fo_point_47 : decode b_Fo_point 47 = .ok (.ireturn, 1) := by decide +kernel
theorem d_Sh_stateBehind_0 : decode b_Sh_stateBehind 0 = .ok (.iload_n 0, 1) := by decide +kernel
theorem d_Sh_stateBehind_1 : decode b_Sh_stateBehind 1 = .ok (.ifCond .ne 5, 3) := by decide +kernel
theorem d_Sh_stateBehind_4 : decode b_Sh_stateBehind 4 = .ok (.iload_n 1, 1) := by decide +kernel
theorem d_Sh_stateBehind_5 : decode b_Sh_stateBehind 5 = .ok (.ireturn, 1) := by decide +kernel
theorem d_Sh_stateBehind_6 : decode b_Sh_stateBehind 6 = .ok (.iload_n 0, 1) := by decide +kernel
theorem d_Sh_stateBehind_7 : decode b_Sh_stateBehind 7 = .ok (.iconst 2, 1) := by decide +kernel
theorem d_Sh_stateBehind_8 : decode b_Sh_stateBehind 8 = .ok (.if_icmp .ne 14, 3) := by decide +kernel
theorem d_Sh_stateBehind_11 : decode b_Sh_stateBehind 11 = .ok (.iload_n 1, 1) := by decide +kernel
theorem d_Sh_stateBehind_12 : decode b_Sh_stateBehind 12 = .ok (.iconst 2, 1) := by decide +kernel
theorem d_Sh_stateBehind_13 : decode b_Sh_stateBehind 13 = .ok (.if_icmp .ne 7, 3) := by decide +kernel
theorem d_Sh_stateBehind_16 : decode b_Sh_stateBehind 16 = .ok (.iconst 3, 1) := by decide +kernel
theorem d_Sh_stateBehind_17 : decode b_Sh_stateBehind 17 = .ok (.goto 4, 3) := by decide +kernel
theorem d_Sh_stateBehind_20 : decode b_Sh_stateBehind 20 = .ok (.iconst (-1), 1) := by decide +kernel
theorem d_Sh_stateBehind_21 : decode b_Sh_stateBehind 21 = .ok (.ireturn, 1) := by decide +kernel
theorem d_Sh_stateBehind_22 : decode b_Sh_stateBehind 22 = .ok (.iload_n 1, 1) := by decide +kernel
theorem d_Sh_stateBehind_23 : decode b_Sh_stateBehind 23 = .ok (.ifCond .ne 7, 3) := by decide +kernel
theorem d_Sh_stateBehind_26 : decode b_Sh_stateBehind 26 = .ok (.iconst 0, 1) := by decide +kernel
theorem d_Sh_stateBehind_27 : decode b_Sh_stateBehind 27 = .ok (.goto 4, 3) := by decide +kernel
theorem d_Sh_stateBehind_30 : decode b_Sh_stateBehind 30 = .ok (.iconst (-1), 1) := by decide +kernel
theorem d_Sh_stateBehind_31 : decode b_Sh_stateBehind 31 = .ok (.ireturn, 1) := by decide +kernel
theorem d_Sh_firstBad_0 : decode b_Sh_firstBad 0 = .ok (.aload_n 0, 1) := by decide +kernel
theorem d_Sh_firstBad_1 : decode b_Sh_firstBad 1 = .ok (.invokevirtual 54, 3) := by decide +kernel
theorem d_Sh_firstBad_4 : decode b_Sh_firstBad 4 = .ok (.istore_n 1, 1) := by decide +kernel
theorem d_Sh_firstBad_5 : decode b_Sh_firstBad 5 = .ok (.iconst 1, 1) := by decide +kernel
theorem d_Sh_firstBad_6 : decode b_Sh_firstBad 6 = .ok (.istore_n 2, 1) := by decide +kernel
theorem d_Sh_firstBad_7 : decode b_Sh_firstBad 7 = .ok (.iload_n 1, 1) := by decide +kernel
theorem d_Sh_firstBad_8 : decode b_Sh_firstBad 8 = .ok (.istore_n 3, 1) := by decide +kernel
theorem d_Sh_firstBad_9 : decode b_Sh_firstBad 9 = .ok (.iload_n 3, 1) := by decide +kernel
theorem d_Sh_firstBad_10 : decode b_Sh_firstBad 10 = .ok (.aload_n 0, 1) := by decide +kernel
theorem d_Sh_firstBad_11 : decode b_Sh_firstBad 11 = .ok (.getfield 40, 3) := by decide +kernel
theorem d_Sh_firstBad_14 : decode b_Sh_firstBad 14 = .ok (.if_icmp .ge 29, 3) := by decide +kernel
theorem d_Sh_firstBad_17 : decode b_Sh_firstBad 17 = .ok (.iload_n 2, 1) := by decide +kernel
theorem d_Sh_firstBad_18 : decode b_Sh_firstBad 18 = .ok (.aload_n 0, 1) := by decide +kernel
theorem d_Sh_firstBad_19 : decode b_Sh_firstBad 19 = .ok (.getfield 18, 3) := by decide +kernel
theorem d_Sh_firstBad_22 : decode b_Sh_firstBad 22 = .ok (.iload_n 3, 1) := by decide +kernel
theorem d_Sh_firstBad_23 : decode b_Sh_firstBad 23 = .ok (.iaload, 1) := by decide +kernel
theorem d_Sh_firstBad_24 : decode b_Sh_firstBad 24 = .ok (.invokestatic 74, 3) := by decide +kernel
theorem d_Sh_firstBad_27 : decode b_Sh_firstBad 27 = .ok (.istore_n 2, 1) := by decide +kernel
theorem d_Sh_firstBad_28 : decode b_Sh_firstBad 28 = .ok (.iload_n 2, 1) := by decide +kernel
theorem d_Sh_firstBad_29 : decode b_Sh_firstBad 29 = .ok (.iconst (-1), 1) := by decide +kernel
theorem d_Sh_firstBad_30 : decode b_Sh_firstBad 30 = .ok (.if_icmp .ne 7, 3) := by decide +kernel
theorem d_Sh_firstBad_33 : decode b_Sh_firstBad 33 = .ok (.iload_n 3, 1) := by decide +kernel
theorem d_Sh_firstBad_34 : decode b_Sh_firstBad 34 = .ok (.iload_n 1, 1) := by decide +kernel
theorem d_Sh_firstBad_35 : decode b_Sh_firstBad 35 = .ok (.isub, 1) := by decide +kernel
theorem d_Sh_firstBad_36 : decode b_Sh_firstBad 36 = .ok (.ireturn, 1) := by decide +kernel
theorem d_Sh_firstBad_37 : decode b_Sh_firstBad 37 = .ok (.iinc 3 1, 3) := by decide +kernel
theorem d_Sh_firstBad_40 : decode b_Sh_firstBad 40 = .ok (.goto (-31), 3) := by decide +kernel
theorem d_Sh_firstBad_43 : decode b_Sh_firstBad 43 = .ok (.aload_n 0, 1) := by decide +kernel
theorem d_Sh_firstBad_44 : decode b_Sh_firstBad 44 = .ok (.getfield 40, 3) := by decide +kernel
theorem d_Sh_firstBad_47 : decode b_Sh_firstBad 47 = .ok (.iload_n 1, 1) := by decide +kernel
theorem d_Sh_firstBad_48 : decode b_Sh_firstBad 48 = .ok (.isub, 1) := by decide +kernel
theorem d_Sh_firstBad_49 : decode b_Sh_firstBad 49 = .ok (.iconst 2, 1) := by decide +kernel
theorem d_Sh_firstBad_50 : decode b_Sh_firstBad 50 = .ok (.if_icmp .lt 8, 3) := by decide +kernel
theorem d_Sh_firstBad_53 : decode b_Sh_firstBad 53 = .ok (.iload_n 2, 1) := by decide +kernel
theorem d_Sh_firstBad_54 : decode b_Sh_firstBad 54 = .ok (.iconst 2, 1) := by decide +kernel
theorem d_Sh_firstBad_55 : decode b_Sh_firstBad 55 = .ok (.if_icmp .ne 7, 3) := by decide +kernel
theorem d_Sh_firstBad_58 : decode b_Sh_firstBad 58 = .ok (.iconst 1, 1) := by decide +kernel
theorem d_Sh_firstBad_59 : decode b_Sh_firstBad 59 = .ok (.goto 4, 3) := by decide +kernel
theorem d_Sh_firstBad_62 : decode b_Sh_firstBad 62 = .ok (.iconst 0, 1) := by decide +kernel
theorem d_Sh_firstBad_63 : decode b_Sh_firstBad 63 = .ok (.istore_n 3, 1) := by decide +kernel
theorem d_Sh_firstBad_64 : decode b_Sh_firstBad 64 = .ok (.iload_n 3, 1) := by decide +kernel
theorem d_Sh_firstBad_65 : decode b_Sh_firstBad 65 = .ok (.ifCond .eq 12, 3) := by decide +kernel
theorem d_Sh_firstBad_68 : decode b_Sh_firstBad 68 = .ok (.aload_n 0, 1) := by decide +kernel
theorem d_Sh_firstBad_69 : decode b_Sh_firstBad 69 = .ok (.getfield 40, 3) := by decide +kernel
theorem d_Sh_firstBad_72 : decode b_Sh_firstBad 72 = .ok (.iload_n 1, 1) := by decide +kernel
theorem d_Sh_firstBad_73 : decode b_Sh_firstBad 73 = .ok (.isub, 1) := by decide +kernel
theorem d_Sh_firstBad_74 : decode b_Sh_firstBad 74 = .ok (.goto 4, 3) := by decide +kernel
theorem d_Sh_firstBad_77 : decode b_Sh_firstBad 77 = .ok (.iconst (-1), 1) := by decide +kernel
theorem d_Sh_firstBad_78 : decode b_Sh_firstBad 78 = .ok (.ireturn, 1) := by decide +kernel
theorem d_Sh_finish_0 : decode b_Sh_finish 0 = .ok (.aload_n 0, 1) := by decide +kernel
theorem d_Sh_finish_1 : decode b_Sh_finish 1 = .ok (.invokevirtual 47, 3) := by decide +kernel
theorem d_Sh_finish_4 : decode b_Sh_finish 4 = .ok (.istore_n 1, 1) := by decide +kernel
theorem d_Sh_finish_5 : decode b_Sh_finish 5 = .ok (.iload_n 1, 1) := by decide +kernel
theorem d_Sh_finish_6 : decode b_Sh_finish 6 = .ok (.iconst (-1), 1) := by decide +kernel
theorem d_Sh_finish_7 : decode b_Sh_finish 7 = .ok (.if_icmp .eq 7, 3) := by decide +kernel
theorem d_Sh_finish_10 : decode b_Sh_finish 10 = .ok (.iconst 1, 1) := by decide +kernel
theorem d_Sh_finish_11 : decode b_Sh_finish 11 = .ok (.iload_n 1, 1) := by decide +kernel
theorem d_Sh_finish_12 : decode b_Sh_finish 12 = .ok (.iadd, 1) := by decide +kernel
theorem d_Sh_finish_13 : decode b_Sh_finish 13 = .ok (.ireturn, 1) := by decide +kernel
theorem d_Sh_finish_14 : decode b_Sh_finish 14 = .ok (.aload_n 0, 1) := by decide +kernel
theorem d_Sh_finish_15 : decode b_Sh_finish 15 = .ok (.getfield 36, 3) := by decide +kernel
theorem d_Sh_finish_18 : decode b_Sh_finish 18 = .ok (.bipush 8, 2) := by decide +kernel
theorem d_Sh_finish_20 : decode b_Sh_finish 20 = .ok (.if_icmp .lt 6, 3) := by decide +kernel
theorem d_Sh_finish_23 : decode b_Sh_finish 23 = .ok (.bipush (-2), 2) := by decide +kernel
theorem d_Sh_finish_25 : decode b_Sh_finish 25 = .ok (.ireturn, 1) := by decide +kernel
theorem d_Sh_finish_26 : decode b_Sh_finish 26 = .ok (.aload_n 0, 1) := by decide +kernel
theorem d_Sh_finish_27 : decode b_Sh_finish 27 = .ok (.getfield 29, 3) := by decide +kernel
theorem d_Sh_finish_30 : decode b_Sh_finish 30 = .ok (.aload_n 0, 1) := by decide +kernel
theorem d_Sh_finish_31 : decode b_Sh_finish 31 = .ok (.getfield 36, 3) := by decide +kernel
theorem d_Sh_finish_34 : decode b_Sh_finish 34 = .ok (.aload_n 0, 1) := by decide +kernel
theorem d_Sh_finish_35 : decode b_Sh_finish 35 = .ok (.getfield 40, 3) := by decide +kernel
theorem d_Sh_finish_38 : decode b_Sh_finish 38 = .ok (.iastore, 1) := by decide +kernel
theorem d_Sh_finish_39 : decode b_Sh_finish 39 = .ok (.aload_n 0, 1) := by decide +kernel
theorem d_Sh_finish_40 : decode b_Sh_finish 40 = .ok (.dup, 1) := by decide +kernel
theorem d_Sh_finish_41 : decode b_Sh_finish 41 = .ok (.getfield 36, 3) := by decide +kernel
theorem d_Sh_finish_44 : decode b_Sh_finish 44 = .ok (.iconst 1, 1) := by decide +kernel
theorem d_Sh_finish_45 : decode b_Sh_finish 45 = .ok (.iadd, 1) := by decide +kernel
theorem d_Sh_finish_46 : decode b_Sh_finish 46 = .ok (.putfield 36, 3) := by decide +kernel
theorem d_Sh_finish_49 : decode b_Sh_finish 49 = .ok (.aload_n 0, 1) := by decide +kernel
theorem d_Sh_finish_50 : decode b_Sh_finish 50 = .ok (.iconst 0, 1) := by decide +kernel
theorem d_Sh_finish_51 : decode b_Sh_finish 51 = .ok (.putfield 32, 3) := by decide +kernel
theorem d_Sh_finish_54 : decode b_Sh_finish 54 = .ok (.iconst 0, 1) := by decide +kernel
theorem d_Sh_finish_55 : decode b_Sh_finish 55 = .ok (.ireturn, 1) := by decide +kernel
theorem d_Fo_close_0 : decode b_Fo_close 0 = .ok (.aload_n 0, 1) := by decide +kernel
theorem d_Fo_close_1 : decode b_Fo_close 1 = .ok (.iload_n 1, 1) := by decide +kernel
theorem d_Fo_close_2 : decode b_Fo_close 2 = .ok (.invokevirtual 99, 3) := by decide +kernel
theorem d_Fo_close_5 : decode b_Fo_close 5 = .ok (.astore_n 2, 1) := by decide +kernel
theorem d_Fo_close_6 : decode b_Fo_close 6 = .ok (.aload_n 2, 1) := by decide +kernel
theorem d_Fo_close_7 : decode b_Fo_close 7 = .ok (.ifnull 13, 3) := by decide +kernel
theorem d_Fo_close_10 : decode b_Fo_close 10 = .ok (.aload_n 2, 1) := by decide +kernel
theorem d_Fo_close_11 : decode b_Fo_close 11 = .ok (.getfield 106, 3) := by decide +kernel
theorem d_Fo_close_14 : decode b_Fo_close 14 = .ok (.getfield 126, 3) := by decide +kernel
theorem d_Fo_close_17 : decode b_Fo_close 17 = .ok (.ifCond .ne 6, 3) := by decide +kernel
theorem d_Fo_close_20 : decode b_Fo_close 20 = .ok (.bipush (-2), 2) := by decide +kernel
theorem d_Fo_close_22 : decode b_Fo_close 22 = .ok (.ireturn, 1) := by decide +kernel
theorem d_Fo_close_23 : decode b_Fo_close 23 = .ok (.aload_n 2, 1) := by decide +kernel
theorem d_Fo_close_24 : decode b_Fo_close 24 = .ok (.getfield 106, 3) := by decide +kernel
theorem d_Fo_close_27 : decode b_Fo_close 27 = .ok (.invokevirtual 130, 3) := by decide +kernel
theorem d_Fo_close_30 : decode b_Fo_close 30 = .ok (.ireturn, 1) := by decide +kernel
theorem d_Sh_hasAny_0 : decode b_Sh_hasAny 0 = .ok (.aload_n 0, 1) := by decide +kernel
theorem d_Sh_hasAny_1 : decode b_Sh_hasAny 1 = .ok (.getfield 32, 3) := by decide +kernel
theorem d_Sh_hasAny_4 : decode b_Sh_hasAny 4 = .ok (.ifCond .ne 10, 3) := by decide +kernel
theorem d_Sh_hasAny_7 : decode b_Sh_hasAny 7 = .ok (.aload_n 0, 1) := by decide +kernel
theorem d_Sh_hasAny_8 : decode b_Sh_hasAny 8 = .ok (.getfield 36, 3) := by decide +kernel
theorem d_Sh_hasAny_11 : decode b_Sh_hasAny 11 = .ok (.ifCond .le 7, 3) := by decide +kernel
theorem d_Sh_hasAny_14 : decode b_Sh_hasAny 14 = .ok (.iconst 1, 1) := by decide +kernel
theorem d_Sh_hasAny_15 : decode b_Sh_hasAny 15 = .ok (.goto 4, 3) := by decide +kernel
theorem d_Sh_hasAny_18 : decode b_Sh_hasAny 18 = .ok (.iconst 0, 1) := by decide +kernel
theorem d_Sh_hasAny_19 : decode b_Sh_hasAny 19 = .ok (.ireturn, 1) := by decide +kernel
theorem d_Sh_removeLast_0 : decode b_Sh_removeLast 0 = .ok (.aload_n 0, 1) := by decide +kernel
theorem d_Sh_removeLast_1 : decode b_Sh_removeLast 1 = .ok (.invokevirtual 50, 3) := by decide +kernel
theorem d_Sh_removeLast_4 : decode b_Sh_removeLast 4 = .ok (.ifCond .ne 5, 3) := by decide +kernel
theorem d_Sh_removeLast_7 : decode b_Sh_removeLast 7 = .ok (.iconst (-1), 1) := by decide +kernel
theorem d_Sh_removeLast_8 : decode b_Sh_removeLast 8 = .ok (.ireturn, 1) := by decide +kernel
theorem d_Sh_removeLast_9 : decode b_Sh_removeLast 9 = .ok (.aload_n 0, 1) := by decide +kernel
theorem d_Sh_removeLast_10 : decode b_Sh_removeLast 10 = .ok (.getfield 32, 3) := by decide +kernel
theorem d_Sh_removeLast_13 : decode b_Sh_removeLast 13 = .ok (.ifCond .eq 11, 3) := by decide +kernel
theorem d_Sh_removeLast_16 : decode b_Sh_removeLast 16 = .ok (.aload_n 0, 1) := by decide +kernel
theorem d_Sh_removeLast_17 : decode b_Sh_removeLast 17 = .ok (.iconst 0, 1) := by decide +kernel
theorem d_Sh_removeLast_18 : decode b_Sh_removeLast 18 = .ok (.putfield 32, 3) := by decide +kernel
theorem d_Sh_removeLast_21 : decode b_Sh_removeLast 21 = .ok (.goto 13, 3) := by decide +kernel
theorem d_Sh_removeLast_24 : decode b_Sh_removeLast 24 = .ok (.aload_n 0, 1) := by decide +kernel
theorem d_Sh_removeLast_25 : decode b_Sh_removeLast 25 = .ok (.dup, 1) := by decide +kernel
theorem d_Sh_removeLast_26 : decode b_Sh_removeLast 26 = .ok (.getfield 36, 3) := by decide +kernel
theorem d_Sh_removeLast_29 : decode b_Sh_removeLast 29 = .ok (.iconst 1, 1) := by decide +kernel
theorem d_Sh_removeLast_30 : decode b_Sh_removeLast 30 = .ok (.isub, 1) := by decide +kernel
theorem d_Sh_removeLast_31 : decode b_Sh_removeLast 31 = .ok (.putfield 36, 3) := by decide +kernel
theorem d_Sh_removeLast_34 : decode b_Sh_removeLast 34 = .ok (.aload_n 0, 1) := by decide +kernel
theorem d_Sh_removeLast_35 : decode b_Sh_removeLast 35 = .ok (.aload_n 0, 1) := by decide +kernel
theorem d_Sh_removeLast_36 : decode b_Sh_removeLast 36 = .ok (.invokevirtual 54, 3) := by decide +kernel
theorem d_Sh_removeLast_39 : decode b_Sh_removeLast 39 = .ok (.putfield 40, 3) := by decide +kernel
theorem d_Sh_removeLast_42 : decode b_Sh_removeLast 42 = .ok (.aload_n 0, 1) := by decide +kernel
theorem d_Sh_removeLast_43 : decode b_Sh_removeLast 43 = .ok (.getfield 36, 3) := by decide +kernel
theorem d_Sh_removeLast_46 : decode b_Sh_removeLast 46 = .ok (.ireturn, 1) := by decide +kernel
theorem d_Fo_drop_0 : decode b_Fo_drop 0 = .ok (.aload_n 0, 1) := by decide +kernel
theorem d_Fo_drop_1 : decode b_Fo_drop 1 = .ok (.iload_n 1, 1) := by decide +kernel
theorem d_Fo_drop_2 : decode b_Fo_drop 2 = .ok (.invokevirtual 99, 3) := by decide +kernel
theorem d_Fo_drop_5 : decode b_Fo_drop 5 = .ok (.astore_n 2, 1) := by decide +kernel
theorem d_Fo_drop_6 : decode b_Fo_drop 6 = .ok (.aload_n 2, 1) := by decide +kernel
theorem d_Fo_drop_7 : decode b_Fo_drop 7 = .ok (.ifnonnull 7, 3) := by decide +kernel
theorem d_Fo_drop_10 : decode b_Fo_drop 10 = .ok (.iconst (-1), 1) := by decide +kernel
theorem d_Fo_drop_11 : decode b_Fo_drop 11 = .ok (.goto 10, 3) := by decide +kernel
theorem d_Fo_drop_14 : decode b_Fo_drop 14 = .ok (.aload_n 2, 1) := by decide +kernel
theorem d_Fo_drop_15 : decode b_Fo_drop 15 = .ok (.getfield 106, 3) := by decide +kernel
theorem d_Fo_drop_18 : decode b_Fo_drop 18 = .ok (.invokevirtual 133, 3) := by decide +kernel
theorem d_Fo_drop_21 : decode b_Fo_drop 21 = .ok (.ireturn, 1) := by decide +kernel
theorem d_Sh_hasPoint_0 : decode b_Sh_hasPoint 0 = .ok (.iload_n 1, 1) := by decide +kernel
theorem d_Sh_hasPoint_1 : decode b_Sh_hasPoint 1 = .ok (.i2l, 1) := by decide +kernel
theorem d_Sh_hasPoint_2 : decode b_Sh_hasPoint 2 = .ok (.lconst 0, 1) := by decide +kernel
theorem d_Sh_hasPoint_3 : decode b_Sh_hasPoint 3 = .ok (.aload_n 0, 1) := by decide +kernel
theorem d_Sh_hasPoint_4 : decode b_Sh_hasPoint 4 = .ok (.invokevirtual 54, 3) := by decide +kernel
theorem d_Sh_hasPoint_7 : decode b_Sh_hasPoint 7 = .ok (.iconst 1, 1) := by decide +kernel
theorem d_Sh_hasPoint_8 : decode b_Sh_hasPoint 8 = .ok (.isub, 1) := by decide +kernel
theorem d_Sh_hasPoint_9 : decode b_Sh_hasPoint 9 = .ok (.i2l, 1) := by decide +kernel
theorem d_Sh_hasPoint_10 : decode b_Sh_hasPoint 10 = .ok (.invokestatic 68, 3) := by decide +kernel
theorem d_Sh_hasPoint_13 : decode b_Sh_hasPoint 13 = .ok (.ireturn, 1) := by decide +kernel
theorem d_Fo_move_0 : decode b_Fo_move 0 = .ok (.aload_n 0, 1) := by decide +kernel
theorem d_Fo_move_1 : decode b_Fo_move 1 = .ok (.iload_n 1, 1) := by decide +kernel
theorem d_Fo_move_2 : decode b_Fo_move 2 = .ok (.invokevirtual 99, 3) := by decide +kernel
theorem d_Fo_move_5 : decode b_Fo_move 5 = .ok (.astore 5, 2) := by decide +kernel
theorem d_Fo_move_7 : decode b_Fo_move 7 = .ok (.aload 5, 2) := by decide +kernel
theorem d_Fo_move_9 : decode b_Fo_move 9 = .ok (.ifnull 24, 3) := by decide +kernel
theorem d_Fo_move_12 : decode b_Fo_move 12 = .ok (.aload 5, 2) := by decide +kernel
theorem d_Fo_move_14 : decode b_Fo_move 14 = .ok (.getfield 106, 3) := by decide +kernel
theorem d_Fo_move_17 : decode b_Fo_move 17 = .ok (.iload_n 2, 1) := by decide +kernel
theorem d_Fo_move_18 : decode b_Fo_move 18 = .ok (.invokevirtual 136, 3) := by decide +kernel
theorem d_Fo_move_21 : decode b_Fo_move 21 = .ok (.ifCond .eq 12, 3) := by decide +kernel
theorem d_Fo_move_24 : decode b_Fo_move 24 = .ok (.iload_n 3, 1) := by decide +kernel
theorem d_Fo_move_25 : decode b_Fo_move 25 = .ok (.iload 4, 2) := by decide +kernel
theorem d_Fo_move_27 : decode b_Fo_move 27 = .ok (.invokestatic 116, 3) := by decide +kernel
theorem d_Fo_move_30 : decode b_Fo_move 30 = .ok (.ifCond .ne 5, 3) := by decide +kernel
theorem d_Fo_move_33 : decode b_Fo_move 33 = .ok (.iconst 0, 1) := by decide +kernel
theorem d_Fo_move_34 : decode b_Fo_move 34 = .ok (.ireturn, 1) := by decide +kernel
theorem d_Fo_move_35 : decode b_Fo_move 35 = .ok (.aload 5, 2) := by decide +kernel
theorem d_Fo_move_37 : decode b_Fo_move 37 = .ok (.getfield 106, 3) := by decide +kernel
theorem d_Fo_move_40 : decode b_Fo_move 40 = .ok (.getfield 139, 3) := by decide +kernel
theorem d_Fo_move_43 : decode b_Fo_move 43 = .ok (.iload_n 2, 1) := by decide +kernel
theorem d_Fo_move_44 : decode b_Fo_move 44 = .ok (.iload_n 3, 1) := by decide +kernel
theorem d_Fo_move_45 : decode b_Fo_move 45 = .ok (.iastore, 1) := by decide +kernel
theorem d_Fo_move_46 : decode b_Fo_move 46 = .ok (.aload 5, 2) := by decide +kernel
theorem d_Fo_move_48 : decode b_Fo_move 48 = .ok (.getfield 106, 3) := by decide +kernel
theorem d_Fo_move_51 : decode b_Fo_move 51 = .ok (.getfield 142, 3) := by decide +kernel
theorem d_Fo_move_54 : decode b_Fo_move 54 = .ok (.iload_n 2, 1) := by decide +kernel
theorem d_Fo_move_55 : decode b_Fo_move 55 = .ok (.iload 4, 2) := by decide +kernel
theorem d_Fo_move_57 : decode b_Fo_move 57 = .ok (.iastore, 1) := by decide +kernel
theorem d_Fo_move_58 : decode b_Fo_move 58 = .ok (.iconst 1, 1) := by decide +kernel
theorem d_Fo_move_59 : decode b_Fo_move 59 = .ok (.ireturn, 1) := by decide +kernel
theorem d_Sh_endOf_0 : decode b_Sh_endOf 0 = .ok (.aload_n 0, 1) := by decide +kernel
theorem d_Sh_endOf_1 : decode b_Sh_endOf 1 = .ok (.iload_n 1, 1) := by decide +kernel
theorem d_Sh_endOf_2 : decode b_Sh_endOf 2 = .ok (.iconst 1, 1) := by decide +kernel
theorem d_Sh_endOf_3 : decode b_Sh_endOf 3 = .ok (.iadd, 1) := by decide +kernel
theorem d_Sh_endOf_4 : decode b_Sh_endOf 4 = .ok (.invokevirtual 57, 3) := by decide +kernel
theorem d_Sh_endOf_7 : decode b_Sh_endOf 7 = .ok (.ireturn, 1) := by decide +kernel
theorem d_Sh_swap_0 : decode b_Sh_swap 0 = .ok (.aload_n 0, 1) := by decide +kernel
theorem d_Sh_swap_1 : decode b_Sh_swap 1 = .ok (.iload_n 1, 1) := by decide +kernel
theorem d_Sh_swap_2 : decode b_Sh_swap 2 = .ok (.iaload, 1) := by decide +kernel
theorem d_Sh_swap_3 : decode b_Sh_swap 3 = .ok (.istore_n 3, 1) := by decide +kernel
theorem d_Sh_swap_4 : decode b_Sh_swap 4 = .ok (.aload_n 0, 1) := by decide +kernel
theorem d_Sh_swap_5 : decode b_Sh_swap 5 = .ok (.iload_n 1, 1) := by decide +kernel
theorem d_Sh_swap_6 : decode b_Sh_swap 6 = .ok (.aload_n 0, 1) := by decide +kernel
theorem d_Sh_swap_7 : decode b_Sh_swap 7 = .ok (.iload_n 2, 1) := by decide +kernel
theorem d_Sh_swap_8 : decode b_Sh_swap 8 = .ok (.iaload, 1) := by decide +kernel
theorem d_Sh_swap_9 : decode b_Sh_swap 9 = .ok (.iastore, 1) := by decide +kernel
theorem d_Sh_swap_10 : decode b_Sh_swap 10 = .ok (.aload_n 0, 1) := by decide +kernel
theorem d_Sh_swap_11 : decode b_Sh_swap 11 = .ok (.iload_n 2, 1) := by decide +kernel
theorem d_Sh_swap_12 : decode b_Sh_swap 12 = .ok (.iload_n 3, 1) := by decide +kernel
theorem d_Sh_swap_13 : decode b_Sh_swap 13 = .ok (.iastore, 1) := by decide +kernel
theorem d_Sh_swap_14 : decode b_Sh_swap 14 = .ok (.return_, 1) := by decide +kernel
theorem d_Sh_exchange_0 : decode b_Sh_exchange 0 = .ok (.aload_n 0, 1) := by decide +kernel
theorem d_Sh_exchange_1 : decode b_Sh_exchange 1 = .ok (.getfield 9, 3) := by decide +kernel
theorem d_Sh_exchange_4 : decode b_Sh_exchange 4 = .ok (.iload_n 1, 1) := by decide +kernel
theorem d_Sh_exchange_5 : decode b_Sh_exchange 5 = .ok (.iload_n 2, 1) := by decide +kernel
theorem d_Sh_exchange_6 : decode b_Sh_exchange 6 = .ok (.invokestatic 78, 3) := by decide +kernel
theorem d_Sh_exchange_9 : decode b_Sh_exchange 9 = .ok (.aload_n 0, 1) := by decide +kernel
theorem d_Sh_exchange_10 : decode b_Sh_exchange 10 = .ok (.getfield 15, 3) := by decide +kernel
theorem d_Sh_exchange_13 : decode b_Sh_exchange 13 = .ok (.iload_n 1, 1) := by decide +kernel
theorem d_Sh_exchange_14 : decode b_Sh_exchange 14 = .ok (.iload_n 2, 1) := by decide +kernel
theorem d_Sh_exchange_15 : decode b_Sh_exchange 15 = .ok (.invokestatic 78, 3) := by decide +kernel
theorem d_Sh_exchange_18 : decode b_Sh_exchange 18 = .ok (.aload_n 0, 1) := by decide +kernel
theorem d_Sh_exchange_19 : decode b_Sh_exchange 19 = .ok (.getfield 18, 3) := by decide +kernel
theorem d_Sh_exchange_22 : decode b_Sh_exchange 22 = .ok (.iload_n 1, 1) := by decide +kernel
theorem d_Sh_exchange_23 : decode b_Sh_exchange 23 = .ok (.iload_n 2, 1) := by decide +kernel
theorem d_Sh_exchange_24 : decode b_Sh_exchange 24 = .ok (.invokestatic 78, 3) := by decide +kernel
theorem d_Sh_exchange_27 : decode b_Sh_exchange 27 = .ok (.iconst 0, 1) := by decide +kernel
theorem d_Sh_exchange_28 : decode b_Sh_exchange 28 = .ok (.istore_n 3, 1) := by decide +kernel
theorem d_Sh_exchange_29 : decode b_Sh_exchange 29 = .ok (.iload_n 3, 1) := by decide +kernel
theorem d_Sh_exchange_30 : decode b_Sh_exchange 30 = .ok (.iconst 3, 1) := by decide +kernel
theorem d_Sh_exchange_31 : decode b_Sh_exchange 31 = .ok (.if_icmp .ge 31, 3) := by decide +kernel
theorem d_Sh_exchange_34 : decode b_Sh_exchange 34 = .ok (.aload_n 0, 1) := by decide +kernel
theorem d_Sh_exchange_35 : decode b_Sh_exchange 35 = .ok (.getfield 23, 3) := by decide +kernel
theorem d_Sh_exchange_38 : decode b_Sh_exchange 38 = .ok (.iload_n 3, 1) := by decide +kernel
theorem d_Sh_exchange_39 : decode b_Sh_exchange 39 = .ok (.aaload, 1) := by decide +kernel
theorem d_Sh_exchange_40 : decode b_Sh_exchange 40 = .ok (.iload_n 1, 1) := by decide +kernel
theorem d_Sh_exchange_41 : decode b_Sh_exchange 41 = .ok (.iload_n 2, 1) := by decide +kernel
theorem d_Sh_exchange_42 : decode b_Sh_exchange 42 = .ok (.invokestatic 78, 3) := by decide +kernel
theorem d_Sh_exchange_45 : decode b_Sh_exchange 45 = .ok (.aload_n 0, 1) := by decide +kernel
theorem d_Sh_exchange_46 : decode b_Sh_exchange 46 = .ok (.getfield 26, 3) := by decide +kernel
theorem d_Sh_exchange_49 : decode b_Sh_exchange 49 = .ok (.iload_n 3, 1) := by decide +kernel
theorem d_Sh_exchange_50 : decode b_Sh_exchange 50 = .ok (.aaload, 1) := by decide +kernel
theorem d_Sh_exchange_51 : decode b_Sh_exchange 51 = .ok (.iload_n 1, 1) := by decide +kernel
theorem d_Sh_exchange_52 : decode b_Sh_exchange 52 = .ok (.iload_n 2, 1) := by decide +kernel
theorem d_Sh_exchange_53 : decode b_Sh_exchange 53 = .ok (.invokestatic 78, 3) := by decide +kernel
theorem d_Sh_exchange_56 : decode b_Sh_exchange 56 = .ok (.iinc 3 1, 3) := by decide +kernel
theorem d_Sh_exchange_59 : decode b_Sh_exchange 59 = .ok (.goto (-30), 3) := by decide +kernel
theorem d_Sh_exchange_62 : decode b_Sh_exchange 62 = .ok (.return_, 1) := by decide +kernel
theorem d_Sh_turn_0 : decode b_Sh_turn 0 = .ok (.aload_n 0, 1) := by decide +kernel
theorem d_Sh_turn_1 : decode b_Sh_turn 1 = .ok (.iload_n 1, 1) := by decide +kernel
theorem d_Sh_turn_2 : decode b_Sh_turn 2 = .ok (.invokevirtual 57, 3) := by decide +kernel
theorem d_Sh_turn_5 : decode b_Sh_turn 5 = .ok (.iconst 1, 1) := by decide +kernel
theorem d_Sh_turn_6 : decode b_Sh_turn 6 = .ok (.iadd, 1) := by decide +kernel
theorem d_Sh_turn_7 : decode b_Sh_turn 7 = .ok (.istore_n 2, 1) := by decide +kernel
theorem d_Sh_turn_8 : decode b_Sh_turn 8 = .ok (.aload_n 0, 1) := by decide +kernel
theorem d_Sh_turn_9 : decode b_Sh_turn 9 = .ok (.iload_n 1, 1) := by decide +kernel
theorem d_Sh_turn_10 : decode b_Sh_turn 10 = .ok (.invokevirtual 61, 3) := by decide +kernel
theorem d_Sh_turn_13 : decode b_Sh_turn 13 = .ok (.iconst 1, 1) := by decide +kernel
theorem d_Sh_turn_14 : decode b_Sh_turn 14 = .ok (.isub, 1) := by decide +kernel
theorem d_Sh_turn_15 : decode b_Sh_turn 15 = .ok (.istore_n 3, 1) := by decide +kernel
theorem d_Sh_turn_16 : decode b_Sh_turn 16 = .ok (.iload_n 2, 1) := by decide +kernel
theorem d_Sh_turn_17 : decode b_Sh_turn 17 = .ok (.iload_n 3, 1) := by decide +kernel
theorem d_Sh_turn_18 : decode b_Sh_turn 18 = .ok (.if_icmp .ge 18, 3) := by decide +kernel
theorem d_Sh_turn_21 : decode b_Sh_turn 21 = .ok (.aload_n 0, 1) := by decide +kernel
theorem d_Sh_turn_22 : decode b_Sh_turn 22 = .ok (.iload_n 2, 1) := by decide +kernel
theorem d_Sh_turn_23 : decode b_Sh_turn 23 = .ok (.iload_n 3, 1) := by decide +kernel
theorem d_Sh_turn_24 : decode b_Sh_turn 24 = .ok (.invokevirtual 64, 3) := by decide +kernel
theorem d_Sh_turn_27 : decode b_Sh_turn 27 = .ok (.iinc 2 1, 3) := by decide +kernel
theorem d_Sh_turn_30 : decode b_Sh_turn 30 = .ok (.iinc 3 (-1), 3) := by decide +kernel
theorem d_Sh_turn_33 : decode b_Sh_turn 33 = .ok (.goto (-17), 3) := by decide +kernel
theorem d_Sh_turn_36 : decode b_Sh_turn 36 = .ok (.return_, 1) := by decide +kernel
theorem d_Fo_reverse_0 : decode b_Fo_reverse 0 = .ok (.aload_n 0, 1) := by decide +kernel
theorem d_Fo_reverse_1 : decode b_Fo_reverse 1 = .ok (.iload_n 1, 1) := by decide +kernel
theorem d_Fo_reverse_2 : decode b_Fo_reverse 2 = .ok (.invokevirtual 99, 3) := by decide +kernel
theorem d_Fo_reverse_5 : decode b_Fo_reverse 5 = .ok (.astore_n 3, 1) := by decide +kernel
theorem d_Fo_reverse_6 : decode b_Fo_reverse 6 = .ok (.aload_n 3, 1) := by decide +kernel
theorem d_Fo_reverse_7 : decode b_Fo_reverse 7 = .ok (.ifnull 22, 3) := by decide +kernel
theorem d_Fo_reverse_10 : decode b_Fo_reverse 10 = .ok (.iload_n 2, 1) := by decide +kernel
theorem d_Fo_reverse_11 : decode b_Fo_reverse 11 = .ok (.i2l, 1) := by decide +kernel
theorem d_Fo_reverse_12 : decode b_Fo_reverse 12 = .ok (.lconst 0, 1) := by decide +kernel
theorem d_Fo_reverse_13 : decode b_Fo_reverse 13 = .ok (.aload_n 3, 1) := by decide +kernel
theorem d_Fo_reverse_14 : decode b_Fo_reverse 14 = .ok (.getfield 106, 3) := by decide +kernel
theorem d_Fo_reverse_17 : decode b_Fo_reverse 17 = .ok (.getfield 145, 3) := by decide +kernel
theorem d_Fo_reverse_20 : decode b_Fo_reverse 20 = .ok (.iconst 1, 1) := by decide +kernel
theorem d_Fo_reverse_21 : decode b_Fo_reverse 21 = .ok (.isub, 1) := by decide +kernel
theorem d_Fo_reverse_22 : decode b_Fo_reverse 22 = .ok (.i2l, 1) := by decide +kernel
theorem d_Fo_reverse_23 : decode b_Fo_reverse 23 = .ok (.invokestatic 84, 3) := by decide +kernel
theorem d_Fo_reverse_26 : decode b_Fo_reverse 26 = .ok (.ifCond .ne 5, 3) := by decide +kernel
theorem d_Fo_reverse_29 : decode b_Fo_reverse 29 = .ok (.iconst 0, 1) := by decide +kernel
theorem d_Fo_reverse_30 : decode b_Fo_reverse 30 = .ok (.ireturn, 1) := by decide +kernel
theorem d_Fo_reverse_31 : decode b_Fo_reverse 31 = .ok (.aload_n 3, 1) := by decide +kernel
theorem d_Fo_reverse_32 : decode b_Fo_reverse 32 = .ok (.getfield 106, 3) := by decide +kernel
theorem d_Fo_reverse_35 : decode b_Fo_reverse 35 = .ok (.iload_n 2, 1) := by decide +kernel
theorem d_Fo_reverse_36 : decode b_Fo_reverse 36 = .ok (.invokevirtual 148, 3) := by decide +kernel
theorem d_Fo_reverse_39 : decode b_Fo_reverse 39 = .ok (.iconst 1, 1) := by decide +kernel
theorem d_Fo_reverse_40 : decode b_Fo_reverse 40 = .ok (.ireturn, 1) := by decide +kernel
theorem d_Pa_init_0 : decode b_Pa_init 0 = .ok (.aload_n 0, 1) := by decide +kernel
theorem d_Pa_init_1 : decode b_Pa_init 1 = .ok (.invokespecial 3, 3) := by decide +kernel
theorem d_Pa_init_4 : decode b_Pa_init 4 = .ok (.aload_n 0, 1) := by decide +kernel
theorem d_Pa_init_5 : decode b_Pa_init 5 = .ok (.sipush 16384, 3) := by decide +kernel
theorem d_Pa_init_8 : decode b_Pa_init 8 = .ok (.putfield 9, 3) := by decide +kernel
theorem d_Pa_init_11 : decode b_Pa_init 11 = .ok (.aload_n 0, 1) := by decide +kernel
theorem d_Pa_init_12 : decode b_Pa_init 12 = .ok (.iconst 0, 1) := by decide +kernel
theorem d_Pa_init_13 : decode b_Pa_init 13 = .ok (.putfield 15, 3) := by decide +kernel
theorem d_Pa_init_16 : decode b_Pa_init 16 = .ok (.aload_n 0, 1) := by decide +kernel
theorem d_Pa_init_17 : decode b_Pa_init 17 = .ok (.iconst 0, 1) := by decide +kernel
theorem d_Pa_init_18 : decode b_Pa_init 18 = .ok (.putfield 18, 3) := by decide +kernel
theorem d_Pa_init_21 : decode b_Pa_init 21 = .ok (.aload_n 0, 1) := by decide +kernel
theorem d_Pa_init_22 : decode b_Pa_init 22 = .ok (.sipush 16384, 3) := by decide +kernel
theorem d_Pa_init_25 : decode b_Pa_init 25 = .ok (.putfield 21, 3) := by decide +kernel
theorem d_Pa_init_28 : decode b_Pa_init 28 = .ok (.aload_n 0, 1) := by decide +kernel
theorem d_Pa_init_29 : decode b_Pa_init 29 = .ok (.aload_n 1, 1) := by decide +kernel
theorem d_Pa_init_30 : decode b_Pa_init 30 = .ok (.putfield 24, 3) := by decide +kernel
theorem d_Pa_init_33 : decode b_Pa_init 33 = .ok (.aload_n 0, 1) := by decide +kernel
theorem d_Pa_init_34 : decode b_Pa_init 34 = .ok (.iload_n 2, 1) := by decide +kernel
theorem d_Pa_init_35 : decode b_Pa_init 35 = .ok (.putfield 28, 3) := by decide +kernel
theorem d_Pa_init_38 : decode b_Pa_init 38 = .ok (.aload_n 0, 1) := by decide +kernel
theorem d_Pa_init_39 : decode b_Pa_init 39 = .ok (.iload_n 3, 1) := by decide +kernel
theorem d_Pa_init_40 : decode b_Pa_init 40 = .ok (.putfield 31, 3) := by decide +kernel
theorem d_Pa_init_43 : decode b_Pa_init 43 = .ok (.return_, 1) := by decide +kernel
theorem d_Ma_max_0 : decode b_Ma_max 0 = .ok (.iload_n 0, 1) := by decide +kernel
theorem d_Ma_max_1 : decode b_Ma_max 1 = .ok (.iload_n 1, 1) := by decide +kernel
theorem d_Ma_max_2 : decode b_Ma_max 2 = .ok (.if_icmp .lt 7, 3) := by decide +kernel
theorem d_Ma_max_5 : decode b_Ma_max 5 = .ok (.iload_n 0, 1) := by decide +kernel
theorem d_Ma_max_6 : decode b_Ma_max 6 = .ok (.goto 4, 3) := by decide +kernel
theorem d_Ma_max_9 : decode b_Ma_max 9 = .ok (.iload_n 1, 1) := by decide +kernel
theorem d_Ma_max_10 : decode b_Ma_max 10 = .ok (.ireturn, 1) := by decide +kernel
theorem d_Le_addPart_0 : decode b_Le_addPart 0 = .ok (.aload_n 0, 1) := by decide +kernel
theorem d_Le_addPart_1 : decode b_Le_addPart 1 = .ok (.getfield 38, 3) := by decide +kernel
theorem d_Le_addPart_4 : decode b_Le_addPart 4 = .ok (.bipush 6, 2) := by decide +kernel
theorem d_Le_addPart_6 : decode b_Le_addPart 6 = .ok (.if_icmp .lt 5, 3) := by decide +kernel
theorem d_Le_addPart_9 : decode b_Le_addPart 9 = .ok (.iconst (-1), 1) := by decide +kernel
theorem d_Le_addPart_10 : decode b_Le_addPart 10 = .ok (.ireturn, 1) := by decide +kernel
theorem d_Le_addPart_11 : decode b_Le_addPart 11 = .ok (.aload_n 0, 1) := by decide +kernel
theorem d_Le_addPart_12 : decode b_Le_addPart 12 = .ok (.getfield 27, 3) := by decide +kernel
theorem d_Le_addPart_15 : decode b_Le_addPart 15 = .ok (.aload_n 0, 1) := by decide +kernel
theorem d_Le_addPart_16 : decode b_Le_addPart 16 = .ok (.getfield 38, 3) := by decide +kernel
theorem d_Le_addPart_19 : decode b_Le_addPart 19 = .ok (.new 25, 3) := by decide +kernel
theorem d_Le_addPart_22 : decode b_Le_addPart 22 = .ok (.dup, 1) := by decide +kernel
theorem d_Le_addPart_23 : decode b_Le_addPart 23 = .ok (.aload_n 1, 1) := by decide +kernel
theorem d_Le_addPart_24 : decode b_Le_addPart 24 = .ok (.iload_n 2, 1) := by decide +kernel
theorem d_Le_addPart_25 : decode b_Le_addPart 25 = .ok (.iload_n 3, 1) := by decide +kernel
theorem d_Le_addPart_26 : decode b_Le_addPart 26 = .ok (.invokespecial 41, 3) := by decide +kernel
theorem d_Le_addPart_29 : decode b_Le_addPart 29 = .ok (.aastore, 1) := by decide +kernel
theorem d_Le_addPart_30 : decode b_Le_addPart 30 = .ok (.aload_n 0, 1) := by decide +kernel
theorem d_Le_addPart_31 : decode b_Le_addPart 31 = .ok (.dup, 1) := by decide +kernel
theorem d_Le_addPart_32 : decode b_Le_addPart 32 = .ok (.getfield 38, 3) := by decide +kernel
theorem d_Le_addPart_35 : decode b_Le_addPart 35 = .ok (.iconst 1, 1) := by decide +kernel
theorem d_Le_addPart_36 : decode b_Le_addPart 36 = .ok (.iadd, 1) := by decide +kernel
theorem d_Le_addPart_37 : decode b_Le_addPart 37 = .ok (.putfield 38, 3) := by decide +kernel
theorem d_Le_addPart_40 : decode b_Le_addPart 40 = .ok (.aload_n 1, 1) := by decide +kernel
theorem d_Le_addPart_41 : decode b_Le_addPart 41 = .ok (.iconst 1, 1) := by decide +kernel
theorem d_Le_addPart_42 : decode b_Le_addPart 42 = .ok (.putfield 44, 3) := by decide +kernel
theorem d_Le_addPart_45 : decode b_Le_addPart 45 = .ok (.aload_n 0, 1) := by decide +kernel
theorem d_Le_addPart_46 : decode b_Le_addPart 46 = .ok (.aload_n 0, 1) := by decide +kernel
theorem d_Le_addPart_47 : decode b_Le_addPart 47 = .ok (.getfield 48, 3) := by decide +kernel
theorem d_Le_addPart_50 : decode b_Le_addPart 50 = .ok (.aload_n 1, 1) := by decide +kernel
theorem d_Le_addPart_51 : decode b_Le_addPart 51 = .ok (.getfield 48, 3) := by decide +kernel
theorem d_Le_addPart_54 : decode b_Le_addPart 54 = .ok (.iconst 1, 1) := by decide +kernel
theorem d_Le_addPart_55 : decode b_Le_addPart 55 = .ok (.iadd, 1) := by decide +kernel
theorem d_Le_addPart_56 : decode b_Le_addPart 56 = .ok (.invokestatic 51, 3) := by decide +kernel
theorem d_Le_addPart_59 : decode b_Le_addPart 59 = .ok (.putfield 48, 3) := by decide +kernel
theorem d_Le_addPart_62 : decode b_Le_addPart 62 = .ok (.aload_n 0, 1) := by decide +kernel
theorem d_Le_addPart_63 : decode b_Le_addPart 63 = .ok (.getfield 38, 3) := by decide +kernel
theorem d_Le_addPart_66 : decode b_Le_addPart 66 = .ok (.iconst 1, 1) := by decide +kernel
theorem d_Le_addPart_67 : decode b_Le_addPart 67 = .ok (.isub, 1) := by decide +kernel
theorem d_Le_addPart_68 : decode b_Le_addPart 68 = .ok (.ireturn, 1) := by decide +kernel
theorem d_Fo_part_0 : decode b_Fo_part 0 = .ok (.aload_n 0, 1) := by decide +kernel
theorem d_Fo_part_1 : decode b_Fo_part 1 = .ok (.iload_n 1, 1) := by decide +kernel
theorem d_Fo_part_2 : decode b_Fo_part 2 = .ok (.invokevirtual 99, 3) := by decide +kernel
theorem d_Fo_part_5 : decode b_Fo_part 5 = .ok (.astore 5, 2) := by decide +kernel
theorem d_Fo_part_7 : decode b_Fo_part 7 = .ok (.aload_n 0, 1) := by decide +kernel
theorem d_Fo_part_8 : decode b_Fo_part 8 = .ok (.iload_n 2, 1) := by decide +kernel
theorem d_Fo_part_9 : decode b_Fo_part 9 = .ok (.invokevirtual 99, 3) := by decide +kernel
theorem d_Fo_part_12 : decode b_Fo_part 12 = .ok (.astore 6, 2) := by decide +kernel
theorem d_Fo_part_14 : decode b_Fo_part 14 = .ok (.aload 5, 2) := by decide +kernel
theorem d_Fo_part_16 : decode b_Fo_part 16 = .ok (.ifnull 22, 3) := by decide +kernel
theorem d_Fo_part_19 : decode b_Fo_part 19 = .ok (.aload 6, 2) := by decide +kernel
theorem d_Fo_part_21 : decode b_Fo_part 21 = .ok (.ifnull 17, 3) := by decide +kernel
theorem d_Fo_part_24 : decode b_Fo_part 24 = .ok (.iload_n 1, 1) := by decide +kernel
theorem d_Fo_part_25 : decode b_Fo_part 25 = .ok (.iload_n 2, 1) := by decide +kernel
theorem d_Fo_part_26 : decode b_Fo_part 26 = .ok (.if_icmp .eq 12, 3) := by decide +kernel
theorem d_Fo_part_29 : decode b_Fo_part 29 = .ok (.iload_n 3, 1) := by decide +kernel
theorem d_Fo_part_30 : decode b_Fo_part 30 = .ok (.iload 4, 2) := by decide +kernel
theorem d_Fo_part_32 : decode b_Fo_part 32 = .ok (.invokestatic 116, 3) := by decide +kernel
theorem d_Fo_part_35 : decode b_Fo_part 35 = .ok (.ifCond .ne 5, 3) := by decide +kernel
theorem d_Fo_part_38 : decode b_Fo_part 38 = .ok (.iconst (-1), 1) := by decide +kernel
theorem d_Fo_part_39 : decode b_Fo_part 39 = .ok (.ireturn, 1) := by decide +kernel
theorem d_Fo_part_40 : decode b_Fo_part 40 = .ok (.aload 5, 2) := by decide +kernel
theorem d_Fo_part_42 : decode b_Fo_part 42 = .ok (.getfield 106, 3) := by decide +kernel
theorem d_Fo_part_45 : decode b_Fo_part 45 = .ok (.invokevirtual 152, 3) := by decide +kernel
theorem d_Fo_part_48 : decode b_Fo_part 48 = .ok (.ifCond .ne 20, 3) := by decide +kernel
theorem d_Fo_part_51 : decode b_Fo_part 51 = .ok (.aload 5, 2) := by decide +kernel
theorem d_Fo_part_53 : decode b_Fo_part 53 = .ok (.getfield 156, 3) := by decide +kernel
theorem d_Fo_part_56 : decode b_Fo_part 56 = .ok (.ifCond .ne 12, 3) := by decide +kernel
theorem d_Fo_part_59 : decode b_Fo_part 59 = .ok (.aload 6, 2) := by decide +kernel
theorem d_Fo_part_61 : decode b_Fo_part 61 = .ok (.getfield 159, 3) := by decide +kernel
theorem d_Fo_part_64 : decode b_Fo_part 64 = .ok (.iconst 4, 1) := by decide +kernel
theorem d_Fo_part_65 : decode b_Fo_part 65 = .ok (.if_icmp .lt 5, 3) := by decide +kernel
theorem d_Fo_part_68 : decode b_Fo_part 68 = .ok (.iconst (-1), 1) := by decide +kernel
theorem d_Fo_part_69 : decode b_Fo_part 69 = .ok (.ireturn, 1) := by decide +kernel
theorem d_Fo_part_70 : decode b_Fo_part 70 = .ok (.aload 5, 2) := by decide +kernel
theorem d_Fo_part_72 : decode b_Fo_part 72 = .ok (.aload 6, 2) := by decide +kernel
theorem d_Fo_part_74 : decode b_Fo_part 74 = .ok (.iload_n 3, 1) := by decide +kernel
theorem d_Fo_part_75 : decode b_Fo_part 75 = .ok (.iload 4, 2) := by decide +kernel
theorem d_Fo_part_77 : decode b_Fo_part 77 = .ok (.invokevirtual 162, 3) := by decide +kernel
theorem d_Fo_part_80 : decode b_Fo_part 80 = .ok (.ireturn, 1) := by decide +kernel
theorem d_Fo_isShort_0 : decode b_Fo_isShort 0 = .ok (.iload_n 0, 1) := by decide +kernel
theorem d_Fo_isShort_1 : decode b_Fo_isShort 1 = .ok (.i2l, 1) := by decide +kernel
theorem d_Fo_isShort_2 : decode b_Fo_isShort 2 = .ok (.ldc2_w 354, 3) := by decide +kernel
theorem d_Fo_isShort_5 : decode b_Fo_isShort 5 = .ok (.ldc2_w 356, 3) := by decide +kernel
theorem d_Fo_isShort_8 : decode b_Fo_isShort 8 = .ok (.invokestatic 84, 3) := by decide +kernel
theorem d_Fo_isShort_11 : decode b_Fo_isShort 11 = .ok (.ireturn, 1) := by decide +kernel
theorem d_Le_partOf_0 : decode b_Le_partOf 0 = .ok (.iload_n 1, 1) := by decide +kernel
theorem d_Le_partOf_1 : decode b_Le_partOf 1 = .ok (.i2l, 1) := by decide +kernel
theorem d_Le_partOf_2 : decode b_Le_partOf 2 = .ok (.lconst 0, 1) := by decide +kernel
theorem d_Le_partOf_3 : decode b_Le_partOf 3 = .ok (.aload_n 0, 1) := by decide +kernel
theorem d_Le_partOf_4 : decode b_Le_partOf 4 = .ok (.getfield 38, 3) := by decide +kernel
theorem d_Le_partOf_7 : decode b_Le_partOf 7 = .ok (.iconst 1, 1) := by decide +kernel
theorem d_Le_partOf_8 : decode b_Le_partOf 8 = .ok (.isub, 1) := by decide +kernel
theorem d_Le_partOf_9 : decode b_Le_partOf 9 = .ok (.i2l, 1) := by decide +kernel
theorem d_Le_partOf_10 : decode b_Le_partOf 10 = .ok (.invokestatic 57, 3) := by decide +kernel
theorem d_Le_partOf_13 : decode b_Le_partOf 13 = .ok (.ifCond .eq 12, 3) := by decide +kernel
theorem d_Le_partOf_16 : decode b_Le_partOf 16 = .ok (.aload_n 0, 1) := by decide +kernel
theorem d_Le_partOf_17 : decode b_Le_partOf 17 = .ok (.getfield 27, 3) := by decide +kernel
theorem d_Le_partOf_20 : decode b_Le_partOf 20 = .ok (.iload_n 1, 1) := by decide +kernel
theorem d_Le_partOf_21 : decode b_Le_partOf 21 = .ok (.aaload, 1) := by decide +kernel
theorem d_Le_partOf_22 : decode b_Le_partOf 22 = .ok (.goto 4, 3) := by decide +kernel
theorem d_Le_partOf_25 : decode b_Le_partOf 25 = .ok (.aconst_null, 1) := by decide +kernel
theorem d_Le_partOf_26 : decode b_Le_partOf 26 = .ok (.areturn, 1) := by decide +kernel
theorem d_Pa_turnBy_0 : decode b_Pa_turnBy 0 = .ok (.aload_n 0, 1) := by decide +kernel
theorem d_Pa_turnBy_1 : decode b_Pa_turnBy 1 = .ok (.iload_n 1, 1) := by decide +kernel
theorem d_Pa_turnBy_2 : decode b_Pa_turnBy 2 = .ok (.putfield 9, 3) := by decide +kernel
theorem d_Pa_turnBy_5 : decode b_Pa_turnBy 5 = .ok (.aload_n 0, 1) := by decide +kernel
theorem d_Pa_turnBy_6 : decode b_Pa_turnBy 6 = .ok (.iload_n 2, 1) := by decide +kernel
theorem d_Pa_turnBy_7 : decode b_Pa_turnBy 7 = .ok (.putfield 15, 3) := by decide +kernel
theorem d_Pa_turnBy_10 : decode b_Pa_turnBy 10 = .ok (.aload_n 0, 1) := by decide +kernel
theorem d_Pa_turnBy_11 : decode b_Pa_turnBy 11 = .ok (.iload_n 3, 1) := by decide +kernel
theorem d_Pa_turnBy_12 : decode b_Pa_turnBy 12 = .ok (.putfield 18, 3) := by decide +kernel
theorem d_Pa_turnBy_15 : decode b_Pa_turnBy 15 = .ok (.aload_n 0, 1) := by decide +kernel
theorem d_Pa_turnBy_16 : decode b_Pa_turnBy 16 = .ok (.iload 4, 2) := by decide +kernel
theorem d_Pa_turnBy_18 : decode b_Pa_turnBy 18 = .ok (.putfield 21, 3) := by decide +kernel
theorem d_Pa_turnBy_21 : decode b_Pa_turnBy 21 = .ok (.return_, 1) := by decide +kernel
theorem d_Fo_matrix_0 : decode b_Fo_matrix 0 = .ok (.aload_n 0, 1) := by decide +kernel
theorem d_Fo_matrix_1 : decode b_Fo_matrix 1 = .ok (.iload_n 1, 1) := by decide +kernel
theorem d_Fo_matrix_2 : decode b_Fo_matrix 2 = .ok (.invokevirtual 99, 3) := by decide +kernel
theorem d_Fo_matrix_5 : decode b_Fo_matrix 5 = .ok (.astore 7, 2) := by decide +kernel
theorem d_Fo_matrix_7 : decode b_Fo_matrix 7 = .ok (.aload 7, 2) := by decide +kernel
theorem d_Fo_matrix_9 : decode b_Fo_matrix 9 = .ok (.ifnonnull 7, 3) := by decide +kernel
theorem d_Fo_matrix_12 : decode b_Fo_matrix 12 = .ok (.aconst_null, 1) := by decide +kernel
theorem d_Fo_matrix_13 : decode b_Fo_matrix 13 = .ok (.goto 9, 3) := by decide +kernel
theorem d_Fo_matrix_16 : decode b_Fo_matrix 16 = .ok (.aload 7, 2) := by decide +kernel
theorem d_Fo_matrix_18 : decode b_Fo_matrix 18 = .ok (.iload_n 2, 1) := by decide +kernel
theorem d_Fo_matrix_19 : decode b_Fo_matrix 19 = .ok (.invokevirtual 166, 3) := by decide +kernel
theorem d_Fo_matrix_22 : decode b_Fo_matrix 22 = .ok (.astore 8, 2) := by decide +kernel
theorem d_Fo_matrix_24 : decode b_Fo_matrix 24 = .ok (.aload 8, 2) := by decide +kernel
theorem d_Fo_matrix_26 : decode b_Fo_matrix 26 = .ok (.ifnull 34, 3) := by decide +kernel
theorem d_Fo_matrix_29 : decode b_Fo_matrix 29 = .ok (.iload_n 3, 1) := by decide +kernel
theorem d_Fo_matrix_30 : decode b_Fo_matrix 30 = .ok (.invokestatic 170, 3) := by decide +kernel
theorem d_Fo_matrix_33 : decode b_Fo_matrix 33 = .ok (.ifCond .eq 27, 3) := by decide +kernel
theorem d_Fo_matrix_36 : decode b_Fo_matrix 36 = .ok (.iload 4, 2) := by decide +kernel
theorem d_Fo_matrix_38 : decode b_Fo_matrix 38 = .ok (.invokestatic 170, 3) := by decide +kernel
theorem d_Fo_matrix_41 : decode b_Fo_matrix 41 = .ok (.ifCond .eq 19, 3) := by decide +kernel
theorem d_Fo_matrix_44 : decode b_Fo_matrix 44 = .ok (.iload 5, 2) := by decide +kernel
theorem d_Fo_matrix_46 : decode b_Fo_matrix 46 = .ok (.invokestatic 170, 3) := by decide +kernel
theorem d_Fo_matrix_49 : decode b_Fo_matrix 49 = .ok (.ifCond .eq 11, 3) := by decide +kernel
theorem d_Fo_matrix_52 : decode b_Fo_matrix 52 = .ok (.iload 6, 2) := by decide +kernel
theorem d_Fo_matrix_54 : decode b_Fo_matrix 54 = .ok (.invokestatic 170, 3) := by decide +kernel
theorem d_Fo_matrix_57 : decode b_Fo_matrix 57 = .ok (.ifCond .ne 5, 3) := by decide +kernel
theorem d_Fo_matrix_60 : decode b_Fo_matrix 60 = .ok (.iconst 0, 1) := by decide +kernel
theorem d_Fo_matrix_61 : decode b_Fo_matrix 61 = .ok (.ireturn, 1) := by decide +kernel
theorem d_Fo_matrix_62 : decode b_Fo_matrix 62 = .ok (.aload 8, 2) := by decide +kernel
theorem d_Fo_matrix_64 : decode b_Fo_matrix 64 = .ok (.iload_n 3, 1) := by decide +kernel
theorem d_Fo_matrix_65 : decode b_Fo_matrix 65 = .ok (.iload 4, 2) := by decide +kernel
theorem d_Fo_matrix_67 : decode b_Fo_matrix 67 = .ok (.iload 5, 2) := by decide +kernel
theorem d_Fo_matrix_69 : decode b_Fo_matrix 69 = .ok (.iload 6, 2) := by decide +kernel
theorem d_Fo_matrix_71 : decode b_Fo_matrix 71 = .ok (.invokevirtual 173, 3) := by decide +kernel
theorem d_Fo_matrix_74 : decode b_Fo_matrix 74 = .ok (.iconst 1, 1) := by decide +kernel
theorem d_Fo_matrix_75 : decode b_Fo_matrix 75 = .ok (.ireturn, 1) := by decide +kernel
theorem d_Fo_info_0 : decode b_Fo_info 0 = .ok (.aload_n 0, 1) := by decide +kernel
theorem d_Fo_info_1 : decode b_Fo_info 1 = .ok (.iload_n 1, 1) := by decide +kernel
theorem d_Fo_info_2 : decode b_Fo_info 2 = .ok (.invokevirtual 99, 3) := by decide +kernel
theorem d_Fo_info_5 : decode b_Fo_info 5 = .ok (.astore_n 3, 1) := by decide +kernel
theorem d_Fo_info_6 : decode b_Fo_info 6 = .ok (.aload_n 3, 1) := by decide +kernel
theorem d_Fo_info_7 : decode b_Fo_info 7 = .ok (.ifnonnull 6, 3) := by decide +kernel
theorem d_Fo_info_10 : decode b_Fo_info 10 = .ok (.bipush (-2), 2) := by decide +kernel
theorem d_Fo_info_12 : decode b_Fo_info 12 = .ok (.ireturn, 1) := by decide +kernel
theorem d_Fo_info_13 : decode b_Fo_info 13 = .ok (.iload_n 2, 1) := by decide +kernel
theorem d_Fo_info_14 : decode b_Fo_info 14 = .ok (.tableswitch 112 0 7 #[46, 51, 56, 64, 72, 77, 82, 104], 46) := by decide +kernel
theorem d_Fo_info_60 : decode b_Fo_info 60 = .ok (.aload_n 3, 1) := by decide +kernel
theorem d_Fo_info_61 : decode b_Fo_info 61 = .ok (.getfield 179, 3) := by decide +kernel
theorem d_Fo_info_64 : decode b_Fo_info 64 = .ok (.ireturn, 1) := by decide +kernel
theorem d_Fo_info_65 : decode b_Fo_info 65 = .ok (.aload_n 3, 1) := by decide +kernel
theorem d_Fo_info_66 : decode b_Fo_info 66 = .ok (.getfield 182, 3) := by decide +kernel
theorem d_Fo_info_69 : decode b_Fo_info 69 = .ok (.ireturn, 1) := by decide +kernel
theorem d_Fo_info_70 : decode b_Fo_info 70 = .ok (.aload_n 3, 1) := by decide +kernel
theorem d_Fo_info_71 : decode b_Fo_info 71 = .ok (.getfield 106, 3) := by decide +kernel
theorem d_Fo_info_74 : decode b_Fo_info 74 = .ok (.getfield 145, 3) := by decide +kernel
theorem d_Fo_info_77 : decode b_Fo_info 77 = .ok (.ireturn, 1) := by decide +kernel
theorem d_Fo_info_78 : decode b_Fo_info 78 = .ok (.aload_n 3, 1) := by decide +kernel
theorem d_Fo_info_79 : decode b_Fo_info 79 = .ok (.getfield 106, 3) := by decide +kernel
theorem d_Fo_info_82 : decode b_Fo_info 82 = .ok (.invokevirtual 185, 3) := by decide +kernel
theorem d_Fo_info_85 : decode b_Fo_info 85 = .ok (.ireturn, 1) := by decide +kernel
theorem d_Fo_info_86 : decode b_Fo_info 86 = .ok (.aload_n 3, 1) := by decide +kernel
theorem d_Fo_info_87 : decode b_Fo_info 87 = .ok (.getfield 103, 3) := by decide +kernel
theorem d_Fo_info_90 : decode b_Fo_info 90 = .ok (.ireturn, 1) := by decide +kernel
theorem d_Fo_info_91 : decode b_Fo_info 91 = .ok (.aload_n 3, 1) := by decide +kernel
theorem d_Fo_info_92 : decode b_Fo_info 92 = .ok (.getfield 159, 3) := by decide +kernel
theorem d_Fo_info_95 : decode b_Fo_info 95 = .ok (.ireturn, 1) := by decide +kernel
theorem d_Fo_info_96 : decode b_Fo_info 96 = .ok (.aload_n 3, 1) := by decide +kernel
theorem d_Fo_info_97 : decode b_Fo_info 97 = .ok (.getfield 106, 3) := by decide +kernel
theorem d_Fo_info_100 : decode b_Fo_info 100 = .ok (.getfield 126, 3) := by decide +kernel
theorem d_Fo_info_103 : decode b_Fo_info 103 = .ok (.ifCond .eq 13, 3) := by decide +kernel
theorem d_Fo_info_106 : decode b_Fo_info 106 = .ok (.aload_n 3, 1) := by decide +kernel
theorem d_Fo_info_107 : decode b_Fo_info 107 = .ok (.getfield 106, 3) := by decide +kernel
theorem d_Fo_info_110 : decode b_Fo_info 110 = .ok (.invokevirtual 188, 3) := by decide +kernel
theorem d_Fo_info_113 : decode b_Fo_info 113 = .ok (.goto 4, 3) := by decide +kernel
theorem d_Fo_info_116 : decode b_Fo_info 116 = .ok (.iconst (-1), 1) := by decide +kernel
theorem d_Fo_info_117 : decode b_Fo_info 117 = .ok (.ireturn, 1) := by decide +kernel
theorem d_Fo_info_118 : decode b_Fo_info 118 = .ok (.aload_n 3, 1) := by decide +kernel
theorem d_Fo_info_119 : decode b_Fo_info 119 = .ok (.getfield 191, 3) := by decide +kernel
theorem d_Fo_info_122 : decode b_Fo_info 122 = .ok (.getfield 195, 3) := by decide +kernel
theorem d_Fo_info_125 : decode b_Fo_info 125 = .ok (.ireturn, 1) := by decide +kernel
theorem d_Fo_info_126 : decode b_Fo_info 126 = .ok (.bipush (-2), 2) := by decide +kernel
theorem d_Fo_info_128 : decode b_Fo_info 128 = .ok (.ireturn, 1) := by decide +kernel
theorem d_Sh_outlineWith_0 : decode b_Sh_outlineWith 0 = .ok (.iconst 0, 1) := by decide +kernel
theorem d_Sh_outlineWith_1 : decode b_Sh_outlineWith 1 = .ok (.istore_n 2, 1) := by decide +kernel
theorem d_Sh_outlineWith_2 : decode b_Sh_outlineWith 2 = .ok (.iload_n 2, 1) := by decide +kernel
theorem d_Sh_outlineWith_3 : decode b_Sh_outlineWith 3 = .ok (.aload_n 0, 1) := by decide +kernel
theorem d_Sh_outlineWith_4 : decode b_Sh_outlineWith 4 = .ok (.getfield 36, 3) := by decide +kernel
theorem d_Sh_outlineWith_7 : decode b_Sh_outlineWith 7 = .ok (.iconst 1, 1) := by decide +kernel
theorem d_Sh_outlineWith_8 : decode b_Sh_outlineWith 8 = .ok (.isub, 1) := by decide +kernel
theorem d_Sh_outlineWith_9 : decode b_Sh_outlineWith 9 = .ok (.if_icmp .ge 18, 3) := by decide +kernel
theorem d_Sh_outlineWith_12 : decode b_Sh_outlineWith 12 = .ok (.iload_n 1, 1) := by decide +kernel
theorem d_Sh_outlineWith_13 : decode b_Sh_outlineWith 13 = .ok (.aload_n 0, 1) := by decide +kernel
theorem d_Sh_outlineWith_14 : decode b_Sh_outlineWith 14 = .ok (.iload_n 2, 1) := by decide +kernel
theorem d_Sh_outlineWith_15 : decode b_Sh_outlineWith 15 = .ok (.invokevirtual 61, 3) := by decide +kernel
theorem d_Sh_outlineWith_18 : decode b_Sh_outlineWith 18 = .ok (.if_icmp .lt 9, 3) := by decide +kernel
theorem d_Sh_outlineWith_21 : decode b_Sh_outlineWith 21 = .ok (.iinc 2 1, 3) := by decide +kernel
theorem d_Sh_outlineWith_24 : decode b_Sh_outlineWith 24 = .ok (.goto (-22), 3) := by decide +kernel
theorem d_Sh_outlineWith_27 : decode b_Sh_outlineWith 27 = .ok (.iload_n 2, 1) := by decide +kernel
theorem d_Sh_outlineWith_28 : decode b_Sh_outlineWith 28 = .ok (.ireturn, 1) := by decide +kernel
theorem d_Fo_at_0 : decode b_Fo_at 0 = .ok (.aload_n 0, 1) := by decide +kernel
theorem d_Fo_at_1 : decode b_Fo_at 1 = .ok (.iload_n 1, 1) := by decide +kernel
theorem d_Fo_at_2 : decode b_Fo_at 2 = .ok (.invokevirtual 99, 3) := by decide +kernel
theorem d_Fo_at_5 : decode b_Fo_at 5 = .ok (.astore 4, 2) := by decide +kernel
theorem d_Fo_at_7 : decode b_Fo_at 7 = .ok (.aload 4, 2) := by decide +kernel
theorem d_Fo_at_9 : decode b_Fo_at 9 = .ok (.ifnull 15, 3) := by decide +kernel
theorem d_Fo_at_12 : decode b_Fo_at 12 = .ok (.aload 4, 2) := by decide +kernel
theorem d_Fo_at_14 : decode b_Fo_at 14 = .ok (.getfield 106, 3) := by decide +kernel
theorem d_Fo_at_17 : decode b_Fo_at 17 = .ok (.iload_n 2, 1) := by decide +kernel
theorem d_Fo_at_18 : decode b_Fo_at 18 = .ok (.invokevirtual 136, 3) := by decide +kernel
theorem d_Fo_at_21 : decode b_Fo_at 21 = .ok (.ifCond .ne 6, 3) := by decide +kernel
theorem d_Fo_at_24 : decode b_Fo_at 24 = .ok (.ldc 200, 2) := by decide +kernel
theorem d_Fo_at_26 : decode b_Fo_at 26 = .ok (.ireturn, 1) := by decide +kernel
theorem d_Fo_at_27 : decode b_Fo_at 27 = .ok (.iload_n 3, 1) := by decide +kernel
theorem d_Fo_at_28 : decode b_Fo_at 28 = .ok (.tableswitch 75 0 3 #[32, 43, 54, 65], 32) := by decide +kernel
theorem d_Fo_at_60 : decode b_Fo_at 60 = .ok (.aload 4, 2) := by decide +kernel
theorem d_Fo_at_62 : decode b_Fo_at 62 = .ok (.getfield 106, 3) := by decide +kernel
theorem d_Fo_at_65 : decode b_Fo_at 65 = .ok (.getfield 139, 3) := by decide +kernel
theorem d_Fo_at_68 : decode b_Fo_at 68 = .ok (.iload_n 2, 1) := by decide +kernel
theorem d_Fo_at_69 : decode b_Fo_at 69 = .ok (.iaload, 1) := by decide +kernel
theorem d_Fo_at_70 : decode b_Fo_at 70 = .ok (.ireturn, 1) := by decide +kernel
theorem d_Fo_at_71 : decode b_Fo_at 71 = .ok (.aload 4, 2) := by decide +kernel
theorem d_Fo_at_73 : decode b_Fo_at 73 = .ok (.getfield 106, 3) := by decide +kernel
theorem d_Fo_at_76 : decode b_Fo_at 76 = .ok (.getfield 142, 3) := by decide +kernel
theorem d_Fo_at_79 : decode b_Fo_at 79 = .ok (.iload_n 2, 1) := by decide +kernel
theorem d_Fo_at_80 : decode b_Fo_at 80 = .ok (.iaload, 1) := by decide +kernel
theorem d_Fo_at_81 : decode b_Fo_at 81 = .ok (.ireturn, 1) := by decide +kernel
theorem d_Fo_at_82 : decode b_Fo_at 82 = .ok (.aload 4, 2) := by decide +kernel
theorem d_Fo_at_84 : decode b_Fo_at 84 = .ok (.getfield 106, 3) := by decide +kernel
theorem d_Fo_at_87 : decode b_Fo_at 87 = .ok (.getfield 201, 3) := by decide +kernel
theorem d_Fo_at_90 : decode b_Fo_at 90 = .ok (.iload_n 2, 1) := by decide +kernel
theorem d_Fo_at_91 : decode b_Fo_at 91 = .ok (.iaload, 1) := by decide +kernel
theorem d_Fo_at_92 : decode b_Fo_at 92 = .ok (.ireturn, 1) := by decide +kernel
theorem d_Fo_at_93 : decode b_Fo_at 93 = .ok (.aload 4, 2) := by decide +kernel
theorem d_Fo_at_95 : decode b_Fo_at 95 = .ok (.getfield 106, 3) := by decide +kernel
theorem d_Fo_at_98 : decode b_Fo_at 98 = .ok (.iload_n 2, 1) := by decide +kernel
theorem d_Fo_at_99 : decode b_Fo_at 99 = .ok (.invokevirtual 204, 3) := by decide +kernel
theorem d_Fo_at_102 : decode b_Fo_at 102 = .ok (.ireturn, 1) := by decide +kernel
theorem d_Fo_at_103 : decode b_Fo_at 103 = .ok (.ldc 200, 2) := by decide +kernel
theorem d_Fo_at_105 : decode b_Fo_at 105 = .ok (.ireturn, 1) := by decide +kernel
theorem d_Fo_takeSparePolygons_0 : decode b_Fo_takeSparePolygons 0 = .ok (.aload_n 0, 1) := by decide +kernel
theorem d_Fo_takeSparePolygons_1 : decode b_Fo_takeSparePolygons 1 = .ok (.getfield 29, 3) := by decide +kernel
theorem d_Fo_takeSparePolygons_4 : decode b_Fo_takeSparePolygons 4 = .ok (.astore_n 1, 1) := by decide +kernel
theorem d_Fo_takeSparePolygons_5 : decode b_Fo_takeSparePolygons 5 = .ok (.aload_n 0, 1) := by decide +kernel
theorem d_Fo_takeSparePolygons_6 : decode b_Fo_takeSparePolygons 6 = .ok (.aload_n 0, 1) := by decide +kernel
theorem d_Fo_takeSparePolygons_7 : decode b_Fo_takeSparePolygons 7 = .ok (.getfield 33, 3) := by decide +kernel
theorem d_Fo_takeSparePolygons_10 : decode b_Fo_takeSparePolygons 10 = .ok (.putfield 29, 3) := by decide +kernel
theorem d_Fo_takeSparePolygons_13 : decode b_Fo_takeSparePolygons 13 = .ok (.aload_n 0, 1) := by decide +kernel
theorem d_Fo_takeSparePolygons_14 : decode b_Fo_takeSparePolygons 14 = .ok (.aload_n 1, 1) := by decide +kernel
theorem d_Fo_takeSparePolygons_15 : decode b_Fo_takeSparePolygons 15 = .ok (.putfield 33, 3) := by decide +kernel
theorem d_Fo_takeSparePolygons_18 : decode b_Fo_takeSparePolygons 18 = .ok (.return_, 1) := by decide +kernel
theorem d_Ma_abs_0 : decode b_Ma_abs 0 = .ok (.lload_n 0, 1) := by decide +kernel
theorem d_Ma_abs_1 : decode b_Ma_abs 1 = .ok (.lconst 0, 1) := by decide +kernel
theorem d_Ma_abs_2 : decode b_Ma_abs 2 = .ok (.lcmp, 1) := by decide +kernel
theorem d_Ma_abs_3 : decode b_Ma_abs 3 = .ok (.ifCond .ge 8, 3) := by decide +kernel
theorem d_Ma_abs_6 : decode b_Ma_abs 6 = .ok (.lload_n 0, 1) := by decide +kernel
theorem d_Ma_abs_7 : decode b_Ma_abs 7 = .ok (.lneg, 1) := by decide +kernel
theorem d_Ma_abs_8 : decode b_Ma_abs 8 = .ok (.goto 4, 3) := by decide +kernel
theorem d_Ma_abs_11 : decode b_Ma_abs 11 = .ok (.lload_n 0, 1) := by decide +kernel
theorem d_Ma_abs_12 : decode b_Ma_abs 12 = .ok (.lreturn, 1) := by decide +kernel
theorem d_Ma_floorDiv_0 : decode b_Ma_floorDiv 0 = .ok (.lload_n 0, 1) := by decide +kernel
theorem d_Ma_floorDiv_1 : decode b_Ma_floorDiv 1 = .ok (.lload_n 2, 1) := by decide +kernel
theorem d_Ma_floorDiv_2 : decode b_Ma_floorDiv 2 = .ok (.ldiv, 1) := by decide +kernel
theorem d_Ma_floorDiv_3 : decode b_Ma_floorDiv 3 = .ok (.lstore 4, 2) := by decide +kernel
theorem d_Ma_floorDiv_5 : decode b_Ma_floorDiv 5 = .ok (.lload_n 0, 1) := by decide +kernel
theorem d_Ma_floorDiv_6 : decode b_Ma_floorDiv 6 = .ok (.lload_n 2, 1) := by decide +kernel
theorem d_Ma_floorDiv_7 : decode b_Ma_floorDiv 7 = .ok (.lxor, 1) := by decide +kernel
theorem d_Ma_floorDiv_8 : decode b_Ma_floorDiv 8 = .ok (.lconst 0, 1) := by decide +kernel
theorem d_Ma_floorDiv_9 : decode b_Ma_floorDiv 9 = .ok (.lcmp, 1) := by decide +kernel
theorem d_Ma_floorDiv_10 : decode b_Ma_floorDiv 10 = .ok (.ifCond .ge 17, 3) := by decide +kernel
theorem d_Ma_floorDiv_13 : decode b_Ma_floorDiv 13 = .ok (.lload 4, 2) := by decide +kernel
theorem d_Ma_floorDiv_15 : decode b_Ma_floorDiv 15 = .ok (.lload_n 2, 1) := by decide +kernel
theorem d_Ma_floorDiv_16 : decode b_Ma_floorDiv 16 = .ok (.lmul, 1) := by decide +kernel
theorem d_Ma_floorDiv_17 : decode b_Ma_floorDiv 17 = .ok (.lload_n 0, 1) := by decide +kernel
theorem d_Ma_floorDiv_18 : decode b_Ma_floorDiv 18 = .ok (.lcmp, 1) := by decide +kernel
theorem d_Ma_floorDiv_19 : decode b_Ma_floorDiv 19 = .ok (.ifCond .eq 8, 3) := by decide +kernel
theorem d_Ma_floorDiv_22 : decode b_Ma_floorDiv 22 = .ok (.lload 4, 2) := by decide +kernel
theorem d_Ma_floorDiv_24 : decode b_Ma_floorDiv 24 = .ok (.lconst 1, 1) := by decide +kernel
theorem d_Ma_floorDiv_25 : decode b_Ma_floorDiv 25 = .ok (.lsub, 1) := by decide +kernel
theorem d_Ma_floorDiv_26 : decode b_Ma_floorDiv 26 = .ok (.lreturn, 1) := by decide +kernel
theorem d_Ma_floorDiv_27 : decode b_Ma_floorDiv 27 = .ok (.lload 4, 2) := by decide +kernel
theorem d_Ma_floorDiv_29 : decode b_Ma_floorDiv 29 = .ok (.lreturn, 1) := by decide +kernel
theorem d_Fo_rounded_0 : decode b_Fo_rounded 0 = .ok (.lload_n 2, 1) := by decide +kernel
theorem d_Fo_rounded_1 : decode b_Fo_rounded 1 = .ok (.lconst 0, 1) := by decide +kernel
theorem d_Fo_rounded_2 : decode b_Fo_rounded 2 = .ok (.lcmp, 1) := by decide +kernel
theorem d_Fo_rounded_3 : decode b_Fo_rounded 3 = .ok (.ifCond .ne 5, 3) := by decide +kernel
theorem d_Fo_rounded_6 : decode b_Fo_rounded 6 = .ok (.lconst 0, 1) := by decide +kernel
theorem d_Fo_rounded_7 : decode b_Fo_rounded 7 = .ok (.lreturn, 1) := by decide +kernel
theorem d_Fo_rounded_8 : decode b_Fo_rounded 8 = .ok (.lload_n 2, 1) := by decide +kernel
theorem d_Fo_rounded_9 : decode b_Fo_rounded 9 = .ok (.lconst 0, 1) := by decide +kernel
theorem d_Fo_rounded_10 : decode b_Fo_rounded 10 = .ok (.lcmp, 1) := by decide +kernel
theorem d_Fo_rounded_11 : decode b_Fo_rounded 11 = .ok (.ifCond .ge 8, 3) := by decide +kernel
theorem d_Fo_rounded_14 : decode b_Fo_rounded 14 = .ok (.lload_n 0, 1) := by decide +kernel
theorem d_Fo_rounded_15 : decode b_Fo_rounded 15 = .ok (.lneg, 1) := by decide +kernel
theorem d_Fo_rounded_16 : decode b_Fo_rounded 16 = .ok (.goto 4, 3) := by decide +kernel
theorem d_Fo_rounded_19 : decode b_Fo_rounded 19 = .ok (.lload_n 0, 1) := by decide +kernel
theorem d_Fo_rounded_20 : decode b_Fo_rounded 20 = .ok (.lstore 4, 2) := by decide +kernel
theorem d_Fo_rounded_22 : decode b_Fo_rounded 22 = .ok (.lload_n 2, 1) := by decide +kernel
theorem d_Fo_rounded_23 : decode b_Fo_rounded 23 = .ok (.invokestatic 368, 3) := by decide +kernel
theorem d_Fo_rounded_26 : decode b_Fo_rounded 26 = .ok (.lstore 6, 2) := by decide +kernel
theorem d_Fo_rounded_28 : decode b_Fo_rounded 28 = .ok (.lload 4, 2) := by decide +kernel
theorem d_Fo_rounded_30 : decode b_Fo_rounded 30 = .ok (.lload 6, 2) := by decide +kernel
theorem d_Fo_rounded_32 : decode b_Fo_rounded 32 = .ok (.invokestatic 374, 3) := by decide +kernel
theorem d_Fo_rounded_35 : decode b_Fo_rounded 35 = .ok (.lstore 8, 2) := by decide +kernel
theorem d_Fo_rounded_37 : decode b_Fo_rounded 37 = .ok (.ldc2_w 120, 3) := by decide +kernel
theorem d_Fo_rounded_40 : decode b_Fo_rounded 40 = .ok (.lload 4, 2) := by decide +kernel
theorem d_Fo_rounded_42 : decode b_Fo_rounded 42 = .ok (.lload 8, 2) := by decide +kernel
theorem d_Fo_rounded_44 : decode b_Fo_rounded 44 = .ok (.lload 6, 2) := by decide +kernel
theorem d_Fo_rounded_46 : decode b_Fo_rounded 46 = .ok (.lmul, 1) := by decide +kernel
theorem d_Fo_rounded_47 : decode b_Fo_rounded 47 = .ok (.lsub, 1) := by decide +kernel
theorem d_Fo_rounded_48 : decode b_Fo_rounded 48 = .ok (.lmul, 1) := by decide +kernel
theorem d_Fo_rounded_49 : decode b_Fo_rounded 49 = .ok (.lstore 10, 2) := by decide +kernel
theorem d_Fo_rounded_51 : decode b_Fo_rounded 51 = .ok (.lload 10, 2) := by decide +kernel
theorem d_Fo_rounded_53 : decode b_Fo_rounded 53 = .ok (.lload 6, 2) := by decide +kernel
theorem d_Fo_rounded_55 : decode b_Fo_rounded 55 = .ok (.lcmp, 1) := by decide +kernel
theorem d_Fo_rounded_56 : decode b_Fo_rounded 56 = .ok (.ifCond .gt 20, 3) := by decide +kernel
theorem d_Fo_rounded_59 : decode b_Fo_rounded 59 = .ok (.lload 10, 2) := by decide +kernel
theorem d_Fo_rounded_61 : decode b_Fo_rounded 61 = .ok (.lload 6, 2) := by decide +kernel
theorem d_Fo_rounded_63 : decode b_Fo_rounded 63 = .ok (.lcmp, 1) := by decide +kernel
theorem d_Fo_rounded_64 : decode b_Fo_rounded 64 = .ok (.ifCond .ne 16, 3) := by decide +kernel
theorem d_Fo_rounded_67 : decode b_Fo_rounded 67 = .ok (.lload 8, 2) := by decide +kernel
theorem d_Fo_rounded_69 : decode b_Fo_rounded 69 = .ok (.lconst 1, 1) := by decide +kernel
theorem d_Fo_rounded_70 : decode b_Fo_rounded 70 = .ok (.land, 1) := by decide +kernel
theorem d_Fo_rounded_71 : decode b_Fo_rounded 71 = .ok (.lconst 0, 1) := by decide +kernel
theorem d_Fo_rounded_72 : decode b_Fo_rounded 72 = .ok (.lcmp, 1) := by decide +kernel
theorem d_Fo_rounded_73 : decode b_Fo_rounded 73 = .ok (.ifCond .eq 7, 3) := by decide +kernel
theorem d_Fo_rounded_76 : decode b_Fo_rounded 76 = .ok (.iconst 1, 1) := by decide +kernel
theorem d_Fo_rounded_77 : decode b_Fo_rounded 77 = .ok (.goto 4, 3) := by decide +kernel
theorem d_Fo_rounded_80 : decode b_Fo_rounded 80 = .ok (.iconst 0, 1) := by decide +kernel
theorem d_Fo_rounded_81 : decode b_Fo_rounded 81 = .ok (.istore 12, 2) := by decide +kernel
theorem d_Fo_rounded_83 : decode b_Fo_rounded 83 = .ok (.iload 12, 2) := by decide +kernel
theorem d_Fo_rounded_85 : decode b_Fo_rounded 85 = .ok (.ifCond .eq 10, 3) := by decide +kernel
theorem d_Fo_rounded_88 : decode b_Fo_rounded 88 = .ok (.lload 8, 2) := by decide +kernel
theorem d_Fo_rounded_90 : decode b_Fo_rounded 90 = .ok (.lconst 1, 1) := by decide +kernel
theorem d_Fo_rounded_91 : decode b_Fo_rounded 91 = .ok (.ladd, 1) := by decide +kernel
theorem d_Fo_rounded_92 : decode b_Fo_rounded 92 = .ok (.goto 5, 3) := by decide +kernel
theorem d_Fo_rounded_95 : decode b_Fo_rounded 95 = .ok (.lload 8, 2) := by decide +kernel
theorem d_Fo_rounded_97 : decode b_Fo_rounded 97 = .ok (.lreturn, 1) := by decide +kernel
theorem d_Fl_firstHalf_0 : decode b_Fl_firstHalf 0 = .ok (.iload_n 2, 1) := by decide +kernel
theorem d_Fl_firstHalf_1 : decode b_Fl_firstHalf 1 = .ok (.iconst 4, 1) := by decide +kernel
theorem d_Fl_firstHalf_2 : decode b_Fl_firstHalf 2 = .ok (.iadd, 1) := by decide +kernel
theorem d_Fl_firstHalf_3 : decode b_Fl_firstHalf 3 = .ok (.istore_n 3, 1) := by decide +kernel
theorem d_Fl_firstHalf_4 : decode b_Fl_firstHalf 4 = .ok (.aload_n 1, 1) := by decide +kernel
theorem d_Fl_firstHalf_5 : decode b_Fl_firstHalf 5 = .ok (.iload_n 2, 1) := by decide +kernel
theorem d_Fl_firstHalf_6 : decode b_Fl_firstHalf 6 = .ok (.aload_n 1, 1) := by decide +kernel
theorem d_Fl_firstHalf_7 : decode b_Fl_firstHalf 7 = .ok (.iload_n 3, 1) := by decide +kernel
theorem d_Fl_firstHalf_8 : decode b_Fl_firstHalf 8 = .ok (.iconst 4, 1) := by decide +kernel
theorem d_Fl_firstHalf_9 : decode b_Fl_firstHalf 9 = .ok (.invokestatic 151, 3) := by decide +kernel
theorem d_Fl_firstHalf_12 : decode b_Fl_firstHalf 12 = .ok (.iconst 1, 1) := by decide +kernel
theorem d_Fl_firstHalf_13 : decode b_Fl_firstHalf 13 = .ok (.istore 4, 2) := by decide +kernel
theorem d_Fl_firstHalf_15 : decode b_Fl_firstHalf 15 = .ok (.iload 4, 2) := by decide +kernel
theorem d_Fl_firstHalf_17 : decode b_Fl_firstHalf 17 = .ok (.aload_n 0, 1) := by decide +kernel
theorem d_Fl_firstHalf_18 : decode b_Fl_firstHalf 18 = .ok (.getfield 98, 3) := by decide +kernel
theorem d_Fl_firstHalf_21 : decode b_Fl_firstHalf 21 = .ok (.if_icmp .gt 49, 3) := by decide +kernel
theorem d_Fl_firstHalf_24 : decode b_Fl_firstHalf 24 = .ok (.iload_n 3, 1) := by decide +kernel
theorem d_Fl_firstHalf_25 : decode b_Fl_firstHalf 25 = .ok (.aload_n 0, 1) := by decide +kernel
theorem d_Fl_firstHalf_26 : decode b_Fl_firstHalf 26 = .ok (.getfield 98, 3) := by decide +kernel
theorem d_Fl_firstHalf_29 : decode b_Fl_firstHalf 29 = .ok (.iadd, 1) := by decide +kernel
theorem d_Fl_firstHalf_30 : decode b_Fl_firstHalf 30 = .ok (.istore 5, 2) := by decide +kernel
theorem d_Fl_firstHalf_32 : decode b_Fl_firstHalf 32 = .ok (.iload 5, 2) := by decide +kernel
theorem d_Fl_firstHalf_34 : decode b_Fl_firstHalf 34 = .ok (.iload_n 3, 1) := by decide +kernel
theorem d_Fl_firstHalf_35 : decode b_Fl_firstHalf 35 = .ok (.iload 4, 2) := by decide +kernel
theorem d_Fl_firstHalf_37 : decode b_Fl_firstHalf 37 = .ok (.iadd, 1) := by decide +kernel
theorem d_Fl_firstHalf_38 : decode b_Fl_firstHalf 38 = .ok (.if_icmp .lt 26, 3) := by decide +kernel
theorem d_Fl_firstHalf_41 : decode b_Fl_firstHalf 41 = .ok (.aload_n 1, 1) := by decide +kernel
theorem d_Fl_firstHalf_42 : decode b_Fl_firstHalf 42 = .ok (.iload 5, 2) := by decide +kernel
theorem d_Fl_firstHalf_44 : decode b_Fl_firstHalf 44 = .ok (.aload_n 1, 1) := by decide +kernel
theorem d_Fl_firstHalf_45 : decode b_Fl_firstHalf 45 = .ok (.iload 5, 2) := by decide +kernel
theorem d_Fl_firstHalf_47 : decode b_Fl_firstHalf 47 = .ok (.iconst 1, 1) := by decide +kernel
theorem d_Fl_firstHalf_48 : decode b_Fl_firstHalf 48 = .ok (.isub, 1) := by decide +kernel
theorem d_Fl_firstHalf_49 : decode b_Fl_firstHalf 49 = .ok (.laload, 1) := by decide +kernel
theorem d_Fl_firstHalf_50 : decode b_Fl_firstHalf 50 = .ok (.aload_n 1, 1) := by decide +kernel
theorem d_Fl_firstHalf_51 : decode b_Fl_firstHalf 51 = .ok (.iload 5, 2) := by decide +kernel
theorem d_Fl_firstHalf_53 : decode b_Fl_firstHalf 53 = .ok (.laload, 1) := by decide +kernel
theorem d_Fl_firstHalf_54 : decode b_Fl_firstHalf 54 = .ok (.ladd, 1) := by decide +kernel
theorem d_Fl_firstHalf_55 : decode b_Fl_firstHalf 55 = .ok (.iconst 1, 1) := by decide +kernel
theorem d_Fl_firstHalf_56 : decode b_Fl_firstHalf 56 = .ok (.lshr, 1) := by decide +kernel
theorem d_Fl_firstHalf_57 : decode b_Fl_firstHalf 57 = .ok (.lastore, 1) := by decide +kernel
theorem d_Fl_firstHalf_58 : decode b_Fl_firstHalf 58 = .ok (.iinc 5 (-1), 3) := by decide +kernel
theorem d_Fl_firstHalf_61 : decode b_Fl_firstHalf 61 = .ok (.goto (-29), 3) := by decide +kernel
theorem d_Fl_firstHalf_64 : decode b_Fl_firstHalf 64 = .ok (.iinc 4 1, 3) := by decide +kernel
theorem d_Fl_firstHalf_67 : decode b_Fl_firstHalf 67 = .ok (.goto (-52), 3) := by decide +kernel
theorem d_Fl_firstHalf_70 : decode b_Fl_firstHalf 70 = .ok (.return_, 1) := by decide +kernel
theorem d_Fl_bend_0 : decode b_Fl_bend 0 = .ok (.aload_n 0, 1) := by decide +kernel
theorem d_Fl_bend_1 : decode b_Fl_bend 1 = .ok (.iload_n 1, 1) := by decide +kernel
theorem d_Fl_bend_2 : decode b_Fl_bend 2 = .ok (.laload, 1) := by decide +kernel
theorem d_Fl_bend_3 : decode b_Fl_bend 3 = .ok (.ldc2_w 145, 3) := by decide +kernel
theorem d_Fl_bend_6 : decode b_Fl_bend 6 = .ok (.aload_n 0, 1) := by decide +kernel
theorem d_Fl_bend_7 : decode b_Fl_bend 7 = .ok (.iload_n 1, 1) := by decide +kernel
theorem d_Fl_bend_8 : decode b_Fl_bend 8 = .ok (.iconst 1, 1) := by decide +kernel
theorem d_Fl_bend_9 : decode b_Fl_bend 9 = .ok (.iadd, 1) := by decide +kernel
theorem d_Fl_bend_10 : decode b_Fl_bend 10 = .ok (.laload, 1) := by decide +kernel
theorem d_Fl_bend_11 : decode b_Fl_bend 11 = .ok (.lmul, 1) := by decide +kernel
theorem d_Fl_bend_12 : decode b_Fl_bend 12 = .ok (.lsub, 1) := by decide +kernel
theorem d_Fl_bend_13 : decode b_Fl_bend 13 = .ok (.aload_n 0, 1) := by decide +kernel
theorem d_Fl_bend_14 : decode b_Fl_bend 14 = .ok (.iload_n 1, 1) := by decide +kernel
theorem d_Fl_bend_15 : decode b_Fl_bend 15 = .ok (.iconst 2, 1) := by decide +kernel
theorem d_Fl_bend_16 : decode b_Fl_bend 16 = .ok (.iadd, 1) := by decide +kernel
theorem d_Fl_bend_17 : decode b_Fl_bend 17 = .ok (.laload, 1) := by decide +kernel
theorem d_Fl_bend_18 : decode b_Fl_bend 18 = .ok (.ladd, 1) := by decide +kernel
theorem d_Fl_bend_19 : decode b_Fl_bend 19 = .ok (.invokestatic 147, 3) := by decide +kernel
theorem d_Fl_bend_22 : decode b_Fl_bend 22 = .ok (.lreturn, 1) := by decide +kernel
theorem d_Fl_isFlat_0 : decode b_Fl_isFlat 0 = .ok (.iload_n 1, 1) := by decide +kernel
theorem d_Fl_isFlat_1 : decode b_Fl_isFlat 1 = .ok (.istore_n 2, 1) := by decide +kernel
theorem d_Fl_isFlat_2 : decode b_Fl_isFlat 2 = .ok (.iload_n 2, 1) := by decide +kernel
theorem d_Fl_isFlat_3 : decode b_Fl_isFlat 3 = .ok (.iconst 2, 1) := by decide +kernel
theorem d_Fl_isFlat_4 : decode b_Fl_isFlat 4 = .ok (.iadd, 1) := by decide +kernel
theorem d_Fl_isFlat_5 : decode b_Fl_isFlat 5 = .ok (.iload_n 1, 1) := by decide +kernel
theorem d_Fl_isFlat_6 : decode b_Fl_isFlat 6 = .ok (.aload_n 0, 1) := by decide +kernel
theorem d_Fl_isFlat_7 : decode b_Fl_isFlat 7 = .ok (.getfield 98, 3) := by decide +kernel
theorem d_Fl_isFlat_10 : decode b_Fl_isFlat 10 = .ok (.iadd, 1) := by decide +kernel
theorem d_Fl_isFlat_11 : decode b_Fl_isFlat 11 = .ok (.if_icmp .gt 43, 3) := by decide +kernel
theorem d_Fl_isFlat_14 : decode b_Fl_isFlat 14 = .ok (.aload_n 0, 1) := by decide +kernel
theorem d_Fl_isFlat_15 : decode b_Fl_isFlat 15 = .ok (.getfield 11, 3) := by decide +kernel
theorem d_Fl_isFlat_18 : decode b_Fl_isFlat 18 = .ok (.iload_n 2, 1) := by decide +kernel
theorem d_Fl_isFlat_19 : decode b_Fl_isFlat 19 = .ok (.invokestatic 141, 3) := by decide +kernel
theorem d_Fl_isFlat_22 : decode b_Fl_isFlat 22 = .ok (.aload_n 0, 1) := by decide +kernel
theorem d_Fl_isFlat_23 : decode b_Fl_isFlat 23 = .ok (.getfield 36, 3) := by decide +kernel
theorem d_Fl_isFlat_26 : decode b_Fl_isFlat 26 = .ok (.lcmp, 1) := by decide +kernel
theorem d_Fl_isFlat_27 : decode b_Fl_isFlat 27 = .ok (.ifCond .gt 19, 3) := by decide +kernel
theorem d_Fl_isFlat_30 : decode b_Fl_isFlat 30 = .ok (.aload_n 0, 1) := by decide +kernel
theorem d_Fl_isFlat_31 : decode b_Fl_isFlat 31 = .ok (.getfield 15, 3) := by decide +kernel
theorem d_Fl_isFlat_34 : decode b_Fl_isFlat 34 = .ok (.iload_n 2, 1) := by decide +kernel
theorem d_Fl_isFlat_35 : decode b_Fl_isFlat 35 = .ok (.invokestatic 141, 3) := by decide +kernel
theorem d_Fl_isFlat_38 : decode b_Fl_isFlat 38 = .ok (.aload_n 0, 1) := by decide +kernel
theorem d_Fl_isFlat_39 : decode b_Fl_isFlat 39 = .ok (.getfield 36, 3) := by decide +kernel
theorem d_Fl_isFlat_42 : decode b_Fl_isFlat 42 = .ok (.lcmp, 1) := by decide +kernel
theorem d_Fl_isFlat_43 : decode b_Fl_isFlat 43 = .ok (.ifCond .le 5, 3) := by decide +kernel
theorem d_Fl_isFlat_46 : decode b_Fl_isFlat 46 = .ok (.iconst 0, 1) := by decide +kernel
theorem d_Fl_isFlat_47 : decode b_Fl_isFlat 47 = .ok (.ireturn, 1) := by decide +kernel
theorem d_Fl_isFlat_48 : decode b_Fl_isFlat 48 = .ok (.iinc 2 1, 3) := by decide +kernel
theorem d_Fl_isFlat_51 : decode b_Fl_isFlat 51 = .ok (.goto (-49), 3) := by decide +kernel
theorem d_Fl_isFlat_54 : decode b_Fl_isFlat 54 = .ok (.iconst 1, 1) := by decide +kernel
theorem d_Fl_isFlat_55 : decode b_Fl_isFlat 55 = .ok (.ireturn, 1) := by decide +kernel
theorem d_Fl_secondHalf_0 : decode b_Fl_secondHalf 0 = .ok (.iload_n 2, 1) := by decide +kernel
theorem d_Fl_secondHalf_1 : decode b_Fl_secondHalf 1 = .ok (.iconst 4, 1) := by decide +kernel
theorem d_Fl_secondHalf_2 : decode b_Fl_secondHalf 2 = .ok (.iadd, 1) := by decide +kernel
theorem d_Fl_secondHalf_3 : decode b_Fl_secondHalf 3 = .ok (.istore_n 3, 1) := by decide +kernel
theorem d_Fl_secondHalf_4 : decode b_Fl_secondHalf 4 = .ok (.aload_n 1, 1) := by decide +kernel
theorem d_Fl_secondHalf_5 : decode b_Fl_secondHalf 5 = .ok (.iload_n 2, 1) := by decide +kernel
theorem d_Fl_secondHalf_6 : decode b_Fl_secondHalf 6 = .ok (.aload_n 1, 1) := by decide +kernel
theorem d_Fl_secondHalf_7 : decode b_Fl_secondHalf 7 = .ok (.iload_n 3, 1) := by decide +kernel
theorem d_Fl_secondHalf_8 : decode b_Fl_secondHalf 8 = .ok (.iconst 4, 1) := by decide +kernel
theorem d_Fl_secondHalf_9 : decode b_Fl_secondHalf 9 = .ok (.invokestatic 151, 3) := by decide +kernel
theorem d_Fl_secondHalf_12 : decode b_Fl_secondHalf 12 = .ok (.iconst 1, 1) := by decide +kernel
theorem d_Fl_secondHalf_13 : decode b_Fl_secondHalf 13 = .ok (.istore 4, 2) := by decide +kernel
theorem d_Fl_secondHalf_15 : decode b_Fl_secondHalf 15 = .ok (.iload 4, 2) := by decide +kernel
theorem d_Fl_secondHalf_17 : decode b_Fl_secondHalf 17 = .ok (.aload_n 0, 1) := by decide +kernel
theorem d_Fl_secondHalf_18 : decode b_Fl_secondHalf 18 = .ok (.getfield 98, 3) := by decide +kernel
theorem d_Fl_secondHalf_21 : decode b_Fl_secondHalf 21 = .ok (.if_icmp .gt 49, 3) := by decide +kernel
theorem d_Fl_secondHalf_24 : decode b_Fl_secondHalf 24 = .ok (.iload_n 3, 1) := by decide +kernel
theorem d_Fl_secondHalf_25 : decode b_Fl_secondHalf 25 = .ok (.istore 5, 2) := by decide +kernel
theorem d_Fl_secondHalf_27 : decode b_Fl_secondHalf 27 = .ok (.iload 5, 2) := by decide +kernel
theorem d_Fl_secondHalf_29 : decode b_Fl_secondHalf 29 = .ok (.iload_n 3, 1) := by decide +kernel
theorem d_Fl_secondHalf_30 : decode b_Fl_secondHalf 30 = .ok (.aload_n 0, 1) := by decide +kernel
theorem d_Fl_secondHalf_31 : decode b_Fl_secondHalf 31 = .ok (.getfield 98, 3) := by decide +kernel
theorem d_Fl_secondHalf_34 : decode b_Fl_secondHalf 34 = .ok (.iadd, 1) := by decide +kernel
theorem d_Fl_secondHalf_35 : decode b_Fl_secondHalf 35 = .ok (.iload 4, 2) := by decide +kernel
theorem d_Fl_secondHalf_37 : decode b_Fl_secondHalf 37 = .ok (.isub, 1) := by decide +kernel
theorem d_Fl_secondHalf_38 : decode b_Fl_secondHalf 38 = .ok (.if_icmp .gt 26, 3) := by decide +kernel
theorem d_Fl_secondHalf_41 : decode b_Fl_secondHalf 41 = .ok (.aload_n 1, 1) := by decide +kernel
theorem d_Fl_secondHalf_42 : decode b_Fl_secondHalf 42 = .ok (.iload 5, 2) := by decide +kernel
theorem d_Fl_secondHalf_44 : decode b_Fl_secondHalf 44 = .ok (.aload_n 1, 1) := by decide +kernel
theorem d_Fl_secondHalf_45 : decode b_Fl_secondHalf 45 = .ok (.iload 5, 2) := by decide +kernel
theorem d_Fl_secondHalf_47 : decode b_Fl_secondHalf 47 = .ok (.laload, 1) := by decide +kernel
theorem d_Fl_secondHalf_48 : decode b_Fl_secondHalf 48 = .ok (.aload_n 1, 1) := by decide +kernel
theorem d_Fl_secondHalf_49 : decode b_Fl_secondHalf 49 = .ok (.iload 5, 2) := by decide +kernel
theorem d_Fl_secondHalf_51 : decode b_Fl_secondHalf 51 = .ok (.iconst 1, 1) := by decide +kernel
theorem d_Fl_secondHalf_52 : decode b_Fl_secondHalf 52 = .ok (.iadd, 1) := by decide +kernel
theorem d_Fl_secondHalf_53 : decode b_Fl_secondHalf 53 = .ok (.laload, 1) := by decide +kernel
theorem d_Fl_secondHalf_54 : decode b_Fl_secondHalf 54 = .ok (.ladd, 1) := by decide +kernel
theorem d_Fl_secondHalf_55 : decode b_Fl_secondHalf 55 = .ok (.iconst 1, 1) := by decide +kernel
theorem d_Fl_secondHalf_56 : decode b_Fl_secondHalf 56 = .ok (.lshr, 1) := by decide +kernel
theorem d_Fl_secondHalf_57 : decode b_Fl_secondHalf 57 = .ok (.lastore, 1) := by decide +kernel
theorem d_Fl_secondHalf_58 : decode b_Fl_secondHalf 58 = .ok (.iinc 5 1, 3) := by decide +kernel
theorem d_Fl_secondHalf_61 : decode b_Fl_secondHalf 61 = .ok (.goto (-34), 3) := by decide +kernel
theorem d_Fl_secondHalf_64 : decode b_Fl_secondHalf 64 = .ok (.iinc 4 1, 3) := by decide +kernel
theorem d_Fl_secondHalf_67 : decode b_Fl_secondHalf 67 = .ok (.goto (-52), 3) := by decide +kernel
theorem d_Fl_secondHalf_70 : decode b_Fl_secondHalf 70 = .ok (.return_, 1) := by decide +kernel
theorem d_Po_isLast_0 : decode b_Po_isLast 0 = .ok (.aload_n 0, 1) := by decide +kernel
theorem d_Po_isLast_1 : decode b_Po_isLast 1 = .ok (.getfield 22, 3) := by decide +kernel
theorem d_Po_isLast_4 : decode b_Po_isLast 4 = .ok (.aload_n 0, 1) := by decide +kernel
theorem d_Po_isLast_5 : decode b_Po_isLast 5 = .ok (.getfield 33, 3) := by decide +kernel
theorem d_Po_isLast_8 : decode b_Po_isLast 8 = .ok (.if_icmp .le 41, 3) := by decide +kernel
theorem d_Po_isLast_11 : decode b_Po_isLast 11 = .ok (.aload_n 0, 1) := by decide +kernel
theorem d_Po_isLast_12 : decode b_Po_isLast 12 = .ok (.getfield 9, 3) := by decide +kernel
theorem d_Po_isLast_15 : decode b_Po_isLast 15 = .ok (.aload_n 0, 1) := by decide +kernel
theorem d_Po_isLast_16 : decode b_Po_isLast 16 = .ok (.getfield 22, 3) := by decide +kernel
theorem d_Po_isLast_19 : decode b_Po_isLast 19 = .ok (.iconst 1, 1) := by decide +kernel
theorem d_Po_isLast_20 : decode b_Po_isLast 20 = .ok (.isub, 1) := by decide +kernel
theorem d_Po_isLast_21 : decode b_Po_isLast 21 = .ok (.iaload, 1) := by decide +kernel
theorem d_Po_isLast_22 : decode b_Po_isLast 22 = .ok (.i2l, 1) := by decide +kernel
theorem d_Po_isLast_23 : decode b_Po_isLast 23 = .ok (.lload_n 1, 1) := by decide +kernel
theorem d_Po_isLast_24 : decode b_Po_isLast 24 = .ok (.lcmp, 1) := by decide +kernel
theorem d_Po_isLast_25 : decode b_Po_isLast 25 = .ok (.ifCond .ne 24, 3) := by decide +kernel
theorem d_Po_isLast_28 : decode b_Po_isLast 28 = .ok (.aload_n 0, 1) := by decide +kernel
theorem d_Po_isLast_29 : decode b_Po_isLast 29 = .ok (.getfield 13, 3) := by decide +kernel
theorem d_Po_isLast_32 : decode b_Po_isLast 32 = .ok (.aload_n 0, 1) := by decide +kernel
theorem d_Po_isLast_33 : decode b_Po_isLast 33 = .ok (.getfield 22, 3) := by decide +kernel
theorem d_Po_isLast_36 : decode b_Po_isLast 36 = .ok (.iconst 1, 1) := by decide +kernel
theorem d_Po_isLast_37 : decode b_Po_isLast 37 = .ok (.isub, 1) := by decide +kernel
theorem d_Po_isLast_38 : decode b_Po_isLast 38 = .ok (.iaload, 1) := by decide +kernel
theorem d_Po_isLast_39 : decode b_Po_isLast 39 = .ok (.i2l, 1) := by decide +kernel
theorem d_Po_isLast_40 : decode b_Po_isLast 40 = .ok (.lload_n 3, 1) := by decide +kernel
theorem d_Po_isLast_41 : decode b_Po_isLast 41 = .ok (.lcmp, 1) := by decide +kernel
theorem d_Po_isLast_42 : decode b_Po_isLast 42 = .ok (.ifCond .ne 7, 3) := by decide +kernel
theorem d_Po_isLast_45 : decode b_Po_isLast 45 = .ok (.iconst 1, 1) := by decide +kernel
theorem d_Po_isLast_46 : decode b_Po_isLast 46 = .ok (.goto 4, 3) := by decide +kernel
theorem d_Po_isLast_49 : decode b_Po_isLast 49 = .ok (.iconst 0, 1) := by decide +kernel
theorem d_Po_isLast_50 : decode b_Po_isLast 50 = .ok (.ireturn, 1) := by decide +kernel
theorem d_Po_isNear_0 : decode b_Po_isNear 0 = .ok (.lload_n 0, 1) := by decide +kernel
theorem d_Po_isNear_1 : decode b_Po_isNear 1 = .ok (.ldc2_w 57, 3) := by decide +kernel
theorem d_Po_isNear_4 : decode b_Po_isNear 4 = .ok (.ldc2_w 59, 3) := by decide +kernel
theorem d_Po_isNear_7 : decode b_Po_isNear 7 = .ok (.invokestatic 61, 3) := by decide +kernel
theorem d_Po_isNear_10 : decode b_Po_isNear 10 = .ok (.ireturn, 1) := by decide +kernel
theorem d_Po_add_0 : decode b_Po_add 0 = .ok (.aload_n 0, 1) := by decide +kernel
theorem d_Po_add_1 : decode b_Po_add 1 = .ok (.dup, 1) := by decide +kernel
theorem d_Po_add_2 : decode b_Po_add 2 = .ok (.getfield 30, 3) := by decide +kernel
theorem d_Po_add_5 : decode b_Po_add 5 = .ok (.iconst 1, 1) := by decide +kernel
theorem d_Po_add_6 : decode b_Po_add 6 = .ok (.iadd, 1) := by decide +kernel
theorem d_Po_add_7 : decode b_Po_add 7 = .ok (.putfield 30, 3) := by decide +kernel
theorem d_Po_add_10 : decode b_Po_add 10 = .ok (.aload_n 0, 1) := by decide +kernel
theorem d_Po_add_11 : decode b_Po_add 11 = .ok (.getfield 30, 3) := by decide +kernel
theorem d_Po_add_14 : decode b_Po_add 14 = .ok (.sipush 500, 3) := by decide +kernel
theorem d_Po_add_17 : decode b_Po_add 17 = .ok (.if_icmp .gt 17, 3) := by decide +kernel
theorem d_Po_add_20 : decode b_Po_add 20 = .ok (.lload_n 1, 1) := by decide +kernel
theorem d_Po_add_21 : decode b_Po_add 21 = .ok (.invokestatic 39, 3) := by decide +kernel
theorem d_Po_add_24 : decode b_Po_add 24 = .ok (.ifCond .eq 10, 3) := by decide +kernel
theorem d_Po_add_27 : decode b_Po_add 27 = .ok (.lload_n 3, 1) := by decide +kernel
theorem d_Po_add_28 : decode b_Po_add 28 = .ok (.invokestatic 39, 3) := by decide +kernel
theorem d_Po_add_31 : decode b_Po_add 31 = .ok (.ifCond .ne 8, 3) := by decide +kernel
theorem d_Po_add_34 : decode b_Po_add 34 = .ok (.aload_n 0, 1) := by decide +kernel
theorem d_Po_add_35 : decode b_Po_add 35 = .ok (.iconst 0, 1) := by decide +kernel
theorem d_Po_add_36 : decode b_Po_add 36 = .ok (.putfield 26, 3) := by decide +kernel
theorem d_Po_add_39 : decode b_Po_add 39 = .ok (.aload_n 0, 1) := by decide +kernel
theorem d_Po_add_40 : decode b_Po_add 40 = .ok (.getfield 26, 3) := by decide +kernel
theorem d_Po_add_43 : decode b_Po_add 43 = .ok (.ifCond .eq 12, 3) := by decide +kernel
theorem d_Po_add_46 : decode b_Po_add 46 = .ok (.aload_n 0, 1) := by decide +kernel
theorem d_Po_add_47 : decode b_Po_add 47 = .ok (.lload_n 1, 1) := by decide +kernel
theorem d_Po_add_48 : decode b_Po_add 48 = .ok (.lload_n 3, 1) := by decide +kernel
theorem d_Po_add_49 : decode b_Po_add 49 = .ok (.invokevirtual 43, 3) := by decide +kernel
theorem d_Po_add_52 : decode b_Po_add 52 = .ok (.ifCond .eq 4, 3) := by decide +kernel
theorem d_Po_add_55 : decode b_Po_add 55 = .ok (.return_, 1) := by decide +kernel
theorem d_Po_add_56 : decode b_Po_add 56 = .ok (.aload_n 0, 1) := by decide +kernel
theorem d_Po_add_57 : decode b_Po_add 57 = .ok (.getfield 9, 3) := by decide +kernel
theorem d_Po_add_60 : decode b_Po_add 60 = .ok (.aload_n 0, 1) := by decide +kernel
theorem d_Po_add_61 : decode b_Po_add 61 = .ok (.getfield 22, 3) := by decide +kernel
theorem d_Po_add_64 : decode b_Po_add 64 = .ok (.lload_n 1, 1) := by decide +kernel
theorem d_Po_add_65 : decode b_Po_add 65 = .ok (.l2i, 1) := by decide +kernel
theorem d_Po_add_66 : decode b_Po_add 66 = .ok (.iastore, 1) := by decide +kernel
theorem d_Po_add_67 : decode b_Po_add 67 = .ok (.aload_n 0, 1) := by decide +kernel
theorem d_Po_add_68 : decode b_Po_add 68 = .ok (.getfield 13, 3) := by decide +kernel
theorem d_Po_add_71 : decode b_Po_add 71 = .ok (.aload_n 0, 1) := by decide +kernel
theorem d_Po_add_72 : decode b_Po_add 72 = .ok (.getfield 22, 3) := by decide +kernel
theorem d_Po_add_75 : decode b_Po_add 75 = .ok (.lload_n 3, 1) := by decide +kernel
theorem d_Po_add_76 : decode b_Po_add 76 = .ok (.l2i, 1) := by decide +kernel
theorem d_Po_add_77 : decode b_Po_add 77 = .ok (.iastore, 1) := by decide +kernel
theorem d_Po_add_78 : decode b_Po_add 78 = .ok (.aload_n 0, 1) := by decide +kernel
theorem d_Po_add_79 : decode b_Po_add 79 = .ok (.getfield 16, 3) := by decide +kernel
theorem d_Po_add_82 : decode b_Po_add 82 = .ok (.aload_n 0, 1) := by decide +kernel
theorem d_Po_add_83 : decode b_Po_add 83 = .ok (.getfield 22, 3) := by decide +kernel
theorem d_Po_add_86 : decode b_Po_add 86 = .ok (.aload_n 0, 1) := by decide +kernel
theorem d_Po_add_87 : decode b_Po_add 87 = .ok (.getfield 36, 3) := by decide +kernel
theorem d_Po_add_90 : decode b_Po_add 90 = .ok (.iastore, 1) := by decide +kernel
theorem d_Po_add_91 : decode b_Po_add 91 = .ok (.aload_n 0, 1) := by decide +kernel
theorem d_Po_add_92 : decode b_Po_add 92 = .ok (.getfield 19, 3) := by decide +kernel
theorem d_Po_add_95 : decode b_Po_add 95 = .ok (.aload_n 0, 1) := by decide +kernel
theorem d_Po_add_96 : decode b_Po_add 96 = .ok (.getfield 22, 3) := by decide +kernel
theorem d_Po_add_99 : decode b_Po_add 99 = .ok (.aload_n 0, 1) := by decide +kernel
theorem d_Po_add_100 : decode b_Po_add 100 = .ok (.getfield 22, 3) := by decide +kernel
theorem d_Po_add_103 : decode b_Po_add 103 = .ok (.iconst 1, 1) := by decide +kernel
theorem d_Po_add_104 : decode b_Po_add 104 = .ok (.iadd, 1) := by decide +kernel
theorem d_Po_add_105 : decode b_Po_add 105 = .ok (.iastore, 1) := by decide +kernel
theorem d_Po_add_106 : decode b_Po_add 106 = .ok (.aload_n 0, 1) := by decide +kernel
theorem d_Po_add_107 : decode b_Po_add 107 = .ok (.dup, 1) := by decide +kernel
theorem d_Po_add_108 : decode b_Po_add 108 = .ok (.getfield 22, 3) := by decide +kernel
theorem d_Po_add_111 : decode b_Po_add 111 = .ok (.iconst 1, 1) := by decide +kernel
theorem d_Po_add_112 : decode b_Po_add 112 = .ok (.iadd, 1) := by decide +kernel
theorem d_Po_add_113 : decode b_Po_add 113 = .ok (.putfield 22, 3) := by decide +kernel
theorem d_Po_add_116 : decode b_Po_add 116 = .ok (.return_, 1) := by decide +kernel
theorem d_Fl_addPiece_0 : decode b_Fl_addPiece 0 = .ok (.aload_n 2, 1) := by decide +kernel
theorem d_Fl_addPiece_1 : decode b_Fl_addPiece 1 = .ok (.getfield 49, 3) := by decide +kernel
theorem d_Fl_addPiece_4 : decode b_Fl_addPiece 4 = .ok (.ifCond .ne 4, 3) := by decide +kernel
theorem d_Fl_addPiece_7 : decode b_Fl_addPiece 7 = .ok (.return_, 1) := by decide +kernel
theorem d_Fl_addPiece_8 : decode b_Fl_addPiece 8 = .ok (.iload_n 1, 1) := by decide +kernel
theorem d_Fl_addPiece_9 : decode b_Fl_addPiece 9 = .ok (.iconst 4, 1) := by decide +kernel
theorem d_Fl_addPiece_10 : decode b_Fl_addPiece 10 = .ok (.imul, 1) := by decide +kernel
theorem d_Fl_addPiece_11 : decode b_Fl_addPiece 11 = .ok (.istore_n 3, 1) := by decide +kernel
theorem d_Fl_addPiece_12 : decode b_Fl_addPiece 12 = .ok (.iload_n 1, 1) := by decide +kernel
theorem d_Fl_addPiece_13 : decode b_Fl_addPiece 13 = .ok (.bipush 10, 2) := by decide +kernel
theorem d_Fl_addPiece_15 : decode b_Fl_addPiece 15 = .ok (.if_icmp .ge 11, 3) := by decide +kernel
theorem d_Fl_addPiece_18 : decode b_Fl_addPiece 18 = .ok (.aload_n 0, 1) := by decide +kernel
theorem d_Fl_addPiece_19 : decode b_Fl_addPiece 19 = .ok (.iload_n 3, 1) := by decide +kernel
theorem d_Fl_addPiece_20 : decode b_Fl_addPiece 20 = .ok (.invokevirtual 125, 3) := by decide +kernel
theorem d_Fl_addPiece_23 : decode b_Fl_addPiece 23 = .ok (.ifCond .eq 42, 3) := by decide +kernel
theorem d_Fl_addPiece_26 : decode b_Fl_addPiece 26 = .ok (.aload_n 2, 1) := by decide +kernel
theorem d_Fl_addPiece_27 : decode b_Fl_addPiece 27 = .ok (.aload_n 0, 1) := by decide +kernel
theorem d_Fl_addPiece_28 : decode b_Fl_addPiece 28 = .ok (.getfield 11, 3) := by decide +kernel
theorem d_Fl_addPiece_31 : decode b_Fl_addPiece 31 = .ok (.iload_n 3, 1) := by decide +kernel
theorem d_Fl_addPiece_32 : decode b_Fl_addPiece 32 = .ok (.aload_n 0, 1) := by decide +kernel
theorem d_Fl_addPiece_33 : decode b_Fl_addPiece 33 = .ok (.getfield 98, 3) := by decide +kernel
theorem d_Fl_addPiece_36 : decode b_Fl_addPiece 36 = .ok (.iadd, 1) := by decide +kernel
theorem d_Fl_addPiece_37 : decode b_Fl_addPiece 37 = .ok (.laload, 1) := by decide +kernel
theorem d_Fl_addPiece_38 : decode b_Fl_addPiece 38 = .ok (.ldc2_w 129, 3) := by decide +kernel
theorem d_Fl_addPiece_41 : decode b_Fl_addPiece 41 = .ok (.invokestatic 131, 3) := by decide +kernel
theorem d_Fl_addPiece_44 : decode b_Fl_addPiece 44 = .ok (.aload_n 0, 1) := by decide +kernel
theorem d_Fl_addPiece_45 : decode b_Fl_addPiece 45 = .ok (.getfield 15, 3) := by decide +kernel
theorem d_Fl_addPiece_48 : decode b_Fl_addPiece 48 = .ok (.iload_n 3, 1) := by decide +kernel
theorem d_Fl_addPiece_49 : decode b_Fl_addPiece 49 = .ok (.aload_n 0, 1) := by decide +kernel
theorem d_Fl_addPiece_50 : decode b_Fl_addPiece 50 = .ok (.getfield 98, 3) := by decide +kernel
theorem d_Fl_addPiece_53 : decode b_Fl_addPiece 53 = .ok (.iadd, 1) := by decide +kernel
theorem d_Fl_addPiece_54 : decode b_Fl_addPiece 54 = .ok (.laload, 1) := by decide +kernel
theorem d_Fl_addPiece_55 : decode b_Fl_addPiece 55 = .ok (.ldc2_w 129, 3) := by decide +kernel
theorem d_Fl_addPiece_58 : decode b_Fl_addPiece 58 = .ok (.invokestatic 131, 3) := by decide +kernel
theorem d_Fl_addPiece_61 : decode b_Fl_addPiece 61 = .ok (.invokevirtual 90, 3) := by decide +kernel
theorem d_Fl_addPiece_64 : decode b_Fl_addPiece 64 = .ok (.return_, 1) := by decide +kernel
theorem d_Fl_addPiece_65 : decode b_Fl_addPiece 65 = .ok (.aload_n 0, 1) := by decide +kernel
theorem d_Fl_addPiece_66 : decode b_Fl_addPiece 66 = .ok (.aload_n 0, 1) := by decide +kernel
theorem d_Fl_addPiece_67 : decode b_Fl_addPiece 67 = .ok (.getfield 11, 3) := by decide +kernel
theorem d_Fl_addPiece_70 : decode b_Fl_addPiece 70 = .ok (.iload_n 3, 1) := by decide +kernel
theorem d_Fl_addPiece_71 : decode b_Fl_addPiece 71 = .ok (.invokevirtual 134, 3) := by decide +kernel
theorem d_Fl_addPiece_74 : decode b_Fl_addPiece 74 = .ok (.aload_n 0, 1) := by decide +kernel
theorem d_Fl_addPiece_75 : decode b_Fl_addPiece 75 = .ok (.aload_n 0, 1) := by decide +kernel
theorem d_Fl_addPiece_76 : decode b_Fl_addPiece 76 = .ok (.getfield 15, 3) := by decide +kernel
theorem d_Fl_addPiece_79 : decode b_Fl_addPiece 79 = .ok (.iload_n 3, 1) := by decide +kernel
theorem d_Fl_addPiece_80 : decode b_Fl_addPiece 80 = .ok (.invokevirtual 134, 3) := by decide +kernel
theorem d_Fl_addPiece_83 : decode b_Fl_addPiece 83 = .ok (.aload_n 0, 1) := by decide +kernel
theorem d_Fl_addPiece_84 : decode b_Fl_addPiece 84 = .ok (.iload_n 1, 1) := by decide +kernel
theorem d_Fl_addPiece_85 : decode b_Fl_addPiece 85 = .ok (.iconst 1, 1) := by decide +kernel
theorem d_Fl_addPiece_86 : decode b_Fl_addPiece 86 = .ok (.iadd, 1) := by decide +kernel
theorem d_Fl_addPiece_87 : decode b_Fl_addPiece 87 = .ok (.aload_n 2, 1) := by decide +kernel
theorem d_Fl_addPiece_88 : decode b_Fl_addPiece 88 = .ok (.invokevirtual 101, 3) := by decide +kernel
theorem d_Fl_addPiece_91 : decode b_Fl_addPiece 91 = .ok (.aload_n 0, 1) := by decide +kernel
theorem d_Fl_addPiece_92 : decode b_Fl_addPiece 92 = .ok (.aload_n 0, 1) := by decide +kernel
theorem d_Fl_addPiece_93 : decode b_Fl_addPiece 93 = .ok (.getfield 11, 3) := by decide +kernel
theorem d_Fl_addPiece_96 : decode b_Fl_addPiece 96 = .ok (.iload_n 3, 1) := by decide +kernel
theorem d_Fl_addPiece_97 : decode b_Fl_addPiece 97 = .ok (.invokevirtual 138, 3) := by decide +kernel
theorem d_Fl_addPiece_100 : decode b_Fl_addPiece 100 = .ok (.aload_n 0, 1) := by decide +kernel
theorem d_Fl_addPiece_101 : decode b_Fl_addPiece 101 = .ok (.aload_n 0, 1) := by decide +kernel
theorem d_Fl_addPiece_102 : decode b_Fl_addPiece 102 = .ok (.getfield 15, 3) := by decide +kernel
theorem d_Fl_addPiece_105 : decode b_Fl_addPiece 105 = .ok (.iload_n 3, 1) := by decide +kernel
theorem d_Fl_addPiece_106 : decode b_Fl_addPiece 106 = .ok (.invokevirtual 138, 3) := by decide +kernel
theorem d_Fl_addPiece_109 : decode b_Fl_addPiece 109 = .ok (.aload_n 0, 1) := by decide +kernel
theorem d_Fl_addPiece_110 : decode b_Fl_addPiece 110 = .ok (.iload_n 1, 1) := by decide +kernel
theorem d_Fl_addPiece_111 : decode b_Fl_addPiece 111 = .ok (.iconst 1, 1) := by decide +kernel
theorem d_Fl_addPiece_112 : decode b_Fl_addPiece 112 = .ok (.iadd, 1) := by decide +kernel
theorem d_Fl_addPiece_113 : decode b_Fl_addPiece 113 = .ok (.aload_n 2, 1) := by decide +kernel
theorem d_Fl_addPiece_114 : decode b_Fl_addPiece 114 = .ok (.invokevirtual 101, 3) := by decide +kernel
theorem d_Fl_addPiece_117 : decode b_Fl_addPiece 117 = .ok (.return_, 1) := by decide +kernel
theorem d_Pa_placeX_0 : decode b_Pa_placeX 0 = .ok (.aload_n 0, 1) := by decide +kernel
theorem d_Pa_placeX_1 : decode b_Pa_placeX 1 = .ok (.getfield 9, 3) := by decide +kernel
theorem d_Pa_placeX_4 : decode b_Pa_placeX 4 = .ok (.i2l, 1) := by decide +kernel
theorem d_Pa_placeX_5 : decode b_Pa_placeX 5 = .ok (.lload_n 1, 1) := by decide +kernel
theorem d_Pa_placeX_6 : decode b_Pa_placeX 6 = .ok (.lmul, 1) := by decide +kernel
theorem d_Pa_placeX_7 : decode b_Pa_placeX 7 = .ok (.aload_n 0, 1) := by decide +kernel
theorem d_Pa_placeX_8 : decode b_Pa_placeX 8 = .ok (.getfield 15, 3) := by decide +kernel
theorem d_Pa_placeX_11 : decode b_Pa_placeX 11 = .ok (.i2l, 1) := by decide +kernel
theorem d_Pa_placeX_12 : decode b_Pa_placeX 12 = .ok (.lload_n 3, 1) := by decide +kernel
theorem d_Pa_placeX_13 : decode b_Pa_placeX 13 = .ok (.lmul, 1) := by decide +kernel
theorem d_Pa_placeX_14 : decode b_Pa_placeX 14 = .ok (.ladd, 1) := by decide +kernel
theorem d_Pa_placeX_15 : decode b_Pa_placeX 15 = .ok (.ldc2_w 34, 3) := by decide +kernel
theorem d_Pa_placeX_18 : decode b_Pa_placeX 18 = .ok (.invokestatic 36, 3) := by decide +kernel
theorem d_Pa_placeX_21 : decode b_Pa_placeX 21 = .ok (.aload_n 0, 1) := by decide +kernel
theorem d_Pa_placeX_22 : decode b_Pa_placeX 22 = .ok (.getfield 28, 3) := by decide +kernel
theorem d_Pa_placeX_25 : decode b_Pa_placeX 25 = .ok (.i2l, 1) := by decide +kernel
theorem d_Pa_placeX_26 : decode b_Pa_placeX 26 = .ok (.ladd, 1) := by decide +kernel
theorem d_Pa_placeX_27 : decode b_Pa_placeX 27 = .ok (.lreturn, 1) := by decide +kernel
theorem d_Pa_placeY_0 : decode b_Pa_placeY 0 = .ok (.aload_n 0, 1) := by decide +kernel
theorem d_Pa_placeY_1 : decode b_Pa_placeY 1 = .ok (.getfield 18, 3) := by decide +kernel
theorem d_Pa_placeY_4 : decode b_Pa_placeY 4 = .ok (.i2l, 1) := by decide +kernel
theorem d_Pa_placeY_5 : decode b_Pa_placeY 5 = .ok (.lload_n 1, 1) := by decide +kernel
theorem d_Pa_placeY_6 : decode b_Pa_placeY 6 = .ok (.lmul, 1) := by decide +kernel
theorem d_Pa_placeY_7 : decode b_Pa_placeY 7 = .ok (.aload_n 0, 1) := by decide +kernel
theorem d_Pa_placeY_8 : decode b_Pa_placeY 8 = .ok (.getfield 21, 3) := by decide +kernel
theorem d_Pa_placeY_11 : decode b_Pa_placeY 11 = .ok (.i2l, 1) := by decide +kernel
theorem d_Pa_placeY_12 : decode b_Pa_placeY 12 = .ok (.lload_n 3, 1) := by decide +kernel
theorem d_Pa_placeY_13 : decode b_Pa_placeY 13 = .ok (.lmul, 1) := by decide +kernel
theorem d_Pa_placeY_14 : decode b_Pa_placeY 14 = .ok (.ladd, 1) := by decide +kernel
theorem d_Pa_placeY_15 : decode b_Pa_placeY 15 = .ok (.ldc2_w 34, 3) := by decide +kernel
theorem d_Pa_placeY_18 : decode b_Pa_placeY 18 = .ok (.invokestatic 36, 3) := by decide +kernel
theorem d_Pa_placeY_21 : decode b_Pa_placeY 21 = .ok (.aload_n 0, 1) := by decide +kernel
theorem d_Pa_placeY_22 : decode b_Pa_placeY 22 = .ok (.getfield 31, 3) := by decide +kernel
theorem d_Pa_placeY_25 : decode b_Pa_placeY 25 = .ok (.i2l, 1) := by decide +kernel
theorem d_Pa_placeY_26 : decode b_Pa_placeY 26 = .ok (.ladd, 1) := by decide +kernel
theorem d_Pa_placeY_27 : decode b_Pa_placeY 27 = .ok (.lreturn, 1) := by decide +kernel
theorem d_Fl_place_0 : decode b_Fl_place 0 = .ok (.aload_n 1, 1) := by decide +kernel
theorem d_Fl_place_1 : decode b_Fl_place 1 = .ok (.getfield 114, 3) := by decide +kernel
theorem d_Fl_place_4 : decode b_Fl_place 4 = .ok (.iload_n 2, 1) := by decide +kernel
theorem d_Fl_place_5 : decode b_Fl_place 5 = .ok (.iaload, 1) := by decide +kernel
theorem d_Fl_place_6 : decode b_Fl_place 6 = .ok (.i2l, 1) := by decide +kernel
theorem d_Fl_place_7 : decode b_Fl_place 7 = .ok (.lstore 4, 2) := by decide +kernel
theorem d_Fl_place_9 : decode b_Fl_place 9 = .ok (.aload_n 1, 1) := by decide +kernel
theorem d_Fl_place_10 : decode b_Fl_place 10 = .ok (.getfield 116, 3) := by decide +kernel
theorem d_Fl_place_13 : decode b_Fl_place 13 = .ok (.iload_n 2, 1) := by decide +kernel
theorem d_Fl_place_14 : decode b_Fl_place 14 = .ok (.iaload, 1) := by decide +kernel
theorem d_Fl_place_15 : decode b_Fl_place 15 = .ok (.i2l, 1) := by decide +kernel
theorem d_Fl_place_16 : decode b_Fl_place 16 = .ok (.lstore 6, 2) := by decide +kernel
theorem d_Fl_place_18 : decode b_Fl_place 18 = .ok (.iload_n 3, 1) := by decide +kernel
theorem d_Fl_place_19 : decode b_Fl_place 19 = .ok (.iconst 1, 1) := by decide +kernel
theorem d_Fl_place_20 : decode b_Fl_place 20 = .ok (.isub, 1) := by decide +kernel
theorem d_Fl_place_21 : decode b_Fl_place 21 = .ok (.istore 8, 2) := by decide +kernel
theorem d_Fl_place_23 : decode b_Fl_place 23 = .ok (.iload 8, 2) := by decide +kernel
theorem d_Fl_place_25 : decode b_Fl_place 25 = .ok (.ifCond .lt 49, 3) := by decide +kernel
theorem d_Fl_place_28 : decode b_Fl_place 28 = .ok (.aload_n 0, 1) := by decide +kernel
theorem d_Fl_place_29 : decode b_Fl_place 29 = .ok (.getfield 26, 3) := by decide +kernel
theorem d_Fl_place_32 : decode b_Fl_place 32 = .ok (.iload 8, 2) := by decide +kernel
theorem d_Fl_place_34 : decode b_Fl_place 34 = .ok (.aaload, 1) := by decide +kernel
theorem d_Fl_place_35 : decode b_Fl_place 35 = .ok (.astore 9, 2) := by decide +kernel
theorem d_Fl_place_37 : decode b_Fl_place 37 = .ok (.aload 9, 2) := by decide +kernel
theorem d_Fl_place_39 : decode b_Fl_place 39 = .ok (.ifnull 29, 3) := by decide +kernel
theorem d_Fl_place_42 : decode b_Fl_place 42 = .ok (.lload 4, 2) := by decide +kernel
theorem d_Fl_place_44 : decode b_Fl_place 44 = .ok (.lstore 10, 2) := by decide +kernel
theorem d_Fl_place_46 : decode b_Fl_place 46 = .ok (.aload 9, 2) := by decide +kernel
theorem d_Fl_place_48 : decode b_Fl_place 48 = .ok (.lload 10, 2) := by decide +kernel
theorem d_Fl_place_50 : decode b_Fl_place 50 = .ok (.lload 6, 2) := by decide +kernel
theorem d_Fl_place_52 : decode b_Fl_place 52 = .ok (.invokevirtual 118, 3) := by decide +kernel
theorem d_Fl_place_55 : decode b_Fl_place 55 = .ok (.lstore 4, 2) := by decide +kernel
theorem d_Fl_place_57 : decode b_Fl_place 57 = .ok (.aload 9, 2) := by decide +kernel
theorem d_Fl_place_59 : decode b_Fl_place 59 = .ok (.lload 10, 2) := by decide +kernel
theorem d_Fl_place_61 : decode b_Fl_place 61 = .ok (.lload 6, 2) := by decide +kernel
theorem d_Fl_place_63 : decode b_Fl_place 63 = .ok (.invokevirtual 122, 3) := by decide +kernel
theorem d_Fl_place_66 : decode b_Fl_place 66 = .ok (.lstore 6, 2) := by decide +kernel
theorem d_Fl_place_68 : decode b_Fl_place 68 = .ok (.iinc 8 (-1), 3) := by decide +kernel
theorem d_Fl_place_71 : decode b_Fl_place 71 = .ok (.goto (-48), 3) := by decide +kernel
theorem d_Fl_place_74 : decode b_Fl_place 74 = .ok (.aload_n 0, 1) := by decide +kernel
theorem d_Fl_place_75 : decode b_Fl_place 75 = .ok (.getfield 18, 3) := by decide +kernel
theorem d_Fl_place_78 : decode b_Fl_place 78 = .ok (.iload_n 2, 1) := by decide +kernel
theorem d_Fl_place_79 : decode b_Fl_place 79 = .ok (.lload 4, 2) := by decide +kernel
theorem d_Fl_place_81 : decode b_Fl_place 81 = .ok (.lastore, 1) := by decide +kernel
theorem d_Fl_place_82 : decode b_Fl_place 82 = .ok (.aload_n 0, 1) := by decide +kernel
theorem d_Fl_place_83 : decode b_Fl_place 83 = .ok (.getfield 21, 3) := by decide +kernel
theorem d_Fl_place_86 : decode b_Fl_place 86 = .ok (.iload_n 2, 1) := by decide +kernel
theorem d_Fl_place_87 : decode b_Fl_place 87 = .ok (.lload 6, 2) := by decide +kernel
theorem d_Fl_place_89 : decode b_Fl_place 89 = .ok (.lastore, 1) := by decide +kernel
theorem d_Fl_place_90 : decode b_Fl_place 90 = .ok (.return_, 1) := by decide +kernel
theorem d_Po_finish_0 : decode b_Po_finish 0 = .ok (.aload_n 0, 1) := by decide +kernel
theorem d_Po_finish_1 : decode b_Po_finish 1 = .ok (.getfield 22, 3) := by decide +kernel
theorem d_Po_finish_4 : decode b_Po_finish 4 = .ok (.aload_n 0, 1) := by decide +kernel
theorem d_Po_finish_5 : decode b_Po_finish 5 = .ok (.getfield 33, 3) := by decide +kernel
theorem d_Po_finish_8 : decode b_Po_finish 8 = .ok (.if_icmp .gt 4, 3) := by decide +kernel
theorem d_Po_finish_11 : decode b_Po_finish 11 = .ok (.return_, 1) := by decide +kernel
theorem d_Po_finish_12 : decode b_Po_finish 12 = .ok (.aload_n 0, 1) := by decide +kernel
theorem d_Po_finish_13 : decode b_Po_finish 13 = .ok (.getfield 22, 3) := by decide +kernel
theorem d_Po_finish_16 : decode b_Po_finish 16 = .ok (.aload_n 0, 1) := by decide +kernel
theorem d_Po_finish_17 : decode b_Po_finish 17 = .ok (.getfield 33, 3) := by decide +kernel
theorem d_Po_finish_20 : decode b_Po_finish 20 = .ok (.isub, 1) := by decide +kernel
theorem d_Po_finish_21 : decode b_Po_finish 21 = .ok (.iconst 1, 1) := by decide +kernel
theorem d_Po_finish_22 : decode b_Po_finish 22 = .ok (.if_icmp .le 43, 3) := by decide +kernel
theorem d_Po_finish_25 : decode b_Po_finish 25 = .ok (.aload_n 0, 1) := by decide +kernel
theorem d_Po_finish_26 : decode b_Po_finish 26 = .ok (.aload_n 0, 1) := by decide +kernel
theorem d_Po_finish_27 : decode b_Po_finish 27 = .ok (.getfield 9, 3) := by decide +kernel
theorem d_Po_finish_30 : decode b_Po_finish 30 = .ok (.aload_n 0, 1) := by decide +kernel
theorem d_Po_finish_31 : decode b_Po_finish 31 = .ok (.getfield 33, 3) := by decide +kernel
theorem d_Po_finish_34 : decode b_Po_finish 34 = .ok (.iaload, 1) := by decide +kernel
theorem d_Po_finish_35 : decode b_Po_finish 35 = .ok (.i2l, 1) := by decide +kernel
theorem d_Po_finish_36 : decode b_Po_finish 36 = .ok (.aload_n 0, 1) := by decide +kernel
theorem d_Po_finish_37 : decode b_Po_finish 37 = .ok (.getfield 13, 3) := by decide +kernel
theorem d_Po_finish_40 : decode b_Po_finish 40 = .ok (.aload_n 0, 1) := by decide +kernel
theorem d_Po_finish_41 : decode b_Po_finish 41 = .ok (.getfield 33, 3) := by decide +kernel
theorem d_Po_finish_44 : decode b_Po_finish 44 = .ok (.iaload, 1) := by decide +kernel
theorem d_Po_finish_45 : decode b_Po_finish 45 = .ok (.i2l, 1) := by decide +kernel
theorem d_Po_finish_46 : decode b_Po_finish 46 = .ok (.invokevirtual 43, 3) := by decide +kernel
theorem d_Po_finish_49 : decode b_Po_finish 49 = .ok (.ifCond .eq 16, 3) := by decide +kernel
theorem d_Po_finish_52 : decode b_Po_finish 52 = .ok (.aload_n 0, 1) := by decide +kernel
theorem d_Po_finish_53 : decode b_Po_finish 53 = .ok (.dup, 1) := by decide +kernel
theorem d_Po_finish_54 : decode b_Po_finish 54 = .ok (.getfield 22, 3) := by decide +kernel
theorem d_Po_finish_57 : decode b_Po_finish 57 = .ok (.iconst 1, 1) := by decide +kernel
theorem d_Po_finish_58 : decode b_Po_finish 58 = .ok (.isub, 1) := by decide +kernel
theorem d_Po_finish_59 : decode b_Po_finish 59 = .ok (.putfield 22, 3) := by decide +kernel
theorem d_Po_finish_62 : decode b_Po_finish 62 = .ok (.goto (-50), 3) := by decide +kernel
theorem d_Po_finish_65 : decode b_Po_finish 65 = .ok (.aload_n 0, 1) := by decide +kernel
theorem d_Po_finish_66 : decode b_Po_finish 66 = .ok (.getfield 22, 3) := by decide +kernel
theorem d_Po_finish_69 : decode b_Po_finish 69 = .ok (.aload_n 0, 1) := by decide +kernel
theorem d_Po_finish_70 : decode b_Po_finish 70 = .ok (.getfield 33, 3) := by decide +kernel
theorem d_Po_finish_73 : decode b_Po_finish 73 = .ok (.isub, 1) := by decide +kernel
theorem d_Po_finish_74 : decode b_Po_finish 74 = .ok (.iconst 1, 1) := by decide +kernel
theorem d_Po_finish_75 : decode b_Po_finish 75 = .ok (.if_icmp .ne 12, 3) := by decide +kernel
theorem d_Po_finish_78 : decode b_Po_finish 78 = .ok (.aload_n 0, 1) := by decide +kernel
theorem d_Po_finish_79 : decode b_Po_finish 79 = .ok (.aload_n 0, 1) := by decide +kernel
theorem d_Po_finish_80 : decode b_Po_finish 80 = .ok (.getfield 33, 3) := by decide +kernel
theorem d_Po_finish_83 : decode b_Po_finish 83 = .ok (.putfield 22, 3) := by decide +kernel
theorem d_Po_finish_86 : decode b_Po_finish 86 = .ok (.return_, 1) := by decide +kernel
theorem d_Po_finish_87 : decode b_Po_finish 87 = .ok (.aload_n 0, 1) := by decide +kernel
theorem d_Po_finish_88 : decode b_Po_finish 88 = .ok (.getfield 19, 3) := by decide +kernel
theorem d_Po_finish_91 : decode b_Po_finish 91 = .ok (.aload_n 0, 1) := by decide +kernel
theorem d_Po_finish_92 : decode b_Po_finish 92 = .ok (.getfield 22, 3) := by decide +kernel
theorem d_Po_finish_95 : decode b_Po_finish 95 = .ok (.iconst 1, 1) := by decide +kernel
theorem d_Po_finish_96 : decode b_Po_finish 96 = .ok (.isub, 1) := by decide +kernel
theorem d_Po_finish_97 : decode b_Po_finish 97 = .ok (.aload_n 0, 1) := by decide +kernel
theorem d_Po_finish_98 : decode b_Po_finish 98 = .ok (.getfield 33, 3) := by decide +kernel
theorem d_Po_finish_101 : decode b_Po_finish 101 = .ok (.iastore, 1) := by decide +kernel
theorem d_Po_finish_102 : decode b_Po_finish 102 = .ok (.aload_n 0, 1) := by decide +kernel
theorem d_Po_finish_103 : decode b_Po_finish 103 = .ok (.aload_n 0, 1) := by decide +kernel
theorem d_Po_finish_104 : decode b_Po_finish 104 = .ok (.getfield 22, 3) := by decide +kernel
theorem d_Po_finish_107 : decode b_Po_finish 107 = .ok (.putfield 33, 3) := by decide +kernel
theorem d_Po_finish_110 : decode b_Po_finish 110 = .ok (.aload_n 0, 1) := by decide +kernel
theorem d_Po_finish_111 : decode b_Po_finish 111 = .ok (.dup, 1) := by decide +kernel
theorem d_Po_finish_112 : decode b_Po_finish 112 = .ok (.getfield 36, 3) := by decide +kernel
theorem d_Po_finish_115 : decode b_Po_finish 115 = .ok (.iconst 1, 1) := by decide +kernel
theorem d_Po_finish_116 : decode b_Po_finish 116 = .ok (.iadd, 1) := by decide +kernel
theorem d_Po_finish_117 : decode b_Po_finish 117 = .ok (.putfield 36, 3) := by decide +kernel
theorem d_Po_finish_120 : decode b_Po_finish 120 = .ok (.return_, 1) := by decide +kernel
theorem d_Fl_addOutline_0 : decode b_Fl_addOutline 0 = .ok (.aload_n 1, 1) := by decide +kernel
theorem d_Fl_addOutline_1 : decode b_Fl_addOutline 1 = .ok (.iload_n 2, 1) := by decide +kernel
theorem d_Fl_addOutline_2 : decode b_Fl_addOutline 2 = .ok (.invokevirtual 79, 3) := by decide +kernel
theorem d_Fl_addOutline_5 : decode b_Fl_addOutline 5 = .ok (.istore 5, 2) := by decide +kernel
theorem d_Fl_addOutline_7 : decode b_Fl_addOutline 7 = .ok (.aload_n 1, 1) := by decide +kernel
theorem d_Fl_addOutline_8 : decode b_Fl_addOutline 8 = .ok (.iload_n 2, 1) := by decide +kernel
theorem d_Fl_addOutline_9 : decode b_Fl_addOutline 9 = .ok (.invokevirtual 83, 3) := by decide +kernel
theorem d_Fl_addOutline_12 : decode b_Fl_addOutline 12 = .ok (.istore 6, 2) := by decide +kernel
theorem d_Fl_addOutline_14 : decode b_Fl_addOutline 14 = .ok (.iload 5, 2) := by decide +kernel
theorem d_Fl_addOutline_16 : decode b_Fl_addOutline 16 = .ok (.istore 7, 2) := by decide +kernel
theorem d_Fl_addOutline_18 : decode b_Fl_addOutline 18 = .ok (.iload 7, 2) := by decide +kernel
theorem d_Fl_addOutline_20 : decode b_Fl_addOutline 20 = .ok (.iload 6, 2) := by decide +kernel
theorem d_Fl_addOutline_22 : decode b_Fl_addOutline 22 = .ok (.if_icmp .ge 17, 3) := by decide +kernel
theorem d_Fl_addOutline_25 : decode b_Fl_addOutline 25 = .ok (.aload_n 0, 1) := by decide +kernel
theorem d_Fl_addOutline_26 : decode b_Fl_addOutline 26 = .ok (.aload_n 1, 1) := by decide +kernel
theorem d_Fl_addOutline_27 : decode b_Fl_addOutline 27 = .ok (.iload 7, 2) := by decide +kernel
theorem d_Fl_addOutline_29 : decode b_Fl_addOutline 29 = .ok (.iload_n 3, 1) := by decide +kernel
theorem d_Fl_addOutline_30 : decode b_Fl_addOutline 30 = .ok (.invokevirtual 86, 3) := by decide +kernel
theorem d_Fl_addOutline_33 : decode b_Fl_addOutline 33 = .ok (.iinc 7 1, 3) := by decide +kernel
theorem d_Fl_addOutline_36 : decode b_Fl_addOutline 36 = .ok (.goto (-18), 3) := by decide +kernel
theorem d_Fl_addOutline_39 : decode b_Fl_addOutline 39 = .ok (.aload 4, 2) := by decide +kernel
theorem d_Fl_addOutline_41 : decode b_Fl_addOutline 41 = .ok (.aload_n 0, 1) := by decide +kernel
theorem d_Fl_addOutline_42 : decode b_Fl_addOutline 42 = .ok (.getfield 18, 3) := by decide +kernel
theorem d_Fl_addOutline_45 : decode b_Fl_addOutline 45 = .ok (.iload 5, 2) := by decide +kernel
theorem d_Fl_addOutline_47 : decode b_Fl_addOutline 47 = .ok (.laload, 1) := by decide +kernel
theorem d_Fl_addOutline_48 : decode b_Fl_addOutline 48 = .ok (.aload_n 0, 1) := by decide +kernel
theorem d_Fl_addOutline_49 : decode b_Fl_addOutline 49 = .ok (.getfield 21, 3) := by decide +kernel
theorem d_Fl_addOutline_52 : decode b_Fl_addOutline 52 = .ok (.iload 5, 2) := by decide +kernel
theorem d_Fl_addOutline_54 : decode b_Fl_addOutline 54 = .ok (.laload, 1) := by decide +kernel
theorem d_Fl_addOutline_55 : decode b_Fl_addOutline 55 = .ok (.invokevirtual 90, 3) := by decide +kernel
theorem d_Fl_addOutline_58 : decode b_Fl_addOutline 58 = .ok (.iload 5, 2) := by decide +kernel
theorem d_Fl_addOutline_60 : decode b_Fl_addOutline 60 = .ok (.istore 7, 2) := by decide +kernel
theorem d_Fl_addOutline_62 : decode b_Fl_addOutline 62 = .ok (.iload 7, 2) := by decide +kernel
theorem d_Fl_addOutline_64 : decode b_Fl_addOutline 64 = .ok (.iload 6, 2) := by decide +kernel
theorem d_Fl_addOutline_66 : decode b_Fl_addOutline 66 = .ok (.if_icmp .ge 136, 3) := by decide +kernel
theorem d_Fl_addOutline_69 : decode b_Fl_addOutline 69 = .ok (.aload 4, 2) := by decide +kernel
theorem d_Fl_addOutline_71 : decode b_Fl_addOutline 71 = .ok (.getfield 49, 3) := by decide +kernel
theorem d_Fl_addOutline_74 : decode b_Fl_addOutline 74 = .ok (.ifCond .eq 128, 3) := by decide +kernel
theorem d_Fl_addOutline_77 : decode b_Fl_addOutline 77 = .ok (.aload_n 0, 1) := by decide +kernel
theorem d_Fl_addOutline_78 : decode b_Fl_addOutline 78 = .ok (.iload 7, 2) := by decide +kernel
theorem d_Fl_addOutline_80 : decode b_Fl_addOutline 80 = .ok (.iconst 1, 1) := by decide +kernel
theorem d_Fl_addOutline_81 : decode b_Fl_addOutline 81 = .ok (.iadd, 1) := by decide +kernel
theorem d_Fl_addOutline_82 : decode b_Fl_addOutline 82 = .ok (.iload 6, 2) := by decide +kernel
theorem d_Fl_addOutline_84 : decode b_Fl_addOutline 84 = .ok (.if_icmp .ge 17, 3) := by decide +kernel
theorem d_Fl_addOutline_87 : decode b_Fl_addOutline 87 = .ok (.aload_n 1, 1) := by decide +kernel
theorem d_Fl_addOutline_88 : decode b_Fl_addOutline 88 = .ok (.getfield 94, 3) := by decide +kernel
theorem d_Fl_addOutline_91 : decode b_Fl_addOutline 91 = .ok (.iload 7, 2) := by decide +kernel
theorem d_Fl_addOutline_93 : decode b_Fl_addOutline 93 = .ok (.iconst 1, 1) := by decide +kernel
theorem d_Fl_addOutline_94 : decode b_Fl_addOutline 94 = .ok (.iadd, 1) := by decide +kernel
theorem d_Fl_addOutline_95 : decode b_Fl_addOutline 95 = .ok (.iaload, 1) := by decide +kernel
theorem d_Fl_addOutline_96 : decode b_Fl_addOutline 96 = .ok (.iconst 1, 1) := by decide +kernel
theorem d_Fl_addOutline_97 : decode b_Fl_addOutline 97 = .ok (.iadd, 1) := by decide +kernel
theorem d_Fl_addOutline_98 : decode b_Fl_addOutline 98 = .ok (.goto 4, 3) := by decide +kernel
theorem d_Fl_addOutline_101 : decode b_Fl_addOutline 101 = .ok (.iconst 1, 1) := by decide +kernel
theorem d_Fl_addOutline_102 : decode b_Fl_addOutline 102 = .ok (.putfield 98, 3) := by decide +kernel
theorem d_Fl_addOutline_105 : decode b_Fl_addOutline 105 = .ok (.iconst 0, 1) := by decide +kernel
theorem d_Fl_addOutline_106 : decode b_Fl_addOutline 106 = .ok (.istore 8, 2) := by decide +kernel
theorem d_Fl_addOutline_108 : decode b_Fl_addOutline 108 = .ok (.iload 8, 2) := by decide +kernel
theorem d_Fl_addOutline_110 : decode b_Fl_addOutline 110 = .ok (.aload_n 0, 1) := by decide +kernel
theorem d_Fl_addOutline_111 : decode b_Fl_addOutline 111 = .ok (.getfield 98, 3) := by decide +kernel
theorem d_Fl_addOutline_114 : decode b_Fl_addOutline 114 = .ok (.if_icmp .gt 65, 3) := by decide +kernel
theorem d_Fl_addOutline_117 : decode b_Fl_addOutline 117 = .ok (.iload 7, 2) := by decide +kernel
theorem d_Fl_addOutline_119 : decode b_Fl_addOutline 119 = .ok (.iload 8, 2) := by decide +kernel
theorem d_Fl_addOutline_121 : decode b_Fl_addOutline 121 = .ok (.iadd, 1) := by decide +kernel
theorem d_Fl_addOutline_122 : decode b_Fl_addOutline 122 = .ok (.iload 6, 2) := by decide +kernel
theorem d_Fl_addOutline_124 : decode b_Fl_addOutline 124 = .ok (.if_icmp .ge 11, 3) := by decide +kernel
theorem d_Fl_addOutline_127 : decode b_Fl_addOutline 127 = .ok (.iload 7, 2) := by decide +kernel
theorem d_Fl_addOutline_129 : decode b_Fl_addOutline 129 = .ok (.iload 8, 2) := by decide +kernel
theorem d_Fl_addOutline_131 : decode b_Fl_addOutline 131 = .ok (.iadd, 1) := by decide +kernel
theorem d_Fl_addOutline_132 : decode b_Fl_addOutline 132 = .ok (.goto 5, 3) := by decide +kernel
theorem d_Fl_addOutline_135 : decode b_Fl_addOutline 135 = .ok (.iload 5, 2) := by decide +kernel
theorem d_Fl_addOutline_137 : decode b_Fl_addOutline 137 = .ok (.istore 9, 2) := by decide +kernel
theorem d_Fl_addOutline_139 : decode b_Fl_addOutline 139 = .ok (.aload_n 0, 1) := by decide +kernel
theorem d_Fl_addOutline_140 : decode b_Fl_addOutline 140 = .ok (.getfield 11, 3) := by decide +kernel
theorem d_Fl_addOutline_143 : decode b_Fl_addOutline 143 = .ok (.iload 8, 2) := by decide +kernel
theorem d_Fl_addOutline_145 : decode b_Fl_addOutline 145 = .ok (.aload_n 0, 1) := by decide +kernel
theorem d_Fl_addOutline_146 : decode b_Fl_addOutline 146 = .ok (.getfield 18, 3) := by decide +kernel
theorem d_Fl_addOutline_149 : decode b_Fl_addOutline 149 = .ok (.iload 9, 2) := by decide +kernel
theorem d_Fl_addOutline_151 : decode b_Fl_addOutline 151 = .ok (.laload, 1) := by decide +kernel
theorem d_Fl_addOutline_152 : decode b_Fl_addOutline 152 = .ok (.bipush 30, 2) := by decide +kernel
theorem d_Fl_addOutline_154 : decode b_Fl_addOutline 154 = .ok (.lshl, 1) := by decide +kernel
theorem d_Fl_addOutline_155 : decode b_Fl_addOutline 155 = .ok (.lastore, 1) := by decide +kernel
theorem d_Fl_addOutline_156 : decode b_Fl_addOutline 156 = .ok (.aload_n 0, 1) := by decide +kernel
theorem d_Fl_addOutline_157 : decode b_Fl_addOutline 157 = .ok (.getfield 15, 3) := by decide +kernel
theorem d_Fl_addOutline_160 : decode b_Fl_addOutline 160 = .ok (.iload 8, 2) := by decide +kernel
theorem d_Fl_addOutline_162 : decode b_Fl_addOutline 162 = .ok (.aload_n 0, 1) := by decide +kernel
theorem d_Fl_addOutline_163 : decode b_Fl_addOutline 163 = .ok (.getfield 21, 3) := by decide +kernel
theorem d_Fl_addOutline_166 : decode b_Fl_addOutline 166 = .ok (.iload 9, 2) := by decide +kernel
theorem d_Fl_addOutline_168 : decode b_Fl_addOutline 168 = .ok (.laload, 1) := by decide +kernel
theorem d_Fl_addOutline_169 : decode b_Fl_addOutline 169 = .ok (.bipush 30, 2) := by decide +kernel
theorem d_Fl_addOutline_171 : decode b_Fl_addOutline 171 = .ok (.lshl, 1) := by decide +kernel
theorem d_Fl_addOutline_172 : decode b_Fl_addOutline 172 = .ok (.lastore, 1) := by decide +kernel
