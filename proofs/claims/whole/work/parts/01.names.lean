-- ===== PART A: goes FIRST, ahead of the names: the tables' words, and 'selects' of the private methods out of them =====
/-- a private method of a class that the tables say can be made, by its rows of tables_1 -/
def lw_okq (q : MethodName × Nat) : Prop := (q.1.cls ≠ "java/lang/invoke/MethodHandle" ∧ q.1.cls ≠ "java/lang/invoke/VarHandle") ∧ Cond.instantiable q.1.cls q.2 ∈ tables_1 ∧ Cond.privateMethod q.1 ∈ tables_1 ∧ Cond.instanceMethod q.1 ∈ tables_1
theorem lw_p0 : lw_okq (⟨"LetterFoundry", "letterOf", "(I)LLetterFoundry$Letter;"⟩, 12) := ⟨⟨by decide +kernel, by decide +kernel⟩, List.mem_of_getElem? (i := 18) (by decide +kernel), List.mem_of_getElem? (i := 435) (by decide +kernel), List.mem_of_getElem? (i := 436) (by decide +kernel)⟩
theorem lw_p1 : lw_okq (⟨"LetterFoundry$Shape", "firstBad", "()I"⟩, 9) := ⟨⟨by decide +kernel, by decide +kernel⟩, List.mem_of_getElem? (i := 316) (by decide +kernel), List.mem_of_getElem? (i := 478) (by decide +kernel), List.mem_of_getElem? (i := 479) (by decide +kernel)⟩
theorem lw_p2 : lw_okq (⟨"LetterFoundry$Shape", "exchange", "(II)V"⟩, 9) := ⟨⟨by decide +kernel, by decide +kernel⟩, List.mem_of_getElem? (i := 316) (by decide +kernel), List.mem_of_getElem? (i := 517) (by decide +kernel), List.mem_of_getElem? (i := 518) (by decide +kernel)⟩
theorem lw_p3 : lw_okq (⟨"LetterFoundry$Flattener", "addLetter", "(LLetterFoundry$Letter;ILLetterFoundry$Polygons;)V"⟩, 7) := ⟨⟨by decide +kernel, by decide +kernel⟩, List.mem_of_getElem? (i := 28) (by decide +kernel), List.mem_of_getElem? (i := 611) (by decide +kernel), List.mem_of_getElem? (i := 612) (by decide +kernel)⟩
theorem lw_p4 : lw_okq (⟨"LetterFoundry$Flattener", "addOutline", "(LLetterFoundry$Shape;IILLetterFoundry$Polygons;)V"⟩, 7) := ⟨⟨by decide +kernel, by decide +kernel⟩, List.mem_of_getElem? (i := 28) (by decide +kernel), List.mem_of_getElem? (i := 615) (by decide +kernel), List.mem_of_getElem? (i := 616) (by decide +kernel)⟩
theorem lw_p5 : lw_okq (⟨"LetterFoundry$Flattener", "place", "(LLetterFoundry$Shape;II)V"⟩, 7) := ⟨⟨by decide +kernel, by decide +kernel⟩, List.mem_of_getElem? (i := 28) (by decide +kernel), List.mem_of_getElem? (i := 621) (by decide +kernel), List.mem_of_getElem? (i := 622) (by decide +kernel)⟩
theorem lw_p6 : lw_okq (⟨"LetterFoundry$Polygons", "isLast", "(JJ)Z"⟩, 9) := ⟨⟨by decide +kernel, by decide +kernel⟩, List.mem_of_getElem? (i := 59) (by decide +kernel), List.mem_of_getElem? (i := 653) (by decide +kernel), List.mem_of_getElem? (i := 654) (by decide +kernel)⟩
theorem lw_p7 : lw_okq (⟨"LetterFoundry$Flattener", "addPiece", "(ILLetterFoundry$Polygons;)V"⟩, 7) := ⟨⟨by decide +kernel, by decide +kernel⟩, List.mem_of_getElem? (i := 28) (by decide +kernel), List.mem_of_getElem? (i := 657) (by decide +kernel), List.mem_of_getElem? (i := 658) (by decide +kernel)⟩
theorem lw_p8 : lw_okq (⟨"LetterFoundry$Flattener", "isFlat", "(I)Z"⟩, 7) := ⟨⟨by decide +kernel, by decide +kernel⟩, List.mem_of_getElem? (i := 28) (by decide +kernel), List.mem_of_getElem? (i := 661) (by decide +kernel), List.mem_of_getElem? (i := 662) (by decide +kernel)⟩
theorem lw_p9 : lw_okq (⟨"LetterFoundry$Flattener", "firstHalf", "([JI)V"⟩, 7) := ⟨⟨by decide +kernel, by decide +kernel⟩, List.mem_of_getElem? (i := 28) (by decide +kernel), List.mem_of_getElem? (i := 672) (by decide +kernel), List.mem_of_getElem? (i := 673) (by decide +kernel)⟩
theorem lw_p10 : lw_okq (⟨"LetterFoundry$Flattener", "secondHalf", "([JI)V"⟩, 7) := ⟨⟨by decide +kernel, by decide +kernel⟩, List.mem_of_getElem? (i := 28) (by decide +kernel), List.mem_of_getElem? (i := 679) (by decide +kernel), List.mem_of_getElem? (i := 680) (by decide +kernel)⟩
theorem lw_p11 : lw_okq (⟨"LetterFoundry", "takeSparePolygons", "()V"⟩, 12) := ⟨⟨by decide +kernel, by decide +kernel⟩, List.mem_of_getElem? (i := 18) (by decide +kernel), List.mem_of_getElem? (i := 688) (by decide +kernel), List.mem_of_getElem? (i := 689) (by decide +kernel)⟩
theorem lw_p12 : lw_okq (⟨"LetterFoundry$Polygons", "parts", "(IIII)Z"⟩, 9) := ⟨⟨by decide +kernel, by decide +kernel⟩, List.mem_of_getElem? (i := 59) (by decide +kernel), List.mem_of_getElem? (i := 724) (by decide +kernel), List.mem_of_getElem? (i := 725) (by decide +kernel)⟩
theorem lw_p13 : lw_okq (⟨"LetterFoundry$Polygons", "side", "(III)J"⟩, 9) := ⟨⟨by decide +kernel, by decide +kernel⟩, List.mem_of_getElem? (i := 59) (by decide +kernel), List.mem_of_getElem? (i := 728) (by decide +kernel), List.mem_of_getElem? (i := 729) (by decide +kernel)⟩
theorem lw_p14 : lw_okq (⟨"LetterFoundry$Image", "markRow", "(LLetterFoundry$Polygons;II)V"⟩, 9) := ⟨⟨by decide +kernel, by decide +kernel⟩, List.mem_of_getElem? (i := 103) (by decide +kernel), List.mem_of_getElem? (i := 753) (by decide +kernel), List.mem_of_getElem? (i := 754) (by decide +kernel)⟩
theorem lw_p15 : lw_okq (⟨"LetterFoundry$Image", "mark", "(II)V"⟩, 9) := ⟨⟨by decide +kernel, by decide +kernel⟩, List.mem_of_getElem? (i := 103) (by decide +kernel), List.mem_of_getElem? (i := 770) (by decide +kernel), List.mem_of_getElem? (i := 771) (by decide +kernel)⟩
def lw_privs_1 : List (MethodName × Nat) := [(⟨"LetterFoundry", "letterOf", "(I)LLetterFoundry$Letter;"⟩, 12), (⟨"LetterFoundry$Shape", "firstBad", "()I"⟩, 9), (⟨"LetterFoundry$Shape", "exchange", "(II)V"⟩, 9), (⟨"LetterFoundry$Flattener", "addLetter", "(LLetterFoundry$Letter;ILLetterFoundry$Polygons;)V"⟩, 7), (⟨"LetterFoundry$Flattener", "addOutline", "(LLetterFoundry$Shape;IILLetterFoundry$Polygons;)V"⟩, 7), (⟨"LetterFoundry$Flattener", "place", "(LLetterFoundry$Shape;II)V"⟩, 7), (⟨"LetterFoundry$Polygons", "isLast", "(JJ)Z"⟩, 9), (⟨"LetterFoundry$Flattener", "addPiece", "(ILLetterFoundry$Polygons;)V"⟩, 7), (⟨"LetterFoundry$Flattener", "isFlat", "(I)Z"⟩, 7), (⟨"LetterFoundry$Flattener", "firstHalf", "([JI)V"⟩, 7), (⟨"LetterFoundry$Flattener", "secondHalf", "([JI)V"⟩, 7), (⟨"LetterFoundry", "takeSparePolygons", "()V"⟩, 12), (⟨"LetterFoundry$Polygons", "parts", "(IIII)Z"⟩, 9), (⟨"LetterFoundry$Polygons", "side", "(III)J"⟩, 9), (⟨"LetterFoundry$Image", "markRow", "(LLetterFoundry$Polygons;II)V"⟩, 9), (⟨"LetterFoundry$Image", "mark", "(II)V"⟩, 9)]
theorem lw_r1 : ∀ q ∈ lw_privs_1, lw_okq q := List.forall_mem_cons.mpr ⟨lw_p0, List.forall_mem_cons.mpr ⟨lw_p1, List.forall_mem_cons.mpr ⟨lw_p2, List.forall_mem_cons.mpr ⟨lw_p3, List.forall_mem_cons.mpr ⟨lw_p4, List.forall_mem_cons.mpr ⟨lw_p5, List.forall_mem_cons.mpr ⟨lw_p6, List.forall_mem_cons.mpr ⟨lw_p7, List.forall_mem_cons.mpr ⟨lw_p8, List.forall_mem_cons.mpr ⟨lw_p9, List.forall_mem_cons.mpr ⟨lw_p10, List.forall_mem_cons.mpr ⟨lw_p11, List.forall_mem_cons.mpr ⟨lw_p12, List.forall_mem_cons.mpr ⟨lw_p13, List.forall_mem_cons.mpr ⟨lw_p14, List.forall_mem_cons.mpr ⟨lw_p15, fun _ h => absurd h List.not_mem_nil⟩⟩⟩⟩⟩⟩⟩⟩⟩⟩⟩⟩⟩⟩⟩⟩
theorem lw_p16 : lw_okq (⟨"LetterFoundry$Image", "countRow", "(II)V"⟩, 9) := ⟨⟨by decide +kernel, by decide +kernel⟩, List.mem_of_getElem? (i := 103) (by decide +kernel), List.mem_of_getElem? (i := 778) (by decide +kernel), List.mem_of_getElem? (i := 779) (by decide +kernel)⟩
theorem lw_p17 : lw_okq (⟨"LetterFoundry$Image", "measure", "()V"⟩, 9) := ⟨⟨by decide +kernel, by decide +kernel⟩, List.mem_of_getElem? (i := 103) (by decide +kernel), List.mem_of_getElem? (i := 782) (by decide +kernel), List.mem_of_getElem? (i := 783) (by decide +kernel)⟩
theorem lw_p18 : lw_okq (⟨"LetterFoundry$Runner", "step", "(LLetterFoundry$Program;LLetterFoundry$Fitting;)I"⟩, 6) := ⟨⟨by decide +kernel, by decide +kernel⟩, List.mem_of_getElem? (i := 138) (by decide +kernel), List.mem_of_getElem? (i := 843) (by decide +kernel), List.mem_of_getElem? (i := 844) (by decide +kernel)⟩
theorem lw_p19 : lw_okq (⟨"LetterFoundry$Runner", "faultAhead", "(IIILLetterFoundry$Fitting;)I"⟩, 6) := ⟨⟨by decide +kernel, by decide +kernel⟩, List.mem_of_getElem? (i := 138) (by decide +kernel), List.mem_of_getElem? (i := 847) (by decide +kernel), List.mem_of_getElem? (i := 848) (by decide +kernel)⟩
theorem lw_p20 : lw_okq (⟨"LetterFoundry$Runner", "carry", "(II)V"⟩, 6) := ⟨⟨by decide +kernel, by decide +kernel⟩, List.mem_of_getElem? (i := 138) (by decide +kernel), List.mem_of_getElem? (i := 866) (by decide +kernel), List.mem_of_getElem? (i := 867) (by decide +kernel)⟩
theorem lw_p21 : lw_okq (⟨"LetterFoundry$Runner", "push", "(I)V"⟩, 6) := ⟨⟨by decide +kernel, by decide +kernel⟩, List.mem_of_getElem? (i := 138) (by decide +kernel), List.mem_of_getElem? (i := 870) (by decide +kernel), List.mem_of_getElem? (i := 871) (by decide +kernel)⟩
theorem lw_p22 : lw_okq (⟨"LetterFoundry$Runner", "pop", "()I"⟩, 6) := ⟨⟨by decide +kernel, by decide +kernel⟩, List.mem_of_getElem? (i := 138) (by decide +kernel), List.mem_of_getElem? (i := 874) (by decide +kernel), List.mem_of_getElem? (i := 875) (by decide +kernel)⟩
theorem lw_p23 : lw_okq (⟨"LetterFoundry$Runner", "changeTwo", "()V"⟩, 6) := ⟨⟨by decide +kernel, by decide +kernel⟩, List.mem_of_getElem? (i := 138) (by decide +kernel), List.mem_of_getElem? (i := 878) (by decide +kernel), List.mem_of_getElem? (i := 879) (by decide +kernel)⟩
theorem lw_p24 : lw_okq (⟨"LetterFoundry$Runner", "pushNumber", "(J)I"⟩, 6) := ⟨⟨by decide +kernel, by decide +kernel⟩, List.mem_of_getElem? (i := 138) (by decide +kernel), List.mem_of_getElem? (i := 892) (by decide +kernel), List.mem_of_getElem? (i := 893) (by decide +kernel)⟩
theorem lw_p25 : lw_okq (⟨"LetterFoundry$Runner", "reckonTwo", "(I)I"⟩, 6) := ⟨⟨by decide +kernel, by decide +kernel⟩, List.mem_of_getElem? (i := 138) (by decide +kernel), List.mem_of_getElem? (i := 898) (by decide +kernel), List.mem_of_getElem? (i := 899) (by decide +kernel)⟩
theorem lw_p26 : lw_okq (⟨"LetterFoundry$Runner", "go", "(III)V"⟩, 6) := ⟨⟨by decide +kernel, by decide +kernel⟩, List.mem_of_getElem? (i := 138) (by decide +kernel), List.mem_of_getElem? (i := 907) (by decide +kernel), List.mem_of_getElem? (i := 908) (by decide +kernel)⟩
theorem lw_p27 : lw_okq (⟨"LetterFoundry$Runner", "usePoint", "(IILLetterFoundry$Fitting;)V"⟩, 6) := ⟨⟨by decide +kernel, by decide +kernel⟩, List.mem_of_getElem? (i := 138) (by decide +kernel), List.mem_of_getElem? (i := 911) (by decide +kernel), List.mem_of_getElem? (i := 912) (by decide +kernel)⟩
theorem lw_p28 : lw_okq (⟨"LetterFoundry$Fitting", "fitOutline", "(III)Z"⟩, 6) := ⟨⟨by decide +kernel, by decide +kernel⟩, List.mem_of_getElem? (i := 163) (by decide +kernel), List.mem_of_getElem? (i := 923) (by decide +kernel), List.mem_of_getElem? (i := 924) (by decide +kernel)⟩
theorem lw_p29 : lw_okq (⟨"LetterFoundry$Fitting", "touchedBehind", "(IIII)I"⟩, 6) := ⟨⟨by decide +kernel, by decide +kernel⟩, List.mem_of_getElem? (i := 163) (by decide +kernel), List.mem_of_getElem? (i := 927) (by decide +kernel), List.mem_of_getElem? (i := 928) (by decide +kernel)⟩
theorem lw_p30 : lw_okq (⟨"LetterFoundry$Fitting", "placeBetween", "(IIIJ)J"⟩, 6) := ⟨⟨by decide +kernel, by decide +kernel⟩, List.mem_of_getElem? (i := 163) (by decide +kernel), List.mem_of_getElem? (i := 931) (by decide +kernel), List.mem_of_getElem? (i := 932) (by decide +kernel)⟩
theorem lw_p31 : lw_okq (⟨"LetterFoundry", "weighed", "([[II)I"⟩, 12) := ⟨⟨by decide +kernel, by decide +kernel⟩, List.mem_of_getElem? (i := 18) (by decide +kernel), List.mem_of_getElem? (i := 965) (by decide +kernel), List.mem_of_getElem? (i := 966) (by decide +kernel)⟩
def lw_privs_2 : List (MethodName × Nat) := [(⟨"LetterFoundry$Image", "countRow", "(II)V"⟩, 9), (⟨"LetterFoundry$Image", "measure", "()V"⟩, 9), (⟨"LetterFoundry$Runner", "step", "(LLetterFoundry$Program;LLetterFoundry$Fitting;)I"⟩, 6), (⟨"LetterFoundry$Runner", "faultAhead", "(IIILLetterFoundry$Fitting;)I"⟩, 6), (⟨"LetterFoundry$Runner", "carry", "(II)V"⟩, 6), (⟨"LetterFoundry$Runner", "push", "(I)V"⟩, 6), (⟨"LetterFoundry$Runner", "pop", "()I"⟩, 6), (⟨"LetterFoundry$Runner", "changeTwo", "()V"⟩, 6), (⟨"LetterFoundry$Runner", "pushNumber", "(J)I"⟩, 6), (⟨"LetterFoundry$Runner", "reckonTwo", "(I)I"⟩, 6), (⟨"LetterFoundry$Runner", "go", "(III)V"⟩, 6), (⟨"LetterFoundry$Runner", "usePoint", "(IILLetterFoundry$Fitting;)V"⟩, 6), (⟨"LetterFoundry$Fitting", "fitOutline", "(III)Z"⟩, 6), (⟨"LetterFoundry$Fitting", "touchedBehind", "(IIII)I"⟩, 6), (⟨"LetterFoundry$Fitting", "placeBetween", "(IIIJ)J"⟩, 6), (⟨"LetterFoundry", "weighed", "([[II)I"⟩, 12)]
theorem lw_r2 : ∀ q ∈ lw_privs_2, lw_okq q := List.forall_mem_cons.mpr ⟨lw_p16, List.forall_mem_cons.mpr ⟨lw_p17, List.forall_mem_cons.mpr ⟨lw_p18, List.forall_mem_cons.mpr ⟨lw_p19, List.forall_mem_cons.mpr ⟨lw_p20, List.forall_mem_cons.mpr ⟨lw_p21, List.forall_mem_cons.mpr ⟨lw_p22, List.forall_mem_cons.mpr ⟨lw_p23, List.forall_mem_cons.mpr ⟨lw_p24, List.forall_mem_cons.mpr ⟨lw_p25, List.forall_mem_cons.mpr ⟨lw_p26, List.forall_mem_cons.mpr ⟨lw_p27, List.forall_mem_cons.mpr ⟨lw_p28, List.forall_mem_cons.mpr ⟨lw_p29, List.forall_mem_cons.mpr ⟨lw_p30, List.forall_mem_cons.mpr ⟨lw_p31, fun _ h => absurd h List.not_mem_nil⟩⟩⟩⟩⟩⟩⟩⟩⟩⟩⟩⟩⟩⟩⟩⟩
theorem lw_p32 : lw_okq (⟨"LetterFoundry$Line", "ruleAt", "(I)I"⟩, 10) := ⟨⟨by decide +kernel, by decide +kernel⟩, List.mem_of_getElem? (i := 212) (by decide +kernel), List.mem_of_getElem? (i := 1020) (by decide +kernel), List.mem_of_getElem? (i := 1021) (by decide +kernel)⟩
theorem lw_p33 : lw_okq (⟨"LetterFoundry$Line", "sizeOf", "(I)I"⟩, 10) := ⟨⟨by decide +kernel, by decide +kernel⟩, List.mem_of_getElem? (i := 212) (by decide +kernel), List.mem_of_getElem? (i := 1024) (by decide +kernel), List.mem_of_getElem? (i := 1025) (by decide +kernel)⟩
theorem lw_p34 : lw_okq (⟨"LetterFoundry$Line", "fitsAt", "(II)Z"⟩, 10) := ⟨⟨by decide +kernel, by decide +kernel⟩, List.mem_of_getElem? (i := 212) (by decide +kernel), List.mem_of_getElem? (i := 1028) (by decide +kernel), List.mem_of_getElem? (i := 1029) (by decide +kernel)⟩
theorem lw_p35 : lw_okq (⟨"LetterFoundry$Line", "place", "([LLetterFoundry$Letter;IILLetterFoundry$Kerning;)V"⟩, 10) := ⟨⟨by decide +kernel, by decide +kernel⟩, List.mem_of_getElem? (i := 212) (by decide +kernel), List.mem_of_getElem? (i := 1033) (by decide +kernel), List.mem_of_getElem? (i := 1034) (by decide +kernel)⟩
theorem lw_p36 : lw_okq (⟨"LetterFoundryModel", "isLetter", "(I)Z"⟩, 72) := ⟨⟨by decide +kernel, by decide +kernel⟩, List.mem_of_getElem? (i := 1046) (by decide +kernel), List.mem_of_getElem? (i := 1286) (by decide +kernel), List.mem_of_getElem? (i := 1287) (by decide +kernel)⟩
theorem lw_p37 : lw_okq (⟨"LetterFoundryModel", "closed", "(I)I"⟩, 72) := ⟨⟨by decide +kernel, by decide +kernel⟩, List.mem_of_getElem? (i := 1046) (by decide +kernel), List.mem_of_getElem? (i := 1297) (by decide +kernel), List.mem_of_getElem? (i := 1298) (by decide +kernel)⟩
theorem lw_p38 : lw_okq (⟨"LetterFoundryModel", "bad", "(I)I"⟩, 72) := ⟨⟨by decide +kernel, by decide +kernel⟩, List.mem_of_getElem? (i := 1046) (by decide +kernel), List.mem_of_getElem? (i := 1305) (by decide +kernel), List.mem_of_getElem? (i := 1306) (by decide +kernel)⟩
theorem lw_p39 : lw_okq (⟨"LetterFoundryModel", "isPoint", "(II)Z"⟩, 72) := ⟨⟨by decide +kernel, by decide +kernel⟩, List.mem_of_getElem? (i := 1046) (by decide +kernel), List.mem_of_getElem? (i := 1317) (by decide +kernel), List.mem_of_getElem? (i := 1318) (by decide +kernel)⟩
theorem lw_p40 : lw_okq (⟨"LetterFoundryModel", "beginOf", "(II)I"⟩, 72) := ⟨⟨by decide +kernel, by decide +kernel⟩, List.mem_of_getElem? (i := 1046) (by decide +kernel), List.mem_of_getElem? (i := 1325) (by decide +kernel), List.mem_of_getElem? (i := 1326) (by decide +kernel)⟩
theorem lw_p41 : lw_okq (⟨"LetterFoundryModel", "swap", "([III)V"⟩, 72) := ⟨⟨by decide +kernel, by decide +kernel⟩, List.mem_of_getElem? (i := 1046) (by decide +kernel), List.mem_of_getElem? (i := 1329) (by decide +kernel), List.mem_of_getElem? (i := 1330) (by decide +kernel)⟩
theorem lw_p42 : lw_okq (⟨"LetterFoundryModel", "depth", "(I)I"⟩, 72) := ⟨⟨by decide +kernel, by decide +kernel⟩, List.mem_of_getElem? (i := 1046) (by decide +kernel), List.mem_of_getElem? (i := 1337) (by decide +kernel), List.mem_of_getElem? (i := 1338) (by decide +kernel)⟩
theorem lw_p43 : lw_okq (⟨"LetterFoundryModel", "flattens", "(II)Z"⟩, 72) := ⟨⟨by decide +kernel, by decide +kernel⟩, List.mem_of_getElem? (i := 1046) (by decide +kernel), List.mem_of_getElem? (i := 1361) (by decide +kernel), List.mem_of_getElem? (i := 1362) (by decide +kernel)⟩
theorem lw_p44 : lw_okq (⟨"LetterFoundryModel", "outlineOf", "(IIII)V"⟩, 72) := ⟨⟨by decide +kernel, by decide +kernel⟩, List.mem_of_getElem? (i := 1046) (by decide +kernel), List.mem_of_getElem? (i := 1365) (by decide +kernel), List.mem_of_getElem? (i := 1366) (by decide +kernel)⟩
theorem lw_p45 : lw_okq (⟨"LetterFoundryModel", "adds", "(JJ)V"⟩, 72) := ⟨⟨by decide +kernel, by decide +kernel⟩, List.mem_of_getElem? (i := 1046) (by decide +kernel), List.mem_of_getElem? (i := 1374) (by decide +kernel), List.mem_of_getElem? (i := 1375) (by decide +kernel)⟩
theorem lw_p46 : lw_okq (⟨"LetterFoundryModel", "curve", "(IIII)V"⟩, 72) := ⟨⟨by decide +kernel, by decide +kernel⟩, List.mem_of_getElem? (i := 1046) (by decide +kernel), List.mem_of_getElem? (i := 1380) (by decide +kernel), List.mem_of_getElem? (i := 1381) (by decide +kernel)⟩
theorem lw_p47 : lw_okq (⟨"LetterFoundryModel", "isFlat", "(IIJ)Z"⟩, 72) := ⟨⟨by decide +kernel, by decide +kernel⟩, List.mem_of_getElem? (i := 1046) (by decide +kernel), List.mem_of_getElem? (i := 1386) (by decide +kernel), List.mem_of_getElem? (i := 1387) (by decide +kernel)⟩
def lw_privs_3 : List (MethodName × Nat) := [(⟨"LetterFoundry$Line", "ruleAt", "(I)I"⟩, 10), (⟨"LetterFoundry$Line", "sizeOf", "(I)I"⟩, 10), (⟨"LetterFoundry$Line", "fitsAt", "(II)Z"⟩, 10), (⟨"LetterFoundry$Line", "place", "([LLetterFoundry$Letter;IILLetterFoundry$Kerning;)V"⟩, 10), (⟨"LetterFoundryModel", "isLetter", "(I)Z"⟩, 72), (⟨"LetterFoundryModel", "closed", "(I)I"⟩, 72), (⟨"LetterFoundryModel", "bad", "(I)I"⟩, 72), (⟨"LetterFoundryModel", "isPoint", "(II)Z"⟩, 72), (⟨"LetterFoundryModel", "beginOf", "(II)I"⟩, 72), (⟨"LetterFoundryModel", "swap", "([III)V"⟩, 72), (⟨"LetterFoundryModel", "depth", "(I)I"⟩, 72), (⟨"LetterFoundryModel", "flattens", "(II)Z"⟩, 72), (⟨"LetterFoundryModel", "outlineOf", "(IIII)V"⟩, 72), (⟨"LetterFoundryModel", "adds", "(JJ)V"⟩, 72), (⟨"LetterFoundryModel", "curve", "(IIII)V"⟩, 72), (⟨"LetterFoundryModel", "isFlat", "(IIJ)Z"⟩, 72)]
theorem lw_r3 : ∀ q ∈ lw_privs_3, lw_okq q := List.forall_mem_cons.mpr ⟨lw_p32, List.forall_mem_cons.mpr ⟨lw_p33, List.forall_mem_cons.mpr ⟨lw_p34, List.forall_mem_cons.mpr ⟨lw_p35, List.forall_mem_cons.mpr ⟨lw_p36, List.forall_mem_cons.mpr ⟨lw_p37, List.forall_mem_cons.mpr ⟨lw_p38, List.forall_mem_cons.mpr ⟨lw_p39, List.forall_mem_cons.mpr ⟨lw_p40, List.forall_mem_cons.mpr ⟨lw_p41, List.forall_mem_cons.mpr ⟨lw_p42, List.forall_mem_cons.mpr ⟨lw_p43, List.forall_mem_cons.mpr ⟨lw_p44, List.forall_mem_cons.mpr ⟨lw_p45, List.forall_mem_cons.mpr ⟨lw_p46, List.forall_mem_cons.mpr ⟨lw_p47, fun _ h => absurd h List.not_mem_nil⟩⟩⟩⟩⟩⟩⟩⟩⟩⟩⟩⟩⟩⟩⟩⟩
theorem lw_p48 : lw_okq (⟨"LetterFoundryModel", "halves", "(I)V"⟩, 72) := ⟨⟨by decide +kernel, by decide +kernel⟩, List.mem_of_getElem? (i := 1046) (by decide +kernel), List.mem_of_getElem? (i := 1393) (by decide +kernel), List.mem_of_getElem? (i := 1394) (by decide +kernel)⟩
theorem lw_p49 : lw_okq (⟨"LetterFoundryModel", "told", "()V"⟩, 72) := ⟨⟨by decide +kernel, by decide +kernel⟩, List.mem_of_getElem? (i := 1046) (by decide +kernel), List.mem_of_getElem? (i := 1397) (by decide +kernel), List.mem_of_getElem? (i := 1398) (by decide +kernel)⟩
theorem lw_p50 : lw_okq (⟨"LetterFoundryModel", "next", "(I)I"⟩, 72) := ⟨⟨by decide +kernel, by decide +kernel⟩, List.mem_of_getElem? (i := 1046) (by decide +kernel), List.mem_of_getElem? (i := 1410) (by decide +kernel), List.mem_of_getElem? (i := 1411) (by decide +kernel)⟩
theorem lw_p51 : lw_okq (⟨"LetterFoundryModel", "sideOf", "(III)I"⟩, 72) := ⟨⟨by decide +kernel, by decide +kernel⟩, List.mem_of_getElem? (i := 1046) (by decide +kernel), List.mem_of_getElem? (i := 1425) (by decide +kernel), List.mem_of_getElem? (i := 1426) (by decide +kernel)⟩
theorem lw_p52 : lw_okq (⟨"LetterFoundryModel", "isImage", "(I)Z"⟩, 72) := ⟨⟨by decide +kernel, by decide +kernel⟩, List.mem_of_getElem? (i := 1046) (by decide +kernel), List.mem_of_getElem? (i := 1436) (by decide +kernel), List.mem_of_getElem? (i := 1437) (by decide +kernel)⟩
theorem lw_p53 : lw_okq (⟨"LetterFoundryModel", "steps", "(II)V"⟩, 72) := ⟨⟨by decide +kernel, by decide +kernel⟩, List.mem_of_getElem? (i := 1046) (by decide +kernel), List.mem_of_getElem? (i := 1441) (by decide +kernel), List.mem_of_getElem? (i := 1442) (by decide +kernel)⟩
theorem lw_p54 : lw_okq (⟨"LetterFoundryModel", "does", "(II)I"⟩, 72) := ⟨⟨by decide +kernel, by decide +kernel⟩, List.mem_of_getElem? (i := 1046) (by decide +kernel), List.mem_of_getElem? (i := 1473) (by decide +kernel), List.mem_of_getElem? (i := 1474) (by decide +kernel)⟩
theorem lw_p55 : lw_okq (⟨"LetterFoundryModel", "faultOf", "(III)I"⟩, 72) := ⟨⟨by decide +kernel, by decide +kernel⟩, List.mem_of_getElem? (i := 1046) (by decide +kernel), List.mem_of_getElem? (i := 1477) (by decide +kernel), List.mem_of_getElem? (i := 1478) (by decide +kernel)⟩
theorem lw_p56 : lw_okq (⟨"LetterFoundryModel", "pop", "()J"⟩, 72) := ⟨⟨by decide +kernel, by decide +kernel⟩, List.mem_of_getElem? (i := 1046) (by decide +kernel), List.mem_of_getElem? (i := 1490) (by decide +kernel), List.mem_of_getElem? (i := 1491) (by decide +kernel)⟩
theorem lw_p57 : lw_okq (⟨"LetterFoundryModel", "push", "(J)V"⟩, 72) := ⟨⟨by decide +kernel, by decide +kernel⟩, List.mem_of_getElem? (i := 1046) (by decide +kernel), List.mem_of_getElem? (i := 1497) (by decide +kernel), List.mem_of_getElem? (i := 1498) (by decide +kernel)⟩
theorem lw_p58 : lw_okq (⟨"LetterFoundryModel", "puts", "([J[ZIJ)V"⟩, 72) := ⟨⟨by decide +kernel, by decide +kernel⟩, List.mem_of_getElem? (i := 1046) (by decide +kernel), List.mem_of_getElem? (i := 1506) (by decide +kernel), List.mem_of_getElem? (i := 1507) (by decide +kernel)⟩
theorem lw_p59 : lw_okq (⟨"LetterFoundryModel", "fits", "(I[J[J[Z)V"⟩, 72) := ⟨⟨by decide +kernel, by decide +kernel⟩, List.mem_of_getElem? (i := 1046) (by decide +kernel), List.mem_of_getElem? (i := 1510) (by decide +kernel), List.mem_of_getElem? (i := 1511) (by decide +kernel)⟩
theorem lw_p60 : lw_okq (⟨"LetterFoundryModel", "ruleAt", "(I)I"⟩, 72) := ⟨⟨by decide +kernel, by decide +kernel⟩, List.mem_of_getElem? (i := 1046) (by decide +kernel), List.mem_of_getElem? (i := 1565) (by decide +kernel), List.mem_of_getElem? (i := 1566) (by decide +kernel)⟩
theorem lw_p61 : lw_okq (⟨"LetterFoundryModel", "manyOf", "(I)I"⟩, 72) := ⟨⟨by decide +kernel, by decide +kernel⟩, List.mem_of_getElem? (i := 1046) (by decide +kernel), List.mem_of_getElem? (i := 1569) (by decide +kernel), List.mem_of_getElem? (i := 1570) (by decide +kernel)⟩
theorem lw_p62 : lw_okq (⟨"LetterFoundryModel", "letterOf", "(I)I"⟩, 72) := ⟨⟨by decide +kernel, by decide +kernel⟩, List.mem_of_getElem? (i := 1046) (by decide +kernel), List.mem_of_getElem? (i := 1573) (by decide +kernel), List.mem_of_getElem? (i := 1574) (by decide +kernel)⟩
def lw_privs_4 : List (MethodName × Nat) := [(⟨"LetterFoundryModel", "halves", "(I)V"⟩, 72), (⟨"LetterFoundryModel", "told", "()V"⟩, 72), (⟨"LetterFoundryModel", "next", "(I)I"⟩, 72), (⟨"LetterFoundryModel", "sideOf", "(III)I"⟩, 72), (⟨"LetterFoundryModel", "isImage", "(I)Z"⟩, 72), (⟨"LetterFoundryModel", "steps", "(II)V"⟩, 72), (⟨"LetterFoundryModel", "does", "(II)I"⟩, 72), (⟨"LetterFoundryModel", "faultOf", "(III)I"⟩, 72), (⟨"LetterFoundryModel", "pop", "()J"⟩, 72), (⟨"LetterFoundryModel", "push", "(J)V"⟩, 72), (⟨"LetterFoundryModel", "puts", "([J[ZIJ)V"⟩, 72), (⟨"LetterFoundryModel", "fits", "(I[J[J[Z)V"⟩, 72), (⟨"LetterFoundryModel", "ruleAt", "(I)I"⟩, 72), (⟨"LetterFoundryModel", "manyOf", "(I)I"⟩, 72), (⟨"LetterFoundryModel", "letterOf", "(I)I"⟩, 72)]
theorem lw_r4 : ∀ q ∈ lw_privs_4, lw_okq q := List.forall_mem_cons.mpr ⟨lw_p48, List.forall_mem_cons.mpr ⟨lw_p49, List.forall_mem_cons.mpr ⟨lw_p50, List.forall_mem_cons.mpr ⟨lw_p51, List.forall_mem_cons.mpr ⟨lw_p52, List.forall_mem_cons.mpr ⟨lw_p53, List.forall_mem_cons.mpr ⟨lw_p54, List.forall_mem_cons.mpr ⟨lw_p55, List.forall_mem_cons.mpr ⟨lw_p56, List.forall_mem_cons.mpr ⟨lw_p57, List.forall_mem_cons.mpr ⟨lw_p58, List.forall_mem_cons.mpr ⟨lw_p59, List.forall_mem_cons.mpr ⟨lw_p60, List.forall_mem_cons.mpr ⟨lw_p61, List.forall_mem_cons.mpr ⟨lw_p62, fun _ h => absurd h List.not_mem_nil⟩⟩⟩⟩⟩⟩⟩⟩⟩⟩⟩⟩⟩⟩⟩
def lw_privs : List (MethodName × Nat) := lw_privs_1 ++ (lw_privs_2 ++ (lw_privs_3 ++ (lw_privs_4)))
def lw_tbl : List Cond := k2_sels lw_privs ++ tables_1
theorem lw_privs_ok : ∀ q ∈ lw_privs, lw_okq q := by
  show ∀ q ∈ lw_privs_1 ++ (lw_privs_2 ++ (lw_privs_3 ++ (lw_privs_4))), lw_okq q
  exact List.forall_mem_append.mpr ⟨lw_r1, List.forall_mem_append.mpr ⟨lw_r2, List.forall_mem_append.mpr ⟨lw_r3, lw_r4⟩⟩⟩

def R_0 : String := "LetterFoundry$Fitting"
def T_0 : u_T := fun k => match k with
  | 0 => ("LetterFoundry$Fitting", "first", "[[I", true)
  | 1 => ("LetterFoundry$Fitting", "now", "[[I", true)
  | 2 => ("LetterFoundry$Fitting", "touched", "[[I", true)
  | 3 => ("LetterFoundry$Fitting", "ends", "[I", true)
  | 4 => ("LetterFoundry$Fitting", "outlines", "I", false)
  | _ => ("LetterFoundry$Fitting", "points", "I", false)
def ty_0 : Nat → FieldType := fun k => match k with
  | 0 => (.array (.array .int))
  | 1 => (.array (.array .int))
  | 2 => (.array (.array .int))
  | 3 => (.array .int)
  | 4 => .int
  | _ => .int
theorem nm_0 : ∀ a, a < 6 → ∀ b, b < 6 → a ≠ b → (T_0 a).2.1 ≠ (T_0 b).2.1 := by decide +kernel
theorem tyok_0 : ∀ k, k < 6 → parseFieldDescriptor (T_0 k).2.2.1 = some (ty_0 k) := by decide +kernel
def R_1 : String := "LetterFoundry$Flattener"
def T_1 : u_T := fun k => match k with
  | 0 => ("LetterFoundry$Flattener", "x", "[J", true)
  | 1 => ("LetterFoundry$Flattener", "y", "[J", true)
  | 2 => ("LetterFoundry$Flattener", "placedX", "[J", true)
  | 3 => ("LetterFoundry$Flattener", "placedY", "[J", true)
  | 4 => ("LetterFoundry$Flattener", "path", "[LLetterFoundry$Part;", true)
  | 5 => ("LetterFoundry$Flattener", "limit", "J", false)
  | _ => ("LetterFoundry$Flattener", "degree", "I", false)
def ty_1 : Nat → FieldType := fun k => match k with
  | 0 => (.array .long)
  | 1 => (.array .long)
  | 2 => (.array .long)
  | 3 => (.array .long)
  | 4 => (.array (.object "LetterFoundry$Part"))
  | 5 => .long
  | _ => .int
theorem nm_1 : ∀ a, a < 7 → ∀ b, b < 7 → a ≠ b → (T_1 a).2.1 ≠ (T_1 b).2.1 := by decide +kernel
theorem tyok_1 : ∀ k, k < 7 → parseFieldDescriptor (T_1 k).2.2.1 = some (ty_1 k) := by decide +kernel
def R_2 : String := "LetterFoundry$Image"
def T_2 : u_T := fun k => match k with
  | 0 => ("LetterFoundry$Image", "counts", "[I", true)
  | 1 => ("LetterFoundry$Image", "marks", "[I", true)
  | 2 => ("LetterFoundry$Image", "leastMark", "I", false)
  | 3 => ("LetterFoundry$Image", "greatestMark", "I", false)
  | 4 => ("LetterFoundry$Image", "filled", "I", false)
  | 5 => ("LetterFoundry$Image", "leastI", "I", false)
  | 6 => ("LetterFoundry$Image", "leastJ", "I", false)
  | 7 => ("LetterFoundry$Image", "greatestI", "I", false)
  | _ => ("LetterFoundry$Image", "greatestJ", "I", false)
def ty_2 : Nat → FieldType := fun k => match k with
  | 0 => (.array .int)
  | 1 => (.array .int)
  | 2 => .int
  | 3 => .int
  | 4 => .int
  | 5 => .int
  | 6 => .int
  | 7 => .int
  | _ => .int
theorem nm_2 : ∀ a, a < 9 → ∀ b, b < 9 → a ≠ b → (T_2 a).2.1 ≠ (T_2 b).2.1 := by decide +kernel
theorem tyok_2 : ∀ k, k < 9 → parseFieldDescriptor (T_2 k).2.2.1 = some (ty_2 k) := by decide +kernel
def R_3 : String := "LetterFoundry$Kerning"
def T_3 : u_T := fun k => match k with
  | 0 => ("LetterFoundry$Kerning", "ofClasses", "[[I", true)
  | _ => ("LetterFoundry$Kerning", "ofLetters", "[[I", true)
def ty_3 : Nat → FieldType := fun k => match k with
  | 0 => (.array (.array .int))
  | _ => (.array (.array .int))
theorem nm_3 : ∀ a, a < 2 → ∀ b, b < 2 → a ≠ b → (T_3 a).2.1 ≠ (T_3 b).2.1 := by decide +kernel
theorem tyok_3 : ∀ k, k < 2 → parseFieldDescriptor (T_3 k).2.2.1 = some (ty_3 k) := by decide +kernel
def R_4 : String := "LetterFoundry$Letter"
def T_4 : u_T := fun k => match k with
  | 0 => ("LetterFoundry$Letter", "code", "I", true)
  | 1 => ("LetterFoundry$Letter", "width", "I", true)
  | 2 => ("LetterFoundry$Letter", "shape", "LLetterFoundry$Shape;", true)
  | 3 => ("LetterFoundry$Letter", "program", "LLetterFoundry$Program;", true)
  | 4 => ("LetterFoundry$Letter", "parts", "[LLetterFoundry$Part;", true)
  | 5 => ("LetterFoundry$Letter", "partCount", "I", false)
  | 6 => ("LetterFoundry$Letter", "isPart", "Z", false)
  | 7 => ("LetterFoundry$Letter", "depth", "I", false)
  | 8 => ("LetterFoundry$Letter", "leftClass", "I", false)
  | _ => ("LetterFoundry$Letter", "rightClass", "I", false)
def ty_4 : Nat → FieldType := fun k => match k with
  | 0 => .int
  | 1 => .int
  | 2 => (.object "LetterFoundry$Shape")
  | 3 => (.object "LetterFoundry$Program")
  | 4 => (.array (.object "LetterFoundry$Part"))
  | 5 => .int
  | 6 => .boolean
  | 7 => .int
  | 8 => .int
  | _ => .int
theorem nm_4 : ∀ a, a < 10 → ∀ b, b < 10 → a ≠ b → (T_4 a).2.1 ≠ (T_4 b).2.1 := by decide +kernel
theorem tyok_4 : ∀ k, k < 10 → parseFieldDescriptor (T_4 k).2.2.1 = some (ty_4 k) := by decide +kernel
def R_5 : String := "LetterFoundry$Line"
def T_5 : u_T := fun k => match k with
  | 0 => ("LetterFoundry$Line", "rules", "[[I", true)
  | 1 => ("LetterFoundry$Line", "results", "[I", true)
  | 2 => ("LetterFoundry$Line", "ruleCount", "I", false)
  | 3 => ("LetterFoundry$Line", "signs", "[I", true)
  | 4 => ("LetterFoundry$Line", "signCount", "I", false)
  | 5 => ("LetterFoundry$Line", "placedLetter", "[I", true)
  | 6 => ("LetterFoundry$Line", "placedAt", "[I", true)
  | 7 => ("LetterFoundry$Line", "placedSign", "[I", true)
  | 8 => ("LetterFoundry$Line", "placedCount", "I", false)
  | _ => ("LetterFoundry$Line", "end", "I", false)
def ty_5 : Nat → FieldType := fun k => match k with
  | 0 => (.array (.array .int))
  | 1 => (.array .int)
  | 2 => .int
  | 3 => (.array .int)
  | 4 => .int
  | 5 => (.array .int)
  | 6 => (.array .int)
  | 7 => (.array .int)
  | 8 => .int
  | _ => .int
theorem nm_5 : ∀ a, a < 10 → ∀ b, b < 10 → a ≠ b → (T_5 a).2.1 ≠ (T_5 b).2.1 := by decide +kernel
theorem tyok_5 : ∀ k, k < 10 → parseFieldDescriptor (T_5 k).2.2.1 = some (ty_5 k) := by decide +kernel
def R_6 : String := "LetterFoundry$Part"
def T_6 : u_T := fun k => match k with
  | 0 => ("LetterFoundry$Part", "letter", "LLetterFoundry$Letter;", true)
  | 1 => ("LetterFoundry$Part", "dx", "I", true)
  | 2 => ("LetterFoundry$Part", "dy", "I", true)
  | 3 => ("LetterFoundry$Part", "xx", "I", false)
  | 4 => ("LetterFoundry$Part", "xy", "I", false)
  | 5 => ("LetterFoundry$Part", "yx", "I", false)
  | _ => ("LetterFoundry$Part", "yy", "I", false)
def ty_6 : Nat → FieldType := fun k => match k with
  | 0 => (.object "LetterFoundry$Letter")
  | 1 => .int
  | 2 => .int
  | 3 => .int
  | 4 => .int
  | 5 => .int
  | _ => .int
theorem nm_6 : ∀ a, a < 7 → ∀ b, b < 7 → a ≠ b → (T_6 a).2.1 ≠ (T_6 b).2.1 := by decide +kernel
theorem tyok_6 : ∀ k, k < 7 → parseFieldDescriptor (T_6 k).2.2.1 = some (ty_6 k) := by decide +kernel
def R_7 : String := "LetterFoundry$Polygons"
def T_7 : u_T := fun k => match k with
  | 0 => ("LetterFoundry$Polygons", "x", "[I", true)
  | 1 => ("LetterFoundry$Polygons", "y", "[I", true)
  | 2 => ("LetterFoundry$Polygons", "number", "[I", true)
  | 3 => ("LetterFoundry$Polygons", "next", "[I", true)
  | 4 => ("LetterFoundry$Polygons", "count", "I", false)
  | 5 => ("LetterFoundry$Polygons", "fits", "Z", false)
  | 6 => ("LetterFoundry$Polygons", "told", "I", false)
  | 7 => ("LetterFoundry$Polygons", "start", "I", false)
  | _ => ("LetterFoundry$Polygons", "finished", "I", false)
def ty_7 : Nat → FieldType := fun k => match k with
  | 0 => (.array .int)
  | 1 => (.array .int)
  | 2 => (.array .int)
  | 3 => (.array .int)
  | 4 => .int
  | 5 => .boolean
  | 6 => .int
  | 7 => .int
  | _ => .int
theorem nm_7 : ∀ a, a < 9 → ∀ b, b < 9 → a ≠ b → (T_7 a).2.1 ≠ (T_7 b).2.1 := by decide +kernel
theorem tyok_7 : ∀ k, k < 9 → parseFieldDescriptor (T_7 k).2.2.1 = some (ty_7 k) := by decide +kernel
def R_8 : String := "LetterFoundry$Program"
def T_8 : u_T := fun k => match k with
  | 0 => ("LetterFoundry$Program", "ops", "[I", true)
  | 1 => ("LetterFoundry$Program", "args", "[I", true)
  | _ => ("LetterFoundry$Program", "count", "I", false)
def ty_8 : Nat → FieldType := fun k => match k with
  | 0 => (.array .int)
  | 1 => (.array .int)
  | _ => .int
theorem nm_8 : ∀ a, a < 3 → ∀ b, b < 3 → a ≠ b → (T_8 a).2.1 ≠ (T_8 b).2.1 := by decide +kernel
theorem tyok_8 : ∀ k, k < 3 → parseFieldDescriptor (T_8 k).2.2.1 = some (ty_8 k) := by decide +kernel
def R_9 : String := "LetterFoundry$Runner"
def T_9 : u_T := fun k => match k with
  | 0 => ("LetterFoundry$Runner", "stack", "[I", true)
  | 1 => ("LetterFoundry$Runner", "store", "[I", true)
  | 2 => ("LetterFoundry$Runner", "calls", "[I", true)
  | 3 => ("LetterFoundry$Runner", "height", "I", false)
  | 4 => ("LetterFoundry$Runner", "openCalls", "I", false)
  | _ => ("LetterFoundry$Runner", "next", "I", false)
def ty_9 : Nat → FieldType := fun k => match k with
  | 0 => (.array .int)
  | 1 => (.array .int)
  | 2 => (.array .int)
  | 3 => .int
  | 4 => .int
  | _ => .int
theorem nm_9 : ∀ a, a < 6 → ∀ b, b < 6 → a ≠ b → (T_9 a).2.1 ≠ (T_9 b).2.1 := by decide +kernel
theorem tyok_9 : ∀ k, k < 6 → parseFieldDescriptor (T_9 k).2.2.1 = some (ty_9 k) := by decide +kernel
def R_10 : String := "LetterFoundry$Shape"
def T_10 : u_T := fun k => match k with
  | 0 => ("LetterFoundry$Shape", "x", "[I", true)
  | 1 => ("LetterFoundry$Shape", "y", "[I", true)
  | 2 => ("LetterFoundry$Shape", "kind", "[I", true)
  | 3 => ("LetterFoundry$Shape", "dx", "[[I", true)
  | 4 => ("LetterFoundry$Shape", "dy", "[[I", true)
  | 5 => ("LetterFoundry$Shape", "ends", "[I", true)
  | 6 => ("LetterFoundry$Shape", "closed", "I", false)
  | 7 => ("LetterFoundry$Shape", "open", "Z", false)
  | _ => ("LetterFoundry$Shape", "points", "I", false)
def ty_10 : Nat → FieldType := fun k => match k with
  | 0 => (.array .int)
  | 1 => (.array .int)
  | 2 => (.array .int)
  | 3 => (.array (.array .int))
  | 4 => (.array (.array .int))
  | 5 => (.array .int)
  | 6 => .int
  | 7 => .boolean
  | _ => .int
theorem nm_10 : ∀ a, a < 9 → ∀ b, b < 9 → a ≠ b → (T_10 a).2.1 ≠ (T_10 b).2.1 := by decide +kernel
theorem tyok_10 : ∀ k, k < 9 → parseFieldDescriptor (T_10 k).2.2.1 = some (ty_10 k) := by decide +kernel
def R_11 : String := "LetterFoundry"
def T_11 : u_T := fun k => match k with
  | 0 => ("LetterFoundry", "letters", "[LLetterFoundry$Letter;", true)
  | 1 => ("LetterFoundry", "letterCount", "I", false)
  | 2 => ("LetterFoundry", "flattener", "LLetterFoundry$Flattener;", true)
  | 3 => ("LetterFoundry", "polygons", "LLetterFoundry$Polygons;", false)
  | 4 => ("LetterFoundry", "sparePolygons", "LLetterFoundry$Polygons;", false)
  | 5 => ("LetterFoundry", "picture", "LLetterFoundry$Image;", true)
  | 6 => ("LetterFoundry", "runner", "LLetterFoundry$Runner;", true)
  | 7 => ("LetterFoundry", "fitting", "LLetterFoundry$Fitting;", false)
  | 8 => ("LetterFoundry", "spareFitting", "LLetterFoundry$Fitting;", false)
  | 9 => ("LetterFoundry", "weights", "[I", true)
  | 10 => ("LetterFoundry", "kernings", "LLetterFoundry$Kerning;", true)
  | _ => ("LetterFoundry", "line", "LLetterFoundry$Line;", true)
def ty_11 : Nat → FieldType := fun k => match k with
  | 0 => (.array (.object "LetterFoundry$Letter"))
  | 1 => .int
  | 2 => (.object "LetterFoundry$Flattener")
  | 3 => (.object "LetterFoundry$Polygons")
  | 4 => (.object "LetterFoundry$Polygons")
  | 5 => (.object "LetterFoundry$Image")
  | 6 => (.object "LetterFoundry$Runner")
  | 7 => (.object "LetterFoundry$Fitting")
  | 8 => (.object "LetterFoundry$Fitting")
  | 9 => (.array .int)
  | 10 => (.object "LetterFoundry$Kerning")
  | _ => (.object "LetterFoundry$Line")
theorem nm_11 : ∀ a, a < 12 → ∀ b, b < 12 → a ≠ b → (T_11 a).2.1 ≠ (T_11 b).2.1 := by decide +kernel
theorem tyok_11 : ∀ k, k < 12 → parseFieldDescriptor (T_11 k).2.2.1 = some (ty_11 k) := by decide +kernel
def R_12 : String := "LetterFoundryModel"
def T_12 : u_T := fun k => match k with
  | 0 => ("LetterFoundryModel", "letters", "I", false)
  | 1 => ("LetterFoundryModel", "code", "[I", true)
  | 2 => ("LetterFoundryModel", "wide", "[I", true)
  | 3 => ("LetterFoundryModel", "outlines", "[I", true)
  | 4 => ("LetterFoundryModel", "isOpen", "[Z", true)
  | 5 => ("LetterFoundryModel", "points", "[I", true)
  | 6 => ("LetterFoundryModel", "ends", "[I", true)
  | 7 => ("LetterFoundryModel", "px", "[I", true)
  | 8 => ("LetterFoundryModel", "py", "[I", true)
  | 9 => ("LetterFoundryModel", "kind", "[I", true)
  | 10 => ("LetterFoundryModel", "deltaX", "[I", true)
  | 11 => ("LetterFoundryModel", "deltaY", "[I", true)
  | 12 => ("LetterFoundryModel", "parts", "[I", true)
  | 13 => ("LetterFoundryModel", "partOf", "[I", true)
  | 14 => ("LetterFoundryModel", "matrix", "[I", true)
  | 15 => ("LetterFoundryModel", "moveX", "[I", true)
  | 16 => ("LetterFoundryModel", "moveY", "[I", true)
  | 17 => ("LetterFoundryModel", "acts", "[I", true)
  | 18 => ("LetterFoundryModel", "op", "[I", true)
  | 19 => ("LetterFoundryModel", "arg", "[I", true)
  | 20 => ("LetterFoundryModel", "way", "[I", true)
  | 21 => ("LetterFoundryModel", "turn", "[I", true)
  | 22 => ("LetterFoundryModel", "newMany", "I", false)
  | 23 => ("LetterFoundryModel", "newPolygons", "I", false)
  | 24 => ("LetterFoundryModel", "newX", "[I", true)
  | 25 => ("LetterFoundryModel", "newY", "[I", true)
  | 26 => ("LetterFoundryModel", "newOf", "[I", true)
  | 27 => ("LetterFoundryModel", "flatMany", "I", false)
  | 28 => ("LetterFoundryModel", "flatX", "[I", true)
  | 29 => ("LetterFoundryModel", "flatY", "[I", true)
  | 30 => ("LetterFoundryModel", "flatOf", "[I", true)
  | 31 => ("LetterFoundryModel", "raw", "I", false)
  | 32 => ("LetterFoundryModel", "isGood", "Z", false)
  | 33 => ("LetterFoundryModel", "lineX", "[J", true)
  | 34 => ("LetterFoundryModel", "lineY", "[J", true)
  | 35 => ("LetterFoundryModel", "wait", "[J", true)
  | 36 => ("LetterFoundryModel", "often", "[I", true)
  | 37 => ("LetterFoundryModel", "waits", "I", false)
  | 38 => ("LetterFoundryModel", "begin", "I", false)
  | 39 => ("LetterFoundryModel", "dots", "[I", true)
  | 40 => ("LetterFoundryModel", "step", "[I", true)
  | 41 => ("LetterFoundryModel", "stack", "[J", true)
  | 42 => ("LetterFoundryModel", "tops", "I", false)
  | 43 => ("LetterFoundryModel", "store", "[J", true)
  | 44 => ("LetterFoundryModel", "calls", "[I", true)
  | 45 => ("LetterFoundryModel", "called", "I", false)
  | 46 => ("LetterFoundryModel", "firstX", "[J", true)
  | 47 => ("LetterFoundryModel", "firstY", "[J", true)
  | 48 => ("LetterFoundryModel", "nowX", "[J", true)
  | 49 => ("LetterFoundryModel", "nowY", "[J", true)
  | 50 => ("LetterFoundryModel", "touchX", "[Z", true)
  | 51 => ("LetterFoundryModel", "touchY", "[Z", true)
  | 52 => ("LetterFoundryModel", "fault", "I", false)
  | 53 => ("LetterFoundryModel", "fittedMany", "I", false)
  | 54 => ("LetterFoundryModel", "fittedX", "[I", true)
  | 55 => ("LetterFoundryModel", "fittedY", "[I", true)
  | 56 => ("LetterFoundryModel", "fittedTouchX", "[Z", true)
  | 57 => ("LetterFoundryModel", "fittedTouchY", "[Z", true)
  | 58 => ("LetterFoundryModel", "weights", "[I", true)
  | 59 => ("LetterFoundryModel", "leftClass", "[I", true)
  | 60 => ("LetterFoundryModel", "rightClass", "[I", true)
  | 61 => ("LetterFoundryModel", "byClass", "[I", true)
  | 62 => ("LetterFoundryModel", "byLetter", "[I", true)
  | 63 => ("LetterFoundryModel", "isException", "[Z", true)
  | 64 => ("LetterFoundryModel", "rules", "I", false)
  | 65 => ("LetterFoundryModel", "ruleCode", "[I", true)
  | 66 => ("LetterFoundryModel", "signs", "I", false)
  | 67 => ("LetterFoundryModel", "lineCode", "[I", true)
  | 68 => ("LetterFoundryModel", "placedMany", "I", false)
  | 69 => ("LetterFoundryModel", "placedLetter", "[I", true)
  | 70 => ("LetterFoundryModel", "placedAt", "[I", true)
  | _ => ("LetterFoundryModel", "placedSign", "[I", true)
def ty_12 : Nat → FieldType := fun k => match k with
  | 0 => .int
  | 1 => (.array .int)
  | 2 => (.array .int)
  | 3 => (.array .int)
  | 4 => (.array .boolean)
  | 5 => (.array .int)
  | 6 => (.array .int)
  | 7 => (.array .int)
  | 8 => (.array .int)
  | 9 => (.array .int)
  | 10 => (.array .int)
  | 11 => (.array .int)
  | 12 => (.array .int)
  | 13 => (.array .int)
  | 14 => (.array .int)
  | 15 => (.array .int)
  | 16 => (.array .int)
  | 17 => (.array .int)
  | 18 => (.array .int)
  | 19 => (.array .int)
  | 20 => (.array .int)
  | 21 => (.array .int)
  | 22 => .int
  | 23 => .int
  | 24 => (.array .int)
  | 25 => (.array .int)
  | 26 => (.array .int)
  | 27 => .int
  | 28 => (.array .int)
  | 29 => (.array .int)
  | 30 => (.array .int)
  | 31 => .int
  | 32 => .boolean
  | 33 => (.array .long)
  | 34 => (.array .long)
  | 35 => (.array .long)
  | 36 => (.array .int)
  | 37 => .int
  | 38 => .int
  | 39 => (.array .int)
  | 40 => (.array .int)
  | 41 => (.array .long)
  | 42 => .int
  | 43 => (.array .long)
  | 44 => (.array .int)
  | 45 => .int
  | 46 => (.array .long)
  | 47 => (.array .long)
  | 48 => (.array .long)
  | 49 => (.array .long)
  | 50 => (.array .boolean)
  | 51 => (.array .boolean)
  | 52 => .int
  | 53 => .int
  | 54 => (.array .int)
  | 55 => (.array .int)
  | 56 => (.array .boolean)
  | 57 => (.array .boolean)
  | 58 => (.array .int)
  | 59 => (.array .int)
  | 60 => (.array .int)
  | 61 => (.array .int)
  | 62 => (.array .int)
  | 63 => (.array .boolean)
  | 64 => .int
  | 65 => (.array .int)
  | 66 => .int
  | 67 => (.array .int)
  | 68 => .int
  | 69 => (.array .int)
  | 70 => (.array .int)
  | _ => (.array .int)
theorem nm_12 : ∀ a, a < 72 → ∀ b, b < 72 → a ≠ b → (T_12 a).2.1 ≠ (T_12 b).2.1 := by decide +kernel
theorem tyok_12 : ∀ k, k < 72 → parseFieldDescriptor (T_12 k).2.2.1 = some (ty_12 k) := by decide +kernel
def classes : List vw_C := [(R_0, T_0, 6), (R_1, T_1, 7), (R_2, T_2, 9), (R_3, T_3, 2), (R_4, T_4, 10), (R_5, T_5, 10), (R_6, T_6, 7), (R_7, T_7, 9), (R_8, T_8, 3), (R_9, T_9, 6), (R_10, T_10, 9), (R_11, T_11, 12), (R_12, T_12, 72)]
def gw : List Cond := lw_tbl.filter goodWord
def nws : List Cond := [.methodLinkNest "LetterFoundry" (21 : Nat) ⟨"LetterFoundry$Flattener", "<init>", "()V"⟩ "LetterFoundry", .methodLinkNest "LetterFoundry" (28 : Nat) ⟨"LetterFoundry$Polygons", "<init>", "()V"⟩ "LetterFoundry", .methodLinkNest "LetterFoundry" (38 : Nat) ⟨"LetterFoundry$Image", "<init>", "()V"⟩ "LetterFoundry", .methodLinkNest "LetterFoundry" (45 : Nat) ⟨"LetterFoundry$Runner", "<init>", "()V"⟩ "LetterFoundry", .methodLinkNest "LetterFoundry" (52 : Nat) ⟨"LetterFoundry$Fitting", "<init>", "()V"⟩ "LetterFoundry", .methodLinkNest "LetterFoundry" (73 : Nat) ⟨"LetterFoundry$Line", "<init>", "()V"⟩ "LetterFoundry", .methodLinkNest "LetterFoundry$Letter" (11 : Nat) ⟨"LetterFoundry$Shape", "<init>", "()V"⟩ "LetterFoundry", .methodLinkNest "LetterFoundry$Letter" (20 : Nat) ⟨"LetterFoundry$Program", "<init>", "()V"⟩ "LetterFoundry", .methodLinkNest "LetterFoundry$Shape" (68 : Nat) ⟨"LetterFoundry", "within", "(JJJ)Z"⟩ "LetterFoundry", .methodLinkNest "LetterFoundry$Letter" (57 : Nat) ⟨"LetterFoundry", "within", "(JJJ)Z"⟩ "LetterFoundry", .methodLinkNest "LetterFoundry$Flattener" (32 : Nat) ⟨"LetterFoundry", "within", "(JJJ)Z"⟩ "LetterFoundry", .methodLinkNest "LetterFoundry$Part" (36 : Nat) ⟨"LetterFoundry", "rounded", "(JJ)J"⟩ "LetterFoundry", .methodLinkNest "LetterFoundry$Polygons" (61 : Nat) ⟨"LetterFoundry", "within", "(JJJ)Z"⟩ "LetterFoundry", .methodLinkNest "LetterFoundry$Flattener" (131 : Nat) ⟨"LetterFoundry", "rounded", "(JJ)J"⟩ "LetterFoundry", .methodLinkNest "LetterFoundry$Image" (53 : Nat) ⟨"LetterFoundry", "within", "(JJJ)Z"⟩ "LetterFoundry", .methodLinkNest "LetterFoundry$Fitting" (53 : Nat) ⟨"LetterFoundry", "rounded", "(JJ)J"⟩ "LetterFoundry", .methodLinkNest "LetterFoundry$Runner" (42 : Nat) ⟨"LetterFoundry", "within", "(JJJ)Z"⟩ "LetterFoundry", .methodLinkNest "LetterFoundry$Fitting" (60 : Nat) ⟨"LetterFoundry", "within", "(JJJ)Z"⟩ "LetterFoundry", .methodLinkNest "LetterFoundry$Runner" (141 : Nat) ⟨"LetterFoundry", "rounded", "(JJ)J"⟩ "LetterFoundry", .methodLinkNest "LetterFoundry$Kerning" (25 : Nat) ⟨"LetterFoundry", "within", "(JJJ)Z"⟩ "LetterFoundry", .methodLinkNest "LetterFoundry$Line" (49 : Nat) ⟨"LetterFoundry", "indexOfCode", "([LLetterFoundry$Letter;II)I"⟩ "LetterFoundry"]
def RK : Nat → Nat × Nat × Nat := fun k => match k with
  | 100 => (6, 2, 500)
  | 101 => (6, 2, 501)
  | 102 => (6, 2, 502)
  | 103 => (2, 8, 0)
  | 120 => (4, 44, 0)
  | 121 => (4, 44, 0)
  | 122 => (4, 100, 0)
  | 123 => (4, 100, 0)
  | 124 => (5, 4, 6)
  | 140 => (2, 4096, 0)
  | 141 => (2, 513, 0)
  | 160 => (6, 16, 560)
  | 161 => (6, 32, 561)
  | 184 => (5, 6, 6)
  | 200 => (6, 3, 600)
  | 201 => (2, 40, 0)
  | 203 => (2, 60, 0)
  | 205 => (2, 60, 0)
  | 206 => (2, 60, 0)
  | 207 => (2, 60, 0)
  | 240 => (2, 500, 0)
  | 241 => (2, 500, 0)
  | 242 => (2, 500, 0)
  | 243 => (2, 500, 0)
  | 260 => (2, 100, 0)
  | 261 => (2, 100, 0)
  | 280 => (2, 32, 0)
  | 281 => (2, 16, 0)
  | 282 => (2, 8, 0)
  | 300 => (2, 100, 0)
  | 301 => (2, 100, 0)
  | 302 => (2, 100, 0)
  | 303 => (6, 3, 703)
  | 304 => (6, 3, 704)
  | 305 => (2, 8, 0)
  | 320 => (5, 32, 4)
  | 329 => (2, 3, 0)
  | 341 => (2, 32, 0)
  | 342 => (2, 32, 0)
  | 343 => (2, 32, 0)
  | 344 => (3, 32, 0)
  | 345 => (2, 32, 0)
  | 346 => (2, 256, 0)
  | 347 => (2, 3200, 0)
  | 348 => (2, 3200, 0)
  | 349 => (2, 3200, 0)
  | 350 => (2, 9600, 0)
  | 351 => (2, 9600, 0)
  | 352 => (2, 32, 0)
  | 353 => (2, 192, 0)
  | 354 => (2, 768, 0)
  | 355 => (2, 192, 0)
  | 356 => (2, 192, 0)
  | 357 => (2, 32, 0)
  | 358 => (2, 3200, 0)
  | 359 => (2, 3200, 0)
  | 360 => (2, 8, 0)
  | 361 => (2, 8, 0)
  | 364 => (2, 500, 0)
  | 365 => (2, 500, 0)
  | 366 => (2, 500, 0)
  | 368 => (2, 500, 0)
  | 369 => (2, 500, 0)
  | 370 => (2, 500, 0)
  | 373 => (4, 100, 0)
  | 374 => (4, 100, 0)
  | 375 => (4, 128, 0)
  | 376 => (2, 16, 0)
  | 379 => (2, 4096, 0)
  | 380 => (2, 514, 0)
  | 381 => (4, 33, 0)
  | 383 => (4, 16, 0)
  | 384 => (2, 8, 0)
  | 386 => (4, 100, 0)
  | 387 => (4, 100, 0)
  | 388 => (4, 100, 0)
  | 389 => (4, 100, 0)
  | 390 => (3, 100, 0)
  | 391 => (3, 100, 0)
  | 394 => (2, 100, 0)
  | 395 => (2, 100, 0)
  | 396 => (3, 100, 0)
  | 397 => (3, 100, 0)
  | 398 => (2, 3, 0)
  | 399 => (2, 32, 0)
  | 400 => (2, 32, 0)
  | 401 => (2, 256, 0)
  | 402 => (2, 1024, 0)
  | 403 => (3, 1024, 0)
  | 405 => (2, 160, 0)
  | 407 => (2, 60, 0)
  | 409 => (2, 60, 0)
  | 410 => (2, 60, 0)
  | 411 => (2, 60, 0)
  | 500 => (2, 100, 0)
  | 501 => (2, 100, 0)
  | 502 => (2, 100, 0)
  | 560 => (2, 16, 0)
  | 561 => (2, 32, 0)
  | 600 => (2, 40, 0)
  | 703 => (2, 100, 0)
  | 704 => (2, 100, 0)
  | 900 => (7, 31, 0)
  | 901 => (7, 31, 0)
  | 902 => (8, 0, 0)
  | _ => (0, 0, 0)
def NF : Nat → Nat := fun k => match k with
  | 0 => 6
  | 1 => 7
  | 2 => 9
  | 3 => 2
  | 4 => 10
  | 5 => 10
  | 6 => 7
  | 7 => 9
  | 8 => 3
  | 9 => 6
  | 10 => 9
  | 11 => 12
  | 12 => 72
  | _ => 0
def FT : Nat → Nat → Nat × Nat := fun k j => match k with
  | 0 => (match j with | 0 => (3, 100) | 1 => (3, 101) | 2 => (3, 102) | 3 => (3, 103) | 4 => (0, 0) | 5 => (0, 0) | _ => (9, 0))
  | 1 => (match j with | 0 => (3, 120) | 1 => (3, 121) | 2 => (3, 122) | 3 => (3, 123) | 4 => (3, 124) | 5 => (2, 0) | 6 => (0, 0) | _ => (9, 0))
  | 2 => (match j with | 0 => (3, 140) | 1 => (3, 141) | 2 => (0, 0) | 3 => (0, 0) | 4 => (0, 0) | 5 => (0, 0) | 6 => (0, 0) | 7 => (0, 0) | 8 => (0, 0) | _ => (9, 0))
  | 3 => (match j with | 0 => (3, 160) | 1 => (3, 161) | _ => (9, 0))
  | 4 => (match j with | 0 => (0, 0) | 1 => (0, 0) | 2 => (3, 10) | 3 => (3, 8) | 4 => (3, 184) | 5 => (0, 0) | 6 => (1, 0) | 7 => (0, 0) | 8 => (0, 0) | 9 => (0, 0) | _ => (9, 0))
  | 5 => (match j with | 0 => (3, 200) | 1 => (3, 201) | 2 => (0, 0) | 3 => (3, 203) | 4 => (0, 0) | 5 => (3, 205) | 6 => (3, 206) | 7 => (3, 207) | 8 => (0, 0) | 9 => (0, 0) | _ => (9, 0))
  | 6 => (match j with | 0 => (3, 4) | 1 => (0, 0) | 2 => (0, 0) | 3 => (0, 0) | 4 => (0, 0) | 5 => (0, 0) | 6 => (0, 0) | _ => (9, 0))
  | 7 => (match j with | 0 => (3, 240) | 1 => (3, 241) | 2 => (3, 242) | 3 => (3, 243) | 4 => (0, 0) | 5 => (1, 0) | 6 => (0, 0) | 7 => (0, 0) | 8 => (0, 0) | _ => (9, 0))
  | 8 => (match j with | 0 => (3, 260) | 1 => (3, 261) | 2 => (0, 0) | _ => (9, 0))
  | 9 => (match j with | 0 => (3, 280) | 1 => (3, 281) | 2 => (3, 282) | 3 => (0, 0) | 4 => (0, 0) | 5 => (0, 0) | _ => (9, 0))
  | 10 => (match j with | 0 => (3, 300) | 1 => (3, 301) | 2 => (3, 302) | 3 => (3, 303) | 4 => (3, 304) | 5 => (3, 305) | 6 => (0, 0) | 7 => (1, 0) | 8 => (0, 0) | _ => (9, 0))
  | 11 => (match j with | 0 => (3, 320) | 1 => (0, 0) | 2 => (3, 1) | 3 => (3, 7) | 4 => (3, 7) | 5 => (3, 2) | 6 => (3, 9) | 7 => (3, 0) | 8 => (3, 0) | 9 => (3, 329) | 10 => (3, 3) | 11 => (3, 5) | _ => (9, 0))
  | 12 => (match j with | 0 => (0, 0) | 1 => (3, 341) | 2 => (3, 342) | 3 => (3, 343) | 4 => (3, 344) | 5 => (3, 345) | 6 => (3, 346) | 7 => (3, 347) | 8 => (3, 348) | 9 => (3, 349) | 10 => (3, 350) | 11 => (3, 351) | 12 => (3, 352) | 13 => (3, 353) | 14 => (3, 354) | 15 => (3, 355) | 16 => (3, 356) | 17 => (3, 357) | 18 => (3, 358) | 19 => (3, 359) | 20 => (3, 360) | 21 => (3, 361) | 22 => (0, 0) | 23 => (0, 0) | 24 => (3, 364) | 25 => (3, 365) | 26 => (3, 366) | 27 => (0, 0) | 28 => (3, 368) | 29 => (3, 369) | 30 => (3, 370) | 31 => (0, 0) | 32 => (1, 0) | 33 => (3, 373) | 34 => (3, 374) | 35 => (3, 375) | 36 => (3, 376) | 37 => (0, 0) | 38 => (0, 0) | 39 => (3, 379) | 40 => (3, 380) | 41 => (3, 381) | 42 => (0, 0) | 43 => (3, 383) | 44 => (3, 384) | 45 => (0, 0) | 46 => (3, 386) | 47 => (3, 387) | 48 => (3, 388) | 49 => (3, 389) | 50 => (3, 390) | 51 => (3, 391) | 52 => (0, 0) | 53 => (0, 0) | 54 => (3, 394) | 55 => (3, 395) | 56 => (3, 396) | 57 => (3, 397) | 58 => (3, 398) | 59 => (3, 399) | 60 => (3, 400) | 61 => (3, 401) | 62 => (3, 402) | 63 => (3, 403) | 64 => (0, 0) | 65 => (3, 405) | 66 => (0, 0) | 67 => (3, 407) | 68 => (0, 0) | 69 => (3, 409) | 70 => (3, 410) | 71 => (3, 411) | _ => (9, 0))
  | _ => (9, 0)
def FIN : Nat → Nat → Bool := fun k j => match k with
  | 0 => (match j with | 0 => true | 1 => true | 2 => true | 3 => true | _ => false)
  | 1 => (match j with | 0 => true | 1 => true | 2 => true | 3 => true | 4 => true | _ => false)
  | 2 => (match j with | 0 => true | 1 => true | _ => false)
  | 3 => (match j with | 0 => true | 1 => true | _ => false)
  | 4 => (match j with | 2 => true | 3 => true | 4 => true | _ => false)
  | 5 => (match j with | 0 => true | 1 => true | 3 => true | 5 => true | 6 => true | 7 => true | _ => false)
  | 6 => (match j with  | _ => false)
  | 7 => (match j with | 0 => true | 1 => true | 2 => true | 3 => true | _ => false)
  | 8 => (match j with | 0 => true | 1 => true | _ => false)
  | 9 => (match j with | 0 => true | 1 => true | 2 => true | _ => false)
  | 10 => (match j with | 0 => true | 1 => true | 2 => true | 3 => true | 4 => true | 5 => true | _ => false)
  | 11 => (match j with | 0 => true | 2 => true | 5 => true | 6 => true | 9 => true | 10 => true | 11 => true | _ => false)
  | 12 => (match j with | 1 => true | 2 => true | 3 => true | 4 => true | 5 => true | 6 => true | 7 => true | 8 => true | 9 => true | 10 => true | 11 => true | 12 => true | 13 => true | 14 => true | 15 => true | 16 => true | 17 => true | 18 => true | 19 => true | 20 => true | 21 => true | 24 => true | 25 => true | 26 => true | 28 => true | 29 => true | 30 => true | 33 => true | 34 => true | 35 => true | 36 => true | 39 => true | 40 => true | 41 => true | 43 => true | 44 => true | 46 => true | 47 => true | 48 => true | 49 => true | 50 => true | 51 => true | 54 => true | 55 => true | 56 => true | 57 => true | 58 => true | 59 => true | 60 => true | 61 => true | 62 => true | 63 => true | 65 => true | 67 => true | 69 => true | 70 => true | 71 => true | _ => false)
  | _ => false
def CN : Nat → String := fun k => match k with
  | 0 => R_0
  | 1 => R_1
  | 2 => R_2
  | 3 => R_3
  | 4 => R_4
  | 5 => R_5
  | 6 => R_6
  | 7 => R_7
  | 8 => R_8
  | 9 => R_9
  | 10 => R_10
  | 11 => R_11
  | 12 => R_12
  | _ => ""
theorem rk_100 : RK 100 = (6, 2, 500) := rfl
theorem rk_101 : RK 101 = (6, 2, 501) := rfl
theorem rk_102 : RK 102 = (6, 2, 502) := rfl
theorem rk_103 : RK 103 = (2, 8, 0) := rfl
theorem rk_120 : RK 120 = (4, 44, 0) := rfl
theorem rk_121 : RK 121 = (4, 44, 0) := rfl
theorem rk_122 : RK 122 = (4, 100, 0) := rfl
theorem rk_123 : RK 123 = (4, 100, 0) := rfl
theorem rk_124 : RK 124 = (5, 4, 6) := rfl
theorem rk_140 : RK 140 = (2, 4096, 0) := rfl
theorem rk_141 : RK 141 = (2, 513, 0) := rfl
theorem rk_160 : RK 160 = (6, 16, 560) := rfl
theorem rk_161 : RK 161 = (6, 32, 561) := rfl
theorem rk_184 : RK 184 = (5, 6, 6) := rfl
theorem rk_200 : RK 200 = (6, 3, 600) := rfl
theorem rk_201 : RK 201 = (2, 40, 0) := rfl
theorem rk_203 : RK 203 = (2, 60, 0) := rfl
theorem rk_205 : RK 205 = (2, 60, 0) := rfl
theorem rk_206 : RK 206 = (2, 60, 0) := rfl
theorem rk_207 : RK 207 = (2, 60, 0) := rfl
theorem rk_240 : RK 240 = (2, 500, 0) := rfl
theorem rk_241 : RK 241 = (2, 500, 0) := rfl
theorem rk_242 : RK 242 = (2, 500, 0) := rfl
theorem rk_243 : RK 243 = (2, 500, 0) := rfl
theorem rk_260 : RK 260 = (2, 100, 0) := rfl
theorem rk_261 : RK 261 = (2, 100, 0) := rfl
theorem rk_280 : RK 280 = (2, 32, 0) := rfl
theorem rk_281 : RK 281 = (2, 16, 0) := rfl
theorem rk_282 : RK 282 = (2, 8, 0) := rfl
theorem rk_300 : RK 300 = (2, 100, 0) := rfl
theorem rk_301 : RK 301 = (2, 100, 0) := rfl
theorem rk_302 : RK 302 = (2, 100, 0) := rfl
theorem rk_303 : RK 303 = (6, 3, 703) := rfl
theorem rk_304 : RK 304 = (6, 3, 704) := rfl
theorem rk_305 : RK 305 = (2, 8, 0) := rfl
theorem rk_320 : RK 320 = (5, 32, 4) := rfl
theorem rk_329 : RK 329 = (2, 3, 0) := rfl
theorem rk_341 : RK 341 = (2, 32, 0) := rfl
theorem rk_342 : RK 342 = (2, 32, 0) := rfl
theorem rk_343 : RK 343 = (2, 32, 0) := rfl
theorem rk_344 : RK 344 = (3, 32, 0) := rfl
theorem rk_345 : RK 345 = (2, 32, 0) := rfl
theorem rk_346 : RK 346 = (2, 256, 0) := rfl
theorem rk_347 : RK 347 = (2, 3200, 0) := rfl
theorem rk_348 : RK 348 = (2, 3200, 0) := rfl
theorem rk_349 : RK 349 = (2, 3200, 0) := rfl
theorem rk_350 : RK 350 = (2, 9600, 0) := rfl
theorem rk_351 : RK 351 = (2, 9600, 0) := rfl
theorem rk_352 : RK 352 = (2, 32, 0) := rfl
theorem rk_353 : RK 353 = (2, 192, 0) := rfl
theorem rk_354 : RK 354 = (2, 768, 0) := rfl
theorem rk_355 : RK 355 = (2, 192, 0) := rfl
theorem rk_356 : RK 356 = (2, 192, 0) := rfl
theorem rk_357 : RK 357 = (2, 32, 0) := rfl
theorem rk_358 : RK 358 = (2, 3200, 0) := rfl
theorem rk_359 : RK 359 = (2, 3200, 0) := rfl
theorem rk_360 : RK 360 = (2, 8, 0) := rfl
theorem rk_361 : RK 361 = (2, 8, 0) := rfl
theorem rk_364 : RK 364 = (2, 500, 0) := rfl
theorem rk_365 : RK 365 = (2, 500, 0) := rfl
theorem rk_366 : RK 366 = (2, 500, 0) := rfl
theorem rk_368 : RK 368 = (2, 500, 0) := rfl
theorem rk_369 : RK 369 = (2, 500, 0) := rfl
theorem rk_370 : RK 370 = (2, 500, 0) := rfl
theorem rk_373 : RK 373 = (4, 100, 0) := rfl
theorem rk_374 : RK 374 = (4, 100, 0) := rfl
theorem rk_375 : RK 375 = (4, 128, 0) := rfl
theorem rk_376 : RK 376 = (2, 16, 0) := rfl
theorem rk_379 : RK 379 = (2, 4096, 0) := rfl
theorem rk_380 : RK 380 = (2, 514, 0) := rfl
theorem rk_381 : RK 381 = (4, 33, 0) := rfl
theorem rk_383 : RK 383 = (4, 16, 0) := rfl
theorem rk_384 : RK 384 = (2, 8, 0) := rfl
theorem rk_386 : RK 386 = (4, 100, 0) := rfl
theorem rk_387 : RK 387 = (4, 100, 0) := rfl
theorem rk_388 : RK 388 = (4, 100, 0) := rfl
theorem rk_389 : RK 389 = (4, 100, 0) := rfl
theorem rk_390 : RK 390 = (3, 100, 0) := rfl
theorem rk_391 : RK 391 = (3, 100, 0) := rfl
theorem rk_394 : RK 394 = (2, 100, 0) := rfl
theorem rk_395 : RK 395 = (2, 100, 0) := rfl
theorem rk_396 : RK 396 = (3, 100, 0) := rfl
theorem rk_397 : RK 397 = (3, 100, 0) := rfl
theorem rk_398 : RK 398 = (2, 3, 0) := rfl
theorem rk_399 : RK 399 = (2, 32, 0) := rfl
theorem rk_400 : RK 400 = (2, 32, 0) := rfl
theorem rk_401 : RK 401 = (2, 256, 0) := rfl
theorem rk_402 : RK 402 = (2, 1024, 0) := rfl
theorem rk_403 : RK 403 = (3, 1024, 0) := rfl
theorem rk_405 : RK 405 = (2, 160, 0) := rfl
theorem rk_407 : RK 407 = (2, 60, 0) := rfl
theorem rk_409 : RK 409 = (2, 60, 0) := rfl
theorem rk_410 : RK 410 = (2, 60, 0) := rfl
theorem rk_411 : RK 411 = (2, 60, 0) := rfl
theorem rk_500 : RK 500 = (2, 100, 0) := rfl
theorem rk_501 : RK 501 = (2, 100, 0) := rfl
theorem rk_502 : RK 502 = (2, 100, 0) := rfl
theorem rk_560 : RK 560 = (2, 16, 0) := rfl
theorem rk_561 : RK 561 = (2, 32, 0) := rfl
theorem rk_600 : RK 600 = (2, 40, 0) := rfl
theorem rk_703 : RK 703 = (2, 100, 0) := rfl
theorem rk_704 : RK 704 = (2, 100, 0) := rfl
theorem rk_900 : RK 900 = (7, 31, 0) := rfl
theorem rk_901 : RK 901 = (7, 31, 0) := rfl
theorem rk_902 : RK 902 = (8, 0, 0) := rfl
theorem ft_0_0 : FT 0 0 = (3, 100) := rfl
theorem ft_0_1 : FT 0 1 = (3, 101) := rfl
theorem ft_0_2 : FT 0 2 = (3, 102) := rfl
theorem ft_0_3 : FT 0 3 = (3, 103) := rfl
theorem ft_0_4 : FT 0 4 = (0, 0) := rfl
theorem ft_0_5 : FT 0 5 = (0, 0) := rfl
theorem ft_1_0 : FT 1 0 = (3, 120) := rfl
theorem ft_1_1 : FT 1 1 = (3, 121) := rfl
theorem ft_1_2 : FT 1 2 = (3, 122) := rfl
theorem ft_1_3 : FT 1 3 = (3, 123) := rfl
theorem ft_1_4 : FT 1 4 = (3, 124) := rfl
theorem ft_1_5 : FT 1 5 = (2, 0) := rfl
theorem ft_1_6 : FT 1 6 = (0, 0) := rfl
theorem ft_2_0 : FT 2 0 = (3, 140) := rfl
theorem ft_2_1 : FT 2 1 = (3, 141) := rfl
theorem ft_2_2 : FT 2 2 = (0, 0) := rfl
theorem ft_2_3 : FT 2 3 = (0, 0) := rfl
theorem ft_2_4 : FT 2 4 = (0, 0) := rfl
theorem ft_2_5 : FT 2 5 = (0, 0) := rfl
theorem ft_2_6 : FT 2 6 = (0, 0) := rfl
theorem ft_2_7 : FT 2 7 = (0, 0) := rfl
theorem ft_2_8 : FT 2 8 = (0, 0) := rfl
theorem ft_3_0 : FT 3 0 = (3, 160) := rfl
theorem ft_3_1 : FT 3 1 = (3, 161) := rfl
theorem ft_4_0 : FT 4 0 = (0, 0) := rfl
theorem ft_4_1 : FT 4 1 = (0, 0) := rfl
theorem ft_4_2 : FT 4 2 = (3, 10) := rfl
theorem ft_4_3 : FT 4 3 = (3, 8) := rfl
theorem ft_4_4 : FT 4 4 = (3, 184) := rfl
theorem ft_4_5 : FT 4 5 = (0, 0) := rfl
theorem ft_4_6 : FT 4 6 = (1, 0) := rfl
theorem ft_4_7 : FT 4 7 = (0, 0) := rfl
theorem ft_4_8 : FT 4 8 = (0, 0) := rfl
theorem ft_4_9 : FT 4 9 = (0, 0) := rfl
theorem ft_5_0 : FT 5 0 = (3, 200) := rfl
theorem ft_5_1 : FT 5 1 = (3, 201) := rfl
theorem ft_5_2 : FT 5 2 = (0, 0) := rfl
theorem ft_5_3 : FT 5 3 = (3, 203) := rfl
theorem ft_5_4 : FT 5 4 = (0, 0) := rfl
theorem ft_5_5 : FT 5 5 = (3, 205) := rfl
theorem ft_5_6 : FT 5 6 = (3, 206) := rfl
theorem ft_5_7 : FT 5 7 = (3, 207) := rfl
theorem ft_5_8 : FT 5 8 = (0, 0) := rfl
theorem ft_5_9 : FT 5 9 = (0, 0) := rfl
theorem ft_6_0 : FT 6 0 = (3, 4) := rfl
theorem ft_6_1 : FT 6 1 = (0, 0) := rfl
theorem ft_6_2 : FT 6 2 = (0, 0) := rfl
theorem ft_6_3 : FT 6 3 = (0, 0) := rfl
theorem ft_6_4 : FT 6 4 = (0, 0) := rfl
theorem ft_6_5 : FT 6 5 = (0, 0) := rfl
theorem ft_6_6 : FT 6 6 = (0, 0) := rfl
theorem ft_7_0 : FT 7 0 = (3, 240) := rfl
theorem ft_7_1 : FT 7 1 = (3, 241) := rfl
theorem ft_7_2 : FT 7 2 = (3, 242) := rfl
theorem ft_7_3 : FT 7 3 = (3, 243) := rfl
theorem ft_7_4 : FT 7 4 = (0, 0) := rfl
theorem ft_7_5 : FT 7 5 = (1, 0) := rfl
theorem ft_7_6 : FT 7 6 = (0, 0) := rfl
theorem ft_7_7 : FT 7 7 = (0, 0) := rfl
theorem ft_7_8 : FT 7 8 = (0, 0) := rfl
theorem ft_8_0 : FT 8 0 = (3, 260) := rfl
theorem ft_8_1 : FT 8 1 = (3, 261) := rfl
theorem ft_8_2 : FT 8 2 = (0, 0) := rfl
theorem ft_9_0 : FT 9 0 = (3, 280) := rfl
theorem ft_9_1 : FT 9 1 = (3, 281) := rfl
theorem ft_9_2 : FT 9 2 = (3, 282) := rfl
theorem ft_9_3 : FT 9 3 = (0, 0) := rfl
theorem ft_9_4 : FT 9 4 = (0, 0) := rfl
theorem ft_9_5 : FT 9 5 = (0, 0) := rfl
theorem ft_10_0 : FT 10 0 = (3, 300) := rfl
theorem ft_10_1 : FT 10 1 = (3, 301) := rfl
theorem ft_10_2 : FT 10 2 = (3, 302) := rfl
theorem ft_10_3 : FT 10 3 = (3, 303) := rfl
theorem ft_10_4 : FT 10 4 = (3, 304) := rfl
theorem ft_10_5 : FT 10 5 = (3, 305) := rfl
theorem ft_10_6 : FT 10 6 = (0, 0) := rfl
theorem ft_10_7 : FT 10 7 = (1, 0) := rfl
theorem ft_10_8 : FT 10 8 = (0, 0) := rfl
theorem ft_11_0 : FT 11 0 = (3, 320) := rfl
theorem ft_11_1 : FT 11 1 = (0, 0) := rfl
theorem ft_11_2 : FT 11 2 = (3, 1) := rfl
theorem ft_11_3 : FT 11 3 = (3, 7) := rfl
theorem ft_11_4 : FT 11 4 = (3, 7) := rfl
theorem ft_11_5 : FT 11 5 = (3, 2) := rfl
theorem ft_11_6 : FT 11 6 = (3, 9) := rfl
theorem ft_11_7 : FT 11 7 = (3, 0) := rfl
theorem ft_11_8 : FT 11 8 = (3, 0) := rfl
theorem ft_11_9 : FT 11 9 = (3, 329) := rfl
theorem ft_11_10 : FT 11 10 = (3, 3) := rfl
theorem ft_11_11 : FT 11 11 = (3, 5) := rfl
theorem ft_12_0 : FT 12 0 = (0, 0) := rfl
theorem ft_12_1 : FT 12 1 = (3, 341) := rfl
theorem ft_12_2 : FT 12 2 = (3, 342) := rfl
theorem ft_12_3 : FT 12 3 = (3, 343) := rfl
theorem ft_12_4 : FT 12 4 = (3, 344) := rfl
theorem ft_12_5 : FT 12 5 = (3, 345) := rfl
theorem ft_12_6 : FT 12 6 = (3, 346) := rfl
theorem ft_12_7 : FT 12 7 = (3, 347) := rfl
theorem ft_12_8 : FT 12 8 = (3, 348) := rfl
theorem ft_12_9 : FT 12 9 = (3, 349) := rfl
theorem ft_12_10 : FT 12 10 = (3, 350) := rfl
theorem ft_12_11 : FT 12 11 = (3, 351) := rfl
theorem ft_12_12 : FT 12 12 = (3, 352) := rfl
theorem ft_12_13 : FT 12 13 = (3, 353) := rfl
theorem ft_12_14 : FT 12 14 = (3, 354) := rfl
theorem ft_12_15 : FT 12 15 = (3, 355) := rfl
theorem ft_12_16 : FT 12 16 = (3, 356) := rfl
theorem ft_12_17 : FT 12 17 = (3, 357) := rfl
theorem ft_12_18 : FT 12 18 = (3, 358) := rfl
theorem ft_12_19 : FT 12 19 = (3, 359) := rfl
theorem ft_12_20 : FT 12 20 = (3, 360) := rfl
theorem ft_12_21 : FT 12 21 = (3, 361) := rfl
theorem ft_12_22 : FT 12 22 = (0, 0) := rfl
theorem ft_12_23 : FT 12 23 = (0, 0) := rfl
theorem ft_12_24 : FT 12 24 = (3, 364) := rfl
theorem ft_12_25 : FT 12 25 = (3, 365) := rfl
theorem ft_12_26 : FT 12 26 = (3, 366) := rfl
theorem ft_12_27 : FT 12 27 = (0, 0) := rfl
theorem ft_12_28 : FT 12 28 = (3, 368) := rfl
theorem ft_12_29 : FT 12 29 = (3, 369) := rfl
theorem ft_12_30 : FT 12 30 = (3, 370) := rfl
theorem ft_12_31 : FT 12 31 = (0, 0) := rfl
theorem ft_12_32 : FT 12 32 = (1, 0) := rfl
theorem ft_12_33 : FT 12 33 = (3, 373) := rfl
theorem ft_12_34 : FT 12 34 = (3, 374) := rfl
theorem ft_12_35 : FT 12 35 = (3, 375) := rfl
theorem ft_12_36 : FT 12 36 = (3, 376) := rfl
theorem ft_12_37 : FT 12 37 = (0, 0) := rfl
theorem ft_12_38 : FT 12 38 = (0, 0) := rfl
theorem ft_12_39 : FT 12 39 = (3, 379) := rfl
theorem ft_12_40 : FT 12 40 = (3, 380) := rfl
theorem ft_12_41 : FT 12 41 = (3, 381) := rfl
theorem ft_12_42 : FT 12 42 = (0, 0) := rfl
theorem ft_12_43 : FT 12 43 = (3, 383) := rfl
theorem ft_12_44 : FT 12 44 = (3, 384) := rfl
theorem ft_12_45 : FT 12 45 = (0, 0) := rfl
theorem ft_12_46 : FT 12 46 = (3, 386) := rfl
theorem ft_12_47 : FT 12 47 = (3, 387) := rfl
theorem ft_12_48 : FT 12 48 = (3, 388) := rfl
theorem ft_12_49 : FT 12 49 = (3, 389) := rfl
theorem ft_12_50 : FT 12 50 = (3, 390) := rfl
theorem ft_12_51 : FT 12 51 = (3, 391) := rfl
theorem ft_12_52 : FT 12 52 = (0, 0) := rfl
theorem ft_12_53 : FT 12 53 = (0, 0) := rfl
theorem ft_12_54 : FT 12 54 = (3, 394) := rfl
theorem ft_12_55 : FT 12 55 = (3, 395) := rfl
theorem ft_12_56 : FT 12 56 = (3, 396) := rfl
theorem ft_12_57 : FT 12 57 = (3, 397) := rfl
theorem ft_12_58 : FT 12 58 = (3, 398) := rfl
theorem ft_12_59 : FT 12 59 = (3, 399) := rfl
theorem ft_12_60 : FT 12 60 = (3, 400) := rfl
theorem ft_12_61 : FT 12 61 = (3, 401) := rfl
theorem ft_12_62 : FT 12 62 = (3, 402) := rfl
theorem ft_12_63 : FT 12 63 = (3, 403) := rfl
theorem ft_12_64 : FT 12 64 = (0, 0) := rfl
theorem ft_12_65 : FT 12 65 = (3, 405) := rfl
theorem ft_12_66 : FT 12 66 = (0, 0) := rfl
theorem ft_12_67 : FT 12 67 = (3, 407) := rfl
theorem ft_12_68 : FT 12 68 = (0, 0) := rfl
theorem ft_12_69 : FT 12 69 = (3, 409) := rfl
theorem ft_12_70 : FT 12 70 = (3, 410) := rfl
theorem ft_12_71 : FT 12 71 = (3, 411) := rfl
theorem in_1 {w : Cond} (i : Nat) (h : tables_1_1[i]? = some w) (hg : goodWord w = true) : w ∈ gw := List.mem_filter.mpr ⟨List.mem_append_right _ (by unfold tables_1; simp only [List.mem_append]; have := List.mem_of_getElem? h; simp only [this, true_or, or_true]), hg⟩
theorem in_2 {w : Cond} (i : Nat) (h : tables_1_2[i]? = some w) (hg : goodWord w = true) : w ∈ gw := List.mem_filter.mpr ⟨List.mem_append_right _ (by unfold tables_1; simp only [List.mem_append]; have := List.mem_of_getElem? h; simp only [this, true_or, or_true]), hg⟩
theorem in_3 {w : Cond} (i : Nat) (h : tables_1_3[i]? = some w) (hg : goodWord w = true) : w ∈ gw := List.mem_filter.mpr ⟨List.mem_append_right _ (by unfold tables_1; simp only [List.mem_append]; have := List.mem_of_getElem? h; simp only [this, true_or, or_true]), hg⟩
theorem in_4 {w : Cond} (i : Nat) (h : tables_1_4[i]? = some w) (hg : goodWord w = true) : w ∈ gw := List.mem_filter.mpr ⟨List.mem_append_right _ (by unfold tables_1; simp only [List.mem_append]; have := List.mem_of_getElem? h; simp only [this, true_or, or_true]), hg⟩
theorem in_5 {w : Cond} (i : Nat) (h : tables_1_5[i]? = some w) (hg : goodWord w = true) : w ∈ gw := List.mem_filter.mpr ⟨List.mem_append_right _ (by unfold tables_1; simp only [List.mem_append]; have := List.mem_of_getElem? h; simp only [this, true_or, or_true]), hg⟩
theorem in_6 {w : Cond} (i : Nat) (h : tables_1_6[i]? = some w) (hg : goodWord w = true) : w ∈ gw := List.mem_filter.mpr ⟨List.mem_append_right _ (by unfold tables_1; simp only [List.mem_append]; have := List.mem_of_getElem? h; simp only [this, true_or, or_true]), hg⟩
theorem in_7 {w : Cond} (i : Nat) (h : tables_1_7[i]? = some w) (hg : goodWord w = true) : w ∈ gw := List.mem_filter.mpr ⟨List.mem_append_right _ (by unfold tables_1; simp only [List.mem_append]; have := List.mem_of_getElem? h; simp only [this, true_or, or_true]), hg⟩
