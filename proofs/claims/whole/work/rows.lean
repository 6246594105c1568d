section
-- ===== PART A: goes FIRST, ahead of the names: the tables' words, and 'selects' of the private methods out of them =====
/-- a private method of a class that the tables say can be made, by its rows of tables_1 -/
def lw_okq (q : MethodName × Nat) : Prop := (q.1.cls ≠ "java/lang/invoke/MethodHandle" ∧ q.1.cls ≠ "java/lang/invoke/VarHandle") ∧ Cond.instantiable q.1.cls q.2 ∈ tables_1 ∧ Cond.privateMethod q.1 ∈ tables_1 ∧ Cond.instanceMethod q.1 ∈ tables_1
theorem lw_p0 : lw_okq (⟨"LetterFoundry", "letterOf", "(I)LLetterFoundry$Letter;"⟩, 12) := ⟨⟨by decide +kernel, by decide +kernel⟩, List.mem_of_getElem? (i := 18) (by decide +kernel), List.mem_of_getElem? (i := 435) (by decide +kernel), List.mem_of_getElem? (i := 436) (by decide +kernel)⟩
theorem lw_p1 : lw_okq (⟨"LetterFoundry$Shape", "firstBad", "()I"⟩, 9) := ⟨⟨by decide +kernel, by decide +kernel⟩, List.mem_of_getElem? (i := 316) (by decide +kernel), List.mem_of_getElem? (i := 478) (by decide +kernel), List.mem_of_getElem? (i := 479) (by decide +kernel)⟩
theorem lw_p2 : lw_okq (⟨"LetterFoundry$Shape", "exchange", "(II)V"⟩, 9) := ⟨⟨by decide +kernel, by decide +kernel⟩, List.mem_of_getElem? (i := 316) (by decide +kernel), List.mem_of_getElem? (i := 517) (by decide +kernel), List.mem_of_getElem? (i := 518) (by decide +kernel)⟩
theorem lw_p3 : lw_okq (⟨"LetterFoundry$Flattener", "addLetter", "(LLetterFoundry$Letter;ILLetterFoundry$Polygons;)V"⟩, 7) := ⟨⟨by decide +kernel, by decide +kernel⟩, List.mem_of_getElem? (i := 28) (by decide +kernel), List.mem_of_getElem? (i := 611) (by decide +kernel), List.mem_of_getElem? (i := 612) (by decide +kernel)⟩
theorem lw_p4 : lw_okq (⟨"LetterFoundry$Flattener", "addOutline", "(LLetterFoundry$Shape;IILLetterFoundry$Polygons;)V"⟩, 7) := ⟨⟨by decide +kernel, by decide +kernel⟩, List.mem_of_getElem? (i := 28) (by decide +kernel), List.mem_of_getElem? (i := 615) (by decide +kernel), List.mem_of_getElem? (i := 616) (by decide +kernel)⟩
theorem lw_p5 : lw_okq (⟨"LetterFoundry$Flattener", "place", "(LLetterFoundry$Shape;II)V"⟩, 7) := ⟨⟨by decide +kernel, by decide +kernel⟩, List.mem_of_getElem? (i := 28) (by decide +kernel), List.mem_of_getElem? (i := 621) (by decide +kernel), List.mem_of_getElem? (i := 622) (by decide +kernel)⟩
theorem lw_p6 : lw_okq (⟨"LetterFoundry$Polygons", "isLast", "(JJ)Z"⟩, 9) := ⟨⟨by decide +kernel, by decide +kernel⟩, List.mem_of_getElem? (i := 59) (by decide +kernel), List.mem_of_getElem? (i := 653) (by decide +kernel), List.mem_of_getElem? (i := 654) (by decide +kernel)⟩
theorem lw_p7 : lw_okq (⟨"LetterFoundry$Flattener", "addPiece", "(ILLetterFoundry$Polygons;)V"⟩, 7) := ⟨⟨by decide +kernel, by decide +kernel⟩, List.mem_of_getElem? (i := 28) (by decide +kernel), List.mem_of_getElem? (i := 657) (by decide +kernel), List.mem_of_getElem? (i := 658) (by decide +kernel)⟩
theorem lw_p8 : lw_okq (⟨"LetterFoundry$Flattener", "isFlat", "(I)Z"⟩, 7) := ⟨⟨by decide +kernel, by decide +kernel⟩, List.mem_of_getElem? (i := 28) (by decide +kernel), List.mem_of_getElem? (i := 661) (by decide +kernel), List.mem_of_getElem? (i := 662) (by decide +kernel)⟩
theorem lw_p9 : lw_okq (⟨"LetterFoundry$Flattener", "firstHalf", "([JI)V"⟩, 7) := ⟨⟨by decide +kernel, by decide +kernel⟩, List.mem_of_getElem? (i := 28) (by decide +kernel), List.mem_of_getElem? (i := 672) (by decide +kernel), List.mem_of_getElem? (i := 673) (by decide +kernel)⟩
theorem lw_p10 : lw_okq (⟨"LetterFoundry$Flattener", "secondHalf", "([JI)V"⟩, 7) := ⟨⟨by decide +kernel, by decide +kernel⟩, List.mem_of_getElem? (i := 28) (by decide +kernel), List.mem_of_getElem? (i := 679) (by decide +kernel), List.mem_of_getElem? (i := 680) (by decide +kernel)⟩
theorem lw_p11 : lw_okq (⟨"LetterFoundry", "takeSparePolygons", "()V"⟩, 12) := ⟨⟨by decide +kernel, by decide +kernel⟩, List.mem_of_getElem? (i := 18) (by decide +kernel), List.mem_of_getElem? (i := 687) (by decide +kernel), List.mem_of_getElem? (i := 688) (by decide +kernel)⟩
theorem lw_p12 : lw_okq (⟨"LetterFoundry$Polygons", "parts", "(IIII)Z"⟩, 9) := ⟨⟨by decide +kernel, by decide +kernel⟩, List.mem_of_getElem? (i := 59) (by decide +kernel), List.mem_of_getElem? (i := 723) (by decide +kernel), List.mem_of_getElem? (i := 724) (by decide +kernel)⟩
theorem lw_p13 : lw_okq (⟨"LetterFoundry$Polygons", "side", "(III)J"⟩, 9) := ⟨⟨by decide +kernel, by decide +kernel⟩, List.mem_of_getElem? (i := 59) (by decide +kernel), List.mem_of_getElem? (i := 727) (by decide +kernel), List.mem_of_getElem? (i := 728) (by decide +kernel)⟩
theorem lw_p14 : lw_okq (⟨"LetterFoundry$Image", "markRow", "(LLetterFoundry$Polygons;II)V"⟩, 9) := ⟨⟨by decide +kernel, by decide +kernel⟩, List.mem_of_getElem? (i := 103) (by decide +kernel), List.mem_of_getElem? (i := 752) (by decide +kernel), List.mem_of_getElem? (i := 753) (by decide +kernel)⟩
theorem lw_p15 : lw_okq (⟨"LetterFoundry$Image", "mark", "(II)V"⟩, 9) := ⟨⟨by decide +kernel, by decide +kernel⟩, List.mem_of_getElem? (i := 103) (by decide +kernel), List.mem_of_getElem? (i := 769) (by decide +kernel), List.mem_of_getElem? (i := 770) (by decide +kernel)⟩
def lw_privs_1 : List (MethodName × Nat) := [(⟨"LetterFoundry", "letterOf", "(I)LLetterFoundry$Letter;"⟩, 12), (⟨"LetterFoundry$Shape", "firstBad", "()I"⟩, 9), (⟨"LetterFoundry$Shape", "exchange", "(II)V"⟩, 9), (⟨"LetterFoundry$Flattener", "addLetter", "(LLetterFoundry$Letter;ILLetterFoundry$Polygons;)V"⟩, 7), (⟨"LetterFoundry$Flattener", "addOutline", "(LLetterFoundry$Shape;IILLetterFoundry$Polygons;)V"⟩, 7), (⟨"LetterFoundry$Flattener", "place", "(LLetterFoundry$Shape;II)V"⟩, 7), (⟨"LetterFoundry$Polygons", "isLast", "(JJ)Z"⟩, 9), (⟨"LetterFoundry$Flattener", "addPiece", "(ILLetterFoundry$Polygons;)V"⟩, 7), (⟨"LetterFoundry$Flattener", "isFlat", "(I)Z"⟩, 7), (⟨"LetterFoundry$Flattener", "firstHalf", "([JI)V"⟩, 7), (⟨"LetterFoundry$Flattener", "secondHalf", "([JI)V"⟩, 7), (⟨"LetterFoundry", "takeSparePolygons", "()V"⟩, 12), (⟨"LetterFoundry$Polygons", "parts", "(IIII)Z"⟩, 9), (⟨"LetterFoundry$Polygons", "side", "(III)J"⟩, 9), (⟨"LetterFoundry$Image", "markRow", "(LLetterFoundry$Polygons;II)V"⟩, 9), (⟨"LetterFoundry$Image", "mark", "(II)V"⟩, 9)]
theorem lw_r1 : ∀ q ∈ lw_privs_1, lw_okq q := List.forall_mem_cons.mpr ⟨lw_p0, List.forall_mem_cons.mpr ⟨lw_p1, List.forall_mem_cons.mpr ⟨lw_p2, List.forall_mem_cons.mpr ⟨lw_p3, List.forall_mem_cons.mpr ⟨lw_p4, List.forall_mem_cons.mpr ⟨lw_p5, List.forall_mem_cons.mpr ⟨lw_p6, List.forall_mem_cons.mpr ⟨lw_p7, List.forall_mem_cons.mpr ⟨lw_p8, List.forall_mem_cons.mpr ⟨lw_p9, List.forall_mem_cons.mpr ⟨lw_p10, List.forall_mem_cons.mpr ⟨lw_p11, List.forall_mem_cons.mpr ⟨lw_p12, List.forall_mem_cons.mpr ⟨lw_p13, List.forall_mem_cons.mpr ⟨lw_p14, List.forall_mem_cons.mpr ⟨lw_p15, fun _ h => absurd h List.not_mem_nil⟩⟩⟩⟩⟩⟩⟩⟩⟩⟩⟩⟩⟩⟩⟩⟩
theorem lw_p16 : lw_okq (⟨"LetterFoundry$Image", "countRow", "(II)V"⟩, 9) := ⟨⟨by decide +kernel, by decide +kernel⟩, List.mem_of_getElem? (i := 103) (by decide +kernel), List.mem_of_getElem? (i := 777) (by decide +kernel), List.mem_of_getElem? (i := 778) (by decide +kernel)⟩
theorem lw_p17 : lw_okq (⟨"LetterFoundry$Image", "measure", "()V"⟩, 9) := ⟨⟨by decide +kernel, by decide +kernel⟩, List.mem_of_getElem? (i := 103) (by decide +kernel), List.mem_of_getElem? (i := 781) (by decide +kernel), List.mem_of_getElem? (i := 782) (by decide +kernel)⟩
theorem lw_p18 : lw_okq (⟨"LetterFoundry$Runner", "step", "(LLetterFoundry$Program;LLetterFoundry$Fitting;)I"⟩, 6) := ⟨⟨by decide +kernel, by decide +kernel⟩, List.mem_of_getElem? (i := 138) (by decide +kernel), List.mem_of_getElem? (i := 842) (by decide +kernel), List.mem_of_getElem? (i := 843) (by decide +kernel)⟩
theorem lw_p19 : lw_okq (⟨"LetterFoundry$Runner", "faultAhead", "(IIILLetterFoundry$Fitting;)I"⟩, 6) := ⟨⟨by decide +kernel, by decide +kernel⟩, List.mem_of_getElem? (i := 138) (by decide +kernel), List.mem_of_getElem? (i := 846) (by decide +kernel), List.mem_of_getElem? (i := 847) (by decide +kernel)⟩
theorem lw_p20 : lw_okq (⟨"LetterFoundry$Runner", "carry", "(II)V"⟩, 6) := ⟨⟨by decide +kernel, by decide +kernel⟩, List.mem_of_getElem? (i := 138) (by decide +kernel), List.mem_of_getElem? (i := 865) (by decide +kernel), List.mem_of_getElem? (i := 866) (by decide +kernel)⟩
theorem lw_p21 : lw_okq (⟨"LetterFoundry$Runner", "push", "(I)V"⟩, 6) := ⟨⟨by decide +kernel, by decide +kernel⟩, List.mem_of_getElem? (i := 138) (by decide +kernel), List.mem_of_getElem? (i := 869) (by decide +kernel), List.mem_of_getElem? (i := 870) (by decide +kernel)⟩
theorem lw_p22 : lw_okq (⟨"LetterFoundry$Runner", "pop", "()I"⟩, 6) := ⟨⟨by decide +kernel, by decide +kernel⟩, List.mem_of_getElem? (i := 138) (by decide +kernel), List.mem_of_getElem? (i := 873) (by decide +kernel), List.mem_of_getElem? (i := 874) (by decide +kernel)⟩
theorem lw_p23 : lw_okq (⟨"LetterFoundry$Runner", "changeTwo", "()V"⟩, 6) := ⟨⟨by decide +kernel, by decide +kernel⟩, List.mem_of_getElem? (i := 138) (by decide +kernel), List.mem_of_getElem? (i := 877) (by decide +kernel), List.mem_of_getElem? (i := 878) (by decide +kernel)⟩
theorem lw_p24 : lw_okq (⟨"LetterFoundry$Runner", "pushNumber", "(J)I"⟩, 6) := ⟨⟨by decide +kernel, by decide +kernel⟩, List.mem_of_getElem? (i := 138) (by decide +kernel), List.mem_of_getElem? (i := 891) (by decide +kernel), List.mem_of_getElem? (i := 892) (by decide +kernel)⟩
theorem lw_p25 : lw_okq (⟨"LetterFoundry$Runner", "reckonTwo", "(I)I"⟩, 6) := ⟨⟨by decide +kernel, by decide +kernel⟩, List.mem_of_getElem? (i := 138) (by decide +kernel), List.mem_of_getElem? (i := 897) (by decide +kernel), List.mem_of_getElem? (i := 898) (by decide +kernel)⟩
theorem lw_p26 : lw_okq (⟨"LetterFoundry$Runner", "go", "(III)V"⟩, 6) := ⟨⟨by decide +kernel, by decide +kernel⟩, List.mem_of_getElem? (i := 138) (by decide +kernel), List.mem_of_getElem? (i := 906) (by decide +kernel), List.mem_of_getElem? (i := 907) (by decide +kernel)⟩
theorem lw_p27 : lw_okq (⟨"LetterFoundry$Runner", "usePoint", "(IILLetterFoundry$Fitting;)V"⟩, 6) := ⟨⟨by decide +kernel, by decide +kernel⟩, List.mem_of_getElem? (i := 138) (by decide +kernel), List.mem_of_getElem? (i := 910) (by decide +kernel), List.mem_of_getElem? (i := 911) (by decide +kernel)⟩
theorem lw_p28 : lw_okq (⟨"LetterFoundry$Fitting", "fitOutline", "(III)Z"⟩, 6) := ⟨⟨by decide +kernel, by decide +kernel⟩, List.mem_of_getElem? (i := 163) (by decide +kernel), List.mem_of_getElem? (i := 922) (by decide +kernel), List.mem_of_getElem? (i := 923) (by decide +kernel)⟩
theorem lw_p29 : lw_okq (⟨"LetterFoundry$Fitting", "touchedBehind", "(IIII)I"⟩, 6) := ⟨⟨by decide +kernel, by decide +kernel⟩, List.mem_of_getElem? (i := 163) (by decide +kernel), List.mem_of_getElem? (i := 926) (by decide +kernel), List.mem_of_getElem? (i := 927) (by decide +kernel)⟩
theorem lw_p30 : lw_okq (⟨"LetterFoundry$Fitting", "placeBetween", "(IIIJ)J"⟩, 6) := ⟨⟨by decide +kernel, by decide +kernel⟩, List.mem_of_getElem? (i := 163) (by decide +kernel), List.mem_of_getElem? (i := 930) (by decide +kernel), List.mem_of_getElem? (i := 931) (by decide +kernel)⟩
theorem lw_p31 : lw_okq (⟨"LetterFoundry", "weighed", "([[II)I"⟩, 12) := ⟨⟨by decide +kernel, by decide +kernel⟩, List.mem_of_getElem? (i := 18) (by decide +kernel), List.mem_of_getElem? (i := 964) (by decide +kernel), List.mem_of_getElem? (i := 965) (by decide +kernel)⟩
def lw_privs_2 : List (MethodName × Nat) := [(⟨"LetterFoundry$Image", "countRow", "(II)V"⟩, 9), (⟨"LetterFoundry$Image", "measure", "()V"⟩, 9), (⟨"LetterFoundry$Runner", "step", "(LLetterFoundry$Program;LLetterFoundry$Fitting;)I"⟩, 6), (⟨"LetterFoundry$Runner", "faultAhead", "(IIILLetterFoundry$Fitting;)I"⟩, 6), (⟨"LetterFoundry$Runner", "carry", "(II)V"⟩, 6), (⟨"LetterFoundry$Runner", "push", "(I)V"⟩, 6), (⟨"LetterFoundry$Runner", "pop", "()I"⟩, 6), (⟨"LetterFoundry$Runner", "changeTwo", "()V"⟩, 6), (⟨"LetterFoundry$Runner", "pushNumber", "(J)I"⟩, 6), (⟨"LetterFoundry$Runner", "reckonTwo", "(I)I"⟩, 6), (⟨"LetterFoundry$Runner", "go", "(III)V"⟩, 6), (⟨"LetterFoundry$Runner", "usePoint", "(IILLetterFoundry$Fitting;)V"⟩, 6), (⟨"LetterFoundry$Fitting", "fitOutline", "(III)Z"⟩, 6), (⟨"LetterFoundry$Fitting", "touchedBehind", "(IIII)I"⟩, 6), (⟨"LetterFoundry$Fitting", "placeBetween", "(IIIJ)J"⟩, 6), (⟨"LetterFoundry", "weighed", "([[II)I"⟩, 12)]
theorem lw_r2 : ∀ q ∈ lw_privs_2, lw_okq q := List.forall_mem_cons.mpr ⟨lw_p16, List.forall_mem_cons.mpr ⟨lw_p17, List.forall_mem_cons.mpr ⟨lw_p18, List.forall_mem_cons.mpr ⟨lw_p19, List.forall_mem_cons.mpr ⟨lw_p20, List.forall_mem_cons.mpr ⟨lw_p21, List.forall_mem_cons.mpr ⟨lw_p22, List.forall_mem_cons.mpr ⟨lw_p23, List.forall_mem_cons.mpr ⟨lw_p24, List.forall_mem_cons.mpr ⟨lw_p25, List.forall_mem_cons.mpr ⟨lw_p26, List.forall_mem_cons.mpr ⟨lw_p27, List.forall_mem_cons.mpr ⟨lw_p28, List.forall_mem_cons.mpr ⟨lw_p29, List.forall_mem_cons.mpr ⟨lw_p30, List.forall_mem_cons.mpr ⟨lw_p31, fun _ h => absurd h List.not_mem_nil⟩⟩⟩⟩⟩⟩⟩⟩⟩⟩⟩⟩⟩⟩⟩⟩
theorem lw_p32 : lw_okq (⟨"LetterFoundry$Line", "ruleAt", "(I)I"⟩, 10) := ⟨⟨by decide +kernel, by decide +kernel⟩, List.mem_of_getElem? (i := 212) (by decide +kernel), List.mem_of_getElem? (i := 1019) (by decide +kernel), List.mem_of_getElem? (i := 1020) (by decide +kernel)⟩
theorem lw_p33 : lw_okq (⟨"LetterFoundry$Line", "sizeOf", "(I)I"⟩, 10) := ⟨⟨by decide +kernel, by decide +kernel⟩, List.mem_of_getElem? (i := 212) (by decide +kernel), List.mem_of_getElem? (i := 1023) (by decide +kernel), List.mem_of_getElem? (i := 1024) (by decide +kernel)⟩
theorem lw_p34 : lw_okq (⟨"LetterFoundry$Line", "fitsAt", "(II)Z"⟩, 10) := ⟨⟨by decide +kernel, by decide +kernel⟩, List.mem_of_getElem? (i := 212) (by decide +kernel), List.mem_of_getElem? (i := 1027) (by decide +kernel), List.mem_of_getElem? (i := 1028) (by decide +kernel)⟩
theorem lw_p35 : lw_okq (⟨"LetterFoundry$Line", "place", "([LLetterFoundry$Letter;IILLetterFoundry$Kerning;)V"⟩, 10) := ⟨⟨by decide +kernel, by decide +kernel⟩, List.mem_of_getElem? (i := 212) (by decide +kernel), List.mem_of_getElem? (i := 1032) (by decide +kernel), List.mem_of_getElem? (i := 1033) (by decide +kernel)⟩
theorem lw_p36 : lw_okq (⟨"LetterFoundryModel", "isLetter", "(I)Z"⟩, 72) := ⟨⟨by decide +kernel, by decide +kernel⟩, List.mem_of_getElem? (i := 1045) (by decide +kernel), List.mem_of_getElem? (i := 1285) (by decide +kernel), List.mem_of_getElem? (i := 1286) (by decide +kernel)⟩
theorem lw_p37 : lw_okq (⟨"LetterFoundryModel", "closed", "(I)I"⟩, 72) := ⟨⟨by decide +kernel, by decide +kernel⟩, List.mem_of_getElem? (i := 1045) (by decide +kernel), List.mem_of_getElem? (i := 1296) (by decide +kernel), List.mem_of_getElem? (i := 1297) (by decide +kernel)⟩
theorem lw_p38 : lw_okq (⟨"LetterFoundryModel", "bad", "(I)I"⟩, 72) := ⟨⟨by decide +kernel, by decide +kernel⟩, List.mem_of_getElem? (i := 1045) (by decide +kernel), List.mem_of_getElem? (i := 1304) (by decide +kernel), List.mem_of_getElem? (i := 1305) (by decide +kernel)⟩
theorem lw_p39 : lw_okq (⟨"LetterFoundryModel", "isPoint", "(II)Z"⟩, 72) := ⟨⟨by decide +kernel, by decide +kernel⟩, List.mem_of_getElem? (i := 1045) (by decide +kernel), List.mem_of_getElem? (i := 1316) (by decide +kernel), List.mem_of_getElem? (i := 1317) (by decide +kernel)⟩
theorem lw_p40 : lw_okq (⟨"LetterFoundryModel", "beginOf", "(II)I"⟩, 72) := ⟨⟨by decide +kernel, by decide +kernel⟩, List.mem_of_getElem? (i := 1045) (by decide +kernel), List.mem_of_getElem? (i := 1324) (by decide +kernel), List.mem_of_getElem? (i := 1325) (by decide +kernel)⟩
theorem lw_p41 : lw_okq (⟨"LetterFoundryModel", "swap", "([III)V"⟩, 72) := ⟨⟨by decide +kernel, by decide +kernel⟩, List.mem_of_getElem? (i := 1045) (by decide +kernel), List.mem_of_getElem? (i := 1328) (by decide +kernel), List.mem_of_getElem? (i := 1329) (by decide +kernel)⟩
theorem lw_p42 : lw_okq (⟨"LetterFoundryModel", "depth", "(I)I"⟩, 72) := ⟨⟨by decide +kernel, by decide +kernel⟩, List.mem_of_getElem? (i := 1045) (by decide +kernel), List.mem_of_getElem? (i := 1336) (by decide +kernel), List.mem_of_getElem? (i := 1337) (by decide +kernel)⟩
theorem lw_p43 : lw_okq (⟨"LetterFoundryModel", "flattens", "(II)Z"⟩, 72) := ⟨⟨by decide +kernel, by decide +kernel⟩, List.mem_of_getElem? (i := 1045) (by decide +kernel), List.mem_of_getElem? (i := 1360) (by decide +kernel), List.mem_of_getElem? (i := 1361) (by decide +kernel)⟩
theorem lw_p44 : lw_okq (⟨"LetterFoundryModel", "outlineOf", "(IIII)V"⟩, 72) := ⟨⟨by decide +kernel, by decide +kernel⟩, List.mem_of_getElem? (i := 1045) (by decide +kernel), List.mem_of_getElem? (i := 1364) (by decide +kernel), List.mem_of_getElem? (i := 1365) (by decide +kernel)⟩
theorem lw_p45 : lw_okq (⟨"LetterFoundryModel", "adds", "(JJ)V"⟩, 72) := ⟨⟨by decide +kernel, by decide +kernel⟩, List.mem_of_getElem? (i := 1045) (by decide +kernel), List.mem_of_getElem? (i := 1373) (by decide +kernel), List.mem_of_getElem? (i := 1374) (by decide +kernel)⟩
theorem lw_p46 : lw_okq (⟨"LetterFoundryModel", "curve", "(IIII)V"⟩, 72) := ⟨⟨by decide +kernel, by decide +kernel⟩, List.mem_of_getElem? (i := 1045) (by decide +kernel), List.mem_of_getElem? (i := 1379) (by decide +kernel), List.mem_of_getElem? (i := 1380) (by decide +kernel)⟩
theorem lw_p47 : lw_okq (⟨"LetterFoundryModel", "isFlat", "(IIJ)Z"⟩, 72) := ⟨⟨by decide +kernel, by decide +kernel⟩, List.mem_of_getElem? (i := 1045) (by decide +kernel), List.mem_of_getElem? (i := 1385) (by decide +kernel), List.mem_of_getElem? (i := 1386) (by decide +kernel)⟩
def lw_privs_3 : List (MethodName × Nat) := [(⟨"LetterFoundry$Line", "ruleAt", "(I)I"⟩, 10), (⟨"LetterFoundry$Line", "sizeOf", "(I)I"⟩, 10), (⟨"LetterFoundry$Line", "fitsAt", "(II)Z"⟩, 10), (⟨"LetterFoundry$Line", "place", "([LLetterFoundry$Letter;IILLetterFoundry$Kerning;)V"⟩, 10), (⟨"LetterFoundryModel", "isLetter", "(I)Z"⟩, 72), (⟨"LetterFoundryModel", "closed", "(I)I"⟩, 72), (⟨"LetterFoundryModel", "bad", "(I)I"⟩, 72), (⟨"LetterFoundryModel", "isPoint", "(II)Z"⟩, 72), (⟨"LetterFoundryModel", "beginOf", "(II)I"⟩, 72), (⟨"LetterFoundryModel", "swap", "([III)V"⟩, 72), (⟨"LetterFoundryModel", "depth", "(I)I"⟩, 72), (⟨"LetterFoundryModel", "flattens", "(II)Z"⟩, 72), (⟨"LetterFoundryModel", "outlineOf", "(IIII)V"⟩, 72), (⟨"LetterFoundryModel", "adds", "(JJ)V"⟩, 72), (⟨"LetterFoundryModel", "curve", "(IIII)V"⟩, 72), (⟨"LetterFoundryModel", "isFlat", "(IIJ)Z"⟩, 72)]
theorem lw_r3 : ∀ q ∈ lw_privs_3, lw_okq q := List.forall_mem_cons.mpr ⟨lw_p32, List.forall_mem_cons.mpr ⟨lw_p33, List.forall_mem_cons.mpr ⟨lw_p34, List.forall_mem_cons.mpr ⟨lw_p35, List.forall_mem_cons.mpr ⟨lw_p36, List.forall_mem_cons.mpr ⟨lw_p37, List.forall_mem_cons.mpr ⟨lw_p38, List.forall_mem_cons.mpr ⟨lw_p39, List.forall_mem_cons.mpr ⟨lw_p40, List.forall_mem_cons.mpr ⟨lw_p41, List.forall_mem_cons.mpr ⟨lw_p42, List.forall_mem_cons.mpr ⟨lw_p43, List.forall_mem_cons.mpr ⟨lw_p44, List.forall_mem_cons.mpr ⟨lw_p45, List.forall_mem_cons.mpr ⟨lw_p46, List.forall_mem_cons.mpr ⟨lw_p47, fun _ h => absurd h List.not_mem_nil⟩⟩⟩⟩⟩⟩⟩⟩⟩⟩⟩⟩⟩⟩⟩⟩
theorem lw_p48 : lw_okq (⟨"LetterFoundryModel", "halves", "(I)V"⟩, 72) := ⟨⟨by decide +kernel, by decide +kernel⟩, List.mem_of_getElem? (i := 1045) (by decide +kernel), List.mem_of_getElem? (i := 1392) (by decide +kernel), List.mem_of_getElem? (i := 1393) (by decide +kernel)⟩
theorem lw_p49 : lw_okq (⟨"LetterFoundryModel", "told", "()V"⟩, 72) := ⟨⟨by decide +kernel, by decide +kernel⟩, List.mem_of_getElem? (i := 1045) (by decide +kernel), List.mem_of_getElem? (i := 1396) (by decide +kernel), List.mem_of_getElem? (i := 1397) (by decide +kernel)⟩
theorem lw_p50 : lw_okq (⟨"LetterFoundryModel", "next", "(I)I"⟩, 72) := ⟨⟨by decide +kernel, by decide +kernel⟩, List.mem_of_getElem? (i := 1045) (by decide +kernel), List.mem_of_getElem? (i := 1409) (by decide +kernel), List.mem_of_getElem? (i := 1410) (by decide +kernel)⟩
theorem lw_p51 : lw_okq (⟨"LetterFoundryModel", "sideOf", "(III)I"⟩, 72) := ⟨⟨by decide +kernel, by decide +kernel⟩, List.mem_of_getElem? (i := 1045) (by decide +kernel), List.mem_of_getElem? (i := 1424) (by decide +kernel), List.mem_of_getElem? (i := 1425) (by decide +kernel)⟩
theorem lw_p52 : lw_okq (⟨"LetterFoundryModel", "isImage", "(I)Z"⟩, 72) := ⟨⟨by decide +kernel, by decide +kernel⟩, List.mem_of_getElem? (i := 1045) (by decide +kernel), List.mem_of_getElem? (i := 1435) (by decide +kernel), List.mem_of_getElem? (i := 1436) (by decide +kernel)⟩
theorem lw_p53 : lw_okq (⟨"LetterFoundryModel", "steps", "(II)V"⟩, 72) := ⟨⟨by decide +kernel, by decide +kernel⟩, List.mem_of_getElem? (i := 1045) (by decide +kernel), List.mem_of_getElem? (i := 1440) (by decide +kernel), List.mem_of_getElem? (i := 1441) (by decide +kernel)⟩
theorem lw_p54 : lw_okq (⟨"LetterFoundryModel", "does", "(II)I"⟩, 72) := ⟨⟨by decide +kernel, by decide +kernel⟩, List.mem_of_getElem? (i := 1045) (by decide +kernel), List.mem_of_getElem? (i := 1472) (by decide +kernel), List.mem_of_getElem? (i := 1473) (by decide +kernel)⟩
theorem lw_p55 : lw_okq (⟨"LetterFoundryModel", "faultOf", "(III)I"⟩, 72) := ⟨⟨by decide +kernel, by decide +kernel⟩, List.mem_of_getElem? (i := 1045) (by decide +kernel), List.mem_of_getElem? (i := 1476) (by decide +kernel), List.mem_of_getElem? (i := 1477) (by decide +kernel)⟩
theorem lw_p56 : lw_okq (⟨"LetterFoundryModel", "pop", "()J"⟩, 72) := ⟨⟨by decide +kernel, by decide +kernel⟩, List.mem_of_getElem? (i := 1045) (by decide +kernel), List.mem_of_getElem? (i := 1489) (by decide +kernel), List.mem_of_getElem? (i := 1490) (by decide +kernel)⟩
theorem lw_p57 : lw_okq (⟨"LetterFoundryModel", "push", "(J)V"⟩, 72) := ⟨⟨by decide +kernel, by decide +kernel⟩, List.mem_of_getElem? (i := 1045) (by decide +kernel), List.mem_of_getElem? (i := 1496) (by decide +kernel), List.mem_of_getElem? (i := 1497) (by decide +kernel)⟩
theorem lw_p58 : lw_okq (⟨"LetterFoundryModel", "puts", "([J[ZIJ)V"⟩, 72) := ⟨⟨by decide +kernel, by decide +kernel⟩, List.mem_of_getElem? (i := 1045) (by decide +kernel), List.mem_of_getElem? (i := 1505) (by decide +kernel), List.mem_of_getElem? (i := 1506) (by decide +kernel)⟩
theorem lw_p59 : lw_okq (⟨"LetterFoundryModel", "fits", "(I[J[J[Z)V"⟩, 72) := ⟨⟨by decide +kernel, by decide +kernel⟩, List.mem_of_getElem? (i := 1045) (by decide +kernel), List.mem_of_getElem? (i := 1509) (by decide +kernel), List.mem_of_getElem? (i := 1510) (by decide +kernel)⟩
theorem lw_p60 : lw_okq (⟨"LetterFoundryModel", "ruleAt", "(I)I"⟩, 72) := ⟨⟨by decide +kernel, by decide +kernel⟩, List.mem_of_getElem? (i := 1045) (by decide +kernel), List.mem_of_getElem? (i := 1564) (by decide +kernel), List.mem_of_getElem? (i := 1565) (by decide +kernel)⟩
theorem lw_p61 : lw_okq (⟨"LetterFoundryModel", "manyOf", "(I)I"⟩, 72) := ⟨⟨by decide +kernel, by decide +kernel⟩, List.mem_of_getElem? (i := 1045) (by decide +kernel), List.mem_of_getElem? (i := 1568) (by decide +kernel), List.mem_of_getElem? (i := 1569) (by decide +kernel)⟩
theorem lw_p62 : lw_okq (⟨"LetterFoundryModel", "letterOf", "(I)I"⟩, 72) := ⟨⟨by decide +kernel, by decide +kernel⟩, List.mem_of_getElem? (i := 1045) (by decide +kernel), List.mem_of_getElem? (i := 1572) (by decide +kernel), List.mem_of_getElem? (i := 1573) (by decide +kernel)⟩
def lw_privs_4 : List (MethodName × Nat) := [(⟨"LetterFoundryModel", "halves", "(I)V"⟩, 72), (⟨"LetterFoundryModel", "told", "()V"⟩, 72), (⟨"LetterFoundryModel", "next", "(I)I"⟩, 72), (⟨"LetterFoundryModel", "sideOf", "(III)I"⟩, 72), (⟨"LetterFoundryModel", "isImage", "(I)Z"⟩, 72), (⟨"LetterFoundryModel", "steps", "(II)V"⟩, 72), (⟨"LetterFoundryModel", "does", "(II)I"⟩, 72), (⟨"LetterFoundryModel", "faultOf", "(III)I"⟩, 72), (⟨"LetterFoundryModel", "pop", "()J"⟩, 72), (⟨"LetterFoundryModel", "push", "(J)V"⟩, 72), (⟨"LetterFoundryModel", "puts", "([J[ZIJ)V"⟩, 72), (⟨"LetterFoundryModel", "fits", "(I[J[J[Z)V"⟩, 72), (⟨"LetterFoundryModel", "ruleAt", "(I)I"⟩, 72), (⟨"LetterFoundryModel", "manyOf", "(I)I"⟩, 72), (⟨"LetterFoundryModel", "letterOf", "(I)I"⟩, 72)]
theorem lw_r4 : ∀ q ∈ lw_privs_4, lw_okq q := List.forall_mem_cons.mpr ⟨lw_p48, List.forall_mem_cons.mpr ⟨lw_p49, List.forall_mem_cons.mpr ⟨lw_p50, List.forall_mem_cons.mpr ⟨lw_p51, List.forall_mem_cons.mpr ⟨lw_p52, List.forall_mem_cons.mpr ⟨lw_p53, List.forall_mem_cons.mpr ⟨lw_p54, List.forall_mem_cons.mpr ⟨lw_p55, List.forall_mem_cons.mpr ⟨lw_p56, List.forall_mem_cons.mpr ⟨lw_p57, List.forall_mem_cons.mpr ⟨lw_p58, List.forall_mem_cons.mpr ⟨lw_p59, List.forall_mem_cons.mpr ⟨lw_p60, List.forall_mem_cons.mpr ⟨lw_p61, List.forall_mem_cons.mpr ⟨lw_p62, fun _ h => absurd h List.not_mem_nil⟩⟩⟩⟩⟩⟩⟩⟩⟩⟩⟩⟩⟩⟩⟩
def lw_privs : List (MethodName × Nat) := lw_privs_1 ++ (lw_privs_2 ++ (lw_privs_3 ++ (lw_privs_4)))
def lw_tbl : List Cond := k2_sels lw_privs ++ tables_1
theorem lw_privs_ok : ∀ q ∈ lw_privs, lw_okq q := by
  show ∀ q ∈ lw_privs_1 ++ (lw_privs_2 ++ (lw_privs_3 ++ (lw_privs_4))), lw_okq q
  exact List.forall_mem_append.mpr ⟨lw_r1, List.forall_mem_append.mpr ⟨lw_r2, List.forall_mem_append.mpr ⟨lw_r3, lw_r4⟩⟩⟩

def R_0 : String := "LetterFoundry$Fitting"
def T_0 : u_T := fun k => match k with
  | 0 => ("LetterFoundry$Fitting", "first", "[[I", true)
  | 1 => ("LetterFoundry$Fitting", "now", "[[I", true)
  | 2 => ("LetterFoundry$Fitting", "touched", "[[I", true)
  | 3 => ("LetterFoundry$Fitting", "ends", "[I", true)
  | 4 => ("LetterFoundry$Fitting", "outlines", "I", false)
  | _ => ("LetterFoundry$Fitting", "points", "I", false)
def ty_0 : Nat → FieldType := fun k => match k with
  | 0 => (.array (.array .int))
  | 1 => (.array (.array .int))
  | 2 => (.array (.array .int))
  | 3 => (.array .int)
  | 4 => .int
  | _ => .int
theorem nm_0 : ∀ a, a < 6 → ∀ b, b < 6 → a ≠ b → (T_0 a).2.1 ≠ (T_0 b).2.1 := by decide +kernel
theorem tyok_0 : ∀ k, k < 6 → parseFieldDescriptor (T_0 k).2.2.1 = some (ty_0 k) := by decide +kernel
def R_1 : String := "LetterFoundry$Flattener"
def T_1 : u_T := fun k => match k with
  | 0 => ("LetterFoundry$Flattener", "x", "[J", true)
  | 1 => ("LetterFoundry$Flattener", "y", "[J", true)
  | 2 => ("LetterFoundry$Flattener", "placedX", "[J", true)
  | 3 => ("LetterFoundry$Flattener", "placedY", "[J", true)
  | 4 => ("LetterFoundry$Flattener", "path", "[LLetterFoundry$Part;", true)
  | 5 => ("LetterFoundry$Flattener", "limit", "J", false)
  | _ => ("LetterFoundry$Flattener", "degree", "I", false)
def ty_1 : Nat → FieldType := fun k => match k with
  | 0 => (.array .long)
  | 1 => (.array .long)
  | 2 => (.array .long)
  | 3 => (.array .long)
  | 4 => (.array (.object "LetterFoundry$Part"))
  | 5 => .long
  | _ => .int
theorem nm_1 : ∀ a, a < 7 → ∀ b, b < 7 → a ≠ b → (T_1 a).2.1 ≠ (T_1 b).2.1 := by decide +kernel
theorem tyok_1 : ∀ k, k < 7 → parseFieldDescriptor (T_1 k).2.2.1 = some (ty_1 k) := by decide +kernel
def R_2 : String := "LetterFoundry$Image"
def T_2 : u_T := fun k => match k with
  | 0 => ("LetterFoundry$Image", "counts", "[I", true)
  | 1 => ("LetterFoundry$Image", "marks", "[I", true)
  | 2 => ("LetterFoundry$Image", "leastMark", "I", false)
  | 3 => ("LetterFoundry$Image", "greatestMark", "I", false)
  | 4 => ("LetterFoundry$Image", "filled", "I", false)
  | 5 => ("LetterFoundry$Image", "leastI", "I", false)
  | 6 => ("LetterFoundry$Image", "leastJ", "I", false)
  | 7 => ("LetterFoundry$Image", "greatestI", "I", false)
  | _ => ("LetterFoundry$Image", "greatestJ", "I", false)
def ty_2 : Nat → FieldType := fun k => match k with
  | 0 => (.array .int)
  | 1 => (.array .int)
  | 2 => .int
  | 3 => .int
  | 4 => .int
  | 5 => .int
  | 6 => .int
  | 7 => .int
  | _ => .int
theorem nm_2 : ∀ a, a < 9 → ∀ b, b < 9 → a ≠ b → (T_2 a).2.1 ≠ (T_2 b).2.1 := by decide +kernel
theorem tyok_2 : ∀ k, k < 9 → parseFieldDescriptor (T_2 k).2.2.1 = some (ty_2 k) := by decide +kernel
def R_3 : String := "LetterFoundry$Kerning"
def T_3 : u_T := fun k => match k with
  | 0 => ("LetterFoundry$Kerning", "ofClasses", "[[I", true)
  | _ => ("LetterFoundry$Kerning", "ofLetters", "[[I", true)
def ty_3 : Nat → FieldType := fun k => match k with
  | 0 => (.array (.array .int))
  | _ => (.array (.array .int))
theorem nm_3 : ∀ a, a < 2 → ∀ b, b < 2 → a ≠ b → (T_3 a).2.1 ≠ (T_3 b).2.1 := by decide +kernel
theorem tyok_3 : ∀ k, k < 2 → parseFieldDescriptor (T_3 k).2.2.1 = some (ty_3 k) := by decide +kernel
def R_4 : String := "LetterFoundry$Letter"
def T_4 : u_T := fun k => match k with
  | 0 => ("LetterFoundry$Letter", "code", "I", true)
  | 1 => ("LetterFoundry$Letter", "width", "I", true)
  | 2 => ("LetterFoundry$Letter", "shape", "LLetterFoundry$Shape;", true)
  | 3 => ("LetterFoundry$Letter", "program", "LLetterFoundry$Program;", true)
  | 4 => ("LetterFoundry$Letter", "parts", "[LLetterFoundry$Part;", true)
  | 5 => ("LetterFoundry$Letter", "partCount", "I", false)
  | 6 => ("LetterFoundry$Letter", "isPart", "Z", false)
  | 7 => ("LetterFoundry$Letter", "depth", "I", false)
  | 8 => ("LetterFoundry$Letter", "leftClass", "I", false)
  | _ => ("LetterFoundry$Letter", "rightClass", "I", false)
def ty_4 : Nat → FieldType := fun k => match k with
  | 0 => .int
  | 1 => .int
  | 2 => (.object "LetterFoundry$Shape")
  | 3 => (.object "LetterFoundry$Program")
  | 4 => (.array (.object "LetterFoundry$Part"))
  | 5 => .int
  | 6 => .boolean
  | 7 => .int
  | 8 => .int
  | _ => .int
theorem nm_4 : ∀ a, a < 10 → ∀ b, b < 10 → a ≠ b → (T_4 a).2.1 ≠ (T_4 b).2.1 := by decide +kernel
theorem tyok_4 : ∀ k, k < 10 → parseFieldDescriptor (T_4 k).2.2.1 = some (ty_4 k) := by decide +kernel
def R_5 : String := "LetterFoundry$Line"
def T_5 : u_T := fun k => match k with
  | 0 => ("LetterFoundry$Line", "rules", "[[I", true)
  | 1 => ("LetterFoundry$Line", "results", "[I", true)
  | 2 => ("LetterFoundry$Line", "ruleCount", "I", false)
  | 3 => ("LetterFoundry$Line", "signs", "[I", true)
  | 4 => ("LetterFoundry$Line", "signCount", "I", false)
  | 5 => ("LetterFoundry$Line", "placedLetter", "[I", true)
  | 6 => ("LetterFoundry$Line", "placedAt", "[I", true)
  | 7 => ("LetterFoundry$Line", "placedSign", "[I", true)
  | 8 => ("LetterFoundry$Line", "placedCount", "I", false)
  | _ => ("LetterFoundry$Line", "end", "I", false)
def ty_5 : Nat → FieldType := fun k => match k with
  | 0 => (.array (.array .int))
  | 1 => (.array .int)
  | 2 => .int
  | 3 => (.array .int)
  | 4 => .int
  | 5 => (.array .int)
  | 6 => (.array .int)
  | 7 => (.array .int)
  | 8 => .int
  | _ => .int
theorem nm_5 : ∀ a, a < 10 → ∀ b, b < 10 → a ≠ b → (T_5 a).2.1 ≠ (T_5 b).2.1 := by decide +kernel
theorem tyok_5 : ∀ k, k < 10 → parseFieldDescriptor (T_5 k).2.2.1 = some (ty_5 k) := by decide +kernel
def R_6 : String := "LetterFoundry$Part"
def T_6 : u_T := fun k => match k with
  | 0 => ("LetterFoundry$Part", "letter", "LLetterFoundry$Letter;", true)
  | 1 => ("LetterFoundry$Part", "dx", "I", true)
  | 2 => ("LetterFoundry$Part", "dy", "I", true)
  | 3 => ("LetterFoundry$Part", "xx", "I", false)
  | 4 => ("LetterFoundry$Part", "xy", "I", false)
  | 5 => ("LetterFoundry$Part", "yx", "I", false)
  | _ => ("LetterFoundry$Part", "yy", "I", false)
def ty_6 : Nat → FieldType := fun k => match k with
  | 0 => (.object "LetterFoundry$Letter")
  | 1 => .int
  | 2 => .int
  | 3 => .int
  | 4 => .int
  | 5 => .int
  | _ => .int
theorem nm_6 : ∀ a, a < 7 → ∀ b, b < 7 → a ≠ b → (T_6 a).2.1 ≠ (T_6 b).2.1 := by decide +kernel
theorem tyok_6 : ∀ k, k < 7 → parseFieldDescriptor (T_6 k).2.2.1 = some (ty_6 k) := by decide +kernel
def R_7 : String := "LetterFoundry$Polygons"
def T_7 : u_T := fun k => match k with
  | 0 => ("LetterFoundry$Polygons", "x", "[I", true)
  | 1 => ("LetterFoundry$Polygons", "y", "[I", true)
  | 2 => ("LetterFoundry$Polygons", "number", "[I", true)
  | 3 => ("LetterFoundry$Polygons", "next", "[I", true)
  | 4 => ("LetterFoundry$Polygons", "count", "I", false)
  | 5 => ("LetterFoundry$Polygons", "fits", "Z", false)
  | 6 => ("LetterFoundry$Polygons", "told", "I", false)
  | 7 => ("LetterFoundry$Polygons", "start", "I", false)
  | _ => ("LetterFoundry$Polygons", "finished", "I", false)
def ty_7 : Nat → FieldType := fun k => match k with
  | 0 => (.array .int)
  | 1 => (.array .int)
  | 2 => (.array .int)
  | 3 => (.array .int)
  | 4 => .int
  | 5 => .boolean
  | 6 => .int
  | 7 => .int
  | _ => .int
theorem nm_7 : ∀ a, a < 9 → ∀ b, b < 9 → a ≠ b → (T_7 a).2.1 ≠ (T_7 b).2.1 := by decide +kernel
theorem tyok_7 : ∀ k, k < 9 → parseFieldDescriptor (T_7 k).2.2.1 = some (ty_7 k) := by decide +kernel
def R_8 : String := "LetterFoundry$Program"
def T_8 : u_T := fun k => match k with
  | 0 => ("LetterFoundry$Program", "ops", "[I", true)
  | 1 => ("LetterFoundry$Program", "args", "[I", true)
  | _ => ("LetterFoundry$Program", "count", "I", false)
def ty_8 : Nat → FieldType := fun k => match k with
  | 0 => (.array .int)
  | 1 => (.array .int)
  | _ => .int
theorem nm_8 : ∀ a, a < 3 → ∀ b, b < 3 → a ≠ b → (T_8 a).2.1 ≠ (T_8 b).2.1 := by decide +kernel
theorem tyok_8 : ∀ k, k < 3 → parseFieldDescriptor (T_8 k).2.2.1 = some (ty_8 k) := by decide +kernel
def R_9 : String := "LetterFoundry$Runner"
def T_9 : u_T := fun k => match k with
  | 0 => ("LetterFoundry$Runner", "stack", "[I", true)
  | 1 => ("LetterFoundry$Runner", "store", "[I", true)
  | 2 => ("LetterFoundry$Runner", "calls", "[I", true)
  | 3 => ("LetterFoundry$Runner", "height", "I", false)
  | 4 => ("LetterFoundry$Runner", "openCalls", "I", false)
  | _ => ("LetterFoundry$Runner", "next", "I", false)
def ty_9 : Nat → FieldType := fun k => match k with
  | 0 => (.array .int)
  | 1 => (.array .int)
  | 2 => (.array .int)
  | 3 => .int
  | 4 => .int
  | _ => .int
theorem nm_9 : ∀ a, a < 6 → ∀ b, b < 6 → a ≠ b → (T_9 a).2.1 ≠ (T_9 b).2.1 := by decide +kernel
theorem tyok_9 : ∀ k, k < 6 → parseFieldDescriptor (T_9 k).2.2.1 = some (ty_9 k) := by decide +kernel
def R_10 : String := "LetterFoundry$Shape"
def T_10 : u_T := fun k => match k with
  | 0 => ("LetterFoundry$Shape", "x", "[I", true)
  | 1 => ("LetterFoundry$Shape", "y", "[I", true)
  | 2 => ("LetterFoundry$Shape", "kind", "[I", true)
  | 3 => ("LetterFoundry$Shape", "dx", "[[I", true)
  | 4 => ("LetterFoundry$Shape", "dy", "[[I", true)
  | 5 => ("LetterFoundry$Shape", "ends", "[I", true)
  | 6 => ("LetterFoundry$Shape", "closed", "I", false)
  | 7 => ("LetterFoundry$Shape", "open", "Z", false)
  | _ => ("LetterFoundry$Shape", "points", "I", false)
def ty_10 : Nat → FieldType := fun k => match k with
  | 0 => (.array .int)
  | 1 => (.array .int)
  | 2 => (.array .int)
  | 3 => (.array (.array .int))
  | 4 => (.array (.array .int))
  | 5 => (.array .int)
  | 6 => .int
  | 7 => .boolean
  | _ => .int
theorem nm_10 : ∀ a, a < 9 → ∀ b, b < 9 → a ≠ b → (T_10 a).2.1 ≠ (T_10 b).2.1 := by decide +kernel
theorem tyok_10 : ∀ k, k < 9 → parseFieldDescriptor (T_10 k).2.2.1 = some (ty_10 k) := by decide +kernel
def R_11 : String := "LetterFoundry"
def T_11 : u_T := fun k => match k with
  | 0 => ("LetterFoundry", "letters", "[LLetterFoundry$Letter;", true)
  | 1 => ("LetterFoundry", "letterCount", "I", false)
  | 2 => ("LetterFoundry", "flattener", "LLetterFoundry$Flattener;", true)
  | 3 => ("LetterFoundry", "polygons", "LLetterFoundry$Polygons;", false)
  | 4 => ("LetterFoundry", "sparePolygons", "LLetterFoundry$Polygons;", false)
  | 5 => ("LetterFoundry", "picture", "LLetterFoundry$Image;", true)
  | 6 => ("LetterFoundry", "runner", "LLetterFoundry$Runner;", true)
  | 7 => ("LetterFoundry", "fitting", "LLetterFoundry$Fitting;", false)
  | 8 => ("LetterFoundry", "spareFitting", "LLetterFoundry$Fitting;", false)
  | 9 => ("LetterFoundry", "weights", "[I", true)
  | 10 => ("LetterFoundry", "kernings", "LLetterFoundry$Kerning;", true)
  | _ => ("LetterFoundry", "line", "LLetterFoundry$Line;", true)
def ty_11 : Nat → FieldType := fun k => match k with
  | 0 => (.array (.object "LetterFoundry$Letter"))
  | 1 => .int
  | 2 => (.object "LetterFoundry$Flattener")
  | 3 => (.object "LetterFoundry$Polygons")
  | 4 => (.object "LetterFoundry$Polygons")
  | 5 => (.object "LetterFoundry$Image")
  | 6 => (.object "LetterFoundry$Runner")
  | 7 => (.object "LetterFoundry$Fitting")
  | 8 => (.object "LetterFoundry$Fitting")
  | 9 => (.array .int)
  | 10 => (.object "LetterFoundry$Kerning")
  | _ => (.object "LetterFoundry$Line")
theorem nm_11 : ∀ a, a < 12 → ∀ b, b < 12 → a ≠ b → (T_11 a).2.1 ≠ (T_11 b).2.1 := by decide +kernel
theorem tyok_11 : ∀ k, k < 12 → parseFieldDescriptor (T_11 k).2.2.1 = some (ty_11 k) := by decide +kernel
def R_12 : String := "LetterFoundryModel"
def T_12 : u_T := fun k => match k with
  | 0 => ("LetterFoundryModel", "letters", "I", false)
  | 1 => ("LetterFoundryModel", "code", "[I", true)
  | 2 => ("LetterFoundryModel", "wide", "[I", true)
  | 3 => ("LetterFoundryModel", "outlines", "[I", true)
  | 4 => ("LetterFoundryModel", "isOpen", "[Z", true)
  | 5 => ("LetterFoundryModel", "points", "[I", true)
  | 6 => ("LetterFoundryModel", "ends", "[I", true)
  | 7 => ("LetterFoundryModel", "px", "[I", true)
  | 8 => ("LetterFoundryModel", "py", "[I", true)
  | 9 => ("LetterFoundryModel", "kind", "[I", true)
  | 10 => ("LetterFoundryModel", "deltaX", "[I", true)
  | 11 => ("LetterFoundryModel", "deltaY", "[I", true)
  | 12 => ("LetterFoundryModel", "parts", "[I", true)
  | 13 => ("LetterFoundryModel", "partOf", "[I", true)
  | 14 => ("LetterFoundryModel", "matrix", "[I", true)
  | 15 => ("LetterFoundryModel", "moveX", "[I", true)
  | 16 => ("LetterFoundryModel", "moveY", "[I", true)
  | 17 => ("LetterFoundryModel", "acts", "[I", true)
  | 18 => ("LetterFoundryModel", "op", "[I", true)
  | 19 => ("LetterFoundryModel", "arg", "[I", true)
  | 20 => ("LetterFoundryModel", "way", "[I", true)
  | 21 => ("LetterFoundryModel", "turn", "[I", true)
  | 22 => ("LetterFoundryModel", "newMany", "I", false)
  | 23 => ("LetterFoundryModel", "newPolygons", "I", false)
  | 24 => ("LetterFoundryModel", "newX", "[I", true)
  | 25 => ("LetterFoundryModel", "newY", "[I", true)
  | 26 => ("LetterFoundryModel", "newOf", "[I", true)
  | 27 => ("LetterFoundryModel", "flatMany", "I", false)
  | 28 => ("LetterFoundryModel", "flatX", "[I", true)
  | 29 => ("LetterFoundryModel", "flatY", "[I", true)
  | 30 => ("LetterFoundryModel", "flatOf", "[I", true)
  | 31 => ("LetterFoundryModel", "raw", "I", false)
  | 32 => ("LetterFoundryModel", "isGood", "Z", false)
  | 33 => ("LetterFoundryModel", "lineX", "[J", true)
  | 34 => ("LetterFoundryModel", "lineY", "[J", true)
  | 35 => ("LetterFoundryModel", "wait", "[J", true)
  | 36 => ("LetterFoundryModel", "often", "[I", true)
  | 37 => ("LetterFoundryModel", "waits", "I", false)
  | 38 => ("LetterFoundryModel", "begin", "I", false)
  | 39 => ("LetterFoundryModel", "dots", "[I", true)
  | 40 => ("LetterFoundryModel", "step", "[I", true)
  | 41 => ("LetterFoundryModel", "stack", "[J", true)
  | 42 => ("LetterFoundryModel", "tops", "I", false)
  | 43 => ("LetterFoundryModel", "store", "[J", true)
  | 44 => ("LetterFoundryModel", "calls", "[I", true)
  | 45 => ("LetterFoundryModel", "called", "I", false)
  | 46 => ("LetterFoundryModel", "firstX", "[J", true)
  | 47 => ("LetterFoundryModel", "firstY", "[J", true)
  | 48 => ("LetterFoundryModel", "nowX", "[J", true)
  | 49 => ("LetterFoundryModel", "nowY", "[J", true)
  | 50 => ("LetterFoundryModel", "touchX", "[Z", true)
  | 51 => ("LetterFoundryModel", "touchY", "[Z", true)
  | 52 => ("LetterFoundryModel", "fault", "I", false)
  | 53 => ("LetterFoundryModel", "fittedMany", "I", false)
  | 54 => ("LetterFoundryModel", "fittedX", "[I", true)
  | 55 => ("LetterFoundryModel", "fittedY", "[I", true)
  | 56 => ("LetterFoundryModel", "fittedTouchX", "[Z", true)
  | 57 => ("LetterFoundryModel", "fittedTouchY", "[Z", true)
  | 58 => ("LetterFoundryModel", "weights", "[I", true)
  | 59 => ("LetterFoundryModel", "leftClass", "[I", true)
  | 60 => ("LetterFoundryModel", "rightClass", "[I", true)
  | 61 => ("LetterFoundryModel", "byClass", "[I", true)
  | 62 => ("LetterFoundryModel", "byLetter", "[I", true)
  | 63 => ("LetterFoundryModel", "isException", "[Z", true)
  | 64 => ("LetterFoundryModel", "rules", "I", false)
  | 65 => ("LetterFoundryModel", "ruleCode", "[I", true)
  | 66 => ("LetterFoundryModel", "signs", "I", false)
  | 67 => ("LetterFoundryModel", "lineCode", "[I", true)
  | 68 => ("LetterFoundryModel", "placedMany", "I", false)
  | 69 => ("LetterFoundryModel", "placedLetter", "[I", true)
  | 70 => ("LetterFoundryModel", "placedAt", "[I", true)
  | _ => ("LetterFoundryModel", "placedSign", "[I", true)
def ty_12 : Nat → FieldType := fun k => match k with
  | 0 => .int
  | 1 => (.array .int)
  | 2 => (.array .int)
  | 3 => (.array .int)
  | 4 => (.array .boolean)
  | 5 => (.array .int)
  | 6 => (.array .int)
  | 7 => (.array .int)
  | 8 => (.array .int)
  | 9 => (.array .int)
  | 10 => (.array .int)
  | 11 => (.array .int)
  | 12 => (.array .int)
  | 13 => (.array .int)
  | 14 => (.array .int)
  | 15 => (.array .int)
  | 16 => (.array .int)
  | 17 => (.array .int)
  | 18 => (.array .int)
  | 19 => (.array .int)
  | 20 => (.array .int)
  | 21 => (.array .int)
  | 22 => .int
  | 23 => .int
  | 24 => (.array .int)
  | 25 => (.array .int)
  | 26 => (.array .int)
  | 27 => .int
  | 28 => (.array .int)
  | 29 => (.array .int)
  | 30 => (.array .int)
  | 31 => .int
  | 32 => .boolean
  | 33 => (.array .long)
  | 34 => (.array .long)
  | 35 => (.array .long)
  | 36 => (.array .int)
  | 37 => .int
  | 38 => .int
  | 39 => (.array .int)
  | 40 => (.array .int)
  | 41 => (.array .long)
  | 42 => .int
  | 43 => (.array .long)
  | 44 => (.array .int)
  | 45 => .int
  | 46 => (.array .long)
  | 47 => (.array .long)
  | 48 => (.array .long)
  | 49 => (.array .long)
  | 50 => (.array .boolean)
  | 51 => (.array .boolean)
  | 52 => .int
  | 53 => .int
  | 54 => (.array .int)
  | 55 => (.array .int)
  | 56 => (.array .boolean)
  | 57 => (.array .boolean)
  | 58 => (.array .int)
  | 59 => (.array .int)
  | 60 => (.array .int)
  | 61 => (.array .int)
  | 62 => (.array .int)
  | 63 => (.array .boolean)
  | 64 => .int
  | 65 => (.array .int)
  | 66 => .int
  | 67 => (.array .int)
  | 68 => .int
  | 69 => (.array .int)
  | 70 => (.array .int)
  | _ => (.array .int)
theorem nm_12 : ∀ a, a < 72 → ∀ b, b < 72 → a ≠ b → (T_12 a).2.1 ≠ (T_12 b).2.1 := by decide +kernel
theorem tyok_12 : ∀ k, k < 72 → parseFieldDescriptor (T_12 k).2.2.1 = some (ty_12 k) := by decide +kernel
def classes : List vw_C := [(R_0, T_0, 6), (R_1, T_1, 7), (R_2, T_2, 9), (R_3, T_3, 2), (R_4, T_4, 10), (R_5, T_5, 10), (R_6, T_6, 7), (R_7, T_7, 9), (R_8, T_8, 3), (R_9, T_9, 6), (R_10, T_10, 9), (R_11, T_11, 12), (R_12, T_12, 72)]
def gw : List Cond := lw_tbl.filter goodWord
def nws : List Cond := [.methodLinkNest "LetterFoundry" (21 : Nat) ⟨"LetterFoundry$Flattener", "<init>", "()V"⟩ "LetterFoundry", .methodLinkNest "LetterFoundry" (28 : Nat) ⟨"LetterFoundry$Polygons", "<init>", "()V"⟩ "LetterFoundry", .methodLinkNest "LetterFoundry" (38 : Nat) ⟨"LetterFoundry$Image", "<init>", "()V"⟩ "LetterFoundry", .methodLinkNest "LetterFoundry" (45 : Nat) ⟨"LetterFoundry$Runner", "<init>", "()V"⟩ "LetterFoundry", .methodLinkNest "LetterFoundry" (52 : Nat) ⟨"LetterFoundry$Fitting", "<init>", "()V"⟩ "LetterFoundry", .methodLinkNest "LetterFoundry" (73 : Nat) ⟨"LetterFoundry$Line", "<init>", "()V"⟩ "LetterFoundry", .methodLinkNest "LetterFoundry$Letter" (11 : Nat) ⟨"LetterFoundry$Shape", "<init>", "()V"⟩ "LetterFoundry", .methodLinkNest "LetterFoundry$Letter" (20 : Nat) ⟨"LetterFoundry$Program", "<init>", "()V"⟩ "LetterFoundry", .methodLinkNest "LetterFoundry$Shape" (68 : Nat) ⟨"LetterFoundry", "within", "(JJJ)Z"⟩ "LetterFoundry", .methodLinkNest "LetterFoundry$Letter" (57 : Nat) ⟨"LetterFoundry", "within", "(JJJ)Z"⟩ "LetterFoundry", .methodLinkNest "LetterFoundry$Flattener" (32 : Nat) ⟨"LetterFoundry", "within", "(JJJ)Z"⟩ "LetterFoundry", .methodLinkNest "LetterFoundry$Part" (36 : Nat) ⟨"LetterFoundry", "rounded", "(JJ)J"⟩ "LetterFoundry", .methodLinkNest "LetterFoundry$Polygons" (61 : Nat) ⟨"LetterFoundry", "within", "(JJJ)Z"⟩ "LetterFoundry", .methodLinkNest "LetterFoundry$Flattener" (125 : Nat) ⟨"LetterFoundry", "rounded", "(JJ)J"⟩ "LetterFoundry", .methodLinkNest "LetterFoundry$Image" (53 : Nat) ⟨"LetterFoundry", "within", "(JJJ)Z"⟩ "LetterFoundry", .methodLinkNest "LetterFoundry$Fitting" (53 : Nat) ⟨"LetterFoundry", "rounded", "(JJ)J"⟩ "LetterFoundry", .methodLinkNest "LetterFoundry$Runner" (42 : Nat) ⟨"LetterFoundry", "within", "(JJJ)Z"⟩ "LetterFoundry", .methodLinkNest "LetterFoundry$Fitting" (60 : Nat) ⟨"LetterFoundry", "within", "(JJJ)Z"⟩ "LetterFoundry", .methodLinkNest "LetterFoundry$Runner" (141 : Nat) ⟨"LetterFoundry", "rounded", "(JJ)J"⟩ "LetterFoundry", .methodLinkNest "LetterFoundry$Kerning" (25 : Nat) ⟨"LetterFoundry", "within", "(JJJ)Z"⟩ "LetterFoundry", .methodLinkNest "LetterFoundry$Line" (49 : Nat) ⟨"LetterFoundry", "indexOfCode", "([LLetterFoundry$Letter;II)I"⟩ "LetterFoundry"]
def RK : Nat → Nat × Nat × Nat := fun k => match k with
  | 100 => (6, 2, 500)
  | 101 => (6, 2, 501)
  | 102 => (6, 2, 502)
  | 103 => (2, 8, 0)
  | 120 => (4, 44, 0)
  | 121 => (4, 44, 0)
  | 122 => (4, 100, 0)
  | 123 => (4, 100, 0)
  | 124 => (5, 4, 6)
  | 140 => (2, 4096, 0)
  | 141 => (2, 513, 0)
  | 160 => (6, 16, 560)
  | 161 => (6, 32, 561)
  | 184 => (5, 6, 6)
  | 200 => (6, 3, 600)
  | 201 => (2, 40, 0)
  | 203 => (2, 60, 0)
  | 205 => (2, 60, 0)
  | 206 => (2, 60, 0)
  | 207 => (2, 60, 0)
  | 240 => (2, 500, 0)
  | 241 => (2, 500, 0)
  | 242 => (2, 500, 0)
  | 243 => (2, 500, 0)
  | 260 => (2, 100, 0)
  | 261 => (2, 100, 0)
  | 280 => (2, 32, 0)
  | 281 => (2, 16, 0)
  | 282 => (2, 8, 0)
  | 300 => (2, 100, 0)
  | 301 => (2, 100, 0)
  | 302 => (2, 100, 0)
  | 303 => (6, 3, 703)
  | 304 => (6, 3, 704)
  | 305 => (2, 8, 0)
  | 320 => (5, 32, 4)
  | 329 => (2, 3, 0)
  | 341 => (2, 32, 0)
  | 342 => (2, 32, 0)
  | 343 => (2, 32, 0)
  | 344 => (3, 32, 0)
  | 345 => (2, 32, 0)
  | 346 => (2, 256, 0)
  | 347 => (2, 3200, 0)
  | 348 => (2, 3200, 0)
  | 349 => (2, 3200, 0)
  | 350 => (2, 9600, 0)
  | 351 => (2, 9600, 0)
  | 352 => (2, 32, 0)
  | 353 => (2, 192, 0)
  | 354 => (2, 768, 0)
  | 355 => (2, 192, 0)
  | 356 => (2, 192, 0)
  | 357 => (2, 32, 0)
  | 358 => (2, 3200, 0)
  | 359 => (2, 3200, 0)
  | 360 => (2, 8, 0)
  | 361 => (2, 8, 0)
  | 364 => (2, 500, 0)
  | 365 => (2, 500, 0)
  | 366 => (2, 500, 0)
  | 368 => (2, 500, 0)
  | 369 => (2, 500, 0)
  | 370 => (2, 500, 0)
  | 373 => (4, 100, 0)
  | 374 => (4, 100, 0)
  | 375 => (4, 128, 0)
  | 376 => (2, 16, 0)
  | 379 => (2, 4096, 0)
  | 380 => (2, 514, 0)
  | 381 => (4, 33, 0)
  | 383 => (4, 16, 0)
  | 384 => (2, 8, 0)
  | 386 => (4, 100, 0)
  | 387 => (4, 100, 0)
  | 388 => (4, 100, 0)
  | 389 => (4, 100, 0)
  | 390 => (3, 100, 0)
  | 391 => (3, 100, 0)
  | 394 => (2, 100, 0)
  | 395 => (2, 100, 0)
  | 396 => (3, 100, 0)
  | 397 => (3, 100, 0)
  | 398 => (2, 3, 0)
  | 399 => (2, 32, 0)
  | 400 => (2, 32, 0)
  | 401 => (2, 256, 0)
  | 402 => (2, 1024, 0)
  | 403 => (3, 1024, 0)
  | 405 => (2, 160, 0)
  | 407 => (2, 60, 0)
  | 409 => (2, 60, 0)
  | 410 => (2, 60, 0)
  | 411 => (2, 60, 0)
  | 500 => (2, 100, 0)
  | 501 => (2, 100, 0)
  | 502 => (2, 100, 0)
  | 560 => (2, 16, 0)
  | 561 => (2, 32, 0)
  | 600 => (2, 40, 0)
  | 703 => (2, 100, 0)
  | 704 => (2, 100, 0)
  | 900 => (7, 31, 0)
  | 901 => (7, 31, 0)
  | 902 => (8, 0, 0)
  | _ => (0, 0, 0)
def NF : Nat → Nat := fun k => match k with
  | 0 => 6
  | 1 => 7
  | 2 => 9
  | 3 => 2
  | 4 => 10
  | 5 => 10
  | 6 => 7
  | 7 => 9
  | 8 => 3
  | 9 => 6
  | 10 => 9
  | 11 => 12
  | 12 => 72
  | _ => 0
def FT : Nat → Nat → Nat × Nat := fun k j => match k with
  | 0 => (match j with | 0 => (3, 100) | 1 => (3, 101) | 2 => (3, 102) | 3 => (3, 103) | 4 => (0, 0) | 5 => (0, 0) | _ => (9, 0))
  | 1 => (match j with | 0 => (3, 120) | 1 => (3, 121) | 2 => (3, 122) | 3 => (3, 123) | 4 => (3, 124) | 5 => (2, 0) | 6 => (0, 0) | _ => (9, 0))
  | 2 => (match j with | 0 => (3, 140) | 1 => (3, 141) | 2 => (0, 0) | 3 => (0, 0) | 4 => (0, 0) | 5 => (0, 0) | 6 => (0, 0) | 7 => (0, 0) | 8 => (0, 0) | _ => (9, 0))
  | 3 => (match j with | 0 => (3, 160) | 1 => (3, 161) | _ => (9, 0))
  | 4 => (match j with | 0 => (0, 0) | 1 => (0, 0) | 2 => (3, 10) | 3 => (3, 8) | 4 => (3, 184) | 5 => (0, 0) | 6 => (1, 0) | 7 => (0, 0) | 8 => (0, 0) | 9 => (0, 0) | _ => (9, 0))
  | 5 => (match j with | 0 => (3, 200) | 1 => (3, 201) | 2 => (0, 0) | 3 => (3, 203) | 4 => (0, 0) | 5 => (3, 205) | 6 => (3, 206) | 7 => (3, 207) | 8 => (0, 0) | 9 => (0, 0) | _ => (9, 0))
  | 6 => (match j with | 0 => (3, 4) | 1 => (0, 0) | 2 => (0, 0) | 3 => (0, 0) | 4 => (0, 0) | 5 => (0, 0) | 6 => (0, 0) | _ => (9, 0))
  | 7 => (match j with | 0 => (3, 240) | 1 => (3, 241) | 2 => (3, 242) | 3 => (3, 243) | 4 => (0, 0) | 5 => (1, 0) | 6 => (0, 0) | 7 => (0, 0) | 8 => (0, 0) | _ => (9, 0))
  | 8 => (match j with | 0 => (3, 260) | 1 => (3, 261) | 2 => (0, 0) | _ => (9, 0))
  | 9 => (match j with | 0 => (3, 280) | 1 => (3, 281) | 2 => (3, 282) | 3 => (0, 0) | 4 => (0, 0) | 5 => (0, 0) | _ => (9, 0))
  | 10 => (match j with | 0 => (3, 300) | 1 => (3, 301) | 2 => (3, 302) | 3 => (3, 303) | 4 => (3, 304) | 5 => (3, 305) | 6 => (0, 0) | 7 => (1, 0) | 8 => (0, 0) | _ => (9, 0))
  | 11 => (match j with | 0 => (3, 320) | 1 => (0, 0) | 2 => (3, 1) | 3 => (3, 7) | 4 => (3, 7) | 5 => (3, 2) | 6 => (3, 9) | 7 => (3, 0) | 8 => (3, 0) | 9 => (3, 329) | 10 => (3, 3) | 11 => (3, 5) | _ => (9, 0))
  | 12 => (match j with | 0 => (0, 0) | 1 => (3, 341) | 2 => (3, 342) | 3 => (3, 343) | 4 => (3, 344) | 5 => (3, 345) | 6 => (3, 346) | 7 => (3, 347) | 8 => (3, 348) | 9 => (3, 349) | 10 => (3, 350) | 11 => (3, 351) | 12 => (3, 352) | 13 => (3, 353) | 14 => (3, 354) | 15 => (3, 355) | 16 => (3, 356) | 17 => (3, 357) | 18 => (3, 358) | 19 => (3, 359) | 20 => (3, 360) | 21 => (3, 361) | 22 => (0, 0) | 23 => (0, 0) | 24 => (3, 364) | 25 => (3, 365) | 26 => (3, 366) | 27 => (0, 0) | 28 => (3, 368) | 29 => (3, 369) | 30 => (3, 370) | 31 => (0, 0) | 32 => (1, 0) | 33 => (3, 373) | 34 => (3, 374) | 35 => (3, 375) | 36 => (3, 376) | 37 => (0, 0) | 38 => (0, 0) | 39 => (3, 379) | 40 => (3, 380) | 41 => (3, 381) | 42 => (0, 0) | 43 => (3, 383) | 44 => (3, 384) | 45 => (0, 0) | 46 => (3, 386) | 47 => (3, 387) | 48 => (3, 388) | 49 => (3, 389) | 50 => (3, 390) | 51 => (3, 391) | 52 => (0, 0) | 53 => (0, 0) | 54 => (3, 394) | 55 => (3, 395) | 56 => (3, 396) | 57 => (3, 397) | 58 => (3, 398) | 59 => (3, 399) | 60 => (3, 400) | 61 => (3, 401) | 62 => (3, 402) | 63 => (3, 403) | 64 => (0, 0) | 65 => (3, 405) | 66 => (0, 0) | 67 => (3, 407) | 68 => (0, 0) | 69 => (3, 409) | 70 => (3, 410) | 71 => (3, 411) | _ => (9, 0))
  | _ => (9, 0)
def FIN : Nat → Nat → Bool := fun k j => match k with
  | 0 => (match j with | 0 => true | 1 => true | 2 => true | 3 => true | _ => false)
  | 1 => (match j with | 0 => true | 1 => true | 2 => true | 3 => true | 4 => true | _ => false)
  | 2 => (match j with | 0 => true | 1 => true | _ => false)
  | 3 => (match j with | 0 => true | 1 => true | _ => false)
  | 4 => (match j with | 2 => true | 3 => true | 4 => true | _ => false)
  | 5 => (match j with | 0 => true | 1 => true | 3 => true | 5 => true | 6 => true | 7 => true | _ => false)
  | 6 => (match j with  | _ => false)
  | 7 => (match j with | 0 => true | 1 => true | 2 => true | 3 => true | _ => false)
  | 8 => (match j with | 0 => true | 1 => true | _ => false)
  | 9 => (match j with | 0 => true | 1 => true | 2 => true | _ => false)
  | 10 => (match j with | 0 => true | 1 => true | 2 => true | 3 => true | 4 => true | 5 => true | _ => false)
  | 11 => (match j with | 0 => true | 2 => true | 5 => true | 6 => true | 9 => true | 10 => true | 11 => true | _ => false)
  | 12 => (match j with | 1 => true | 2 => true | 3 => true | 4 => true | 5 => true | 6 => true | 7 => true | 8 => true | 9 => true | 10 => true | 11 => true | 12 => true | 13 => true | 14 => true | 15 => true | 16 => true | 17 => true | 18 => true | 19 => true | 20 => true | 21 => true | 24 => true | 25 => true | 26 => true | 28 => true | 29 => true | 30 => true | 33 => true | 34 => true | 35 => true | 36 => true | 39 => true | 40 => true | 41 => true | 43 => true | 44 => true | 46 => true | 47 => true | 48 => true | 49 => true | 50 => true | 51 => true | 54 => true | 55 => true | 56 => true | 57 => true | 58 => true | 59 => true | 60 => true | 61 => true | 62 => true | 63 => true | 65 => true | 67 => true | 69 => true | 70 => true | 71 => true | _ => false)
  | _ => false
def CN : Nat → String := fun k => match k with
  | 0 => R_0
  | 1 => R_1
  | 2 => R_2
  | 3 => R_3
  | 4 => R_4
  | 5 => R_5
  | 6 => R_6
  | 7 => R_7
  | 8 => R_8
  | 9 => R_9
  | 10 => R_10
  | 11 => R_11
  | 12 => R_12
  | _ => ""
theorem rk_100 : RK 100 = (6, 2, 500) := rfl
theorem rk_101 : RK 101 = (6, 2, 501) := rfl
theorem rk_102 : RK 102 = (6, 2, 502) := rfl
theorem rk_103 : RK 103 = (2, 8, 0) := rfl
theorem rk_120 : RK 120 = (4, 44, 0) := rfl
theorem rk_121 : RK 121 = (4, 44, 0) := rfl
theorem rk_122 : RK 122 = (4, 100, 0) := rfl
theorem rk_123 : RK 123 = (4, 100, 0) := rfl
theorem rk_124 : RK 124 = (5, 4, 6) := rfl
theorem rk_140 : RK 140 = (2, 4096, 0) := rfl
theorem rk_141 : RK 141 = (2, 513, 0) := rfl
theorem rk_160 : RK 160 = (6, 16, 560) := rfl
theorem rk_161 : RK 161 = (6, 32, 561) := rfl
theorem rk_184 : RK 184 = (5, 6, 6) := rfl
theorem rk_200 : RK 200 = (6, 3, 600) := rfl
theorem rk_201 : RK 201 = (2, 40, 0) := rfl
theorem rk_203 : RK 203 = (2, 60, 0) := rfl
theorem rk_205 : RK 205 = (2, 60, 0) := rfl
theorem rk_206 : RK 206 = (2, 60, 0) := rfl
theorem rk_207 : RK 207 = (2, 60, 0) := rfl
theorem rk_240 : RK 240 = (2, 500, 0) := rfl
theorem rk_241 : RK 241 = (2, 500, 0) := rfl
theorem rk_242 : RK 242 = (2, 500, 0) := rfl
theorem rk_243 : RK 243 = (2, 500, 0) := rfl
theorem rk_260 : RK 260 = (2, 100, 0) := rfl
theorem rk_261 : RK 261 = (2, 100, 0) := rfl
theorem rk_280 : RK 280 = (2, 32, 0) := rfl
theorem rk_281 : RK 281 = (2, 16, 0) := rfl
theorem rk_282 : RK 282 = (2, 8, 0) := rfl
theorem rk_300 : RK 300 = (2, 100, 0) := rfl
theorem rk_301 : RK 301 = (2, 100, 0) := rfl
theorem rk_302 : RK 302 = (2, 100, 0) := rfl
theorem rk_303 : RK 303 = (6, 3, 703) := rfl
theorem rk_304 : RK 304 = (6, 3, 704) := rfl
theorem rk_305 : RK 305 = (2, 8, 0) := rfl
theorem rk_320 : RK 320 = (5, 32, 4) := rfl
theorem rk_329 : RK 329 = (2, 3, 0) := rfl
theorem rk_341 : RK 341 = (2, 32, 0) := rfl
theorem rk_342 : RK 342 = (2, 32, 0) := rfl
theorem rk_343 : RK 343 = (2, 32, 0) := rfl
theorem rk_344 : RK 344 = (3, 32, 0) := rfl
theorem rk_345 : RK 345 = (2, 32, 0) := rfl
theorem rk_346 : RK 346 = (2, 256, 0) := rfl
theorem rk_347 : RK 347 = (2, 3200, 0) := rfl
theorem rk_348 : RK 348 = (2, 3200, 0) := rfl
theorem rk_349 : RK 349 = (2, 3200, 0) := rfl
theorem rk_350 : RK 350 = (2, 9600, 0) := rfl
theorem rk_351 : RK 351 = (2, 9600, 0) := rfl
theorem rk_352 : RK 352 = (2, 32, 0) := rfl
theorem rk_353 : RK 353 = (2, 192, 0) := rfl
theorem rk_354 : RK 354 = (2, 768, 0) := rfl
theorem rk_355 : RK 355 = (2, 192, 0) := rfl
theorem rk_356 : RK 356 = (2, 192, 0) := rfl
theorem rk_357 : RK 357 = (2, 32, 0) := rfl
theorem rk_358 : RK 358 = (2, 3200, 0) := rfl
theorem rk_359 : RK 359 = (2, 3200, 0) := rfl
theorem rk_360 : RK 360 = (2, 8, 0) := rfl
theorem rk_361 : RK 361 = (2, 8, 0) := rfl
theorem rk_364 : RK 364 = (2, 500, 0) := rfl
theorem rk_365 : RK 365 = (2, 500, 0) := rfl
theorem rk_366 : RK 366 = (2, 500, 0) := rfl
theorem rk_368 : RK 368 = (2, 500, 0) := rfl
theorem rk_369 : RK 369 = (2, 500, 0) := rfl
theorem rk_370 : RK 370 = (2, 500, 0) := rfl
theorem rk_373 : RK 373 = (4, 100, 0) := rfl
theorem rk_374 : RK 374 = (4, 100, 0) := rfl
theorem rk_375 : RK 375 = (4, 128, 0) := rfl
theorem rk_376 : RK 376 = (2, 16, 0) := rfl
theorem rk_379 : RK 379 = (2, 4096, 0) := rfl
theorem rk_380 : RK 380 = (2, 514, 0) := rfl
theorem rk_381 : RK 381 = (4, 33, 0) := rfl
theorem rk_383 : RK 383 = (4, 16, 0) := rfl
theorem rk_384 : RK 384 = (2, 8, 0) := rfl
theorem rk_386 : RK 386 = (4, 100, 0) := rfl
theorem rk_387 : RK 387 = (4, 100, 0) := rfl
theorem rk_388 : RK 388 = (4, 100, 0) := rfl
theorem rk_389 : RK 389 = (4, 100, 0) := rfl
theorem rk_390 : RK 390 = (3, 100, 0) := rfl
theorem rk_391 : RK 391 = (3, 100, 0) := rfl
theorem rk_394 : RK 394 = (2, 100, 0) := rfl
theorem rk_395 : RK 395 = (2, 100, 0) := rfl
theorem rk_396 : RK 396 = (3, 100, 0) := rfl
theorem rk_397 : RK 397 = (3, 100, 0) := rfl
theorem rk_398 : RK 398 = (2, 3, 0) := rfl
theorem rk_399 : RK 399 = (2, 32, 0) := rfl
theorem rk_400 : RK 400 = (2, 32, 0) := rfl
theorem rk_401 : RK 401 = (2, 256, 0) := rfl
theorem rk_402 : RK 402 = (2, 1024, 0) := rfl
theorem rk_403 : RK 403 = (3, 1024, 0) := rfl
theorem rk_405 : RK 405 = (2, 160, 0) := rfl
theorem rk_407 : RK 407 = (2, 60, 0) := rfl
theorem rk_409 : RK 409 = (2, 60, 0) := rfl
theorem rk_410 : RK 410 = (2, 60, 0) := rfl
theorem rk_411 : RK 411 = (2, 60, 0) := rfl
theorem rk_500 : RK 500 = (2, 100, 0) := rfl
theorem rk_501 : RK 501 = (2, 100, 0) := rfl
theorem rk_502 : RK 502 = (2, 100, 0) := rfl
theorem rk_560 : RK 560 = (2, 16, 0) := rfl
theorem rk_561 : RK 561 = (2, 32, 0) := rfl
theorem rk_600 : RK 600 = (2, 40, 0) := rfl
theorem rk_703 : RK 703 = (2, 100, 0) := rfl
theorem rk_704 : RK 704 = (2, 100, 0) := rfl
theorem rk_900 : RK 900 = (7, 31, 0) := rfl
theorem rk_901 : RK 901 = (7, 31, 0) := rfl
theorem rk_902 : RK 902 = (8, 0, 0) := rfl
theorem ft_0_0 : FT 0 0 = (3, 100) := rfl
theorem ft_0_1 : FT 0 1 = (3, 101) := rfl
theorem ft_0_2 : FT 0 2 = (3, 102) := rfl
theorem ft_0_3 : FT 0 3 = (3, 103) := rfl
theorem ft_0_4 : FT 0 4 = (0, 0) := rfl
theorem ft_0_5 : FT 0 5 = (0, 0) := rfl
theorem ft_1_0 : FT 1 0 = (3, 120) := rfl
theorem ft_1_1 : FT 1 1 = (3, 121) := rfl
theorem ft_1_2 : FT 1 2 = (3, 122) := rfl
theorem ft_1_3 : FT 1 3 = (3, 123) := rfl
theorem ft_1_4 : FT 1 4 = (3, 124) := rfl
theorem ft_1_5 : FT 1 5 = (2, 0) := rfl
theorem ft_1_6 : FT 1 6 = (0, 0) := rfl
theorem ft_2_0 : FT 2 0 = (3, 140) := rfl
theorem ft_2_1 : FT 2 1 = (3, 141) := rfl
theorem ft_2_2 : FT 2 2 = (0, 0) := rfl
theorem ft_2_3 : FT 2 3 = (0, 0) := rfl
theorem ft_2_4 : FT 2 4 = (0, 0) := rfl
theorem ft_2_5 : FT 2 5 = (0, 0) := rfl
theorem ft_2_6 : FT 2 6 = (0, 0) := rfl
theorem ft_2_7 : FT 2 7 = (0, 0) := rfl
theorem ft_2_8 : FT 2 8 = (0, 0) := rfl
theorem ft_3_0 : FT 3 0 = (3, 160) := rfl
theorem ft_3_1 : FT 3 1 = (3, 161) := rfl
theorem ft_4_0 : FT 4 0 = (0, 0) := rfl
theorem ft_4_1 : FT 4 1 = (0, 0) := rfl
theorem ft_4_2 : FT 4 2 = (3, 10) := rfl
theorem ft_4_3 : FT 4 3 = (3, 8) := rfl
theorem ft_4_4 : FT 4 4 = (3, 184) := rfl
theorem ft_4_5 : FT 4 5 = (0, 0) := rfl
theorem ft_4_6 : FT 4 6 = (1, 0) := rfl
theorem ft_4_7 : FT 4 7 = (0, 0) := rfl
theorem ft_4_8 : FT 4 8 = (0, 0) := rfl
theorem ft_4_9 : FT 4 9 = (0, 0) := rfl
theorem ft_5_0 : FT 5 0 = (3, 200) := rfl
theorem ft_5_1 : FT 5 1 = (3, 201) := rfl
theorem ft_5_2 : FT 5 2 = (0, 0) := rfl
theorem ft_5_3 : FT 5 3 = (3, 203) := rfl
theorem ft_5_4 : FT 5 4 = (0, 0) := rfl
theorem ft_5_5 : FT 5 5 = (3, 205) := rfl
theorem ft_5_6 : FT 5 6 = (3, 206) := rfl
theorem ft_5_7 : FT 5 7 = (3, 207) := rfl
theorem ft_5_8 : FT 5 8 = (0, 0) := rfl
theorem ft_5_9 : FT 5 9 = (0, 0) := rfl
theorem ft_6_0 : FT 6 0 = (3, 4) := rfl
theorem ft_6_1 : FT 6 1 = (0, 0) := rfl
theorem ft_6_2 : FT 6 2 = (0, 0) := rfl
theorem ft_6_3 : FT 6 3 = (0, 0) := rfl
theorem ft_6_4 : FT 6 4 = (0, 0) := rfl
theorem ft_6_5 : FT 6 5 = (0, 0) := rfl
theorem ft_6_6 : FT 6 6 = (0, 0) := rfl
theorem ft_7_0 : FT 7 0 = (3, 240) := rfl
theorem ft_7_1 : FT 7 1 = (3, 241) := rfl
theorem ft_7_2 : FT 7 2 = (3, 242) := rfl
theorem ft_7_3 : FT 7 3 = (3, 243) := rfl
theorem ft_7_4 : FT 7 4 = (0, 0) := rfl
theorem ft_7_5 : FT 7 5 = (1, 0) := rfl
theorem ft_7_6 : FT 7 6 = (0, 0) := rfl
theorem ft_7_7 : FT 7 7 = (0, 0) := rfl
theorem ft_7_8 : FT 7 8 = (0, 0) := rfl
theorem ft_8_0 : FT 8 0 = (3, 260) := rfl
theorem ft_8_1 : FT 8 1 = (3, 261) := rfl
theorem ft_8_2 : FT 8 2 = (0, 0) := rfl
theorem ft_9_0 : FT 9 0 = (3, 280) := rfl
theorem ft_9_1 : FT 9 1 = (3, 281) := rfl
theorem ft_9_2 : FT 9 2 = (3, 282) := rfl
theorem ft_9_3 : FT 9 3 = (0, 0) := rfl
theorem ft_9_4 : FT 9 4 = (0, 0) := rfl
theorem ft_9_5 : FT 9 5 = (0, 0) := rfl
theorem ft_10_0 : FT 10 0 = (3, 300) := rfl
theorem ft_10_1 : FT 10 1 = (3, 301) := rfl
theorem ft_10_2 : FT 10 2 = (3, 302) := rfl
theorem ft_10_3 : FT 10 3 = (3, 303) := rfl
theorem ft_10_4 : FT 10 4 = (3, 304) := rfl
theorem ft_10_5 : FT 10 5 = (3, 305) := rfl
theorem ft_10_6 : FT 10 6 = (0, 0) := rfl
theorem ft_10_7 : FT 10 7 = (1, 0) := rfl
theorem ft_10_8 : FT 10 8 = (0, 0) := rfl
theorem ft_11_0 : FT 11 0 = (3, 320) := rfl
theorem ft_11_1 : FT 11 1 = (0, 0) := rfl
theorem ft_11_2 : FT 11 2 = (3, 1) := rfl
theorem ft_11_3 : FT 11 3 = (3, 7) := rfl
theorem ft_11_4 : FT 11 4 = (3, 7) := rfl
theorem ft_11_5 : FT 11 5 = (3, 2) := rfl
theorem ft_11_6 : FT 11 6 = (3, 9) := rfl
theorem ft_11_7 : FT 11 7 = (3, 0) := rfl
theorem ft_11_8 : FT 11 8 = (3, 0) := rfl
theorem ft_11_9 : FT 11 9 = (3, 329) := rfl
theorem ft_11_10 : FT 11 10 = (3, 3) := rfl
theorem ft_11_11 : FT 11 11 = (3, 5) := rfl
theorem ft_12_0 : FT 12 0 = (0, 0) := rfl
theorem ft_12_1 : FT 12 1 = (3, 341) := rfl
theorem ft_12_2 : FT 12 2 = (3, 342) := rfl
theorem ft_12_3 : FT 12 3 = (3, 343) := rfl
theorem ft_12_4 : FT 12 4 = (3, 344) := rfl
theorem ft_12_5 : FT 12 5 = (3, 345) := rfl
theorem ft_12_6 : FT 12 6 = (3, 346) := rfl
theorem ft_12_7 : FT 12 7 = (3, 347) := rfl
theorem ft_12_8 : FT 12 8 = (3, 348) := rfl
theorem ft_12_9 : FT 12 9 = (3, 349) := rfl
theorem ft_12_10 : FT 12 10 = (3, 350) := rfl
theorem ft_12_11 : FT 12 11 = (3, 351) := rfl
theorem ft_12_12 : FT 12 12 = (3, 352) := rfl
theorem ft_12_13 : FT 12 13 = (3, 353) := rfl
theorem ft_12_14 : FT 12 14 = (3, 354) := rfl
theorem ft_12_15 : FT 12 15 = (3, 355) := rfl
theorem ft_12_16 : FT 12 16 = (3, 356) := rfl
theorem ft_12_17 : FT 12 17 = (3, 357) := rfl
theorem ft_12_18 : FT 12 18 = (3, 358) := rfl
theorem ft_12_19 : FT 12 19 = (3, 359) := rfl
theorem ft_12_20 : FT 12 20 = (3, 360) := rfl
theorem ft_12_21 : FT 12 21 = (3, 361) := rfl
theorem ft_12_22 : FT 12 22 = (0, 0) := rfl
theorem ft_12_23 : FT 12 23 = (0, 0) := rfl
theorem ft_12_24 : FT 12 24 = (3, 364) := rfl
theorem ft_12_25 : FT 12 25 = (3, 365) := rfl
theorem ft_12_26 : FT 12 26 = (3, 366) := rfl
theorem ft_12_27 : FT 12 27 = (0, 0) := rfl
theorem ft_12_28 : FT 12 28 = (3, 368) := rfl
theorem ft_12_29 : FT 12 29 = (3, 369) := rfl
theorem ft_12_30 : FT 12 30 = (3, 370) := rfl
theorem ft_12_31 : FT 12 31 = (0, 0) := rfl
theorem ft_12_32 : FT 12 32 = (1, 0) := rfl
theorem ft_12_33 : FT 12 33 = (3, 373) := rfl
theorem ft_12_34 : FT 12 34 = (3, 374) := rfl
theorem ft_12_35 : FT 12 35 = (3, 375) := rfl
theorem ft_12_36 : FT 12 36 = (3, 376) := rfl
theorem ft_12_37 : FT 12 37 = (0, 0) := rfl
theorem ft_12_38 : FT 12 38 = (0, 0) := rfl
theorem ft_12_39 : FT 12 39 = (3, 379) := rfl
theorem ft_12_40 : FT 12 40 = (3, 380) := rfl
theorem ft_12_41 : FT 12 41 = (3, 381) := rfl
theorem ft_12_42 : FT 12 42 = (0, 0) := rfl
theorem ft_12_43 : FT 12 43 = (3, 383) := rfl
theorem ft_12_44 : FT 12 44 = (3, 384) := rfl
theorem ft_12_45 : FT 12 45 = (0, 0) := rfl
theorem ft_12_46 : FT 12 46 = (3, 386) := rfl
theorem ft_12_47 : FT 12 47 = (3, 387) := rfl
theorem ft_12_48 : FT 12 48 = (3, 388) := rfl
theorem ft_12_49 : FT 12 49 = (3, 389) := rfl
theorem ft_12_50 : FT 12 50 = (3, 390) := rfl
theorem ft_12_51 : FT 12 51 = (3, 391) := rfl
theorem ft_12_52 : FT 12 52 = (0, 0) := rfl
theorem ft_12_53 : FT 12 53 = (0, 0) := rfl
theorem ft_12_54 : FT 12 54 = (3, 394) := rfl
theorem ft_12_55 : FT 12 55 = (3, 395) := rfl
theorem ft_12_56 : FT 12 56 = (3, 396) := rfl
theorem ft_12_57 : FT 12 57 = (3, 397) := rfl
theorem ft_12_58 : FT 12 58 = (3, 398) := rfl
theorem ft_12_59 : FT 12 59 = (3, 399) := rfl
theorem ft_12_60 : FT 12 60 = (3, 400) := rfl
theorem ft_12_61 : FT 12 61 = (3, 401) := rfl
theorem ft_12_62 : FT 12 62 = (3, 402) := rfl
theorem ft_12_63 : FT 12 63 = (3, 403) := rfl
theorem ft_12_64 : FT 12 64 = (0, 0) := rfl
theorem ft_12_65 : FT 12 65 = (3, 405) := rfl
theorem ft_12_66 : FT 12 66 = (0, 0) := rfl
theorem ft_12_67 : FT 12 67 = (3, 407) := rfl
theorem ft_12_68 : FT 12 68 = (0, 0) := rfl
theorem ft_12_69 : FT 12 69 = (3, 409) := rfl
theorem ft_12_70 : FT 12 70 = (3, 410) := rfl
theorem ft_12_71 : FT 12 71 = (3, 411) := rfl
theorem in_1 {w : Cond} (i : Nat) (h : tables_1_1[i]? = some w) (hg : goodWord w = true) : w ∈ gw := List.mem_filter.mpr ⟨List.mem_append_right _ (by unfold tables_1; simp only [List.mem_append]; have := List.mem_of_getElem? h; simp only [this, true_or, or_true]), hg⟩
theorem in_2 {w : Cond} (i : Nat) (h : tables_1_2[i]? = some w) (hg : goodWord w = true) : w ∈ gw := List.mem_filter.mpr ⟨List.mem_append_right _ (by unfold tables_1; simp only [List.mem_append]; have := List.mem_of_getElem? h; simp only [this, true_or, or_true]), hg⟩
theorem in_3 {w : Cond} (i : Nat) (h : tables_1_3[i]? = some w) (hg : goodWord w = true) : w ∈ gw := List.mem_filter.mpr ⟨List.mem_append_right _ (by unfold tables_1; simp only [List.mem_append]; have := List.mem_of_getElem? h; simp only [this, true_or, or_true]), hg⟩
theorem in_4 {w : Cond} (i : Nat) (h : tables_1_4[i]? = some w) (hg : goodWord w = true) : w ∈ gw := List.mem_filter.mpr ⟨List.mem_append_right _ (by unfold tables_1; simp only [List.mem_append]; have := List.mem_of_getElem? h; simp only [this, true_or, or_true]), hg⟩
theorem in_5 {w : Cond} (i : Nat) (h : tables_1_5[i]? = some w) (hg : goodWord w = true) : w ∈ gw := List.mem_filter.mpr ⟨List.mem_append_right _ (by unfold tables_1; simp only [List.mem_append]; have := List.mem_of_getElem? h; simp only [this, true_or, or_true]), hg⟩
theorem in_6 {w : Cond} (i : Nat) (h : tables_1_6[i]? = some w) (hg : goodWord w = true) : w ∈ gw := List.mem_filter.mpr ⟨List.mem_append_right _ (by unfold tables_1; simp only [List.mem_append]; have := List.mem_of_getElem? h; simp only [this, true_or, or_true]), hg⟩
theorem in_7 {w : Cond} (i : Nat) (h : tables_1_7[i]? = some w) (hg : goodWord w = true) : w ∈ gw := List.mem_filter.mpr ⟨List.mem_append_right _ (by unfold tables_1; simp only [List.mem_append]; have := List.mem_of_getElem? h; simp only [this, true_or, or_true]), hg⟩
end
section
theorem g_0 : .initialized "LetterFoundryLaw" ∈ gw := in_1 0 rfl rfl
theorem g_1 : .initialized "LetterFoundry" ∈ gw := in_1 1 rfl rfl
theorem g_2 : .initialized "LetterFoundry$Flattener" ∈ gw := in_1 2 rfl rfl
theorem g_3 : .initialized "LetterFoundry$Polygons" ∈ gw := in_1 3 rfl rfl
theorem g_4 : .initialized "LetterFoundry$Image" ∈ gw := in_1 4 rfl rfl
theorem g_5 : .initialized "LetterFoundry$Runner" ∈ gw := in_1 5 rfl rfl
theorem g_6 : .initialized "LetterFoundry$Fitting" ∈ gw := in_1 6 rfl rfl
theorem g_7 : .initialized "LetterFoundry$Kerning" ∈ gw := in_1 7 rfl rfl
theorem g_8 : .initialized "java/util/Arrays" ∈ gw := in_1 8 rfl rfl
theorem g_9 : .initialized "LetterFoundry$Line" ∈ gw := in_1 9 rfl rfl
theorem g_10 : .initialized "LetterFoundryModel" ∈ gw := in_1 10 rfl rfl
theorem g_11 : .initialized "LetterFoundry$Letter" ∈ gw := in_1 11 rfl rfl
theorem g_12 : .initialized "LetterFoundry$Shape" ∈ gw := in_1 12 rfl rfl
theorem g_13 : .initialized "LetterFoundry$Program" ∈ gw := in_1 13 rfl rfl
theorem g_14 : .initialized "LetterFoundry$Part" ∈ gw := in_1 14 rfl rfl
theorem g_15 : .initialized "java/lang/Math" ∈ gw := in_1 15 rfl rfl
theorem g_16 : .initialized "java/lang/System" ∈ gw := in_1 16 rfl rfl
theorem g_17 : .classLink "LetterFoundryLaw" (7 : Nat) "LetterFoundry" ∈ gw := in_1 17 rfl rfl
theorem g_18 : .instantiable "LetterFoundry" (12 : Nat) ∈ gw := in_1 18 rfl rfl
theorem g_19 : .methodLink "LetterFoundryLaw" (9 : Nat) ⟨"LetterFoundry", "<init>", "()V"⟩ ∈ gw := in_1 19 rfl rfl
theorem g_20 : .instanceMethod ⟨"LetterFoundry", "<init>", "()V"⟩ ∈ gw := in_1 20 rfl rfl
theorem g_21 : .code ⟨"LetterFoundry", "<init>", "()V"⟩ prog_1_method_1_code (1 : Nat) (Option.none : Option FieldType) ∈ gw := in_1 21 rfl rfl
theorem g_22 : .methodLink "LetterFoundry" (1 : Nat) ⟨"java/lang/Object", "<init>", "()V"⟩ ∈ gw := in_1 22 rfl rfl
theorem g_23 : .instanceMethod ⟨"java/lang/Object", "<init>", "()V"⟩ ∈ gw := in_1 23 rfl rfl
theorem g_24 : .code ⟨"java/lang/Object", "<init>", "()V"⟩ object_method_1_code (1 : Nat) (Option.none : Option FieldType) ∈ gw := in_1 24 rfl rfl
theorem g_25 : .classLink "LetterFoundry" (9 : Nat) "LetterFoundry$Letter" ∈ gw := in_1 25 rfl rfl
theorem g_27 : .classLink "LetterFoundry" (19 : Nat) "LetterFoundry$Flattener" ∈ gw := in_1 27 rfl rfl
theorem g_28 : .instantiable "LetterFoundry$Flattener" (7 : Nat) ∈ gw := in_1 28 rfl rfl
theorem g_30 : .instanceMethod ⟨"LetterFoundry$Flattener", "<init>", "()V"⟩ ∈ gw := in_1 30 rfl rfl
theorem g_31 : .code ⟨"LetterFoundry$Flattener", "<init>", "()V"⟩ prog_3_method_1_code (1 : Nat) (Option.none : Option FieldType) ∈ gw := in_1 31 rfl rfl
theorem g_32 : .methodLink "LetterFoundry$Flattener" (3 : Nat) ⟨"java/lang/Object", "<init>", "()V"⟩ ∈ gw := in_1 32 rfl rfl
theorem g_33 : .classLink "LetterFoundry$Flattener" (24 : Nat) "LetterFoundry$Part" ∈ gw := in_1 33 rfl rfl
theorem g_35 : .fieldLink "LetterFoundry$Flattener" (11 : Nat) "LetterFoundry$Flattener" "x" "[J" ∈ gw := in_1 35 rfl rfl
theorem g_36 : .fieldLink "LetterFoundry$Flattener" (15 : Nat) "LetterFoundry$Flattener" "y" "[J" ∈ gw := in_1 36 rfl rfl
theorem g_37 : .fieldLink "LetterFoundry$Flattener" (18 : Nat) "LetterFoundry$Flattener" "placedX" "[J" ∈ gw := in_1 37 rfl rfl
theorem g_38 : .fieldLink "LetterFoundry$Flattener" (21 : Nat) "LetterFoundry$Flattener" "placedY" "[J" ∈ gw := in_1 38 rfl rfl
theorem g_39 : .fieldLink "LetterFoundry$Flattener" (26 : Nat) "LetterFoundry$Flattener" "path" "[LLetterFoundry$Part;" ∈ gw := in_1 39 rfl rfl
theorem g_40 : .fieldLink "LetterFoundry$Flattener" (36 : Nat) "LetterFoundry$Flattener" "limit" "J" ∈ gw := in_1 40 rfl rfl
theorem g_41 : .fieldLink "LetterFoundry$Flattener" (98 : Nat) "LetterFoundry$Flattener" "degree" "I" ∈ gw := in_1 41 rfl rfl
theorem g_42 : .laysFinal "LetterFoundry$Flattener" "LetterFoundry$Flattener" "x" "[J" ∈ gw := in_1 42 rfl rfl
theorem g_44 : .laysFinal "LetterFoundry$Flattener" "LetterFoundry$Flattener" "y" "[J" ∈ gw := in_1 44 rfl rfl
theorem g_46 : .laysFinal "LetterFoundry$Flattener" "LetterFoundry$Flattener" "placedX" "[J" ∈ gw := in_1 46 rfl rfl
theorem g_48 : .laysFinal "LetterFoundry$Flattener" "LetterFoundry$Flattener" "placedY" "[J" ∈ gw := in_1 48 rfl rfl
theorem g_50 : .laysFinal "LetterFoundry$Flattener" "LetterFoundry$Flattener" "path" "[LLetterFoundry$Part;" ∈ gw := in_1 50 rfl rfl
theorem g_52 : .lays "LetterFoundry$Flattener" "LetterFoundry$Flattener" "limit" "J" ∈ gw := in_1 52 rfl rfl
theorem g_54 : .lays "LetterFoundry$Flattener" "LetterFoundry$Flattener" "degree" "I" ∈ gw := in_1 54 rfl rfl
theorem g_57 : .arrayClass FieldType.long ∈ gw := in_1 57 rfl rfl
theorem g_58 : .classLink "LetterFoundry" (26 : Nat) "LetterFoundry$Polygons" ∈ gw := in_1 58 rfl rfl
theorem g_59 : .instantiable "LetterFoundry$Polygons" (9 : Nat) ∈ gw := in_1 59 rfl rfl
theorem g_61 : .instanceMethod ⟨"LetterFoundry$Polygons", "<init>", "()V"⟩ ∈ gw := in_1 61 rfl rfl
theorem g_62 : .code ⟨"LetterFoundry$Polygons", "<init>", "()V"⟩ prog_9_method_1_code (1 : Nat) (Option.none : Option FieldType) ∈ gw := in_1 62 rfl rfl
theorem g_63 : .methodLink "LetterFoundry$Polygons" (1 : Nat) ⟨"java/lang/Object", "<init>", "()V"⟩ ∈ gw := in_1 63 rfl rfl
theorem g_64 : .fieldLink "LetterFoundry$Polygons" (9 : Nat) "LetterFoundry$Polygons" "x" "[I" ∈ gw := in_1 64 rfl rfl
theorem g_65 : .fieldLink "LetterFoundry$Image" (22 : Nat) "LetterFoundry$Polygons" "x" "[I" ∈ gw := in_1 65 rfl rfl
theorem g_66 : .fieldLink "LetterFoundry" (219 : Nat) "LetterFoundry$Polygons" "x" "[I" ∈ gw := in_1 66 rfl rfl
theorem g_67 : .fieldLink "LetterFoundry$Polygons" (13 : Nat) "LetterFoundry$Polygons" "y" "[I" ∈ gw := in_1 67 rfl rfl
theorem g_68 : .fieldLink "LetterFoundry$Image" (29 : Nat) "LetterFoundry$Polygons" "y" "[I" ∈ gw := in_1 68 rfl rfl
theorem g_69 : .fieldLink "LetterFoundry" (220 : Nat) "LetterFoundry$Polygons" "y" "[I" ∈ gw := in_1 69 rfl rfl
theorem g_70 : .fieldLink "LetterFoundry$Polygons" (16 : Nat) "LetterFoundry$Polygons" "number" "[I" ∈ gw := in_1 70 rfl rfl
theorem g_71 : .fieldLink "LetterFoundry" (216 : Nat) "LetterFoundry$Polygons" "number" "[I" ∈ gw := in_1 71 rfl rfl
theorem g_72 : .fieldLink "LetterFoundry$Polygons" (19 : Nat) "LetterFoundry$Polygons" "next" "[I" ∈ gw := in_1 72 rfl rfl
theorem g_73 : .fieldLink "LetterFoundry$Image" (81 : Nat) "LetterFoundry$Polygons" "next" "[I" ∈ gw := in_1 73 rfl rfl
theorem g_74 : .fieldLink "LetterFoundry$Polygons" (22 : Nat) "LetterFoundry$Polygons" "count" "I" ∈ gw := in_1 74 rfl rfl
theorem g_75 : .fieldLink "LetterFoundry$Image" (16 : Nat) "LetterFoundry$Polygons" "count" "I" ∈ gw := in_1 75 rfl rfl
theorem g_76 : .fieldLink "LetterFoundry" (214 : Nat) "LetterFoundry$Polygons" "count" "I" ∈ gw := in_1 76 rfl rfl
theorem g_77 : .fieldLink "LetterFoundry$Polygons" (26 : Nat) "LetterFoundry$Polygons" "fits" "Z" ∈ gw := in_1 77 rfl rfl
theorem g_78 : .fieldLink "LetterFoundry$Flattener" (49 : Nat) "LetterFoundry$Polygons" "fits" "Z" ∈ gw := in_1 78 rfl rfl
theorem g_79 : .fieldLink "LetterFoundry$Polygons" (30 : Nat) "LetterFoundry$Polygons" "told" "I" ∈ gw := in_1 79 rfl rfl
theorem g_80 : .fieldLink "LetterFoundry$Polygons" (33 : Nat) "LetterFoundry$Polygons" "start" "I" ∈ gw := in_1 80 rfl rfl
theorem g_81 : .fieldLink "LetterFoundry$Polygons" (36 : Nat) "LetterFoundry$Polygons" "finished" "I" ∈ gw := in_1 81 rfl rfl
theorem g_82 : .laysFinal "LetterFoundry$Polygons" "LetterFoundry$Polygons" "x" "[I" ∈ gw := in_1 82 rfl rfl
theorem g_84 : .laysFinal "LetterFoundry$Polygons" "LetterFoundry$Polygons" "y" "[I" ∈ gw := in_1 84 rfl rfl
theorem g_86 : .laysFinal "LetterFoundry$Polygons" "LetterFoundry$Polygons" "number" "[I" ∈ gw := in_1 86 rfl rfl
theorem g_88 : .laysFinal "LetterFoundry$Polygons" "LetterFoundry$Polygons" "next" "[I" ∈ gw := in_1 88 rfl rfl
theorem g_90 : .lays "LetterFoundry$Polygons" "LetterFoundry$Polygons" "count" "I" ∈ gw := in_1 90 rfl rfl
theorem g_92 : .lays "LetterFoundry$Polygons" "LetterFoundry$Polygons" "fits" "Z" ∈ gw := in_1 92 rfl rfl
theorem g_94 : .lays "LetterFoundry$Polygons" "LetterFoundry$Polygons" "told" "I" ∈ gw := in_1 94 rfl rfl
theorem g_96 : .lays "LetterFoundry$Polygons" "LetterFoundry$Polygons" "start" "I" ∈ gw := in_1 96 rfl rfl
theorem g_98 : .lays "LetterFoundry$Polygons" "LetterFoundry$Polygons" "finished" "I" ∈ gw := in_1 98 rfl rfl
theorem g_101 : .arrayClass FieldType.int ∈ gw := in_1 101 rfl rfl
theorem g_102 : .classLink "LetterFoundry" (36 : Nat) "LetterFoundry$Image" ∈ gw := in_1 102 rfl rfl
theorem g_103 : .instantiable "LetterFoundry$Image" (9 : Nat) ∈ gw := in_1 103 rfl rfl
theorem g_105 : .instanceMethod ⟨"LetterFoundry$Image", "<init>", "()V"⟩ ∈ gw := in_1 105 rfl rfl
theorem g_106 : .code ⟨"LetterFoundry$Image", "<init>", "()V"⟩ prog_4_method_1_code (1 : Nat) (Option.none : Option FieldType) ∈ gw := in_1 106 rfl rfl
theorem g_107 : .methodLink "LetterFoundry$Image" (3 : Nat) ⟨"java/lang/Object", "<init>", "()V"⟩ ∈ gw := in_1 107 rfl rfl
theorem g_108 : .fieldLink "LetterFoundry$Image" (9 : Nat) "LetterFoundry$Image" "counts" "[I" ∈ gw := in_1 108 rfl rfl
theorem g_109 : .fieldLink "LetterFoundry$Image" (13 : Nat) "LetterFoundry$Image" "marks" "[I" ∈ gw := in_1 109 rfl rfl
theorem g_110 : .fieldLink "LetterFoundry$Image" (75 : Nat) "LetterFoundry$Image" "leastMark" "I" ∈ gw := in_1 110 rfl rfl
theorem g_111 : .fieldLink "LetterFoundry$Image" (78 : Nat) "LetterFoundry$Image" "greatestMark" "I" ∈ gw := in_1 111 rfl rfl
theorem g_112 : .fieldLink "LetterFoundry$Image" (59 : Nat) "LetterFoundry$Image" "filled" "I" ∈ gw := in_1 112 rfl rfl
theorem g_113 : .fieldLink "LetterFoundry" (247 : Nat) "LetterFoundry$Image" "filled" "I" ∈ gw := in_1 113 rfl rfl
theorem g_114 : .fieldLink "LetterFoundry$Image" (62 : Nat) "LetterFoundry$Image" "leastI" "I" ∈ gw := in_1 114 rfl rfl
theorem g_115 : .fieldLink "LetterFoundry$Image" (65 : Nat) "LetterFoundry$Image" "leastJ" "I" ∈ gw := in_1 115 rfl rfl
theorem g_116 : .fieldLink "LetterFoundry$Image" (68 : Nat) "LetterFoundry$Image" "greatestI" "I" ∈ gw := in_1 116 rfl rfl
theorem g_117 : .fieldLink "LetterFoundry$Image" (71 : Nat) "LetterFoundry$Image" "greatestJ" "I" ∈ gw := in_1 117 rfl rfl
theorem g_118 : .laysFinal "LetterFoundry$Image" "LetterFoundry$Image" "counts" "[I" ∈ gw := in_1 118 rfl rfl
theorem g_120 : .laysFinal "LetterFoundry$Image" "LetterFoundry$Image" "marks" "[I" ∈ gw := in_1 120 rfl rfl
theorem g_122 : .lays "LetterFoundry$Image" "LetterFoundry$Image" "leastMark" "I" ∈ gw := in_1 122 rfl rfl
theorem g_124 : .lays "LetterFoundry$Image" "LetterFoundry$Image" "greatestMark" "I" ∈ gw := in_1 124 rfl rfl
theorem g_126 : .lays "LetterFoundry$Image" "LetterFoundry$Image" "filled" "I" ∈ gw := in_1 126 rfl rfl
theorem g_128 : .lays "LetterFoundry$Image" "LetterFoundry$Image" "leastI" "I" ∈ gw := in_1 128 rfl rfl
theorem g_130 : .lays "LetterFoundry$Image" "LetterFoundry$Image" "leastJ" "I" ∈ gw := in_1 130 rfl rfl
theorem g_132 : .lays "LetterFoundry$Image" "LetterFoundry$Image" "greatestI" "I" ∈ gw := in_1 132 rfl rfl
theorem g_134 : .lays "LetterFoundry$Image" "LetterFoundry$Image" "greatestJ" "I" ∈ gw := in_1 134 rfl rfl
theorem g_137 : .classLink "LetterFoundry" (43 : Nat) "LetterFoundry$Runner" ∈ gw := in_1 137 rfl rfl
theorem g_138 : .instantiable "LetterFoundry$Runner" (6 : Nat) ∈ gw := in_1 138 rfl rfl
theorem g_140 : .instanceMethod ⟨"LetterFoundry$Runner", "<init>", "()V"⟩ ∈ gw := in_1 140 rfl rfl
theorem g_141 : .code ⟨"LetterFoundry$Runner", "<init>", "()V"⟩ prog_11_method_1_code (1 : Nat) (Option.none : Option FieldType) ∈ gw := in_1 141 rfl rfl
theorem g_142 : .methodLink "LetterFoundry$Runner" (3 : Nat) ⟨"java/lang/Object", "<init>", "()V"⟩ ∈ gw := in_1 142 rfl rfl
theorem g_143 : .fieldLink "LetterFoundry$Runner" (11 : Nat) "LetterFoundry$Runner" "stack" "[I" ∈ gw := in_1 143 rfl rfl
theorem g_144 : .fieldLink "LetterFoundry$Runner" (15 : Nat) "LetterFoundry$Runner" "store" "[I" ∈ gw := in_1 144 rfl rfl
theorem g_145 : .fieldLink "LetterFoundry$Runner" (18 : Nat) "LetterFoundry$Runner" "calls" "[I" ∈ gw := in_1 145 rfl rfl
theorem g_146 : .fieldLink "LetterFoundry$Runner" (27 : Nat) "LetterFoundry$Runner" "height" "I" ∈ gw := in_1 146 rfl rfl
theorem g_147 : .fieldLink "LetterFoundry$Runner" (31 : Nat) "LetterFoundry$Runner" "openCalls" "I" ∈ gw := in_1 147 rfl rfl
theorem g_148 : .fieldLink "LetterFoundry$Runner" (34 : Nat) "LetterFoundry$Runner" "next" "I" ∈ gw := in_1 148 rfl rfl
theorem g_149 : .laysFinal "LetterFoundry$Runner" "LetterFoundry$Runner" "stack" "[I" ∈ gw := in_1 149 rfl rfl
theorem g_151 : .laysFinal "LetterFoundry$Runner" "LetterFoundry$Runner" "store" "[I" ∈ gw := in_1 151 rfl rfl
theorem g_153 : .laysFinal "LetterFoundry$Runner" "LetterFoundry$Runner" "calls" "[I" ∈ gw := in_1 153 rfl rfl
theorem g_155 : .lays "LetterFoundry$Runner" "LetterFoundry$Runner" "height" "I" ∈ gw := in_1 155 rfl rfl
theorem g_157 : .lays "LetterFoundry$Runner" "LetterFoundry$Runner" "openCalls" "I" ∈ gw := in_1 157 rfl rfl
theorem g_159 : .lays "LetterFoundry$Runner" "LetterFoundry$Runner" "next" "I" ∈ gw := in_1 159 rfl rfl
theorem g_162 : .classLink "LetterFoundry" (50 : Nat) "LetterFoundry$Fitting" ∈ gw := in_1 162 rfl rfl
theorem g_163 : .instantiable "LetterFoundry$Fitting" (6 : Nat) ∈ gw := in_1 163 rfl rfl
theorem g_165 : .instanceMethod ⟨"LetterFoundry$Fitting", "<init>", "()V"⟩ ∈ gw := in_1 165 rfl rfl
theorem g_166 : .code ⟨"LetterFoundry$Fitting", "<init>", "()V"⟩ prog_2_method_1_code (1 : Nat) (Option.none : Option FieldType) ∈ gw := in_1 166 rfl rfl
theorem g_167 : .methodLink "LetterFoundry$Fitting" (3 : Nat) ⟨"java/lang/Object", "<init>", "()V"⟩ ∈ gw := in_1 167 rfl rfl
theorem g_168 : .classLink "LetterFoundry$Fitting" (9 : Nat) "[[I" ∈ gw := in_1 168 rfl rfl
theorem g_170 : .fieldLink "LetterFoundry$Fitting" (11 : Nat) "LetterFoundry$Fitting" "first" "[[I" ∈ gw := in_1 170 rfl rfl
theorem g_171 : .fieldLink "LetterFoundry$Fitting" (16 : Nat) "LetterFoundry$Fitting" "now" "[[I" ∈ gw := in_1 171 rfl rfl
theorem g_172 : .fieldLink "LetterFoundry$Runner" (150 : Nat) "LetterFoundry$Fitting" "now" "[[I" ∈ gw := in_1 172 rfl rfl
theorem g_173 : .fieldLink "LetterFoundry" (277 : Nat) "LetterFoundry$Fitting" "now" "[[I" ∈ gw := in_1 173 rfl rfl
theorem g_174 : .fieldLink "LetterFoundry$Fitting" (19 : Nat) "LetterFoundry$Fitting" "touched" "[[I" ∈ gw := in_1 174 rfl rfl
theorem g_175 : .fieldLink "LetterFoundry" (281 : Nat) "LetterFoundry$Fitting" "touched" "[[I" ∈ gw := in_1 175 rfl rfl
theorem g_176 : .fieldLink "LetterFoundry$Fitting" (22 : Nat) "LetterFoundry$Fitting" "ends" "[I" ∈ gw := in_1 176 rfl rfl
theorem g_177 : .fieldLink "LetterFoundry$Fitting" (39 : Nat) "LetterFoundry$Fitting" "outlines" "I" ∈ gw := in_1 177 rfl rfl
theorem g_178 : .fieldLink "LetterFoundry$Fitting" (32 : Nat) "LetterFoundry$Fitting" "points" "I" ∈ gw := in_1 178 rfl rfl
theorem g_179 : .laysFinal "LetterFoundry$Fitting" "LetterFoundry$Fitting" "first" "[[I" ∈ gw := in_1 179 rfl rfl
theorem g_181 : .laysFinal "LetterFoundry$Fitting" "LetterFoundry$Fitting" "now" "[[I" ∈ gw := in_1 181 rfl rfl
theorem g_183 : .laysFinal "LetterFoundry$Fitting" "LetterFoundry$Fitting" "touched" "[[I" ∈ gw := in_1 183 rfl rfl
theorem g_185 : .laysFinal "LetterFoundry$Fitting" "LetterFoundry$Fitting" "ends" "[I" ∈ gw := in_1 185 rfl rfl
theorem g_187 : .lays "LetterFoundry$Fitting" "LetterFoundry$Fitting" "outlines" "I" ∈ gw := in_1 187 rfl rfl
theorem g_189 : .lays "LetterFoundry$Fitting" "LetterFoundry$Fitting" "points" "I" ∈ gw := in_1 189 rfl rfl
theorem g_192 : .classLink "LetterFoundry" (64 : Nat) "LetterFoundry$Kerning" ∈ gw := in_1 192 rfl rfl
theorem g_193 : .instantiable "LetterFoundry$Kerning" (2 : Nat) ∈ gw := in_1 193 rfl rfl
theorem g_194 : .methodLink "LetterFoundry" (66 : Nat) ⟨"LetterFoundry$Kerning", "<init>", "()V"⟩ ∈ gw := in_1 194 rfl rfl
theorem g_195 : .instanceMethod ⟨"LetterFoundry$Kerning", "<init>", "()V"⟩ ∈ gw := in_1 195 rfl rfl
theorem g_196 : .code ⟨"LetterFoundry$Kerning", "<init>", "()V"⟩ prog_5_method_1_code (2 : Nat) (Option.none : Option FieldType) ∈ gw := in_1 196 rfl rfl
theorem g_197 : .methodLink "LetterFoundry$Kerning" (3 : Nat) ⟨"java/lang/Object", "<init>", "()V"⟩ ∈ gw := in_1 197 rfl rfl
theorem g_198 : .classLink "LetterFoundry$Kerning" (9 : Nat) "[[I" ∈ gw := in_1 198 rfl rfl
theorem g_199 : .methodLink "LetterFoundry$Kerning" (19 : Nat) ⟨"java/util/Arrays", "fill", "([II)V"⟩ ∈ gw := in_1 199 rfl rfl
theorem g_200 : .static ⟨"java/util/Arrays", "fill", "([II)V"⟩ ∈ gw := in_1 200 rfl rfl
theorem g_201 : .code ⟨"java/util/Arrays", "fill", "([II)V"⟩ prog_17_method_103_code (4 : Nat) (Option.none : Option FieldType) ∈ gw := in_1 201 rfl rfl
theorem g_202 : .fieldLink "LetterFoundry$Kerning" (11 : Nat) "LetterFoundry$Kerning" "ofClasses" "[[I" ∈ gw := in_1 202 rfl rfl
theorem g_203 : .fieldLink "LetterFoundry" (309 : Nat) "LetterFoundry$Kerning" "ofClasses" "[[I" ∈ gw := in_1 203 rfl rfl
theorem g_204 : .fieldLink "LetterFoundry$Kerning" (16 : Nat) "LetterFoundry$Kerning" "ofLetters" "[[I" ∈ gw := in_1 204 rfl rfl
theorem g_205 : .fieldLink "LetterFoundry" (312 : Nat) "LetterFoundry$Kerning" "ofLetters" "[[I" ∈ gw := in_1 205 rfl rfl
theorem g_206 : .laysFinal "LetterFoundry$Kerning" "LetterFoundry$Kerning" "ofClasses" "[[I" ∈ gw := in_1 206 rfl rfl
theorem g_208 : .laysFinal "LetterFoundry$Kerning" "LetterFoundry$Kerning" "ofLetters" "[[I" ∈ gw := in_1 208 rfl rfl
theorem g_211 : .classLink "LetterFoundry" (71 : Nat) "LetterFoundry$Line" ∈ gw := in_1 211 rfl rfl
theorem g_212 : .instantiable "LetterFoundry$Line" (10 : Nat) ∈ gw := in_1 212 rfl rfl
theorem g_214 : .instanceMethod ⟨"LetterFoundry$Line", "<init>", "()V"⟩ ∈ gw := in_1 214 rfl rfl
theorem g_215 : .code ⟨"LetterFoundry$Line", "<init>", "()V"⟩ prog_7_method_1_code (1 : Nat) (Option.none : Option FieldType) ∈ gw := in_1 215 rfl rfl
theorem g_216 : .methodLink "LetterFoundry$Line" (3 : Nat) ⟨"java/lang/Object", "<init>", "()V"⟩ ∈ gw := in_1 216 rfl rfl
theorem g_217 : .classLink "LetterFoundry$Line" (11 : Nat) "[[I" ∈ gw := in_1 217 rfl rfl
theorem g_218 : .fieldLink "LetterFoundry$Line" (13 : Nat) "LetterFoundry$Line" "rules" "[[I" ∈ gw := in_1 218 rfl rfl
theorem g_219 : .fieldLink "LetterFoundry$Line" (16 : Nat) "LetterFoundry$Line" "results" "[I" ∈ gw := in_1 219 rfl rfl
theorem g_220 : .fieldLink "LetterFoundry$Line" (32 : Nat) "LetterFoundry$Line" "ruleCount" "I" ∈ gw := in_1 220 rfl rfl
theorem g_221 : .fieldLink "LetterFoundry$Line" (20 : Nat) "LetterFoundry$Line" "signs" "[I" ∈ gw := in_1 221 rfl rfl
theorem g_222 : .fieldLink "LetterFoundry$Line" (36 : Nat) "LetterFoundry$Line" "signCount" "I" ∈ gw := in_1 222 rfl rfl
theorem g_223 : .fieldLink "LetterFoundry$Line" (23 : Nat) "LetterFoundry$Line" "placedLetter" "[I" ∈ gw := in_1 223 rfl rfl
theorem g_224 : .fieldLink "LetterFoundry" (332 : Nat) "LetterFoundry$Line" "placedLetter" "[I" ∈ gw := in_1 224 rfl rfl
theorem g_225 : .fieldLink "LetterFoundry$Line" (26 : Nat) "LetterFoundry$Line" "placedAt" "[I" ∈ gw := in_1 225 rfl rfl
theorem g_226 : .fieldLink "LetterFoundry" (335 : Nat) "LetterFoundry$Line" "placedAt" "[I" ∈ gw := in_1 226 rfl rfl
theorem g_227 : .fieldLink "LetterFoundry$Line" (29 : Nat) "LetterFoundry$Line" "placedSign" "[I" ∈ gw := in_1 227 rfl rfl
theorem g_228 : .fieldLink "LetterFoundry" (338 : Nat) "LetterFoundry$Line" "placedSign" "[I" ∈ gw := in_1 228 rfl rfl
theorem g_229 : .fieldLink "LetterFoundry$Line" (39 : Nat) "LetterFoundry$Line" "placedCount" "I" ∈ gw := in_1 229 rfl rfl
theorem g_230 : .fieldLink "LetterFoundry" (329 : Nat) "LetterFoundry$Line" "placedCount" "I" ∈ gw := in_1 230 rfl rfl
theorem g_231 : .fieldLink "LetterFoundry$Line" (42 : Nat) "LetterFoundry$Line" "end" "I" ∈ gw := in_1 231 rfl rfl
theorem g_232 : .fieldLink "LetterFoundry" (341 : Nat) "LetterFoundry$Line" "end" "I" ∈ gw := in_1 232 rfl rfl
theorem g_233 : .laysFinal "LetterFoundry$Line" "LetterFoundry$Line" "rules" "[[I" ∈ gw := in_1 233 rfl rfl
theorem g_235 : .laysFinal "LetterFoundry$Line" "LetterFoundry$Line" "results" "[I" ∈ gw := in_1 235 rfl rfl
theorem g_237 : .lays "LetterFoundry$Line" "LetterFoundry$Line" "ruleCount" "I" ∈ gw := in_1 237 rfl rfl
theorem g_239 : .laysFinal "LetterFoundry$Line" "LetterFoundry$Line" "signs" "[I" ∈ gw := in_1 239 rfl rfl
theorem g_241 : .lays "LetterFoundry$Line" "LetterFoundry$Line" "signCount" "I" ∈ gw := in_2 1 rfl rfl
theorem g_243 : .laysFinal "LetterFoundry$Line" "LetterFoundry$Line" "placedLetter" "[I" ∈ gw := in_2 3 rfl rfl
theorem g_245 : .laysFinal "LetterFoundry$Line" "LetterFoundry$Line" "placedAt" "[I" ∈ gw := in_2 5 rfl rfl
theorem g_247 : .laysFinal "LetterFoundry$Line" "LetterFoundry$Line" "placedSign" "[I" ∈ gw := in_2 7 rfl rfl
theorem g_249 : .lays "LetterFoundry$Line" "LetterFoundry$Line" "placedCount" "I" ∈ gw := in_2 9 rfl rfl
theorem g_251 : .lays "LetterFoundry$Line" "LetterFoundry$Line" "end" "I" ∈ gw := in_2 11 rfl rfl
theorem g_254 : .fieldLink "LetterFoundry" (11 : Nat) "LetterFoundry" "letters" "[LLetterFoundry$Letter;" ∈ gw := in_2 14 rfl rfl
theorem g_255 : .fieldLink "LetterFoundry" (15 : Nat) "LetterFoundry" "letterCount" "I" ∈ gw := in_2 15 rfl rfl
theorem g_256 : .fieldLink "LetterFoundry" (22 : Nat) "LetterFoundry" "flattener" "LLetterFoundry$Flattener;" ∈ gw := in_2 16 rfl rfl
theorem g_257 : .fieldLink "LetterFoundry" (29 : Nat) "LetterFoundry" "polygons" "LLetterFoundry$Polygons;" ∈ gw := in_2 17 rfl rfl
theorem g_258 : .fieldLink "LetterFoundry" (33 : Nat) "LetterFoundry" "sparePolygons" "LLetterFoundry$Polygons;" ∈ gw := in_2 18 rfl rfl
theorem g_259 : .fieldLink "LetterFoundry" (39 : Nat) "LetterFoundry" "picture" "LLetterFoundry$Image;" ∈ gw := in_2 19 rfl rfl
theorem g_260 : .fieldLink "LetterFoundry" (46 : Nat) "LetterFoundry" "runner" "LLetterFoundry$Runner;" ∈ gw := in_2 20 rfl rfl
theorem g_261 : .fieldLink "LetterFoundry" (53 : Nat) "LetterFoundry" "fitting" "LLetterFoundry$Fitting;" ∈ gw := in_2 21 rfl rfl
theorem g_262 : .fieldLink "LetterFoundry" (57 : Nat) "LetterFoundry" "spareFitting" "LLetterFoundry$Fitting;" ∈ gw := in_2 22 rfl rfl
theorem g_263 : .fieldLink "LetterFoundry" (60 : Nat) "LetterFoundry" "weights" "[I" ∈ gw := in_2 23 rfl rfl
theorem g_264 : .fieldLink "LetterFoundry" (67 : Nat) "LetterFoundry" "kernings" "LLetterFoundry$Kerning;" ∈ gw := in_2 24 rfl rfl
theorem g_265 : .fieldLink "LetterFoundry" (74 : Nat) "LetterFoundry" "line" "LLetterFoundry$Line;" ∈ gw := in_2 25 rfl rfl
theorem g_266 : .laysFinal "LetterFoundry" "LetterFoundry" "letters" "[LLetterFoundry$Letter;" ∈ gw := in_2 26 rfl rfl
theorem g_268 : .lays "LetterFoundry" "LetterFoundry" "letterCount" "I" ∈ gw := in_2 28 rfl rfl
theorem g_270 : .laysFinal "LetterFoundry" "LetterFoundry" "flattener" "LLetterFoundry$Flattener;" ∈ gw := in_2 30 rfl rfl
theorem g_272 : .lays "LetterFoundry" "LetterFoundry" "polygons" "LLetterFoundry$Polygons;" ∈ gw := in_2 32 rfl rfl
theorem g_274 : .lays "LetterFoundry" "LetterFoundry" "sparePolygons" "LLetterFoundry$Polygons;" ∈ gw := in_2 34 rfl rfl
theorem g_276 : .laysFinal "LetterFoundry" "LetterFoundry" "picture" "LLetterFoundry$Image;" ∈ gw := in_2 36 rfl rfl
theorem g_278 : .laysFinal "LetterFoundry" "LetterFoundry" "runner" "LLetterFoundry$Runner;" ∈ gw := in_2 38 rfl rfl
theorem g_280 : .lays "LetterFoundry" "LetterFoundry" "fitting" "LLetterFoundry$Fitting;" ∈ gw := in_2 40 rfl rfl
theorem g_282 : .lays "LetterFoundry" "LetterFoundry" "spareFitting" "LLetterFoundry$Fitting;" ∈ gw := in_2 42 rfl rfl
theorem g_284 : .laysFinal "LetterFoundry" "LetterFoundry" "weights" "[I" ∈ gw := in_2 44 rfl rfl
theorem g_286 : .laysFinal "LetterFoundry" "LetterFoundry" "kernings" "LLetterFoundry$Kerning;" ∈ gw := in_2 46 rfl rfl
theorem g_288 : .laysFinal "LetterFoundry" "LetterFoundry" "line" "LLetterFoundry$Line;" ∈ gw := in_2 48 rfl rfl
theorem g_291 : .methodLink "LetterFoundryLaw" (13 : Nat) ⟨"LetterFoundry", "letter", "(II)I"⟩ ∈ gw := in_2 51 rfl rfl
theorem g_292 : .instanceMethod ⟨"LetterFoundry", "letter", "(II)I"⟩ ∈ gw := in_2 52 rfl rfl
theorem g_293 : .selects "LetterFoundry" ⟨"LetterFoundry", "letter", "(II)I"⟩ ⟨"LetterFoundry", "letter", "(II)I"⟩ ∈ gw := in_2 53 rfl rfl
theorem g_294 : .code ⟨"LetterFoundry", "letter", "(II)I"⟩ prog_1_method_2_code (3 : Nat) (Option.some FieldType.int) ∈ gw := in_2 54 rfl rfl
theorem g_295 : .methodLink "LetterFoundry" (78 : Nat) ⟨"LetterFoundry", "isCode", "(I)Z"⟩ ∈ gw := in_2 55 rfl rfl
theorem g_296 : .static ⟨"LetterFoundry", "isCode", "(I)Z"⟩ ∈ gw := in_2 56 rfl rfl
theorem g_297 : .code ⟨"LetterFoundry", "isCode", "(I)Z"⟩ prog_1_method_43_code (1 : Nat) (Option.some FieldType.boolean) ∈ gw := in_2 57 rfl rfl
theorem g_298 : .constantLong "LetterFoundry" (350 : Nat) (65535 : Int64) ∈ gw := in_2 58 rfl rfl
theorem g_299 : .methodLink "LetterFoundry" (84 : Nat) ⟨"LetterFoundry", "within", "(JJJ)Z"⟩ ∈ gw := in_2 59 rfl rfl
theorem g_300 : .static ⟨"LetterFoundry", "within", "(JJJ)Z"⟩ ∈ gw := in_2 60 rfl rfl
theorem g_301 : .code ⟨"LetterFoundry", "within", "(JJJ)Z"⟩ prog_1_method_42_code (6 : Nat) (Option.some FieldType.boolean) ∈ gw := in_2 61 rfl rfl
theorem g_302 : .constantLong "LetterFoundry" (82 : Nat) (32000 : Int64) ∈ gw := in_2 62 rfl rfl
theorem g_303 : .methodLink "LetterFoundry" (88 : Nat) ⟨"LetterFoundry", "find", "(I)I"⟩ ∈ gw := in_2 63 rfl rfl
theorem g_304 : .instanceMethod ⟨"LetterFoundry", "find", "(I)I"⟩ ∈ gw := in_2 64 rfl rfl
theorem g_305 : .selects "LetterFoundry" ⟨"LetterFoundry", "find", "(I)I"⟩ ⟨"LetterFoundry", "find", "(I)I"⟩ ∈ gw := in_2 65 rfl rfl
theorem g_306 : .code ⟨"LetterFoundry", "find", "(I)I"⟩ prog_1_method_3_code (2 : Nat) (Option.some FieldType.int) ∈ gw := in_2 66 rfl rfl
theorem g_307 : .methodLink "LetterFoundry" (95 : Nat) ⟨"LetterFoundry", "indexOfCode", "([LLetterFoundry$Letter;II)I"⟩ ∈ gw := in_2 67 rfl rfl
theorem g_308 : .static ⟨"LetterFoundry", "indexOfCode", "([LLetterFoundry$Letter;II)I"⟩ ∈ gw := in_2 68 rfl rfl
theorem g_309 : .code ⟨"LetterFoundry", "indexOfCode", "([LLetterFoundry$Letter;II)I"⟩ prog_1_method_41_code (4 : Nat) (Option.some FieldType.int) ∈ gw := in_2 69 rfl rfl
theorem g_310 : .instantiable "LetterFoundry$Letter" (10 : Nat) ∈ gw := in_2 70 rfl rfl
theorem g_311 : .methodLink "LetterFoundry" (92 : Nat) ⟨"LetterFoundry$Letter", "<init>", "(II)V"⟩ ∈ gw := in_2 71 rfl rfl
theorem g_312 : .instanceMethod ⟨"LetterFoundry$Letter", "<init>", "(II)V"⟩ ∈ gw := in_2 72 rfl rfl
theorem g_313 : .code ⟨"LetterFoundry$Letter", "<init>", "(II)V"⟩ prog_6_method_1_code (3 : Nat) (Option.none : Option FieldType) ∈ gw := in_2 73 rfl rfl
theorem g_314 : .methodLink "LetterFoundry$Letter" (3 : Nat) ⟨"java/lang/Object", "<init>", "()V"⟩ ∈ gw := in_2 74 rfl rfl
theorem g_315 : .classLink "LetterFoundry$Letter" (9 : Nat) "LetterFoundry$Shape" ∈ gw := in_2 75 rfl rfl
theorem g_316 : .instantiable "LetterFoundry$Shape" (9 : Nat) ∈ gw := in_2 76 rfl rfl
theorem g_318 : .instanceMethod ⟨"LetterFoundry$Shape", "<init>", "()V"⟩ ∈ gw := in_2 78 rfl rfl
theorem g_319 : .code ⟨"LetterFoundry$Shape", "<init>", "()V"⟩ prog_12_method_1_code (1 : Nat) (Option.none : Option FieldType) ∈ gw := in_2 79 rfl rfl
theorem g_320 : .methodLink "LetterFoundry$Shape" (3 : Nat) ⟨"java/lang/Object", "<init>", "()V"⟩ ∈ gw := in_2 80 rfl rfl
theorem g_321 : .classLink "LetterFoundry$Shape" (21 : Nat) "[[I" ∈ gw := in_2 81 rfl rfl
theorem g_322 : .fieldLink "LetterFoundry$Shape" (9 : Nat) "LetterFoundry$Shape" "x" "[I" ∈ gw := in_2 82 rfl rfl
theorem g_323 : .fieldLink "LetterFoundry$Fitting" (48 : Nat) "LetterFoundry$Shape" "x" "[I" ∈ gw := in_2 83 rfl rfl
theorem g_324 : .fieldLink "LetterFoundry$Flattener" (108 : Nat) "LetterFoundry$Shape" "x" "[I" ∈ gw := in_2 84 rfl rfl
theorem g_325 : .fieldLink "LetterFoundry" (139 : Nat) "LetterFoundry$Shape" "x" "[I" ∈ gw := in_2 85 rfl rfl
theorem g_326 : .fieldLink "LetterFoundry$Shape" (15 : Nat) "LetterFoundry$Shape" "y" "[I" ∈ gw := in_2 86 rfl rfl
theorem g_327 : .fieldLink "LetterFoundry$Fitting" (57 : Nat) "LetterFoundry$Shape" "y" "[I" ∈ gw := in_2 87 rfl rfl
theorem g_328 : .fieldLink "LetterFoundry$Flattener" (110 : Nat) "LetterFoundry$Shape" "y" "[I" ∈ gw := in_2 88 rfl rfl
theorem g_329 : .fieldLink "LetterFoundry" (142 : Nat) "LetterFoundry$Shape" "y" "[I" ∈ gw := in_2 89 rfl rfl
theorem g_330 : .fieldLink "LetterFoundry$Shape" (18 : Nat) "LetterFoundry$Shape" "kind" "[I" ∈ gw := in_2 90 rfl rfl
theorem g_331 : .fieldLink "LetterFoundry$Flattener" (94 : Nat) "LetterFoundry$Shape" "kind" "[I" ∈ gw := in_2 91 rfl rfl
theorem g_332 : .fieldLink "LetterFoundry" (201 : Nat) "LetterFoundry$Shape" "kind" "[I" ∈ gw := in_2 92 rfl rfl
theorem g_333 : .fieldLink "LetterFoundry$Shape" (23 : Nat) "LetterFoundry$Shape" "dx" "[[I" ∈ gw := in_2 93 rfl rfl
theorem g_334 : .fieldLink "LetterFoundry" (290 : Nat) "LetterFoundry$Shape" "dx" "[[I" ∈ gw := in_2 94 rfl rfl
theorem g_335 : .fieldLink "LetterFoundry$Shape" (26 : Nat) "LetterFoundry$Shape" "dy" "[[I" ∈ gw := in_2 95 rfl rfl
theorem g_336 : .fieldLink "LetterFoundry" (293 : Nat) "LetterFoundry$Shape" "dy" "[[I" ∈ gw := in_2 96 rfl rfl
theorem g_337 : .fieldLink "LetterFoundry$Shape" (29 : Nat) "LetterFoundry$Shape" "ends" "[I" ∈ gw := in_2 97 rfl rfl
theorem g_338 : .fieldLink "LetterFoundry$Shape" (36 : Nat) "LetterFoundry$Shape" "closed" "I" ∈ gw := in_2 98 rfl rfl
theorem g_339 : .fieldLink "LetterFoundry$Fitting" (36 : Nat) "LetterFoundry$Shape" "closed" "I" ∈ gw := in_2 99 rfl rfl
theorem g_340 : .fieldLink "LetterFoundry$Flattener" (59 : Nat) "LetterFoundry$Shape" "closed" "I" ∈ gw := in_2 100 rfl rfl
theorem g_341 : .fieldLink "LetterFoundry" (145 : Nat) "LetterFoundry$Shape" "closed" "I" ∈ gw := in_2 101 rfl rfl
theorem g_342 : .fieldLink "LetterFoundry$Shape" (32 : Nat) "LetterFoundry$Shape" "open" "Z" ∈ gw := in_2 102 rfl rfl
theorem g_343 : .fieldLink "LetterFoundry" (126 : Nat) "LetterFoundry$Shape" "open" "Z" ∈ gw := in_2 103 rfl rfl
theorem g_344 : .fieldLink "LetterFoundry$Shape" (40 : Nat) "LetterFoundry$Shape" "points" "I" ∈ gw := in_2 104 rfl rfl
theorem g_345 : .laysFinal "LetterFoundry$Shape" "LetterFoundry$Shape" "x" "[I" ∈ gw := in_2 105 rfl rfl
theorem g_347 : .laysFinal "LetterFoundry$Shape" "LetterFoundry$Shape" "y" "[I" ∈ gw := in_2 107 rfl rfl
theorem g_349 : .laysFinal "LetterFoundry$Shape" "LetterFoundry$Shape" "kind" "[I" ∈ gw := in_2 109 rfl rfl
theorem g_351 : .laysFinal "LetterFoundry$Shape" "LetterFoundry$Shape" "dx" "[[I" ∈ gw := in_2 111 rfl rfl
theorem g_353 : .laysFinal "LetterFoundry$Shape" "LetterFoundry$Shape" "dy" "[[I" ∈ gw := in_2 113 rfl rfl
theorem g_355 : .laysFinal "LetterFoundry$Shape" "LetterFoundry$Shape" "ends" "[I" ∈ gw := in_2 115 rfl rfl
theorem g_357 : .lays "LetterFoundry$Shape" "LetterFoundry$Shape" "closed" "I" ∈ gw := in_2 117 rfl rfl
theorem g_359 : .lays "LetterFoundry$Shape" "LetterFoundry$Shape" "open" "Z" ∈ gw := in_2 119 rfl rfl
theorem g_361 : .lays "LetterFoundry$Shape" "LetterFoundry$Shape" "points" "I" ∈ gw := in_2 121 rfl rfl
theorem g_364 : .classLink "LetterFoundry$Letter" (18 : Nat) "LetterFoundry$Program" ∈ gw := in_2 124 rfl rfl
theorem g_365 : .instantiable "LetterFoundry$Program" (3 : Nat) ∈ gw := in_2 125 rfl rfl
theorem g_367 : .instanceMethod ⟨"LetterFoundry$Program", "<init>", "()V"⟩ ∈ gw := in_2 127 rfl rfl
theorem g_368 : .code ⟨"LetterFoundry$Program", "<init>", "()V"⟩ prog_10_method_1_code (1 : Nat) (Option.none : Option FieldType) ∈ gw := in_2 128 rfl rfl
theorem g_369 : .methodLink "LetterFoundry$Program" (3 : Nat) ⟨"java/lang/Object", "<init>", "()V"⟩ ∈ gw := in_2 129 rfl rfl
theorem g_370 : .fieldLink "LetterFoundry$Program" (9 : Nat) "LetterFoundry$Program" "ops" "[I" ∈ gw := in_2 130 rfl rfl
theorem g_371 : .fieldLink "LetterFoundry$Runner" (50 : Nat) "LetterFoundry$Program" "ops" "[I" ∈ gw := in_2 131 rfl rfl
theorem g_372 : .fieldLink "LetterFoundry$Program" (15 : Nat) "LetterFoundry$Program" "args" "[I" ∈ gw := in_2 132 rfl rfl
theorem g_373 : .fieldLink "LetterFoundry$Runner" (53 : Nat) "LetterFoundry$Program" "args" "[I" ∈ gw := in_2 133 rfl rfl
theorem g_374 : .fieldLink "LetterFoundry$Program" (18 : Nat) "LetterFoundry$Program" "count" "I" ∈ gw := in_2 134 rfl rfl
theorem g_375 : .fieldLink "LetterFoundry$Runner" (37 : Nat) "LetterFoundry$Program" "count" "I" ∈ gw := in_2 135 rfl rfl
theorem g_376 : .fieldLink "LetterFoundry" (195 : Nat) "LetterFoundry$Program" "count" "I" ∈ gw := in_2 136 rfl rfl
theorem g_377 : .laysFinal "LetterFoundry$Program" "LetterFoundry$Program" "ops" "[I" ∈ gw := in_2 137 rfl rfl
theorem g_379 : .laysFinal "LetterFoundry$Program" "LetterFoundry$Program" "args" "[I" ∈ gw := in_2 139 rfl rfl
theorem g_381 : .lays "LetterFoundry$Program" "LetterFoundry$Program" "count" "I" ∈ gw := in_2 141 rfl rfl
theorem g_384 : .classLink "LetterFoundry$Letter" (25 : Nat) "LetterFoundry$Part" ∈ gw := in_2 144 rfl rfl
theorem g_385 : .fieldLink "LetterFoundry$Letter" (31 : Nat) "LetterFoundry$Letter" "code" "I" ∈ gw := in_2 145 rfl rfl
theorem g_386 : .fieldLink "LetterFoundry" (179 : Nat) "LetterFoundry$Letter" "code" "I" ∈ gw := in_2 146 rfl rfl
theorem g_387 : .fieldLink "LetterFoundry$Letter" (35 : Nat) "LetterFoundry$Letter" "width" "I" ∈ gw := in_2 147 rfl rfl
theorem g_388 : .fieldLink "LetterFoundry$Line" (65 : Nat) "LetterFoundry$Letter" "width" "I" ∈ gw := in_2 148 rfl rfl
theorem g_389 : .fieldLink "LetterFoundry" (182 : Nat) "LetterFoundry$Letter" "width" "I" ∈ gw := in_2 149 rfl rfl
theorem g_390 : .fieldLink "LetterFoundry$Letter" (12 : Nat) "LetterFoundry$Letter" "shape" "LLetterFoundry$Shape;" ∈ gw := in_2 150 rfl rfl
theorem g_391 : .fieldLink "LetterFoundry$Flattener" (53 : Nat) "LetterFoundry$Letter" "shape" "LLetterFoundry$Shape;" ∈ gw := in_2 151 rfl rfl
theorem g_392 : .fieldLink "LetterFoundry" (106 : Nat) "LetterFoundry$Letter" "shape" "LLetterFoundry$Shape;" ∈ gw := in_2 152 rfl rfl
theorem g_393 : .fieldLink "LetterFoundry$Letter" (21 : Nat) "LetterFoundry$Letter" "program" "LLetterFoundry$Program;" ∈ gw := in_2 153 rfl rfl
theorem g_394 : .fieldLink "LetterFoundry" (191 : Nat) "LetterFoundry$Letter" "program" "LLetterFoundry$Program;" ∈ gw := in_2 154 rfl rfl
theorem g_395 : .fieldLink "LetterFoundry$Letter" (27 : Nat) "LetterFoundry$Letter" "parts" "[LLetterFoundry$Part;" ∈ gw := in_2 155 rfl rfl
theorem g_396 : .fieldLink "LetterFoundry$Flattener" (72 : Nat) "LetterFoundry$Letter" "parts" "[LLetterFoundry$Part;" ∈ gw := in_2 156 rfl rfl
theorem g_397 : .fieldLink "LetterFoundry$Letter" (38 : Nat) "LetterFoundry$Letter" "partCount" "I" ∈ gw := in_2 157 rfl rfl
theorem g_398 : .fieldLink "LetterFoundry$Flattener" (69 : Nat) "LetterFoundry$Letter" "partCount" "I" ∈ gw := in_2 158 rfl rfl
theorem g_399 : .fieldLink "LetterFoundry" (103 : Nat) "LetterFoundry$Letter" "partCount" "I" ∈ gw := in_2 159 rfl rfl
theorem g_400 : .fieldLink "LetterFoundry$Letter" (44 : Nat) "LetterFoundry$Letter" "isPart" "Z" ∈ gw := in_2 160 rfl rfl
theorem g_401 : .fieldLink "LetterFoundry" (156 : Nat) "LetterFoundry$Letter" "isPart" "Z" ∈ gw := in_2 161 rfl rfl
theorem g_402 : .fieldLink "LetterFoundry$Letter" (48 : Nat) "LetterFoundry$Letter" "depth" "I" ∈ gw := in_2 162 rfl rfl
theorem g_403 : .fieldLink "LetterFoundry" (159 : Nat) "LetterFoundry$Letter" "depth" "I" ∈ gw := in_2 163 rfl rfl
theorem g_404 : .fieldLink "LetterFoundry$Kerning" (35 : Nat) "LetterFoundry$Letter" "leftClass" "I" ∈ gw := in_2 164 rfl rfl
theorem g_405 : .fieldLink "LetterFoundry" (303 : Nat) "LetterFoundry$Letter" "leftClass" "I" ∈ gw := in_2 165 rfl rfl
theorem g_406 : .fieldLink "LetterFoundry$Kerning" (29 : Nat) "LetterFoundry$Letter" "rightClass" "I" ∈ gw := in_2 166 rfl rfl
theorem g_407 : .fieldLink "LetterFoundry" (306 : Nat) "LetterFoundry$Letter" "rightClass" "I" ∈ gw := in_2 167 rfl rfl
theorem g_408 : .laysFinal "LetterFoundry$Letter" "LetterFoundry$Letter" "code" "I" ∈ gw := in_2 168 rfl rfl
theorem g_410 : .laysFinal "LetterFoundry$Letter" "LetterFoundry$Letter" "width" "I" ∈ gw := in_2 170 rfl rfl
theorem g_412 : .laysFinal "LetterFoundry$Letter" "LetterFoundry$Letter" "shape" "LLetterFoundry$Shape;" ∈ gw := in_2 172 rfl rfl
theorem g_414 : .laysFinal "LetterFoundry$Letter" "LetterFoundry$Letter" "program" "LLetterFoundry$Program;" ∈ gw := in_2 174 rfl rfl
theorem g_416 : .laysFinal "LetterFoundry$Letter" "LetterFoundry$Letter" "parts" "[LLetterFoundry$Part;" ∈ gw := in_2 176 rfl rfl
theorem g_418 : .lays "LetterFoundry$Letter" "LetterFoundry$Letter" "partCount" "I" ∈ gw := in_2 178 rfl rfl
theorem g_420 : .lays "LetterFoundry$Letter" "LetterFoundry$Letter" "isPart" "Z" ∈ gw := in_2 180 rfl rfl
theorem g_422 : .lays "LetterFoundry$Letter" "LetterFoundry$Letter" "depth" "I" ∈ gw := in_2 182 rfl rfl
theorem g_424 : .lays "LetterFoundry$Letter" "LetterFoundry$Letter" "leftClass" "I" ∈ gw := in_2 184 rfl rfl
theorem g_426 : .lays "LetterFoundry$Letter" "LetterFoundry$Letter" "rightClass" "I" ∈ gw := in_2 186 rfl rfl
theorem g_429 : .methodLink "LetterFoundryLaw" (18 : Nat) ⟨"LetterFoundry", "find", "(I)I"⟩ ∈ gw := in_2 189 rfl rfl
theorem g_430 : .methodLink "LetterFoundryLaw" (23 : Nat) ⟨"LetterFoundry", "outline", "(I)I"⟩ ∈ gw := in_2 190 rfl rfl
theorem g_431 : .instanceMethod ⟨"LetterFoundry", "outline", "(I)I"⟩ ∈ gw := in_2 191 rfl rfl
theorem g_432 : .selects "LetterFoundry" ⟨"LetterFoundry", "outline", "(I)I"⟩ ⟨"LetterFoundry", "outline", "(I)I"⟩ ∈ gw := in_2 192 rfl rfl
theorem g_433 : .code ⟨"LetterFoundry", "outline", "(I)I"⟩ prog_1_method_4_code (3 : Nat) (Option.some FieldType.int) ∈ gw := in_2 193 rfl rfl
theorem g_434 : .methodLink "LetterFoundry" (99 : Nat) ⟨"LetterFoundry", "letterOf", "(I)LLetterFoundry$Letter;"⟩ ∈ gw := in_2 194 rfl rfl
theorem g_436 : .instanceMethod ⟨"LetterFoundry", "letterOf", "(I)LLetterFoundry$Letter;"⟩ ∈ gw := in_2 196 rfl rfl
theorem g_437 : .code ⟨"LetterFoundry", "letterOf", "(I)LLetterFoundry$Letter;"⟩ prog_1_method_38_code (2 : Nat) (Option.some (FieldType.object "LetterFoundry$Letter")) ∈ gw := in_2 197 rfl rfl
theorem g_438 : .methodLink "LetterFoundry" (110 : Nat) ⟨"LetterFoundry$Shape", "begin", "()I"⟩ ∈ gw := in_2 198 rfl rfl
theorem g_439 : .instanceMethod ⟨"LetterFoundry$Shape", "begin", "()I"⟩ ∈ gw := in_2 199 rfl rfl
theorem g_440 : .selects "LetterFoundry$Shape" ⟨"LetterFoundry$Shape", "begin", "()I"⟩ ⟨"LetterFoundry$Shape", "begin", "()I"⟩ ∈ gw := in_2 200 rfl rfl
theorem g_441 : .code ⟨"LetterFoundry$Shape", "begin", "()I"⟩ prog_12_method_2_code (1 : Nat) (Option.some FieldType.int) ∈ gw := in_2 201 rfl rfl
theorem g_442 : .methodLink "LetterFoundryLaw" (27 : Nat) ⟨"LetterFoundry", "point", "(IIII)I"⟩ ∈ gw := in_2 202 rfl rfl
theorem g_443 : .instanceMethod ⟨"LetterFoundry", "point", "(IIII)I"⟩ ∈ gw := in_2 203 rfl rfl
theorem g_444 : .selects "LetterFoundry" ⟨"LetterFoundry", "point", "(IIII)I"⟩ ⟨"LetterFoundry", "point", "(IIII)I"⟩ ∈ gw := in_2 204 rfl rfl
theorem g_445 : .code ⟨"LetterFoundry", "point", "(IIII)I"⟩ prog_1_method_5_code (6 : Nat) (Option.some FieldType.int) ∈ gw := in_2 205 rfl rfl
theorem g_446 : .methodLink "LetterFoundry" (116 : Nat) ⟨"LetterFoundry", "isPlace", "(II)Z"⟩ ∈ gw := in_2 206 rfl rfl
theorem g_447 : .static ⟨"LetterFoundry", "isPlace", "(II)Z"⟩ ∈ gw := in_2 207 rfl rfl
theorem g_448 : .code ⟨"LetterFoundry", "isPlace", "(II)Z"⟩ prog_1_method_44_code (2 : Nat) (Option.some FieldType.boolean) ∈ gw := in_2 208 rfl rfl
theorem g_449 : .constantLong "LetterFoundry" (352 : Nat) (-32000 : Int64) ∈ gw := in_2 209 rfl rfl
theorem g_450 : .constantLong "LetterFoundry" (120 : Nat) (2 : Int64) ∈ gw := in_2 210 rfl rfl
theorem g_451 : .methodLink "LetterFoundry" (122 : Nat) ⟨"LetterFoundry$Shape", "add", "(III)I"⟩ ∈ gw := in_2 211 rfl rfl
theorem g_452 : .instanceMethod ⟨"LetterFoundry$Shape", "add", "(III)I"⟩ ∈ gw := in_2 212 rfl rfl
theorem g_453 : .selects "LetterFoundry$Shape" ⟨"LetterFoundry$Shape", "add", "(III)I"⟩ ⟨"LetterFoundry$Shape", "add", "(III)I"⟩ ∈ gw := in_2 213 rfl rfl
theorem g_454 : .code ⟨"LetterFoundry$Shape", "add", "(III)I"⟩ prog_12_method_3_code (5 : Nat) (Option.some FieldType.int) ∈ gw := in_2 214 rfl rfl
theorem g_455 : .methodLink "LetterFoundry$Shape" (43 : Nat) ⟨"LetterFoundry$Shape", "openPoints", "()I"⟩ ∈ gw := in_2 215 rfl rfl
theorem g_456 : .instanceMethod ⟨"LetterFoundry$Shape", "openPoints", "()I"⟩ ∈ gw := in_2 216 rfl rfl
theorem g_457 : .selects "LetterFoundry$Shape" ⟨"LetterFoundry$Shape", "openPoints", "()I"⟩ ⟨"LetterFoundry$Shape", "openPoints", "()I"⟩ ∈ gw := in_2 217 rfl rfl
theorem g_458 : .code ⟨"LetterFoundry$Shape", "openPoints", "()I"⟩ prog_12_method_10_code (1 : Nat) (Option.some FieldType.int) ∈ gw := in_2 218 rfl rfl
theorem g_459 : .methodLink "LetterFoundry$Shape" (54 : Nat) ⟨"LetterFoundry$Shape", "closedPoints", "()I"⟩ ∈ gw := in_2 219 rfl rfl
theorem g_460 : .instanceMethod ⟨"LetterFoundry$Shape", "closedPoints", "()I"⟩ ∈ gw := in_2 220 rfl rfl
theorem g_461 : .selects "LetterFoundry$Shape" ⟨"LetterFoundry$Shape", "closedPoints", "()I"⟩ ⟨"LetterFoundry$Shape", "closedPoints", "()I"⟩ ∈ gw := in_2 221 rfl rfl
theorem g_462 : .code ⟨"LetterFoundry$Shape", "closedPoints", "()I"⟩ prog_12_method_9_code (1 : Nat) (Option.some FieldType.int) ∈ gw := in_2 222 rfl rfl
theorem g_463 : .methodLink "LetterFoundry$Shape" (57 : Nat) ⟨"LetterFoundry$Shape", "startOf", "(I)I"⟩ ∈ gw := in_2 223 rfl rfl
theorem g_464 : .instanceMethod ⟨"LetterFoundry$Shape", "startOf", "(I)I"⟩ ∈ gw := in_2 224 rfl rfl
theorem g_465 : .selects "LetterFoundry$Shape" ⟨"LetterFoundry$Shape", "startOf", "(I)I"⟩ ⟨"LetterFoundry$Shape", "startOf", "(I)I"⟩ ∈ gw := in_2 225 rfl rfl
theorem g_466 : .code ⟨"LetterFoundry$Shape", "startOf", "(I)I"⟩ prog_12_method_11_code (2 : Nat) (Option.some FieldType.int) ∈ gw := in_2 226 rfl rfl
theorem g_467 : .constantLong "LetterFoundry$Shape" (72 : Nat) (8 : Int64) ∈ gw := in_2 227 rfl rfl
theorem g_469 : .methodLink "LetterFoundryLaw" (32 : Nat) ⟨"LetterFoundry", "close", "(I)I"⟩ ∈ gw := in_2 229 rfl rfl
theorem g_470 : .instanceMethod ⟨"LetterFoundry", "close", "(I)I"⟩ ∈ gw := in_2 230 rfl rfl
theorem g_471 : .selects "LetterFoundry" ⟨"LetterFoundry", "close", "(I)I"⟩ ⟨"LetterFoundry", "close", "(I)I"⟩ ∈ gw := in_2 231 rfl rfl
theorem g_472 : .code ⟨"LetterFoundry", "close", "(I)I"⟩ prog_1_method_6_code (3 : Nat) (Option.some FieldType.int) ∈ gw := in_2 232 rfl rfl
theorem g_473 : .methodLink "LetterFoundry" (130 : Nat) ⟨"LetterFoundry$Shape", "finish", "()I"⟩ ∈ gw := in_2 233 rfl rfl
theorem g_474 : .instanceMethod ⟨"LetterFoundry$Shape", "finish", "()I"⟩ ∈ gw := in_2 234 rfl rfl
theorem g_475 : .selects "LetterFoundry$Shape" ⟨"LetterFoundry$Shape", "finish", "()I"⟩ ⟨"LetterFoundry$Shape", "finish", "()I"⟩ ∈ gw := in_2 235 rfl rfl
theorem g_476 : .code ⟨"LetterFoundry$Shape", "finish", "()I"⟩ prog_12_method_4_code (2 : Nat) (Option.some FieldType.int) ∈ gw := in_2 236 rfl rfl
theorem g_477 : .methodLink "LetterFoundry$Shape" (47 : Nat) ⟨"LetterFoundry$Shape", "firstBad", "()I"⟩ ∈ gw := in_2 237 rfl rfl
theorem g_479 : .instanceMethod ⟨"LetterFoundry$Shape", "firstBad", "()I"⟩ ∈ gw := in_2 239 rfl rfl
theorem g_480 : .code ⟨"LetterFoundry$Shape", "firstBad", "()I"⟩ prog_12_method_14_code (4 : Nat) (Option.some FieldType.int) ∈ gw := in_3 0 rfl rfl
theorem g_481 : .methodLink "LetterFoundry$Shape" (74 : Nat) ⟨"LetterFoundry$Shape", "stateBehind", "(II)I"⟩ ∈ gw := in_3 1 rfl rfl
theorem g_482 : .static ⟨"LetterFoundry$Shape", "stateBehind", "(II)I"⟩ ∈ gw := in_3 2 rfl rfl
theorem g_483 : .code ⟨"LetterFoundry$Shape", "stateBehind", "(II)I"⟩ prog_12_method_15_code (2 : Nat) (Option.some FieldType.int) ∈ gw := in_3 3 rfl rfl
theorem g_484 : .methodLink "LetterFoundryLaw" (36 : Nat) ⟨"LetterFoundry", "drop", "(I)I"⟩ ∈ gw := in_3 4 rfl rfl
theorem g_485 : .instanceMethod ⟨"LetterFoundry", "drop", "(I)I"⟩ ∈ gw := in_3 5 rfl rfl
theorem g_486 : .selects "LetterFoundry" ⟨"LetterFoundry", "drop", "(I)I"⟩ ⟨"LetterFoundry", "drop", "(I)I"⟩ ∈ gw := in_3 6 rfl rfl
theorem g_487 : .code ⟨"LetterFoundry", "drop", "(I)I"⟩ prog_1_method_7_code (3 : Nat) (Option.some FieldType.int) ∈ gw := in_3 7 rfl rfl
theorem g_488 : .methodLink "LetterFoundry" (133 : Nat) ⟨"LetterFoundry$Shape", "removeLast", "()I"⟩ ∈ gw := in_3 8 rfl rfl
theorem g_489 : .instanceMethod ⟨"LetterFoundry$Shape", "removeLast", "()I"⟩ ∈ gw := in_3 9 rfl rfl
theorem g_490 : .selects "LetterFoundry$Shape" ⟨"LetterFoundry$Shape", "removeLast", "()I"⟩ ⟨"LetterFoundry$Shape", "removeLast", "()I"⟩ ∈ gw := in_3 10 rfl rfl
theorem g_491 : .code ⟨"LetterFoundry$Shape", "removeLast", "()I"⟩ prog_12_method_5_code (1 : Nat) (Option.some FieldType.int) ∈ gw := in_3 11 rfl rfl
theorem g_492 : .methodLink "LetterFoundry$Shape" (50 : Nat) ⟨"LetterFoundry$Shape", "hasAny", "()Z"⟩ ∈ gw := in_3 12 rfl rfl
theorem g_493 : .instanceMethod ⟨"LetterFoundry$Shape", "hasAny", "()Z"⟩ ∈ gw := in_3 13 rfl rfl
theorem g_494 : .selects "LetterFoundry$Shape" ⟨"LetterFoundry$Shape", "hasAny", "()Z"⟩ ⟨"LetterFoundry$Shape", "hasAny", "()Z"⟩ ∈ gw := in_3 14 rfl rfl
theorem g_495 : .code ⟨"LetterFoundry$Shape", "hasAny", "()Z"⟩ prog_12_method_7_code (1 : Nat) (Option.some FieldType.boolean) ∈ gw := in_3 15 rfl rfl
theorem g_496 : .methodLink "LetterFoundryLaw" (40 : Nat) ⟨"LetterFoundry", "move", "(IIII)Z"⟩ ∈ gw := in_3 16 rfl rfl
theorem g_497 : .instanceMethod ⟨"LetterFoundry", "move", "(IIII)Z"⟩ ∈ gw := in_3 17 rfl rfl
theorem g_498 : .selects "LetterFoundry" ⟨"LetterFoundry", "move", "(IIII)Z"⟩ ⟨"LetterFoundry", "move", "(IIII)Z"⟩ ∈ gw := in_3 18 rfl rfl
theorem g_499 : .code ⟨"LetterFoundry", "move", "(IIII)Z"⟩ prog_1_method_8_code (6 : Nat) (Option.some FieldType.boolean) ∈ gw := in_3 19 rfl rfl
theorem g_500 : .methodLink "LetterFoundry" (136 : Nat) ⟨"LetterFoundry$Shape", "hasPoint", "(I)Z"⟩ ∈ gw := in_3 20 rfl rfl
theorem g_501 : .instanceMethod ⟨"LetterFoundry$Shape", "hasPoint", "(I)Z"⟩ ∈ gw := in_3 21 rfl rfl
theorem g_502 : .selects "LetterFoundry$Shape" ⟨"LetterFoundry$Shape", "hasPoint", "(I)Z"⟩ ⟨"LetterFoundry$Shape", "hasPoint", "(I)Z"⟩ ∈ gw := in_3 22 rfl rfl
theorem g_503 : .code ⟨"LetterFoundry$Shape", "hasPoint", "(I)Z"⟩ prog_12_method_8_code (2 : Nat) (Option.some FieldType.boolean) ∈ gw := in_3 23 rfl rfl
theorem g_504 : .methodLink "LetterFoundryLaw" (45 : Nat) ⟨"LetterFoundry", "reverse", "(II)Z"⟩ ∈ gw := in_3 24 rfl rfl
theorem g_505 : .instanceMethod ⟨"LetterFoundry", "reverse", "(II)Z"⟩ ∈ gw := in_3 25 rfl rfl
theorem g_506 : .selects "LetterFoundry" ⟨"LetterFoundry", "reverse", "(II)Z"⟩ ⟨"LetterFoundry", "reverse", "(II)Z"⟩ ∈ gw := in_3 26 rfl rfl
theorem g_507 : .code ⟨"LetterFoundry", "reverse", "(II)Z"⟩ prog_1_method_9_code (4 : Nat) (Option.some FieldType.boolean) ∈ gw := in_3 27 rfl rfl
theorem g_508 : .methodLink "LetterFoundry" (148 : Nat) ⟨"LetterFoundry$Shape", "turn", "(I)V"⟩ ∈ gw := in_3 28 rfl rfl
theorem g_509 : .instanceMethod ⟨"LetterFoundry$Shape", "turn", "(I)V"⟩ ∈ gw := in_3 29 rfl rfl
theorem g_510 : .selects "LetterFoundry$Shape" ⟨"LetterFoundry$Shape", "turn", "(I)V"⟩ ⟨"LetterFoundry$Shape", "turn", "(I)V"⟩ ∈ gw := in_3 30 rfl rfl
theorem g_511 : .code ⟨"LetterFoundry$Shape", "turn", "(I)V"⟩ prog_12_method_6_code (4 : Nat) (Option.none : Option FieldType) ∈ gw := in_3 31 rfl rfl
theorem g_512 : .methodLink "LetterFoundry$Shape" (61 : Nat) ⟨"LetterFoundry$Shape", "endOf", "(I)I"⟩ ∈ gw := in_3 32 rfl rfl
theorem g_513 : .instanceMethod ⟨"LetterFoundry$Shape", "endOf", "(I)I"⟩ ∈ gw := in_3 33 rfl rfl
theorem g_514 : .selects "LetterFoundry$Shape" ⟨"LetterFoundry$Shape", "endOf", "(I)I"⟩ ⟨"LetterFoundry$Shape", "endOf", "(I)I"⟩ ∈ gw := in_3 34 rfl rfl
theorem g_515 : .code ⟨"LetterFoundry$Shape", "endOf", "(I)I"⟩ prog_12_method_12_code (2 : Nat) (Option.some FieldType.int) ∈ gw := in_3 35 rfl rfl
theorem g_516 : .methodLink "LetterFoundry$Shape" (64 : Nat) ⟨"LetterFoundry$Shape", "exchange", "(II)V"⟩ ∈ gw := in_3 36 rfl rfl
theorem g_518 : .instanceMethod ⟨"LetterFoundry$Shape", "exchange", "(II)V"⟩ ∈ gw := in_3 38 rfl rfl
theorem g_519 : .code ⟨"LetterFoundry$Shape", "exchange", "(II)V"⟩ prog_12_method_16_code (4 : Nat) (Option.none : Option FieldType) ∈ gw := in_3 39 rfl rfl
theorem g_520 : .methodLink "LetterFoundry$Shape" (78 : Nat) ⟨"LetterFoundry$Shape", "swap", "([III)V"⟩ ∈ gw := in_3 40 rfl rfl
theorem g_521 : .static ⟨"LetterFoundry$Shape", "swap", "([III)V"⟩ ∈ gw := in_3 41 rfl rfl
theorem g_522 : .code ⟨"LetterFoundry$Shape", "swap", "([III)V"⟩ prog_12_method_17_code (4 : Nat) (Option.none : Option FieldType) ∈ gw := in_3 42 rfl rfl
theorem g_523 : .methodLink "LetterFoundryLaw" (50 : Nat) ⟨"LetterFoundry", "part", "(IIII)I"⟩ ∈ gw := in_3 43 rfl rfl
theorem g_524 : .instanceMethod ⟨"LetterFoundry", "part", "(IIII)I"⟩ ∈ gw := in_3 44 rfl rfl
theorem g_525 : .selects "LetterFoundry" ⟨"LetterFoundry", "part", "(IIII)I"⟩ ⟨"LetterFoundry", "part", "(IIII)I"⟩ ∈ gw := in_3 45 rfl rfl
theorem g_526 : .code ⟨"LetterFoundry", "part", "(IIII)I"⟩ prog_1_method_10_code (7 : Nat) (Option.some FieldType.int) ∈ gw := in_3 46 rfl rfl
theorem g_527 : .methodLink "LetterFoundry" (152 : Nat) ⟨"LetterFoundry$Shape", "hasAny", "()Z"⟩ ∈ gw := in_3 47 rfl rfl
theorem g_528 : .methodLink "LetterFoundry" (162 : Nat) ⟨"LetterFoundry$Letter", "addPart", "(LLetterFoundry$Letter;II)I"⟩ ∈ gw := in_3 48 rfl rfl
theorem g_529 : .instanceMethod ⟨"LetterFoundry$Letter", "addPart", "(LLetterFoundry$Letter;II)I"⟩ ∈ gw := in_3 49 rfl rfl
theorem g_530 : .selects "LetterFoundry$Letter" ⟨"LetterFoundry$Letter", "addPart", "(LLetterFoundry$Letter;II)I"⟩ ⟨"LetterFoundry$Letter", "addPart", "(LLetterFoundry$Letter;II)I"⟩ ∈ gw := in_3 50 rfl rfl
theorem g_531 : .code ⟨"LetterFoundry$Letter", "addPart", "(LLetterFoundry$Letter;II)I"⟩ prog_6_method_2_code (4 : Nat) (Option.some FieldType.int) ∈ gw := in_3 51 rfl rfl
theorem g_532 : .instantiable "LetterFoundry$Part" (7 : Nat) ∈ gw := in_3 52 rfl rfl
theorem g_533 : .methodLink "LetterFoundry$Letter" (41 : Nat) ⟨"LetterFoundry$Part", "<init>", "(LLetterFoundry$Letter;II)V"⟩ ∈ gw := in_3 53 rfl rfl
theorem g_534 : .instanceMethod ⟨"LetterFoundry$Part", "<init>", "(LLetterFoundry$Letter;II)V"⟩ ∈ gw := in_3 54 rfl rfl
theorem g_535 : .code ⟨"LetterFoundry$Part", "<init>", "(LLetterFoundry$Letter;II)V"⟩ prog_8_method_1_code (4 : Nat) (Option.none : Option FieldType) ∈ gw := in_3 55 rfl rfl
theorem g_536 : .methodLink "LetterFoundry$Part" (3 : Nat) ⟨"java/lang/Object", "<init>", "()V"⟩ ∈ gw := in_3 56 rfl rfl
theorem g_537 : .fieldLink "LetterFoundry$Part" (24 : Nat) "LetterFoundry$Part" "letter" "LLetterFoundry$Letter;" ∈ gw := in_3 57 rfl rfl
theorem g_538 : .fieldLink "LetterFoundry$Flattener" (75 : Nat) "LetterFoundry$Part" "letter" "LLetterFoundry$Letter;" ∈ gw := in_3 58 rfl rfl
theorem g_539 : .fieldLink "LetterFoundry$Part" (28 : Nat) "LetterFoundry$Part" "dx" "I" ∈ gw := in_3 59 rfl rfl
theorem g_540 : .fieldLink "LetterFoundry$Part" (31 : Nat) "LetterFoundry$Part" "dy" "I" ∈ gw := in_3 60 rfl rfl
theorem g_541 : .fieldLink "LetterFoundry$Part" (9 : Nat) "LetterFoundry$Part" "xx" "I" ∈ gw := in_3 61 rfl rfl
theorem g_542 : .fieldLink "LetterFoundry$Part" (15 : Nat) "LetterFoundry$Part" "xy" "I" ∈ gw := in_3 62 rfl rfl
theorem g_543 : .fieldLink "LetterFoundry$Part" (18 : Nat) "LetterFoundry$Part" "yx" "I" ∈ gw := in_3 63 rfl rfl
theorem g_544 : .fieldLink "LetterFoundry$Part" (21 : Nat) "LetterFoundry$Part" "yy" "I" ∈ gw := in_3 64 rfl rfl
theorem g_545 : .laysFinal "LetterFoundry$Part" "LetterFoundry$Part" "letter" "LLetterFoundry$Letter;" ∈ gw := in_3 65 rfl rfl
theorem g_547 : .laysFinal "LetterFoundry$Part" "LetterFoundry$Part" "dx" "I" ∈ gw := in_3 67 rfl rfl
theorem g_549 : .laysFinal "LetterFoundry$Part" "LetterFoundry$Part" "dy" "I" ∈ gw := in_3 69 rfl rfl
theorem g_551 : .lays "LetterFoundry$Part" "LetterFoundry$Part" "xx" "I" ∈ gw := in_3 71 rfl rfl
theorem g_553 : .lays "LetterFoundry$Part" "LetterFoundry$Part" "xy" "I" ∈ gw := in_3 73 rfl rfl
theorem g_555 : .lays "LetterFoundry$Part" "LetterFoundry$Part" "yx" "I" ∈ gw := in_3 75 rfl rfl
theorem g_557 : .lays "LetterFoundry$Part" "LetterFoundry$Part" "yy" "I" ∈ gw := in_3 77 rfl rfl
theorem g_560 : .methodLink "LetterFoundry$Letter" (51 : Nat) ⟨"java/lang/Math", "max", "(II)I"⟩ ∈ gw := in_3 80 rfl rfl
theorem g_561 : .static ⟨"java/lang/Math", "max", "(II)I"⟩ ∈ gw := in_3 81 rfl rfl
theorem g_562 : .code ⟨"java/lang/Math", "max", "(II)I"⟩ prog_15_method_65_code (2 : Nat) (Option.some FieldType.int) ∈ gw := in_3 82 rfl rfl
theorem g_563 : .methodLink "LetterFoundryLaw" (54 : Nat) ⟨"LetterFoundry", "matrix", "(IIIIII)Z"⟩ ∈ gw := in_3 83 rfl rfl
theorem g_564 : .instanceMethod ⟨"LetterFoundry", "matrix", "(IIIIII)Z"⟩ ∈ gw := in_3 84 rfl rfl
theorem g_565 : .selects "LetterFoundry" ⟨"LetterFoundry", "matrix", "(IIIIII)Z"⟩ ⟨"LetterFoundry", "matrix", "(IIIIII)Z"⟩ ∈ gw := in_3 85 rfl rfl
theorem g_566 : .code ⟨"LetterFoundry", "matrix", "(IIIIII)Z"⟩ prog_1_method_11_code (9 : Nat) (Option.some FieldType.boolean) ∈ gw := in_3 86 rfl rfl
theorem g_567 : .methodLink "LetterFoundry" (166 : Nat) ⟨"LetterFoundry$Letter", "partOf", "(I)LLetterFoundry$Part;"⟩ ∈ gw := in_3 87 rfl rfl
theorem g_568 : .instanceMethod ⟨"LetterFoundry$Letter", "partOf", "(I)LLetterFoundry$Part;"⟩ ∈ gw := in_3 88 rfl rfl
theorem g_569 : .selects "LetterFoundry$Letter" ⟨"LetterFoundry$Letter", "partOf", "(I)LLetterFoundry$Part;"⟩ ⟨"LetterFoundry$Letter", "partOf", "(I)LLetterFoundry$Part;"⟩ ∈ gw := in_3 89 rfl rfl
theorem g_570 : .code ⟨"LetterFoundry$Letter", "partOf", "(I)LLetterFoundry$Part;"⟩ prog_6_method_3_code (2 : Nat) (Option.some (FieldType.object "LetterFoundry$Part")) ∈ gw := in_3 90 rfl rfl
theorem g_572 : .methodLink "LetterFoundry" (170 : Nat) ⟨"LetterFoundry", "isShort", "(I)Z"⟩ ∈ gw := in_3 92 rfl rfl
theorem g_573 : .static ⟨"LetterFoundry", "isShort", "(I)Z"⟩ ∈ gw := in_3 93 rfl rfl
theorem g_574 : .code ⟨"LetterFoundry", "isShort", "(I)Z"⟩ prog_1_method_45_code (1 : Nat) (Option.some FieldType.boolean) ∈ gw := in_3 94 rfl rfl
theorem g_575 : .constantLong "LetterFoundry" (354 : Nat) (-32768 : Int64) ∈ gw := in_3 95 rfl rfl
theorem g_576 : .constantLong "LetterFoundry" (356 : Nat) (32767 : Int64) ∈ gw := in_3 96 rfl rfl
theorem g_577 : .methodLink "LetterFoundry" (173 : Nat) ⟨"LetterFoundry$Part", "turnBy", "(IIII)V"⟩ ∈ gw := in_3 97 rfl rfl
theorem g_578 : .instanceMethod ⟨"LetterFoundry$Part", "turnBy", "(IIII)V"⟩ ∈ gw := in_3 98 rfl rfl
theorem g_579 : .selects "LetterFoundry$Part" ⟨"LetterFoundry$Part", "turnBy", "(IIII)V"⟩ ⟨"LetterFoundry$Part", "turnBy", "(IIII)V"⟩ ∈ gw := in_3 99 rfl rfl
theorem g_580 : .code ⟨"LetterFoundry$Part", "turnBy", "(IIII)V"⟩ prog_8_method_2_code (5 : Nat) (Option.none : Option FieldType) ∈ gw := in_3 100 rfl rfl
theorem g_581 : .methodLink "LetterFoundryLaw" (59 : Nat) ⟨"LetterFoundry", "info", "(II)I"⟩ ∈ gw := in_3 101 rfl rfl
theorem g_582 : .instanceMethod ⟨"LetterFoundry", "info", "(II)I"⟩ ∈ gw := in_3 102 rfl rfl
theorem g_583 : .selects "LetterFoundry" ⟨"LetterFoundry", "info", "(II)I"⟩ ⟨"LetterFoundry", "info", "(II)I"⟩ ∈ gw := in_3 103 rfl rfl
theorem g_584 : .code ⟨"LetterFoundry", "info", "(II)I"⟩ prog_1_method_12_code (4 : Nat) (Option.some FieldType.int) ∈ gw := in_3 104 rfl rfl
theorem g_585 : .methodLink "LetterFoundry" (185 : Nat) ⟨"LetterFoundry$Shape", "closedPoints", "()I"⟩ ∈ gw := in_3 105 rfl rfl
theorem g_586 : .methodLink "LetterFoundry" (188 : Nat) ⟨"LetterFoundry$Shape", "openPoints", "()I"⟩ ∈ gw := in_3 106 rfl rfl
theorem g_587 : .methodLink "LetterFoundryLaw" (63 : Nat) ⟨"LetterFoundry", "at", "(III)I"⟩ ∈ gw := in_3 107 rfl rfl
theorem g_588 : .instanceMethod ⟨"LetterFoundry", "at", "(III)I"⟩ ∈ gw := in_3 108 rfl rfl
theorem g_589 : .selects "LetterFoundry" ⟨"LetterFoundry", "at", "(III)I"⟩ ⟨"LetterFoundry", "at", "(III)I"⟩ ∈ gw := in_3 109 rfl rfl
theorem g_590 : .code ⟨"LetterFoundry", "at", "(III)I"⟩ prog_1_method_13_code (5 : Nat) (Option.some FieldType.int) ∈ gw := in_3 110 rfl rfl
theorem g_591 : .constant "LetterFoundry" (200 : Nat) (-100000 : Int32) ∈ gw := in_3 111 rfl rfl
theorem g_592 : .methodLink "LetterFoundry" (204 : Nat) ⟨"LetterFoundry$Shape", "outlineWith", "(I)I"⟩ ∈ gw := in_3 112 rfl rfl
theorem g_593 : .instanceMethod ⟨"LetterFoundry$Shape", "outlineWith", "(I)I"⟩ ∈ gw := in_3 113 rfl rfl
theorem g_594 : .selects "LetterFoundry$Shape" ⟨"LetterFoundry$Shape", "outlineWith", "(I)I"⟩ ⟨"LetterFoundry$Shape", "outlineWith", "(I)I"⟩ ∈ gw := in_3 114 rfl rfl
theorem g_595 : .code ⟨"LetterFoundry$Shape", "outlineWith", "(I)I"⟩ prog_12_method_13_code (3 : Nat) (Option.some FieldType.int) ∈ gw := in_3 115 rfl rfl
theorem g_596 : .methodLink "LetterFoundryLaw" (68 : Nat) ⟨"LetterFoundry", "flatten", "(II)I"⟩ ∈ gw := in_3 116 rfl rfl
theorem g_597 : .instanceMethod ⟨"LetterFoundry", "flatten", "(II)I"⟩ ∈ gw := in_3 117 rfl rfl
theorem g_598 : .selects "LetterFoundry" ⟨"LetterFoundry", "flatten", "(II)I"⟩ ⟨"LetterFoundry", "flatten", "(II)I"⟩ ∈ gw := in_3 118 rfl rfl
theorem g_599 : .code ⟨"LetterFoundry", "flatten", "(II)I"⟩ prog_1_method_14_code (3 : Nat) (Option.some FieldType.int) ∈ gw := in_3 119 rfl rfl
theorem g_600 : .methodLink "LetterFoundry" (207 : Nat) ⟨"LetterFoundry$Flattener", "fill", "(LLetterFoundry$Letter;ILLetterFoundry$Polygons;)Z"⟩ ∈ gw := in_3 120 rfl rfl
theorem g_601 : .instanceMethod ⟨"LetterFoundry$Flattener", "fill", "(LLetterFoundry$Letter;ILLetterFoundry$Polygons;)Z"⟩ ∈ gw := in_3 121 rfl rfl
theorem g_602 : .selects "LetterFoundry$Flattener" ⟨"LetterFoundry$Flattener", "fill", "(LLetterFoundry$Letter;ILLetterFoundry$Polygons;)Z"⟩ ⟨"LetterFoundry$Flattener", "fill", "(LLetterFoundry$Letter;ILLetterFoundry$Polygons;)Z"⟩ ∈ gw := in_3 122 rfl rfl
theorem g_603 : .code ⟨"LetterFoundry$Flattener", "fill", "(LLetterFoundry$Letter;ILLetterFoundry$Polygons;)Z"⟩ prog_3_method_2_code (4 : Nat) (Option.some FieldType.boolean) ∈ gw := in_3 123 rfl rfl
theorem g_604 : .constantLong "LetterFoundry$Flattener" (30 : Nat) (256 : Int64) ∈ gw := in_3 124 rfl rfl
theorem g_606 : .methodLink "LetterFoundry$Flattener" (40 : Nat) ⟨"LetterFoundry$Polygons", "clear", "()V"⟩ ∈ gw := in_3 126 rfl rfl
theorem g_607 : .instanceMethod ⟨"LetterFoundry$Polygons", "clear", "()V"⟩ ∈ gw := in_3 127 rfl rfl
theorem g_608 : .selects "LetterFoundry$Polygons" ⟨"LetterFoundry$Polygons", "clear", "()V"⟩ ⟨"LetterFoundry$Polygons", "clear", "()V"⟩ ∈ gw := in_3 128 rfl rfl
theorem g_609 : .code ⟨"LetterFoundry$Polygons", "clear", "()V"⟩ prog_9_method_2_code (1 : Nat) (Option.none : Option FieldType) ∈ gw := in_3 129 rfl rfl
theorem g_610 : .methodLink "LetterFoundry$Flattener" (45 : Nat) ⟨"LetterFoundry$Flattener", "addLetter", "(LLetterFoundry$Letter;ILLetterFoundry$Polygons;)V"⟩ ∈ gw := in_3 130 rfl rfl
theorem g_612 : .instanceMethod ⟨"LetterFoundry$Flattener", "addLetter", "(LLetterFoundry$Letter;ILLetterFoundry$Polygons;)V"⟩ ∈ gw := in_3 132 rfl rfl
theorem g_613 : .code ⟨"LetterFoundry$Flattener", "addLetter", "(LLetterFoundry$Letter;ILLetterFoundry$Polygons;)V"⟩ prog_3_method_3_code (6 : Nat) (Option.none : Option FieldType) ∈ gw := in_3 133 rfl rfl
theorem g_614 : .methodLink "LetterFoundry$Flattener" (65 : Nat) ⟨"LetterFoundry$Flattener", "addOutline", "(LLetterFoundry$Shape;IILLetterFoundry$Polygons;)V"⟩ ∈ gw := in_3 134 rfl rfl
theorem g_616 : .instanceMethod ⟨"LetterFoundry$Flattener", "addOutline", "(LLetterFoundry$Shape;IILLetterFoundry$Polygons;)V"⟩ ∈ gw := in_3 136 rfl rfl
theorem g_617 : .code ⟨"LetterFoundry$Flattener", "addOutline", "(LLetterFoundry$Shape;IILLetterFoundry$Polygons;)V"⟩ prog_3_method_4_code (10 : Nat) (Option.none : Option FieldType) ∈ gw := in_3 137 rfl rfl
theorem g_618 : .methodLink "LetterFoundry$Flattener" (79 : Nat) ⟨"LetterFoundry$Shape", "startOf", "(I)I"⟩ ∈ gw := in_3 138 rfl rfl
theorem g_619 : .methodLink "LetterFoundry$Flattener" (83 : Nat) ⟨"LetterFoundry$Shape", "endOf", "(I)I"⟩ ∈ gw := in_3 139 rfl rfl
theorem g_620 : .methodLink "LetterFoundry$Flattener" (86 : Nat) ⟨"LetterFoundry$Flattener", "place", "(LLetterFoundry$Shape;II)V"⟩ ∈ gw := in_3 140 rfl rfl
theorem g_622 : .instanceMethod ⟨"LetterFoundry$Flattener", "place", "(LLetterFoundry$Shape;II)V"⟩ ∈ gw := in_3 142 rfl rfl
theorem g_623 : .code ⟨"LetterFoundry$Flattener", "place", "(LLetterFoundry$Shape;II)V"⟩ prog_3_method_5_code (12 : Nat) (Option.none : Option FieldType) ∈ gw := in_3 143 rfl rfl
theorem g_624 : .methodLink "LetterFoundry$Flattener" (112 : Nat) ⟨"LetterFoundry$Part", "placeX", "(JJ)J"⟩ ∈ gw := in_3 144 rfl rfl
theorem g_625 : .instanceMethod ⟨"LetterFoundry$Part", "placeX", "(JJ)J"⟩ ∈ gw := in_3 145 rfl rfl
theorem g_626 : .selects "LetterFoundry$Part" ⟨"LetterFoundry$Part", "placeX", "(JJ)J"⟩ ⟨"LetterFoundry$Part", "placeX", "(JJ)J"⟩ ∈ gw := in_3 146 rfl rfl
theorem g_627 : .code ⟨"LetterFoundry$Part", "placeX", "(JJ)J"⟩ prog_8_method_3_code (5 : Nat) (Option.some FieldType.long) ∈ gw := in_3 147 rfl rfl
theorem g_628 : .constantLong "LetterFoundry$Part" (34 : Nat) (16384 : Int64) ∈ gw := in_3 148 rfl rfl
theorem g_630 : .static ⟨"LetterFoundry", "rounded", "(JJ)J"⟩ ∈ gw := in_3 150 rfl rfl
theorem g_631 : .code ⟨"LetterFoundry", "rounded", "(JJ)J"⟩ prog_1_method_50_code (13 : Nat) (Option.some FieldType.long) ∈ gw := in_3 151 rfl rfl
theorem g_632 : .methodLink "LetterFoundry" (368 : Nat) ⟨"java/lang/Math", "abs", "(J)J"⟩ ∈ gw := in_3 152 rfl rfl
theorem g_633 : .static ⟨"java/lang/Math", "abs", "(J)J"⟩ ∈ gw := in_3 153 rfl rfl
theorem g_634 : .code ⟨"java/lang/Math", "abs", "(J)J"⟩ prog_15_method_61_code (2 : Nat) (Option.some FieldType.long) ∈ gw := in_3 154 rfl rfl
theorem g_635 : .methodLink "LetterFoundry" (374 : Nat) ⟨"java/lang/Math", "floorDiv", "(JJ)J"⟩ ∈ gw := in_3 155 rfl rfl
theorem g_636 : .static ⟨"java/lang/Math", "floorDiv", "(JJ)J"⟩ ∈ gw := in_3 156 rfl rfl
theorem g_637 : .code ⟨"java/lang/Math", "floorDiv", "(JJ)J"⟩ prog_15_method_49_code (6 : Nat) (Option.some FieldType.long) ∈ gw := in_3 157 rfl rfl
theorem g_638 : .methodLink "LetterFoundry$Flattener" (116 : Nat) ⟨"LetterFoundry$Part", "placeY", "(JJ)J"⟩ ∈ gw := in_3 158 rfl rfl
theorem g_639 : .instanceMethod ⟨"LetterFoundry$Part", "placeY", "(JJ)J"⟩ ∈ gw := in_3 159 rfl rfl
theorem g_640 : .selects "LetterFoundry$Part" ⟨"LetterFoundry$Part", "placeY", "(JJ)J"⟩ ⟨"LetterFoundry$Part", "placeY", "(JJ)J"⟩ ∈ gw := in_3 160 rfl rfl
theorem g_641 : .code ⟨"LetterFoundry$Part", "placeY", "(JJ)J"⟩ prog_8_method_4_code (5 : Nat) (Option.some FieldType.long) ∈ gw := in_3 161 rfl rfl
theorem g_642 : .methodLink "LetterFoundry$Flattener" (90 : Nat) ⟨"LetterFoundry$Polygons", "add", "(JJ)V"⟩ ∈ gw := in_3 162 rfl rfl
theorem g_643 : .instanceMethod ⟨"LetterFoundry$Polygons", "add", "(JJ)V"⟩ ∈ gw := in_3 163 rfl rfl
theorem g_644 : .selects "LetterFoundry$Polygons" ⟨"LetterFoundry$Polygons", "add", "(JJ)V"⟩ ⟨"LetterFoundry$Polygons", "add", "(JJ)V"⟩ ∈ gw := in_3 164 rfl rfl
theorem g_645 : .code ⟨"LetterFoundry$Polygons", "add", "(JJ)V"⟩ prog_9_method_3_code (5 : Nat) (Option.none : Option FieldType) ∈ gw := in_3 165 rfl rfl
theorem g_646 : .methodLink "LetterFoundry$Polygons" (39 : Nat) ⟨"LetterFoundry$Polygons", "isNear", "(J)Z"⟩ ∈ gw := in_3 166 rfl rfl
theorem g_647 : .static ⟨"LetterFoundry$Polygons", "isNear", "(J)Z"⟩ ∈ gw := in_3 167 rfl rfl
theorem g_648 : .code ⟨"LetterFoundry$Polygons", "isNear", "(J)Z"⟩ prog_9_method_11_code (2 : Nat) (Option.some FieldType.boolean) ∈ gw := in_3 168 rfl rfl
theorem g_649 : .constantLong "LetterFoundry$Polygons" (57 : Nat) (-100000 : Int64) ∈ gw := in_3 169 rfl rfl
theorem g_650 : .constantLong "LetterFoundry$Polygons" (59 : Nat) (100000 : Int64) ∈ gw := in_3 170 rfl rfl
theorem g_652 : .methodLink "LetterFoundry$Polygons" (43 : Nat) ⟨"LetterFoundry$Polygons", "isLast", "(JJ)Z"⟩ ∈ gw := in_3 172 rfl rfl
theorem g_654 : .instanceMethod ⟨"LetterFoundry$Polygons", "isLast", "(JJ)Z"⟩ ∈ gw := in_3 174 rfl rfl
theorem g_655 : .code ⟨"LetterFoundry$Polygons", "isLast", "(JJ)Z"⟩ prog_9_method_10_code (5 : Nat) (Option.some FieldType.boolean) ∈ gw := in_3 175 rfl rfl
theorem g_656 : .methodLink "LetterFoundry$Flattener" (101 : Nat) ⟨"LetterFoundry$Flattener", "addPiece", "(ILLetterFoundry$Polygons;)V"⟩ ∈ gw := in_3 176 rfl rfl
theorem g_658 : .instanceMethod ⟨"LetterFoundry$Flattener", "addPiece", "(ILLetterFoundry$Polygons;)V"⟩ ∈ gw := in_3 178 rfl rfl
theorem g_659 : .code ⟨"LetterFoundry$Flattener", "addPiece", "(ILLetterFoundry$Polygons;)V"⟩ prog_3_method_6_code (4 : Nat) (Option.none : Option FieldType) ∈ gw := in_3 179 rfl rfl
theorem g_660 : .methodLink "LetterFoundry$Flattener" (119 : Nat) ⟨"LetterFoundry$Flattener", "isFlat", "(I)Z"⟩ ∈ gw := in_3 180 rfl rfl
theorem g_662 : .instanceMethod ⟨"LetterFoundry$Flattener", "isFlat", "(I)Z"⟩ ∈ gw := in_3 182 rfl rfl
theorem g_663 : .code ⟨"LetterFoundry$Flattener", "isFlat", "(I)Z"⟩ prog_3_method_7_code (3 : Nat) (Option.some FieldType.boolean) ∈ gw := in_3 183 rfl rfl
theorem g_664 : .methodLink "LetterFoundry$Flattener" (135 : Nat) ⟨"LetterFoundry$Flattener", "bend", "([JI)J"⟩ ∈ gw := in_3 184 rfl rfl
theorem g_665 : .static ⟨"LetterFoundry$Flattener", "bend", "([JI)J"⟩ ∈ gw := in_3 185 rfl rfl
theorem g_666 : .code ⟨"LetterFoundry$Flattener", "bend", "([JI)J"⟩ prog_3_method_8_code (2 : Nat) (Option.some FieldType.long) ∈ gw := in_3 186 rfl rfl
theorem g_667 : .constantLong "LetterFoundry$Flattener" (139 : Nat) (2 : Int64) ∈ gw := in_3 187 rfl rfl
theorem g_668 : .methodLink "LetterFoundry$Flattener" (141 : Nat) ⟨"java/lang/Math", "abs", "(J)J"⟩ ∈ gw := in_3 188 rfl rfl
theorem g_669 : .constantLong "LetterFoundry$Flattener" (123 : Nat) (1073741824 : Int64) ∈ gw := in_3 189 rfl rfl
theorem g_671 : .methodLink "LetterFoundry$Flattener" (128 : Nat) ⟨"LetterFoundry$Flattener", "firstHalf", "([JI)V"⟩ ∈ gw := in_3 191 rfl rfl
theorem g_673 : .instanceMethod ⟨"LetterFoundry$Flattener", "firstHalf", "([JI)V"⟩ ∈ gw := in_3 193 rfl rfl
theorem g_674 : .code ⟨"LetterFoundry$Flattener", "firstHalf", "([JI)V"⟩ prog_3_method_9_code (6 : Nat) (Option.none : Option FieldType) ∈ gw := in_3 194 rfl rfl
theorem g_675 : .methodLink "LetterFoundry$Flattener" (147 : Nat) ⟨"java/lang/System", "arraycopy", "(Ljava/lang/Object;ILjava/lang/Object;II)V"⟩ ∈ gw := in_3 195 rfl rfl
theorem g_676 : .static ⟨"java/lang/System", "arraycopy", "(Ljava/lang/Object;ILjava/lang/Object;II)V"⟩ ∈ gw := in_3 196 rfl rfl
theorem g_677 : .native ⟨"java/lang/System", "arraycopy", "(Ljava/lang/Object;ILjava/lang/Object;II)V"⟩ ∈ gw := in_3 197 rfl rfl
theorem g_678 : .methodLink "LetterFoundry$Flattener" (132 : Nat) ⟨"LetterFoundry$Flattener", "secondHalf", "([JI)V"⟩ ∈ gw := in_3 198 rfl rfl
theorem g_680 : .instanceMethod ⟨"LetterFoundry$Flattener", "secondHalf", "([JI)V"⟩ ∈ gw := in_3 200 rfl rfl
theorem g_681 : .code ⟨"LetterFoundry$Flattener", "secondHalf", "([JI)V"⟩ prog_3_method_10_code (6 : Nat) (Option.none : Option FieldType) ∈ gw := in_3 201 rfl rfl
theorem g_682 : .methodLink "LetterFoundry$Flattener" (105 : Nat) ⟨"LetterFoundry$Polygons", "finish", "()V"⟩ ∈ gw := in_3 202 rfl rfl
theorem g_683 : .instanceMethod ⟨"LetterFoundry$Polygons", "finish", "()V"⟩ ∈ gw := in_3 203 rfl rfl
theorem g_684 : .selects "LetterFoundry$Polygons" ⟨"LetterFoundry$Polygons", "finish", "()V"⟩ ⟨"LetterFoundry$Polygons", "finish", "()V"⟩ ∈ gw := in_3 204 rfl rfl
theorem g_685 : .code ⟨"LetterFoundry$Polygons", "finish", "()V"⟩ prog_9_method_4_code (1 : Nat) (Option.none : Option FieldType) ∈ gw := in_3 205 rfl rfl
theorem g_686 : .methodLink "LetterFoundry" (211 : Nat) ⟨"LetterFoundry", "takeSparePolygons", "()V"⟩ ∈ gw := in_3 206 rfl rfl
theorem g_688 : .instanceMethod ⟨"LetterFoundry", "takeSparePolygons", "()V"⟩ ∈ gw := in_3 208 rfl rfl
theorem g_689 : .code ⟨"LetterFoundry", "takeSparePolygons", "()V"⟩ prog_1_method_39_code (2 : Nat) (Option.none : Option FieldType) ∈ gw := in_3 209 rfl rfl
theorem g_690 : .methodLink "LetterFoundryLaw" (72 : Nat) ⟨"LetterFoundry", "flat", "(II)I"⟩ ∈ gw := in_3 210 rfl rfl
theorem g_691 : .instanceMethod ⟨"LetterFoundry", "flat", "(II)I"⟩ ∈ gw := in_3 211 rfl rfl
theorem g_692 : .selects "LetterFoundry" ⟨"LetterFoundry", "flat", "(II)I"⟩ ⟨"LetterFoundry", "flat", "(II)I"⟩ ∈ gw := in_3 212 rfl rfl
theorem g_693 : .code ⟨"LetterFoundry", "flat", "(II)I"⟩ prog_1_method_15_code (3 : Nat) (Option.some FieldType.int) ∈ gw := in_3 213 rfl rfl
theorem g_694 : .constant "LetterFoundry" (215 : Nat) (-1000000 : Int32) ∈ gw := in_3 214 rfl rfl
theorem g_695 : .methodLink "LetterFoundryLaw" (76 : Nat) ⟨"LetterFoundry", "area", "()J"⟩ ∈ gw := in_3 215 rfl rfl
theorem g_696 : .instanceMethod ⟨"LetterFoundry", "area", "()J"⟩ ∈ gw := in_3 216 rfl rfl
theorem g_697 : .selects "LetterFoundry" ⟨"LetterFoundry", "area", "()J"⟩ ⟨"LetterFoundry", "area", "()J"⟩ ∈ gw := in_3 217 rfl rfl
theorem g_698 : .code ⟨"LetterFoundry", "area", "()J"⟩ prog_1_method_16_code (1 : Nat) (Option.some FieldType.long) ∈ gw := in_3 218 rfl rfl
theorem g_699 : .methodLink "LetterFoundry" (221 : Nat) ⟨"LetterFoundry$Polygons", "doubleArea", "()J"⟩ ∈ gw := in_3 219 rfl rfl
theorem g_700 : .instanceMethod ⟨"LetterFoundry$Polygons", "doubleArea", "()J"⟩ ∈ gw := in_3 220 rfl rfl
theorem g_701 : .selects "LetterFoundry$Polygons" ⟨"LetterFoundry$Polygons", "doubleArea", "()J"⟩ ⟨"LetterFoundry$Polygons", "doubleArea", "()J"⟩ ∈ gw := in_3 221 rfl rfl
theorem g_702 : .code ⟨"LetterFoundry$Polygons", "doubleArea", "()J"⟩ prog_9_method_5_code (5 : Nat) (Option.some FieldType.long) ∈ gw := in_3 222 rfl rfl
theorem g_703 : .methodLink "LetterFoundryLaw" (81 : Nat) ⟨"LetterFoundry", "winding", "(II)I"⟩ ∈ gw := in_3 223 rfl rfl
theorem g_704 : .instanceMethod ⟨"LetterFoundry", "winding", "(II)I"⟩ ∈ gw := in_3 224 rfl rfl
theorem g_705 : .selects "LetterFoundry" ⟨"LetterFoundry", "winding", "(II)I"⟩ ⟨"LetterFoundry", "winding", "(II)I"⟩ ∈ gw := in_3 225 rfl rfl
theorem g_706 : .code ⟨"LetterFoundry", "winding", "(II)I"⟩ prog_1_method_17_code (3 : Nat) (Option.some FieldType.int) ∈ gw := in_3 226 rfl rfl
theorem g_707 : .constantLong "LetterFoundry" (225 : Nat) (-2000000 : Int64) ∈ gw := in_3 227 rfl rfl
theorem g_708 : .constantLong "LetterFoundry" (227 : Nat) (2000000 : Int64) ∈ gw := in_3 228 rfl rfl
theorem g_709 : .methodLink "LetterFoundry" (229 : Nat) ⟨"LetterFoundry$Polygons", "turnsAround", "(II)I"⟩ ∈ gw := in_3 229 rfl rfl
theorem g_710 : .instanceMethod ⟨"LetterFoundry$Polygons", "turnsAround", "(II)I"⟩ ∈ gw := in_3 230 rfl rfl
theorem g_711 : .selects "LetterFoundry$Polygons" ⟨"LetterFoundry$Polygons", "turnsAround", "(II)I"⟩ ⟨"LetterFoundry$Polygons", "turnsAround", "(II)I"⟩ ∈ gw := in_3 231 rfl rfl
theorem g_712 : .code ⟨"LetterFoundry$Polygons", "turnsAround", "(II)I"⟩ prog_9_method_6_code (8 : Nat) (Option.some FieldType.int) ∈ gw := in_3 232 rfl rfl
theorem g_713 : .constantLong "LetterFoundry$Polygons" (47 : Nat) (16 : Int64) ∈ gw := in_3 233 rfl rfl
theorem g_714 : .methodLink "LetterFoundryLaw" (85 : Nat) ⟨"LetterFoundry", "crossings", "()I"⟩ ∈ gw := in_3 234 rfl rfl
theorem g_715 : .instanceMethod ⟨"LetterFoundry", "crossings", "()I"⟩ ∈ gw := in_3 235 rfl rfl
theorem g_716 : .selects "LetterFoundry" ⟨"LetterFoundry", "crossings", "()I"⟩ ⟨"LetterFoundry", "crossings", "()I"⟩ ∈ gw := in_3 236 rfl rfl
theorem g_717 : .code ⟨"LetterFoundry", "crossings", "()I"⟩ prog_1_method_18_code (1 : Nat) (Option.some FieldType.int) ∈ gw := in_3 237 rfl rfl
theorem g_718 : .methodLink "LetterFoundry" (233 : Nat) ⟨"LetterFoundry$Polygons", "crossingPairs", "()I"⟩ ∈ gw := in_3 238 rfl rfl
theorem g_719 : .instanceMethod ⟨"LetterFoundry$Polygons", "crossingPairs", "()I"⟩ ∈ gw := in_3 239 rfl rfl
theorem g_720 : .selects "LetterFoundry$Polygons" ⟨"LetterFoundry$Polygons", "crossingPairs", "()I"⟩ ⟨"LetterFoundry$Polygons", "crossingPairs", "()I"⟩ ∈ gw := in_4 0 rfl rfl
theorem g_721 : .code ⟨"LetterFoundry$Polygons", "crossingPairs", "()I"⟩ prog_9_method_7_code (4 : Nat) (Option.some FieldType.int) ∈ gw := in_4 1 rfl rfl
theorem g_722 : .methodLink "LetterFoundry$Polygons" (49 : Nat) ⟨"LetterFoundry$Polygons", "parts", "(IIII)Z"⟩ ∈ gw := in_4 2 rfl rfl
theorem g_724 : .instanceMethod ⟨"LetterFoundry$Polygons", "parts", "(IIII)Z"⟩ ∈ gw := in_4 4 rfl rfl
theorem g_725 : .code ⟨"LetterFoundry$Polygons", "parts", "(IIII)Z"⟩ prog_9_method_8_code (9 : Nat) (Option.some FieldType.boolean) ∈ gw := in_4 5 rfl rfl
theorem g_726 : .methodLink "LetterFoundry$Polygons" (53 : Nat) ⟨"LetterFoundry$Polygons", "side", "(III)J"⟩ ∈ gw := in_4 6 rfl rfl
theorem g_728 : .instanceMethod ⟨"LetterFoundry$Polygons", "side", "(III)J"⟩ ∈ gw := in_4 8 rfl rfl
theorem g_729 : .code ⟨"LetterFoundry$Polygons", "side", "(III)J"⟩ prog_9_method_9_code (4 : Nat) (Option.some FieldType.long) ∈ gw := in_4 9 rfl rfl
theorem g_730 : .methodLink "LetterFoundryLaw" (90 : Nat) ⟨"LetterFoundry", "image", "(IIII)I"⟩ ∈ gw := in_4 10 rfl rfl
theorem g_731 : .instanceMethod ⟨"LetterFoundry", "image", "(IIII)I"⟩ ∈ gw := in_4 11 rfl rfl
theorem g_732 : .selects "LetterFoundry" ⟨"LetterFoundry", "image", "(IIII)I"⟩ ⟨"LetterFoundry", "image", "(IIII)I"⟩ ∈ gw := in_4 12 rfl rfl
theorem g_733 : .code ⟨"LetterFoundry", "image", "(IIII)I"⟩ prog_1_method_19_code (5 : Nat) (Option.some FieldType.int) ∈ gw := in_4 13 rfl rfl
theorem g_734 : .methodLink "LetterFoundry" (236 : Nat) ⟨"LetterFoundry", "isDots", "(I)Z"⟩ ∈ gw := in_4 14 rfl rfl
theorem g_735 : .static ⟨"LetterFoundry", "isDots", "(I)Z"⟩ ∈ gw := in_4 15 rfl rfl
theorem g_736 : .code ⟨"LetterFoundry", "isDots", "(I)Z"⟩ prog_1_method_49_code (1 : Nat) (Option.some FieldType.boolean) ∈ gw := in_4 16 rfl rfl
theorem g_737 : .constantLong "LetterFoundry" (364 : Nat) (4 : Int64) ∈ gw := in_4 17 rfl rfl
theorem g_738 : .constantLong "LetterFoundry" (366 : Nat) (32 : Int64) ∈ gw := in_4 18 rfl rfl
theorem g_739 : .methodLink "LetterFoundry" (239 : Nat) ⟨"LetterFoundry$Image", "holds", "(LLetterFoundry$Polygons;I)Z"⟩ ∈ gw := in_4 19 rfl rfl
theorem g_740 : .static ⟨"LetterFoundry$Image", "holds", "(LLetterFoundry$Polygons;I)Z"⟩ ∈ gw := in_4 20 rfl rfl
theorem g_741 : .code ⟨"LetterFoundry$Image", "holds", "(LLetterFoundry$Polygons;I)Z"⟩ prog_4_method_2_code (3 : Nat) (Option.some FieldType.boolean) ∈ gw := in_4 21 rfl rfl
theorem g_742 : .methodLink "LetterFoundry$Image" (25 : Nat) ⟨"LetterFoundry$Image", "isInside", "(I)Z"⟩ ∈ gw := in_4 22 rfl rfl
theorem g_743 : .static ⟨"LetterFoundry$Image", "isInside", "(I)Z"⟩ ∈ gw := in_4 23 rfl rfl
theorem g_744 : .code ⟨"LetterFoundry$Image", "isInside", "(I)Z"⟩ prog_4_method_6_code (1 : Nat) (Option.some FieldType.boolean) ∈ gw := in_4 24 rfl rfl
theorem g_745 : .constant "LetterFoundry$Image" (74 : Nat) (49152 : Int32) ∈ gw := in_4 25 rfl rfl
theorem g_746 : .methodLink "LetterFoundry" (243 : Nat) ⟨"LetterFoundry$Image", "draw", "(LLetterFoundry$Polygons;II)V"⟩ ∈ gw := in_4 26 rfl rfl
theorem g_747 : .instanceMethod ⟨"LetterFoundry$Image", "draw", "(LLetterFoundry$Polygons;II)V"⟩ ∈ gw := in_4 27 rfl rfl
theorem g_748 : .selects "LetterFoundry$Image" ⟨"LetterFoundry$Image", "draw", "(LLetterFoundry$Polygons;II)V"⟩ ⟨"LetterFoundry$Image", "draw", "(LLetterFoundry$Polygons;II)V"⟩ ∈ gw := in_4 28 rfl rfl
theorem g_749 : .code ⟨"LetterFoundry$Image", "draw", "(LLetterFoundry$Polygons;II)V"⟩ prog_4_method_3_code (5 : Nat) (Option.none : Option FieldType) ∈ gw := in_4 29 rfl rfl
theorem g_750 : .methodLink "LetterFoundry$Image" (32 : Nat) ⟨"java/util/Arrays", "fill", "([II)V"⟩ ∈ gw := in_4 30 rfl rfl
theorem g_751 : .methodLink "LetterFoundry$Image" (38 : Nat) ⟨"LetterFoundry$Image", "markRow", "(LLetterFoundry$Polygons;II)V"⟩ ∈ gw := in_4 31 rfl rfl
theorem g_753 : .instanceMethod ⟨"LetterFoundry$Image", "markRow", "(LLetterFoundry$Polygons;II)V"⟩ ∈ gw := in_4 33 rfl rfl
theorem g_754 : .code ⟨"LetterFoundry$Image", "markRow", "(LLetterFoundry$Polygons;II)V"⟩ prog_4_method_7_code (10 : Nat) (Option.none : Option FieldType) ∈ gw := in_4 34 rfl rfl
theorem g_755 : .methodLink "LetterFoundry$Image" (84 : Nat) ⟨"LetterFoundry$Image", "samplesLeft", "(LLetterFoundry$Polygons;IIIJ)I"⟩ ∈ gw := in_4 35 rfl rfl
theorem g_756 : .static ⟨"LetterFoundry$Image", "samplesLeft", "(LLetterFoundry$Polygons;IIIJ)I"⟩ ∈ gw := in_4 36 rfl rfl
theorem g_757 : .code ⟨"LetterFoundry$Image", "samplesLeft", "(LLetterFoundry$Polygons;IIIJ)I"⟩ prog_4_method_9_code (14 : Nat) (Option.some FieldType.int) ∈ gw := in_4 37 rfl rfl
theorem g_758 : .constantLong "LetterFoundry$Image" (100 : Nat) (-16320 : Int64) ∈ gw := in_4 38 rfl rfl
theorem g_759 : .constantLong "LetterFoundry$Image" (102 : Nat) (128 : Int64) ∈ gw := in_4 39 rfl rfl
theorem g_760 : .methodLink "LetterFoundry$Image" (104 : Nat) ⟨"java/lang/Math", "floorDiv", "(JJ)J"⟩ ∈ gw := in_4 40 rfl rfl
theorem g_761 : .constantLong "LetterFoundry$Image" (108 : Nat) (512 : Int64) ∈ gw := in_4 41 rfl rfl
theorem g_762 : .methodLink "LetterFoundry$Image" (110 : Nat) ⟨"java/lang/Math", "min", "(JJ)J"⟩ ∈ gw := in_4 42 rfl rfl
theorem g_763 : .static ⟨"java/lang/Math", "min", "(JJ)J"⟩ ∈ gw := in_4 43 rfl rfl
theorem g_764 : .code ⟨"java/lang/Math", "min", "(JJ)J"⟩ prog_15_method_70_code (4 : Nat) (Option.some FieldType.long) ∈ gw := in_4 44 rfl rfl
theorem g_765 : .methodLink "LetterFoundry$Image" (112 : Nat) ⟨"java/lang/Math", "max", "(JJ)J"⟩ ∈ gw := in_4 45 rfl rfl
theorem g_766 : .static ⟨"java/lang/Math", "max", "(JJ)J"⟩ ∈ gw := in_4 46 rfl rfl
theorem g_767 : .code ⟨"java/lang/Math", "max", "(JJ)J"⟩ prog_15_method_66_code (4 : Nat) (Option.some FieldType.long) ∈ gw := in_4 47 rfl rfl
theorem g_768 : .methodLink "LetterFoundry$Image" (88 : Nat) ⟨"LetterFoundry$Image", "mark", "(II)V"⟩ ∈ gw := in_4 48 rfl rfl
theorem g_770 : .instanceMethod ⟨"LetterFoundry$Image", "mark", "(II)V"⟩ ∈ gw := in_4 50 rfl rfl
theorem g_771 : .code ⟨"LetterFoundry$Image", "mark", "(II)V"⟩ prog_4_method_8_code (3 : Nat) (Option.none : Option FieldType) ∈ gw := in_4 51 rfl rfl
theorem g_772 : .methodLink "LetterFoundry$Image" (91 : Nat) ⟨"java/lang/Math", "min", "(II)I"⟩ ∈ gw := in_4 52 rfl rfl
theorem g_773 : .static ⟨"java/lang/Math", "min", "(II)I"⟩ ∈ gw := in_4 53 rfl rfl
theorem g_774 : .code ⟨"java/lang/Math", "min", "(II)I"⟩ prog_15_method_69_code (2 : Nat) (Option.some FieldType.int) ∈ gw := in_4 54 rfl rfl
theorem g_775 : .methodLink "LetterFoundry$Image" (97 : Nat) ⟨"java/lang/Math", "max", "(II)I"⟩ ∈ gw := in_4 55 rfl rfl
theorem g_776 : .methodLink "LetterFoundry$Image" (42 : Nat) ⟨"LetterFoundry$Image", "countRow", "(II)V"⟩ ∈ gw := in_4 56 rfl rfl
theorem g_778 : .instanceMethod ⟨"LetterFoundry$Image", "countRow", "(II)V"⟩ ∈ gw := in_4 58 rfl rfl
theorem g_779 : .code ⟨"LetterFoundry$Image", "countRow", "(II)V"⟩ prog_4_method_10_code (6 : Nat) (Option.none : Option FieldType) ∈ gw := in_4 59 rfl rfl
theorem g_780 : .methodLink "LetterFoundry$Image" (46 : Nat) ⟨"LetterFoundry$Image", "measure", "()V"⟩ ∈ gw := in_4 60 rfl rfl
theorem g_782 : .instanceMethod ⟨"LetterFoundry$Image", "measure", "()V"⟩ ∈ gw := in_4 62 rfl rfl
theorem g_783 : .code ⟨"LetterFoundry$Image", "measure", "()V"⟩ prog_4_method_11_code (2 : Nat) (Option.none : Option FieldType) ∈ gw := in_4 63 rfl rfl
theorem g_784 : .methodLink "LetterFoundryLaw" (94 : Nat) ⟨"LetterFoundry", "dot", "(II)I"⟩ ∈ gw := in_4 64 rfl rfl
theorem g_785 : .instanceMethod ⟨"LetterFoundry", "dot", "(II)I"⟩ ∈ gw := in_4 65 rfl rfl
theorem g_786 : .selects "LetterFoundry" ⟨"LetterFoundry", "dot", "(II)I"⟩ ⟨"LetterFoundry", "dot", "(II)I"⟩ ∈ gw := in_4 66 rfl rfl
theorem g_787 : .code ⟨"LetterFoundry", "dot", "(II)I"⟩ prog_1_method_20_code (3 : Nat) (Option.some FieldType.int) ∈ gw := in_4 67 rfl rfl
theorem g_788 : .methodLink "LetterFoundry" (250 : Nat) ⟨"LetterFoundry$Image", "countAt", "(II)I"⟩ ∈ gw := in_4 68 rfl rfl
theorem g_789 : .instanceMethod ⟨"LetterFoundry$Image", "countAt", "(II)I"⟩ ∈ gw := in_4 69 rfl rfl
theorem g_790 : .selects "LetterFoundry$Image" ⟨"LetterFoundry$Image", "countAt", "(II)I"⟩ ⟨"LetterFoundry$Image", "countAt", "(II)I"⟩ ∈ gw := in_4 70 rfl rfl
theorem g_791 : .code ⟨"LetterFoundry$Image", "countAt", "(II)I"⟩ prog_4_method_4_code (3 : Nat) (Option.some FieldType.int) ∈ gw := in_4 71 rfl rfl
theorem g_792 : .constantLong "LetterFoundry$Image" (49 : Nat) (-16 : Int64) ∈ gw := in_4 72 rfl rfl
theorem g_793 : .constantLong "LetterFoundry$Image" (51 : Nat) (47 : Int64) ∈ gw := in_4 73 rfl rfl
theorem g_795 : .methodLink "LetterFoundryLaw" (98 : Nat) ⟨"LetterFoundry", "box", "(I)I"⟩ ∈ gw := in_4 75 rfl rfl
theorem g_796 : .instanceMethod ⟨"LetterFoundry", "box", "(I)I"⟩ ∈ gw := in_4 76 rfl rfl
theorem g_797 : .selects "LetterFoundry" ⟨"LetterFoundry", "box", "(I)I"⟩ ⟨"LetterFoundry", "box", "(I)I"⟩ ∈ gw := in_4 77 rfl rfl
theorem g_798 : .code ⟨"LetterFoundry", "box", "(I)I"⟩ prog_1_method_21_code (2 : Nat) (Option.some FieldType.int) ∈ gw := in_4 78 rfl rfl
theorem g_799 : .methodLink "LetterFoundry" (253 : Nat) ⟨"LetterFoundry$Image", "edge", "(I)I"⟩ ∈ gw := in_4 79 rfl rfl
theorem g_800 : .instanceMethod ⟨"LetterFoundry$Image", "edge", "(I)I"⟩ ∈ gw := in_4 80 rfl rfl
theorem g_801 : .selects "LetterFoundry$Image" ⟨"LetterFoundry$Image", "edge", "(I)I"⟩ ⟨"LetterFoundry$Image", "edge", "(I)I"⟩ ∈ gw := in_4 81 rfl rfl
theorem g_802 : .code ⟨"LetterFoundry$Image", "edge", "(I)I"⟩ prog_4_method_5_code (2 : Nat) (Option.some FieldType.int) ∈ gw := in_4 82 rfl rfl
theorem g_803 : .methodLink "LetterFoundryLaw" (102 : Nat) ⟨"LetterFoundry", "act", "(III)I"⟩ ∈ gw := in_4 83 rfl rfl
theorem g_804 : .instanceMethod ⟨"LetterFoundry", "act", "(III)I"⟩ ∈ gw := in_4 84 rfl rfl
theorem g_805 : .selects "LetterFoundry" ⟨"LetterFoundry", "act", "(III)I"⟩ ⟨"LetterFoundry", "act", "(III)I"⟩ ∈ gw := in_4 85 rfl rfl
theorem g_806 : .code ⟨"LetterFoundry", "act", "(III)I"⟩ prog_1_method_22_code (5 : Nat) (Option.some FieldType.int) ∈ gw := in_4 86 rfl rfl
theorem g_807 : .constantLong "LetterFoundry" (256 : Nat) (30 : Int64) ∈ gw := in_4 87 rfl rfl
theorem g_808 : .constantLong "LetterFoundry" (258 : Nat) (-100000 : Int64) ∈ gw := in_4 88 rfl rfl
theorem g_809 : .constantLong "LetterFoundry" (260 : Nat) (100000 : Int64) ∈ gw := in_4 89 rfl rfl
theorem g_810 : .methodLink "LetterFoundry" (262 : Nat) ⟨"LetterFoundry$Program", "add", "(II)I"⟩ ∈ gw := in_4 90 rfl rfl
theorem g_811 : .instanceMethod ⟨"LetterFoundry$Program", "add", "(II)I"⟩ ∈ gw := in_4 91 rfl rfl
theorem g_812 : .selects "LetterFoundry$Program" ⟨"LetterFoundry$Program", "add", "(II)I"⟩ ⟨"LetterFoundry$Program", "add", "(II)I"⟩ ∈ gw := in_4 92 rfl rfl
theorem g_813 : .code ⟨"LetterFoundry$Program", "add", "(II)I"⟩ prog_10_method_2_code (3 : Nat) (Option.some FieldType.int) ∈ gw := in_4 93 rfl rfl
theorem g_814 : .methodLink "LetterFoundryLaw" (106 : Nat) ⟨"LetterFoundry", "wipe", "(I)I"⟩ ∈ gw := in_4 94 rfl rfl
theorem g_815 : .instanceMethod ⟨"LetterFoundry", "wipe", "(I)I"⟩ ∈ gw := in_4 95 rfl rfl
theorem g_816 : .selects "LetterFoundry" ⟨"LetterFoundry", "wipe", "(I)I"⟩ ⟨"LetterFoundry", "wipe", "(I)I"⟩ ∈ gw := in_4 96 rfl rfl
theorem g_817 : .code ⟨"LetterFoundry", "wipe", "(I)I"⟩ prog_1_method_23_code (3 : Nat) (Option.some FieldType.int) ∈ gw := in_4 97 rfl rfl
theorem g_818 : .methodLink "LetterFoundry" (264 : Nat) ⟨"LetterFoundry$Program", "clear", "()I"⟩ ∈ gw := in_4 98 rfl rfl
theorem g_819 : .instanceMethod ⟨"LetterFoundry$Program", "clear", "()I"⟩ ∈ gw := in_4 99 rfl rfl
theorem g_820 : .selects "LetterFoundry$Program" ⟨"LetterFoundry$Program", "clear", "()I"⟩ ⟨"LetterFoundry$Program", "clear", "()I"⟩ ∈ gw := in_4 100 rfl rfl
theorem g_821 : .code ⟨"LetterFoundry$Program", "clear", "()I"⟩ prog_10_method_3_code (2 : Nat) (Option.some FieldType.int) ∈ gw := in_4 101 rfl rfl
theorem g_822 : .methodLink "LetterFoundryLaw" (110 : Nat) ⟨"LetterFoundry", "run", "(II)I"⟩ ∈ gw := in_4 102 rfl rfl
theorem g_823 : .instanceMethod ⟨"LetterFoundry", "run", "(II)I"⟩ ∈ gw := in_4 103 rfl rfl
theorem g_824 : .selects "LetterFoundry" ⟨"LetterFoundry", "run", "(II)I"⟩ ⟨"LetterFoundry", "run", "(II)I"⟩ ∈ gw := in_4 104 rfl rfl
theorem g_825 : .code ⟨"LetterFoundry", "run", "(II)I"⟩ prog_1_method_24_code (6 : Nat) (Option.some FieldType.int) ∈ gw := in_4 105 rfl rfl
theorem g_826 : .methodLink "LetterFoundry" (267 : Nat) ⟨"LetterFoundry$Fitting", "start", "(LLetterFoundry$Shape;I)V"⟩ ∈ gw := in_4 106 rfl rfl
theorem g_827 : .instanceMethod ⟨"LetterFoundry$Fitting", "start", "(LLetterFoundry$Shape;I)V"⟩ ∈ gw := in_4 107 rfl rfl
theorem g_828 : .selects "LetterFoundry$Fitting" ⟨"LetterFoundry$Fitting", "start", "(LLetterFoundry$Shape;I)V"⟩ ⟨"LetterFoundry$Fitting", "start", "(LLetterFoundry$Shape;I)V"⟩ ∈ gw := in_4 108 rfl rfl
theorem g_829 : .code ⟨"LetterFoundry$Fitting", "start", "(LLetterFoundry$Shape;I)V"⟩ prog_2_method_2_code (5 : Nat) (Option.none : Option FieldType) ∈ gw := in_4 109 rfl rfl
theorem g_830 : .methodLink "LetterFoundry$Fitting" (26 : Nat) ⟨"LetterFoundry$Shape", "closedPoints", "()I"⟩ ∈ gw := in_4 110 rfl rfl
theorem g_831 : .methodLink "LetterFoundry$Fitting" (42 : Nat) ⟨"LetterFoundry$Shape", "endOf", "(I)I"⟩ ∈ gw := in_4 111 rfl rfl
theorem g_832 : .constantLong "LetterFoundry$Fitting" (46 : Nat) (64 : Int64) ∈ gw := in_4 112 rfl rfl
theorem g_833 : .constantLong "LetterFoundry$Fitting" (51 : Nat) (1024 : Int64) ∈ gw := in_4 113 rfl rfl
theorem g_835 : .methodLink "LetterFoundry" (271 : Nat) ⟨"LetterFoundry$Runner", "perform", "(LLetterFoundry$Program;LLetterFoundry$Fitting;)I"⟩ ∈ gw := in_4 115 rfl rfl
theorem g_836 : .instanceMethod ⟨"LetterFoundry$Runner", "perform", "(LLetterFoundry$Program;LLetterFoundry$Fitting;)I"⟩ ∈ gw := in_4 116 rfl rfl
theorem g_837 : .selects "LetterFoundry$Runner" ⟨"LetterFoundry$Runner", "perform", "(LLetterFoundry$Program;LLetterFoundry$Fitting;)I"⟩ ⟨"LetterFoundry$Runner", "perform", "(LLetterFoundry$Program;LLetterFoundry$Fitting;)I"⟩ ∈ gw := in_4 117 rfl rfl
theorem g_838 : .code ⟨"LetterFoundry$Runner", "perform", "(LLetterFoundry$Program;LLetterFoundry$Fitting;)I"⟩ prog_11_method_2_code (5 : Nat) (Option.some FieldType.int) ∈ gw := in_4 118 rfl rfl
theorem g_839 : .methodLink "LetterFoundry$Runner" (21 : Nat) ⟨"java/util/Arrays", "fill", "([II)V"⟩ ∈ gw := in_4 119 rfl rfl
theorem g_841 : .methodLink "LetterFoundry$Runner" (46 : Nat) ⟨"LetterFoundry$Runner", "step", "(LLetterFoundry$Program;LLetterFoundry$Fitting;)I"⟩ ∈ gw := in_4 121 rfl rfl
theorem g_843 : .instanceMethod ⟨"LetterFoundry$Runner", "step", "(LLetterFoundry$Program;LLetterFoundry$Fitting;)I"⟩ ∈ gw := in_4 123 rfl rfl
theorem g_844 : .code ⟨"LetterFoundry$Runner", "step", "(LLetterFoundry$Program;LLetterFoundry$Fitting;)I"⟩ prog_11_method_3_code (6 : Nat) (Option.some FieldType.int) ∈ gw := in_4 124 rfl rfl
theorem g_845 : .methodLink "LetterFoundry$Runner" (56 : Nat) ⟨"LetterFoundry$Runner", "faultAhead", "(IIILLetterFoundry$Fitting;)I"⟩ ∈ gw := in_4 125 rfl rfl
theorem g_847 : .instanceMethod ⟨"LetterFoundry$Runner", "faultAhead", "(IIILLetterFoundry$Fitting;)I"⟩ ∈ gw := in_4 127 rfl rfl
theorem g_848 : .code ⟨"LetterFoundry$Runner", "faultAhead", "(IIILLetterFoundry$Fitting;)I"⟩ prog_11_method_4_code (5 : Nat) (Option.some FieldType.int) ∈ gw := in_4 128 rfl rfl
theorem g_849 : .constantLong "LetterFoundry$Runner" (97 : Nat) (30 : Int64) ∈ gw := in_4 129 rfl rfl
theorem g_850 : .fieldLink "LetterFoundry$Runner" (64 : Nat) "LetterFoundry$Runner" "TAKES" "[I" ∈ gw := in_4 130 rfl rfl
theorem g_852 : .fieldLink "LetterFoundry$Runner" (99 : Nat) "LetterFoundry$Runner" "GIVES" "[I" ∈ gw := in_4 132 rfl rfl
theorem g_854 : .constantLong "LetterFoundry$Runner" (102 : Nat) (22 : Int64) ∈ gw := in_4 134 rfl rfl
theorem g_855 : .constantLong "LetterFoundry$Runner" (104 : Nat) (27 : Int64) ∈ gw := in_4 135 rfl rfl
theorem g_856 : .methodLink "LetterFoundry$Runner" (106 : Nat) ⟨"LetterFoundry$Fitting", "hasPoint", "(I)Z"⟩ ∈ gw := in_4 136 rfl rfl
theorem g_857 : .instanceMethod ⟨"LetterFoundry$Fitting", "hasPoint", "(I)Z"⟩ ∈ gw := in_4 137 rfl rfl
theorem g_858 : .selects "LetterFoundry$Fitting" ⟨"LetterFoundry$Fitting", "hasPoint", "(I)Z"⟩ ⟨"LetterFoundry$Fitting", "hasPoint", "(I)Z"⟩ ∈ gw := in_4 138 rfl rfl
theorem g_859 : .code ⟨"LetterFoundry$Fitting", "hasPoint", "(I)Z"⟩ prog_2_method_3_code (2 : Nat) (Option.some FieldType.boolean) ∈ gw := in_4 139 rfl rfl
theorem g_861 : .constantLong "LetterFoundry$Runner" (109 : Nat) (16 : Int64) ∈ gw := in_4 141 rfl rfl
theorem g_862 : .constantLong "LetterFoundry$Runner" (111 : Nat) (18 : Int64) ∈ gw := in_4 142 rfl rfl
theorem g_863 : .constantLong "LetterFoundry$Runner" (113 : Nat) (15 : Int64) ∈ gw := in_4 143 rfl rfl
theorem g_864 : .methodLink "LetterFoundry$Runner" (60 : Nat) ⟨"LetterFoundry$Runner", "carry", "(II)V"⟩ ∈ gw := in_4 144 rfl rfl
theorem g_866 : .instanceMethod ⟨"LetterFoundry$Runner", "carry", "(II)V"⟩ ∈ gw := in_4 146 rfl rfl
theorem g_867 : .code ⟨"LetterFoundry$Runner", "carry", "(II)V"⟩ prog_11_method_5_code (3 : Nat) (Option.none : Option FieldType) ∈ gw := in_4 147 rfl rfl
theorem g_868 : .methodLink "LetterFoundry$Runner" (115 : Nat) ⟨"LetterFoundry$Runner", "push", "(I)V"⟩ ∈ gw := in_4 148 rfl rfl
theorem g_870 : .instanceMethod ⟨"LetterFoundry$Runner", "push", "(I)V"⟩ ∈ gw := in_4 150 rfl rfl
theorem g_871 : .code ⟨"LetterFoundry$Runner", "push", "(I)V"⟩ prog_11_method_13_code (2 : Nat) (Option.none : Option FieldType) ∈ gw := in_4 151 rfl rfl
theorem g_872 : .methodLink "LetterFoundry$Runner" (67 : Nat) ⟨"LetterFoundry$Runner", "pop", "()I"⟩ ∈ gw := in_4 152 rfl rfl
theorem g_874 : .instanceMethod ⟨"LetterFoundry$Runner", "pop", "()I"⟩ ∈ gw := in_4 154 rfl rfl
theorem g_875 : .code ⟨"LetterFoundry$Runner", "pop", "()I"⟩ prog_11_method_14_code (1 : Nat) (Option.some FieldType.int) ∈ gw := in_4 155 rfl rfl
theorem g_876 : .methodLink "LetterFoundry$Runner" (119 : Nat) ⟨"LetterFoundry$Runner", "changeTwo", "()V"⟩ ∈ gw := in_4 156 rfl rfl
theorem g_878 : .instanceMethod ⟨"LetterFoundry$Runner", "changeTwo", "()V"⟩ ∈ gw := in_4 158 rfl rfl
theorem g_879 : .code ⟨"LetterFoundry$Runner", "changeTwo", "()V"⟩ prog_11_method_6_code (3 : Nat) (Option.none : Option FieldType) ∈ gw := in_4 159 rfl rfl
theorem g_880 : .methodLink "LetterFoundry$Runner" (71 : Nat) ⟨"LetterFoundry$Runner", "ofOne", "(IJ)J"⟩ ∈ gw := in_4 160 rfl rfl
theorem g_881 : .static ⟨"LetterFoundry$Runner", "ofOne", "(IJ)J"⟩ ∈ gw := in_4 161 rfl rfl
theorem g_882 : .code ⟨"LetterFoundry$Runner", "ofOne", "(IJ)J"⟩ prog_11_method_7_code (3 : Nat) (Option.some FieldType.long) ∈ gw := in_4 162 rfl rfl
theorem g_883 : .methodLink "LetterFoundry$Runner" (122 : Nat) ⟨"java/lang/Math", "abs", "(J)J"⟩ ∈ gw := in_4 163 rfl rfl
theorem g_884 : .methodLink "LetterFoundry$Runner" (128 : Nat) ⟨"LetterFoundry$Runner", "toGrid", "(J)J"⟩ ∈ gw := in_4 164 rfl rfl
theorem g_885 : .static ⟨"LetterFoundry$Runner", "toGrid", "(J)J"⟩ ∈ gw := in_4 165 rfl rfl
theorem g_886 : .code ⟨"LetterFoundry$Runner", "toGrid", "(J)J"⟩ prog_11_method_15_code (2 : Nat) (Option.some FieldType.long) ∈ gw := in_4 166 rfl rfl
theorem g_887 : .constantLong "LetterFoundry$Runner" (131 : Nat) (64 : Int64) ∈ gw := in_4 167 rfl rfl
theorem g_889 : .methodLink "LetterFoundry$Runner" (133 : Nat) ⟨"java/lang/Math", "floorDiv", "(JJ)J"⟩ ∈ gw := in_4 169 rfl rfl
theorem g_890 : .methodLink "LetterFoundry$Runner" (75 : Nat) ⟨"LetterFoundry$Runner", "pushNumber", "(J)I"⟩ ∈ gw := in_4 170 rfl rfl
theorem g_892 : .instanceMethod ⟨"LetterFoundry$Runner", "pushNumber", "(J)I"⟩ ∈ gw := in_4 172 rfl rfl
theorem g_893 : .code ⟨"LetterFoundry$Runner", "pushNumber", "(J)I"⟩ prog_11_method_12_code (3 : Nat) (Option.some FieldType.int) ∈ gw := in_4 173 rfl rfl
theorem g_894 : .constantLong "LetterFoundry$Runner" (157 : Nat) (-1000000000 : Int64) ∈ gw := in_4 174 rfl rfl
theorem g_895 : .constantLong "LetterFoundry$Runner" (159 : Nat) (1000000000 : Int64) ∈ gw := in_4 175 rfl rfl
theorem g_896 : .methodLink "LetterFoundry$Runner" (79 : Nat) ⟨"LetterFoundry$Runner", "reckonTwo", "(I)I"⟩ ∈ gw := in_4 176 rfl rfl
theorem g_898 : .instanceMethod ⟨"LetterFoundry$Runner", "reckonTwo", "(I)I"⟩ ∈ gw := in_4 178 rfl rfl
theorem g_899 : .code ⟨"LetterFoundry$Runner", "reckonTwo", "(I)I"⟩ prog_11_method_8_code (6 : Nat) (Option.some FieldType.int) ∈ gw := in_4 179 rfl rfl
theorem g_900 : .methodLink "LetterFoundry$Runner" (137 : Nat) ⟨"LetterFoundry$Runner", "ofTwo", "(IJJ)J"⟩ ∈ gw := in_4 180 rfl rfl
theorem g_901 : .static ⟨"LetterFoundry$Runner", "ofTwo", "(IJJ)J"⟩ ∈ gw := in_4 181 rfl rfl
theorem g_902 : .code ⟨"LetterFoundry$Runner", "ofTwo", "(IJJ)J"⟩ prog_11_method_9_code (5 : Nat) (Option.some FieldType.long) ∈ gw := in_4 182 rfl rfl
theorem g_903 : .methodLink "LetterFoundry$Runner" (144 : Nat) ⟨"java/lang/Math", "min", "(JJ)J"⟩ ∈ gw := in_4 183 rfl rfl
theorem g_904 : .methodLink "LetterFoundry$Runner" (147 : Nat) ⟨"java/lang/Math", "max", "(JJ)J"⟩ ∈ gw := in_4 184 rfl rfl
theorem g_905 : .methodLink "LetterFoundry$Runner" (83 : Nat) ⟨"LetterFoundry$Runner", "go", "(III)V"⟩ ∈ gw := in_4 185 rfl rfl
theorem g_907 : .instanceMethod ⟨"LetterFoundry$Runner", "go", "(III)V"⟩ ∈ gw := in_4 187 rfl rfl
theorem g_908 : .code ⟨"LetterFoundry$Runner", "go", "(III)V"⟩ prog_11_method_10_code (4 : Nat) (Option.none : Option FieldType) ∈ gw := in_4 188 rfl rfl
theorem g_909 : .methodLink "LetterFoundry$Runner" (87 : Nat) ⟨"LetterFoundry$Runner", "usePoint", "(IILLetterFoundry$Fitting;)V"⟩ ∈ gw := in_4 189 rfl rfl
theorem g_911 : .instanceMethod ⟨"LetterFoundry$Runner", "usePoint", "(IILLetterFoundry$Fitting;)V"⟩ ∈ gw := in_4 191 rfl rfl
theorem g_912 : .code ⟨"LetterFoundry$Runner", "usePoint", "(IILLetterFoundry$Fitting;)V"⟩ prog_11_method_11_code (4 : Nat) (Option.none : Option FieldType) ∈ gw := in_4 192 rfl rfl
theorem g_913 : .methodLink "LetterFoundry$Runner" (154 : Nat) ⟨"LetterFoundry$Fitting", "touch", "(III)V"⟩ ∈ gw := in_4 193 rfl rfl
theorem g_914 : .instanceMethod ⟨"LetterFoundry$Fitting", "touch", "(III)V"⟩ ∈ gw := in_4 194 rfl rfl
theorem g_915 : .selects "LetterFoundry$Fitting" ⟨"LetterFoundry$Fitting", "touch", "(III)V"⟩ ⟨"LetterFoundry$Fitting", "touch", "(III)V"⟩ ∈ gw := in_4 195 rfl rfl
theorem g_916 : .code ⟨"LetterFoundry$Fitting", "touch", "(III)V"⟩ prog_2_method_4_code (4 : Nat) (Option.none : Option FieldType) ∈ gw := in_4 196 rfl rfl
theorem g_917 : .methodLink "LetterFoundry$Runner" (91 : Nat) ⟨"LetterFoundry$Fitting", "fitAll", "(I)Z"⟩ ∈ gw := in_4 197 rfl rfl
theorem g_918 : .instanceMethod ⟨"LetterFoundry$Fitting", "fitAll", "(I)Z"⟩ ∈ gw := in_4 198 rfl rfl
theorem g_919 : .selects "LetterFoundry$Fitting" ⟨"LetterFoundry$Fitting", "fitAll", "(I)Z"⟩ ⟨"LetterFoundry$Fitting", "fitAll", "(I)Z"⟩ ∈ gw := in_4 199 rfl rfl
theorem g_920 : .code ⟨"LetterFoundry$Fitting", "fitAll", "(I)Z"⟩ prog_2_method_5_code (5 : Nat) (Option.some FieldType.boolean) ∈ gw := in_4 200 rfl rfl
theorem g_921 : .methodLink "LetterFoundry$Fitting" (64 : Nat) ⟨"LetterFoundry$Fitting", "fitOutline", "(III)Z"⟩ ∈ gw := in_4 201 rfl rfl
theorem g_923 : .instanceMethod ⟨"LetterFoundry$Fitting", "fitOutline", "(III)Z"⟩ ∈ gw := in_4 203 rfl rfl
theorem g_924 : .code ⟨"LetterFoundry$Fitting", "fitOutline", "(III)Z"⟩ prog_2_method_6_code (12 : Nat) (Option.some FieldType.boolean) ∈ gw := in_4 204 rfl rfl
theorem g_925 : .methodLink "LetterFoundry$Fitting" (68 : Nat) ⟨"LetterFoundry$Fitting", "touchedBehind", "(IIII)I"⟩ ∈ gw := in_4 205 rfl rfl
theorem g_927 : .instanceMethod ⟨"LetterFoundry$Fitting", "touchedBehind", "(IIII)I"⟩ ∈ gw := in_4 207 rfl rfl
theorem g_928 : .code ⟨"LetterFoundry$Fitting", "touchedBehind", "(IIII)I"⟩ prog_2_method_7_code (7 : Nat) (Option.some FieldType.int) ∈ gw := in_4 208 rfl rfl
theorem g_929 : .methodLink "LetterFoundry$Fitting" (72 : Nat) ⟨"LetterFoundry$Fitting", "placeBetween", "(IIIJ)J"⟩ ∈ gw := in_4 209 rfl rfl
theorem g_931 : .instanceMethod ⟨"LetterFoundry$Fitting", "placeBetween", "(IIIJ)J"⟩ ∈ gw := in_4 211 rfl rfl
theorem g_932 : .code ⟨"LetterFoundry$Fitting", "placeBetween", "(IIIJ)J"⟩ prog_2_method_8_code (18 : Nat) (Option.some FieldType.long) ∈ gw := in_4 212 rfl rfl
theorem g_933 : .methodLink "LetterFoundry$Fitting" (80 : Nat) ⟨"java/lang/Math", "min", "(JJ)J"⟩ ∈ gw := in_4 213 rfl rfl
theorem g_934 : .methodLink "LetterFoundry$Fitting" (85 : Nat) ⟨"java/lang/Math", "max", "(JJ)J"⟩ ∈ gw := in_4 214 rfl rfl
theorem g_935 : .constantLong "LetterFoundry$Fitting" (76 : Nat) (-1000000000 : Int64) ∈ gw := in_4 215 rfl rfl
theorem g_936 : .constantLong "LetterFoundry$Fitting" (78 : Nat) (1000000000 : Int64) ∈ gw := in_4 216 rfl rfl
theorem g_937 : .methodLink "LetterFoundryLaw" (114 : Nat) ⟨"LetterFoundry", "fitted", "(II)I"⟩ ∈ gw := in_4 217 rfl rfl
theorem g_938 : .instanceMethod ⟨"LetterFoundry", "fitted", "(II)I"⟩ ∈ gw := in_4 218 rfl rfl
theorem g_939 : .selects "LetterFoundry" ⟨"LetterFoundry", "fitted", "(II)I"⟩ ⟨"LetterFoundry", "fitted", "(II)I"⟩ ∈ gw := in_4 219 rfl rfl
theorem g_940 : .code ⟨"LetterFoundry", "fitted", "(II)I"⟩ prog_1_method_25_code (3 : Nat) (Option.some FieldType.int) ∈ gw := in_4 220 rfl rfl
theorem g_941 : .methodLink "LetterFoundry" (275 : Nat) ⟨"LetterFoundry$Fitting", "hasPoint", "(I)Z"⟩ ∈ gw := in_4 221 rfl rfl
theorem g_942 : .constant "LetterFoundry" (276 : Nat) (-2000000000 : Int32) ∈ gw := in_4 222 rfl rfl
theorem g_943 : .methodLink "LetterFoundryLaw" (118 : Nat) ⟨"LetterFoundry", "delta", "(IIIII)Z"⟩ ∈ gw := in_4 223 rfl rfl
theorem g_944 : .instanceMethod ⟨"LetterFoundry", "delta", "(IIIII)Z"⟩ ∈ gw := in_4 224 rfl rfl
theorem g_945 : .selects "LetterFoundry" ⟨"LetterFoundry", "delta", "(IIIII)Z"⟩ ⟨"LetterFoundry", "delta", "(IIIII)Z"⟩ ∈ gw := in_4 225 rfl rfl
theorem g_946 : .code ⟨"LetterFoundry", "delta", "(IIIII)Z"⟩ prog_1_method_26_code (7 : Nat) (Option.some FieldType.boolean) ∈ gw := in_4 226 rfl rfl
theorem g_947 : .methodLink "LetterFoundry" (284 : Nat) ⟨"LetterFoundry", "isMaster", "(I)Z"⟩ ∈ gw := in_4 227 rfl rfl
theorem g_948 : .static ⟨"LetterFoundry", "isMaster", "(I)Z"⟩ ∈ gw := in_4 228 rfl rfl
theorem g_949 : .code ⟨"LetterFoundry", "isMaster", "(I)Z"⟩ prog_1_method_47_code (1 : Nat) (Option.some FieldType.boolean) ∈ gw := in_4 229 rfl rfl
theorem g_950 : .methodLink "LetterFoundry" (287 : Nat) ⟨"LetterFoundry", "isBy", "(I)Z"⟩ ∈ gw := in_4 230 rfl rfl
theorem g_951 : .static ⟨"LetterFoundry", "isBy", "(I)Z"⟩ ∈ gw := in_4 231 rfl rfl
theorem g_952 : .code ⟨"LetterFoundry", "isBy", "(I)Z"⟩ prog_1_method_46_code (1 : Nat) (Option.some FieldType.boolean) ∈ gw := in_4 232 rfl rfl
theorem g_953 : .constantLong "LetterFoundry" (358 : Nat) (-2000 : Int64) ∈ gw := in_4 233 rfl rfl
theorem g_954 : .constantLong "LetterFoundry" (360 : Nat) (2000 : Int64) ∈ gw := in_4 234 rfl rfl
theorem g_955 : .methodLink "LetterFoundryLaw" (123 : Nat) ⟨"LetterFoundry", "weight", "(II)Z"⟩ ∈ gw := in_4 235 rfl rfl
theorem g_956 : .instanceMethod ⟨"LetterFoundry", "weight", "(II)Z"⟩ ∈ gw := in_4 236 rfl rfl
theorem g_957 : .selects "LetterFoundry" ⟨"LetterFoundry", "weight", "(II)Z"⟩ ⟨"LetterFoundry", "weight", "(II)Z"⟩ ∈ gw := in_4 237 rfl rfl
theorem g_958 : .code ⟨"LetterFoundry", "weight", "(II)Z"⟩ prog_1_method_27_code (3 : Nat) (Option.some FieldType.boolean) ∈ gw := in_4 238 rfl rfl
theorem g_959 : .methodLink "LetterFoundryLaw" (127 : Nat) ⟨"LetterFoundry", "mixed", "(III)I"⟩ ∈ gw := in_4 239 rfl rfl
theorem g_960 : .instanceMethod ⟨"LetterFoundry", "mixed", "(III)I"⟩ ∈ gw := in_5 0 rfl rfl
theorem g_961 : .selects "LetterFoundry" ⟨"LetterFoundry", "mixed", "(III)I"⟩ ⟨"LetterFoundry", "mixed", "(III)I"⟩ ∈ gw := in_5 1 rfl rfl
theorem g_962 : .code ⟨"LetterFoundry", "mixed", "(III)I"⟩ prog_1_method_28_code (6 : Nat) (Option.some FieldType.int) ∈ gw := in_5 2 rfl rfl
theorem g_963 : .methodLink "LetterFoundry" (296 : Nat) ⟨"LetterFoundry", "weighed", "([[II)I"⟩ ∈ gw := in_5 3 rfl rfl
theorem g_965 : .instanceMethod ⟨"LetterFoundry", "weighed", "([[II)I"⟩ ∈ gw := in_5 5 rfl rfl
theorem g_966 : .code ⟨"LetterFoundry", "weighed", "([[II)I"⟩ prog_1_method_40_code (6 : Nat) (Option.some FieldType.int) ∈ gw := in_5 6 rfl rfl
theorem g_967 : .constantLong "LetterFoundry" (344 : Nat) (16384 : Int64) ∈ gw := in_5 7 rfl rfl
theorem g_968 : .methodLink "LetterFoundry" (346 : Nat) ⟨"LetterFoundry", "rounded", "(JJ)J"⟩ ∈ gw := in_5 8 rfl rfl
theorem g_969 : .methodLink "LetterFoundryLaw" (131 : Nat) ⟨"LetterFoundry", "classOf", "(III)Z"⟩ ∈ gw := in_5 9 rfl rfl
theorem g_970 : .instanceMethod ⟨"LetterFoundry", "classOf", "(III)Z"⟩ ∈ gw := in_5 10 rfl rfl
theorem g_971 : .selects "LetterFoundry" ⟨"LetterFoundry", "classOf", "(III)Z"⟩ ⟨"LetterFoundry", "classOf", "(III)Z"⟩ ∈ gw := in_5 11 rfl rfl
theorem g_972 : .code ⟨"LetterFoundry", "classOf", "(III)Z"⟩ prog_1_method_29_code (5 : Nat) (Option.some FieldType.boolean) ∈ gw := in_5 12 rfl rfl
theorem g_973 : .methodLink "LetterFoundry" (300 : Nat) ⟨"LetterFoundry", "isClass", "(I)Z"⟩ ∈ gw := in_5 13 rfl rfl
theorem g_974 : .static ⟨"LetterFoundry", "isClass", "(I)Z"⟩ ∈ gw := in_5 14 rfl rfl
theorem g_975 : .code ⟨"LetterFoundry", "isClass", "(I)Z"⟩ prog_1_method_48_code (1 : Nat) (Option.some FieldType.boolean) ∈ gw := in_5 15 rfl rfl
theorem g_976 : .constantLong "LetterFoundry" (362 : Nat) (15 : Int64) ∈ gw := in_5 16 rfl rfl
theorem g_977 : .methodLink "LetterFoundryLaw" (136 : Nat) ⟨"LetterFoundry", "kern", "(III)Z"⟩ ∈ gw := in_5 17 rfl rfl
theorem g_978 : .instanceMethod ⟨"LetterFoundry", "kern", "(III)Z"⟩ ∈ gw := in_5 18 rfl rfl
theorem g_979 : .selects "LetterFoundry" ⟨"LetterFoundry", "kern", "(III)Z"⟩ ⟨"LetterFoundry", "kern", "(III)Z"⟩ ∈ gw := in_5 19 rfl rfl
theorem g_980 : .code ⟨"LetterFoundry", "kern", "(III)Z"⟩ prog_1_method_30_code (4 : Nat) (Option.some FieldType.boolean) ∈ gw := in_5 20 rfl rfl
theorem g_981 : .methodLink "LetterFoundryLaw" (140 : Nat) ⟨"LetterFoundry", "exception", "(III)Z"⟩ ∈ gw := in_5 21 rfl rfl
theorem g_982 : .instanceMethod ⟨"LetterFoundry", "exception", "(III)Z"⟩ ∈ gw := in_5 22 rfl rfl
theorem g_983 : .selects "LetterFoundry" ⟨"LetterFoundry", "exception", "(III)Z"⟩ ⟨"LetterFoundry", "exception", "(III)Z"⟩ ∈ gw := in_5 23 rfl rfl
theorem g_984 : .code ⟨"LetterFoundry", "exception", "(III)Z"⟩ prog_1_method_31_code (4 : Nat) (Option.some FieldType.boolean) ∈ gw := in_5 24 rfl rfl
theorem g_985 : .methodLink "LetterFoundryLaw" (144 : Nat) ⟨"LetterFoundry", "kerning", "(II)I"⟩ ∈ gw := in_5 25 rfl rfl
theorem g_986 : .instanceMethod ⟨"LetterFoundry", "kerning", "(II)I"⟩ ∈ gw := in_5 26 rfl rfl
theorem g_987 : .selects "LetterFoundry" ⟨"LetterFoundry", "kerning", "(II)I"⟩ ⟨"LetterFoundry", "kerning", "(II)I"⟩ ∈ gw := in_5 27 rfl rfl
theorem g_988 : .code ⟨"LetterFoundry", "kerning", "(II)I"⟩ prog_1_method_32_code (3 : Nat) (Option.some FieldType.int) ∈ gw := in_5 28 rfl rfl
theorem g_989 : .methodLink "LetterFoundry" (315 : Nat) ⟨"LetterFoundry$Kerning", "between", "([LLetterFoundry$Letter;II)I"⟩ ∈ gw := in_5 29 rfl rfl
theorem g_990 : .instanceMethod ⟨"LetterFoundry$Kerning", "between", "([LLetterFoundry$Letter;II)I"⟩ ∈ gw := in_5 30 rfl rfl
theorem g_991 : .selects "LetterFoundry$Kerning" ⟨"LetterFoundry$Kerning", "between", "([LLetterFoundry$Letter;II)I"⟩ ⟨"LetterFoundry$Kerning", "between", "([LLetterFoundry$Letter;II)I"⟩ ∈ gw := in_5 31 rfl rfl
theorem g_992 : .code ⟨"LetterFoundry$Kerning", "between", "([LLetterFoundry$Letter;II)I"⟩ prog_5_method_2_code (7 : Nat) (Option.some FieldType.int) ∈ gw := in_5 32 rfl rfl
theorem g_994 : .methodLink "LetterFoundryLaw" (148 : Nat) ⟨"LetterFoundry", "join", "(IIII)I"⟩ ∈ gw := in_5 34 rfl rfl
theorem g_995 : .instanceMethod ⟨"LetterFoundry", "join", "(IIII)I"⟩ ∈ gw := in_5 35 rfl rfl
theorem g_996 : .selects "LetterFoundry" ⟨"LetterFoundry", "join", "(IIII)I"⟩ ⟨"LetterFoundry", "join", "(IIII)I"⟩ ∈ gw := in_5 36 rfl rfl
theorem g_997 : .code ⟨"LetterFoundry", "join", "(IIII)I"⟩ prog_1_method_33_code (5 : Nat) (Option.some FieldType.int) ∈ gw := in_5 37 rfl rfl
theorem g_998 : .methodLink "LetterFoundry" (318 : Nat) ⟨"LetterFoundry$Line", "addRule", "(IIII)I"⟩ ∈ gw := in_5 38 rfl rfl
theorem g_999 : .instanceMethod ⟨"LetterFoundry$Line", "addRule", "(IIII)I"⟩ ∈ gw := in_5 39 rfl rfl
theorem g_1000 : .selects "LetterFoundry$Line" ⟨"LetterFoundry$Line", "addRule", "(IIII)I"⟩ ⟨"LetterFoundry$Line", "addRule", "(IIII)I"⟩ ∈ gw := in_5 40 rfl rfl
theorem g_1001 : .code ⟨"LetterFoundry$Line", "addRule", "(IIII)I"⟩ prog_7_method_2_code (5 : Nat) (Option.some FieldType.int) ∈ gw := in_5 41 rfl rfl
theorem g_1002 : .methodLink "LetterFoundryLaw" (152 : Nat) ⟨"LetterFoundry", "sign", "(I)I"⟩ ∈ gw := in_5 42 rfl rfl
theorem g_1003 : .instanceMethod ⟨"LetterFoundry", "sign", "(I)I"⟩ ∈ gw := in_5 43 rfl rfl
theorem g_1004 : .selects "LetterFoundry" ⟨"LetterFoundry", "sign", "(I)I"⟩ ⟨"LetterFoundry", "sign", "(I)I"⟩ ∈ gw := in_5 44 rfl rfl
theorem g_1005 : .code ⟨"LetterFoundry", "sign", "(I)I"⟩ prog_1_method_34_code (2 : Nat) (Option.some FieldType.int) ∈ gw := in_5 45 rfl rfl
theorem g_1006 : .methodLink "LetterFoundry" (322 : Nat) ⟨"LetterFoundry$Line", "addSign", "(I)I"⟩ ∈ gw := in_5 46 rfl rfl
theorem g_1007 : .instanceMethod ⟨"LetterFoundry$Line", "addSign", "(I)I"⟩ ∈ gw := in_5 47 rfl rfl
theorem g_1008 : .selects "LetterFoundry$Line" ⟨"LetterFoundry$Line", "addSign", "(I)I"⟩ ⟨"LetterFoundry$Line", "addSign", "(I)I"⟩ ∈ gw := in_5 48 rfl rfl
theorem g_1009 : .code ⟨"LetterFoundry$Line", "addSign", "(I)I"⟩ prog_7_method_3_code (2 : Nat) (Option.some FieldType.int) ∈ gw := in_5 49 rfl rfl
theorem g_1010 : .methodLink "LetterFoundryLaw" (156 : Nat) ⟨"LetterFoundry", "set", "()I"⟩ ∈ gw := in_5 50 rfl rfl
theorem g_1011 : .instanceMethod ⟨"LetterFoundry", "set", "()I"⟩ ∈ gw := in_5 51 rfl rfl
theorem g_1012 : .selects "LetterFoundry" ⟨"LetterFoundry", "set", "()I"⟩ ⟨"LetterFoundry", "set", "()I"⟩ ∈ gw := in_5 52 rfl rfl
theorem g_1013 : .code ⟨"LetterFoundry", "set", "()I"⟩ prog_1_method_35_code (1 : Nat) (Option.some FieldType.int) ∈ gw := in_5 53 rfl rfl
theorem g_1014 : .methodLink "LetterFoundry" (325 : Nat) ⟨"LetterFoundry$Line", "compose", "([LLetterFoundry$Letter;ILLetterFoundry$Kerning;)V"⟩ ∈ gw := in_5 54 rfl rfl
theorem g_1015 : .instanceMethod ⟨"LetterFoundry$Line", "compose", "([LLetterFoundry$Letter;ILLetterFoundry$Kerning;)V"⟩ ∈ gw := in_5 55 rfl rfl
theorem g_1016 : .selects "LetterFoundry$Line" ⟨"LetterFoundry$Line", "compose", "([LLetterFoundry$Letter;ILLetterFoundry$Kerning;)V"⟩ ⟨"LetterFoundry$Line", "compose", "([LLetterFoundry$Letter;ILLetterFoundry$Kerning;)V"⟩ ∈ gw := in_5 56 rfl rfl
theorem g_1017 : .code ⟨"LetterFoundry$Line", "compose", "([LLetterFoundry$Letter;ILLetterFoundry$Kerning;)V"⟩ prog_7_method_4_code (8 : Nat) (Option.none : Option FieldType) ∈ gw := in_5 57 rfl rfl
theorem g_1018 : .methodLink "LetterFoundry$Line" (45 : Nat) ⟨"LetterFoundry$Line", "ruleAt", "(I)I"⟩ ∈ gw := in_5 58 rfl rfl
theorem g_1020 : .instanceMethod ⟨"LetterFoundry$Line", "ruleAt", "(I)I"⟩ ∈ gw := in_5 60 rfl rfl
theorem g_1021 : .code ⟨"LetterFoundry$Line", "ruleAt", "(I)I"⟩ prog_7_method_6_code (5 : Nat) (Option.some FieldType.int) ∈ gw := in_5 61 rfl rfl
theorem g_1022 : .methodLink "LetterFoundry$Line" (57 : Nat) ⟨"LetterFoundry$Line", "sizeOf", "(I)I"⟩ ∈ gw := in_5 62 rfl rfl
theorem g_1024 : .instanceMethod ⟨"LetterFoundry$Line", "sizeOf", "(I)I"⟩ ∈ gw := in_5 64 rfl rfl
theorem g_1025 : .code ⟨"LetterFoundry$Line", "sizeOf", "(I)I"⟩ prog_7_method_7_code (2 : Nat) (Option.some FieldType.int) ∈ gw := in_5 65 rfl rfl
theorem g_1026 : .methodLink "LetterFoundry$Line" (70 : Nat) ⟨"LetterFoundry$Line", "fitsAt", "(II)Z"⟩ ∈ gw := in_5 66 rfl rfl
theorem g_1028 : .instanceMethod ⟨"LetterFoundry$Line", "fitsAt", "(II)Z"⟩ ∈ gw := in_5 68 rfl rfl
theorem g_1029 : .code ⟨"LetterFoundry$Line", "fitsAt", "(II)Z"⟩ prog_7_method_8_code (5 : Nat) (Option.some FieldType.boolean) ∈ gw := in_5 69 rfl rfl
theorem g_1031 : .methodLink "LetterFoundry$Line" (53 : Nat) ⟨"LetterFoundry$Line", "place", "([LLetterFoundry$Letter;IILLetterFoundry$Kerning;)V"⟩ ∈ gw := in_5 71 rfl rfl
theorem g_1033 : .instanceMethod ⟨"LetterFoundry$Line", "place", "([LLetterFoundry$Letter;IILLetterFoundry$Kerning;)V"⟩ ∈ gw := in_5 73 rfl rfl
theorem g_1034 : .code ⟨"LetterFoundry$Line", "place", "([LLetterFoundry$Letter;IILLetterFoundry$Kerning;)V"⟩ prog_7_method_5_code (6 : Nat) (Option.none : Option FieldType) ∈ gw := in_5 74 rfl rfl
theorem g_1035 : .methodLink "LetterFoundry$Line" (60 : Nat) ⟨"LetterFoundry$Kerning", "between", "([LLetterFoundry$Letter;II)I"⟩ ∈ gw := in_5 75 rfl rfl
theorem g_1036 : .methodLink "LetterFoundryLaw" (160 : Nat) ⟨"LetterFoundry", "placed", "(II)I"⟩ ∈ gw := in_5 76 rfl rfl
theorem g_1037 : .instanceMethod ⟨"LetterFoundry", "placed", "(II)I"⟩ ∈ gw := in_5 77 rfl rfl
theorem g_1038 : .selects "LetterFoundry" ⟨"LetterFoundry", "placed", "(II)I"⟩ ⟨"LetterFoundry", "placed", "(II)I"⟩ ∈ gw := in_5 78 rfl rfl
theorem g_1039 : .code ⟨"LetterFoundry", "placed", "(II)I"⟩ prog_1_method_36_code (3 : Nat) (Option.some FieldType.int) ∈ gw := in_5 79 rfl rfl
theorem g_1040 : .methodLink "LetterFoundryLaw" (164 : Nat) ⟨"LetterFoundry", "length", "()I"⟩ ∈ gw := in_5 80 rfl rfl
theorem g_1041 : .instanceMethod ⟨"LetterFoundry", "length", "()I"⟩ ∈ gw := in_5 81 rfl rfl
theorem g_1042 : .selects "LetterFoundry" ⟨"LetterFoundry", "length", "()I"⟩ ⟨"LetterFoundry", "length", "()I"⟩ ∈ gw := in_5 82 rfl rfl
theorem g_1043 : .code ⟨"LetterFoundry", "length", "()I"⟩ prog_1_method_37_code (1 : Nat) (Option.some FieldType.int) ∈ gw := in_5 83 rfl rfl
theorem g_1044 : .classLink "LetterFoundryLaw" (10 : Nat) "LetterFoundryModel" ∈ gw := in_5 84 rfl rfl
theorem g_1045 : .instantiable "LetterFoundryModel" (72 : Nat) ∈ gw := in_5 85 rfl rfl
theorem g_1046 : .methodLink "LetterFoundryLaw" (12 : Nat) ⟨"LetterFoundryModel", "<init>", "()V"⟩ ∈ gw := in_5 86 rfl rfl
theorem g_1047 : .instanceMethod ⟨"LetterFoundryModel", "<init>", "()V"⟩ ∈ gw := in_5 87 rfl rfl
theorem g_1048 : .code ⟨"LetterFoundryModel", "<init>", "()V"⟩ prog_14_method_1_code (1 : Nat) (Option.none : Option FieldType) ∈ gw := in_5 88 rfl rfl
theorem g_1049 : .methodLink "LetterFoundryModel" (1 : Nat) ⟨"java/lang/Object", "<init>", "()V"⟩ ∈ gw := in_5 89 rfl rfl
theorem g_1050 : .fieldLink "LetterFoundryModel" (183 : Nat) "LetterFoundryModel" "letters" "I" ∈ gw := in_5 90 rfl rfl
theorem g_1051 : .fieldLink "LetterFoundryModel" (7 : Nat) "LetterFoundryModel" "code" "[I" ∈ gw := in_5 91 rfl rfl
theorem g_1052 : .fieldLink "LetterFoundryModel" (13 : Nat) "LetterFoundryModel" "wide" "[I" ∈ gw := in_5 92 rfl rfl
theorem g_1053 : .fieldLink "LetterFoundryModel" (16 : Nat) "LetterFoundryModel" "outlines" "[I" ∈ gw := in_5 93 rfl rfl
theorem g_1054 : .fieldLink "LetterFoundryModel" (19 : Nat) "LetterFoundryModel" "isOpen" "[Z" ∈ gw := in_5 94 rfl rfl
theorem g_1055 : .fieldLink "LetterFoundryModel" (23 : Nat) "LetterFoundryModel" "points" "[I" ∈ gw := in_5 95 rfl rfl
theorem g_1056 : .fieldLink "LetterFoundryModel" (26 : Nat) "LetterFoundryModel" "ends" "[I" ∈ gw := in_5 96 rfl rfl
theorem g_1057 : .fieldLink "LetterFoundryModel" (29 : Nat) "LetterFoundryModel" "px" "[I" ∈ gw := in_5 97 rfl rfl
theorem g_1058 : .fieldLink "LetterFoundryModel" (32 : Nat) "LetterFoundryModel" "py" "[I" ∈ gw := in_5 98 rfl rfl
theorem g_1059 : .fieldLink "LetterFoundryModel" (35 : Nat) "LetterFoundryModel" "kind" "[I" ∈ gw := in_5 99 rfl rfl
theorem g_1060 : .fieldLink "LetterFoundryModel" (38 : Nat) "LetterFoundryModel" "deltaX" "[I" ∈ gw := in_5 100 rfl rfl
theorem g_1061 : .fieldLink "LetterFoundryModel" (41 : Nat) "LetterFoundryModel" "deltaY" "[I" ∈ gw := in_5 101 rfl rfl
theorem g_1062 : .fieldLink "LetterFoundryModel" (44 : Nat) "LetterFoundryModel" "parts" "[I" ∈ gw := in_5 102 rfl rfl
theorem g_1063 : .fieldLink "LetterFoundryModel" (47 : Nat) "LetterFoundryModel" "partOf" "[I" ∈ gw := in_5 103 rfl rfl
theorem g_1064 : .fieldLink "LetterFoundryModel" (50 : Nat) "LetterFoundryModel" "matrix" "[I" ∈ gw := in_5 104 rfl rfl
theorem g_1065 : .fieldLink "LetterFoundryModel" (53 : Nat) "LetterFoundryModel" "moveX" "[I" ∈ gw := in_5 105 rfl rfl
theorem g_1066 : .fieldLink "LetterFoundryModel" (56 : Nat) "LetterFoundryModel" "moveY" "[I" ∈ gw := in_5 106 rfl rfl
theorem g_1067 : .fieldLink "LetterFoundryModel" (59 : Nat) "LetterFoundryModel" "acts" "[I" ∈ gw := in_5 107 rfl rfl
theorem g_1068 : .fieldLink "LetterFoundryModel" (62 : Nat) "LetterFoundryModel" "op" "[I" ∈ gw := in_5 108 rfl rfl
theorem g_1069 : .fieldLink "LetterFoundryModel" (65 : Nat) "LetterFoundryModel" "arg" "[I" ∈ gw := in_5 109 rfl rfl
theorem g_1070 : .fieldLink "LetterFoundryModel" (68 : Nat) "LetterFoundryModel" "way" "[I" ∈ gw := in_5 110 rfl rfl
theorem g_1071 : .fieldLink "LetterFoundryModel" (71 : Nat) "LetterFoundryModel" "turn" "[I" ∈ gw := in_5 111 rfl rfl
theorem g_1072 : .fieldLink "LetterFoundryModel" (237 : Nat) "LetterFoundryModel" "newMany" "I" ∈ gw := in_5 112 rfl rfl
theorem g_1073 : .fieldLink "LetterFoundryModel" (243 : Nat) "LetterFoundryModel" "newPolygons" "I" ∈ gw := in_5 113 rfl rfl
theorem g_1074 : .fieldLink "LetterFoundryModel" (74 : Nat) "LetterFoundryModel" "newX" "[I" ∈ gw := in_5 114 rfl rfl
theorem g_1075 : .fieldLink "LetterFoundryModel" (77 : Nat) "LetterFoundryModel" "newY" "[I" ∈ gw := in_5 115 rfl rfl
theorem g_1076 : .fieldLink "LetterFoundryModel" (80 : Nat) "LetterFoundryModel" "newOf" "[I" ∈ gw := in_5 116 rfl rfl
theorem g_1077 : .fieldLink "LetterFoundryModel" (282 : Nat) "LetterFoundryModel" "flatMany" "I" ∈ gw := in_5 117 rfl rfl
theorem g_1078 : .fieldLink "LetterFoundryModel" (83 : Nat) "LetterFoundryModel" "flatX" "[I" ∈ gw := in_5 118 rfl rfl
theorem g_1079 : .fieldLink "LetterFoundryModel" (86 : Nat) "LetterFoundryModel" "flatY" "[I" ∈ gw := in_5 119 rfl rfl
theorem g_1080 : .fieldLink "LetterFoundryModel" (89 : Nat) "LetterFoundryModel" "flatOf" "[I" ∈ gw := in_5 120 rfl rfl
theorem g_1081 : .fieldLink "LetterFoundryModel" (226 : Nat) "LetterFoundryModel" "raw" "I" ∈ gw := in_5 121 rfl rfl
theorem g_1082 : .fieldLink "LetterFoundryModel" (233 : Nat) "LetterFoundryModel" "isGood" "Z" ∈ gw := in_5 122 rfl rfl
theorem g_1083 : .fieldLink "LetterFoundryModel" (92 : Nat) "LetterFoundryModel" "lineX" "[J" ∈ gw := in_5 123 rfl rfl
theorem g_1084 : .fieldLink "LetterFoundryModel" (96 : Nat) "LetterFoundryModel" "lineY" "[J" ∈ gw := in_5 124 rfl rfl
theorem g_1085 : .fieldLink "LetterFoundryModel" (99 : Nat) "LetterFoundryModel" "wait" "[J" ∈ gw := in_5 125 rfl rfl
theorem g_1086 : .fieldLink "LetterFoundryModel" (102 : Nat) "LetterFoundryModel" "often" "[I" ∈ gw := in_5 126 rfl rfl
theorem g_1087 : .fieldLink "LetterFoundryModel" (250 : Nat) "LetterFoundryModel" "waits" "I" ∈ gw := in_5 127 rfl rfl
theorem g_1088 : .fieldLink "LetterFoundryModel" (240 : Nat) "LetterFoundryModel" "begin" "I" ∈ gw := in_5 128 rfl rfl
theorem g_1089 : .fieldLink "LetterFoundryModel" (105 : Nat) "LetterFoundryModel" "dots" "[I" ∈ gw := in_5 129 rfl rfl
theorem g_1090 : .fieldLink "LetterFoundryModel" (108 : Nat) "LetterFoundryModel" "step" "[I" ∈ gw := in_5 130 rfl rfl
theorem g_1091 : .fieldLink "LetterFoundryModel" (111 : Nat) "LetterFoundryModel" "stack" "[J" ∈ gw := in_5 131 rfl rfl
theorem g_1092 : .fieldLink "LetterFoundryModel" (329 : Nat) "LetterFoundryModel" "tops" "I" ∈ gw := in_5 132 rfl rfl
theorem g_1093 : .fieldLink "LetterFoundryModel" (114 : Nat) "LetterFoundryModel" "store" "[J" ∈ gw := in_5 133 rfl rfl
theorem g_1094 : .fieldLink "LetterFoundryModel" (117 : Nat) "LetterFoundryModel" "calls" "[I" ∈ gw := in_5 134 rfl rfl
theorem g_1095 : .fieldLink "LetterFoundryModel" (341 : Nat) "LetterFoundryModel" "called" "I" ∈ gw := in_5 135 rfl rfl
theorem g_1096 : .fieldLink "LetterFoundryModel" (120 : Nat) "LetterFoundryModel" "firstX" "[J" ∈ gw := in_5 136 rfl rfl
theorem g_1097 : .fieldLink "LetterFoundryModel" (123 : Nat) "LetterFoundryModel" "firstY" "[J" ∈ gw := in_5 137 rfl rfl
theorem g_1098 : .fieldLink "LetterFoundryModel" (126 : Nat) "LetterFoundryModel" "nowX" "[J" ∈ gw := in_5 138 rfl rfl
theorem g_1099 : .fieldLink "LetterFoundryModel" (129 : Nat) "LetterFoundryModel" "nowY" "[J" ∈ gw := in_5 139 rfl rfl
theorem g_1100 : .fieldLink "LetterFoundryModel" (132 : Nat) "LetterFoundryModel" "touchX" "[Z" ∈ gw := in_5 140 rfl rfl
theorem g_1101 : .fieldLink "LetterFoundryModel" (135 : Nat) "LetterFoundryModel" "touchY" "[Z" ∈ gw := in_5 141 rfl rfl
theorem g_1102 : .fieldLink "LetterFoundryModel" (348 : Nat) "LetterFoundryModel" "fault" "I" ∈ gw := in_5 142 rfl rfl
theorem g_1103 : .fieldLink "LetterFoundryModel" (383 : Nat) "LetterFoundryModel" "fittedMany" "I" ∈ gw := in_5 143 rfl rfl
theorem g_1104 : .fieldLink "LetterFoundryModel" (138 : Nat) "LetterFoundryModel" "fittedX" "[I" ∈ gw := in_5 144 rfl rfl
theorem g_1105 : .fieldLink "LetterFoundryModel" (141 : Nat) "LetterFoundryModel" "fittedY" "[I" ∈ gw := in_5 145 rfl rfl
theorem g_1106 : .fieldLink "LetterFoundryModel" (144 : Nat) "LetterFoundryModel" "fittedTouchX" "[Z" ∈ gw := in_5 146 rfl rfl
theorem g_1107 : .fieldLink "LetterFoundryModel" (147 : Nat) "LetterFoundryModel" "fittedTouchY" "[Z" ∈ gw := in_5 147 rfl rfl
theorem g_1108 : .fieldLink "LetterFoundryModel" (150 : Nat) "LetterFoundryModel" "weights" "[I" ∈ gw := in_5 148 rfl rfl
theorem g_1109 : .fieldLink "LetterFoundryModel" (153 : Nat) "LetterFoundryModel" "leftClass" "[I" ∈ gw := in_5 149 rfl rfl
theorem g_1110 : .fieldLink "LetterFoundryModel" (156 : Nat) "LetterFoundryModel" "rightClass" "[I" ∈ gw := in_5 150 rfl rfl
theorem g_1111 : .fieldLink "LetterFoundryModel" (159 : Nat) "LetterFoundryModel" "byClass" "[I" ∈ gw := in_5 151 rfl rfl
theorem g_1112 : .fieldLink "LetterFoundryModel" (162 : Nat) "LetterFoundryModel" "byLetter" "[I" ∈ gw := in_5 152 rfl rfl
theorem g_1113 : .fieldLink "LetterFoundryModel" (165 : Nat) "LetterFoundryModel" "isException" "[Z" ∈ gw := in_5 153 rfl rfl
theorem g_1114 : .fieldLink "LetterFoundryModel" (390 : Nat) "LetterFoundryModel" "rules" "I" ∈ gw := in_5 154 rfl rfl
theorem g_1115 : .fieldLink "LetterFoundryModel" (168 : Nat) "LetterFoundryModel" "ruleCode" "[I" ∈ gw := in_5 155 rfl rfl
theorem g_1116 : .fieldLink "LetterFoundryModel" (393 : Nat) "LetterFoundryModel" "signs" "I" ∈ gw := in_5 156 rfl rfl
theorem g_1117 : .fieldLink "LetterFoundryModel" (171 : Nat) "LetterFoundryModel" "lineCode" "[I" ∈ gw := in_5 157 rfl rfl
theorem g_1118 : .fieldLink "LetterFoundryModel" (399 : Nat) "LetterFoundryModel" "placedMany" "I" ∈ gw := in_5 158 rfl rfl
theorem g_1119 : .fieldLink "LetterFoundryModel" (174 : Nat) "LetterFoundryModel" "placedLetter" "[I" ∈ gw := in_5 159 rfl rfl
theorem g_1120 : .fieldLink "LetterFoundryModel" (177 : Nat) "LetterFoundryModel" "placedAt" "[I" ∈ gw := in_5 160 rfl rfl
theorem g_1121 : .fieldLink "LetterFoundryModel" (180 : Nat) "LetterFoundryModel" "placedSign" "[I" ∈ gw := in_5 161 rfl rfl
theorem g_1122 : .lays "LetterFoundryModel" "LetterFoundryModel" "letters" "I" ∈ gw := in_5 162 rfl rfl
theorem g_1124 : .laysFinal "LetterFoundryModel" "LetterFoundryModel" "code" "[I" ∈ gw := in_5 164 rfl rfl
theorem g_1126 : .laysFinal "LetterFoundryModel" "LetterFoundryModel" "wide" "[I" ∈ gw := in_5 166 rfl rfl
theorem g_1128 : .laysFinal "LetterFoundryModel" "LetterFoundryModel" "outlines" "[I" ∈ gw := in_5 168 rfl rfl
theorem g_1130 : .laysFinal "LetterFoundryModel" "LetterFoundryModel" "isOpen" "[Z" ∈ gw := in_5 170 rfl rfl
theorem g_1132 : .laysFinal "LetterFoundryModel" "LetterFoundryModel" "points" "[I" ∈ gw := in_5 172 rfl rfl
theorem g_1134 : .laysFinal "LetterFoundryModel" "LetterFoundryModel" "ends" "[I" ∈ gw := in_5 174 rfl rfl
theorem g_1136 : .laysFinal "LetterFoundryModel" "LetterFoundryModel" "px" "[I" ∈ gw := in_5 176 rfl rfl
theorem g_1138 : .laysFinal "LetterFoundryModel" "LetterFoundryModel" "py" "[I" ∈ gw := in_5 178 rfl rfl
theorem g_1140 : .laysFinal "LetterFoundryModel" "LetterFoundryModel" "kind" "[I" ∈ gw := in_5 180 rfl rfl
theorem g_1142 : .laysFinal "LetterFoundryModel" "LetterFoundryModel" "deltaX" "[I" ∈ gw := in_5 182 rfl rfl
theorem g_1144 : .laysFinal "LetterFoundryModel" "LetterFoundryModel" "deltaY" "[I" ∈ gw := in_5 184 rfl rfl
theorem g_1146 : .laysFinal "LetterFoundryModel" "LetterFoundryModel" "parts" "[I" ∈ gw := in_5 186 rfl rfl
theorem g_1148 : .laysFinal "LetterFoundryModel" "LetterFoundryModel" "partOf" "[I" ∈ gw := in_5 188 rfl rfl
theorem g_1150 : .laysFinal "LetterFoundryModel" "LetterFoundryModel" "matrix" "[I" ∈ gw := in_5 190 rfl rfl
theorem g_1152 : .laysFinal "LetterFoundryModel" "LetterFoundryModel" "moveX" "[I" ∈ gw := in_5 192 rfl rfl
theorem g_1154 : .laysFinal "LetterFoundryModel" "LetterFoundryModel" "moveY" "[I" ∈ gw := in_5 194 rfl rfl
theorem g_1156 : .laysFinal "LetterFoundryModel" "LetterFoundryModel" "acts" "[I" ∈ gw := in_5 196 rfl rfl
theorem g_1158 : .laysFinal "LetterFoundryModel" "LetterFoundryModel" "op" "[I" ∈ gw := in_5 198 rfl rfl
theorem g_1160 : .laysFinal "LetterFoundryModel" "LetterFoundryModel" "arg" "[I" ∈ gw := in_5 200 rfl rfl
theorem g_1162 : .laysFinal "LetterFoundryModel" "LetterFoundryModel" "way" "[I" ∈ gw := in_5 202 rfl rfl
theorem g_1164 : .laysFinal "LetterFoundryModel" "LetterFoundryModel" "turn" "[I" ∈ gw := in_5 204 rfl rfl
theorem g_1166 : .lays "LetterFoundryModel" "LetterFoundryModel" "newMany" "I" ∈ gw := in_5 206 rfl rfl
theorem g_1168 : .lays "LetterFoundryModel" "LetterFoundryModel" "newPolygons" "I" ∈ gw := in_5 208 rfl rfl
theorem g_1170 : .laysFinal "LetterFoundryModel" "LetterFoundryModel" "newX" "[I" ∈ gw := in_5 210 rfl rfl
theorem g_1172 : .laysFinal "LetterFoundryModel" "LetterFoundryModel" "newY" "[I" ∈ gw := in_5 212 rfl rfl
theorem g_1174 : .laysFinal "LetterFoundryModel" "LetterFoundryModel" "newOf" "[I" ∈ gw := in_5 214 rfl rfl
theorem g_1176 : .lays "LetterFoundryModel" "LetterFoundryModel" "flatMany" "I" ∈ gw := in_5 216 rfl rfl
theorem g_1178 : .laysFinal "LetterFoundryModel" "LetterFoundryModel" "flatX" "[I" ∈ gw := in_5 218 rfl rfl
theorem g_1180 : .laysFinal "LetterFoundryModel" "LetterFoundryModel" "flatY" "[I" ∈ gw := in_5 220 rfl rfl
theorem g_1182 : .laysFinal "LetterFoundryModel" "LetterFoundryModel" "flatOf" "[I" ∈ gw := in_5 222 rfl rfl
theorem g_1184 : .lays "LetterFoundryModel" "LetterFoundryModel" "raw" "I" ∈ gw := in_5 224 rfl rfl
theorem g_1186 : .lays "LetterFoundryModel" "LetterFoundryModel" "isGood" "Z" ∈ gw := in_5 226 rfl rfl
theorem g_1188 : .laysFinal "LetterFoundryModel" "LetterFoundryModel" "lineX" "[J" ∈ gw := in_5 228 rfl rfl
theorem g_1190 : .laysFinal "LetterFoundryModel" "LetterFoundryModel" "lineY" "[J" ∈ gw := in_5 230 rfl rfl
theorem g_1192 : .laysFinal "LetterFoundryModel" "LetterFoundryModel" "wait" "[J" ∈ gw := in_5 232 rfl rfl
theorem g_1194 : .laysFinal "LetterFoundryModel" "LetterFoundryModel" "often" "[I" ∈ gw := in_5 234 rfl rfl
theorem g_1196 : .lays "LetterFoundryModel" "LetterFoundryModel" "waits" "I" ∈ gw := in_5 236 rfl rfl
theorem g_1198 : .lays "LetterFoundryModel" "LetterFoundryModel" "begin" "I" ∈ gw := in_5 238 rfl rfl
theorem g_1200 : .laysFinal "LetterFoundryModel" "LetterFoundryModel" "dots" "[I" ∈ gw := in_6 0 rfl rfl
theorem g_1202 : .laysFinal "LetterFoundryModel" "LetterFoundryModel" "step" "[I" ∈ gw := in_6 2 rfl rfl
theorem g_1204 : .laysFinal "LetterFoundryModel" "LetterFoundryModel" "stack" "[J" ∈ gw := in_6 4 rfl rfl
theorem g_1206 : .lays "LetterFoundryModel" "LetterFoundryModel" "tops" "I" ∈ gw := in_6 6 rfl rfl
theorem g_1208 : .laysFinal "LetterFoundryModel" "LetterFoundryModel" "store" "[J" ∈ gw := in_6 8 rfl rfl
theorem g_1210 : .laysFinal "LetterFoundryModel" "LetterFoundryModel" "calls" "[I" ∈ gw := in_6 10 rfl rfl
theorem g_1212 : .lays "LetterFoundryModel" "LetterFoundryModel" "called" "I" ∈ gw := in_6 12 rfl rfl
theorem g_1214 : .laysFinal "LetterFoundryModel" "LetterFoundryModel" "firstX" "[J" ∈ gw := in_6 14 rfl rfl
theorem g_1216 : .laysFinal "LetterFoundryModel" "LetterFoundryModel" "firstY" "[J" ∈ gw := in_6 16 rfl rfl
theorem g_1218 : .laysFinal "LetterFoundryModel" "LetterFoundryModel" "nowX" "[J" ∈ gw := in_6 18 rfl rfl
theorem g_1220 : .laysFinal "LetterFoundryModel" "LetterFoundryModel" "nowY" "[J" ∈ gw := in_6 20 rfl rfl
theorem g_1222 : .laysFinal "LetterFoundryModel" "LetterFoundryModel" "touchX" "[Z" ∈ gw := in_6 22 rfl rfl
theorem g_1224 : .laysFinal "LetterFoundryModel" "LetterFoundryModel" "touchY" "[Z" ∈ gw := in_6 24 rfl rfl
theorem g_1226 : .lays "LetterFoundryModel" "LetterFoundryModel" "fault" "I" ∈ gw := in_6 26 rfl rfl
theorem g_1228 : .lays "LetterFoundryModel" "LetterFoundryModel" "fittedMany" "I" ∈ gw := in_6 28 rfl rfl
theorem g_1230 : .laysFinal "LetterFoundryModel" "LetterFoundryModel" "fittedX" "[I" ∈ gw := in_6 30 rfl rfl
theorem g_1232 : .laysFinal "LetterFoundryModel" "LetterFoundryModel" "fittedY" "[I" ∈ gw := in_6 32 rfl rfl
theorem g_1234 : .laysFinal "LetterFoundryModel" "LetterFoundryModel" "fittedTouchX" "[Z" ∈ gw := in_6 34 rfl rfl
theorem g_1236 : .laysFinal "LetterFoundryModel" "LetterFoundryModel" "fittedTouchY" "[Z" ∈ gw := in_6 36 rfl rfl
theorem g_1238 : .laysFinal "LetterFoundryModel" "LetterFoundryModel" "weights" "[I" ∈ gw := in_6 38 rfl rfl
theorem g_1240 : .laysFinal "LetterFoundryModel" "LetterFoundryModel" "leftClass" "[I" ∈ gw := in_6 40 rfl rfl
theorem g_1242 : .laysFinal "LetterFoundryModel" "LetterFoundryModel" "rightClass" "[I" ∈ gw := in_6 42 rfl rfl
theorem g_1244 : .laysFinal "LetterFoundryModel" "LetterFoundryModel" "byClass" "[I" ∈ gw := in_6 44 rfl rfl
theorem g_1246 : .laysFinal "LetterFoundryModel" "LetterFoundryModel" "byLetter" "[I" ∈ gw := in_6 46 rfl rfl
theorem g_1248 : .laysFinal "LetterFoundryModel" "LetterFoundryModel" "isException" "[Z" ∈ gw := in_6 48 rfl rfl
theorem g_1250 : .lays "LetterFoundryModel" "LetterFoundryModel" "rules" "I" ∈ gw := in_6 50 rfl rfl
theorem g_1252 : .laysFinal "LetterFoundryModel" "LetterFoundryModel" "ruleCode" "[I" ∈ gw := in_6 52 rfl rfl
theorem g_1254 : .lays "LetterFoundryModel" "LetterFoundryModel" "signs" "I" ∈ gw := in_6 54 rfl rfl
theorem g_1256 : .laysFinal "LetterFoundryModel" "LetterFoundryModel" "lineCode" "[I" ∈ gw := in_6 56 rfl rfl
theorem g_1258 : .lays "LetterFoundryModel" "LetterFoundryModel" "placedMany" "I" ∈ gw := in_6 58 rfl rfl
theorem g_1260 : .laysFinal "LetterFoundryModel" "LetterFoundryModel" "placedLetter" "[I" ∈ gw := in_6 60 rfl rfl
theorem g_1262 : .laysFinal "LetterFoundryModel" "LetterFoundryModel" "placedAt" "[I" ∈ gw := in_6 62 rfl rfl
theorem g_1264 : .laysFinal "LetterFoundryModel" "LetterFoundryModel" "placedSign" "[I" ∈ gw := in_6 64 rfl rfl
theorem g_1267 : .arrayClass FieldType.boolean ∈ gw := in_6 67 rfl rfl
theorem g_1268 : .methodLink "LetterFoundryLaw" (22 : Nat) ⟨"LetterFoundryModel", "find", "(I)I"⟩ ∈ gw := in_6 68 rfl rfl
theorem g_1269 : .instanceMethod ⟨"LetterFoundryModel", "find", "(I)I"⟩ ∈ gw := in_6 69 rfl rfl
theorem g_1270 : .selects "LetterFoundryModel" ⟨"LetterFoundryModel", "find", "(I)I"⟩ ⟨"LetterFoundryModel", "find", "(I)I"⟩ ∈ gw := in_6 70 rfl rfl
theorem g_1271 : .code ⟨"LetterFoundryModel", "find", "(I)I"⟩ prog_14_method_5_code (3 : Nat) (Option.some FieldType.int) ∈ gw := in_6 71 rfl rfl
theorem g_1272 : .methodLink "LetterFoundryLaw" (17 : Nat) ⟨"LetterFoundryModel", "letter", "(II)I"⟩ ∈ gw := in_6 72 rfl rfl
theorem g_1273 : .instanceMethod ⟨"LetterFoundryModel", "letter", "(II)I"⟩ ∈ gw := in_6 73 rfl rfl
theorem g_1274 : .selects "LetterFoundryModel" ⟨"LetterFoundryModel", "letter", "(II)I"⟩ ⟨"LetterFoundryModel", "letter", "(II)I"⟩ ∈ gw := in_6 74 rfl rfl
theorem g_1275 : .code ⟨"LetterFoundryModel", "letter", "(II)I"⟩ prog_14_method_6_code (5 : Nat) (Option.some FieldType.int) ∈ gw := in_6 75 rfl rfl
theorem g_1276 : .methodLink "LetterFoundryModel" (188 : Nat) ⟨"LetterFoundryModel", "isCode", "(I)Z"⟩ ∈ gw := in_6 76 rfl rfl
theorem g_1277 : .static ⟨"LetterFoundryModel", "isCode", "(I)Z"⟩ ∈ gw := in_6 77 rfl rfl
theorem g_1278 : .code ⟨"LetterFoundryModel", "isCode", "(I)Z"⟩ prog_14_method_4_code (1 : Nat) (Option.some FieldType.boolean) ∈ gw := in_6 78 rfl rfl
theorem g_1279 : .constant "LetterFoundryModel" (187 : Nat) (65535 : Int32) ∈ gw := in_6 79 rfl rfl
theorem g_1280 : .methodLink "LetterFoundryLaw" (26 : Nat) ⟨"LetterFoundryModel", "outline", "(I)I"⟩ ∈ gw := in_6 80 rfl rfl
theorem g_1281 : .instanceMethod ⟨"LetterFoundryModel", "outline", "(I)I"⟩ ∈ gw := in_6 81 rfl rfl
theorem g_1282 : .selects "LetterFoundryModel" ⟨"LetterFoundryModel", "outline", "(I)I"⟩ ⟨"LetterFoundryModel", "outline", "(I)I"⟩ ∈ gw := in_6 82 rfl rfl
theorem g_1283 : .code ⟨"LetterFoundryModel", "outline", "(I)I"⟩ prog_14_method_8_code (2 : Nat) (Option.some FieldType.int) ∈ gw := in_6 83 rfl rfl
theorem g_1284 : .methodLink "LetterFoundryModel" (192 : Nat) ⟨"LetterFoundryModel", "isLetter", "(I)Z"⟩ ∈ gw := in_6 84 rfl rfl
theorem g_1286 : .instanceMethod ⟨"LetterFoundryModel", "isLetter", "(I)Z"⟩ ∈ gw := in_6 86 rfl rfl
theorem g_1287 : .code ⟨"LetterFoundryModel", "isLetter", "(I)Z"⟩ prog_14_method_2_code (2 : Nat) (Option.some FieldType.boolean) ∈ gw := in_6 87 rfl rfl
theorem g_1288 : .methodLink "LetterFoundryLaw" (31 : Nat) ⟨"LetterFoundryModel", "point", "(IIII)I"⟩ ∈ gw := in_6 88 rfl rfl
theorem g_1289 : .instanceMethod ⟨"LetterFoundryModel", "point", "(IIII)I"⟩ ∈ gw := in_6 89 rfl rfl
theorem g_1290 : .selects "LetterFoundryModel" ⟨"LetterFoundryModel", "point", "(IIII)I"⟩ ⟨"LetterFoundryModel", "point", "(IIII)I"⟩ ∈ gw := in_6 90 rfl rfl
theorem g_1291 : .code ⟨"LetterFoundryModel", "point", "(IIII)I"⟩ prog_14_method_9_code (7 : Nat) (Option.some FieldType.int) ∈ gw := in_6 91 rfl rfl
theorem g_1292 : .methodLink "LetterFoundryModel" (195 : Nat) ⟨"LetterFoundryModel", "isPlace", "(I)Z"⟩ ∈ gw := in_6 92 rfl rfl
theorem g_1293 : .static ⟨"LetterFoundryModel", "isPlace", "(I)Z"⟩ ∈ gw := in_6 93 rfl rfl
theorem g_1294 : .code ⟨"LetterFoundryModel", "isPlace", "(I)Z"⟩ prog_14_method_3_code (1 : Nat) (Option.some FieldType.boolean) ∈ gw := in_6 94 rfl rfl
theorem g_1295 : .methodLink "LetterFoundryModel" (198 : Nat) ⟨"LetterFoundryModel", "closed", "(I)I"⟩ ∈ gw := in_6 95 rfl rfl
theorem g_1297 : .instanceMethod ⟨"LetterFoundryModel", "closed", "(I)I"⟩ ∈ gw := in_6 97 rfl rfl
theorem g_1298 : .code ⟨"LetterFoundryModel", "closed", "(I)I"⟩ prog_14_method_7_code (2 : Nat) (Option.some FieldType.int) ∈ gw := in_6 98 rfl rfl
theorem g_1299 : .methodLink "LetterFoundryLaw" (35 : Nat) ⟨"LetterFoundryModel", "close", "(I)I"⟩ ∈ gw := in_6 99 rfl rfl
theorem g_1300 : .instanceMethod ⟨"LetterFoundryModel", "close", "(I)I"⟩ ∈ gw := in_6 100 rfl rfl
theorem g_1301 : .selects "LetterFoundryModel" ⟨"LetterFoundryModel", "close", "(I)I"⟩ ⟨"LetterFoundryModel", "close", "(I)I"⟩ ∈ gw := in_6 101 rfl rfl
theorem g_1302 : .code ⟨"LetterFoundryModel", "close", "(I)I"⟩ prog_14_method_11_code (3 : Nat) (Option.some FieldType.int) ∈ gw := in_6 102 rfl rfl
theorem g_1303 : .methodLink "LetterFoundryModel" (202 : Nat) ⟨"LetterFoundryModel", "bad", "(I)I"⟩ ∈ gw := in_6 103 rfl rfl
theorem g_1305 : .instanceMethod ⟨"LetterFoundryModel", "bad", "(I)I"⟩ ∈ gw := in_6 105 rfl rfl
theorem g_1306 : .code ⟨"LetterFoundryModel", "bad", "(I)I"⟩ prog_14_method_10_code (7 : Nat) (Option.some FieldType.int) ∈ gw := in_6 106 rfl rfl
theorem g_1307 : .methodLink "LetterFoundryLaw" (39 : Nat) ⟨"LetterFoundryModel", "drop", "(I)I"⟩ ∈ gw := in_6 107 rfl rfl
theorem g_1308 : .instanceMethod ⟨"LetterFoundryModel", "drop", "(I)I"⟩ ∈ gw := in_6 108 rfl rfl
theorem g_1309 : .selects "LetterFoundryModel" ⟨"LetterFoundryModel", "drop", "(I)I"⟩ ⟨"LetterFoundryModel", "drop", "(I)I"⟩ ∈ gw := in_6 109 rfl rfl
theorem g_1310 : .code ⟨"LetterFoundryModel", "drop", "(I)I"⟩ prog_14_method_12_code (2 : Nat) (Option.some FieldType.int) ∈ gw := in_6 110 rfl rfl
theorem g_1311 : .methodLink "LetterFoundryLaw" (44 : Nat) ⟨"LetterFoundryModel", "move", "(IIII)Z"⟩ ∈ gw := in_6 111 rfl rfl
theorem g_1312 : .instanceMethod ⟨"LetterFoundryModel", "move", "(IIII)Z"⟩ ∈ gw := in_6 112 rfl rfl
theorem g_1313 : .selects "LetterFoundryModel" ⟨"LetterFoundryModel", "move", "(IIII)Z"⟩ ⟨"LetterFoundryModel", "move", "(IIII)Z"⟩ ∈ gw := in_6 113 rfl rfl
theorem g_1314 : .code ⟨"LetterFoundryModel", "move", "(IIII)Z"⟩ prog_14_method_14_code (5 : Nat) (Option.some FieldType.boolean) ∈ gw := in_6 114 rfl rfl
theorem g_1315 : .methodLink "LetterFoundryModel" (205 : Nat) ⟨"LetterFoundryModel", "isPoint", "(II)Z"⟩ ∈ gw := in_6 115 rfl rfl
theorem g_1317 : .instanceMethod ⟨"LetterFoundryModel", "isPoint", "(II)Z"⟩ ∈ gw := in_6 117 rfl rfl
theorem g_1318 : .code ⟨"LetterFoundryModel", "isPoint", "(II)Z"⟩ prog_14_method_13_code (3 : Nat) (Option.some FieldType.boolean) ∈ gw := in_6 118 rfl rfl
theorem g_1319 : .methodLink "LetterFoundryLaw" (49 : Nat) ⟨"LetterFoundryModel", "reverse", "(II)Z"⟩ ∈ gw := in_6 119 rfl rfl
theorem g_1320 : .instanceMethod ⟨"LetterFoundryModel", "reverse", "(II)Z"⟩ ∈ gw := in_6 120 rfl rfl
theorem g_1321 : .selects "LetterFoundryModel" ⟨"LetterFoundryModel", "reverse", "(II)Z"⟩ ⟨"LetterFoundryModel", "reverse", "(II)Z"⟩ ∈ gw := in_6 121 rfl rfl
theorem g_1322 : .code ⟨"LetterFoundryModel", "reverse", "(II)Z"⟩ prog_14_method_17_code (6 : Nat) (Option.some FieldType.boolean) ∈ gw := in_6 122 rfl rfl
theorem g_1323 : .methodLink "LetterFoundryModel" (209 : Nat) ⟨"LetterFoundryModel", "beginOf", "(II)I"⟩ ∈ gw := in_6 123 rfl rfl
theorem g_1325 : .instanceMethod ⟨"LetterFoundryModel", "beginOf", "(II)I"⟩ ∈ gw := in_6 125 rfl rfl
theorem g_1326 : .code ⟨"LetterFoundryModel", "beginOf", "(II)I"⟩ prog_14_method_15_code (3 : Nat) (Option.some FieldType.int) ∈ gw := in_6 126 rfl rfl
theorem g_1327 : .methodLink "LetterFoundryModel" (213 : Nat) ⟨"LetterFoundryModel", "swap", "([III)V"⟩ ∈ gw := in_6 127 rfl rfl
theorem g_1329 : .instanceMethod ⟨"LetterFoundryModel", "swap", "([III)V"⟩ ∈ gw := in_6 129 rfl rfl
theorem g_1330 : .code ⟨"LetterFoundryModel", "swap", "([III)V"⟩ prog_14_method_16_code (5 : Nat) (Option.none : Option FieldType) ∈ gw := in_6 130 rfl rfl
theorem g_1331 : .methodLink "LetterFoundryLaw" (53 : Nat) ⟨"LetterFoundryModel", "part", "(IIII)I"⟩ ∈ gw := in_6 131 rfl rfl
theorem g_1332 : .instanceMethod ⟨"LetterFoundryModel", "part", "(IIII)I"⟩ ∈ gw := in_6 132 rfl rfl
theorem g_1333 : .selects "LetterFoundryModel" ⟨"LetterFoundryModel", "part", "(IIII)I"⟩ ⟨"LetterFoundryModel", "part", "(IIII)I"⟩ ∈ gw := in_6 133 rfl rfl
theorem g_1334 : .code ⟨"LetterFoundryModel", "part", "(IIII)I"⟩ prog_14_method_19_code (7 : Nat) (Option.some FieldType.int) ∈ gw := in_6 134 rfl rfl
theorem g_1335 : .methodLink "LetterFoundryModel" (217 : Nat) ⟨"LetterFoundryModel", "depth", "(I)I"⟩ ∈ gw := in_6 135 rfl rfl
theorem g_1337 : .instanceMethod ⟨"LetterFoundryModel", "depth", "(I)I"⟩ ∈ gw := in_6 137 rfl rfl
theorem g_1338 : .code ⟨"LetterFoundryModel", "depth", "(I)I"⟩ prog_14_method_18_code (5 : Nat) (Option.some FieldType.int) ∈ gw := in_6 138 rfl rfl
theorem g_1339 : .methodLink "LetterFoundryLaw" (58 : Nat) ⟨"LetterFoundryModel", "matrix", "(IIIIII)Z"⟩ ∈ gw := in_6 139 rfl rfl
theorem g_1340 : .instanceMethod ⟨"LetterFoundryModel", "matrix", "(IIIIII)Z"⟩ ∈ gw := in_6 140 rfl rfl
theorem g_1341 : .selects "LetterFoundryModel" ⟨"LetterFoundryModel", "matrix", "(IIIIII)Z"⟩ ⟨"LetterFoundryModel", "matrix", "(IIIIII)Z"⟩ ∈ gw := in_6 141 rfl rfl
theorem g_1342 : .code ⟨"LetterFoundryModel", "matrix", "(IIIIII)Z"⟩ prog_14_method_21_code (8 : Nat) (Option.some FieldType.boolean) ∈ gw := in_6 142 rfl rfl
theorem g_1343 : .methodLink "LetterFoundryModel" (220 : Nat) ⟨"LetterFoundryModel", "isShort", "(I)Z"⟩ ∈ gw := in_6 143 rfl rfl
theorem g_1344 : .static ⟨"LetterFoundryModel", "isShort", "(I)Z"⟩ ∈ gw := in_6 144 rfl rfl
theorem g_1345 : .code ⟨"LetterFoundryModel", "isShort", "(I)Z"⟩ prog_14_method_20_code (1 : Nat) (Option.some FieldType.boolean) ∈ gw := in_6 145 rfl rfl
theorem g_1346 : .methodLink "LetterFoundryLaw" (62 : Nat) ⟨"LetterFoundryModel", "info", "(II)I"⟩ ∈ gw := in_6 146 rfl rfl
theorem g_1347 : .instanceMethod ⟨"LetterFoundryModel", "info", "(II)I"⟩ ∈ gw := in_6 147 rfl rfl
theorem g_1348 : .selects "LetterFoundryModel" ⟨"LetterFoundryModel", "info", "(II)I"⟩ ⟨"LetterFoundryModel", "info", "(II)I"⟩ ∈ gw := in_6 148 rfl rfl
theorem g_1349 : .code ⟨"LetterFoundryModel", "info", "(II)I"⟩ prog_14_method_22_code (3 : Nat) (Option.some FieldType.int) ∈ gw := in_6 149 rfl rfl
theorem g_1350 : .methodLink "LetterFoundryLaw" (67 : Nat) ⟨"LetterFoundryModel", "at", "(III)I"⟩ ∈ gw := in_6 150 rfl rfl
theorem g_1351 : .instanceMethod ⟨"LetterFoundryModel", "at", "(III)I"⟩ ∈ gw := in_6 151 rfl rfl
theorem g_1352 : .selects "LetterFoundryModel" ⟨"LetterFoundryModel", "at", "(III)I"⟩ ⟨"LetterFoundryModel", "at", "(III)I"⟩ ∈ gw := in_6 152 rfl rfl
theorem g_1353 : .code ⟨"LetterFoundryModel", "at", "(III)I"⟩ prog_14_method_23_code (6 : Nat) (Option.some FieldType.int) ∈ gw := in_6 153 rfl rfl
theorem g_1354 : .constant "LetterFoundryModel" (223 : Nat) (-100000 : Int32) ∈ gw := in_6 154 rfl rfl
theorem g_1355 : .methodLink "LetterFoundryLaw" (71 : Nat) ⟨"LetterFoundryModel", "flatten", "(II)I"⟩ ∈ gw := in_6 155 rfl rfl
theorem g_1356 : .instanceMethod ⟨"LetterFoundryModel", "flatten", "(II)I"⟩ ∈ gw := in_6 156 rfl rfl
theorem g_1357 : .selects "LetterFoundryModel" ⟨"LetterFoundryModel", "flatten", "(II)I"⟩ ⟨"LetterFoundryModel", "flatten", "(II)I"⟩ ∈ gw := in_6 157 rfl rfl
theorem g_1358 : .code ⟨"LetterFoundryModel", "flatten", "(II)I"⟩ prog_14_method_33_code (3 : Nat) (Option.some FieldType.int) ∈ gw := in_6 158 rfl rfl
theorem g_1359 : .methodLink "LetterFoundryModel" (285 : Nat) ⟨"LetterFoundryModel", "flattens", "(II)Z"⟩ ∈ gw := in_6 159 rfl rfl
theorem g_1361 : .instanceMethod ⟨"LetterFoundryModel", "flattens", "(II)Z"⟩ ∈ gw := in_6 161 rfl rfl
theorem g_1362 : .code ⟨"LetterFoundryModel", "flattens", "(II)Z"⟩ prog_14_method_31_code (6 : Nat) (Option.some FieldType.boolean) ∈ gw := in_6 162 rfl rfl
theorem g_1363 : .methodLink "LetterFoundryModel" (279 : Nat) ⟨"LetterFoundryModel", "outlineOf", "(IIII)V"⟩ ∈ gw := in_6 163 rfl rfl
theorem g_1365 : .instanceMethod ⟨"LetterFoundryModel", "outlineOf", "(IIII)V"⟩ ∈ gw := in_6 165 rfl rfl
theorem g_1366 : .code ⟨"LetterFoundryModel", "outlineOf", "(IIII)V"⟩ prog_14_method_30_code (16 : Nat) (Option.none : Option FieldType) ∈ gw := in_6 166 rfl rfl
theorem g_1367 : .constantLong "LetterFoundryModel" (273 : Nat) (16384 : Int64) ∈ gw := in_6 167 rfl rfl
theorem g_1368 : .methodLink "LetterFoundryModel" (265 : Nat) ⟨"LetterFoundryModel", "rounded", "(JJ)J"⟩ ∈ gw := in_6 168 rfl rfl
theorem g_1369 : .static ⟨"LetterFoundryModel", "rounded", "(JJ)J"⟩ ∈ gw := in_6 169 rfl rfl
theorem g_1370 : .code ⟨"LetterFoundryModel", "rounded", "(JJ)J"⟩ prog_14_method_24_code (12 : Nat) (Option.some FieldType.long) ∈ gw := in_6 170 rfl rfl
theorem g_1371 : .constantLong "LetterFoundryModel" (224 : Nat) (2 : Int64) ∈ gw := in_6 171 rfl rfl
theorem g_1372 : .methodLink "LetterFoundryModel" (269 : Nat) ⟨"LetterFoundryModel", "adds", "(JJ)V"⟩ ∈ gw := in_6 172 rfl rfl
theorem g_1374 : .instanceMethod ⟨"LetterFoundryModel", "adds", "(JJ)V"⟩ ∈ gw := in_6 174 rfl rfl
theorem g_1375 : .code ⟨"LetterFoundryModel", "adds", "(JJ)V"⟩ prog_14_method_25_code (5 : Nat) (Option.none : Option FieldType) ∈ gw := in_6 175 rfl rfl
theorem g_1376 : .constantLong "LetterFoundryModel" (229 : Nat) (-100000 : Int64) ∈ gw := in_6 176 rfl rfl
theorem g_1377 : .constantLong "LetterFoundryModel" (231 : Nat) (100000 : Int64) ∈ gw := in_6 177 rfl rfl
theorem g_1378 : .methodLink "LetterFoundryModel" (275 : Nat) ⟨"LetterFoundryModel", "curve", "(IIII)V"⟩ ∈ gw := in_6 178 rfl rfl
theorem g_1380 : .instanceMethod ⟨"LetterFoundryModel", "curve", "(IIII)V"⟩ ∈ gw := in_6 180 rfl rfl
theorem g_1381 : .code ⟨"LetterFoundryModel", "curve", "(IIII)V"⟩ prog_14_method_29_code (8 : Nat) (Option.none : Option FieldType) ∈ gw := in_6 181 rfl rfl
theorem g_1382 : .constantLong "LetterFoundryModel" (253 : Nat) (1048576 : Int64) ∈ gw := in_6 182 rfl rfl
theorem g_1383 : .constantLong "LetterFoundryModel" (255 : Nat) (1073741824 : Int64) ∈ gw := in_6 183 rfl rfl
theorem g_1384 : .methodLink "LetterFoundryModel" (257 : Nat) ⟨"LetterFoundryModel", "isFlat", "(IIJ)Z"⟩ ∈ gw := in_6 184 rfl rfl
theorem g_1386 : .instanceMethod ⟨"LetterFoundryModel", "isFlat", "(IIJ)Z"⟩ ∈ gw := in_6 186 rfl rfl
theorem g_1387 : .code ⟨"LetterFoundryModel", "isFlat", "(IIJ)Z"⟩ prog_14_method_27_code (8 : Nat) (Option.some FieldType.boolean) ∈ gw := in_6 187 rfl rfl
theorem g_1388 : .methodLink "LetterFoundryModel" (246 : Nat) ⟨"LetterFoundryModel", "size", "(J)J"⟩ ∈ gw := in_6 188 rfl rfl
theorem g_1389 : .static ⟨"LetterFoundryModel", "size", "(J)J"⟩ ∈ gw := in_6 189 rfl rfl
theorem g_1390 : .code ⟨"LetterFoundryModel", "size", "(J)J"⟩ prog_14_method_26_code (2 : Nat) (Option.some FieldType.long) ∈ gw := in_6 190 rfl rfl
theorem g_1391 : .methodLink "LetterFoundryModel" (261 : Nat) ⟨"LetterFoundryModel", "halves", "(I)V"⟩ ∈ gw := in_6 191 rfl rfl
theorem g_1393 : .instanceMethod ⟨"LetterFoundryModel", "halves", "(I)V"⟩ ∈ gw := in_6 193 rfl rfl
theorem g_1394 : .code ⟨"LetterFoundryModel", "halves", "(I)V"⟩ prog_14_method_28_code (25 : Nat) (Option.none : Option FieldType) ∈ gw := in_6 194 rfl rfl
theorem g_1395 : .methodLink "LetterFoundryModel" (288 : Nat) ⟨"LetterFoundryModel", "told", "()V"⟩ ∈ gw := in_6 195 rfl rfl
theorem g_1397 : .instanceMethod ⟨"LetterFoundryModel", "told", "()V"⟩ ∈ gw := in_6 197 rfl rfl
theorem g_1398 : .code ⟨"LetterFoundryModel", "told", "()V"⟩ prog_14_method_32_code (2 : Nat) (Option.none : Option FieldType) ∈ gw := in_6 198 rfl rfl
theorem g_1399 : .methodLink "LetterFoundryLaw" (75 : Nat) ⟨"LetterFoundryModel", "flat", "(II)I"⟩ ∈ gw := in_6 199 rfl rfl
theorem g_1400 : .instanceMethod ⟨"LetterFoundryModel", "flat", "(II)I"⟩ ∈ gw := in_6 200 rfl rfl
theorem g_1401 : .selects "LetterFoundryModel" ⟨"LetterFoundryModel", "flat", "(II)I"⟩ ⟨"LetterFoundryModel", "flat", "(II)I"⟩ ∈ gw := in_6 201 rfl rfl
theorem g_1402 : .code ⟨"LetterFoundryModel", "flat", "(II)I"⟩ prog_14_method_34_code (3 : Nat) (Option.some FieldType.int) ∈ gw := in_6 202 rfl rfl
theorem g_1403 : .constant "LetterFoundryModel" (291 : Nat) (-1000000 : Int32) ∈ gw := in_6 203 rfl rfl
theorem g_1404 : .methodLink "LetterFoundryLaw" (80 : Nat) ⟨"LetterFoundryModel", "area", "()J"⟩ ∈ gw := in_6 204 rfl rfl
theorem g_1405 : .instanceMethod ⟨"LetterFoundryModel", "area", "()J"⟩ ∈ gw := in_6 205 rfl rfl
theorem g_1406 : .selects "LetterFoundryModel" ⟨"LetterFoundryModel", "area", "()J"⟩ ⟨"LetterFoundryModel", "area", "()J"⟩ ∈ gw := in_6 206 rfl rfl
theorem g_1407 : .code ⟨"LetterFoundryModel", "area", "()J"⟩ prog_14_method_36_code (5 : Nat) (Option.some FieldType.long) ∈ gw := in_6 207 rfl rfl
theorem g_1408 : .methodLink "LetterFoundryModel" (292 : Nat) ⟨"LetterFoundryModel", "next", "(I)I"⟩ ∈ gw := in_6 208 rfl rfl
theorem g_1410 : .instanceMethod ⟨"LetterFoundryModel", "next", "(I)I"⟩ ∈ gw := in_6 210 rfl rfl
theorem g_1411 : .code ⟨"LetterFoundryModel", "next", "(I)I"⟩ prog_14_method_35_code (3 : Nat) (Option.some FieldType.int) ∈ gw := in_6 211 rfl rfl
theorem g_1412 : .methodLink "LetterFoundryLaw" (84 : Nat) ⟨"LetterFoundryModel", "winding", "(II)I"⟩ ∈ gw := in_6 212 rfl rfl
theorem g_1413 : .instanceMethod ⟨"LetterFoundryModel", "winding", "(II)I"⟩ ∈ gw := in_6 213 rfl rfl
theorem g_1414 : .selects "LetterFoundryModel" ⟨"LetterFoundryModel", "winding", "(II)I"⟩ ⟨"LetterFoundryModel", "winding", "(II)I"⟩ ∈ gw := in_6 214 rfl rfl
theorem g_1415 : .code ⟨"LetterFoundryModel", "winding", "(II)I"⟩ prog_14_method_37_code (16 : Nat) (Option.some FieldType.int) ∈ gw := in_6 215 rfl rfl
theorem g_1416 : .constant "LetterFoundryModel" (295 : Nat) (-2000000 : Int32) ∈ gw := in_6 216 rfl rfl
theorem g_1417 : .constant "LetterFoundryModel" (296 : Nat) (2000000 : Int32) ∈ gw := in_6 217 rfl rfl
theorem g_1418 : .constantLong "LetterFoundryModel" (297 : Nat) (16 : Int64) ∈ gw := in_6 218 rfl rfl
theorem g_1419 : .methodLink "LetterFoundryLaw" (89 : Nat) ⟨"LetterFoundryModel", "crossings", "()I"⟩ ∈ gw := in_6 219 rfl rfl
theorem g_1420 : .instanceMethod ⟨"LetterFoundryModel", "crossings", "()I"⟩ ∈ gw := in_6 220 rfl rfl
theorem g_1421 : .selects "LetterFoundryModel" ⟨"LetterFoundryModel", "crossings", "()I"⟩ ⟨"LetterFoundryModel", "crossings", "()I"⟩ ∈ gw := in_6 221 rfl rfl
theorem g_1422 : .code ⟨"LetterFoundryModel", "crossings", "()I"⟩ prog_14_method_40_code (6 : Nat) (Option.some FieldType.int) ∈ gw := in_6 222 rfl rfl
theorem g_1423 : .methodLink "LetterFoundryModel" (303 : Nat) ⟨"LetterFoundryModel", "sideOf", "(III)I"⟩ ∈ gw := in_6 223 rfl rfl
theorem g_1425 : .instanceMethod ⟨"LetterFoundryModel", "sideOf", "(III)I"⟩ ∈ gw := in_6 225 rfl rfl
theorem g_1426 : .code ⟨"LetterFoundryModel", "sideOf", "(III)I"⟩ prog_14_method_39_code (4 : Nat) (Option.some FieldType.int) ∈ gw := in_6 226 rfl rfl
theorem g_1427 : .methodLink "LetterFoundryModel" (299 : Nat) ⟨"LetterFoundryModel", "signOf", "(J)I"⟩ ∈ gw := in_6 227 rfl rfl
theorem g_1428 : .static ⟨"LetterFoundryModel", "signOf", "(J)I"⟩ ∈ gw := in_6 228 rfl rfl
theorem g_1429 : .code ⟨"LetterFoundryModel", "signOf", "(J)I"⟩ prog_14_method_38_code (2 : Nat) (Option.some FieldType.int) ∈ gw := in_6 229 rfl rfl
theorem g_1430 : .methodLink "LetterFoundryLaw" (93 : Nat) ⟨"LetterFoundryModel", "image", "(IIII)I"⟩ ∈ gw := in_6 230 rfl rfl
theorem g_1431 : .instanceMethod ⟨"LetterFoundryModel", "image", "(IIII)I"⟩ ∈ gw := in_6 231 rfl rfl
theorem g_1432 : .selects "LetterFoundryModel" ⟨"LetterFoundryModel", "image", "(IIII)I"⟩ ⟨"LetterFoundryModel", "image", "(IIII)I"⟩ ∈ gw := in_6 232 rfl rfl
theorem g_1433 : .code ⟨"LetterFoundryModel", "image", "(IIII)I"⟩ prog_14_method_44_code (9 : Nat) (Option.some FieldType.int) ∈ gw := in_6 233 rfl rfl
theorem g_1434 : .methodLink "LetterFoundryModel" (317 : Nat) ⟨"LetterFoundryModel", "isImage", "(I)Z"⟩ ∈ gw := in_6 234 rfl rfl
theorem g_1436 : .instanceMethod ⟨"LetterFoundryModel", "isImage", "(I)Z"⟩ ∈ gw := in_6 236 rfl rfl
theorem g_1437 : .code ⟨"LetterFoundryModel", "isImage", "(I)Z"⟩ prog_14_method_43_code (6 : Nat) (Option.some FieldType.boolean) ∈ gw := in_6 237 rfl rfl
theorem g_1438 : .constant "LetterFoundryModel" (316 : Nat) (49152 : Int32) ∈ gw := in_6 238 rfl rfl
theorem g_1439 : .methodLink "LetterFoundryModel" (320 : Nat) ⟨"LetterFoundryModel", "steps", "(II)V"⟩ ∈ gw := in_6 239 rfl rfl
theorem g_1441 : .instanceMethod ⟨"LetterFoundryModel", "steps", "(II)V"⟩ ∈ gw := in_7 1 rfl rfl
theorem g_1442 : .code ⟨"LetterFoundryModel", "steps", "(II)V"⟩ prog_14_method_42_code (20 : Nat) (Option.none : Option FieldType) ∈ gw := in_7 2 rfl rfl
theorem g_1443 : .constantLong "LetterFoundryModel" (307 : Nat) (64 : Int64) ∈ gw := in_7 3 rfl rfl
theorem g_1444 : .methodLink "LetterFoundryModel" (309 : Nat) ⟨"LetterFoundryModel", "floor", "(JJ)J"⟩ ∈ gw := in_7 4 rfl rfl
theorem g_1445 : .static ⟨"LetterFoundryModel", "floor", "(JJ)J"⟩ ∈ gw := in_7 5 rfl rfl
theorem g_1446 : .code ⟨"LetterFoundryModel", "floor", "(JJ)J"⟩ prog_14_method_41_code (6 : Nat) (Option.some FieldType.long) ∈ gw := in_7 6 rfl rfl
theorem g_1447 : .constantLong "LetterFoundryModel" (312 : Nat) (128 : Int64) ∈ gw := in_7 7 rfl rfl
theorem g_1448 : .constantLong "LetterFoundryModel" (314 : Nat) (512 : Int64) ∈ gw := in_7 8 rfl rfl
theorem g_1449 : .methodLink "LetterFoundryLaw" (97 : Nat) ⟨"LetterFoundryModel", "dot", "(II)I"⟩ ∈ gw := in_7 9 rfl rfl
theorem g_1450 : .instanceMethod ⟨"LetterFoundryModel", "dot", "(II)I"⟩ ∈ gw := in_7 10 rfl rfl
theorem g_1451 : .selects "LetterFoundryModel" ⟨"LetterFoundryModel", "dot", "(II)I"⟩ ⟨"LetterFoundryModel", "dot", "(II)I"⟩ ∈ gw := in_7 11 rfl rfl
theorem g_1452 : .code ⟨"LetterFoundryModel", "dot", "(II)I"⟩ prog_14_method_45_code (3 : Nat) (Option.some FieldType.int) ∈ gw := in_7 12 rfl rfl
theorem g_1453 : .methodLink "LetterFoundryLaw" (101 : Nat) ⟨"LetterFoundryModel", "box", "(I)I"⟩ ∈ gw := in_7 13 rfl rfl
theorem g_1454 : .instanceMethod ⟨"LetterFoundryModel", "box", "(I)I"⟩ ∈ gw := in_7 14 rfl rfl
theorem g_1455 : .selects "LetterFoundryModel" ⟨"LetterFoundryModel", "box", "(I)I"⟩ ⟨"LetterFoundryModel", "box", "(I)I"⟩ ∈ gw := in_7 15 rfl rfl
theorem g_1456 : .code ⟨"LetterFoundryModel", "box", "(I)I"⟩ prog_14_method_46_code (6 : Nat) (Option.some FieldType.int) ∈ gw := in_7 16 rfl rfl
theorem g_1457 : .methodLink "LetterFoundryLaw" (105 : Nat) ⟨"LetterFoundryModel", "act", "(III)I"⟩ ∈ gw := in_7 17 rfl rfl
theorem g_1458 : .instanceMethod ⟨"LetterFoundryModel", "act", "(III)I"⟩ ∈ gw := in_7 18 rfl rfl
theorem g_1459 : .selects "LetterFoundryModel" ⟨"LetterFoundryModel", "act", "(III)I"⟩ ⟨"LetterFoundryModel", "act", "(III)I"⟩ ∈ gw := in_7 19 rfl rfl
theorem g_1460 : .code ⟨"LetterFoundryModel", "act", "(III)I"⟩ prog_14_method_47_code (4 : Nat) (Option.some FieldType.int) ∈ gw := in_7 20 rfl rfl
theorem g_1461 : .constant "LetterFoundryModel" (324 : Nat) (100000 : Int32) ∈ gw := in_7 21 rfl rfl
theorem g_1462 : .methodLink "LetterFoundryLaw" (109 : Nat) ⟨"LetterFoundryModel", "wipe", "(I)I"⟩ ∈ gw := in_7 22 rfl rfl
theorem g_1463 : .instanceMethod ⟨"LetterFoundryModel", "wipe", "(I)I"⟩ ∈ gw := in_7 23 rfl rfl
theorem g_1464 : .selects "LetterFoundryModel" ⟨"LetterFoundryModel", "wipe", "(I)I"⟩ ⟨"LetterFoundryModel", "wipe", "(I)I"⟩ ∈ gw := in_7 24 rfl rfl
theorem g_1465 : .code ⟨"LetterFoundryModel", "wipe", "(I)I"⟩ prog_14_method_48_code (3 : Nat) (Option.some FieldType.int) ∈ gw := in_7 25 rfl rfl
theorem g_1466 : .methodLink "LetterFoundryLaw" (113 : Nat) ⟨"LetterFoundryModel", "run", "(II)I"⟩ ∈ gw := in_7 26 rfl rfl
theorem g_1467 : .instanceMethod ⟨"LetterFoundryModel", "run", "(II)I"⟩ ∈ gw := in_7 27 rfl rfl
theorem g_1468 : .selects "LetterFoundryModel" ⟨"LetterFoundryModel", "run", "(II)I"⟩ ⟨"LetterFoundryModel", "run", "(II)I"⟩ ∈ gw := in_7 28 rfl rfl
theorem g_1469 : .code ⟨"LetterFoundryModel", "run", "(II)I"⟩ prog_14_method_61_code (7 : Nat) (Option.some FieldType.int) ∈ gw := in_7 29 rfl rfl
theorem g_1470 : .constantLong "LetterFoundryModel" (378 : Nat) (1024 : Int64) ∈ gw := in_7 30 rfl rfl
theorem g_1471 : .methodLink "LetterFoundryModel" (380 : Nat) ⟨"LetterFoundryModel", "does", "(II)I"⟩ ∈ gw := in_7 31 rfl rfl
theorem g_1473 : .instanceMethod ⟨"LetterFoundryModel", "does", "(II)I"⟩ ∈ gw := in_7 33 rfl rfl
theorem g_1474 : .code ⟨"LetterFoundryModel", "does", "(II)I"⟩ prog_14_method_58_code (7 : Nat) (Option.some FieldType.int) ∈ gw := in_7 34 rfl rfl
theorem g_1475 : .methodLink "LetterFoundryModel" (351 : Nat) ⟨"LetterFoundryModel", "faultOf", "(III)I"⟩ ∈ gw := in_7 35 rfl rfl
theorem g_1477 : .instanceMethod ⟨"LetterFoundryModel", "faultOf", "(III)I"⟩ ∈ gw := in_7 37 rfl rfl
theorem g_1478 : .code ⟨"LetterFoundryModel", "faultOf", "(III)I"⟩ prog_14_method_53_code (4 : Nat) (Option.some FieldType.int) ∈ gw := in_7 38 rfl rfl
theorem g_1479 : .methodLink "LetterFoundryModel" (332 : Nat) ⟨"LetterFoundryModel", "wants", "(I)I"⟩ ∈ gw := in_7 39 rfl rfl
theorem g_1480 : .static ⟨"LetterFoundryModel", "wants", "(I)I"⟩ ∈ gw := in_7 40 rfl rfl
theorem g_1481 : .code ⟨"LetterFoundryModel", "wants", "(I)I"⟩ prog_14_method_50_code (1 : Nat) (Option.some FieldType.int) ∈ gw := in_7 41 rfl rfl
theorem g_1482 : .methodLink "LetterFoundryModel" (335 : Nat) ⟨"LetterFoundryModel", "pushes", "(I)Z"⟩ ∈ gw := in_7 42 rfl rfl
theorem g_1483 : .static ⟨"LetterFoundryModel", "pushes", "(I)Z"⟩ ∈ gw := in_7 43 rfl rfl
theorem g_1484 : .code ⟨"LetterFoundryModel", "pushes", "(I)Z"⟩ prog_14_method_51_code (1 : Nat) (Option.some FieldType.boolean) ∈ gw := in_7 44 rfl rfl
theorem g_1485 : .methodLink "LetterFoundryModel" (338 : Nat) ⟨"LetterFoundryModel", "onPoint", "(I)Z"⟩ ∈ gw := in_7 45 rfl rfl
theorem g_1486 : .static ⟨"LetterFoundryModel", "onPoint", "(I)Z"⟩ ∈ gw := in_7 46 rfl rfl
theorem g_1487 : .code ⟨"LetterFoundryModel", "onPoint", "(I)Z"⟩ prog_14_method_52_code (1 : Nat) (Option.some FieldType.boolean) ∈ gw := in_7 47 rfl rfl
theorem g_1488 : .methodLink "LetterFoundryModel" (354 : Nat) ⟨"LetterFoundryModel", "pop", "()J"⟩ ∈ gw := in_7 48 rfl rfl
theorem g_1490 : .instanceMethod ⟨"LetterFoundryModel", "pop", "()J"⟩ ∈ gw := in_7 50 rfl rfl
theorem g_1491 : .code ⟨"LetterFoundryModel", "pop", "()J"⟩ prog_14_method_56_code (1 : Nat) (Option.some FieldType.long) ∈ gw := in_7 51 rfl rfl
theorem g_1492 : .methodLink "LetterFoundryModel" (358 : Nat) ⟨"LetterFoundryModel", "made", "(IJJ)J"⟩ ∈ gw := in_7 52 rfl rfl
theorem g_1493 : .static ⟨"LetterFoundryModel", "made", "(IJJ)J"⟩ ∈ gw := in_7 53 rfl rfl
theorem g_1494 : .code ⟨"LetterFoundryModel", "made", "(IJJ)J"⟩ prog_14_method_54_code (5 : Nat) (Option.some FieldType.long) ∈ gw := in_7 54 rfl rfl
theorem g_1495 : .methodLink "LetterFoundryModel" (362 : Nat) ⟨"LetterFoundryModel", "push", "(J)V"⟩ ∈ gw := in_7 55 rfl rfl
theorem g_1497 : .instanceMethod ⟨"LetterFoundryModel", "push", "(J)V"⟩ ∈ gw := in_7 57 rfl rfl
theorem g_1498 : .code ⟨"LetterFoundryModel", "push", "(J)V"⟩ prog_14_method_55_code (3 : Nat) (Option.none : Option FieldType) ∈ gw := in_7 58 rfl rfl
theorem g_1499 : .methodLink "LetterFoundryModel" (344 : Nat) ⟨"LetterFoundryModel", "isFar", "(J)Z"⟩ ∈ gw := in_7 59 rfl rfl
theorem g_1500 : .static ⟨"LetterFoundryModel", "isFar", "(J)Z"⟩ ∈ gw := in_7 60 rfl rfl
theorem g_1501 : .code ⟨"LetterFoundryModel", "isFar", "(J)Z"⟩ prog_14_method_49_code (2 : Nat) (Option.some FieldType.boolean) ∈ gw := in_7 61 rfl rfl
theorem g_1502 : .constantLong "LetterFoundryModel" (325 : Nat) (1000000000 : Int64) ∈ gw := in_7 62 rfl rfl
theorem g_1503 : .constantLong "LetterFoundryModel" (327 : Nat) (-1000000000 : Int64) ∈ gw := in_7 63 rfl rfl
theorem g_1504 : .methodLink "LetterFoundryModel" (366 : Nat) ⟨"LetterFoundryModel", "puts", "([J[ZIJ)V"⟩ ∈ gw := in_7 64 rfl rfl
theorem g_1506 : .instanceMethod ⟨"LetterFoundryModel", "puts", "([J[ZIJ)V"⟩ ∈ gw := in_7 66 rfl rfl
theorem g_1507 : .code ⟨"LetterFoundryModel", "puts", "([J[ZIJ)V"⟩ prog_14_method_57_code (6 : Nat) (Option.none : Option FieldType) ∈ gw := in_7 67 rfl rfl
theorem g_1508 : .methodLink "LetterFoundryModel" (370 : Nat) ⟨"LetterFoundryModel", "fits", "(I[J[J[Z)V"⟩ ∈ gw := in_7 68 rfl rfl
theorem g_1510 : .instanceMethod ⟨"LetterFoundryModel", "fits", "(I[J[J[Z)V"⟩ ∈ gw := in_7 70 rfl rfl
theorem g_1511 : .code ⟨"LetterFoundryModel", "fits", "(I[J[J[Z)V"⟩ prog_14_method_59_code (13 : Nat) (Option.none : Option FieldType) ∈ gw := in_7 71 rfl rfl
theorem g_1512 : .methodLink "LetterFoundryModel" (374 : Nat) ⟨"LetterFoundryModel", "fitted", "(JJJJJ)J"⟩ ∈ gw := in_7 72 rfl rfl
theorem g_1513 : .static ⟨"LetterFoundryModel", "fitted", "(JJJJJ)J"⟩ ∈ gw := in_7 73 rfl rfl
theorem g_1514 : .code ⟨"LetterFoundryModel", "fitted", "(JJJJJ)J"⟩ prog_14_method_60_code (15 : Nat) (Option.some FieldType.long) ∈ gw := in_7 74 rfl rfl
theorem g_1515 : .methodLink "LetterFoundryLaw" (117 : Nat) ⟨"LetterFoundryModel", "fitted", "(II)I"⟩ ∈ gw := in_7 75 rfl rfl
theorem g_1516 : .instanceMethod ⟨"LetterFoundryModel", "fitted", "(II)I"⟩ ∈ gw := in_7 76 rfl rfl
theorem g_1517 : .selects "LetterFoundryModel" ⟨"LetterFoundryModel", "fitted", "(II)I"⟩ ⟨"LetterFoundryModel", "fitted", "(II)I"⟩ ∈ gw := in_7 77 rfl rfl
theorem g_1518 : .code ⟨"LetterFoundryModel", "fitted", "(II)I"⟩ prog_14_method_62_code (3 : Nat) (Option.some FieldType.int) ∈ gw := in_7 78 rfl rfl
theorem g_1519 : .constant "LetterFoundryModel" (386 : Nat) (-2000000000 : Int32) ∈ gw := in_7 79 rfl rfl
theorem g_1520 : .methodLink "LetterFoundryLaw" (122 : Nat) ⟨"LetterFoundryModel", "delta", "(IIIII)Z"⟩ ∈ gw := in_7 80 rfl rfl
theorem g_1521 : .instanceMethod ⟨"LetterFoundryModel", "delta", "(IIIII)Z"⟩ ∈ gw := in_7 81 rfl rfl
theorem g_1522 : .selects "LetterFoundryModel" ⟨"LetterFoundryModel", "delta", "(IIIII)Z"⟩ ⟨"LetterFoundryModel", "delta", "(IIIII)Z"⟩ ∈ gw := in_7 82 rfl rfl
theorem g_1523 : .code ⟨"LetterFoundryModel", "delta", "(IIIII)Z"⟩ prog_14_method_63_code (6 : Nat) (Option.some FieldType.boolean) ∈ gw := in_7 83 rfl rfl
theorem g_1524 : .methodLink "LetterFoundryLaw" (126 : Nat) ⟨"LetterFoundryModel", "weight", "(II)Z"⟩ ∈ gw := in_7 84 rfl rfl
theorem g_1525 : .instanceMethod ⟨"LetterFoundryModel", "weight", "(II)Z"⟩ ∈ gw := in_7 85 rfl rfl
theorem g_1526 : .selects "LetterFoundryModel" ⟨"LetterFoundryModel", "weight", "(II)Z"⟩ ⟨"LetterFoundryModel", "weight", "(II)Z"⟩ ∈ gw := in_7 86 rfl rfl
theorem g_1527 : .code ⟨"LetterFoundryModel", "weight", "(II)Z"⟩ prog_14_method_64_code (3 : Nat) (Option.some FieldType.boolean) ∈ gw := in_7 87 rfl rfl
theorem g_1528 : .methodLink "LetterFoundryLaw" (130 : Nat) ⟨"LetterFoundryModel", "mixed", "(III)I"⟩ ∈ gw := in_7 88 rfl rfl
theorem g_1529 : .instanceMethod ⟨"LetterFoundryModel", "mixed", "(III)I"⟩ ∈ gw := in_7 89 rfl rfl
theorem g_1530 : .selects "LetterFoundryModel" ⟨"LetterFoundryModel", "mixed", "(III)I"⟩ ⟨"LetterFoundryModel", "mixed", "(III)I"⟩ ∈ gw := in_7 90 rfl rfl
theorem g_1531 : .code ⟨"LetterFoundryModel", "mixed", "(III)I"⟩ prog_14_method_65_code (8 : Nat) (Option.some FieldType.int) ∈ gw := in_7 91 rfl rfl
theorem g_1532 : .methodLink "LetterFoundryLaw" (135 : Nat) ⟨"LetterFoundryModel", "classOf", "(III)Z"⟩ ∈ gw := in_7 92 rfl rfl
theorem g_1533 : .instanceMethod ⟨"LetterFoundryModel", "classOf", "(III)Z"⟩ ∈ gw := in_7 93 rfl rfl
theorem g_1534 : .selects "LetterFoundryModel" ⟨"LetterFoundryModel", "classOf", "(III)Z"⟩ ⟨"LetterFoundryModel", "classOf", "(III)Z"⟩ ∈ gw := in_7 94 rfl rfl
theorem g_1535 : .code ⟨"LetterFoundryModel", "classOf", "(III)Z"⟩ prog_14_method_66_code (4 : Nat) (Option.some FieldType.boolean) ∈ gw := in_7 95 rfl rfl
theorem g_1536 : .methodLink "LetterFoundryLaw" (139 : Nat) ⟨"LetterFoundryModel", "kern", "(III)Z"⟩ ∈ gw := in_7 96 rfl rfl
theorem g_1537 : .instanceMethod ⟨"LetterFoundryModel", "kern", "(III)Z"⟩ ∈ gw := in_7 97 rfl rfl
theorem g_1538 : .selects "LetterFoundryModel" ⟨"LetterFoundryModel", "kern", "(III)Z"⟩ ⟨"LetterFoundryModel", "kern", "(III)Z"⟩ ∈ gw := in_7 98 rfl rfl
theorem g_1539 : .code ⟨"LetterFoundryModel", "kern", "(III)Z"⟩ prog_14_method_68_code (4 : Nat) (Option.some FieldType.boolean) ∈ gw := in_7 99 rfl rfl
theorem g_1540 : .methodLink "LetterFoundryModel" (387 : Nat) ⟨"LetterFoundryModel", "isKern", "(I)Z"⟩ ∈ gw := in_7 100 rfl rfl
theorem g_1541 : .static ⟨"LetterFoundryModel", "isKern", "(I)Z"⟩ ∈ gw := in_7 101 rfl rfl
theorem g_1542 : .code ⟨"LetterFoundryModel", "isKern", "(I)Z"⟩ prog_14_method_67_code (1 : Nat) (Option.some FieldType.boolean) ∈ gw := in_7 102 rfl rfl
theorem g_1543 : .methodLink "LetterFoundryLaw" (143 : Nat) ⟨"LetterFoundryModel", "exception", "(III)Z"⟩ ∈ gw := in_7 103 rfl rfl
theorem g_1544 : .instanceMethod ⟨"LetterFoundryModel", "exception", "(III)Z"⟩ ∈ gw := in_7 104 rfl rfl
theorem g_1545 : .selects "LetterFoundryModel" ⟨"LetterFoundryModel", "exception", "(III)Z"⟩ ⟨"LetterFoundryModel", "exception", "(III)Z"⟩ ∈ gw := in_7 105 rfl rfl
theorem g_1546 : .code ⟨"LetterFoundryModel", "exception", "(III)Z"⟩ prog_14_method_69_code (4 : Nat) (Option.some FieldType.boolean) ∈ gw := in_7 106 rfl rfl
theorem g_1547 : .methodLink "LetterFoundryLaw" (147 : Nat) ⟨"LetterFoundryModel", "kerning", "(II)I"⟩ ∈ gw := in_7 107 rfl rfl
theorem g_1548 : .instanceMethod ⟨"LetterFoundryModel", "kerning", "(II)I"⟩ ∈ gw := in_7 108 rfl rfl
theorem g_1549 : .selects "LetterFoundryModel" ⟨"LetterFoundryModel", "kerning", "(II)I"⟩ ⟨"LetterFoundryModel", "kerning", "(II)I"⟩ ∈ gw := in_7 109 rfl rfl
theorem g_1550 : .code ⟨"LetterFoundryModel", "kerning", "(II)I"⟩ prog_14_method_70_code (3 : Nat) (Option.some FieldType.int) ∈ gw := in_7 110 rfl rfl
theorem g_1551 : .methodLink "LetterFoundryLaw" (151 : Nat) ⟨"LetterFoundryModel", "join", "(IIII)I"⟩ ∈ gw := in_7 111 rfl rfl
theorem g_1552 : .instanceMethod ⟨"LetterFoundryModel", "join", "(IIII)I"⟩ ∈ gw := in_7 112 rfl rfl
theorem g_1553 : .selects "LetterFoundryModel" ⟨"LetterFoundryModel", "join", "(IIII)I"⟩ ⟨"LetterFoundryModel", "join", "(IIII)I"⟩ ∈ gw := in_7 113 rfl rfl
theorem g_1554 : .code ⟨"LetterFoundryModel", "join", "(IIII)I"⟩ prog_14_method_71_code (5 : Nat) (Option.some FieldType.int) ∈ gw := in_7 114 rfl rfl
theorem g_1555 : .methodLink "LetterFoundryLaw" (155 : Nat) ⟨"LetterFoundryModel", "sign", "(I)I"⟩ ∈ gw := in_7 115 rfl rfl
theorem g_1556 : .instanceMethod ⟨"LetterFoundryModel", "sign", "(I)I"⟩ ∈ gw := in_7 116 rfl rfl
theorem g_1557 : .selects "LetterFoundryModel" ⟨"LetterFoundryModel", "sign", "(I)I"⟩ ⟨"LetterFoundryModel", "sign", "(I)I"⟩ ∈ gw := in_7 117 rfl rfl
theorem g_1558 : .code ⟨"LetterFoundryModel", "sign", "(I)I"⟩ prog_14_method_72_code (2 : Nat) (Option.some FieldType.int) ∈ gw := in_7 118 rfl rfl
theorem g_1559 : .methodLink "LetterFoundryLaw" (159 : Nat) ⟨"LetterFoundryModel", "set", "()I"⟩ ∈ gw := in_7 119 rfl rfl
theorem g_1560 : .instanceMethod ⟨"LetterFoundryModel", "set", "()I"⟩ ∈ gw := in_7 120 rfl rfl
theorem g_1561 : .selects "LetterFoundryModel" ⟨"LetterFoundryModel", "set", "()I"⟩ ⟨"LetterFoundryModel", "set", "()I"⟩ ∈ gw := in_7 121 rfl rfl
theorem g_1562 : .code ⟨"LetterFoundryModel", "set", "()I"⟩ prog_14_method_76_code (6 : Nat) (Option.some FieldType.int) ∈ gw := in_7 122 rfl rfl
theorem g_1563 : .methodLink "LetterFoundryModel" (402 : Nat) ⟨"LetterFoundryModel", "ruleAt", "(I)I"⟩ ∈ gw := in_7 123 rfl rfl
theorem g_1565 : .instanceMethod ⟨"LetterFoundryModel", "ruleAt", "(I)I"⟩ ∈ gw := in_7 125 rfl rfl
theorem g_1566 : .code ⟨"LetterFoundryModel", "ruleAt", "(I)I"⟩ prog_14_method_74_code (7 : Nat) (Option.some FieldType.int) ∈ gw := in_7 126 rfl rfl
theorem g_1567 : .methodLink "LetterFoundryModel" (396 : Nat) ⟨"LetterFoundryModel", "manyOf", "(I)I"⟩ ∈ gw := in_7 127 rfl rfl
theorem g_1569 : .instanceMethod ⟨"LetterFoundryModel", "manyOf", "(I)I"⟩ ∈ gw := in_7 129 rfl rfl
theorem g_1570 : .code ⟨"LetterFoundryModel", "manyOf", "(I)I"⟩ prog_14_method_73_code (2 : Nat) (Option.some FieldType.int) ∈ gw := in_7 130 rfl rfl
theorem g_1571 : .methodLink "LetterFoundryModel" (405 : Nat) ⟨"LetterFoundryModel", "letterOf", "(I)I"⟩ ∈ gw := in_7 131 rfl rfl
theorem g_1573 : .instanceMethod ⟨"LetterFoundryModel", "letterOf", "(I)I"⟩ ∈ gw := in_7 133 rfl rfl
theorem g_1574 : .code ⟨"LetterFoundryModel", "letterOf", "(I)I"⟩ prog_14_method_75_code (4 : Nat) (Option.some FieldType.int) ∈ gw := in_7 134 rfl rfl
theorem g_1575 : .methodLink "LetterFoundryModel" (408 : Nat) ⟨"LetterFoundryModel", "kerning", "(II)I"⟩ ∈ gw := in_7 135 rfl rfl
theorem g_1576 : .methodLink "LetterFoundryLaw" (163 : Nat) ⟨"LetterFoundryModel", "placed", "(II)I"⟩ ∈ gw := in_7 136 rfl rfl
theorem g_1577 : .instanceMethod ⟨"LetterFoundryModel", "placed", "(II)I"⟩ ∈ gw := in_7 137 rfl rfl
theorem g_1578 : .selects "LetterFoundryModel" ⟨"LetterFoundryModel", "placed", "(II)I"⟩ ⟨"LetterFoundryModel", "placed", "(II)I"⟩ ∈ gw := in_7 138 rfl rfl
theorem g_1579 : .code ⟨"LetterFoundryModel", "placed", "(II)I"⟩ prog_14_method_77_code (3 : Nat) (Option.some FieldType.int) ∈ gw := in_7 139 rfl rfl
theorem g_1580 : .methodLink "LetterFoundryLaw" (167 : Nat) ⟨"LetterFoundryModel", "length", "()I"⟩ ∈ gw := in_7 140 rfl rfl
theorem g_1581 : .instanceMethod ⟨"LetterFoundryModel", "length", "()I"⟩ ∈ gw := in_7 141 rfl rfl
theorem g_1582 : .selects "LetterFoundryModel" ⟨"LetterFoundryModel", "length", "()I"⟩ ⟨"LetterFoundryModel", "length", "()I"⟩ ∈ gw := in_7 142 rfl rfl
theorem g_1583 : .code ⟨"LetterFoundryModel", "length", "()I"⟩ prog_14_method_78_code (1 : Nat) (Option.some FieldType.int) ∈ gw := in_7 143 rfl rfl
end
section
abbrev AV : Type := Int32 ⊕ (Int64 ⊕ Option (Nat × Nat))
abbrev vi (x : Int32) : AV := Sum.inl x
abbrev vl (x : Int64) : AV := Sum.inr (Sum.inl x)
abbrev vr (k l : Nat) : AV := Sum.inr (Sum.inr (some (k, l)))
abbrev vn : AV := Sum.inr (Sum.inr none)
abbrev vo (k : Nat) (o : Option Nat) : AV := Sum.inr (Sum.inr (o.map fun l => (k, l)))
abbrev MA : Type := Nat → Nat → Nat
def ren (ρ : MA) (v : AV) : Value := match v with
  | .inl x => .int x
  | .inr (.inl x) => .long x
  | .inr (.inr none) => .null
  | .inr (.inr (some q)) => .ref (ρ q.1 q.2)
abbrev Mem : Type := (Nat → Nat → Nat → Int32) × (Nat → Nat → Nat → Int64) × (Nat → Nat → Nat → Option Nat) × (Nat → Nat → Bool)
def gI (μ : Mem) (k l j : Nat) : Int32 := μ.1 k l j
def gL (μ : Mem) (k l j : Nat) : Int64 := μ.2.1 k l j
def gR (μ : Mem) (k l j : Nat) : Option Nat := μ.2.2.1 k l j
def gF (μ : Mem) (k l : Nat) : Bool := μ.2.2.2 k l
def sI (μ : Mem) (k l j : Nat) (v : Int32) : Mem := (fun a b c => if a = k ∧ b = l ∧ c = j then v else μ.1 a b c, μ.2)
def sL (μ : Mem) (k l j : Nat) (v : Int64) : Mem := (μ.1, fun a b c => if a = k ∧ b = l ∧ c = j then v else μ.2.1 a b c, μ.2.2)
def sR (μ : Mem) (k l j : Nat) (v : Option Nat) : Mem := (μ.1, μ.2.1, fun a b c => if a = k ∧ b = l ∧ c = j then v else μ.2.2.1 a b c, μ.2.2.2)
/-- a row of longs copied: System.arraycopy -/
def cpL (μ : Mem) (k l k' l' : Nat) (sp dp n : Nat) : Mem := (μ.1, fun a b c => if a = k' ∧ b = l' then va_cpy (μ.2.1 k l) (μ.2.1 k' l') sp dp n c else μ.2.1 a b c, μ.2.2)
/-- a cell more, all 0 -/
def nw (μ : Mem) (k l : Nat) : Mem := (fun a b c => if a = k ∧ b = l then 0 else μ.1 a b c, fun a b c => if a = k ∧ b = l then 0 else μ.2.1 a b c, fun a b c => if a = k ∧ b = l then none else μ.2.2.1 a b c, fun a b => if a = k ∧ b = l then true else μ.2.2.2 a b)
theorem gI_sI (μ : Mem) (k l j : Nat) (v : Int32) (a b c : Nat) : gI (sI μ k l j v) a b c = if a = k ∧ b = l ∧ c = j then v else gI μ a b c := rfl
theorem gI_sL (μ : Mem) (k l j : Nat) (v : Int64) (a b c : Nat) : gI (sL μ k l j v) a b c = gI μ a b c := rfl
theorem gI_sR (μ : Mem) (k l j : Nat) (v : Option Nat) (a b c : Nat) : gI (sR μ k l j v) a b c = gI μ a b c := rfl
theorem gL_sL (μ : Mem) (k l j : Nat) (v : Int64) (a b c : Nat) : gL (sL μ k l j v) a b c = if a = k ∧ b = l ∧ c = j then v else gL μ a b c := rfl
theorem gL_sI (μ : Mem) (k l j : Nat) (v : Int32) (a b c : Nat) : gL (sI μ k l j v) a b c = gL μ a b c := rfl
theorem gL_sR (μ : Mem) (k l j : Nat) (v : Option Nat) (a b c : Nat) : gL (sR μ k l j v) a b c = gL μ a b c := rfl
theorem gR_sR (μ : Mem) (k l j : Nat) (v : Option Nat) (a b c : Nat) : gR (sR μ k l j v) a b c = if a = k ∧ b = l ∧ c = j then v else gR μ a b c := rfl
theorem gR_sI (μ : Mem) (k l j : Nat) (v : Int32) (a b c : Nat) : gR (sI μ k l j v) a b c = gR μ a b c := rfl
theorem gR_sL (μ : Mem) (k l j : Nat) (v : Int64) (a b c : Nat) : gR (sL μ k l j v) a b c = gR μ a b c := rfl
theorem gF_sI (μ : Mem) (k l j : Nat) (v : Int32) (a b : Nat) : gF (sI μ k l j v) a b = gF μ a b := rfl
theorem gF_sL (μ : Mem) (k l j : Nat) (v : Int64) (a b : Nat) : gF (sL μ k l j v) a b = gF μ a b := rfl
theorem gF_sR (μ : Mem) (k l j : Nat) (v : Option Nat) (a b : Nat) : gF (sR μ k l j v) a b = gF μ a b := rfl
def fv (ρ : MA) (μ : Mem) (k l j : Nat) : Value := match (FT k j).1 with
  | 0 => .int (gI μ k l j)
  | 1 => .int (gI μ k l j)
  | 2 => .long (gL μ k l j)
  | _ => ren ρ (vo (FT k j).2 (gR μ k l j))
def fvs (ρ : MA) (μ : Mem) (k l : Nat) : List Value := (List.range (NF k)).map (fv ρ μ k l)
def CellOK (tys : List (ClassId × FieldType)) (ρ : MA) (μ : Mem) (k l : Nat) (e : va_E) : Prop :=
  (k < 13 → e = .inr (k, fvs ρ μ k l)) ∧
  ((RK k).1 = 2 → ∃ cA, (cA, FieldType.int) ∈ tys ∧ e = .inl (cA, (RK k).2.1, .inl (gI μ k l))) ∧
  ((RK k).1 = 3 → ∃ cA, (cA, FieldType.boolean) ∈ tys ∧ e = .inl (cA, (RK k).2.1, .inl (gI μ k l))) ∧
  ((RK k).1 = 4 → ∃ cA, (cA, FieldType.long) ∈ tys ∧ e = .inl (cA, (RK k).2.1, .inr (.inl (gL μ k l)))) ∧
  ((RK k).1 = 5 → ∃ cA, (cA, FieldType.object (CN (RK k).2.2)) ∈ tys ∧ e = .inl (cA, (RK k).2.1, .inr (.inr (.inr (.inr (fun i => (gR μ k l i).map (ρ (RK k).2.2))))))) ∧
  ((RK k).1 = 6 → ∃ cA, (cA, FieldType.array .int) ∈ tys ∧ e = .inl (cA, (RK k).2.1, .inr (.inr (.inr (.inr (fun i => if i < (RK k).2.1 then some (ρ (RK k).2.2 ((RK k).2.1 * l + i)) else none))))))
/-- what the references of live cells lead to is live -/
def Clo (μ : Mem) : Prop := ∀ k l, gF μ k l = true →
  (k < 13 → ∀ j i, j < NF k → (FT k j).1 = 3 → gR μ k l j = some i → gF μ (FT k j).2 i = true) ∧
  ((RK k).1 = 5 → ∀ j i, gR μ k l j = some i → gF μ (RK k).2.2 i = true) ∧
  ((RK k).1 = 6 → ∀ j, j < (RK k).2.1 → gF μ (RK k).2.2 ((RK k).2.1 * l + j) = true)
/-- what is built: a final field of a cell leads to the cell of the same number -/
def LinkOK (μ : Mem) : Prop := ∀ k l, gF μ k l = true → k < 13 → ∀ j, FIN k j = true → gR μ k l j = some l
def LV (μ : Mem) (v : AV) : Prop := match v with
  | .inr (.inr (some q)) => gF μ q.1 q.2 = true ∨ (900 ≤ q.1 ∧ q.2 = 0)
  | _ => True
def LVs (μ : Mem) (st : List AV) : Prop := ∀ v ∈ st, LV μ v
def Rel (D : va_G) (Z : Nat) (s : State) (H : Heap) (ρ : MA) (μ : Mem) : Prop :=
  ∃ (tys : List (ClassId × FieldType)) (L : List Nat) (f : Nat → va_E),
    va_K D classes tys s ∧ va_P D classes (va_pl L f) H ∧ va_D (fun q => Z ≤ q) (va_pl L f) ∧
    (∀ k l, gF μ k l = true → ρ k l ∈ L ∧ CellOK tys ρ μ k l (f (ρ k l))) ∧
    (∀ k l k' l', gF μ k l = true → gF μ k' l' = true → ρ k l = ρ k' l' → k = k' ∧ l = l') ∧ Clo μ
def takes (j : Nat) : Int32 := ([0, 1, 1, 2, 2, 2, 2, 2, 1, 1, 1, 1, 2, 2, 2, 2, 0, 1, 0, 0, 1, 0, 0, 1, 0, 1, 0, 0, 0, 0, 0] : List Int32).getD j 0
def gives (j : Nat) : Int32 := ([1, 2, 0, 2, 1, 1, 1, 1, 1, 1, 1, 1, 1, 1, 1, 1, 0, 0, 0, 0, 0, 1, 1, 0, 1, 0, 0, 0, 0, 0, 0] : List Int32).getD j 0
/-- the static arrays, which nobody writes -/
def Stt (Z : Nat) (ρ : MA) (s : State) : Prop :=
  va_Z "LetterFoundry$Runner" "TAKES" "[I" (.ref (ρ 900 0)) (fun q => Z ≤ q) s s.heap ∧ va_T .int (ρ 900 0) 31 (fun j => .int (takes j)) (fun q => Z ≤ q) s s.heap ∧
  va_Z "LetterFoundry$Runner" "GIVES" "[I" (.ref (ρ 901 0)) (fun q => Z ≤ q) s s.heap ∧ va_T .int (ρ 901 0) 31 (fun j => .int (gives j)) (fun q => Z ≤ q) s s.heap
def AOA (U : State) : Prop := (Cond.arrayOver (.array .int)).before #[] U = true
/-- words of the tables that aren't steady: nest mates, arrays over a class -/
def Nst (s : State) : Prop := (∀ w ∈ nws, va_Nw w s) ∧ va_AO "LetterFoundry$Letter" s ∧ va_AO "LetterFoundry$Part" s ∧ AOA s
abbrev GT : Type := Room → State → Method → List Frame → Array Value → (State → Prop) → va_G → Nat → MA → (Nat → Nat → Bool) → Prop
def Cx (b : Bool) (cc : ByteArray) (own : String) (maxL d rc rs : Nat) (p : Program) (R : Room) (s : State) (m : MethodId) (args : Array Value) (c : Code) (H : Heap) (locs : List Loc) (cells slots : Nat) (D : va_G) (Z : Nat) (ρ ρ0 : MA) (B0 : Nat → Nat → Bool) (ls : Array Slot) (lv : List (Nat × AV)) (μ : Mem) : Prop :=
  p.tables.exec = Jvm.exec ∧ c.code = cc ∧ c.maxLocals = maxL ∧ s.vm.findClass own = some m.cls ∧ (∀ w ∈ gw, w.before args s = true) ∧ Nst s ∧ Stt Z ρ s ∧
  Rel D Z s H ρ μ ∧ va_S (fun q => Z ≤ q) s.heap H locs ∧ Z ≤ s.heap.size ∧
  (∀ k l, B0 k l = true → gF μ k l = true ∧ ρ k l = ρ0 k l) ∧ (∀ k, 900 ≤ k → ρ k 0 = ρ0 k 0) ∧ (b = true → LinkOK μ) ∧
  (∀ q ∈ lv, LV μ q.2) ∧ lv_has ls maxL (lv.map fun q => (q.1, ren ρ q.2)) ∧
  (d ≤ R.frames ∧ 60 * d ≤ R.locals) ∧ cells + rc ≤ R.cells ∧ slots + rs ≤ R.slots
def J (G : GT) (b : Bool) (cc : ByteArray) (own : String) (maxL d rc rs : Nat) (pc : Nat) (lv : List (Nat × AV)) (st : List AV) (μ : Mem) : Prop :=
  ∀ (p : Program) (l : Launch) (e : Env) (R : Room) (s : State) (m : MethodId) (args : Array Value) (below : List Frame) (meth : Method) (c : Code) (Qf : State → Prop) (H : Heap) (locs : List Loc) (cells slots : Nat) (D : va_G) (Z : Nat) (ρ ρ0 : MA) (B0 : Nat → Nat → Bool) (ls : Array Slot),
    G R s meth below args Qf D Z ρ0 B0 → Cx b cc own maxL d rc rs p R s m args c H locs cells slots D Z ρ ρ0 B0 ls lv μ → LVs μ st →
    W p l e R s m args below meth c H locs cells slots Qf (F0 m pc ls (st.map (ren ρ)))
def Rm (d mc ms : Nat) : Room := { frames := d, cells := mc, slots := ms, locals := 60 * d }
def Qc (b : Bool) (Q : Option AV → Mem → Prop) (D : va_G) (Z : Nat) (ρ0 : MA) (B0 : Nat → Nat → Bool) : Array Value → State → Outcome → State → Prop := fun _ st oc t =>
  (∃ (v : Option AV) (ρ : MA) (μ : Mem), oc = .returned (v.map (ren ρ)) ∧ Q v μ ∧ Rel D Z t t.heap ρ μ ∧ (∀ k l, B0 k l = true → gF μ k l = true ∧ ρ k l = ρ0 k l) ∧ (∀ k, 900 ≤ k → ρ k 0 = ρ0 k 0) ∧ (b = true → LinkOK μ) ∧ LVs μ v.toList) ∧ va_F (fun q => Z ≤ q) st t
def GM (b : Bool) (Q : Option AV → Mem → Prop) (ret : Option FieldType) (nm : String) : GT := fun R s meth below args Qf D Z ρ0 B0 =>
  meth.sig.returnType = ret ∧ meth.locks = false ∧ meth.name = nm ∧ Qf = MQ below (Qc b Q D Z ρ0 B0) args s R.cells R.slots (fun q => Z ≤ q)
def Pq (b : Bool) (D : va_G) (Z : Nat) (ρ : MA) (as : List AV) (μ : Mem) : Array Value → State → Prop :=
  va_Pc (as.map (ren ρ)) (fun U => Rel D Z U U.heap ρ μ ∧ Nst U ∧ Stt Z ρ U ∧ Z ≤ U.heap.size ∧ (b = true → LinkOK μ) ∧ LVs μ as)
def JM (b : Bool) (D0 : Nat) (y : MethodName) (cc : ByteArray) (maxL : Nat) (ret : Option FieldType) (rc rs : Nat) (as : List AV) (μ : Mem) (Q : Option AV → Mem → Prop) : Prop :=
  ∀ d, D0 ≤ d → ∀ (l : Launch) (D : va_G) (Z : Nat) (ρ : MA), Met l y (Cond.code y cc maxL ret :: gw) (Rm d rc rs) (Pq b D Z ρ as μ) (Qc b Q D Z ρ (gF μ)) rc rs (fun q => Z ≤ q)
def QQ (v : Option AV) (ν : Mem) : Option AV → Mem → Prop := fun v' ν' => v' = v ∧ ν' = ν
theorem LVs.tl {μ : Mem} {v : AV} {st : List AV} (h : LVs μ (v :: st)) : LVs μ st := fun x hx => h x (List.mem_cons_of_mem _ hx)
theorem LVs.hd {μ : Mem} {v : AV} {st : List AV} (h : LVs μ (v :: st)) : LV μ v := h v List.mem_cons_self
theorem LVs.cs {μ : Mem} {v : AV} {st : List AV} (hv : LV μ v) (h : LVs μ st) : LVs μ (v :: st) := fun x hx => by
  rcases List.mem_cons.mp hx with rfl | hx
  · exact hv
  · exact h x hx
theorem LVs.i {μ : Mem} {x : Int32} {st : List AV} (h : LVs μ st) : LVs μ (vi x :: st) := h.cs (v := vi x) trivial
theorem LVs.l {μ : Mem} {x : Int64} {st : List AV} (h : LVs μ st) : LVs μ (vl x :: st) := h.cs (v := vl x) trivial
theorem LVs.n {μ : Mem} {st : List AV} (h : LVs μ st) : LVs μ (vn :: st) := h.cs (v := vn) trivial
end
section
section JR
variable {G : GT} {b : Bool} {cc : ByteArray} {own : String} {maxL d rc rs pc q : Nat} {lv : List (Nat × AV)} {st : List AV} {μ : Mem}
theorem ren_cat (ρ : MA) (v : AV) : ((ren ρ v).category == 2) = (match v with | .inr (.inl _) => true | _ => false) := by
  match v with
  | .inl x => rfl
  | .inr (.inl x) => rfl
  | .inr (.inr none) => rfl
  | .inr (.inr (some q)) => rfl
def isL (v : AV) : Bool := match v with
  | .inr (.inl _) => true
  | _ => false
theorem ren_isL (ρ : MA) (v : AV) : ((ren ρ v).category == 2) = isL v := ren_cat ρ v
def fl1 (n : Nat) (lv : List (Nat × AV)) : List (Nat × AV) := lv.filter (fun q => !(q.1 == n) && !(q.1 + 1 == n && isL q.2))
def fl2 (n : Nat) (lv : List (Nat × AV)) : List (Nat × AV) := lv.filter (fun q => !(q.1 == n) && (!(q.1 == n + 1) && !(q.1 + 1 == n && isL q.2)))
theorem fl1_map (ρ : MA) (n : Nat) (lv : List (Nat × AV)) : (lv.map fun q => (q.1, ren ρ q.2)).filter (fun q => !(q.1 == n) && !(q.1 + 1 == n && q.2.category == 2)) = (fl1 n lv).map fun q => (q.1, ren ρ q.2) := by
  induction lv with
  | nil => rfl
  | cons a l ih =>
    simp only [fl1, List.map_cons, List.filter_cons, ren_isL] at ih ⊢
    split <;> simp_all
theorem fl2_map (ρ : MA) (n : Nat) (lv : List (Nat × AV)) : (lv.map fun q => (q.1, ren ρ q.2)).filter (fun q => !(q.1 == n) && (!(q.1 == n + 1) && !(q.1 + 1 == n && q.2.category == 2))) = (fl2 n lv).map fun q => (q.1, ren ρ q.2) := by
  induction lv with
  | nil => rfl
  | cons a l ih =>
    simp only [fl2, List.map_cons, List.filter_cons, ren_isL] at ih ⊢
    split <;> simp_all
theorem fl1_in {n : Nat} {lv : List (Nat × AV)} {x : Nat × AV} (h : x ∈ fl1 n lv) : x ∈ lv := (List.mem_filter.mp h).1
theorem fl2_in {n : Nat} {lv : List (Nat × AV)} {x : Nat × AV} (h : x ∈ fl2 n lv) : x ∈ lv := (List.mem_filter.mp h).1
theorem lv_get {ρ : MA} {ls : Array Slot} {n : Nat} {v : AV} (h : lv_has ls maxL (lv.map fun q => (q.1, ren ρ q.2))) (j : Nat) (hl : lv[j]? = some (n, v)) : ls[n]? = some (.val (ren ρ v)) :=
  lv_at h j (by rw [List.getElem?_map, hl]; rfl)
/-- the context with other locals -/
theorem Cx.loc {p : Program} {R : Room} {s : State} {m : MethodId} {args : Array Value} {c : Code} {H : Heap} {locs : List Loc} {cells slots : Nat} {D : va_G} {Z : Nat} {ρ ρ0 : MA} {B0 : Nat → Nat → Bool} {ls ls' : Array Slot} {lv' : List (Nat × AV)}
    (C : Cx b cc own maxL d rc rs p R s m args c H locs cells slots D Z ρ ρ0 B0 ls lv μ) (h1 : ∀ q ∈ lv', LV μ q.2) (h2 : lv_has ls' maxL (lv'.map fun q => (q.1, ren ρ q.2))) : Cx b cc own maxL d rc rs p R s m args c H locs cells slots D Z ρ ρ0 B0 ls' lv' μ := by
  obtain ⟨a1, a2, a3, a4, a5, a6, a7, a8, a9, a10, a11, a12, a13, -, -, a16, a17, a18⟩ := C
  exact ⟨a1, a2, a3, a4, a5, a6, a7, a8, a9, a10, a11, a12, a13, h1, h2, a16, a17, a18⟩
theorem Cx.hlv {p : Program} {R : Room} {s : State} {m : MethodId} {args : Array Value} {c : Code} {H : Heap} {locs : List Loc} {cells slots : Nat} {D : va_G} {Z : Nat} {ρ ρ0 : MA} {B0 : Nat → Nat → Bool} {ls : Array Slot}
    (C : Cx b cc own maxL d rc rs p R s m args c H locs cells slots D Z ρ ρ0 B0 ls lv μ) : ∀ q ∈ lv, LV μ q.2 := C.2.2.2.2.2.2.2.2.2.2.2.2.2.1
theorem Cx.hls {p : Program} {R : Room} {s : State} {m : MethodId} {args : Array Value} {c : Code} {H : Heap} {locs : List Loc} {cells slots : Nat} {D : va_G} {Z : Nat} {ρ ρ0 : MA} {B0 : Nat → Nat → Bool} {ls : Array Slot}
    (C : Cx b cc own maxL d rc rs p R s m args c H locs cells slots D Z ρ ρ0 B0 ls lv μ) : lv_has ls maxL (lv.map fun q => (q.1, ren ρ q.2)) := C.2.2.2.2.2.2.2.2.2.2.2.2.2.2.1
theorem Cx.hown {p : Program} {R : Room} {s : State} {m : MethodId} {args : Array Value} {c : Code} {H : Heap} {locs : List Loc} {cells slots : Nat} {D : va_G} {Z : Nat} {ρ ρ0 : MA} {B0 : Nat → Nat → Bool} {ls : Array Slot}
    (C : Cx b cc own maxL d rc rs p R s m args c H locs cells slots D Z ρ ρ0 B0 ls lv μ) : s.vm.findClass own = some m.cls := C.2.2.2.1
theorem Cx.hts {p : Program} {R : Room} {s : State} {m : MethodId} {args : Array Value} {c : Code} {H : Heap} {locs : List Loc} {cells slots : Nat} {D : va_G} {Z : Nat} {ρ ρ0 : MA} {B0 : Nat → Nat → Bool} {ls : Array Slot}
    (C : Cx b cc own maxL d rc rs p R s m args c H locs cells slots D Z ρ ρ0 B0 ls lv μ) : ∀ w ∈ gw, w.before args s = true := C.2.2.2.2.1

theorem J_iconst {n : Int} {v : Int32} (hd : decode cc pc = .ok (.iconst n, 1)) (hv : Int32.ofInt n = v) (hq : pc + 1 = q) (k : J G b cc own maxL d rc rs q lv (vi v :: st) μ) : J G b cc own maxL d rc rs pc lv st μ := by
  subst hq
  intro p l e R s m args below meth c Qf H locs cells slots D Z ρ ρ0 B0 ls hG C hst
  exact lv_iconst C.1 C.2.1 hd hv (k _ _ _ _ _ _ _ _ _ _ _ _ _ _ _ _ _ _ _ _ _ hG C hst.i)
theorem J_bipush {n : Int} {v : Int32} (hd : decode cc pc = .ok (.bipush n, 2)) (hv : (Int8.ofInt n).toInt32 = v) (hq : pc + 2 = q) (k : J G b cc own maxL d rc rs q lv (vi v :: st) μ) : J G b cc own maxL d rc rs pc lv st μ := by
  subst hq
  intro p l e R s m args below meth c Qf H locs cells slots D Z ρ ρ0 B0 ls hG C hst
  exact lv_bipush C.1 C.2.1 hd hv (k _ _ _ _ _ _ _ _ _ _ _ _ _ _ _ _ _ _ _ _ _ hG C hst.i)
theorem J_sipush {n : Int} {v : Int32} (hd : decode cc pc = .ok (.sipush n, 3)) (hv : (Int16.ofInt n).toInt32 = v) (hq : pc + 3 = q) (k : J G b cc own maxL d rc rs q lv (vi v :: st) μ) : J G b cc own maxL d rc rs pc lv st μ := by
  subst hq
  intro p l e R s m args below meth c Qf H locs cells slots D Z ρ ρ0 B0 ls hG C hst
  exact lv_sipush C.1 C.2.1 hd hv (k _ _ _ _ _ _ _ _ _ _ _ _ _ _ _ _ _ _ _ _ _ hG C hst.i)
theorem J_lconst {n : Fin 2} {v : Int64} (hd : decode cc pc = .ok (.lconst n, 1)) (hv : Int64.ofNat (n : Nat) = v) (hq : pc + 1 = q) (k : J G b cc own maxL d rc rs q lv (vl v :: st) μ) : J G b cc own maxL d rc rs pc lv st μ := by
  subst hq
  intro p l e R s m args below meth c Qf H locs cells slots D Z ρ ρ0 B0 ls hG C hst
  exact lv_lconst C.1 C.2.1 hd hv (k _ _ _ _ _ _ _ _ _ _ _ _ _ _ _ _ _ _ _ _ _ hG C hst.l)
theorem J_ldc {i : Nat} {v : Int32} (hd : decode cc pc = .ok (.ldc i, 2)) (hc : Cond.constant own i v ∈ gw) (hq : pc + 2 = q) (k : J G b cc own maxL d rc rs q lv (vi v :: st) μ) : J G b cc own maxL d rc rs pc lv st μ := by
  subst hq
  intro p l e R s m args below meth c Qf H locs cells slots D Z ρ ρ0 B0 ls hG C hst
  exact lv_ldc C.1 C.2.1 C.hown (C.hts _ hc) hd (k _ _ _ _ _ _ _ _ _ _ _ _ _ _ _ _ _ _ _ _ _ hG C hst.i)
theorem J_ldcw {i : Nat} {v : Int32} (hd : decode cc pc = .ok (.ldc_w i, 3)) (hc : Cond.constant own i v ∈ gw) (hq : pc + 3 = q) (k : J G b cc own maxL d rc rs q lv (vi v :: st) μ) : J G b cc own maxL d rc rs pc lv st μ := by
  subst hq
  intro p l e R s m args below meth c Qf H locs cells slots D Z ρ ρ0 B0 ls hG C hst
  exact lv_ldcw C.1 C.2.1 C.hown (C.hts _ hc) hd (k _ _ _ _ _ _ _ _ _ _ _ _ _ _ _ _ _ _ _ _ _ hG C hst.i)
theorem J_ldc2 {i : Nat} {v : Int64} (hd : decode cc pc = .ok (.ldc2_w i, 3)) (hc : Cond.constantLong own i v ∈ gw) (hq : pc + 3 = q) (k : J G b cc own maxL d rc rs q lv (vl v :: st) μ) : J G b cc own maxL d rc rs pc lv st μ := by
  subst hq
  intro p l e R s m args below meth c Qf H locs cells slots D Z ρ ρ0 B0 ls hG C hst
  exact lv_ldc2 C.1 C.2.1 C.hown (C.hts _ hc) hd (k _ _ _ _ _ _ _ _ _ _ _ _ _ _ _ _ _ _ _ _ _ hG C hst.l)
theorem J_null  (hd : decode cc pc = .ok (.aconst_null, 1)) (hq : pc + 1 = q) (k : J G b cc own maxL d rc rs q lv (vn :: st) μ) : J G b cc own maxL d rc rs pc lv st μ := by
  subst hq
  intro p l e R s m args below meth c Qf H locs cells slots D Z ρ ρ0 B0 ls hG C hst
  exact lv_null C.1 C.2.1 hd (k _ _ _ _ _ _ _ _ _ _ _ _ _ _ _ _ _ _ _ _ _ hG C hst.n)
theorem J_iadd {x y : Int32} (hd : decode cc pc = .ok (.iadd, 1)) (hq : pc + 1 = q) (k : J G b cc own maxL d rc rs q lv (vi (x + y) :: st) μ) : J G b cc own maxL d rc rs pc lv (vi y :: vi x :: st) μ := by
  subst hq
  intro p l e R s m args below meth c Qf H locs cells slots D Z ρ ρ0 B0 ls hG C hst
  exact lv_iadd C.1 C.2.1 hd (k _ _ _ _ _ _ _ _ _ _ _ _ _ _ _ _ _ _ _ _ _ hG C hst.tl.tl.i)
theorem J_isub {x y : Int32} (hd : decode cc pc = .ok (.isub, 1)) (hq : pc + 1 = q) (k : J G b cc own maxL d rc rs q lv (vi (x - y) :: st) μ) : J G b cc own maxL d rc rs pc lv (vi y :: vi x :: st) μ := by
  subst hq
  intro p l e R s m args below meth c Qf H locs cells slots D Z ρ ρ0 B0 ls hG C hst
  exact lv_isub C.1 C.2.1 hd (k _ _ _ _ _ _ _ _ _ _ _ _ _ _ _ _ _ _ _ _ _ hG C hst.tl.tl.i)
theorem J_imul {x y : Int32} (hd : decode cc pc = .ok (.imul, 1)) (hq : pc + 1 = q) (k : J G b cc own maxL d rc rs q lv (vi (x * y) :: st) μ) : J G b cc own maxL d rc rs pc lv (vi y :: vi x :: st) μ := by
  subst hq
  intro p l e R s m args below meth c Qf H locs cells slots D Z ρ ρ0 B0 ls hG C hst
  exact lv_imul C.1 C.2.1 hd (k _ _ _ _ _ _ _ _ _ _ _ _ _ _ _ _ _ _ _ _ _ hG C hst.tl.tl.i)
theorem J_iand {x y : Int32} (hd : decode cc pc = .ok (.iand, 1)) (hq : pc + 1 = q) (k : J G b cc own maxL d rc rs q lv (vi (x &&& y) :: st) μ) : J G b cc own maxL d rc rs pc lv (vi y :: vi x :: st) μ := by
  subst hq
  intro p l e R s m args below meth c Qf H locs cells slots D Z ρ ρ0 B0 ls hG C hst
  exact lv_iand C.1 C.2.1 hd (k _ _ _ _ _ _ _ _ _ _ _ _ _ _ _ _ _ _ _ _ _ hG C hst.tl.tl.i)
theorem J_ladd {x y : Int64} (hd : decode cc pc = .ok (.ladd, 1)) (hq : pc + 1 = q) (k : J G b cc own maxL d rc rs q lv (vl (x + y) :: st) μ) : J G b cc own maxL d rc rs pc lv (vl y :: vl x :: st) μ := by
  subst hq
  intro p l e R s m args below meth c Qf H locs cells slots D Z ρ ρ0 B0 ls hG C hst
  exact lv_ladd C.1 C.2.1 hd (k _ _ _ _ _ _ _ _ _ _ _ _ _ _ _ _ _ _ _ _ _ hG C hst.tl.tl.l)
theorem J_lsub {x y : Int64} (hd : decode cc pc = .ok (.lsub, 1)) (hq : pc + 1 = q) (k : J G b cc own maxL d rc rs q lv (vl (x - y) :: st) μ) : J G b cc own maxL d rc rs pc lv (vl y :: vl x :: st) μ := by
  subst hq
  intro p l e R s m args below meth c Qf H locs cells slots D Z ρ ρ0 B0 ls hG C hst
  exact lv_lsub C.1 C.2.1 hd (k _ _ _ _ _ _ _ _ _ _ _ _ _ _ _ _ _ _ _ _ _ hG C hst.tl.tl.l)
theorem J_lmul {x y : Int64} (hd : decode cc pc = .ok (.lmul, 1)) (hq : pc + 1 = q) (k : J G b cc own maxL d rc rs q lv (vl (x * y) :: st) μ) : J G b cc own maxL d rc rs pc lv (vl y :: vl x :: st) μ := by
  subst hq
  intro p l e R s m args below meth c Qf H locs cells slots D Z ρ ρ0 B0 ls hG C hst
  exact lv_lmul C.1 C.2.1 hd (k _ _ _ _ _ _ _ _ _ _ _ _ _ _ _ _ _ _ _ _ _ hG C hst.tl.tl.l)
theorem J_land {x y : Int64} (hd : decode cc pc = .ok (.land, 1)) (hq : pc + 1 = q) (k : J G b cc own maxL d rc rs q lv (vl (x &&& y) :: st) μ) : J G b cc own maxL d rc rs pc lv (vl y :: vl x :: st) μ := by
  subst hq
  intro p l e R s m args below meth c Qf H locs cells slots D Z ρ ρ0 B0 ls hG C hst
  exact lv_land C.1 C.2.1 hd (k _ _ _ _ _ _ _ _ _ _ _ _ _ _ _ _ _ _ _ _ _ hG C hst.tl.tl.l)
theorem J_lxor {x y : Int64} (hd : decode cc pc = .ok (.lxor, 1)) (hq : pc + 1 = q) (k : J G b cc own maxL d rc rs q lv (vl (x ^^^ y) :: st) μ) : J G b cc own maxL d rc rs pc lv (vl y :: vl x :: st) μ := by
  subst hq
  intro p l e R s m args below meth c Qf H locs cells slots D Z ρ ρ0 B0 ls hG C hst
  exact lv_lxor C.1 C.2.1 hd (k _ _ _ _ _ _ _ _ _ _ _ _ _ _ _ _ _ _ _ _ _ hG C hst.tl.tl.l)
theorem J_idiv {x y : Int32} (hd : decode cc pc = .ok (.idiv, 1)) (hn : ¬ y = 0) (hq : pc + 1 = q) (k : J G b cc own maxL d rc rs q lv (vi (x / y) :: st) μ) : J G b cc own maxL d rc rs pc lv (vi y :: vi x :: st) μ := by
  subst hq
  intro p l e R s m args below meth c Qf H locs cells slots D Z ρ ρ0 B0 ls hG C hst
  exact lv_idiv C.1 C.2.1 hd hn (k _ _ _ _ _ _ _ _ _ _ _ _ _ _ _ _ _ _ _ _ _ hG C hst.tl.tl.i)
theorem J_irem {x y : Int32} (hd : decode cc pc = .ok (.irem, 1)) (hn : ¬ y = 0) (hq : pc + 1 = q) (k : J G b cc own maxL d rc rs q lv (vi (x - x / y * y) :: st) μ) : J G b cc own maxL d rc rs pc lv (vi y :: vi x :: st) μ := by
  subst hq
  intro p l e R s m args below meth c Qf H locs cells slots D Z ρ ρ0 B0 ls hG C hst
  exact lv_irem C.1 C.2.1 hd hn (k _ _ _ _ _ _ _ _ _ _ _ _ _ _ _ _ _ _ _ _ _ hG C hst.tl.tl.i)
theorem J_ldiv {x y : Int64} (hd : decode cc pc = .ok (.ldiv, 1)) (hn : ¬ y = 0) (hq : pc + 1 = q) (k : J G b cc own maxL d rc rs q lv (vl (x / y) :: st) μ) : J G b cc own maxL d rc rs pc lv (vl y :: vl x :: st) μ := by
  subst hq
  intro p l e R s m args below meth c Qf H locs cells slots D Z ρ ρ0 B0 ls hG C hst
  exact lv_ldiv C.1 C.2.1 hd hn (k _ _ _ _ _ _ _ _ _ _ _ _ _ _ _ _ _ _ _ _ _ hG C hst.tl.tl.l)
theorem J_lrem {x y : Int64} (hd : decode cc pc = .ok (.lrem, 1)) (hn : ¬ y = 0) (hq : pc + 1 = q) (k : J G b cc own maxL d rc rs q lv (vl (x - x / y * y) :: st) μ) : J G b cc own maxL d rc rs pc lv (vl y :: vl x :: st) μ := by
  subst hq
  intro p l e R s m args below meth c Qf H locs cells slots D Z ρ ρ0 B0 ls hG C hst
  exact lv_lrem C.1 C.2.1 hd hn (k _ _ _ _ _ _ _ _ _ _ _ _ _ _ _ _ _ _ _ _ _ hG C hst.tl.tl.l)
theorem J_lneg {x : Int64} (hd : decode cc pc = .ok (.lneg, 1)) (hq : pc + 1 = q) (k : J G b cc own maxL d rc rs q lv (vl (-x) :: st) μ) : J G b cc own maxL d rc rs pc lv (vl x :: st) μ := by
  subst hq
  intro p l e R s m args below meth c Qf H locs cells slots D Z ρ ρ0 B0 ls hG C hst
  exact lv_lneg C.1 C.2.1 hd (k _ _ _ _ _ _ _ _ _ _ _ _ _ _ _ _ _ _ _ _ _ hG C hst.tl.l)
theorem J_lshl {x : Int64} {y : Int32} (hd : decode cc pc = .ok (.lshl, 1)) (hq : pc + 1 = q) (k : J G b cc own maxL d rc rs q lv (vl (x <<< (y.toInt64 &&& 63)) :: st) μ) : J G b cc own maxL d rc rs pc lv (vi y :: vl x :: st) μ := by
  subst hq
  intro p l e R s m args below meth c Qf H locs cells slots D Z ρ ρ0 B0 ls hG C hst
  exact lv_lshl C.1 C.2.1 hd rfl (k _ _ _ _ _ _ _ _ _ _ _ _ _ _ _ _ _ _ _ _ _ hG C hst.tl.tl.l)
theorem J_lshr {x : Int64} {y : Int32} (hd : decode cc pc = .ok (.lshr, 1)) (hq : pc + 1 = q) (k : J G b cc own maxL d rc rs q lv (vl (x >>> (y.toInt64 &&& 63)) :: st) μ) : J G b cc own maxL d rc rs pc lv (vi y :: vl x :: st) μ := by
  subst hq
  intro p l e R s m args below meth c Qf H locs cells slots D Z ρ ρ0 B0 ls hG C hst
  exact lv_lshr C.1 C.2.1 hd rfl (k _ _ _ _ _ _ _ _ _ _ _ _ _ _ _ _ _ _ _ _ _ hG C hst.tl.tl.l)
theorem J_i2l {x : Int32} (hd : decode cc pc = .ok (.i2l, 1)) (hq : pc + 1 = q) (k : J G b cc own maxL d rc rs q lv (vl x.toInt64 :: st) μ) : J G b cc own maxL d rc rs pc lv (vi x :: st) μ := by
  subst hq
  intro p l e R s m args below meth c Qf H locs cells slots D Z ρ ρ0 B0 ls hG C hst
  exact lv_i2l C.1 C.2.1 hd rfl (k _ _ _ _ _ _ _ _ _ _ _ _ _ _ _ _ _ _ _ _ _ hG C hst.tl.l)
theorem J_l2i {x : Int64} (hd : decode cc pc = .ok (.l2i, 1)) (hq : pc + 1 = q) (k : J G b cc own maxL d rc rs q lv (vi x.toInt32 :: st) μ) : J G b cc own maxL d rc rs pc lv (vl x :: st) μ := by
  subst hq
  intro p l e R s m args below meth c Qf H locs cells slots D Z ρ ρ0 B0 ls hG C hst
  exact lv_l2i C.1 C.2.1 hd rfl (k _ _ _ _ _ _ _ _ _ _ _ _ _ _ _ _ _ _ _ _ _ hG C hst.tl.i)
theorem J_dupI {x : Int32} (hd : decode cc pc = .ok (.dup, 1)) (hq : pc + 1 = q) (k : J G b cc own maxL d rc rs q lv (vi x :: vi x :: st) μ) : J G b cc own maxL d rc rs pc lv (vi x :: st) μ := by
  subst hq
  intro p l e R s m args below meth c Qf H locs cells slots D Z ρ ρ0 B0 ls hG C hst
  exact lv_dup C.1 C.2.1 hd rfl (k _ _ _ _ _ _ _ _ _ _ _ _ _ _ _ _ _ _ _ _ _ hG C hst.i)
theorem J_dupR {k' l' : Nat} (hd : decode cc pc = .ok (.dup, 1)) (hq : pc + 1 = q) (k : J G b cc own maxL d rc rs q lv (vr k' l' :: vr k' l' :: st) μ) : J G b cc own maxL d rc rs pc lv (vr k' l' :: st) μ := by
  subst hq
  intro p l e R s m args below meth c Qf H locs cells slots D Z ρ ρ0 B0 ls hG C hst
  exact lv_dup C.1 C.2.1 hd rfl (k _ _ _ _ _ _ _ _ _ _ _ _ _ _ _ _ _ _ _ _ _ hG C (LVs.cs hst.hd hst))
theorem J_popI {x : Int32} (hd : decode cc pc = .ok (.pop, 1)) (hq : pc + 1 = q) (k : J G b cc own maxL d rc rs q lv st μ) : J G b cc own maxL d rc rs pc lv (vi x :: st) μ := by
  subst hq
  intro p l e R s m args below meth c Qf H locs cells slots D Z ρ ρ0 B0 ls hG C hst
  exact lv_pop C.1 C.2.1 hd rfl (k _ _ _ _ _ _ _ _ _ _ _ _ _ _ _ _ _ _ _ _ _ hG C hst.tl)
theorem J_dup2IR {x : Int32} {k' l' : Nat} (hd : decode cc pc = .ok (.dup2, 1)) (hq : pc + 1 = q) (k : J G b cc own maxL d rc rs q lv (vi x :: vr k' l' :: vi x :: vr k' l' :: st) μ) : J G b cc own maxL d rc rs pc lv (vi x :: vr k' l' :: st) μ := by
  subst hq
  intro p l e R s m args below meth c Qf H locs cells slots D Z ρ ρ0 B0 ls hG C hst
  exact lv_dup2_11 C.1 C.2.1 hd rfl rfl (k _ _ _ _ _ _ _ _ _ _ _ _ _ _ _ _ _ _ _ _ _ hG C (LVs.cs (v := vi x) trivial (LVs.cs hst.tl.hd hst)))
theorem J_iload_n {f : Fin 4} {n : Nat} {x : Int32} (j : Nat) (hd : decode cc pc = .ok (.iload_n f, 1)) (hf : (f : Nat) = n) (hl : lv[j]? = some (n, vi x)) (hq : pc + 1 = q) (k : J G b cc own maxL d rc rs q lv (vi x :: st) μ) : J G b cc own maxL d rc rs pc lv st μ := by
  subst hq
  intro p l e R s m args below meth c Qf H locs cells slots D Z ρ ρ0 B0 ls hG C hst
  exact lv_iload_n C.1 C.2.1 hd hf (lv_get C.hls j hl) (k _ _ _ _ _ _ _ _ _ _ _ _ _ _ _ _ _ _ _ _ _ hG C hst.i)
theorem J_iload {n : Nat} {x : Int32} (j : Nat) (hd : decode cc pc = .ok (.iload n, 2)) (hl : lv[j]? = some (n, vi x)) (hq : pc + 2 = q) (k : J G b cc own maxL d rc rs q lv (vi x :: st) μ) : J G b cc own maxL d rc rs pc lv st μ := by
  subst hq
  intro p l e R s m args below meth c Qf H locs cells slots D Z ρ ρ0 B0 ls hG C hst
  exact lv_iload C.1 C.2.1 hd (lv_get C.hls j hl) (k _ _ _ _ _ _ _ _ _ _ _ _ _ _ _ _ _ _ _ _ _ hG C hst.i)
theorem J_lload_n {f : Fin 4} {n : Nat} {x : Int64} (j : Nat) (hd : decode cc pc = .ok (.lload_n f, 1)) (hf : (f : Nat) = n) (hl : lv[j]? = some (n, vl x)) (hq : pc + 1 = q) (k : J G b cc own maxL d rc rs q lv (vl x :: st) μ) : J G b cc own maxL d rc rs pc lv st μ := by
  subst hq
  intro p l e R s m args below meth c Qf H locs cells slots D Z ρ ρ0 B0 ls hG C hst
  exact lv_lload_n C.1 C.2.1 hd hf (lv_get C.hls j hl) (k _ _ _ _ _ _ _ _ _ _ _ _ _ _ _ _ _ _ _ _ _ hG C hst.l)
theorem J_lload {n : Nat} {x : Int64} (j : Nat) (hd : decode cc pc = .ok (.lload n, 2)) (hl : lv[j]? = some (n, vl x)) (hq : pc + 2 = q) (k : J G b cc own maxL d rc rs q lv (vl x :: st) μ) : J G b cc own maxL d rc rs pc lv st μ := by
  subst hq
  intro p l e R s m args below meth c Qf H locs cells slots D Z ρ ρ0 B0 ls hG C hst
  exact lv_lload C.1 C.2.1 hd (lv_get C.hls j hl) (k _ _ _ _ _ _ _ _ _ _ _ _ _ _ _ _ _ _ _ _ _ hG C hst.l)
theorem J_aload_n {f : Fin 4} {n : Nat} {o : Option (Nat × Nat)} (j : Nat) (hd : decode cc pc = .ok (.aload_n f, 1)) (hf : (f : Nat) = n) (hl : lv[j]? = some (n, (Sum.inr (Sum.inr o) : AV))) (hq : pc + 1 = q) (k : J G b cc own maxL d rc rs q lv ((Sum.inr (Sum.inr o) : AV) :: st) μ) : J G b cc own maxL d rc rs pc lv st μ := by
  subst hq
  intro p l e R s m args below meth c Qf H locs cells slots D Z ρ ρ0 B0 ls hG C hst
  have hv : LV μ (Sum.inr (Sum.inr o)) := C.hlv _ (List.mem_of_getElem? hl)
  cases o with
  | none => exact lv_aload_nN C.1 C.2.1 hd hf (lv_get C.hls j hl) (k _ _ _ _ _ _ _ _ _ _ _ _ _ _ _ _ _ _ _ _ _ hG C (LVs.cs hv hst))
  | some z => exact lv_aload_n C.1 C.2.1 hd hf (lv_get C.hls j hl) (k _ _ _ _ _ _ _ _ _ _ _ _ _ _ _ _ _ _ _ _ _ hG C (LVs.cs hv hst))
theorem J_aload {n : Nat} {o : Option (Nat × Nat)} (j : Nat) (hd : decode cc pc = .ok (.aload n, 2)) (hl : lv[j]? = some (n, (Sum.inr (Sum.inr o) : AV))) (hq : pc + 2 = q) (k : J G b cc own maxL d rc rs q lv ((Sum.inr (Sum.inr o) : AV) :: st) μ) : J G b cc own maxL d rc rs pc lv st μ := by
  subst hq
  intro p l e R s m args below meth c Qf H locs cells slots D Z ρ ρ0 B0 ls hG C hst
  have hv : LV μ (Sum.inr (Sum.inr o)) := C.hlv _ (List.mem_of_getElem? hl)
  cases o with
  | none => exact lv_aloadN C.1 C.2.1 hd (lv_get C.hls j hl) (k _ _ _ _ _ _ _ _ _ _ _ _ _ _ _ _ _ _ _ _ _ hG C (LVs.cs hv hst))
  | some z => exact lv_aload C.1 C.2.1 hd (lv_get C.hls j hl) (k _ _ _ _ _ _ _ _ _ _ _ _ _ _ _ _ _ _ _ _ _ hG C (LVs.cs hv hst))
theorem J_istore_n {f : Fin 4} {n : Nat} {x : Int32} {lv' : List (Nat × AV)} (hd : decode cc pc = .ok (.istore_n f, 1)) (hf : (f : Nat) = n) (hn : n < maxL) (hl : (n, vi x) :: fl1 n lv = lv') (hq : pc + 1 = q) (k : J G b cc own maxL d rc rs q lv' st μ) : J G b cc own maxL d rc rs pc lv (vi x :: st) μ := by
  subst hq; subst hl
  intro p l e R s m args below meth c Qf H locs cells slots D Z ρ ρ0 B0 ls hG C hst
  refine lv_istore_n C.1 C.2.1 hd hf C.hls hn rfl (fun ls1 h1 => k _ _ _ _ _ _ _ _ _ _ _ _ _ _ _ _ _ _ _ _ _ hG (C.loc (fun z hz => ?_) (by rw [fl1_map] at h1; exact h1)) hst.tl)
  rcases List.mem_cons.mp hz with rfl | hz
  · trivial
  · exact C.hlv _ (fl1_in hz)
theorem J_istore {n : Nat} {x : Int32} {lv' : List (Nat × AV)} (hd : decode cc pc = .ok (.istore n, 2)) (hn : n < maxL) (hl : (n, vi x) :: fl1 n lv = lv') (hq : pc + 2 = q) (k : J G b cc own maxL d rc rs q lv' st μ) : J G b cc own maxL d rc rs pc lv (vi x :: st) μ := by
  subst hq; subst hl
  intro p l e R s m args below meth c Qf H locs cells slots D Z ρ ρ0 B0 ls hG C hst
  refine lv_istore C.1 C.2.1 hd C.hls hn rfl (fun ls1 h1 => k _ _ _ _ _ _ _ _ _ _ _ _ _ _ _ _ _ _ _ _ _ hG (C.loc (fun z hz => ?_) (by rw [fl1_map] at h1; exact h1)) hst.tl)
  rcases List.mem_cons.mp hz with rfl | hz
  · trivial
  · exact C.hlv _ (fl1_in hz)
theorem J_lstore_n {f : Fin 4} {n : Nat} {x : Int64} {lv' : List (Nat × AV)} (hd : decode cc pc = .ok (.lstore_n f, 1)) (hf : (f : Nat) = n) (hn : n + 1 < maxL) (hl : (n, vl x) :: fl2 n lv = lv') (hq : pc + 1 = q) (k : J G b cc own maxL d rc rs q lv' st μ) : J G b cc own maxL d rc rs pc lv (vl x :: st) μ := by
  subst hq; subst hl
  intro p l e R s m args below meth c Qf H locs cells slots D Z ρ ρ0 B0 ls hG C hst
  refine lv_lstore_n C.1 C.2.1 hd hf C.hls hn rfl (fun ls1 h1 => k _ _ _ _ _ _ _ _ _ _ _ _ _ _ _ _ _ _ _ _ _ hG (C.loc (fun z hz => ?_) (by rw [fl2_map] at h1; exact h1)) hst.tl)
  rcases List.mem_cons.mp hz with rfl | hz
  · trivial
  · exact C.hlv _ (fl2_in hz)
theorem J_lstore {n : Nat} {x : Int64} {lv' : List (Nat × AV)} (hd : decode cc pc = .ok (.lstore n, 2)) (hn : n + 1 < maxL) (hl : (n, vl x) :: fl2 n lv = lv') (hq : pc + 2 = q) (k : J G b cc own maxL d rc rs q lv' st μ) : J G b cc own maxL d rc rs pc lv (vl x :: st) μ := by
  subst hq; subst hl
  intro p l e R s m args below meth c Qf H locs cells slots D Z ρ ρ0 B0 ls hG C hst
  refine lv_lstore C.1 C.2.1 hd C.hls hn rfl (fun ls1 h1 => k _ _ _ _ _ _ _ _ _ _ _ _ _ _ _ _ _ _ _ _ _ hG (C.loc (fun z hz => ?_) (by rw [fl2_map] at h1; exact h1)) hst.tl)
  rcases List.mem_cons.mp hz with rfl | hz
  · trivial
  · exact C.hlv _ (fl2_in hz)
theorem J_astore_n {f : Fin 4} {n : Nat} {o : Option (Nat × Nat)} {lv' : List (Nat × AV)} (hd : decode cc pc = .ok (.astore_n f, 1)) (hf : (f : Nat) = n) (hn : n < maxL) (hl : (n, (Sum.inr (Sum.inr o) : AV)) :: fl1 n lv = lv') (hq : pc + 1 = q) (k : J G b cc own maxL d rc rs q lv' st μ) : J G b cc own maxL d rc rs pc lv ((Sum.inr (Sum.inr o) : AV) :: st) μ := by
  subst hq; subst hl
  intro p l e R s m args below meth c Qf H locs cells slots D Z ρ ρ0 B0 ls hG C hst
  have hz9 : ∀ z ∈ (n, (Sum.inr (Sum.inr o) : AV)) :: fl1 n lv, LV μ z.2 := fun z hz => by
    rcases List.mem_cons.mp hz with rfl | hz
    · exact hst.hd
    · exact C.hlv _ (fl1_in hz)
  cases o with
  | none => exact lv_astore_nN C.1 C.2.1 hd hf C.hls hn rfl (fun ls1 h1 => k _ _ _ _ _ _ _ _ _ _ _ _ _ _ _ _ _ _ _ _ _ hG (C.loc hz9 (by rw [fl1_map] at h1; exact h1)) hst.tl)
  | some z => exact lv_astore_n C.1 C.2.1 hd hf C.hls hn rfl (fun ls1 h1 => k _ _ _ _ _ _ _ _ _ _ _ _ _ _ _ _ _ _ _ _ _ hG (C.loc hz9 (by rw [fl1_map] at h1; exact h1)) hst.tl)
theorem J_astore {n : Nat} {o : Option (Nat × Nat)} {lv' : List (Nat × AV)} (hd : decode cc pc = .ok (.astore n, 2)) (hn : n < maxL) (hl : (n, (Sum.inr (Sum.inr o) : AV)) :: fl1 n lv = lv') (hq : pc + 2 = q) (k : J G b cc own maxL d rc rs q lv' st μ) : J G b cc own maxL d rc rs pc lv ((Sum.inr (Sum.inr o) : AV) :: st) μ := by
  subst hq; subst hl
  intro p l e R s m args below meth c Qf H locs cells slots D Z ρ ρ0 B0 ls hG C hst
  have hz9 : ∀ z ∈ (n, (Sum.inr (Sum.inr o) : AV)) :: fl1 n lv, LV μ z.2 := fun z hz => by
    rcases List.mem_cons.mp hz with rfl | hz
    · exact hst.hd
    · exact C.hlv _ (fl1_in hz)
  cases o with
  | none => exact lv_astoreN C.1 C.2.1 hd C.hls hn rfl (fun ls1 h1 => k _ _ _ _ _ _ _ _ _ _ _ _ _ _ _ _ _ _ _ _ _ hG (C.loc hz9 (by rw [fl1_map] at h1; exact h1)) hst.tl)
  | some z => exact lv_astore C.1 C.2.1 hd C.hls hn rfl (fun ls1 h1 => k _ _ _ _ _ _ _ _ _ _ _ _ _ _ _ _ _ _ _ _ _ hG (C.loc hz9 (by rw [fl1_map] at h1; exact h1)) hst.tl)
theorem J_iinc {n : Nat} {i : Int} {x v : Int32} {lv' : List (Nat × AV)} (j : Nat) (hd : decode cc pc = .ok (.iinc n i, 3)) (hk : lv[j]? = some (n, vi x)) (hv : x + Int32.ofInt i = v) (hn : n < maxL) (hl : (n, vi v) :: fl1 n lv = lv') (hq : pc + 3 = q) (k : J G b cc own maxL d rc rs q lv' st μ) : J G b cc own maxL d rc rs pc lv st μ := by
  subst hq; subst hl
  intro p l e R s m args below meth c Qf H locs cells slots D Z ρ ρ0 B0 ls hG C hst
  refine lv_iinc (k := j) (x := x) C.1 C.2.1 hd C.hls (by rw [List.getElem?_map, hk]; rfl) hv hn rfl (fun ls1 h1 => k _ _ _ _ _ _ _ _ _ _ _ _ _ _ _ _ _ _ _ _ _ hG (C.loc (fun z hz => ?_) (by rw [fl1_map] at h1; exact h1)) hst)
  rcases List.mem_cons.mp hz with rfl | hz
  · trivial
  · exact C.hlv _ (fl1_in hz)
theorem J_sub {lv' : List (Nat × AV)} (hs : ∀ z ∈ lv', z ∈ lv) (k : J G b cc own maxL d rc rs pc lv' st μ) : J G b cc own maxL d rc rs pc lv st μ := by
  intro p l e R s m args below meth c Qf H locs cells slots D Z ρ ρ0 B0 ls hG C hst
  exact k _ _ _ _ _ _ _ _ _ _ _ _ _ _ _ _ _ _ _ _ _ hG (C.loc (fun z hz => C.hlv z (hs z hz)) ⟨C.hls.1, C.hls.2.1, fun z hz => by
    obtain ⟨w, hw, rfl⟩ := List.mem_map.mp hz
    exact C.hls.2.2 _ (List.mem_map.mpr ⟨w, hs w hw, rfl⟩)⟩) hst
theorem J_if_eq {x : Int32} {off : Int} {tgt : Nat} (hd : decode cc pc = .ok (.ifCond .eq off, 3)) (ht : (pc : Int) + off = (tgt : Int)) (hq : pc + 3 = q) (kt : x = 0 → J G b cc own maxL d rc rs tgt lv st μ) (kf : ¬ x = 0 → J G b cc own maxL d rc rs q lv st μ) : J G b cc own maxL d rc rs pc lv (vi x :: st) μ := by
  subst hq
  intro p l e R s m args below meth c Qf H locs cells slots D Z ρ ρ0 B0 ls hG C hst
  exact lv_if_eq C.1 C.2.1 hd ht (fun h => kt h _ _ _ _ _ _ _ _ _ _ _ _ _ _ _ _ _ _ _ _ _ hG C hst.tl) (fun h => kf h _ _ _ _ _ _ _ _ _ _ _ _ _ _ _ _ _ _ _ _ _ hG C hst.tl)
theorem J_icmp_eq {x y : Int32} {off : Int} {tgt : Nat} (hd : decode cc pc = .ok (.if_icmp .eq off, 3)) (ht : (pc : Int) + off = (tgt : Int)) (hq : pc + 3 = q) (kt : x = y → J G b cc own maxL d rc rs tgt lv st μ) (kf : ¬ x = y → J G b cc own maxL d rc rs q lv st μ) : J G b cc own maxL d rc rs pc lv (vi y :: vi x :: st) μ := by
  subst hq
  intro p l e R s m args below meth c Qf H locs cells slots D Z ρ ρ0 B0 ls hG C hst
  exact lv_icmp_eq C.1 C.2.1 hd ht (fun h => kt h _ _ _ _ _ _ _ _ _ _ _ _ _ _ _ _ _ _ _ _ _ hG C hst.tl.tl) (fun h => kf h _ _ _ _ _ _ _ _ _ _ _ _ _ _ _ _ _ _ _ _ _ hG C hst.tl.tl)
theorem J_if_ne {x : Int32} {off : Int} {tgt : Nat} (hd : decode cc pc = .ok (.ifCond .ne off, 3)) (ht : (pc : Int) + off = (tgt : Int)) (hq : pc + 3 = q) (kt : ¬ x = 0 → J G b cc own maxL d rc rs tgt lv st μ) (kf : x = 0 → J G b cc own maxL d rc rs q lv st μ) : J G b cc own maxL d rc rs pc lv (vi x :: st) μ := by
  subst hq
  intro p l e R s m args below meth c Qf H locs cells slots D Z ρ ρ0 B0 ls hG C hst
  exact lv_if_ne C.1 C.2.1 hd ht (fun h => kt h _ _ _ _ _ _ _ _ _ _ _ _ _ _ _ _ _ _ _ _ _ hG C hst.tl) (fun h => kf h _ _ _ _ _ _ _ _ _ _ _ _ _ _ _ _ _ _ _ _ _ hG C hst.tl)
theorem J_icmp_ne {x y : Int32} {off : Int} {tgt : Nat} (hd : decode cc pc = .ok (.if_icmp .ne off, 3)) (ht : (pc : Int) + off = (tgt : Int)) (hq : pc + 3 = q) (kt : ¬ x = y → J G b cc own maxL d rc rs tgt lv st μ) (kf : x = y → J G b cc own maxL d rc rs q lv st μ) : J G b cc own maxL d rc rs pc lv (vi y :: vi x :: st) μ := by
  subst hq
  intro p l e R s m args below meth c Qf H locs cells slots D Z ρ ρ0 B0 ls hG C hst
  exact lv_icmp_ne C.1 C.2.1 hd ht (fun h => kt h _ _ _ _ _ _ _ _ _ _ _ _ _ _ _ _ _ _ _ _ _ hG C hst.tl.tl) (fun h => kf h _ _ _ _ _ _ _ _ _ _ _ _ _ _ _ _ _ _ _ _ _ hG C hst.tl.tl)
theorem J_if_lt {x : Int32} {off : Int} {tgt : Nat} (hd : decode cc pc = .ok (.ifCond .lt off, 3)) (ht : (pc : Int) + off = (tgt : Int)) (hq : pc + 3 = q) (kt : x < 0 → J G b cc own maxL d rc rs tgt lv st μ) (kf : ¬ x < 0 → J G b cc own maxL d rc rs q lv st μ) : J G b cc own maxL d rc rs pc lv (vi x :: st) μ := by
  subst hq
  intro p l e R s m args below meth c Qf H locs cells slots D Z ρ ρ0 B0 ls hG C hst
  exact lv_if_lt C.1 C.2.1 hd ht (fun h => kt h _ _ _ _ _ _ _ _ _ _ _ _ _ _ _ _ _ _ _ _ _ hG C hst.tl) (fun h => kf h _ _ _ _ _ _ _ _ _ _ _ _ _ _ _ _ _ _ _ _ _ hG C hst.tl)
theorem J_icmp_lt {x y : Int32} {off : Int} {tgt : Nat} (hd : decode cc pc = .ok (.if_icmp .lt off, 3)) (ht : (pc : Int) + off = (tgt : Int)) (hq : pc + 3 = q) (kt : x < y → J G b cc own maxL d rc rs tgt lv st μ) (kf : ¬ x < y → J G b cc own maxL d rc rs q lv st μ) : J G b cc own maxL d rc rs pc lv (vi y :: vi x :: st) μ := by
  subst hq
  intro p l e R s m args below meth c Qf H locs cells slots D Z ρ ρ0 B0 ls hG C hst
  exact lv_icmp_lt C.1 C.2.1 hd ht (fun h => kt h _ _ _ _ _ _ _ _ _ _ _ _ _ _ _ _ _ _ _ _ _ hG C hst.tl.tl) (fun h => kf h _ _ _ _ _ _ _ _ _ _ _ _ _ _ _ _ _ _ _ _ _ hG C hst.tl.tl)
theorem J_if_ge {x : Int32} {off : Int} {tgt : Nat} (hd : decode cc pc = .ok (.ifCond .ge off, 3)) (ht : (pc : Int) + off = (tgt : Int)) (hq : pc + 3 = q) (kt : 0 ≤ x → J G b cc own maxL d rc rs tgt lv st μ) (kf : ¬ 0 ≤ x → J G b cc own maxL d rc rs q lv st μ) : J G b cc own maxL d rc rs pc lv (vi x :: st) μ := by
  subst hq
  intro p l e R s m args below meth c Qf H locs cells slots D Z ρ ρ0 B0 ls hG C hst
  exact lv_if_ge C.1 C.2.1 hd ht (fun h => kt h _ _ _ _ _ _ _ _ _ _ _ _ _ _ _ _ _ _ _ _ _ hG C hst.tl) (fun h => kf h _ _ _ _ _ _ _ _ _ _ _ _ _ _ _ _ _ _ _ _ _ hG C hst.tl)
theorem J_icmp_ge {x y : Int32} {off : Int} {tgt : Nat} (hd : decode cc pc = .ok (.if_icmp .ge off, 3)) (ht : (pc : Int) + off = (tgt : Int)) (hq : pc + 3 = q) (kt : y ≤ x → J G b cc own maxL d rc rs tgt lv st μ) (kf : ¬ y ≤ x → J G b cc own maxL d rc rs q lv st μ) : J G b cc own maxL d rc rs pc lv (vi y :: vi x :: st) μ := by
  subst hq
  intro p l e R s m args below meth c Qf H locs cells slots D Z ρ ρ0 B0 ls hG C hst
  exact lv_icmp_ge C.1 C.2.1 hd ht (fun h => kt h _ _ _ _ _ _ _ _ _ _ _ _ _ _ _ _ _ _ _ _ _ hG C hst.tl.tl) (fun h => kf h _ _ _ _ _ _ _ _ _ _ _ _ _ _ _ _ _ _ _ _ _ hG C hst.tl.tl)
theorem J_if_gt {x : Int32} {off : Int} {tgt : Nat} (hd : decode cc pc = .ok (.ifCond .gt off, 3)) (ht : (pc : Int) + off = (tgt : Int)) (hq : pc + 3 = q) (kt : 0 < x → J G b cc own maxL d rc rs tgt lv st μ) (kf : ¬ 0 < x → J G b cc own maxL d rc rs q lv st μ) : J G b cc own maxL d rc rs pc lv (vi x :: st) μ := by
  subst hq
  intro p l e R s m args below meth c Qf H locs cells slots D Z ρ ρ0 B0 ls hG C hst
  exact lv_if_gt C.1 C.2.1 hd ht (fun h => kt h _ _ _ _ _ _ _ _ _ _ _ _ _ _ _ _ _ _ _ _ _ hG C hst.tl) (fun h => kf h _ _ _ _ _ _ _ _ _ _ _ _ _ _ _ _ _ _ _ _ _ hG C hst.tl)
theorem J_icmp_gt {x y : Int32} {off : Int} {tgt : Nat} (hd : decode cc pc = .ok (.if_icmp .gt off, 3)) (ht : (pc : Int) + off = (tgt : Int)) (hq : pc + 3 = q) (kt : y < x → J G b cc own maxL d rc rs tgt lv st μ) (kf : ¬ y < x → J G b cc own maxL d rc rs q lv st μ) : J G b cc own maxL d rc rs pc lv (vi y :: vi x :: st) μ := by
  subst hq
  intro p l e R s m args below meth c Qf H locs cells slots D Z ρ ρ0 B0 ls hG C hst
  exact lv_icmp_gt C.1 C.2.1 hd ht (fun h => kt h _ _ _ _ _ _ _ _ _ _ _ _ _ _ _ _ _ _ _ _ _ hG C hst.tl.tl) (fun h => kf h _ _ _ _ _ _ _ _ _ _ _ _ _ _ _ _ _ _ _ _ _ hG C hst.tl.tl)
theorem J_if_le {x : Int32} {off : Int} {tgt : Nat} (hd : decode cc pc = .ok (.ifCond .le off, 3)) (ht : (pc : Int) + off = (tgt : Int)) (hq : pc + 3 = q) (kt : x ≤ 0 → J G b cc own maxL d rc rs tgt lv st μ) (kf : ¬ x ≤ 0 → J G b cc own maxL d rc rs q lv st μ) : J G b cc own maxL d rc rs pc lv (vi x :: st) μ := by
  subst hq
  intro p l e R s m args below meth c Qf H locs cells slots D Z ρ ρ0 B0 ls hG C hst
  exact lv_if_le C.1 C.2.1 hd ht (fun h => kt h _ _ _ _ _ _ _ _ _ _ _ _ _ _ _ _ _ _ _ _ _ hG C hst.tl) (fun h => kf h _ _ _ _ _ _ _ _ _ _ _ _ _ _ _ _ _ _ _ _ _ hG C hst.tl)
theorem J_icmp_le {x y : Int32} {off : Int} {tgt : Nat} (hd : decode cc pc = .ok (.if_icmp .le off, 3)) (ht : (pc : Int) + off = (tgt : Int)) (hq : pc + 3 = q) (kt : x ≤ y → J G b cc own maxL d rc rs tgt lv st μ) (kf : ¬ x ≤ y → J G b cc own maxL d rc rs q lv st μ) : J G b cc own maxL d rc rs pc lv (vi y :: vi x :: st) μ := by
  subst hq
  intro p l e R s m args below meth c Qf H locs cells slots D Z ρ ρ0 B0 ls hG C hst
  exact lv_icmp_le C.1 C.2.1 hd ht (fun h => kt h _ _ _ _ _ _ _ _ _ _ _ _ _ _ _ _ _ _ _ _ _ hG C hst.tl.tl) (fun h => kf h _ _ _ _ _ _ _ _ _ _ _ _ _ _ _ _ _ _ _ _ _ hG C hst.tl.tl)
theorem lc_eq {x y : Int64} : lg_cmp x y = 0 ↔ x = y := by
  unfold lg_cmp
  split
  · rename_i h; constructor
    · intro q; exact absurd q (by decide)
    · rintro rfl; exact absurd h Int64.lt_irrefl
  · split
    · rename_i h; simp [h]
    · rename_i h; constructor
      · intro q; exact absurd q (by decide)
      · intro q; exact absurd q h
theorem lc_lt {x y : Int64} : lg_cmp x y < 0 ↔ x < y := by
  unfold lg_cmp
  split
  · rename_i h; constructor
    · intro q; exact absurd q (by decide)
    · intro q; exact absurd (Int64.lt_trans h q) Int64.lt_irrefl
  · split
    · rename_i h; subst h; constructor
      · intro q; exact absurd q (by decide)
      · intro q; exact absurd q Int64.lt_irrefl
    · rename_i h1 h2; constructor
      · intro _
        have h3 := Int64.not_lt.mp h1
        exact Int64.lt_of_le_of_ne h3 h2
      · intro _; decide
theorem lc_gt {x y : Int64} : 0 < lg_cmp x y ↔ y < x := by
  unfold lg_cmp
  split
  · rename_i h; constructor
    · intro _; exact h
    · intro _; decide
  · split
    · rename_i h; subst h; constructor
      · intro q; exact absurd q (by decide)
      · intro q; exact absurd q Int64.lt_irrefl
    · rename_i h1 h2; constructor
      · intro q; exact absurd q (by decide)
      · intro q; exact absurd q h1
theorem lc_ge {x y : Int64} : 0 ≤ lg_cmp x y ↔ y ≤ x := by
  rw [← Int32.not_lt, ← Int64.not_lt, lc_lt]
theorem lc_le {x y : Int64} : lg_cmp x y ≤ 0 ↔ x ≤ y := by
  rw [← Int32.not_lt, ← Int64.not_lt, lc_gt]
theorem J_lif_eq {x y : Int64} {off : Int} {tgt : Nat} (hd1 : decode cc pc = .ok (.lcmp, 1)) (hd : decode cc (pc + 1) = .ok (.ifCond .eq off, 3)) (ht : ((pc + 1 : Nat) : Int) + off = (tgt : Int)) (hq : pc + 1 + 3 = q) (kt : x = y → J G b cc own maxL d rc rs tgt lv st μ) (kf : ¬ x = y → J G b cc own maxL d rc rs q lv st μ) : J G b cc own maxL d rc rs pc lv (vl y :: vl x :: st) μ := by
  subst hq
  intro p l e R s m args below meth c Qf H locs cells slots D Z ρ ρ0 B0 ls hG C hst
  exact W.lcmp C.1 C.2.1 hd1 (lv_if_eq C.1 C.2.1 hd ht (fun h => kt (lc_eq.mp h) _ _ _ _ _ _ _ _ _ _ _ _ _ _ _ _ _ _ _ _ _ hG C hst.tl.tl) (fun h => kf (fun z => h (lc_eq.mpr z)) _ _ _ _ _ _ _ _ _ _ _ _ _ _ _ _ _ _ _ _ _ hG C hst.tl.tl))
theorem J_lif_ne {x y : Int64} {off : Int} {tgt : Nat} (hd1 : decode cc pc = .ok (.lcmp, 1)) (hd : decode cc (pc + 1) = .ok (.ifCond .ne off, 3)) (ht : ((pc + 1 : Nat) : Int) + off = (tgt : Int)) (hq : pc + 1 + 3 = q) (kt : ¬ x = y → J G b cc own maxL d rc rs tgt lv st μ) (kf : x = y → J G b cc own maxL d rc rs q lv st μ) : J G b cc own maxL d rc rs pc lv (vl y :: vl x :: st) μ := by
  subst hq
  intro p l e R s m args below meth c Qf H locs cells slots D Z ρ ρ0 B0 ls hG C hst
  exact W.lcmp C.1 C.2.1 hd1 (lv_if_ne C.1 C.2.1 hd ht (fun h => kt (fun z => h (lc_eq.mpr z)) _ _ _ _ _ _ _ _ _ _ _ _ _ _ _ _ _ _ _ _ _ hG C hst.tl.tl) (fun h => kf (lc_eq.mp h) _ _ _ _ _ _ _ _ _ _ _ _ _ _ _ _ _ _ _ _ _ hG C hst.tl.tl))
theorem J_lif_lt {x y : Int64} {off : Int} {tgt : Nat} (hd1 : decode cc pc = .ok (.lcmp, 1)) (hd : decode cc (pc + 1) = .ok (.ifCond .lt off, 3)) (ht : ((pc + 1 : Nat) : Int) + off = (tgt : Int)) (hq : pc + 1 + 3 = q) (kt : x < y → J G b cc own maxL d rc rs tgt lv st μ) (kf : ¬ x < y → J G b cc own maxL d rc rs q lv st μ) : J G b cc own maxL d rc rs pc lv (vl y :: vl x :: st) μ := by
  subst hq
  intro p l e R s m args below meth c Qf H locs cells slots D Z ρ ρ0 B0 ls hG C hst
  exact W.lcmp C.1 C.2.1 hd1 (lv_if_lt C.1 C.2.1 hd ht (fun h => kt (lc_lt.mp h) _ _ _ _ _ _ _ _ _ _ _ _ _ _ _ _ _ _ _ _ _ hG C hst.tl.tl) (fun h => kf (fun z => h (lc_lt.mpr z)) _ _ _ _ _ _ _ _ _ _ _ _ _ _ _ _ _ _ _ _ _ hG C hst.tl.tl))
theorem J_lif_ge {x y : Int64} {off : Int} {tgt : Nat} (hd1 : decode cc pc = .ok (.lcmp, 1)) (hd : decode cc (pc + 1) = .ok (.ifCond .ge off, 3)) (ht : ((pc + 1 : Nat) : Int) + off = (tgt : Int)) (hq : pc + 1 + 3 = q) (kt : y ≤ x → J G b cc own maxL d rc rs tgt lv st μ) (kf : ¬ y ≤ x → J G b cc own maxL d rc rs q lv st μ) : J G b cc own maxL d rc rs pc lv (vl y :: vl x :: st) μ := by
  subst hq
  intro p l e R s m args below meth c Qf H locs cells slots D Z ρ ρ0 B0 ls hG C hst
  exact W.lcmp C.1 C.2.1 hd1 (lv_if_ge C.1 C.2.1 hd ht (fun h => kt (lc_ge.mp h) _ _ _ _ _ _ _ _ _ _ _ _ _ _ _ _ _ _ _ _ _ hG C hst.tl.tl) (fun h => kf (fun z => h (lc_ge.mpr z)) _ _ _ _ _ _ _ _ _ _ _ _ _ _ _ _ _ _ _ _ _ hG C hst.tl.tl))
theorem J_lif_gt {x y : Int64} {off : Int} {tgt : Nat} (hd1 : decode cc pc = .ok (.lcmp, 1)) (hd : decode cc (pc + 1) = .ok (.ifCond .gt off, 3)) (ht : ((pc + 1 : Nat) : Int) + off = (tgt : Int)) (hq : pc + 1 + 3 = q) (kt : y < x → J G b cc own maxL d rc rs tgt lv st μ) (kf : ¬ y < x → J G b cc own maxL d rc rs q lv st μ) : J G b cc own maxL d rc rs pc lv (vl y :: vl x :: st) μ := by
  subst hq
  intro p l e R s m args below meth c Qf H locs cells slots D Z ρ ρ0 B0 ls hG C hst
  exact W.lcmp C.1 C.2.1 hd1 (lv_if_gt C.1 C.2.1 hd ht (fun h => kt (lc_gt.mp h) _ _ _ _ _ _ _ _ _ _ _ _ _ _ _ _ _ _ _ _ _ hG C hst.tl.tl) (fun h => kf (fun z => h (lc_gt.mpr z)) _ _ _ _ _ _ _ _ _ _ _ _ _ _ _ _ _ _ _ _ _ hG C hst.tl.tl))
theorem J_lif_le {x y : Int64} {off : Int} {tgt : Nat} (hd1 : decode cc pc = .ok (.lcmp, 1)) (hd : decode cc (pc + 1) = .ok (.ifCond .le off, 3)) (ht : ((pc + 1 : Nat) : Int) + off = (tgt : Int)) (hq : pc + 1 + 3 = q) (kt : x ≤ y → J G b cc own maxL d rc rs tgt lv st μ) (kf : ¬ x ≤ y → J G b cc own maxL d rc rs q lv st μ) : J G b cc own maxL d rc rs pc lv (vl y :: vl x :: st) μ := by
  subst hq
  intro p l e R s m args below meth c Qf H locs cells slots D Z ρ ρ0 B0 ls hG C hst
  exact W.lcmp C.1 C.2.1 hd1 (lv_if_le C.1 C.2.1 hd ht (fun h => kt (lc_le.mp h) _ _ _ _ _ _ _ _ _ _ _ _ _ _ _ _ _ _ _ _ _ hG C hst.tl.tl) (fun h => kf (fun z => h (lc_le.mpr z)) _ _ _ _ _ _ _ _ _ _ _ _ _ _ _ _ _ _ _ _ _ hG C hst.tl.tl))
theorem J_goto {off : Int} (hd : decode cc pc = .ok (.goto off, 3)) (ht : (pc : Int) + off = (q : Int)) (k : J G b cc own maxL d rc rs q lv st μ) : J G b cc own maxL d rc rs pc lv st μ := by
  intro p l e R s m args below meth c Qf H locs cells slots D Z ρ ρ0 B0 ls hG C hst
  exact lv_goto C.1 C.2.1 hd ht (k _ _ _ _ _ _ _ _ _ _ _ _ _ _ _ _ _ _ _ _ _ hG C hst)
theorem J_ifnull {o : Option (Nat × Nat)} {off : Int} {tgt : Nat} (hd : decode cc pc = .ok (.ifnull off, 3)) (ht : (pc : Int) + off = (tgt : Int)) (hq : pc + 3 = q) (kt : o = none → J G b cc own maxL d rc rs tgt lv st μ) (kf : ∀ z, o = some z → J G b cc own maxL d rc rs q lv st μ) : J G b cc own maxL d rc rs pc lv ((Sum.inr (Sum.inr o) : AV) :: st) μ := by
  subst hq
  intro p l e R s m args below meth c Qf H locs cells slots D Z ρ ρ0 B0 ls hG C hst
  cases o with
  | none => exact lv_ifnullN C.1 C.2.1 hd ht (kt rfl _ _ _ _ _ _ _ _ _ _ _ _ _ _ _ _ _ _ _ _ _ hG C hst.tl)
  | some z => exact lv_ifnull C.1 C.2.1 hd (kf z rfl _ _ _ _ _ _ _ _ _ _ _ _ _ _ _ _ _ _ _ _ _ hG C hst.tl)
theorem J_ifnonnull {o : Option (Nat × Nat)} {off : Int} {tgt : Nat} (hd : decode cc pc = .ok (.ifnonnull off, 3)) (ht : (pc : Int) + off = (tgt : Int)) (hq : pc + 3 = q) (kt : ∀ z, o = some z → J G b cc own maxL d rc rs tgt lv st μ) (kf : o = none → J G b cc own maxL d rc rs q lv st μ) : J G b cc own maxL d rc rs pc lv ((Sum.inr (Sum.inr o) : AV) :: st) μ := by
  subst hq
  intro p l e R s m args below meth c Qf H locs cells slots D Z ρ ρ0 B0 ls hG C hst
  cases o with
  | none => exact lv_ifnonnullN C.1 C.2.1 hd (kf rfl _ _ _ _ _ _ _ _ _ _ _ _ _ _ _ _ _ _ _ _ _ hG C hst.tl)
  | some z => exact lv_ifnonnull C.1 C.2.1 hd ht (kt z rfl _ _ _ _ _ _ _ _ _ _ _ _ _ _ _ _ _ _ _ _ _ hG C hst.tl)
theorem J_swOut {dflt lo hi : Int} {offs : Array Int} {len : Nat} {x : Int32} {tgt : Nat} (hd : decode cc pc = .ok (.tableswitch dflt lo hi offs, len)) (h : x.toInt < lo ∨ hi < x.toInt) (ht : (pc : Int) + dflt = (tgt : Int)) (k : J G b cc own maxL d rc rs tgt lv st μ) : J G b cc own maxL d rc rs pc lv (vi x :: st) μ := by
  intro p l e R s m args below meth c Qf H locs cells slots D Z ρ ρ0 B0 ls hG C hst
  exact lv_tableOut C.1 C.2.1 hd h ht (k _ _ _ _ _ _ _ _ _ _ _ _ _ _ _ _ _ _ _ _ _ hG C hst.tl)
theorem J_swIn {dflt lo hi : Int} {offs : Array Int} {len : Nat} {x : Int32} {off : Int} {tgt : Nat} (hd : decode cc pc = .ok (.tableswitch dflt lo hi offs, len)) (h1 : ¬ x.toInt < lo) (h2 : ¬ hi < x.toInt) (ho : offs[(x.toInt - lo).toNat]? = some off) (ht : (pc : Int) + off = (tgt : Int)) (k : J G b cc own maxL d rc rs tgt lv st μ) : J G b cc own maxL d rc rs pc lv (vi x :: st) μ := by
  intro p l e R s m args below meth c Qf H locs cells slots D Z ρ ρ0 B0 ls hG C hst
  exact lv_tableIn C.1 C.2.1 hd h1 h2 ho ht (k _ _ _ _ _ _ _ _ _ _ _ _ _ _ _ _ _ _ _ _ _ hG C hst.tl)
theorem J_swL {dflt : Int} {ps : Array (Int × Int)} {len : Nat} {x : Int32} {off : Int} {tgt : Nat} (hd : decode cc pc = .ok (.lookupswitch dflt ps, len)) (hp : (ps.toList.zip (ps.toList.drop 1)).all (fun (a, next) => a.1 < next.1) = true) (ho : Op.lookupswitch.offset ps.toList dflt x.toInt = off) (ht : (pc : Int) + off = (tgt : Int)) (k : J G b cc own maxL d rc rs tgt lv st μ) : J G b cc own maxL d rc rs pc lv (vi x :: st) μ := by
  intro p l e R s m args below meth c Qf H locs cells slots D Z ρ ρ0 B0 ls hG C hst
  exact lv_lookup C.1 C.2.1 hd hp ho ht (k _ _ _ _ _ _ _ _ _ _ _ _ _ _ _ _ _ _ _ _ _ hG C hst.tl)
end JR
end
section
section JMM
variable {G : GT} {b : Bool} {cc : ByteArray} {own : String} {maxL d rc rs pc q : Nat} {lv : List (Nat × AV)} {st : List AV} {μ : Mem}
theorem fv_i {ρ : MA} {k l j : Nat} (h : (FT k j).1 = 0 ∨ (FT k j).1 = 1) : fv ρ μ k l j = .int (gI μ k l j) := by
  unfold fv
  rcases h with h | h <;> (rw [h]; rfl)
theorem fv_l {ρ : MA} {k l j : Nat} (h : (FT k j).1 = 2) : fv ρ μ k l j = .long (gL μ k l j) := by
  unfold fv
  rw [h]; rfl
theorem fv_r {ρ : MA} {k l j r : Nat} (h : FT k j = (3, r)) : fv ρ μ k l j = ren ρ (vo r (gR μ k l j)) := by
  unfold fv
  rw [h]; rfl
theorem fv_same {μ' : Mem} {ρ : MA} {k l : Nat} (hI : gI μ' k l = gI μ k l) (hL : gL μ' k l = gL μ k l) (hR : gR μ' k l = gR μ k l) : fv ρ μ' k l = fv ρ μ k l := by
  funext j
  unfold fv
  rw [hI, hL, hR]
theorem fvs_same {μ' : Mem} {ρ : MA} {k l : Nat} (hI : gI μ' k l = gI μ k l) (hL : gL μ' k l = gL μ k l) (hR : gR μ' k l = gR μ k l) : fvs ρ μ' k l = fvs ρ μ k l := by
  unfold fvs
  rw [fv_same hI hL hR]
theorem fvs_get {ρ : MA} {k l j : Nat} (hj : j < NF k) : (fvs ρ μ k l)[j]? = some (fv ρ μ k l j) := by
  simp [fvs, hj]
theorem fvs_len {ρ : MA} {k l : Nat} : (fvs ρ μ k l).length = NF k := by simp [fvs]
theorem fvs_set {μ' : Mem} {ρ : MA} {k l j : Nat} {v : Value} (hj : j < NF k) (hv : fv ρ μ' k l j = v) (ho : ∀ i, i ≠ j → fv ρ μ' k l i = fv ρ μ k l i) : (fvs ρ μ k l).set j v = fvs ρ μ' k l := by
  apply List.ext_getElem?
  intro i
  by_cases hi : i = j
  · subst hi
    rw [List.getElem?_set_self (by rw [fvs_len]; exact hj), fvs_get hj, hv]
  · rw [List.getElem?_set_ne (Ne.symm hi)]
    simp only [fvs, List.getElem?_map]
    cases h : (List.range (NF k))[i]? with
    | none => rfl
    | some a =>
      have ha : a = i := by
        have h2 := List.getElem?_eq_some_iff.mp h
        obtain ⟨h3, h4⟩ := h2
        simpa using h4.symm
      subst ha
      simp [ho a hi]
theorem CellOK.same {tys : List (ClassId × FieldType)} {μ' : Mem} {ρ : MA} {k l : Nat} {e : va_E} (h : CellOK tys ρ μ k l e) (hI : gI μ' k l = gI μ k l) (hL : gL μ' k l = gL μ k l) (hR : gR μ' k l = gR μ k l) : CellOK tys ρ μ' k l e := by
  unfold CellOK at h ⊢
  rw [fvs_same hI hL hR, hI, hL, hR]
  exact h
theorem Rel.at {D : va_G} {Z : Nat} {s : State} {H : Heap} {ρ : MA} {k l : Nat} (h : Rel D Z s H ρ μ) (hF : gF μ k l = true) : ∃ (tys : List (ClassId × FieldType)) (L : List Nat) (f : Nat → va_E) (q0 : Nat),
    va_K D classes tys s ∧ va_P D classes (va_pl L f) H ∧ va_D (fun q => Z ≤ q) (va_pl L f) ∧ (∀ k l, gF μ k l = true → ρ k l ∈ L ∧ CellOK tys ρ μ k l (f (ρ k l))) ∧
    (∀ k l k' l', gF μ k l = true → gF μ k' l' = true → ρ k l = ρ k' l' → k = k' ∧ l = l') ∧ Clo μ ∧ ρ k l ∈ L ∧ (va_pl L f)[q0]? = some (ρ k l, f (ρ k l)) ∧ CellOK tys ρ μ k l (f (ρ k l)) := by
  obtain ⟨tys, L, f, hK, hP, hD, hc, hi, hcl⟩ := h
  obtain ⟨h1, h2⟩ := hc k l hF
  obtain ⟨q0, hq0⟩ := va_pl_get (X := []) (f := f) h1
  exact ⟨tys, L, f, q0, hK, hP, hD, hc, hi, hcl, h1, hq0, h2⟩
theorem Rel.upd {D : va_G} {Z : Nat} {s : State} {H1 : Heap} {ρ : MA} {k l : Nat} {tys : List (ClassId × FieldType)} {L : List Nat} {f : Nat → va_E} {e : va_E} {μ' : Mem} (hK : va_K D classes tys s) (hP : va_P D classes (va_pl L (va_up f (ρ k l) e)) H1) (hD : va_D (fun q => Z ≤ q) (va_pl L (va_up f (ρ k l) e)))
    (hc : ∀ k l, gF μ k l = true → ρ k l ∈ L ∧ CellOK tys ρ μ k l (f (ρ k l))) (hi : ∀ k l k' l', gF μ k l = true → gF μ k' l' = true → ρ k l = ρ k' l' → k = k' ∧ l = l') (hF : gF μ k l = true) (hF' : ∀ a c, gF μ' a c = gF μ a c)
    (hs : ∀ a c, ¬ (a = k ∧ c = l) → gI μ' a c = gI μ a c ∧ gL μ' a c = gL μ a c ∧ gR μ' a c = gR μ a c) (hok : CellOK tys ρ μ' k l e) (hclo : Clo μ') : Rel D Z s H1 ρ μ' := by
  refine ⟨tys, L, va_up f (ρ k l) e, hK, hP, hD, fun a c hac => ?_, fun a c a' c' h1 h2 => hi a c a' c' (by rw [← hF']; exact h1) (by rw [← hF']; exact h2), hclo⟩
  rw [hF'] at hac
  obtain ⟨h1, h2⟩ := hc a c hac
  refine ⟨h1, ?_⟩
  by_cases h : a = k ∧ c = l
  · obtain ⟨rfl, rfl⟩ := h
    rw [va_up_self]
    exact hok
  · rw [va_up_ne _ _ (fun q => h (hi a c k l hac hF q))]
    obtain ⟨s1, s2, s3⟩ := hs a c h
    exact h2.same s1 s2 s3
theorem Cx.mem {p : Program} {R : Room} {s : State} {m : MethodId} {args : Array Value} {c : Code} {H H1 : Heap} {locs locs1 : List Loc} {cells slots : Nat} {D : va_G} {Z : Nat} {ρ ρ0 : MA} {B0 : Nat → Nat → Bool} {ls : Array Slot} {μ' : Mem}
    (C : Cx b cc own maxL d rc rs p R s m args c H locs cells slots D Z ρ ρ0 B0 ls lv μ) (hR : Rel D Z s H1 ρ μ') (hS : va_S (fun q => Z ≤ q) s.heap H1 locs1) (hF : ∀ a c, gF μ' a c = gF μ a c) (hL : b = true → LinkOK μ → LinkOK μ') : Cx b cc own maxL d rc rs p R s m args c H1 locs1 cells slots D Z ρ ρ0 B0 ls lv μ' := by
  obtain ⟨a1, a2, a3, a4, a5, a6, a7, a8, a9, a10, a11, a12, a13, a14, a15, a16, a17, a18⟩ := C
  refine ⟨a1, a2, a3, a4, a5, a6, a7, hR, hS, a10, fun k l h => ?_, a12, fun h => hL h (a13 h), fun z hz => ?_, a15, a16, a17, a18⟩
  · rw [hF]; exact a11 k l h
  · have h := a14 z hz
    unfold LV at h ⊢
    split <;> simp_all
theorem LVs.mem {μ' : Mem} (h : LVs μ st) (hF : ∀ a c, gF μ' a c = gF μ a c) : LVs μ' st := fun v hv => by
  have h := h v hv
  unfold LV at h ⊢
  split <;> simp_all
theorem Cx.rel {p : Program} {R : Room} {s : State} {m : MethodId} {args : Array Value} {c : Code} {H : Heap} {locs : List Loc} {cells slots : Nat} {D : va_G} {Z : Nat} {ρ ρ0 : MA} {B0 : Nat → Nat → Bool} {ls : Array Slot} (C : Cx b cc own maxL d rc rs p R s m args c H locs cells slots D Z ρ ρ0 B0 ls lv μ) : Rel D Z s H ρ μ := C.2.2.2.2.2.2.2.1
theorem Cx.hS {p : Program} {R : Room} {s : State} {m : MethodId} {args : Array Value} {c : Code} {H : Heap} {locs : List Loc} {cells slots : Nat} {D : va_G} {Z : Nat} {ρ ρ0 : MA} {B0 : Nat → Nat → Bool} {ls : Array Slot} (C : Cx b cc own maxL d rc rs p R s m args c H locs cells slots D Z ρ ρ0 B0 ls lv μ) : va_S (fun q => Z ≤ q) s.heap H locs := C.2.2.2.2.2.2.2.2.1
theorem Cx.link {p : Program} {R : Room} {s : State} {m : MethodId} {args : Array Value} {c : Code} {H : Heap} {locs : List Loc} {cells slots : Nat} {D : va_G} {Z : Nat} {ρ ρ0 : MA} {B0 : Nat → Nat → Bool} {ls : Array Slot} (C : Cx true cc own maxL d rc rs p R s m args c H locs cells slots D Z ρ ρ0 B0 ls lv μ) : LinkOK μ := C.2.2.2.2.2.2.2.2.2.2.2.2.1 rfl
theorem LV.live {k l : Nat} (h : LV μ (vr k l)) (hk : k < 900) : gF μ k l = true := by
  rcases h with h | h
  · exact h
  · exact absurd h.1 (Nat.not_le.mpr hk)
/-- a class, as the tables have it -/
def CD (k : Nat) (C : String) (T : u_T) (N : Nat) : Prop := k < 13 ∧ classes[k]? = some (C, T, N) ∧ NF k = N ∧ (∀ w ∈ u_ws C T N, w ∈ gw) ∧
  (∃ ty0 : Nat → FieldType, ∀ i, i < N → parseFieldDescriptor (T i).2.2.1 = some (ty0 i)) ∧ (∀ a, a < N → ∀ c, c < N → a ≠ c → (T a).2.1 ≠ (T c).2.1)
theorem J_getI {k l j i N : Nat} {C0 : String} {T : u_T} (hc : CD k C0 T N) (hj : j < N) (ht : (FT k j).1 = 0 ∨ (FT k j).1 = 1) (hg : Cond.fieldLink own i C0 (T j).2.1 (T j).2.2.1 ∈ gw) (hs : (T j).1 = C0) (hd : decode cc pc = .ok (.getfield i, 3)) (hq : pc + 3 = q) (k0 : J G b cc own maxL d rc rs q lv (vi (gI μ k l j) :: st) μ) : J G b cc own maxL d rc rs pc lv (vr k l :: st) μ := by
  subst hq
  intro p l0 e R s m args below meth c Qf H locs cells slots D Z ρ ρ0 B0 ls hG C hst
  obtain ⟨h13, hcl, hN, hin, -, -⟩ := hc
  have hF := (hst.hd).live (Nat.lt_trans h13 (by decide))
  obtain ⟨tys, L, f, q0, hK, hP, hD, hce, hinj, hclo, hm, hq0, hok⟩ := C.rel.at hF
  have he : (va_pl L f)[q0]? = some (ρ k l, .inr (k, fvs ρ μ k l)) := by rw [hq0, hok.1 h13]
  subst hs
  refine va_get (v := ren ρ (vi (gI μ k l j))) C.1 C.2.1 C.hts hin C.hown hK hP q0 he hcl j hj (C.hts _ hg) (fun _ h => h) (by rw [fvs_get (by rw [hN]; exact hj), fv_i ht]; rfl) hd ?_
  exact k0 _ _ _ _ _ _ _ _ _ _ _ _ _ _ _ _ _ _ _ _ _ hG C hst.tl.i
theorem J_getL {k l j i N : Nat} {C0 : String} {T : u_T} (hc : CD k C0 T N) (hj : j < N) (ht : (FT k j).1 = 2) (hg : Cond.fieldLink own i C0 (T j).2.1 (T j).2.2.1 ∈ gw) (hs : (T j).1 = C0) (hd : decode cc pc = .ok (.getfield i, 3)) (hq : pc + 3 = q) (k0 : J G b cc own maxL d rc rs q lv (vl (gL μ k l j) :: st) μ) : J G b cc own maxL d rc rs pc lv (vr k l :: st) μ := by
  subst hq
  intro p l0 e R s m args below meth c Qf H locs cells slots D Z ρ ρ0 B0 ls hG C hst
  obtain ⟨h13, hcl, hN, hin, -, -⟩ := hc
  have hF := (hst.hd).live (Nat.lt_trans h13 (by decide))
  obtain ⟨tys, L, f, q0, hK, hP, hD, hce, hinj, hclo, hm, hq0, hok⟩ := C.rel.at hF
  have he : (va_pl L f)[q0]? = some (ρ k l, .inr (k, fvs ρ μ k l)) := by rw [hq0, hok.1 h13]
  subst hs
  refine va_get (v := ren ρ (vl (gL μ k l j))) C.1 C.2.1 C.hts hin C.hown hK hP q0 he hcl j hj (C.hts _ hg) (fun _ h => h) (by rw [fvs_get (by rw [hN]; exact hj), fv_l ht]; rfl) hd ?_
  exact k0 _ _ _ _ _ _ _ _ _ _ _ _ _ _ _ _ _ _ _ _ _ hG C hst.tl.l
theorem LV_vo {k l j r : Nat} (hclo : Clo μ) (hF : gF μ k l = true) (h13 : k < 13) (hj : j < NF k) (ht : FT k j = (3, r)) : LV μ (vo r (gR μ k l j)) := by
  cases h : gR μ k l j with
  | none => trivial
  | some i =>
    have h2 := (hclo k l hF).1 h13 j i hj (by rw [ht]) h
    rw [ht] at h2
    exact Or.inl h2
theorem J_getR {k l j i N : Nat} {C0 : String} {T : u_T} (hc : CD k C0 T N) (hj : j < N) {r : Nat} (ht : FT k j = (3, r)) (hg : Cond.fieldLink own i C0 (T j).2.1 (T j).2.2.1 ∈ gw) (hs : (T j).1 = C0) (hd : decode cc pc = .ok (.getfield i, 3)) (hq : pc + 3 = q) (k0 : J G b cc own maxL d rc rs q lv (vo r (gR μ k l j) :: st) μ) : J G b cc own maxL d rc rs pc lv (vr k l :: st) μ := by
  subst hq
  intro p l0 e R s m args below meth c Qf H locs cells slots D Z ρ ρ0 B0 ls hG C hst
  obtain ⟨h13, hcl, hN, hin, -, -⟩ := hc
  have hF := (hst.hd).live (Nat.lt_trans h13 (by decide))
  obtain ⟨tys, L, f, q0, hK, hP, hD, hce, hinj, hclo, hm, hq0, hok⟩ := C.rel.at hF
  have he : (va_pl L f)[q0]? = some (ρ k l, .inr (k, fvs ρ μ k l)) := by rw [hq0, hok.1 h13]
  subst hs
  refine va_get (v := ren ρ (vo r (gR μ k l j))) C.1 C.2.1 C.hts hin C.hown hK hP q0 he hcl j hj (C.hts _ hg) (fun _ h => h) (by rw [fvs_get (by rw [hN]; exact hj), fv_r ht]) hd ?_
  exact k0 _ _ _ _ _ _ _ _ _ _ _ _ _ _ _ _ _ _ _ _ _ hG C (LVs.cs (LV_vo hclo hF h13 (by rw [hN]; exact hj) ht) hst.tl)
theorem J_getF {k l j i N : Nat} {C0 : String} {T : u_T} (hc : CD k C0 T N) (hj : j < N) {r : Nat} (ht : FT k j = (3, r)) (hf : FIN k j = true) (hg : Cond.fieldLink own i C0 (T j).2.1 (T j).2.2.1 ∈ gw) (hs : (T j).1 = C0) (hd : decode cc pc = .ok (.getfield i, 3)) (hq : pc + 3 = q) (k0 : J G true cc own maxL d rc rs q lv (vr r l :: st) μ) : J G true cc own maxL d rc rs pc lv (vr k l :: st) μ := by
  subst hq
  intro p l0 e R s m args below meth c Qf H locs cells slots D Z ρ ρ0 B0 ls hG C hst
  obtain ⟨h13, hcl, hN, hin, -, -⟩ := hc
  have hF := (hst.hd).live (Nat.lt_trans h13 (by decide))
  obtain ⟨tys, L, f, q0, hK, hP, hD, hce, hinj, hclo, hm, hq0, hok⟩ := C.rel.at hF
  have he : (va_pl L f)[q0]? = some (ρ k l, .inr (k, fvs ρ μ k l)) := by rw [hq0, hok.1 h13]
  subst hs
  refine va_get (v := ren ρ (vr r l)) C.1 C.2.1 C.hts hin C.hown hK hP q0 he hcl j hj (C.hts _ hg) (fun _ h => h) (by rw [fvs_get (by rw [hN]; exact hj), fv_r ht, C.link k l hF h13 j hf]; rfl) hd ?_
  exact k0 _ _ _ _ _ _ _ _ _ _ _ _ _ _ _ _ _ _ _ _ _ hG C (LVs.cs (by have h9 := LV_vo hclo hF h13 (by rw [hN]; exact hj) ht; rw [C.link k l hF h13 j hf] at h9; exact h9) hst.tl)
theorem CellOK.obj {tys : List (ClassId × FieldType)} {ρ : MA} {k l : Nat} (h13 : k < 13) : CellOK tys ρ μ k l (.inr (k, fvs ρ μ k l)) := by
  have hr : (RK k).1 = 0 := by
    rcases (show k = 0 ∨ k = 1 ∨ k = 2 ∨ k = 3 ∨ k = 4 ∨ k = 5 ∨ k = 6 ∨ k = 7 ∨ k = 8 ∨ k = 9 ∨ k = 10 ∨ k = 11 ∨ k = 12 by omega) with rfl | rfl | rfl | rfl | rfl | rfl | rfl | rfl | rfl | rfl | rfl | rfl | rfl <;> rfl
  refine ⟨fun _ => rfl, fun h => ?_, fun h => ?_, fun h => ?_, fun h => ?_, fun h => ?_⟩ <;> (rw [hr] at h; cases h)
theorem RK_obj {k : Nat} (h13 : k < 13) : (RK k).1 = 0 := by
  rcases (show k = 0 ∨ k = 1 ∨ k = 2 ∨ k = 3 ∨ k = 4 ∨ k = 5 ∨ k = 6 ∨ k = 7 ∨ k = 8 ∨ k = 9 ∨ k = 10 ∨ k = 11 ∨ k = 12 by omega) with rfl | rfl | rfl | rfl | rfl | rfl | rfl | rfl | rfl | rfl | rfl | rfl | rfl <;> rfl
theorem fv_sI_ne {ρ : MA} {k l j i : Nat} {x : Int32} (h : i ≠ j) : fv ρ (sI μ k l j x) k l i = fv ρ μ k l i := by
  unfold fv
  rw [gI_sI, if_neg (fun w => h w.2.2)]
  rfl
theorem fv_sL_ne {ρ : MA} {k l j i : Nat} {x : Int64} (h : i ≠ j) : fv ρ (sL μ k l j x) k l i = fv ρ μ k l i := by
  unfold fv
  rw [gL_sL, if_neg (fun w => h w.2.2)]
  rfl
theorem fv_sR_ne {ρ : MA} {k l j i : Nat} {x : Option Nat} (h : i ≠ j) : fv ρ (sR μ k l j x) k l i = fv ρ μ k l i := by
  unfold fv
  rw [gR_sR, if_neg (fun w => h w.2.2)]
  rfl
theorem gI_self {k l j : Nat} {x : Int32} : gI (sI μ k l j x) k l j = x := by rw [gI_sI, if_pos ⟨rfl, rfl, rfl⟩]
theorem gL_self {k l j : Nat} {x : Int64} : gL (sL μ k l j x) k l j = x := by rw [gL_sL, if_pos ⟨rfl, rfl, rfl⟩]
theorem gR_self {k l j : Nat} {x : Option Nat} : gR (sR μ k l j x) k l j = x := by rw [gR_sR, if_pos ⟨rfl, rfl, rfl⟩]
theorem Clo.sR {k l j : Nat} {x : Option Nat} (h : Clo μ) (h13 : k < 13) {r : Nat} (ht : FT k j = (3, r)) (hx : LV μ (vo r x)) (hr : r < 900) : Clo (sR μ k l j x) := by
  intro a c hac
  obtain ⟨h1, h2, h3⟩ := h a c hac
  refine ⟨fun ha i z hi hf hz => ?_, fun hk i z hz => ?_, h3⟩
  · rw [gR_sR] at hz
    by_cases w : a = k ∧ c = l ∧ i = j
    · rw [if_pos w] at hz
      obtain ⟨rfl, rfl, rfl⟩ := w
      rw [ht]
      rw [hz] at hx
      rcases hx with hx | hx
      · exact hx
      · exact absurd hx.1 (Nat.not_le.mpr hr)
    · rw [if_neg w] at hz
      exact h1 ha i z hi hf hz
  · rw [gR_sR] at hz
    by_cases w : a = k ∧ c = l ∧ i = j
    · rw [w.1, RK_obj h13] at hk
      cases hk
    · rw [if_neg w] at hz
      exact h2 hk i z hz
theorem LinkOK.sR {k l j : Nat} {x : Option Nat} (h : LinkOK μ) (hf : FIN k j = false) : LinkOK (sR μ k l j x) := by
  intro a c hac ha i hi
  rw [gR_sR]
  by_cases w : a = k ∧ c = l ∧ i = j
  · obtain ⟨rfl, rfl, rfl⟩ := w
    rw [hf] at hi; cases hi
  · rw [if_neg w]
    exact h a c hac ha i hi
theorem J_putI {k l j i N : Nat} {C0 : String} {T : u_T} (hc : CD k C0 T N) (hj : j < N) {x : Int32} (ht : (FT k j).1 = 0) (hds : parseFieldDescriptor (T j).2.2.1 = some .int) (hfin : (T j).2.2.2 = false) (hg : Cond.fieldLink own i C0 (T j).2.1 (T j).2.2.1 ∈ gw) (hs : (T j).1 = C0) (hd : decode cc pc = .ok (.putfield i, 3)) (hq : pc + 3 = q) (k0 : J G b cc own maxL d rc rs q lv st (sI μ k l j x)) : J G b cc own maxL d rc rs pc lv (vi x :: vr k l :: st) μ := by
  subst hq
  intro p l0 e R s m args below meth c Qf H locs cells slots D Z ρ ρ0 B0 ls hG C hst
  obtain ⟨h13, hcl, hN, hin, ⟨ty0, hty⟩, hnm⟩ := hc
  have hF := (hst.tl.hd).live (Nat.lt_trans h13 (by decide))
  obtain ⟨tys, L, f, q0, hK, hP, hD, hce, hinj, hclo, hm, hq0, hok⟩ := C.rel.at hF
  have he : (va_pl L f)[q0]? = some (ρ k l, .inr (k, fvs ρ μ k l)) := by rw [hq0, hok.1 h13]
  have hjn : j < NF k := by rw [hN]; exact hj
  have hset : (fvs ρ μ k l).set j (ren ρ (vi x)) = fvs ρ ((sI μ k l j x)) k l := fvs_set hjn (by rw [fv_i (Or.inl ht), gI_self]; rfl) (fun i h => fv_sI_ne h)
  subst hs
  refine va_put (v := ren ρ (vi x)) C.1 C.2.1 C.hts hin ty0 hty hnm C.hown hK hP hD C.hS q0 he hcl j hj (C.hts _ hg) (fun _ h => h) hfin hds rfl rfl (by rw [fvs_len]; exact hjn) hd (fun H1 locs1 hP1 hD1 hS1 => ?_)
  have hpl := va_pl_set (X := []) (e := .inr (k, (fvs ρ μ k l).set j (ren ρ (vi x)))) hD hm hq0
  rw [List.nil_append, List.nil_append] at hpl
  rw [hpl, hset] at hP1 hD1
  refine k0 _ _ _ _ _ _ _ _ _ _ _ _ _ _ _ _ _ _ _ _ _ hG (C.mem (μ' := (sI μ k l j x)) (Rel.upd hK hP1 hD1 hce hinj hF (fun _ _ => rfl) (fun a c h => ⟨?_, ?_, ?_⟩) ?_ ?_) hS1 (fun _ _ => rfl) (fun _ h => h)) (LVs.mem hst.tl.tl (fun _ _ => rfl))
  · first | rfl | (funext z; show (if a = k ∧ c = l ∧ z = j then _ else _) = _; rw [if_neg (fun w => h ⟨w.1, w.2.1⟩)]; rfl)
  · first | rfl | (funext z; show (if a = k ∧ c = l ∧ z = j then _ else _) = _; rw [if_neg (fun w => h ⟨w.1, w.2.1⟩)]; rfl)
  · first | rfl | (funext z; show (if a = k ∧ c = l ∧ z = j then _ else _) = _; rw [if_neg (fun w => h ⟨w.1, w.2.1⟩)]; rfl)
  · exact CellOK.obj h13
  · exact hclo
theorem J_putZ {k l j i N : Nat} {C0 : String} {T : u_T} (hc : CD k C0 T N) (hj : j < N) {x : Int32} (ht : (FT k j).1 = 1) (hds : parseFieldDescriptor (T j).2.2.1 = some .boolean) (hz : x = 0 ∨ x = 1) (hfin : (T j).2.2.2 = false) (hg : Cond.fieldLink own i C0 (T j).2.1 (T j).2.2.1 ∈ gw) (hs : (T j).1 = C0) (hd : decode cc pc = .ok (.putfield i, 3)) (hq : pc + 3 = q) (k0 : J G b cc own maxL d rc rs q lv st (sI μ k l j x)) : J G b cc own maxL d rc rs pc lv (vi x :: vr k l :: st) μ := by
  subst hq
  intro p l0 e R s m args below meth c Qf H locs cells slots D Z ρ ρ0 B0 ls hG C hst
  obtain ⟨h13, hcl, hN, hin, ⟨ty0, hty⟩, hnm⟩ := hc
  have hF := (hst.tl.hd).live (Nat.lt_trans h13 (by decide))
  obtain ⟨tys, L, f, q0, hK, hP, hD, hce, hinj, hclo, hm, hq0, hok⟩ := C.rel.at hF
  have he : (va_pl L f)[q0]? = some (ρ k l, .inr (k, fvs ρ μ k l)) := by rw [hq0, hok.1 h13]
  have hjn : j < NF k := by rw [hN]; exact hj
  have hset : (fvs ρ μ k l).set j (ren ρ (vi x)) = fvs ρ ((sI μ k l j x)) k l := fvs_set hjn (by rw [fv_i (Or.inr ht), gI_self]; rfl) (fun i h => fv_sI_ne h)
  subst hs
  refine va_put (v := ren ρ (vi x)) C.1 C.2.1 C.hts hin ty0 hty hnm C.hown hK hP hD C.hS q0 he hcl j hj (C.hts _ hg) (fun _ h => h) hfin hds (by rcases hz with rfl | rfl <;> rfl) (by rcases hz with rfl | rfl <;> rfl) (by rw [fvs_len]; exact hjn) hd (fun H1 locs1 hP1 hD1 hS1 => ?_)
  have hpl := va_pl_set (X := []) (e := .inr (k, (fvs ρ μ k l).set j (ren ρ (vi x)))) hD hm hq0
  rw [List.nil_append, List.nil_append] at hpl
  rw [hpl, hset] at hP1 hD1
  refine k0 _ _ _ _ _ _ _ _ _ _ _ _ _ _ _ _ _ _ _ _ _ hG (C.mem (μ' := (sI μ k l j x)) (Rel.upd hK hP1 hD1 hce hinj hF (fun _ _ => rfl) (fun a c h => ⟨?_, ?_, ?_⟩) ?_ ?_) hS1 (fun _ _ => rfl) (fun _ h => h)) (LVs.mem hst.tl.tl (fun _ _ => rfl))
  · first | rfl | (funext z; show (if a = k ∧ c = l ∧ z = j then _ else _) = _; rw [if_neg (fun w => h ⟨w.1, w.2.1⟩)]; rfl)
  · first | rfl | (funext z; show (if a = k ∧ c = l ∧ z = j then _ else _) = _; rw [if_neg (fun w => h ⟨w.1, w.2.1⟩)]; rfl)
  · first | rfl | (funext z; show (if a = k ∧ c = l ∧ z = j then _ else _) = _; rw [if_neg (fun w => h ⟨w.1, w.2.1⟩)]; rfl)
  · exact CellOK.obj h13
  · exact hclo
theorem J_putL {k l j i N : Nat} {C0 : String} {T : u_T} (hc : CD k C0 T N) (hj : j < N) {x : Int64} (ht : (FT k j).1 = 2) (hds : parseFieldDescriptor (T j).2.2.1 = some .long) (hfin : (T j).2.2.2 = false) (hg : Cond.fieldLink own i C0 (T j).2.1 (T j).2.2.1 ∈ gw) (hs : (T j).1 = C0) (hd : decode cc pc = .ok (.putfield i, 3)) (hq : pc + 3 = q) (k0 : J G b cc own maxL d rc rs q lv st (sL μ k l j x)) : J G b cc own maxL d rc rs pc lv (vl x :: vr k l :: st) μ := by
  subst hq
  intro p l0 e R s m args below meth c Qf H locs cells slots D Z ρ ρ0 B0 ls hG C hst
  obtain ⟨h13, hcl, hN, hin, ⟨ty0, hty⟩, hnm⟩ := hc
  have hF := (hst.tl.hd).live (Nat.lt_trans h13 (by decide))
  obtain ⟨tys, L, f, q0, hK, hP, hD, hce, hinj, hclo, hm, hq0, hok⟩ := C.rel.at hF
  have he : (va_pl L f)[q0]? = some (ρ k l, .inr (k, fvs ρ μ k l)) := by rw [hq0, hok.1 h13]
  have hjn : j < NF k := by rw [hN]; exact hj
  have hset : (fvs ρ μ k l).set j (ren ρ (vl x)) = fvs ρ ((sL μ k l j x)) k l := fvs_set hjn (by rw [fv_l ht, gL_self]; rfl) (fun i h => fv_sL_ne h)
  subst hs
  refine va_put (v := ren ρ (vl x)) C.1 C.2.1 C.hts hin ty0 hty hnm C.hown hK hP hD C.hS q0 he hcl j hj (C.hts _ hg) (fun _ h => h) hfin hds rfl rfl (by rw [fvs_len]; exact hjn) hd (fun H1 locs1 hP1 hD1 hS1 => ?_)
  have hpl := va_pl_set (X := []) (e := .inr (k, (fvs ρ μ k l).set j (ren ρ (vl x)))) hD hm hq0
  rw [List.nil_append, List.nil_append] at hpl
  rw [hpl, hset] at hP1 hD1
  refine k0 _ _ _ _ _ _ _ _ _ _ _ _ _ _ _ _ _ _ _ _ _ hG (C.mem (μ' := (sL μ k l j x)) (Rel.upd hK hP1 hD1 hce hinj hF (fun _ _ => rfl) (fun a c h => ⟨?_, ?_, ?_⟩) ?_ ?_) hS1 (fun _ _ => rfl) (fun _ h => h)) (LVs.mem hst.tl.tl (fun _ _ => rfl))
  · first | rfl | (funext z; show (if a = k ∧ c = l ∧ z = j then _ else _) = _; rw [if_neg (fun w => h ⟨w.1, w.2.1⟩)]; rfl)
  · first | rfl | (funext z; show (if a = k ∧ c = l ∧ z = j then _ else _) = _; rw [if_neg (fun w => h ⟨w.1, w.2.1⟩)]; rfl)
  · first | rfl | (funext z; show (if a = k ∧ c = l ∧ z = j then _ else _) = _; rw [if_neg (fun w => h ⟨w.1, w.2.1⟩)]; rfl)
  · exact CellOK.obj h13
  · exact hclo
theorem J_putR {k l j i N : Nat} {C0 : String} {T : u_T} (hc : CD k C0 T N) (hj : j < N) {r : Nat} {x : Option Nat} {ty : FieldType} (ht : FT k j = (3, r)) (hr9 : r < 900) (hf : FIN k j = false) (hds : parseFieldDescriptor (T j).2.2.1 = some ty) (hty1 : (∃ n, ty = .object n) ∨ ∃ t, ty = .array t) (hfin : (T j).2.2.2 = false) (hg : Cond.fieldLink own i C0 (T j).2.1 (T j).2.2.1 ∈ gw) (hs : (T j).1 = C0) (hd : decode cc pc = .ok (.putfield i, 3)) (hq : pc + 3 = q) (k0 : J G b cc own maxL d rc rs q lv st (sR μ k l j x)) : J G b cc own maxL d rc rs pc lv (vo r x :: vr k l :: st) μ := by
  subst hq
  intro p l0 e R s m args below meth c Qf H locs cells slots D Z ρ ρ0 B0 ls hG C hst
  obtain ⟨h13, hcl, hN, hin, ⟨ty0, hty⟩, hnm⟩ := hc
  have hF := (hst.tl.hd).live (Nat.lt_trans h13 (by decide))
  obtain ⟨tys, L, f, q0, hK, hP, hD, hce, hinj, hclo, hm, hq0, hok⟩ := C.rel.at hF
  have he : (va_pl L f)[q0]? = some (ρ k l, .inr (k, fvs ρ μ k l)) := by rw [hq0, hok.1 h13]
  have hjn : j < NF k := by rw [hN]; exact hj
  have hset : (fvs ρ μ k l).set j (ren ρ (vo r x)) = fvs ρ ((sR μ k l j x)) k l := fvs_set hjn (by rw [fv_r ht, gR_self]) (fun i h => fv_sR_ne h)
  subst hs
  refine va_put (v := ren ρ (vo r x)) C.1 C.2.1 C.hts hin ty0 hty hnm C.hown hK hP hD C.hS q0 he hcl j hj (C.hts _ hg) (fun _ h => h) hfin hds (by rcases hty1 with ⟨n, rfl⟩ | ⟨n, rfl⟩ <;> cases x <;> rfl) (by rcases hty1 with ⟨n, rfl⟩ | ⟨n, rfl⟩ <;> cases x <;> rfl) (by rw [fvs_len]; exact hjn) hd (fun H1 locs1 hP1 hD1 hS1 => ?_)
  have hpl := va_pl_set (X := []) (e := .inr (k, (fvs ρ μ k l).set j (ren ρ (vo r x)))) hD hm hq0
  rw [List.nil_append, List.nil_append] at hpl
  rw [hpl, hset] at hP1 hD1
  refine k0 _ _ _ _ _ _ _ _ _ _ _ _ _ _ _ _ _ _ _ _ _ hG (C.mem (μ' := (sR μ k l j x)) (Rel.upd hK hP1 hD1 hce hinj hF (fun _ _ => rfl) (fun a c h => ⟨?_, ?_, ?_⟩) ?_ ?_) hS1 (fun _ _ => rfl) (fun _ h => h.sR hf)) (LVs.mem hst.tl.tl (fun _ _ => rfl))
  · first | rfl | (funext z; show (if a = k ∧ c = l ∧ z = j then _ else _) = _; rw [if_neg (fun w => h ⟨w.1, w.2.1⟩)]; rfl)
  · first | rfl | (funext z; show (if a = k ∧ c = l ∧ z = j then _ else _) = _; rw [if_neg (fun w => h ⟨w.1, w.2.1⟩)]; rfl)
  · first | rfl | (funext z; show (if a = k ∧ c = l ∧ z = j then _ else _) = _; rw [if_neg (fun w => h ⟨w.1, w.2.1⟩)]; rfl)
  · exact CellOK.obj h13
  · exact hclo.sR h13 ht hst.hd hr9
theorem J_putFI {b' : Bool} {Q : Option AV → Mem → Prop} {ret : Option FieldType} {k l j i N : Nat} {C0 : String} {T : u_T} (hc : CD k C0 T N) (hj : j < N) {x : Int32} (ht : (FT k j).1 = 0) (hds : parseFieldDescriptor (T j).2.2.1 = some .int) (hfin : (T j).2.2.2 = true) (hown2 : (T j).1 = own) (hg : Cond.fieldLink own i C0 (T j).2.1 (T j).2.2.1 ∈ gw) (hs : (T j).1 = C0) (hd : decode cc pc = .ok (.putfield i, 3)) (hq : pc + 3 = q) (k0 : J (GM b' Q ret "<init>") b cc own maxL d rc rs q lv st (sI μ k l j x)) : J (GM b' Q ret "<init>") b cc own maxL d rc rs pc lv (vi x :: vr k l :: st) μ := by
  subst hq
  intro p l0 e R s m args below meth c Qf H locs cells slots D Z ρ ρ0 B0 ls hG C hst
  obtain ⟨h13, hcl, hN, hin, ⟨ty0, hty⟩, hnm⟩ := hc
  have hF := (hst.tl.hd).live (Nat.lt_trans h13 (by decide))
  obtain ⟨tys, L, f, q0, hK, hP, hD, hce, hinj, hclo, hm, hq0, hok⟩ := C.rel.at hF
  have he : (va_pl L f)[q0]? = some (ρ k l, .inr (k, fvs ρ μ k l)) := by rw [hq0, hok.1 h13]
  have hjn : j < NF k := by rw [hN]; exact hj
  have hset : (fvs ρ μ k l).set j (ren ρ (vi x)) = fvs ρ ((sI μ k l j x)) k l := fvs_set hjn (by rw [fv_i (Or.inl ht), gI_self]; rfl) (fun i h => fv_sI_ne h)
  subst hs
  refine va_putF (v := ren ρ (vi x)) C.1 C.2.1 C.hts hin ty0 hty hnm C.hown hK hP hD C.hS q0 he hcl j hj (C.hts _ hg) (fun _ h => h) hfin hG.2.2.1 hown2 hds rfl rfl (by rw [fvs_len]; exact hjn) hd (fun H1 locs1 hP1 hD1 hS1 => ?_)
  have hpl := va_pl_set (X := []) (e := .inr (k, (fvs ρ μ k l).set j (ren ρ (vi x)))) hD hm hq0
  rw [List.nil_append, List.nil_append] at hpl
  rw [hpl, hset] at hP1 hD1
  refine k0 _ _ _ _ _ _ _ _ _ _ _ _ _ _ _ _ _ _ _ _ _ hG (C.mem (μ' := (sI μ k l j x)) (Rel.upd hK hP1 hD1 hce hinj hF (fun _ _ => rfl) (fun a c h => ⟨?_, ?_, ?_⟩) ?_ ?_) hS1 (fun _ _ => rfl) (fun _ h => h)) (LVs.mem hst.tl.tl (fun _ _ => rfl))
  · first | rfl | (funext z; show (if a = k ∧ c = l ∧ z = j then _ else _) = _; rw [if_neg (fun w => h ⟨w.1, w.2.1⟩)]; rfl)
  · first | rfl | (funext z; show (if a = k ∧ c = l ∧ z = j then _ else _) = _; rw [if_neg (fun w => h ⟨w.1, w.2.1⟩)]; rfl)
  · first | rfl | (funext z; show (if a = k ∧ c = l ∧ z = j then _ else _) = _; rw [if_neg (fun w => h ⟨w.1, w.2.1⟩)]; rfl)
  · exact CellOK.obj h13
  · exact hclo
theorem J_putFR {b' : Bool} {Q : Option AV → Mem → Prop} {ret : Option FieldType} {k l j i N : Nat} {C0 : String} {T : u_T} (hc : CD k C0 T N) (hj : j < N) {r : Nat} {x : Option Nat} {ty : FieldType} (ht : FT k j = (3, r)) (hr9 : r < 900) (hb : b = false) (hds : parseFieldDescriptor (T j).2.2.1 = some ty) (hty1 : (∃ n, ty = .object n) ∨ ∃ t, ty = .array t) (hfin : (T j).2.2.2 = true) (hown2 : (T j).1 = own) (hg : Cond.fieldLink own i C0 (T j).2.1 (T j).2.2.1 ∈ gw) (hs : (T j).1 = C0) (hd : decode cc pc = .ok (.putfield i, 3)) (hq : pc + 3 = q) (k0 : J (GM b' Q ret "<init>") b cc own maxL d rc rs q lv st (sR μ k l j x)) : J (GM b' Q ret "<init>") b cc own maxL d rc rs pc lv (vo r x :: vr k l :: st) μ := by
  subst hq
  intro p l0 e R s m args below meth c Qf H locs cells slots D Z ρ ρ0 B0 ls hG C hst
  obtain ⟨h13, hcl, hN, hin, ⟨ty0, hty⟩, hnm⟩ := hc
  have hF := (hst.tl.hd).live (Nat.lt_trans h13 (by decide))
  obtain ⟨tys, L, f, q0, hK, hP, hD, hce, hinj, hclo, hm, hq0, hok⟩ := C.rel.at hF
  have he : (va_pl L f)[q0]? = some (ρ k l, .inr (k, fvs ρ μ k l)) := by rw [hq0, hok.1 h13]
  have hjn : j < NF k := by rw [hN]; exact hj
  have hset : (fvs ρ μ k l).set j (ren ρ (vo r x)) = fvs ρ ((sR μ k l j x)) k l := fvs_set hjn (by rw [fv_r ht, gR_self]) (fun i h => fv_sR_ne h)
  subst hs
  refine va_putF (v := ren ρ (vo r x)) C.1 C.2.1 C.hts hin ty0 hty hnm C.hown hK hP hD C.hS q0 he hcl j hj (C.hts _ hg) (fun _ h => h) hfin hG.2.2.1 hown2 hds (by rcases hty1 with ⟨n, rfl⟩ | ⟨n, rfl⟩ <;> cases x <;> rfl) (by rcases hty1 with ⟨n, rfl⟩ | ⟨n, rfl⟩ <;> cases x <;> rfl) (by rw [fvs_len]; exact hjn) hd (fun H1 locs1 hP1 hD1 hS1 => ?_)
  have hpl := va_pl_set (X := []) (e := .inr (k, (fvs ρ μ k l).set j (ren ρ (vo r x)))) hD hm hq0
  rw [List.nil_append, List.nil_append] at hpl
  rw [hpl, hset] at hP1 hD1
  refine k0 _ _ _ _ _ _ _ _ _ _ _ _ _ _ _ _ _ _ _ _ _ hG (C.mem (μ' := (sR μ k l j x)) (Rel.upd hK hP1 hD1 hce hinj hF (fun _ _ => rfl) (fun a c h => ⟨?_, ?_, ?_⟩) ?_ ?_) hS1 (fun _ _ => rfl) (fun h _ => by rw [hb] at h; cases h)) (LVs.mem hst.tl.tl (fun _ _ => rfl))
  · first | rfl | (funext z; show (if a = k ∧ c = l ∧ z = j then _ else _) = _; rw [if_neg (fun w => h ⟨w.1, w.2.1⟩)]; rfl)
  · first | rfl | (funext z; show (if a = k ∧ c = l ∧ z = j then _ else _) = _; rw [if_neg (fun w => h ⟨w.1, w.2.1⟩)]; rfl)
  · first | rfl | (funext z; show (if a = k ∧ c = l ∧ z = j then _ else _) = _; rw [if_neg (fun w => h ⟨w.1, w.2.1⟩)]; rfl)
  · exact CellOK.obj h13
  · exact hclo.sR h13 ht hst.hd hr9
end JMM
end
section
section JAR
variable {G : GT} {b : Bool} {cc : ByteArray} {own : String} {maxL d rc rs pc q : Nat} {lv : List (Nat × AV)} {st : List AV} {μ : Mem}
theorem RK_no {k n z : Nat} {c : Nat} (hk : RK k = (c, n, z)) (hc : c ≠ 0) : ¬ k < 13 := fun h => hc (by have := RK_obj h; rw [hk] at this; exact this)
theorem gI_fn {k l j : Nat} {x : Int32} : gI (sI μ k l j x) k l = upd (gI μ k l) j x := by
  funext z
  rw [gI_sI]
  simp [upd]
theorem gL_fn {k l j : Nat} {x : Int64} : gL (sL μ k l j x) k l = vp_updL (gL μ k l) j x := by
  funext z
  rw [gL_sL]
  simp [vp_updL]
theorem CellOK.a2 {tys : List (ClassId × FieldType)} {ρ : MA} {k l n z : Nat} {cA : ClassId} (hk : RK k = (2, n, z)) (h : (cA, FieldType.int) ∈ tys) : CellOK tys ρ μ k l (.inl (cA, n, .inl (gI μ k l))) := by
  refine ⟨fun h9 => absurd h9 (RK_no hk (by decide)), fun h9 => ?_, fun h9 => ?_, fun h9 => ?_, fun h9 => ?_, fun h9 => ?_⟩ <;> rw [hk] at h9 <;> first | (rw [hk]; exact ⟨cA, h, rfl⟩) | (simp at h9)
theorem CellOK.g2 {tys : List (ClassId × FieldType)} {ρ : MA} {k l n z : Nat} {e : va_E} (hk : RK k = (2, n, z)) (h : CellOK tys ρ μ k l e) : ∃ (cA : ClassId) (t0 : Nat), (cA, FieldType.int) ∈ tys ∧ tys[t0]? = some (cA, FieldType.int) ∧ e = .inl (cA, n, .inl (gI μ k l)) := by
  obtain ⟨cA, h1, h2⟩ := h.2.1 (by rw [hk])
  rw [hk] at h2
  obtain ⟨t0, ht0⟩ := List.getElem?_of_mem h1
  exact ⟨cA, t0, h1, ht0, h2⟩
theorem CellOK.a3 {tys : List (ClassId × FieldType)} {ρ : MA} {k l n z : Nat} {cA : ClassId} (hk : RK k = (3, n, z)) (h : (cA, FieldType.boolean) ∈ tys) : CellOK tys ρ μ k l (.inl (cA, n, .inl (gI μ k l))) := by
  refine ⟨fun h9 => absurd h9 (RK_no hk (by decide)), fun h9 => ?_, fun h9 => ?_, fun h9 => ?_, fun h9 => ?_, fun h9 => ?_⟩ <;> rw [hk] at h9 <;> first | (rw [hk]; exact ⟨cA, h, rfl⟩) | (simp at h9)
theorem CellOK.g3 {tys : List (ClassId × FieldType)} {ρ : MA} {k l n z : Nat} {e : va_E} (hk : RK k = (3, n, z)) (h : CellOK tys ρ μ k l e) : ∃ (cA : ClassId) (t0 : Nat), (cA, FieldType.boolean) ∈ tys ∧ tys[t0]? = some (cA, FieldType.boolean) ∧ e = .inl (cA, n, .inl (gI μ k l)) := by
  obtain ⟨cA, h1, h2⟩ := h.2.2.1 (by rw [hk])
  rw [hk] at h2
  obtain ⟨t0, ht0⟩ := List.getElem?_of_mem h1
  exact ⟨cA, t0, h1, ht0, h2⟩
theorem CellOK.a4 {tys : List (ClassId × FieldType)} {ρ : MA} {k l n z : Nat} {cA : ClassId} (hk : RK k = (4, n, z)) (h : (cA, FieldType.long) ∈ tys) : CellOK tys ρ μ k l (.inl (cA, n, .inr (.inl (gL μ k l)))) := by
  refine ⟨fun h9 => absurd h9 (RK_no hk (by decide)), fun h9 => ?_, fun h9 => ?_, fun h9 => ?_, fun h9 => ?_, fun h9 => ?_⟩ <;> rw [hk] at h9 <;> first | (rw [hk]; exact ⟨cA, h, rfl⟩) | (simp at h9)
theorem CellOK.g4 {tys : List (ClassId × FieldType)} {ρ : MA} {k l n z : Nat} {e : va_E} (hk : RK k = (4, n, z)) (h : CellOK tys ρ μ k l e) : ∃ (cA : ClassId) (t0 : Nat), (cA, FieldType.long) ∈ tys ∧ tys[t0]? = some (cA, FieldType.long) ∧ e = .inl (cA, n, .inr (.inl (gL μ k l))) := by
  obtain ⟨cA, h1, h2⟩ := h.2.2.2.1 (by rw [hk])
  rw [hk] at h2
  obtain ⟨t0, ht0⟩ := List.getElem?_of_mem h1
  exact ⟨cA, t0, h1, ht0, h2⟩
theorem CellOK.a5 {tys : List (ClassId × FieldType)} {ρ : MA} {k l n z : Nat} {cA : ClassId} (hk : RK k = (5, n, z)) (h : (cA, FieldType.object (CN z)) ∈ tys) : CellOK tys ρ μ k l (.inl (cA, n, .inr (.inr (.inr (.inr (fun i => (gR μ k l i).map (ρ z))))))) := by
  refine ⟨fun h9 => absurd h9 (RK_no hk (by decide)), fun h9 => ?_, fun h9 => ?_, fun h9 => ?_, fun h9 => ?_, fun h9 => ?_⟩ <;> rw [hk] at h9 <;> first | (rw [hk]; exact ⟨cA, h, rfl⟩) | (simp at h9)
theorem CellOK.g5 {tys : List (ClassId × FieldType)} {ρ : MA} {k l n z : Nat} {e : va_E} (hk : RK k = (5, n, z)) (h : CellOK tys ρ μ k l e) : ∃ (cA : ClassId) (t0 : Nat), (cA, FieldType.object (CN z)) ∈ tys ∧ tys[t0]? = some (cA, FieldType.object (CN z)) ∧ e = .inl (cA, n, .inr (.inr (.inr (.inr (fun i => (gR μ k l i).map (ρ z)))))) := by
  obtain ⟨cA, h1, h2⟩ := h.2.2.2.2.1 (by rw [hk])
  rw [hk] at h2
  rw [hk] at h1
  obtain ⟨t0, ht0⟩ := List.getElem?_of_mem h1
  exact ⟨cA, t0, h1, ht0, h2⟩
theorem CellOK.a6 {tys : List (ClassId × FieldType)} {ρ : MA} {k l n z : Nat} {cA : ClassId} (hk : RK k = (6, n, z)) (h : (cA, FieldType.array .int) ∈ tys) : CellOK tys ρ μ k l (.inl (cA, n, .inr (.inr (.inr (.inr (fun i => if i < n then some (ρ z (n * l + i)) else none)))))) := by
  refine ⟨fun h9 => absurd h9 (RK_no hk (by decide)), fun h9 => ?_, fun h9 => ?_, fun h9 => ?_, fun h9 => ?_, fun h9 => ?_⟩ <;> rw [hk] at h9 <;> first | (rw [hk]; exact ⟨cA, h, rfl⟩) | (simp at h9)
theorem CellOK.g6 {tys : List (ClassId × FieldType)} {ρ : MA} {k l n z : Nat} {e : va_E} (hk : RK k = (6, n, z)) (h : CellOK tys ρ μ k l e) : ∃ (cA : ClassId) (t0 : Nat), (cA, FieldType.array .int) ∈ tys ∧ tys[t0]? = some (cA, FieldType.array .int) ∧ e = .inl (cA, n, .inr (.inr (.inr (.inr (fun i => if i < n then some (ρ z (n * l + i)) else none))))) := by
  obtain ⟨cA, h1, h2⟩ := h.2.2.2.2.2 (by rw [hk])
  rw [hk] at h2
  obtain ⟨t0, ht0⟩ := List.getElem?_of_mem h1
  exact ⟨cA, t0, h1, ht0, h2⟩
theorem J_iald {k l n z : Nat} {i : Int32} (hk : RK k = (2, n, z)) (h9 : k < 900) (hi : 0 ≤ i.toInt ∧ i.toInt < (n : Int)) (hd : decode cc pc = .ok (.iaload, 1)) (hq : pc + 1 = q) (k0 : J G b cc own maxL d rc rs q lv (vi (gI μ k l i.toNatClampNeg) :: st) μ) : J G b cc own maxL d rc rs pc lv (vi i :: vr k l :: st) μ := by
  subst hq
  intro p l0 e R s m args below meth c Qf H locs cells slots D Z ρ ρ0 B0 ls hG C hst
  have hF := (hst.tl.hd).live h9
  obtain ⟨tys, L, f, q0, hK, hP, hD, hce, hinj, hclo, hm, hq0, hok⟩ := C.rel.at hF
  obtain ⟨cA, t0, hm0, ht0, he⟩ := hok.g2 hk
  rw [he] at hq0
  have hin : vp_in i n := vp_in_iff.mpr hi
  exact va_iald C.1 C.2.1 hK hP q0 t0 hq0 ht0 hin hd (k0 _ _ _ _ _ _ _ _ _ _ _ _ _ _ _ _ _ _ _ _ _ hG C hst.tl.tl.i)
theorem J_zald {k l n z : Nat} {i : Int32} (hk : RK k = (3, n, z)) (h9 : k < 900) (hi : 0 ≤ i.toInt ∧ i.toInt < (n : Int)) (hd : decode cc pc = .ok (.baload, 1)) (hq : pc + 1 = q) (k0 : J G b cc own maxL d rc rs q lv (vi (gI μ k l i.toNatClampNeg) :: st) μ) : J G b cc own maxL d rc rs pc lv (vi i :: vr k l :: st) μ := by
  subst hq
  intro p l0 e R s m args below meth c Qf H locs cells slots D Z ρ ρ0 B0 ls hG C hst
  have hF := (hst.tl.hd).live h9
  obtain ⟨tys, L, f, q0, hK, hP, hD, hce, hinj, hclo, hm, hq0, hok⟩ := C.rel.at hF
  obtain ⟨cA, t0, hm0, ht0, he⟩ := hok.g3 hk
  rw [he] at hq0
  have hin : vp_in i n := vp_in_iff.mpr hi
  exact va_zald C.1 C.2.1 hK hP q0 t0 hq0 ht0 hin hd (k0 _ _ _ _ _ _ _ _ _ _ _ _ _ _ _ _ _ _ _ _ _ hG C hst.tl.tl.i)
theorem J_lald {k l n z : Nat} {i : Int32} (hk : RK k = (4, n, z)) (h9 : k < 900) (hi : 0 ≤ i.toInt ∧ i.toInt < (n : Int)) (hd : decode cc pc = .ok (.laload, 1)) (hq : pc + 1 = q) (k0 : J G b cc own maxL d rc rs q lv (vl (gL μ k l i.toNatClampNeg) :: st) μ) : J G b cc own maxL d rc rs pc lv (vi i :: vr k l :: st) μ := by
  subst hq
  intro p l0 e R s m args below meth c Qf H locs cells slots D Z ρ ρ0 B0 ls hG C hst
  have hF := (hst.tl.hd).live h9
  obtain ⟨tys, L, f, q0, hK, hP, hD, hce, hinj, hclo, hm, hq0, hok⟩ := C.rel.at hF
  obtain ⟨cA, t0, hm0, ht0, he⟩ := hok.g4 hk
  rw [he] at hq0
  have hin : vp_in i n := vp_in_iff.mpr hi
  exact va_lald C.1 C.2.1 hK hP q0 t0 hq0 ht0 hin hd (k0 _ _ _ _ _ _ _ _ _ _ _ _ _ _ _ _ _ _ _ _ _ hG C hst.tl.tl.l)
theorem va_rf_map (ρ : MA) (z : Nat) (o : Option Nat) : va_rf (o.map (ρ z)) = ren ρ (vo z o) := by
  cases o <;> rfl
theorem LV_v5 {k l n z j : Nat} (hclo : Clo μ) (hF : gF μ k l = true) (hk : RK k = (5, n, z)) : LV μ (vo z (gR μ k l j)) := by
  cases h : gR μ k l j with
  | none => trivial
  | some i =>
    have h2 := (hclo k l hF).2.1 (by rw [hk]) j i h
    rw [hk] at h2
    exact Or.inl h2
theorem J_ald5 {k l n z : Nat} {i : Int32} (hk : RK k = (5, n, z)) (h9 : k < 900) (hi : 0 ≤ i.toInt ∧ i.toInt < (n : Int)) (hd : decode cc pc = .ok (.aaload, 1)) (hq : pc + 1 = q) (k0 : J G b cc own maxL d rc rs q lv (vo z (gR μ k l i.toNatClampNeg) :: st) μ) : J G b cc own maxL d rc rs pc lv (vi i :: vr k l :: st) μ := by
  subst hq
  intro p l0 e R s m args below meth c Qf H locs cells slots D Z ρ ρ0 B0 ls hG C hst
  have hF := (hst.tl.hd).live h9
  obtain ⟨tys, L, f, q0, hK, hP, hD, hce, hinj, hclo, hm, hq0, hok⟩ := C.rel.at hF
  obtain ⟨cA, t0, hm0, ht0, he⟩ := hok.g5 hk
  rw [he] at hq0
  have hin : vp_in i n := vp_in_iff.mpr hi
  exact va_aldq C.1 C.2.1 hK hP q0 t0 hq0 ht0 hin hd (by rw [va_rf_map]; exact (k0 _ _ _ _ _ _ _ _ _ _ _ _ _ _ _ _ _ _ _ _ _ hG C (LVs.cs (LV_v5 hclo hF hk) hst.tl.tl)))
theorem J_ald6 {k l n z : Nat} {i : Int32} (hk : RK k = (6, n, z)) (h9 : k < 900) (hi : 0 ≤ i.toInt ∧ i.toInt < (n : Int)) (hd : decode cc pc = .ok (.aaload, 1)) (hq : pc + 1 = q) (k0 : J G b cc own maxL d rc rs q lv (vr z (n * l + i.toNatClampNeg) :: st) μ) : J G b cc own maxL d rc rs pc lv (vi i :: vr k l :: st) μ := by
  subst hq
  intro p l0 e R s m args below meth c Qf H locs cells slots D Z ρ ρ0 B0 ls hG C hst
  have hF := (hst.tl.hd).live h9
  obtain ⟨tys, L, f, q0, hK, hP, hD, hce, hinj, hclo, hm, hq0, hok⟩ := C.rel.at hF
  obtain ⟨cA, t0, hm0, ht0, he⟩ := hok.g6 hk
  rw [he] at hq0
  have hin : vp_in i n := vp_in_iff.mpr hi
  have hlt : i.toNatClampNeg < n := Nat.not_le.mp fun q => hin (Or.inr q)
  exact W.aald (v := .ref (ρ z (n * l + i.toNatClampNeg))) (ty := .array .int) C.1 C.2.1 (hP q0 _ hq0) ((hK.2 t0 _ ht0).1 n (fun j => va_rf (if j < n then some (ρ z (n * l + j)) else none))) rfl (fun q => by cases q) (by show ¬ (i < 0 ∨ (arrV _ _ _).slots.size ≤ _); rw [arrV_size]; exact hin) (by show (arrV _ _ _).slots[_]? = _; rw [arrV_read _ _ hlt]; show some (va_rf (if i.toNatClampNeg < n then some (ρ z (n * l + i.toNatClampNeg)) else none)) = _; rw [if_pos hlt]; rfl) rfl rfl hd (k0 _ _ _ _ _ _ _ _ _ _ _ _ _ _ _ _ _ _ _ _ _ hG C (LVs.cs (by have h2 := (hclo k l hF).2.2 (by rw [hk]) i.toNatClampNeg (by rw [hk]; exact Nat.not_le.mp fun q => hin (Or.inr q)); rw [hk] at h2; exact Or.inl h2) hst.tl.tl))
theorem J_alen {k l n z c0 : Nat} {v : Int32} (hk : RK k = (c0, n, z)) (h9 : k < 900) (hc : c0 = 2 ∨ c0 = 4 ∨ c0 = 5) (hv : Int32.ofNat n = v) (hd : decode cc pc = .ok (.arraylength, 1)) (hq : pc + 1 = q) (k0 : J G b cc own maxL d rc rs q lv (vi v :: st) μ) : J G b cc own maxL d rc rs pc lv (vr k l :: st) μ := by
  subst hq
  intro p l0 e R s m args below meth c Qf H locs cells slots D Z ρ ρ0 B0 ls hG C hst
  have hF := (hst.hd).live h9
  obtain ⟨tys, L, f, q0, hK, hP, hD, hce, hinj, hclo, hm, hq0, hok⟩ := C.rel.at hF
  rcases hc with rfl | rfl | rfl
  · obtain ⟨cA, t0, hm0, ht0, he⟩ := hok.g2 hk
    rw [he] at hq0
    exact va_alen C.1 C.2.1 hK hP q0 t0 hq0 ht0 hv hd (k0 _ _ _ _ _ _ _ _ _ _ _ _ _ _ _ _ _ _ _ _ _ hG C hst.tl.i)
  · obtain ⟨cA, t0, hm0, ht0, he⟩ := hok.g4 hk
    rw [he] at hq0
    exact va_alen C.1 C.2.1 hK hP q0 t0 hq0 ht0 hv hd (k0 _ _ _ _ _ _ _ _ _ _ _ _ _ _ _ _ _ _ _ _ _ hG C hst.tl.i)
  · obtain ⟨cA, t0, hm0, ht0, he⟩ := hok.g5 hk
    rw [he] at hq0
    exact va_alen C.1 C.2.1 hK hP q0 t0 hq0 ht0 hv hd (k0 _ _ _ _ _ _ _ _ _ _ _ _ _ _ _ _ _ _ _ _ _ hG C hst.tl.i)
theorem J_iast {k l n z : Nat} {i : Int32} {x : Int32} (hk : RK k = (2, n, z)) (h9 : k < 900) (hi : 0 ≤ i.toInt ∧ i.toInt < (n : Int)) (hd : decode cc pc = .ok (.iastore, 1)) (hq : pc + 1 = q) (k0 : J G b cc own maxL d rc rs q lv st (sI μ k l i.toNatClampNeg x)) : J G b cc own maxL d rc rs pc lv (vi x :: vi i :: vr k l :: st) μ := by
  subst hq
  intro p l0 e R s m args below meth c Qf H locs cells slots D Z ρ ρ0 B0 ls hG C hst
  have hF := (hst.tl.tl.hd).live h9
  obtain ⟨tys, L, f, q0, hK, hP, hD, hce, hinj, hclo, hm, hq0, hok⟩ := C.rel.at hF
  obtain ⟨cA, t0, hm0, ht0, he⟩ := hok.g2 hk
  have hq1 := hq0
  rw [he] at hq0
  have hin : vp_in i n := vp_in_iff.mpr hi
  refine va_iast C.1 C.2.1 hK hP hD C.hS q0 t0 hq0 ht0 hin hd (fun H1 locs1 hP1 hD1 hS1 => ?_)
  have hpl := va_pl_set (X := []) (e := .inl (cA, n, .inl (upd (gI μ k l) i.toNatClampNeg x))) hD hm hq1
  rw [List.nil_append, List.nil_append] at hpl
  rw [hpl] at hP1 hD1
  refine k0 _ _ _ _ _ _ _ _ _ _ _ _ _ _ _ _ _ _ _ _ _ hG (C.mem (μ' := (sI μ k l i.toNatClampNeg x)) (Rel.upd hK hP1 hD1 hce hinj hF (fun _ _ => rfl) (fun a c9 h => ⟨?_, ?_, ?_⟩) ?_ ?_) hS1 (fun _ _ => rfl) (fun _ h => h)) (LVs.mem hst.tl.tl.tl (fun _ _ => rfl))
  · first | rfl | (funext z; show (if a = k ∧ c9 = l ∧ z = i.toNatClampNeg then _ else _) = _; rw [if_neg (fun w => h ⟨w.1, w.2.1⟩)]; rfl)
  · first | rfl | (funext z; show (if a = k ∧ c9 = l ∧ z = i.toNatClampNeg then _ else _) = _; rw [if_neg (fun w => h ⟨w.1, w.2.1⟩)]; rfl)
  · first | rfl | (funext z; show (if a = k ∧ c9 = l ∧ z = i.toNatClampNeg then _ else _) = _; rw [if_neg (fun w => h ⟨w.1, w.2.1⟩)]; rfl)
  · rw [← gI_fn]; exact CellOK.a2 hk hm0
  · exact hclo
theorem J_zast {k l n z : Nat} {i : Int32} {x : Int32} (hz : x = 0 ∨ x = 1) (hk : RK k = (3, n, z)) (h9 : k < 900) (hi : 0 ≤ i.toInt ∧ i.toInt < (n : Int)) (hd : decode cc pc = .ok (.bastore, 1)) (hq : pc + 1 = q) (k0 : J G b cc own maxL d rc rs q lv st (sI μ k l i.toNatClampNeg x)) : J G b cc own maxL d rc rs pc lv (vi x :: vi i :: vr k l :: st) μ := by
  subst hq
  intro p l0 e R s m args below meth c Qf H locs cells slots D Z ρ ρ0 B0 ls hG C hst
  have hF := (hst.tl.tl.hd).live h9
  obtain ⟨tys, L, f, q0, hK, hP, hD, hce, hinj, hclo, hm, hq0, hok⟩ := C.rel.at hF
  obtain ⟨cA, t0, hm0, ht0, he⟩ := hok.g3 hk
  have hq1 := hq0
  rw [he] at hq0
  have hin : vp_in i n := vp_in_iff.mpr hi
  refine va_zast C.1 C.2.1 hK hP hD C.hS q0 t0 hq0 ht0 hin hd (fun H1 locs1 hP1 hD1 hS1 => ?_)
  have hpl := va_pl_set (X := []) (e := .inl (cA, n, .inl (upd (gI μ k l) i.toNatClampNeg (vp_nar .boolean x)))) hD hm hq1
  rw [List.nil_append, List.nil_append] at hpl
  rw [hpl] at hP1 hD1
  refine k0 _ _ _ _ _ _ _ _ _ _ _ _ _ _ _ _ _ _ _ _ _ hG (C.mem (μ' := (sI μ k l i.toNatClampNeg x)) (Rel.upd hK hP1 hD1 hce hinj hF (fun _ _ => rfl) (fun a c9 h => ⟨?_, ?_, ?_⟩) ?_ ?_) hS1 (fun _ _ => rfl) (fun _ h => h)) (LVs.mem hst.tl.tl.tl (fun _ _ => rfl))
  · first | rfl | (funext z; show (if a = k ∧ c9 = l ∧ z = i.toNatClampNeg then _ else _) = _; rw [if_neg (fun w => h ⟨w.1, w.2.1⟩)]; rfl)
  · first | rfl | (funext z; show (if a = k ∧ c9 = l ∧ z = i.toNatClampNeg then _ else _) = _; rw [if_neg (fun w => h ⟨w.1, w.2.1⟩)]; rfl)
  · first | rfl | (funext z; show (if a = k ∧ c9 = l ∧ z = i.toNatClampNeg then _ else _) = _; rw [if_neg (fun w => h ⟨w.1, w.2.1⟩)]; rfl)
  · rw [show vp_nar .boolean x = x by rcases hz with rfl | rfl <;> rfl, ← gI_fn]; exact CellOK.a3 hk hm0
  · exact hclo
theorem J_last {k l n z : Nat} {i : Int32} {x : Int64} (hk : RK k = (4, n, z)) (h9 : k < 900) (hi : 0 ≤ i.toInt ∧ i.toInt < (n : Int)) (hd : decode cc pc = .ok (.lastore, 1)) (hq : pc + 1 = q) (k0 : J G b cc own maxL d rc rs q lv st (sL μ k l i.toNatClampNeg x)) : J G b cc own maxL d rc rs pc lv (vl x :: vi i :: vr k l :: st) μ := by
  subst hq
  intro p l0 e R s m args below meth c Qf H locs cells slots D Z ρ ρ0 B0 ls hG C hst
  have hF := (hst.tl.tl.hd).live h9
  obtain ⟨tys, L, f, q0, hK, hP, hD, hce, hinj, hclo, hm, hq0, hok⟩ := C.rel.at hF
  obtain ⟨cA, t0, hm0, ht0, he⟩ := hok.g4 hk
  have hq1 := hq0
  rw [he] at hq0
  have hin : vp_in i n := vp_in_iff.mpr hi
  refine va_last C.1 C.2.1 hK hP hD C.hS q0 t0 hq0 ht0 hin hd (fun H1 locs1 hP1 hD1 hS1 => ?_)
  have hpl := va_pl_set (X := []) (e := .inl (cA, n, .inr (.inl (vp_updL (gL μ k l) i.toNatClampNeg x)))) hD hm hq1
  rw [List.nil_append, List.nil_append] at hpl
  rw [hpl] at hP1 hD1
  refine k0 _ _ _ _ _ _ _ _ _ _ _ _ _ _ _ _ _ _ _ _ _ hG (C.mem (μ' := (sL μ k l i.toNatClampNeg x)) (Rel.upd hK hP1 hD1 hce hinj hF (fun _ _ => rfl) (fun a c9 h => ⟨?_, ?_, ?_⟩) ?_ ?_) hS1 (fun _ _ => rfl) (fun _ h => h)) (LVs.mem hst.tl.tl.tl (fun _ _ => rfl))
  · first | rfl | (funext z; show (if a = k ∧ c9 = l ∧ z = i.toNatClampNeg then _ else _) = _; rw [if_neg (fun w => h ⟨w.1, w.2.1⟩)]; rfl)
  · first | rfl | (funext z; show (if a = k ∧ c9 = l ∧ z = i.toNatClampNeg then _ else _) = _; rw [if_neg (fun w => h ⟨w.1, w.2.1⟩)]; rfl)
  · first | rfl | (funext z; show (if a = k ∧ c9 = l ∧ z = i.toNatClampNeg then _ else _) = _; rw [if_neg (fun w => h ⟨w.1, w.2.1⟩)]; rfl)
  · rw [← gL_fn]; exact CellOK.a4 hk hm0
  · exact hclo
theorem clo_sR5 {k l j n z : Nat} {x : Option Nat} (h : Clo μ) (hk : RK k = (5, n, z)) (hx : LV μ (vo z x)) (hr : z < 900) : Clo (sR μ k l j x) := by
  intro a c hac
  obtain ⟨h1, h2, h3⟩ := h a c hac
  refine ⟨fun ha i y hi hf hz => ?_, fun hk2 i y hz => ?_, h3⟩
  · rw [gR_sR] at hz
    by_cases w : a = k ∧ c = l ∧ i = j
    · exact absurd (w.1 ▸ ha) (RK_no hk (by decide))
    · rw [if_neg w] at hz
      exact h1 ha i y hi hf hz
  · rw [gR_sR] at hz
    by_cases w : a = k ∧ c = l ∧ i = j
    · rw [if_pos w] at hz
      rw [w.1, hk]
      rw [hz] at hx
      rcases hx with hx | hx
      · exact hx
      · exact absurd hx.1 (Nat.not_le.mpr hr)
    · rw [if_neg w] at hz
      exact h2 hk2 i y hz
theorem link_sR5 {k l j n z : Nat} {x : Option Nat} (h : LinkOK μ) (hk : RK k = (5, n, z)) : LinkOK (sR μ k l j x) := by
  intro a c hac ha i hi
  rw [gR_sR, if_neg (show ¬ (a = k ∧ c = l ∧ i = j) from fun w => absurd (w.1 ▸ ha) (RK_no hk (by decide)))]
  exact h a c hac ha i hi
theorem gR_fn {ρ : MA} {k l j z : Nat} {x : Nat} : (fun i => (gR (sR μ k l j (some x)) k l i).map (ρ z)) = va_up (fun i => (gR μ k l i).map (ρ z)) j (some (ρ z x)) := by
  funext y
  rw [gR_sR]
  by_cases h : y = j
  · subst h; simp [va_up]
  · simp [va_up, h]
theorem Rel.place {D : va_G} {ρ : MA} {H : Heap} {tys : List (ClassId × FieldType)} {L : List Nat} {f : Nat → va_E} {k l : Nat} (hP : va_P D classes (va_pl L f) H) (hce : ∀ k l, gF μ k l = true → ρ k l ∈ L ∧ CellOK tys ρ μ k l (f (ρ k l))) (hF : gF μ k l = true) : ∃ q0 : Nat, (va_pl L f)[q0]? = some (ρ k l, f (ρ k l)) := va_pl_get (X := []) (f := f) (hce k l hF).1
theorem Rel.placeO {D : va_G} {ρ : MA} {H : Heap} {tys : List (ClassId × FieldType)} {L : List Nat} {f : Nat → va_E} {k l : Nat} (hP : va_P D classes (va_pl L f) H) (hce : ∀ k l, gF μ k l = true → ρ k l ∈ L ∧ CellOK tys ρ μ k l (f (ρ k l))) (hF : gF μ k l = true) (h13 : k < 13) : (va_pl L f)[(Rel.place hP hce hF).choose]? = some (ρ k l, .inr (k, fvs ρ μ k l)) := by
  rw [(Rel.place hP hce hF).choose_spec, (hce k l hF).2.1 h13]
theorem J_ast5 {k l n z : Nat} {i : Int32} {x N0 : Nat} {T0 : u_T} (h13 : z < 13) (hcl : classes[z]? = some (CN z, T0, N0)) (hk : RK k = (5, n, z)) (h9 : k < 900) (hi : 0 ≤ i.toInt ∧ i.toInt < (n : Int)) (hd : decode cc pc = .ok (.aastore, 1)) (hq : pc + 1 = q) (k0 : J G b cc own maxL d rc rs q lv st (sR μ k l i.toNatClampNeg (some x))) : J G b cc own maxL d rc rs pc lv (vr z x :: vi i :: vr k l :: st) μ := by
  subst hq
  intro p l0 e R s m args below meth c Qf H locs cells slots D Z ρ ρ0 B0 ls hG C hst
  have hF := (hst.tl.tl.hd).live h9
  obtain ⟨tys, L, f, q0, hK, hP, hD, hce, hinj, hclo, hm, hq0, hok⟩ := C.rel.at hF
  obtain ⟨cA, t0, hm0, ht0, he⟩ := hok.g5 hk
  have hq1 := hq0
  rw [he] at hq0
  have hin : vp_in i n := vp_in_iff.mpr hi
  refine va_astq C.1 C.2.1 hK hP hD C.hS q0 t0 (Rel.place hP hce ((hst.hd).live (Nat.lt_trans h13 (by decide)))).choose z (r := (CN z, T0, N0)) hq0 ht0 (vs := fvs ρ μ z x) (Rel.placeO hP hce ((hst.hd).live (Nat.lt_trans h13 (by decide))) h13) hcl hin hd (fun H1 locs1 hP1 hD1 hS1 => ?_)
  have hpl := va_pl_set (X := []) (e := .inl (cA, n, .inr (.inr (.inr (.inr (va_up (fun i => (gR μ k l i).map (ρ z)) i.toNatClampNeg (some (ρ z x)))))))) hD hm hq1
  rw [List.nil_append, List.nil_append] at hpl
  rw [hpl] at hP1 hD1
  refine k0 _ _ _ _ _ _ _ _ _ _ _ _ _ _ _ _ _ _ _ _ _ hG (C.mem (μ' := (sR μ k l i.toNatClampNeg (some x))) (Rel.upd hK hP1 hD1 hce hinj hF (fun _ _ => rfl) (fun a c9 h => ⟨?_, ?_, ?_⟩) ?_ ?_) hS1 (fun _ _ => rfl) (fun _ h => link_sR5 h hk)) (LVs.mem hst.tl.tl.tl (fun _ _ => rfl))
  · first | rfl | (funext z; show (if a = k ∧ c9 = l ∧ z = i.toNatClampNeg then _ else _) = _; rw [if_neg (fun w => h ⟨w.1, w.2.1⟩)]; rfl)
  · first | rfl | (funext z; show (if a = k ∧ c9 = l ∧ z = i.toNatClampNeg then _ else _) = _; rw [if_neg (fun w => h ⟨w.1, w.2.1⟩)]; rfl)
  · first | rfl | (funext z; show (if a = k ∧ c9 = l ∧ z = i.toNatClampNeg then _ else _) = _; rw [if_neg (fun w => h ⟨w.1, w.2.1⟩)]; rfl)
  · rw [← gR_fn]; exact CellOK.a5 hk hm0
  · exact clo_sR5 hclo hk hst.hd (Nat.lt_trans h13 (by decide))
theorem J_gsTAKES {i : Nat} (hg : Cond.fieldLink own i "LetterFoundry$Runner" "TAKES" "[I" ∈ gw) (hd : decode cc pc = .ok (.getstatic i, 3)) (hq : pc + 3 = q) (k0 : J G b cc own maxL d rc rs q lv (vr 900 0 :: st) μ) : J G b cc own maxL d rc rs pc lv st μ := by
  subst hq
  intro p l0 e R s m args below meth c Qf H locs cells slots D Z ρ ρ0 B0 ls hG C hst
  exact va_gets C.1 C.2.1 C.2.2.2.2.2.2.1.1 C.hS C.hown (C.hts _ hg) (fun _ h => h) hd (k0 _ _ _ _ _ _ _ _ _ _ _ _ _ _ _ _ _ _ _ _ _ hG C (LVs.cs (Or.inr ⟨by decide, rfl⟩) hst))
theorem J_tiTAKES {i : Int32} (hi : 0 ≤ i.toInt ∧ i.toInt < 31) (hd : decode cc pc = .ok (.iaload, 1)) (hq : pc + 1 = q) (k0 : J G b cc own maxL d rc rs q lv (vi (takes i.toNatClampNeg) :: st) μ) : J G b cc own maxL d rc rs pc lv (vi i :: vr 900 0 :: st) μ := by
  subst hq
  intro p l0 e R s m args below meth c Qf H locs cells slots D Z ρ ρ0 B0 ls hG C hst
  exact va_ti C.1 C.2.1 C.2.2.2.2.2.2.1.2.1 C.hS (vp_in_iff.mpr hi) rfl hd (k0 _ _ _ _ _ _ _ _ _ _ _ _ _ _ _ _ _ _ _ _ _ hG C hst.tl.tl.i)
theorem J_gsGIVES {i : Nat} (hg : Cond.fieldLink own i "LetterFoundry$Runner" "GIVES" "[I" ∈ gw) (hd : decode cc pc = .ok (.getstatic i, 3)) (hq : pc + 3 = q) (k0 : J G b cc own maxL d rc rs q lv (vr 901 0 :: st) μ) : J G b cc own maxL d rc rs pc lv st μ := by
  subst hq
  intro p l0 e R s m args below meth c Qf H locs cells slots D Z ρ ρ0 B0 ls hG C hst
  exact va_gets C.1 C.2.1 C.2.2.2.2.2.2.1.2.2.1 C.hS C.hown (C.hts _ hg) (fun _ h => h) hd (k0 _ _ _ _ _ _ _ _ _ _ _ _ _ _ _ _ _ _ _ _ _ hG C (LVs.cs (Or.inr ⟨by decide, rfl⟩) hst))
theorem J_tiGIVES {i : Int32} (hi : 0 ≤ i.toInt ∧ i.toInt < 31) (hd : decode cc pc = .ok (.iaload, 1)) (hq : pc + 1 = q) (k0 : J G b cc own maxL d rc rs q lv (vi (gives i.toNatClampNeg) :: st) μ) : J G b cc own maxL d rc rs pc lv (vi i :: vr 901 0 :: st) μ := by
  subst hq
  intro p l0 e R s m args below meth c Qf H locs cells slots D Z ρ ρ0 B0 ls hG C hst
  exact va_ti C.1 C.2.1 C.2.2.2.2.2.2.1.2.2.2 C.hS (vp_in_iff.mpr hi) rfl hd (k0 _ _ _ _ _ _ _ _ _ _ _ _ _ _ _ _ _ _ _ _ _ hG C hst.tl.tl.i)
theorem J_cpyL {k l n z i : Nat} {sp dp m9 : Int32} (hk : RK k = (4, n, z)) (h9 : k < 900) (hd1 : 1 ≤ d) (hg : Cond.methodLink own i arraycopyName ∈ gw) (hnat : Cond.native arraycopyName ∈ gw) (hstat : Cond.static arraycopyName ∈ gw) (hini : Cond.initialized "java/lang/System" ∈ gw)
    (h1 : ¬ sp < 0) (h2 : ¬ dp < 0) (h3 : ¬ m9 < 0) (h4 : sp.toNatClampNeg + m9.toNatClampNeg ≤ n) (h5 : dp.toNatClampNeg + m9.toNatClampNeg ≤ n) (hd : decode cc pc = .ok (.invokestatic i, 3)) (hq : pc + 3 = q) (k0 : J G b cc own maxL d rc rs q lv [] (cpL μ k l k l sp.toNatClampNeg dp.toNatClampNeg m9.toNatClampNeg)) : J G b cc own maxL d rc rs pc lv [vi m9, vi dp, vr k l, vi sp, vr k l] μ := by
  subst hq
  intro p l0 e R s m args below meth c Qf H locs cells slots D Z ρ ρ0 B0 ls hG C hst
  have hF := (hst.tl.tl.hd).live h9
  obtain ⟨tys, L, f, q0, hK, hP, hD, hce, hinj, hclo, hm, hq0, hok⟩ := C.rel.at hF
  obtain ⟨cA, t0, hm0, ht0, he⟩ := hok.g4 hk
  have hq1 := hq0
  rw [he] at hq0
  have hRl := C.2.2.2.2.2.2.2.2.2.2.2.2.2.2.2.1
  refine va_copyl C.1 C.2.1 (C.2.2.1.trans C.hls.1.symm) C.hown (C.hts _ hg) (C.hts _ hnat) (C.hts _ hstat) (C.hts _ hini) hK hP hD C.hS q0 q0 t0 t0 hq0 hq0 ht0 ht0 rfl h1 h2 h3 h4 h5 (fun _ _ => rfl) (Nat.le_trans hd1 hRl.1) (Nat.le_trans (Nat.le_trans (show (0 : Nat) + (nativeFrameWords "java/lang/System" "arraycopy" 5 + 11) ≤ 60 * 1 by decide +kernel) (Nat.mul_le_mul_left 60 hd1)) hRl.2) hd (fun H1 locs1 hP1 hD1 hS1 => ?_)
  have hpl := va_pl_set (X := []) (e := .inl (cA, n, .inr (.inl (va_cpy (gL μ k l) (gL μ k l) sp.toNatClampNeg dp.toNatClampNeg m9.toNatClampNeg)))) hD hm hq1
  rw [List.nil_append, List.nil_append] at hpl
  rw [hpl] at hP1 hD1
  have hfn : gL (cpL μ k l k l sp.toNatClampNeg dp.toNatClampNeg m9.toNatClampNeg) k l = va_cpy (gL μ k l) (gL μ k l) sp.toNatClampNeg dp.toNatClampNeg m9.toNatClampNeg := by
    funext y
    show (if k = k ∧ l = l then _ else _) = _
    rw [if_pos ⟨rfl, rfl⟩]
    rfl
  refine k0 _ _ _ _ _ _ _ _ _ _ _ _ _ _ _ _ _ _ _ _ _ hG (C.mem (μ' := cpL μ k l k l sp.toNatClampNeg dp.toNatClampNeg m9.toNatClampNeg) (Rel.upd hK hP1 hD1 hce hinj hF (fun _ _ => rfl) (fun a c9 h => ⟨rfl, ?_, rfl⟩) ?_ hclo) hS1 (fun _ _ => rfl) (fun _ h => h)) (LVs.mem hst.tl.tl.tl.tl.tl (fun _ _ => rfl))
  · funext y
    show (if a = k ∧ c9 = l then _ else _) = _
    rw [if_neg h]
    rfl
  · rw [← hfn]
    exact CellOK.a4 hk hm0
end JAR
end
section
section JCL
variable {G : GT} {b : Bool} {cc : ByteArray} {own : String} {maxL d rc rs pc q : Nat} {lv : List (Nat × AV)} {st : List AV} {μ : Mem}
theorem Rel.moved {D : va_G} {Z : Nat} {u U : State} {H : Heap} {ρ : MA} (hvm : u.vm.Alike U.vm) (h : Rel D Z u H ρ μ) : Rel D Z U H ρ μ := by
  obtain ⟨tys, L, f, hK, h2⟩ := h
  exact ⟨tys, L, f, va_K.moved hvm hK, h2⟩
theorem AOA.moved {u U : State} (hvm : u.vm.Alike U.vm) (h : AOA u) : AOA U := by
  have h2 : (Cond.arrayOver (.array .int)).before #[] (u.setVm U.vm) = true := by rw [Cond.arrayOver_setVmC hvm]; exact h
  unfold AOA
  simp only [Cond.before, Cond.holds, Cond.value, State.vm_setVm] at h2 ⊢
  exact h2
theorem Nst.warm {s U : State} (hW : s.WarmedH U.vm) (h : Nst s) : Nst U := by
  obtain ⟨h1, h2, h3, h4⟩ := h
  refine ⟨fun w hw => ?_, h2.moved hW.alike, h3.moved hW.alike, h4.moved hW.alike⟩
  have h9 := h1 w hw
  simp only [nws, List.mem_cons, List.not_mem_nil, or_false] at hw
  rcases hw with rfl | rfl | rfl | rfl | rfl | rfl | rfl | rfl | rfl | rfl | rfl | rfl | rfl | rfl | rfl | rfl | rfl | rfl | rfl | rfl | rfl <;> exact va_Nw.warmM hW h9
theorem Nst.blind {U U' : State} (hv : U.vm = U'.vm) (h : Nst U) : Nst U' := by
  obtain ⟨h1, h2, h3, h4⟩ := h
  have ha : U.vm.Alike U'.vm := by rw [hv]; exact Vm.Alike.refl _
  refine ⟨fun w hw => ?_, h2.moved ha, h3.moved ha, h4.moved ha⟩
  have h9 := h1 w hw
  simp only [nws, List.mem_cons, List.not_mem_nil, or_false] at hw
  rcases hw with rfl | rfl | rfl | rfl | rfl | rfl | rfl | rfl | rfl | rfl | rfl | rfl | rfl | rfl | rfl | rfl | rfl | rfl | rfl | rfl | rfl <;> exact va_Nw.same rfl hv h9
theorem Stt.go {Z : Nat} {ρ : MA} {s U : State} {H : Heap} (h : Stt Z ρ s) (hvm : s.vm.Alike U.vm) (hH : U.heap = H) (hk : ∀ q : Nat, q < s.heap.size → ¬ Z ≤ q → H[q]? = s.heap[q]?) : Stt Z ρ U := by
  obtain ⟨h1, h2, h3, h4⟩ := h
  unfold Stt
  rw [hH]
  exact ⟨(h1.kept hk).moved hvm, (h2.kept hk).moved hvm, (h3.kept hk).moved hvm, (h4.kept hk).moved hvm⟩
theorem Stt.ren {Z : Nat} {ρ ρ' : MA} {s : State} (h : Stt Z ρ s) (hr : ∀ k, 900 ≤ k → ρ' k 0 = ρ k 0) : Stt Z ρ' s := by
  unfold Stt at h ⊢
  rw [hr 900 (by decide), hr 901 (by decide)]
  exact h
theorem Pq.blind {D : va_G} {Z : Nat} {ρ : MA} {as : List AV} : FrameBlind (Pq b D Z ρ as μ) := by
  intro a U g mk h
  obtain ⟨h1, h2, h3, h4, h5, h6, h7⟩ := h
  exact ⟨h1, Rel.moved (u := U) (U := U.calling g mk a) (Vm.Alike.refl U.vm) h2, Nst.blind (U := U) (U' := U.calling g mk a) rfl h3, Stt.go (s := U) (U := U.calling g mk a) h4 (Vm.Alike.refl U.vm) rfl (fun _ _ _ => rfl), h5, h6, h7⟩
theorem run_go {p : Program} {l0 : Launch} {e : Env} {R : Room} {s : State} {m : MethodId} {args : Array Value} {below : List Frame} {meth : Method} {c : Code} {Qf : State → Prop} {H : Heap} {locs : List Loc} {cells slots mc ms : Nat} {ls : Array Slot} {st0 rest : List Value} {Q : Option AV → Mem → Prop} {D : va_G} {Z : Nat} {ρ : MA} {B : Nat → Nat → Bool} {a : Array Value}
    (hr : va_Run p l0 e R s m args below meth c H locs cells slots mc ms (F0 m pc ls st0) rest (Qc b Q D Z ρ B a) (fun q => Z ≤ q)) (hS : va_S (fun q => Z ≤ q) s.heap H locs)
    (kk : ∀ (v : Option AV) (ρ' : MA) (ν : Mem) (t : State) (H1 : Heap) (locs1 : List Loc), t.heap = H1 → s.vm.Alike t.vm → Q v ν → Rel D Z t H1 ρ' ν → (∀ k l, B k l = true → gF ν k l = true ∧ ρ' k l = ρ k l) → (∀ k, 900 ≤ k → ρ' k 0 = ρ k 0) → (b = true → LinkOK ν) → LVs ν v.toList → va_S (fun q => Z ≤ q) s.heap H1 locs1 →
      W p l0 e R s m args below meth c H1 locs1 (cells + mc) (slots + ms) Qf (F0 m (pc + 3) ls ((v.map (ren ρ')).toList ++ rest))) : W p l0 e R s m args below meth c H locs cells slots Qf (F0 m pc ls st0) := by
  intro T hT X
  obtain ⟨v, st₀, t, T', L, h0, X', hL, e1, e2, ⟨⟨w, ρ', ν, hv, hq, hrel, h5, h6, h7, h8⟩, hz, hk⟩, st⟩ := hr T hT X
  cases hv
  rw [h0] at hz hk
  obtain ⟨t2, a1, b1⟩ := kk w ρ' ν t T'.heap (locs ++ L) e1.symm (by rw [← e2]; exact X'.warmed.alike) hq (by rw [e1]; exact hrel) h5 h6 h7 h8
    ⟨Nat.le_trans hS.1 (by rw [e1]; exact hz), fun q h1 h2 => by rw [e1, hk q (Nat.lt_of_lt_of_le h1 hS.1) h2]; exact hS.2.1 q h1 h2, fun q hq => by
      rcases List.mem_append.mp hq with h | h
      · exact hS.2.2 q h
      · exact hL q h⟩ T' rfl X'
  exact ⟨t2, st t2 a1, b1⟩
def catA (v : AV) : Nat := if isL v then 2 else 1
theorem ren_catA (ρ : MA) (v : AV) : (ren ρ v).category = catA v := by
  match v with
  | .inl x => rfl
  | .inr (.inl x) => rfl
  | .inr (.inr none) => rfl
  | .inr (.inr (some q)) => rfl
theorem cat_sum (ρ : MA) (st : List AV) : ((st.map (ren ρ)).map fun v => v.category).sum = (st.map catA).sum := by
  induction st with
  | nil => rfl
  | cons a l ih => simp only [List.map_cons, List.sum_cons, ih, ren_catA]
theorem ren_eq {ρ ρ' : MA} {v : AV} (hv : LV μ v) (h1 : ∀ k l, gF μ k l = true → ρ' k l = ρ k l) (h2 : ∀ k, 900 ≤ k → ρ' k 0 = ρ k 0) : ren ρ' v = ren ρ v := by
  match v, hv with
  | .inl x, _ => rfl
  | .inr (.inl x), _ => rfl
  | .inr (.inr none), _ => rfl
  | .inr (.inr (some (k, l))), hv =>
    rcases hv with hv | hv
    · show Value.ref (ρ' k l) = .ref (ρ k l)
      rw [h1 k l hv]
    · obtain ⟨h3, h4⟩ := hv
      show Value.ref (ρ' k l) = .ref (ρ k l)
      have h4 : l = 0 := h4
      rw [h4, h2 k h3]
theorem LV.up {ν : Mem} {v : AV} (hv : LV μ v) (h1 : ∀ k l, gF μ k l = true → gF ν k l = true) : LV ν v := by
  match v, hv with
  | .inl x, _ => trivial
  | .inr (.inl x), _ => trivial
  | .inr (.inr none), _ => trivial
  | .inr (.inr (some (k, l))), hv =>
    rcases hv with hv | hv
    · exact Or.inl (h1 k l hv)
    · exact Or.inr hv
/-- the context behind a call -/
theorem Cx.back {p : Program} {R : Room} {s t : State} {m : MethodId} {args : Array Value} {c : Code} {H H1 : Heap} {locs locs1 : List Loc} {cells slots mc ms : Nat} {D : va_G} {Z : Nat} {ρ ρ0 ρ' : MA} {B0 : Nat → Nat → Bool} {ls : Array Slot} {ν : Mem}
    (C : Cx b cc own maxL d (mc + rc) (ms + rs) p R s m args c H locs cells slots D Z ρ ρ0 B0 ls lv μ) (hvm : s.vm.Alike t.vm) (hR : Rel D Z t H1 ρ' ν) (h5 : ∀ k l, gF μ k l = true → gF ν k l = true ∧ ρ' k l = ρ k l) (h6 : ∀ k, 900 ≤ k → ρ' k 0 = ρ k 0) (h7 : b = true → LinkOK ν) (hS : va_S (fun q => Z ≤ q) s.heap H1 locs1) :
    Cx b cc own maxL d rc rs p R s m args c H1 locs1 (cells + mc) (slots + ms) D Z ρ' ρ0 B0 ls lv ν := by
  obtain ⟨a1, a2, a3, a4, a5, a6, a7, a8, a9, a10, a11, a12, a13, a14, a15, a16, a17, a18⟩ := C
  refine ⟨a1, a2, a3, a4, a5, a6, a7.ren h6, hR.moved hvm.symm, hS, a10, fun k l h => ?_, fun k h => (h6 k h).trans (a12 k h), h7, fun z hz => (a14 z hz).up (fun k l h => (h5 k l h).1), ?_, a16, by omega, by omega⟩
  · obtain ⟨g1, g2⟩ := a11 k l h
    exact ⟨(h5 k l g1).1, (h5 k l g1).2.trans g2⟩
  · have e : (lv.map fun q => (q.1, ren ρ' q.2)) = lv.map fun q => (q.1, ren ρ q.2) := List.map_congr_left fun z hz => by
      rw [ren_eq (a14 z hz) (fun k l h => (h5 k l h).2) h6]
    rw [e]
    exact a15
theorem good_gw {w : Cond} (h : w ∈ gw) : w ∈ gw ∧ ((w.onTables && w.keeps) = true ∨ ∃ ty, w = .arrayClass ty) := ⟨h, good_of_word (List.mem_filter.mp h).2⟩
theorem goodIn_gw {w : Cond} (h : w ∈ gw) : GoodIn gw (w :: gw) := fun x hx => by
  rcases List.mem_cons.mp hx with rfl | hx
  · exact good_gw h
  · exact good_gw hx
theorem LVs.app {a c : List AV} (h : LVs μ (a ++ c)) : LVs μ a ∧ LVs μ c := ⟨fun v hv => h v (List.mem_append_left _ hv), fun v hv => h v (List.mem_append_right _ hv)⟩

theorem J_callS {y : MethodName} {cy : ByteArray} {mL D0 mc ms i : Nat} {ret : Option FieldType} {as : List AV} {Q : Option AV → Mem → Prop} {n : Nat} (hstat : Cond.static y ∈ gw) (hM : JM b D0 y cy mL ret mc ms as μ Q) (hD : D0 + 1 ≤ d) (hmL : mL ≤ 41) (hl : Cond.methodLink own i y ∈ gw) (hcode : Cond.code y cy mL ret ∈ gw) (hini : Cond.initialized y.cls ∈ gw) (hy : y.cls ≠ "java/lang/invoke/MethodHandle" ∧ y.cls ≠ "java/lang/invoke/VarHandle" ∧ (parseMethodDescriptor y.desc).map (fun d => d.parameters.length) = some n) (hn : as.length = n) (h8 : (st.map catA).sum ≤ 8) (hd : decode cc pc = .ok (.invokestatic i, 3)) (hq : pc + 3 = q) (k0 : ∀ v ν, Q v ν → J G b cc own maxL d rc rs q lv (v.toList ++ st) ν) : J G b cc own maxL d (mc + rc) (ms + rs) pc lv (as.reverse ++ st) μ := by
  subst hq
  intro p l0 e R s m args below meth c Qf H locs cells slots D Z ρ ρ0 B0 ls hG C hst
  have hRl := C.2.2.2.2.2.2.2.2.2.2.2.2.2.2.2.1
  have hcs := C.2.2.2.2.2.2.2.2.2.2.2.2.2.2.2.2
  have hsp := hst.app
  have hla : LVs μ as := fun v hv => hsp.1 v (List.mem_reverse.mpr hv)
  have hls2 := hsp.2
  have hpre : ∀ U : State, U.heap = H → s.WarmedH U.vm → Pq b D Z ρ as μ ((as).map (ren ρ)).toArray U := fun U hU hW => ⟨rfl, by rw [hU]; exact C.rel.moved hW.alike, C.2.2.2.2.2.1.warm hW, C.2.2.2.2.2.2.1.go hW.alike hU C.hS.2.1, by rw [hU]; exact Nat.le_trans C.2.2.2.2.2.2.2.2.2.1 C.hS.1, C.2.2.2.2.2.2.2.2.2.2.2.2.1, hla⟩
  refine run_go (mc := mc) (ms := ms) (rest := st.map (ren ρ)) (va_runS (As := as.map (ren ρ)) (rest := st.map (ren ρ)) (rm := Rm (d - 1) mc ms) ⟨C.1, C.2.1, C.2.2.1, C.hown, C.hts⟩ (hM (d - 1) (by omega) l0 D Z ρ) ⟨(callB_of n C.hts (goodIn_gw hcode) rfl rfl rfl (C.hts _ hini) (C.hts _ hl) hy ⟨show d - 1 + 1 ≤ R.frames by have := hRl.1; omega, show 8 + (mL + 11) + 60 * (d - 1) ≤ R.locals by have := hRl.2; omega⟩), C.hts _ hstat⟩ ⟨Pq.blind, hpre⟩ rfl (by rw [List.length_map]; exact hn) C.hls.1 (by show (as.reverse ++ st).map (ren ρ) = _; rw [List.map_append, List.map_reverse]) (lv_room (by rw [cat_sum]; exact h8)) hd ⟨by omega, by omega⟩) C.hS (fun v ρ' ν t H1 locs1 ht hvm hQ hR h5 h6 h7 h8 hS => ?_)
  have hst2 : st.map (ren ρ) = st.map (ren ρ') := List.map_congr_left fun z hz => (ren_eq (hls2 z hz) (fun k l h => (h5 k l h).2) h6).symm
  have hvt : (v.map (ren ρ')).toList = v.toList.map (ren ρ') := by cases v <;> rfl
  rw [hst2, hvt, ← List.map_append]
  exact k0 v ν hQ _ _ _ _ _ _ _ _ _ _ _ _ _ _ _ _ _ _ _ _ _ hG (C.back hvm hR h5 h6 h7 hS) (fun z hz => by
    rcases List.mem_append.mp hz with hz | hz
    · exact h8 z hz
    · exact (hls2 z hz).up (fun k l h => (h5 k l h).1))
theorem J_callSN {y : MethodName} {cy : ByteArray} {mL D0 mc ms i : Nat} {ret : Option FieldType} {as : List AV} {Q : Option AV → Mem → Prop} {n : Nat} (hstat : Cond.static y ∈ gw) (hM : JM b D0 y cy mL ret mc ms as μ Q) (hD : D0 + 1 ≤ d) (hmL : mL ≤ 41) {host : String} (hnl : Cond.methodLinkNest own i y host ∈ nws) (hcode : Cond.code y cy mL ret ∈ gw) (hini : Cond.initialized y.cls ∈ gw) (hy : y.cls ≠ "java/lang/invoke/MethodHandle" ∧ y.cls ≠ "java/lang/invoke/VarHandle" ∧ (parseMethodDescriptor y.desc).map (fun d => d.parameters.length) = some n) (hn : as.length = n) (h8 : (st.map catA).sum ≤ 8) (hd : decode cc pc = .ok (.invokestatic i, 3)) (hq : pc + 3 = q) (k0 : ∀ v ν, Q v ν → J G b cc own maxL d rc rs q lv (v.toList ++ st) ν) : J G b cc own maxL d (mc + rc) (ms + rs) pc lv (as.reverse ++ st) μ := by
  subst hq
  intro p l0 e R s m args below meth c Qf H locs cells slots D Z ρ ρ0 B0 ls hG C hst
  have hRl := C.2.2.2.2.2.2.2.2.2.2.2.2.2.2.2.1
  have hcs := C.2.2.2.2.2.2.2.2.2.2.2.2.2.2.2.2
  have hsp := hst.app
  have hla : LVs μ as := fun v hv => hsp.1 v (List.mem_reverse.mpr hv)
  have hls2 := hsp.2
  have hpre : ∀ U : State, U.heap = H → s.WarmedH U.vm → Pq b D Z ρ as μ ((as).map (ren ρ)).toArray U := fun U hU hW => ⟨rfl, by rw [hU]; exact C.rel.moved hW.alike, C.2.2.2.2.2.1.warm hW, C.2.2.2.2.2.2.1.go hW.alike hU C.hS.2.1, by rw [hU]; exact Nat.le_trans C.2.2.2.2.2.2.2.2.2.1 C.hS.1, C.2.2.2.2.2.2.2.2.2.2.2.2.1, hla⟩
  refine run_go (mc := mc) (ms := ms) (rest := st.map (ren ρ)) (va_runSN (As := as.map (ren ρ)) (rest := st.map (ren ρ)) (rm := Rm (d - 1) mc ms) ⟨C.1, C.2.1, C.2.2.1, C.hown, C.hts⟩ (hM (d - 1) (by omega) l0 D Z ρ) ⟨(va_cnB n C.hts (goodIn_gw hcode) rfl rfl rfl (C.2.2.2.2.2.1.1 _ hnl) (C.hts _ hini) hy ⟨show d - 1 + 1 ≤ R.frames by have := hRl.1; omega, show 8 + (mL + 11) + 60 * (d - 1) ≤ R.locals by have := hRl.2; omega⟩), C.hts _ hstat, trivial⟩ ⟨Pq.blind, hpre⟩ rfl (by rw [List.length_map]; exact hn) C.hls.1 (by show (as.reverse ++ st).map (ren ρ) = _; rw [List.map_append, List.map_reverse]) (lv_room (by rw [cat_sum]; exact h8)) hd ⟨by omega, by omega⟩) C.hS (fun v ρ' ν t H1 locs1 ht hvm hQ hR h5 h6 h7 h8 hS => ?_)
  have hst2 : st.map (ren ρ) = st.map (ren ρ') := List.map_congr_left fun z hz => (ren_eq (hls2 z hz) (fun k l h => (h5 k l h).2) h6).symm
  have hvt : (v.map (ren ρ')).toList = v.toList.map (ren ρ') := by cases v <;> rfl
  rw [hst2, hvt, ← List.map_append]
  exact k0 v ν hQ _ _ _ _ _ _ _ _ _ _ _ _ _ _ _ _ _ _ _ _ _ hG (C.back hvm hR h5 h6 h7 hS) (fun z hz => by
    rcases List.mem_append.mp hz with hz | hz
    · exact h8 z hz
    · exact (hls2 z hz).up (fun k l h => (h5 k l h).1))
theorem J_callV {y : MethodName} {cy : ByteArray} {mL D0 mc ms i : Nat} {ret : Option FieldType} {as : List AV} {Q : Option AV → Mem → Prop} {n : Nat} {k l N : Nat} {T : u_T} (h13 : k < 13) (hcl : classes[k]? = some (y.cls, T, N)) (hinst : Cond.instanceMethod y ∈ gw) (hsel : Cond.selects y.cls y y ∈ gw) (hM : JM b D0 y cy mL ret mc ms (vr k l :: as) μ Q) (hD : D0 + 1 ≤ d) (hmL : mL ≤ 41) (hl : Cond.methodLink own i y ∈ gw) (hcode : Cond.code y cy mL ret ∈ gw) (hini : Cond.initialized y.cls ∈ gw) (hy : y.cls ≠ "java/lang/invoke/MethodHandle" ∧ y.cls ≠ "java/lang/invoke/VarHandle" ∧ (parseMethodDescriptor y.desc).map (fun d => d.parameters.length) = some n) (hn : as.length = n) (h8 : (st.map catA).sum ≤ 8) (hd : decode cc pc = .ok (.invokevirtual i, 3)) (hq : pc + 3 = q) (k0 : ∀ v ν, Q v ν → J G b cc own maxL d rc rs q lv (v.toList ++ st) ν) : J G b cc own maxL d (mc + rc) (ms + rs) pc lv (as.reverse ++ (vr k l :: st)) μ := by
  subst hq
  intro p l0 e R s m args below meth c Qf H locs cells slots D Z ρ ρ0 B0 ls hG C hst
  have hRl := C.2.2.2.2.2.2.2.2.2.2.2.2.2.2.2.1
  have hcs := C.2.2.2.2.2.2.2.2.2.2.2.2.2.2.2.2
  have hsp := hst.app
  have hla : LVs μ (vr k l :: as) := LVs.cs hsp.2.hd (fun v hv => hsp.1 v (List.mem_reverse.mpr hv))
  have hls2 := hsp.2.tl
  have hpre : ∀ U : State, U.heap = H → s.WarmedH U.vm → Pq b D Z ρ (vr k l :: as) μ (((vr k l :: as)).map (ren ρ)).toArray U := fun U hU hW => ⟨rfl, by rw [hU]; exact C.rel.moved hW.alike, C.2.2.2.2.2.1.warm hW, C.2.2.2.2.2.2.1.go hW.alike hU C.hS.2.1, by rw [hU]; exact Nat.le_trans C.2.2.2.2.2.2.2.2.2.1 C.hS.1, C.2.2.2.2.2.2.2.2.2.2.2.2.1, hla⟩
  have hF := (hsp.2.hd).live (Nat.lt_trans h13 (by decide))
  obtain ⟨tys, L, f, q0, hK, hP, hD9, hce, hinj, hclo, hm, hq0, hok⟩ := C.rel.at hF
  have he : (va_pl L f)[q0]? = some (ρ k l, .inr (k, fvs ρ μ k l)) := by rw [hq0, hok.1 h13]
  have hrc := va_recv hK hP hcl he
  refine run_go (mc := mc) (ms := ms) (rest := st.map (ren ρ)) (va_runV (As := as.map (ren ρ)) (rest := st.map (ren ρ)) (rm := Rm (d - 1) mc ms) ⟨C.1, C.2.1, C.2.2.1, C.hown, C.hts⟩ (hM (d - 1) (by omega) l0 D Z ρ) ⟨(callB_of n C.hts (goodIn_gw hcode) rfl rfl rfl (C.hts _ hini) (C.hts _ hl) hy ⟨show d - 1 + 1 ≤ R.frames by have := hRl.1; omega, show 8 + (mL + 11) + 60 * (d - 1) ≤ R.locals by have := hRl.2; omega⟩), C.hts _ hinst, C.hts _ hsel⟩ ⟨Pq.blind, hrc, hpre⟩ rfl (by rw [List.length_map]; exact hn) C.hls.1 (by show (as.reverse ++ (vr k l :: st)).map (ren ρ) = _; rw [List.map_append, List.map_reverse]; rfl) (lv_room (by rw [cat_sum]; exact h8)) hd ⟨by omega, by omega⟩) C.hS (fun v ρ' ν t H1 locs1 ht hvm hQ hR h5 h6 h7 h8 hS => ?_)
  have hst2 : st.map (ren ρ) = st.map (ren ρ') := List.map_congr_left fun z hz => (ren_eq (hls2 z hz) (fun k l h => (h5 k l h).2) h6).symm
  have hvt : (v.map (ren ρ')).toList = v.toList.map (ren ρ') := by cases v <;> rfl
  rw [hst2, hvt, ← List.map_append]
  exact k0 v ν hQ _ _ _ _ _ _ _ _ _ _ _ _ _ _ _ _ _ _ _ _ _ hG (C.back hvm hR h5 h6 h7 hS) (fun z hz => by
    rcases List.mem_append.mp hz with hz | hz
    · exact h8 z hz
    · exact (hls2 z hz).up (fun k l h => (h5 k l h).1))
theorem J_callI {y : MethodName} {cy : ByteArray} {mL D0 mc ms i : Nat} {as : List AV} {Q : Option AV → Mem → Prop} {n : Nat} {k l : Nat} (hk9 : k < 900) (hinst : Cond.instanceMethod y ∈ gw) (hy1 : y.name = "<init>") (hM : JM b D0 y cy mL none mc ms (vr k l :: as) μ Q) (hD : D0 + 1 ≤ d) (hmL : mL ≤ 41) (hl : Cond.methodLink own i y ∈ gw) (hcode : Cond.code y cy mL none ∈ gw) (hini : Cond.initialized y.cls ∈ gw) (hy : y.cls ≠ "java/lang/invoke/MethodHandle" ∧ y.cls ≠ "java/lang/invoke/VarHandle" ∧ (parseMethodDescriptor y.desc).map (fun d => d.parameters.length) = some n) (hn : as.length = n) (h8 : (st.map catA).sum ≤ 8) (hd : decode cc pc = .ok (.invokespecial i, 3)) (hq : pc + 3 = q) (k0 : ∀ v ν, Q v ν → J G b cc own maxL d rc rs q lv (v.toList ++ st) ν) : J G b cc own maxL d (mc + rc) (ms + rs) pc lv (as.reverse ++ (vr k l :: st)) μ := by
  subst hq
  intro p l0 e R s m args below meth c Qf H locs cells slots D Z ρ ρ0 B0 ls hG C hst
  have hRl := C.2.2.2.2.2.2.2.2.2.2.2.2.2.2.2.1
  have hcs := C.2.2.2.2.2.2.2.2.2.2.2.2.2.2.2.2
  have hsp := hst.app
  have hla : LVs μ (vr k l :: as) := LVs.cs hsp.2.hd (fun v hv => hsp.1 v (List.mem_reverse.mpr hv))
  have hls2 := hsp.2.tl
  have hpre : ∀ U : State, U.heap = H → s.WarmedH U.vm → Pq b D Z ρ (vr k l :: as) μ (((vr k l :: as)).map (ren ρ)).toArray U := fun U hU hW => ⟨rfl, by rw [hU]; exact C.rel.moved hW.alike, C.2.2.2.2.2.1.warm hW, C.2.2.2.2.2.2.1.go hW.alike hU C.hS.2.1, by rw [hU]; exact Nat.le_trans C.2.2.2.2.2.2.2.2.2.1 C.hS.1, C.2.2.2.2.2.2.2.2.2.2.2.2.1, hla⟩
  refine run_go (mc := mc) (ms := ms) (rest := st.map (ren ρ)) (va_runI (As := as.map (ren ρ)) (rest := st.map (ren ρ)) (rm := Rm (d - 1) mc ms) ⟨C.1, C.2.1, C.2.2.1, C.hown, C.hts⟩ (hM (d - 1) (by omega) l0 D Z ρ) ⟨(callB_of n C.hts (goodIn_gw hcode) rfl rfl rfl (C.hts _ hini) (C.hts _ hl) hy ⟨show d - 1 + 1 ≤ R.frames by have := hRl.1; omega, show 8 + (mL + 11) + 60 * (d - 1) ≤ R.locals by have := hRl.2; omega⟩), hy1, C.hts _ hinst⟩ ⟨Pq.blind, hpre⟩ rfl (by rw [List.length_map]; exact hn) C.hls.1 (by show (as.reverse ++ (vr k l :: st)).map (ren ρ) = _; rw [List.map_append, List.map_reverse]; rfl) (lv_room (by rw [cat_sum]; exact h8)) hd ⟨by omega, by omega⟩) C.hS (fun v ρ' ν t H1 locs1 ht hvm hQ hR h5 h6 h7 h8 hS => ?_)
  have hst2 : st.map (ren ρ) = st.map (ren ρ') := List.map_congr_left fun z hz => (ren_eq (hls2 z hz) (fun k l h => (h5 k l h).2) h6).symm
  have hvt : (v.map (ren ρ')).toList = v.toList.map (ren ρ') := by cases v <;> rfl
  rw [hst2, hvt, ← List.map_append]
  exact k0 v ν hQ _ _ _ _ _ _ _ _ _ _ _ _ _ _ _ _ _ _ _ _ _ hG (C.back hvm hR h5 h6 h7 hS) (fun z hz => by
    rcases List.mem_append.mp hz with hz | hz
    · exact h8 z hz
    · exact (hls2 z hz).up (fun k l h => (h5 k l h).1))
theorem J_callIN {y : MethodName} {cy : ByteArray} {mL D0 mc ms i : Nat} {as : List AV} {Q : Option AV → Mem → Prop} {n : Nat} {k l : Nat} (hk9 : k < 900) (hinst : Cond.instanceMethod y ∈ gw) (hy1 : y.name = "<init>") (hM : JM b D0 y cy mL none mc ms (vr k l :: as) μ Q) (hD : D0 + 1 ≤ d) (hmL : mL ≤ 41) {host : String} (hnl : Cond.methodLinkNest own i y host ∈ nws) (hcode : Cond.code y cy mL none ∈ gw) (hini : Cond.initialized y.cls ∈ gw) (hy : y.cls ≠ "java/lang/invoke/MethodHandle" ∧ y.cls ≠ "java/lang/invoke/VarHandle" ∧ (parseMethodDescriptor y.desc).map (fun d => d.parameters.length) = some n) (hn : as.length = n) (h8 : (st.map catA).sum ≤ 8) (hd : decode cc pc = .ok (.invokespecial i, 3)) (hq : pc + 3 = q) (k0 : ∀ v ν, Q v ν → J G b cc own maxL d rc rs q lv (v.toList ++ st) ν) : J G b cc own maxL d (mc + rc) (ms + rs) pc lv (as.reverse ++ (vr k l :: st)) μ := by
  subst hq
  intro p l0 e R s m args below meth c Qf H locs cells slots D Z ρ ρ0 B0 ls hG C hst
  have hRl := C.2.2.2.2.2.2.2.2.2.2.2.2.2.2.2.1
  have hcs := C.2.2.2.2.2.2.2.2.2.2.2.2.2.2.2.2
  have hsp := hst.app
  have hla : LVs μ (vr k l :: as) := LVs.cs hsp.2.hd (fun v hv => hsp.1 v (List.mem_reverse.mpr hv))
  have hls2 := hsp.2.tl
  have hpre : ∀ U : State, U.heap = H → s.WarmedH U.vm → Pq b D Z ρ (vr k l :: as) μ (((vr k l :: as)).map (ren ρ)).toArray U := fun U hU hW => ⟨rfl, by rw [hU]; exact C.rel.moved hW.alike, C.2.2.2.2.2.1.warm hW, C.2.2.2.2.2.2.1.go hW.alike hU C.hS.2.1, by rw [hU]; exact Nat.le_trans C.2.2.2.2.2.2.2.2.2.1 C.hS.1, C.2.2.2.2.2.2.2.2.2.2.2.2.1, hla⟩
  refine run_go (mc := mc) (ms := ms) (rest := st.map (ren ρ)) (va_runIN (As := as.map (ren ρ)) (rest := st.map (ren ρ)) (rm := Rm (d - 1) mc ms) ⟨C.1, C.2.1, C.2.2.1, C.hown, C.hts⟩ (hM (d - 1) (by omega) l0 D Z ρ) ⟨(va_cnB n C.hts (goodIn_gw hcode) rfl rfl rfl (C.2.2.2.2.2.1.1 _ hnl) (C.hts _ hini) hy ⟨show d - 1 + 1 ≤ R.frames by have := hRl.1; omega, show 8 + (mL + 11) + 60 * (d - 1) ≤ R.locals by have := hRl.2; omega⟩), hy1, C.hts _ hinst⟩ ⟨Pq.blind, hpre⟩ rfl (by rw [List.length_map]; exact hn) C.hls.1 (by show (as.reverse ++ (vr k l :: st)).map (ren ρ) = _; rw [List.map_append, List.map_reverse]; rfl) (lv_room (by rw [cat_sum]; exact h8)) hd ⟨by omega, by omega⟩) C.hS (fun v ρ' ν t H1 locs1 ht hvm hQ hR h5 h6 h7 h8 hS => ?_)
  have hst2 : st.map (ren ρ) = st.map (ren ρ') := List.map_congr_left fun z hz => (ren_eq (hls2 z hz) (fun k l h => (h5 k l h).2) h6).symm
  have hvt : (v.map (ren ρ')).toList = v.toList.map (ren ρ') := by cases v <;> rfl
  rw [hst2, hvt, ← List.map_append]
  exact k0 v ν hQ _ _ _ _ _ _ _ _ _ _ _ _ _ _ _ _ _ _ _ _ _ hG (C.back hvm hR h5 h6 h7 hS) (fun z hz => by
    rcases List.mem_append.mp hz with hz | hz
    · exact h8 z hz
    · exact (hls2 z hz).up (fun k l h => (h5 k l h).1))
theorem J_objInit {k l i : Nat} (hd1 : 1 ≤ d) (h8 : (st.map catA).sum ≤ 8) (hl : Cond.methodLink own i Lib.objectInit ∈ gw) (hin : Cond.instanceMethod Lib.objectInit ∈ gw) (hco : Cond.code Lib.objectInit ⟨#[0xb1]⟩ 1 none ∈ gw) (hd : decode cc pc = .ok (.invokespecial i, 3)) (hq : pc + 3 = q) (k0 : J G b cc own maxL d rc rs q lv st μ) : J G b cc own maxL d rc rs pc lv (vr k l :: st) μ := by
  subst hq
  intro p l0 e R s m args below meth c Qf H locs cells slots D Z ρ ρ0 B0 ls hG C hst
  have hRl := C.2.2.2.2.2.2.2.2.2.2.2.2.2.2.2.1
  refine W.objInit C.1 C.2.1 C.hown (C.hts _ hl) (C.hts _ hin) (C.hts _ hco) rfl (C.hls.1.trans C.2.2.1.symm) rfl hd (Nat.le_trans hd1 hRl.1) ?_ ?_
  · have h9 := lv_room (m := m) (pc := pc) (ls := ls) (rest := st.map (ren ρ)) (st := st.map (ren ρ)) (by rw [cat_sum]; exact h8)
    have h10 : 2 * (F0 m pc ls (List.map (ren ρ) (vr k l :: st))).monitorRoom = 2 * (F0 m pc ls (st.map (ren ρ))).monitorRoom := rfl
    omega
  · exact k0 _ _ _ _ _ _ _ _ _ _ _ _ _ _ _ _ _ _ _ _ _ hG C hst.tl
theorem J_iret {b' : Bool} {Q : Option AV → Mem → Prop} {nm : String} {x : Int32} (hb : b = b') (hq : Q (some (vi x)) μ) (hd : decode cc pc = .ok (.ireturn, 1)) : J (GM b' Q (some .int) nm) b cc own maxL d rc rs pc lv [vi x] μ := by
  intro p l0 e R s m args below meth c Qf H locs cells slots D Z ρ ρ0 B0 ls hG C hst
  subst hb
  obtain ⟨hrt, hlk, hnm, rfl⟩ := hG
  have hcs := C.2.2.2.2.2.2.2.2.2.2.2.2.2.2.2.2
  refine W.widen (k := R.cells) (n := R.slots) (by omega) (by omega) ?_
  refine W.iret C.1 C.2.1 hrt (fun t ht hW => ⟨⟨some (vi x), ρ, μ, rfl, hq, by rw [ht]; exact C.rel.moved hW.alike, C.2.2.2.2.2.2.2.2.2.2.1, C.2.2.2.2.2.2.2.2.2.2.2.1, C.2.2.2.2.2.2.2.2.2.2.2.2.1, hst⟩, C.hS.F ht⟩) C.hS.2.2 hd hlk
theorem J_zret {b' : Bool} {Q : Option AV → Mem → Prop} {nm : String} {x : Int32} (hz : x = 0 ∨ x = 1) (hb : b = b') (hq : Q (some (vi x)) μ) (hd : decode cc pc = .ok (.ireturn, 1)) : J (GM b' Q (some .boolean) nm) b cc own maxL d rc rs pc lv [vi x] μ := by
  intro p l0 e R s m args below meth c Qf H locs cells slots D Z ρ ρ0 B0 ls hG C hst
  subst hb
  obtain ⟨hrt, hlk, hnm, rfl⟩ := hG
  have hcs := C.2.2.2.2.2.2.2.2.2.2.2.2.2.2.2.2
  refine W.widen (k := R.cells) (n := R.slots) (by omega) (by omega) ?_
  refine W.zret C.1 C.2.1 hrt (by rcases hz with rfl | rfl <;> rfl) (fun t ht hW => ⟨⟨some (vi x), ρ, μ, rfl, hq, by rw [ht]; exact C.rel.moved hW.alike, C.2.2.2.2.2.2.2.2.2.2.1, C.2.2.2.2.2.2.2.2.2.2.2.1, C.2.2.2.2.2.2.2.2.2.2.2.2.1, hst⟩, C.hS.F ht⟩) C.hS.2.2 hd hlk
theorem J_lret {b' : Bool} {Q : Option AV → Mem → Prop} {nm : String} {x : Int64} (hb : b = b') (hq : Q (some (vl x)) μ) (hd : decode cc pc = .ok (.lreturn, 1)) : J (GM b' Q (some .long) nm) b cc own maxL d rc rs pc lv [vl x] μ := by
  intro p l0 e R s m args below meth c Qf H locs cells slots D Z ρ ρ0 B0 ls hG C hst
  subst hb
  obtain ⟨hrt, hlk, hnm, rfl⟩ := hG
  have hcs := C.2.2.2.2.2.2.2.2.2.2.2.2.2.2.2.2
  refine W.widen (k := R.cells) (n := R.slots) (by omega) (by omega) ?_
  refine W.lret C.1 C.2.1 hrt (fun t ht hW => ⟨⟨some (vl x), ρ, μ, rfl, hq, by rw [ht]; exact C.rel.moved hW.alike, C.2.2.2.2.2.2.2.2.2.2.1, C.2.2.2.2.2.2.2.2.2.2.2.1, C.2.2.2.2.2.2.2.2.2.2.2.2.1, hst⟩, C.hS.F ht⟩) C.hS.2.2 hd hlk
theorem J_vret {b' : Bool} {Q : Option AV → Mem → Prop} {nm : String}  (hb : b = b') (hq : Q none μ) (hd : decode cc pc = .ok (.return_, 1)) : J (GM b' Q none nm) b cc own maxL d rc rs pc lv [] μ := by
  intro p l0 e R s m args below meth c Qf H locs cells slots D Z ρ ρ0 B0 ls hG C hst
  subst hb
  obtain ⟨hrt, hlk, hnm, rfl⟩ := hG
  have hcs := C.2.2.2.2.2.2.2.2.2.2.2.2.2.2.2.2
  refine W.widen (k := R.cells) (n := R.slots) (by omega) (by omega) ?_
  refine W.vret C.1 C.2.1 hrt (fun t ht hW => ⟨⟨none, ρ, μ, rfl, hq, by rw [ht]; exact C.rel.moved hW.alike, C.2.2.2.2.2.2.2.2.2.2.1, C.2.2.2.2.2.2.2.2.2.2.2.1, C.2.2.2.2.2.2.2.2.2.2.2.2.1, (fun _ h => by cases h)⟩, C.hS.F ht⟩) C.hS.2.2 hd hlk
theorem J_aret {b' : Bool} {Q : Option AV → Mem → Prop} {nm : String} {k9 : Nat} {x : Option Nat} {C9 : String} (hb : b = b') (hq : Q (some (vo k9 x)) μ) (hd : decode cc pc = .ok (.areturn, 1)) : J (GM b' Q (some (.object C9)) nm) b cc own maxL d rc rs pc lv [vo k9 x] μ := by
  intro p l0 e R s m args below meth c Qf H locs cells slots D Z ρ ρ0 B0 ls hG C hst
  subst hb
  obtain ⟨hrt, hlk, hnm, rfl⟩ := hG
  have hcs := C.2.2.2.2.2.2.2.2.2.2.2.2.2.2.2.2
  refine W.widen (k := R.cells) (n := R.slots) (by omega) (by omega) ?_
  refine W.aret C.1 C.2.1 hrt (Or.inl ⟨_, rfl⟩) (by cases x; exact Or.inl rfl; exact Or.inr ⟨_, rfl⟩) (fun t ht hW => ⟨⟨some (vo k9 x), ρ, μ, rfl, hq, by rw [ht]; exact C.rel.moved hW.alike, C.2.2.2.2.2.2.2.2.2.2.1, C.2.2.2.2.2.2.2.2.2.2.2.1, C.2.2.2.2.2.2.2.2.2.2.2.2.1, hst⟩, C.hS.F ht⟩) C.hS.2.2 hd hlk
def lva : Nat → List AV → List (Nat × AV)
  | _, [] => []
  | i, v :: vs => (i, v) :: lva (if isL v then i + 2 else i + 1) vs
theorem lva_map (ρ : MA) (as : List AV) : ∀ i, lv_args i (as.map (ren ρ)) = (lva i as).map fun q => (q.1, ren ρ q.2) := by
  induction as with
  | nil => intro i; rfl
  | cons a l ih =>
    intro i
    simp only [List.map_cons, lv_args, lva, ih, ren_catA, catA]
    cases isL a <;> rfl
theorem lva_in (as : List AV) : ∀ i, ∀ q ∈ lva i as, q.2 ∈ as := by
  induction as with
  | nil => intro i q h; cases h
  | cons a l ih =>
    intro i q h
    rcases List.mem_cons.mp h with rfl | h
    · exact List.mem_cons_self
    · exact List.mem_cons_of_mem _ (ih _ q h)
theorem JM.of {D0 : Nat} {y : MethodName} {ret : Option FieldType} {as : List AV} {Q : Option AV → Mem → Prop} (hy : plainName y.cls = true) (hl : ∀ ρ : MA, (lg_sl (as.map (ren ρ))).length ≤ maxL) (k : J (GM b Q ret y.name) b cc y.cls maxL D0 rc rs 0 (lva 0 as) [] μ) : JM b D0 y cc maxL ret rc rs as μ Q := by
  intro d9 hd9 l0 D Z ρ
  refine Met.ofW (cc := cc) (maxL := maxL) (ret := ret) hy rfl ?_
  intro p e s m args below meth c s₁ B hml hv
  obtain ⟨rfl, hRel, hN, hSt, hZ, hL, hLV⟩ := hv
  have hts := atoms_spec (ws := Cond.code y cc maxL ret :: gw) B.pre
  have hown : s.vm.findClass y.cls = some m.cls := findClass_of_methodNamed B.named
  have hnm : meth.name = y.name := (name_of_methodNamed B.named B.method).1
  have hls := lv_entry (as.map (ren ρ)) (n := maxL) (hl ρ)
  rw [lg_entry_eq]
  generalize (lg_sl (as.map (ren ρ)) ++ List.replicate (maxL - (lg_sl (as.map (ren ρ))).length) Slot.unset).toArray = ls at hls ⊢
  rw [lva_map] at hls
  exact k p l0 e _ s m _ below meth c _ s.heap [] 0 0 D Z ρ ρ (gF μ) ls ⟨B.returns, B.notSynchronized, hnm, rfl⟩ ⟨B.exec, B.bytes, hml, hown, fun w hw => hts w (List.mem_cons_of_mem _ hw), hN, hSt, hRel, va_S.rf, hZ, fun k l h => ⟨h, rfl⟩, fun _ _ => rfl, hL, fun q hq => hLV _ (lva_in as 0 q hq), hls, ⟨hd9, Nat.mul_le_mul_left 60 hd9⟩, by show 0 + rc ≤ rc; omega, by show 0 + rs ≤ rs; omega⟩ (fun _ h => by cases h)
theorem JM.mono {D0 : Nat} {y : MethodName} {ret : Option FieldType} {as : List AV} {Q Q' : Option AV → Mem → Prop} (h : JM b D0 y cc maxL ret rc rs as μ Q) (hq : ∀ v ν, Q v ν → Q' v ν) : JM b D0 y cc maxL ret rc rs as μ Q' := by
  intro d9 hd9 l0 D Z ρ p e ha hc hk s m args below hf h1 h2 h3
  obtain ⟨k, o, g1, g2, g3, ⟨⟨v, ρ', ν, e1, e2, e3⟩, g5⟩, g6⟩ := h d9 hd9 l0 D Z ρ p e ha hc hk s m args below hf h1 h2 h3
  exact ⟨k, o, g1, g2, g3, ⟨⟨v, ρ', ν, e1, hq v ν e2, e3⟩, g5⟩, g6⟩
end JCL
end
section
def ap {α β : Type} (x : α) (f : α → β) : β := f x
theorem ap_eq {α β : Type} {x : α} {f : α → β} {y : β} (h : ap x f = y) : ∃ a, a = x ∧ f a = y := ⟨x, rfl, h⟩
theorem bd_some {α β : Type} {x : Option α} {f : α → Option β} {y : β} (h : x.bind f = some y) : ∃ a, x = some a ∧ f a = some y := by
  cases x with
  | none => cases h
  | some a => exact ⟨a, rfl, h⟩
def gu {α : Type} (i : Int32) (n : Nat) (x : Option α) : Option α := if 0 ≤ i.toInt ∧ i.toInt < (n : Int) then x else none
theorem gu_some {α : Type} {i : Int32} {n : Nat} {x : Option α} {y : α} (h : gu i n x = some y) : (0 ≤ i.toInt ∧ i.toInt < (n : Int)) ∧ x = some y := by
  unfold gu at h
  split at h
  · rename_i c; exact ⟨c, h⟩
  · cases h
def gz {α : Type} (y : Int32) (x : Option α) : Option α := if y = 0 then none else x
theorem gz_some {α : Type} {i : Int32} {x : Option α} {y : α} (h : gz i x = some y) : ¬ i = 0 ∧ x = some y := by
  unfold gz at h
  split at h
  · cases h
  · rename_i c; exact ⟨c, h⟩
def gzl {α : Type} (y : Int64) (x : Option α) : Option α := if y = 0 then none else x
theorem gzl_some {α : Type} {i : Int64} {x : Option α} {y : α} (h : gzl i x = some y) : ¬ i = 0 ∧ x = some y := by
  unfold gzl at h
  split at h
  · cases h
  · rename_i c; exact ⟨c, h⟩
/-- System.arraycopy's conditions -/
def gcp {α : Type} (sp dp m : Int32) (n : Nat) (x : Option α) : Option α := if (¬ sp < 0 ∧ ¬ dp < 0 ∧ ¬ m < 0) ∧ sp.toNatClampNeg + m.toNatClampNeg ≤ n ∧ dp.toNatClampNeg + m.toNatClampNeg ≤ n then x else none
theorem gcp_some {α : Type} {sp dp m : Int32} {n : Nat} {x : Option α} {y : α} (h : gcp sp dp m n x = some y) : ((¬ sp < 0 ∧ ¬ dp < 0 ∧ ¬ m < 0) ∧ sp.toNatClampNeg + m.toNatClampNeg ≤ n ∧ dp.toNatClampNeg + m.toNatClampNeg ≤ n) ∧ x = some y := by
  unfold gcp at h
  split at h
  · rename_i c; exact ⟨c, h⟩
  · cases h
def b2i (B : Bool) : Int32 := if B then 1 else 0
theorem b2i01 (B : Bool) : b2i B = 0 ∨ b2i B = 1 := by cases B <;> simp [b2i]
theorem b2i_f {B : Bool} (h : b2i B = 0) : B = false := by cases B with | false => rfl | true => exact absurd h (by decide)
theorem b2i_t {B : Bool} (h : ¬ b2i B = 0) : B = true := by cases B with | true => rfl | false => exact absurd rfl h
def zb (x : Int32) : Option Bool := if x = 0 then some false else if x = 1 then some true else none
theorem zb_some {x : Int32} {α : Type} {f : Bool → Option α} {y : α} (h : (zb x).bind f = some y) : ∃ B, x = b2i B ∧ f B = some y := by
  unfold zb at h
  split at h
  · rename_i c; exact ⟨false, c, h⟩
  · split at h
    · rename_i c; exact ⟨true, c, h⟩
    · cases h
def z01 {α : Type} (x : Int32) (y : Option α) : Option α := if x = 0 ∨ x = 1 then y else none
theorem z01_some {α : Type} {i : Int32} {x : Option α} {y : α} (h : z01 i x = some y) : (i = 0 ∨ i = 1) ∧ x = some y := by
  unfold z01 at h
  split at h
  · rename_i c; exact ⟨c, h⟩
  · cases h
theorem iB_f {B : Bool} (hc : B = false) {α : Type} (x y : α) : (if B = true then x else y) = y := by subst hc; rfl
theorem iB_t {B : Bool} (hc : B = true) {α : Type} (x y : α) : (if B = true then x else y) = x := by subst hc; rfl
def oc {α β : Type} (o : Option α) (a : β) (f : α → β) : β := match o with
  | none => a
  | some y => f y
theorem oc_none {α β : Type} (a : β) (f : α → β) : oc none a f = a := rfl
theorem oc_some {α β : Type} (y : α) (a : β) (f : α → β) : oc (some y) a f = f y := rfl
def FU : Nat := 100000
section J8
variable {G : GT} {b : Bool} {cc : ByteArray} {own : String} {maxL d rc rs pc q : Nat} {lv : List (Nat × AV)} {st : List AV} {μ : Mem}
theorem J_nmI {x e : Int32} (h : x = e) (k : J G b cc own maxL d rc rs pc lv (vi x :: st) μ) : J G b cc own maxL d rc rs pc lv (vi e :: st) μ := by subst h; exact k
theorem J_nmL {x e : Int64} (h : x = e) (k : J G b cc own maxL d rc rs pc lv (vl x :: st) μ) : J G b cc own maxL d rc rs pc lv (vl e :: st) μ := by subst h; exact k
theorem J_nmO {x e : Option Nat} {k9 : Nat} (h : x = e) (k : J G b cc own maxL d rc rs pc lv (vo k9 x :: st) μ) : J G b cc own maxL d rc rs pc lv (vo k9 e :: st) μ := by subst h; exact k
theorem J_nmM {x e : Mem} (h : x = e) (k : J G b cc own maxL d rc rs pc lv st x) : J G b cc own maxL d rc rs pc lv st e := by subst h; exact k
theorem J_pick {lv' : List (Nat × AV)} (ks : List Nat) (hp : ks.filterMap (fun k => lv[k]?) = lv') (k : J G b cc own maxL d rc rs pc lv' st μ) : J G b cc own maxL d rc rs pc lv st μ := by
  refine J_sub (fun z hz => ?_) k
  rw [← hp] at hz
  obtain ⟨i, -, hi⟩ := List.mem_filterMap.mp hz
  exact List.mem_of_getElem? hi
theorem J_ifB_eq {B : Bool} {off : Int} {tgt : Nat} (hd : decode cc pc = .ok (.ifCond .eq off, 3)) (ht : (pc : Int) + off = (tgt : Int)) (hq : pc + 3 = q) (kt : B = false → J G b cc own maxL d rc rs tgt lv st μ) (kf : B = true → J G b cc own maxL d rc rs q lv st μ) : J G b cc own maxL d rc rs pc lv (vi (b2i B) :: st) μ := J_if_eq hd ht hq (fun h => kt (b2i_f h)) (fun h => kf (b2i_t h))
theorem J_ifB_ne {B : Bool} {off : Int} {tgt : Nat} (hd : decode cc pc = .ok (.ifCond .ne off, 3)) (ht : (pc : Int) + off = (tgt : Int)) (hq : pc + 3 = q) (kt : B = true → J G b cc own maxL d rc rs tgt lv st μ) (kf : B = false → J G b cc own maxL d rc rs q lv st μ) : J G b cc own maxL d rc rs pc lv (vi (b2i B) :: st) μ := J_if_ne hd ht hq (fun h => kt (b2i_t h)) (fun h => kf (b2i_f h))
theorem J_nullO {x : Option Nat} {k9 : Nat} {off : Int} {tgt : Nat} (hd : decode cc pc = .ok (.ifnull off, 3)) (ht : (pc : Int) + off = (tgt : Int)) (hq : pc + 3 = q) (kt : x = none → J G b cc own maxL d rc rs tgt lv st μ) (kf : ∀ y, x = some y → J G b cc own maxL d rc rs q lv st μ) : J G b cc own maxL d rc rs pc lv (vo k9 x :: st) μ :=
  J_ifnull hd ht hq (fun h => kt (by cases x with | none => rfl | some y => cases h)) (fun z h => by cases x with | none => cases h | some y => exact kf y rfl)
theorem J_nonnullO {x : Option Nat} {k9 : Nat} {off : Int} {tgt : Nat} (hd : decode cc pc = .ok (.ifnonnull off, 3)) (ht : (pc : Int) + off = (tgt : Int)) (hq : pc + 3 = q) (kt : ∀ y, x = some y → J G b cc own maxL d rc rs tgt lv st μ) (kf : x = none → J G b cc own maxL d rc rs q lv st μ) : J G b cc own maxL d rc rs pc lv (vo k9 x :: st) μ :=
  J_ifnonnull hd ht hq (fun z h => by cases x with | none => cases h | some y => exact kt y rfl) (fun h => kf (by cases x with | none => rfl | some y => cases h))
theorem J_callSq {y : MethodName} {cy : ByteArray} {mL D0 mc ms i : Nat} {ret : Option FieldType} {as : List AV} {n : Nat} {ν : Mem} {v : AV} (hstat : Cond.static y ∈ gw) (hM : JM b D0 y cy mL ret mc ms as μ (QQ (some v) ν)) (hD : D0 + 1 ≤ d) (hmL : mL ≤ 41) (hl : Cond.methodLink own i y ∈ gw) (hcode : Cond.code y cy mL ret ∈ gw) (hini : Cond.initialized y.cls ∈ gw) (hy : y.cls ≠ "java/lang/invoke/MethodHandle" ∧ y.cls ≠ "java/lang/invoke/VarHandle" ∧ (parseMethodDescriptor y.desc).map (fun d => d.parameters.length) = some n) (hn : as.length = n) (h8 : (st.map catA).sum ≤ 8) (hd : decode cc pc = .ok (.invokestatic i, 3)) (hq : pc + 3 = q) (k0 : J G b cc own maxL d rc rs q lv (v :: st) ν) : J G b cc own maxL d (mc + rc) (ms + rs) pc lv (as.reverse ++ st) μ :=
  J_callS hstat hM hD hmL hl hcode hini hy hn h8 hd hq (fun v9 ν9 h9 => by obtain ⟨rfl, rfl⟩ := h9; exact k0)
theorem J_callSv {y : MethodName} {cy : ByteArray} {mL D0 mc ms i : Nat} {ret : Option FieldType} {as : List AV} {n : Nat} {ν : Mem} (hstat : Cond.static y ∈ gw) (hM : JM b D0 y cy mL ret mc ms as μ (QQ none ν)) (hD : D0 + 1 ≤ d) (hmL : mL ≤ 41) (hl : Cond.methodLink own i y ∈ gw) (hcode : Cond.code y cy mL ret ∈ gw) (hini : Cond.initialized y.cls ∈ gw) (hy : y.cls ≠ "java/lang/invoke/MethodHandle" ∧ y.cls ≠ "java/lang/invoke/VarHandle" ∧ (parseMethodDescriptor y.desc).map (fun d => d.parameters.length) = some n) (hn : as.length = n) (h8 : (st.map catA).sum ≤ 8) (hd : decode cc pc = .ok (.invokestatic i, 3)) (hq : pc + 3 = q) (k0 : J G b cc own maxL d rc rs q lv st ν) : J G b cc own maxL d (mc + rc) (ms + rs) pc lv (as.reverse ++ st) μ :=
  J_callS hstat hM hD hmL hl hcode hini hy hn h8 hd hq (fun v9 ν9 h9 => by obtain ⟨rfl, rfl⟩ := h9; exact k0)
theorem J_callSNq {y : MethodName} {cy : ByteArray} {mL D0 mc ms i : Nat} {ret : Option FieldType} {as : List AV} {n : Nat} {ν : Mem} {v : AV} (hstat : Cond.static y ∈ gw) (hM : JM b D0 y cy mL ret mc ms as μ (QQ (some v) ν)) (hD : D0 + 1 ≤ d) (hmL : mL ≤ 41) {host : String} (hnl : Cond.methodLinkNest own i y host ∈ nws) (hcode : Cond.code y cy mL ret ∈ gw) (hini : Cond.initialized y.cls ∈ gw) (hy : y.cls ≠ "java/lang/invoke/MethodHandle" ∧ y.cls ≠ "java/lang/invoke/VarHandle" ∧ (parseMethodDescriptor y.desc).map (fun d => d.parameters.length) = some n) (hn : as.length = n) (h8 : (st.map catA).sum ≤ 8) (hd : decode cc pc = .ok (.invokestatic i, 3)) (hq : pc + 3 = q) (k0 : J G b cc own maxL d rc rs q lv (v :: st) ν) : J G b cc own maxL d (mc + rc) (ms + rs) pc lv (as.reverse ++ st) μ :=
  J_callSN hstat hM hD hmL hnl hcode hini hy hn h8 hd hq (fun v9 ν9 h9 => by obtain ⟨rfl, rfl⟩ := h9; exact k0)
theorem J_callSNv {y : MethodName} {cy : ByteArray} {mL D0 mc ms i : Nat} {ret : Option FieldType} {as : List AV} {n : Nat} {ν : Mem} (hstat : Cond.static y ∈ gw) (hM : JM b D0 y cy mL ret mc ms as μ (QQ none ν)) (hD : D0 + 1 ≤ d) (hmL : mL ≤ 41) {host : String} (hnl : Cond.methodLinkNest own i y host ∈ nws) (hcode : Cond.code y cy mL ret ∈ gw) (hini : Cond.initialized y.cls ∈ gw) (hy : y.cls ≠ "java/lang/invoke/MethodHandle" ∧ y.cls ≠ "java/lang/invoke/VarHandle" ∧ (parseMethodDescriptor y.desc).map (fun d => d.parameters.length) = some n) (hn : as.length = n) (h8 : (st.map catA).sum ≤ 8) (hd : decode cc pc = .ok (.invokestatic i, 3)) (hq : pc + 3 = q) (k0 : J G b cc own maxL d rc rs q lv st ν) : J G b cc own maxL d (mc + rc) (ms + rs) pc lv (as.reverse ++ st) μ :=
  J_callSN hstat hM hD hmL hnl hcode hini hy hn h8 hd hq (fun v9 ν9 h9 => by obtain ⟨rfl, rfl⟩ := h9; exact k0)
theorem J_callVq {y : MethodName} {cy : ByteArray} {mL D0 mc ms i : Nat} {ret : Option FieldType} {as : List AV} {n : Nat} {ν : Mem} {v : AV} {k l N : Nat} {T : u_T} (h13 : k < 13) (hcl : classes[k]? = some (y.cls, T, N)) (hinst : Cond.instanceMethod y ∈ gw) (hsel : Cond.selects y.cls y y ∈ gw) (hM : JM b D0 y cy mL ret mc ms (vr k l :: as) μ (QQ (some v) ν)) (hD : D0 + 1 ≤ d) (hmL : mL ≤ 41) (hl : Cond.methodLink own i y ∈ gw) (hcode : Cond.code y cy mL ret ∈ gw) (hini : Cond.initialized y.cls ∈ gw) (hy : y.cls ≠ "java/lang/invoke/MethodHandle" ∧ y.cls ≠ "java/lang/invoke/VarHandle" ∧ (parseMethodDescriptor y.desc).map (fun d => d.parameters.length) = some n) (hn : as.length = n) (h8 : (st.map catA).sum ≤ 8) (hd : decode cc pc = .ok (.invokevirtual i, 3)) (hq : pc + 3 = q) (k0 : J G b cc own maxL d rc rs q lv (v :: st) ν) : J G b cc own maxL d (mc + rc) (ms + rs) pc lv (as.reverse ++ (vr k l :: st)) μ :=
  J_callV h13 hcl hinst hsel hM hD hmL hl hcode hini hy hn h8 hd hq (fun v9 ν9 h9 => by obtain ⟨rfl, rfl⟩ := h9; exact k0)
theorem J_callVv {y : MethodName} {cy : ByteArray} {mL D0 mc ms i : Nat} {ret : Option FieldType} {as : List AV} {n : Nat} {ν : Mem} {k l N : Nat} {T : u_T} (h13 : k < 13) (hcl : classes[k]? = some (y.cls, T, N)) (hinst : Cond.instanceMethod y ∈ gw) (hsel : Cond.selects y.cls y y ∈ gw) (hM : JM b D0 y cy mL ret mc ms (vr k l :: as) μ (QQ none ν)) (hD : D0 + 1 ≤ d) (hmL : mL ≤ 41) (hl : Cond.methodLink own i y ∈ gw) (hcode : Cond.code y cy mL ret ∈ gw) (hini : Cond.initialized y.cls ∈ gw) (hy : y.cls ≠ "java/lang/invoke/MethodHandle" ∧ y.cls ≠ "java/lang/invoke/VarHandle" ∧ (parseMethodDescriptor y.desc).map (fun d => d.parameters.length) = some n) (hn : as.length = n) (h8 : (st.map catA).sum ≤ 8) (hd : decode cc pc = .ok (.invokevirtual i, 3)) (hq : pc + 3 = q) (k0 : J G b cc own maxL d rc rs q lv st ν) : J G b cc own maxL d (mc + rc) (ms + rs) pc lv (as.reverse ++ (vr k l :: st)) μ :=
  J_callV h13 hcl hinst hsel hM hD hmL hl hcode hini hy hn h8 hd hq (fun v9 ν9 h9 => by obtain ⟨rfl, rfl⟩ := h9; exact k0)
theorem J_callIv {y : MethodName} {cy : ByteArray} {mL D0 mc ms i : Nat} {as : List AV} {n : Nat} {ν : Mem} {k l : Nat} (hk9 : k < 900) (hinst : Cond.instanceMethod y ∈ gw) (hy1 : y.name = "<init>") (hM : JM b D0 y cy mL none mc ms (vr k l :: as) μ (QQ none ν)) (hD : D0 + 1 ≤ d) (hmL : mL ≤ 41) (hl : Cond.methodLink own i y ∈ gw) (hcode : Cond.code y cy mL none ∈ gw) (hini : Cond.initialized y.cls ∈ gw) (hy : y.cls ≠ "java/lang/invoke/MethodHandle" ∧ y.cls ≠ "java/lang/invoke/VarHandle" ∧ (parseMethodDescriptor y.desc).map (fun d => d.parameters.length) = some n) (hn : as.length = n) (h8 : (st.map catA).sum ≤ 8) (hd : decode cc pc = .ok (.invokespecial i, 3)) (hq : pc + 3 = q) (k0 : J G b cc own maxL d rc rs q lv st ν) : J G b cc own maxL d (mc + rc) (ms + rs) pc lv (as.reverse ++ (vr k l :: st)) μ :=
  J_callI hk9 hinst hy1 hM hD hmL hl hcode hini hy hn h8 hd hq (fun v9 ν9 h9 => by obtain ⟨rfl, rfl⟩ := h9; exact k0)
theorem J_callINv {y : MethodName} {cy : ByteArray} {mL D0 mc ms i : Nat} {as : List AV} {n : Nat} {ν : Mem} {k l : Nat} (hk9 : k < 900) (hinst : Cond.instanceMethod y ∈ gw) (hy1 : y.name = "<init>") (hM : JM b D0 y cy mL none mc ms (vr k l :: as) μ (QQ none ν)) (hD : D0 + 1 ≤ d) (hmL : mL ≤ 41) {host : String} (hnl : Cond.methodLinkNest own i y host ∈ nws) (hcode : Cond.code y cy mL none ∈ gw) (hini : Cond.initialized y.cls ∈ gw) (hy : y.cls ≠ "java/lang/invoke/MethodHandle" ∧ y.cls ≠ "java/lang/invoke/VarHandle" ∧ (parseMethodDescriptor y.desc).map (fun d => d.parameters.length) = some n) (hn : as.length = n) (h8 : (st.map catA).sum ≤ 8) (hd : decode cc pc = .ok (.invokespecial i, 3)) (hq : pc + 3 = q) (k0 : J G b cc own maxL d rc rs q lv st ν) : J G b cc own maxL d (mc + rc) (ms + rs) pc lv (as.reverse ++ (vr k l :: st)) μ :=
  J_callIN hk9 hinst hy1 hM hD hmL hnl hcode hini hy hn h8 hd hq (fun v9 ν9 h9 => by obtain ⟨rfl, rfl⟩ := h9; exact k0)
end J8
theorem iw_0 : ∀ w ∈ u_ws R_0 T_0 6, w ∈ gw := by
  intro w hw
  obtain ⟨k, hk, rfl⟩ := List.mem_map.mp hw
  have hk := List.mem_range.mp hk
  match k, hk with
  | 0, _ => exact g_179
  | 1, _ => exact g_181
  | 2, _ => exact g_183
  | 3, _ => exact g_185
  | 4, _ => exact g_187
  | 5, _ => exact g_189
  | k + 6, h => exact absurd h (by omega)
theorem cd_0 : CD 0 R_0 T_0 6 := ⟨by decide, rfl, rfl, iw_0, ⟨ty_0, tyok_0⟩, nm_0⟩
theorem iw_1 : ∀ w ∈ u_ws R_1 T_1 7, w ∈ gw := by
  intro w hw
  obtain ⟨k, hk, rfl⟩ := List.mem_map.mp hw
  have hk := List.mem_range.mp hk
  match k, hk with
  | 0, _ => exact g_42
  | 1, _ => exact g_44
  | 2, _ => exact g_46
  | 3, _ => exact g_48
  | 4, _ => exact g_50
  | 5, _ => exact g_52
  | 6, _ => exact g_54
  | k + 7, h => exact absurd h (by omega)
theorem cd_1 : CD 1 R_1 T_1 7 := ⟨by decide, rfl, rfl, iw_1, ⟨ty_1, tyok_1⟩, nm_1⟩
theorem iw_2 : ∀ w ∈ u_ws R_2 T_2 9, w ∈ gw := by
  intro w hw
  obtain ⟨k, hk, rfl⟩ := List.mem_map.mp hw
  have hk := List.mem_range.mp hk
  match k, hk with
  | 0, _ => exact g_118
  | 1, _ => exact g_120
  | 2, _ => exact g_122
  | 3, _ => exact g_124
  | 4, _ => exact g_126
  | 5, _ => exact g_128
  | 6, _ => exact g_130
  | 7, _ => exact g_132
  | 8, _ => exact g_134
  | k + 9, h => exact absurd h (by omega)
theorem cd_2 : CD 2 R_2 T_2 9 := ⟨by decide, rfl, rfl, iw_2, ⟨ty_2, tyok_2⟩, nm_2⟩
theorem iw_3 : ∀ w ∈ u_ws R_3 T_3 2, w ∈ gw := by
  intro w hw
  obtain ⟨k, hk, rfl⟩ := List.mem_map.mp hw
  have hk := List.mem_range.mp hk
  match k, hk with
  | 0, _ => exact g_206
  | 1, _ => exact g_208
  | k + 2, h => exact absurd h (by omega)
theorem cd_3 : CD 3 R_3 T_3 2 := ⟨by decide, rfl, rfl, iw_3, ⟨ty_3, tyok_3⟩, nm_3⟩
theorem iw_4 : ∀ w ∈ u_ws R_4 T_4 10, w ∈ gw := by
  intro w hw
  obtain ⟨k, hk, rfl⟩ := List.mem_map.mp hw
  have hk := List.mem_range.mp hk
  match k, hk with
  | 0, _ => exact g_408
  | 1, _ => exact g_410
  | 2, _ => exact g_412
  | 3, _ => exact g_414
  | 4, _ => exact g_416
  | 5, _ => exact g_418
  | 6, _ => exact g_420
  | 7, _ => exact g_422
  | 8, _ => exact g_424
  | 9, _ => exact g_426
  | k + 10, h => exact absurd h (by omega)
theorem cd_4 : CD 4 R_4 T_4 10 := ⟨by decide, rfl, rfl, iw_4, ⟨ty_4, tyok_4⟩, nm_4⟩
theorem iw_5 : ∀ w ∈ u_ws R_5 T_5 10, w ∈ gw := by
  intro w hw
  obtain ⟨k, hk, rfl⟩ := List.mem_map.mp hw
  have hk := List.mem_range.mp hk
  match k, hk with
  | 0, _ => exact g_233
  | 1, _ => exact g_235
  | 2, _ => exact g_237
  | 3, _ => exact g_239
  | 4, _ => exact g_241
  | 5, _ => exact g_243
  | 6, _ => exact g_245
  | 7, _ => exact g_247
  | 8, _ => exact g_249
  | 9, _ => exact g_251
  | k + 10, h => exact absurd h (by omega)
theorem cd_5 : CD 5 R_5 T_5 10 := ⟨by decide, rfl, rfl, iw_5, ⟨ty_5, tyok_5⟩, nm_5⟩
theorem iw_6 : ∀ w ∈ u_ws R_6 T_6 7, w ∈ gw := by
  intro w hw
  obtain ⟨k, hk, rfl⟩ := List.mem_map.mp hw
  have hk := List.mem_range.mp hk
  match k, hk with
  | 0, _ => exact g_545
  | 1, _ => exact g_547
  | 2, _ => exact g_549
  | 3, _ => exact g_551
  | 4, _ => exact g_553
  | 5, _ => exact g_555
  | 6, _ => exact g_557
  | k + 7, h => exact absurd h (by omega)
theorem cd_6 : CD 6 R_6 T_6 7 := ⟨by decide, rfl, rfl, iw_6, ⟨ty_6, tyok_6⟩, nm_6⟩
theorem iw_7 : ∀ w ∈ u_ws R_7 T_7 9, w ∈ gw := by
  intro w hw
  obtain ⟨k, hk, rfl⟩ := List.mem_map.mp hw
  have hk := List.mem_range.mp hk
  match k, hk with
  | 0, _ => exact g_82
  | 1, _ => exact g_84
  | 2, _ => exact g_86
  | 3, _ => exact g_88
  | 4, _ => exact g_90
  | 5, _ => exact g_92
  | 6, _ => exact g_94
  | 7, _ => exact g_96
  | 8, _ => exact g_98
  | k + 9, h => exact absurd h (by omega)
theorem cd_7 : CD 7 R_7 T_7 9 := ⟨by decide, rfl, rfl, iw_7, ⟨ty_7, tyok_7⟩, nm_7⟩
theorem iw_8 : ∀ w ∈ u_ws R_8 T_8 3, w ∈ gw := by
  intro w hw
  obtain ⟨k, hk, rfl⟩ := List.mem_map.mp hw
  have hk := List.mem_range.mp hk
  match k, hk with
  | 0, _ => exact g_377
  | 1, _ => exact g_379
  | 2, _ => exact g_381
  | k + 3, h => exact absurd h (by omega)
theorem cd_8 : CD 8 R_8 T_8 3 := ⟨by decide, rfl, rfl, iw_8, ⟨ty_8, tyok_8⟩, nm_8⟩
theorem iw_9 : ∀ w ∈ u_ws R_9 T_9 6, w ∈ gw := by
  intro w hw
  obtain ⟨k, hk, rfl⟩ := List.mem_map.mp hw
  have hk := List.mem_range.mp hk
  match k, hk with
  | 0, _ => exact g_149
  | 1, _ => exact g_151
  | 2, _ => exact g_153
  | 3, _ => exact g_155
  | 4, _ => exact g_157
  | 5, _ => exact g_159
  | k + 6, h => exact absurd h (by omega)
theorem cd_9 : CD 9 R_9 T_9 6 := ⟨by decide, rfl, rfl, iw_9, ⟨ty_9, tyok_9⟩, nm_9⟩
theorem iw_10 : ∀ w ∈ u_ws R_10 T_10 9, w ∈ gw := by
  intro w hw
  obtain ⟨k, hk, rfl⟩ := List.mem_map.mp hw
  have hk := List.mem_range.mp hk
  match k, hk with
  | 0, _ => exact g_345
  | 1, _ => exact g_347
  | 2, _ => exact g_349
  | 3, _ => exact g_351
  | 4, _ => exact g_353
  | 5, _ => exact g_355
  | 6, _ => exact g_357
  | 7, _ => exact g_359
  | 8, _ => exact g_361
  | k + 9, h => exact absurd h (by omega)
theorem cd_10 : CD 10 R_10 T_10 9 := ⟨by decide, rfl, rfl, iw_10, ⟨ty_10, tyok_10⟩, nm_10⟩
theorem iw_11 : ∀ w ∈ u_ws R_11 T_11 12, w ∈ gw := by
  intro w hw
  obtain ⟨k, hk, rfl⟩ := List.mem_map.mp hw
  have hk := List.mem_range.mp hk
  match k, hk with
  | 0, _ => exact g_266
  | 1, _ => exact g_268
  | 2, _ => exact g_270
  | 3, _ => exact g_272
  | 4, _ => exact g_274
  | 5, _ => exact g_276
  | 6, _ => exact g_278
  | 7, _ => exact g_280
  | 8, _ => exact g_282
  | 9, _ => exact g_284
  | 10, _ => exact g_286
  | 11, _ => exact g_288
  | k + 12, h => exact absurd h (by omega)
theorem cd_11 : CD 11 R_11 T_11 12 := ⟨by decide, rfl, rfl, iw_11, ⟨ty_11, tyok_11⟩, nm_11⟩
theorem iw_12 : ∀ w ∈ u_ws R_12 T_12 72, w ∈ gw := by
  intro w hw
  obtain ⟨k, hk, rfl⟩ := List.mem_map.mp hw
  have hk := List.mem_range.mp hk
  match k, hk with
  | 0, _ => exact g_1122
  | 1, _ => exact g_1124
  | 2, _ => exact g_1126
  | 3, _ => exact g_1128
  | 4, _ => exact g_1130
  | 5, _ => exact g_1132
  | 6, _ => exact g_1134
  | 7, _ => exact g_1136
  | 8, _ => exact g_1138
  | 9, _ => exact g_1140
  | 10, _ => exact g_1142
  | 11, _ => exact g_1144
  | 12, _ => exact g_1146
  | 13, _ => exact g_1148
  | 14, _ => exact g_1150
  | 15, _ => exact g_1152
  | 16, _ => exact g_1154
  | 17, _ => exact g_1156
  | 18, _ => exact g_1158
  | 19, _ => exact g_1160
  | 20, _ => exact g_1162
  | 21, _ => exact g_1164
  | 22, _ => exact g_1166
  | 23, _ => exact g_1168
  | 24, _ => exact g_1170
  | 25, _ => exact g_1172
  | 26, _ => exact g_1174
  | 27, _ => exact g_1176
  | 28, _ => exact g_1178
  | 29, _ => exact g_1180
  | 30, _ => exact g_1182
  | 31, _ => exact g_1184
  | 32, _ => exact g_1186
  | 33, _ => exact g_1188
  | 34, _ => exact g_1190
  | 35, _ => exact g_1192
  | 36, _ => exact g_1194
  | 37, _ => exact g_1196
  | 38, _ => exact g_1198
  | 39, _ => exact g_1200
  | 40, _ => exact g_1202
  | 41, _ => exact g_1204
  | 42, _ => exact g_1206
  | 43, _ => exact g_1208
  | 44, _ => exact g_1210
  | 45, _ => exact g_1212
  | 46, _ => exact g_1214
  | 47, _ => exact g_1216
  | 48, _ => exact g_1218
  | 49, _ => exact g_1220
  | 50, _ => exact g_1222
  | 51, _ => exact g_1224
  | 52, _ => exact g_1226
  | 53, _ => exact g_1228
  | 54, _ => exact g_1230
  | 55, _ => exact g_1232
  | 56, _ => exact g_1234
  | 57, _ => exact g_1236
  | 58, _ => exact g_1238
  | 59, _ => exact g_1240
  | 60, _ => exact g_1242
  | 61, _ => exact g_1244
  | 62, _ => exact g_1246
  | 63, _ => exact g_1248
  | 64, _ => exact g_1250
  | 65, _ => exact g_1252
  | 66, _ => exact g_1254
  | 67, _ => exact g_1256
  | 68, _ => exact g_1258
  | 69, _ => exact g_1260
  | 70, _ => exact g_1262
  | 71, _ => exact g_1264
  | k + 72, h => exact absurd h (by omega)
theorem cd_12 : CD 12 R_12 T_12 72 := ⟨by decide, rfl, rfl, iw_12, ⟨ty_12, tyok_12⟩, nm_12⟩
end
