def R_Ma : String := "java/lang/Math"
def R_Ar : String := "java/util/Arrays"
theorem nn_0 : .methodLinkNest "LetterFoundry" (21 : Nat) ⟨"LetterFoundry$Flattener", "<init>", "()V"⟩ "LetterFoundry" ∈ nws := List.mem_of_getElem? (i := 0) rfl
theorem nn_1 : .methodLinkNest "LetterFoundry" (28 : Nat) ⟨"LetterFoundry$Polygons", "<init>", "()V"⟩ "LetterFoundry" ∈ nws := List.mem_of_getElem? (i := 1) rfl
theorem nn_2 : .methodLinkNest "LetterFoundry" (38 : Nat) ⟨"LetterFoundry$Image", "<init>", "()V"⟩ "LetterFoundry" ∈ nws := List.mem_of_getElem? (i := 2) rfl
theorem nn_3 : .methodLinkNest "LetterFoundry" (45 : Nat) ⟨"LetterFoundry$Runner", "<init>", "()V"⟩ "LetterFoundry" ∈ nws := List.mem_of_getElem? (i := 3) rfl
theorem nn_4 : .methodLinkNest "LetterFoundry" (52 : Nat) ⟨"LetterFoundry$Fitting", "<init>", "()V"⟩ "LetterFoundry" ∈ nws := List.mem_of_getElem? (i := 4) rfl
theorem nn_5 : .methodLinkNest "LetterFoundry" (73 : Nat) ⟨"LetterFoundry$Line", "<init>", "()V"⟩ "LetterFoundry" ∈ nws := List.mem_of_getElem? (i := 5) rfl
theorem nn_6 : .methodLinkNest "LetterFoundry$Letter" (11 : Nat) ⟨"LetterFoundry$Shape", "<init>", "()V"⟩ "LetterFoundry" ∈ nws := List.mem_of_getElem? (i := 6) rfl
theorem nn_7 : .methodLinkNest "LetterFoundry$Letter" (20 : Nat) ⟨"LetterFoundry$Program", "<init>", "()V"⟩ "LetterFoundry" ∈ nws := List.mem_of_getElem? (i := 7) rfl
theorem nn_8 : .methodLinkNest "LetterFoundry$Shape" (68 : Nat) ⟨"LetterFoundry", "within", "(JJJ)Z"⟩ "LetterFoundry" ∈ nws := List.mem_of_getElem? (i := 8) rfl
theorem nn_9 : .methodLinkNest "LetterFoundry$Letter" (57 : Nat) ⟨"LetterFoundry", "within", "(JJJ)Z"⟩ "LetterFoundry" ∈ nws := List.mem_of_getElem? (i := 9) rfl
theorem nn_10 : .methodLinkNest "LetterFoundry$Flattener" (32 : Nat) ⟨"LetterFoundry", "within", "(JJJ)Z"⟩ "LetterFoundry" ∈ nws := List.mem_of_getElem? (i := 10) rfl
theorem nn_11 : .methodLinkNest "LetterFoundry$Part" (36 : Nat) ⟨"LetterFoundry", "rounded", "(JJ)J"⟩ "LetterFoundry" ∈ nws := List.mem_of_getElem? (i := 11) rfl
theorem nn_12 : .methodLinkNest "LetterFoundry$Polygons" (61 : Nat) ⟨"LetterFoundry", "within", "(JJJ)Z"⟩ "LetterFoundry" ∈ nws := List.mem_of_getElem? (i := 12) rfl
theorem nn_13 : .methodLinkNest "LetterFoundry$Flattener" (131 : Nat) ⟨"LetterFoundry", "rounded", "(JJ)J"⟩ "LetterFoundry" ∈ nws := List.mem_of_getElem? (i := 13) rfl
theorem nn_14 : .methodLinkNest "LetterFoundry$Image" (53 : Nat) ⟨"LetterFoundry", "within", "(JJJ)Z"⟩ "LetterFoundry" ∈ nws := List.mem_of_getElem? (i := 14) rfl
theorem nn_15 : .methodLinkNest "LetterFoundry$Fitting" (53 : Nat) ⟨"LetterFoundry", "rounded", "(JJ)J"⟩ "LetterFoundry" ∈ nws := List.mem_of_getElem? (i := 15) rfl
theorem nn_16 : .methodLinkNest "LetterFoundry$Runner" (42 : Nat) ⟨"LetterFoundry", "within", "(JJJ)Z"⟩ "LetterFoundry" ∈ nws := List.mem_of_getElem? (i := 16) rfl
theorem nn_17 : .methodLinkNest "LetterFoundry$Fitting" (60 : Nat) ⟨"LetterFoundry", "within", "(JJJ)Z"⟩ "LetterFoundry" ∈ nws := List.mem_of_getElem? (i := 17) rfl
theorem nn_18 : .methodLinkNest "LetterFoundry$Runner" (141 : Nat) ⟨"LetterFoundry", "rounded", "(JJ)J"⟩ "LetterFoundry" ∈ nws := List.mem_of_getElem? (i := 18) rfl
theorem nn_19 : .methodLinkNest "LetterFoundry$Kerning" (25 : Nat) ⟨"LetterFoundry", "within", "(JJJ)Z"⟩ "LetterFoundry" ∈ nws := List.mem_of_getElem? (i := 19) rfl
theorem nn_20 : .methodLinkNest "LetterFoundry$Line" (49 : Nat) ⟨"LetterFoundry", "indexOfCode", "([LLetterFoundry$Letter;II)I"⟩ "LetterFoundry" ∈ nws := List.mem_of_getElem? (i := 20) rfl
def y_Fit_init : MethodName := ⟨R_0, "<init>", "()V"⟩
theorem hy_Fit_init : y_Fit_init.cls ≠ "java/lang/invoke/MethodHandle" ∧ y_Fit_init.cls ≠ "java/lang/invoke/VarHandle" ∧ (parseMethodDescriptor y_Fit_init.desc).map (fun d => d.parameters.length) = some 0 := ⟨by decide +kernel, by decide +kernel, by decide +kernel⟩
theorem pl_Fit_init : plainFor y_Fit_init = true := plainFor_of_name (by decide +kernel)
def y_Fl_init : MethodName := ⟨R_1, "<init>", "()V"⟩
theorem hy_Fl_init : y_Fl_init.cls ≠ "java/lang/invoke/MethodHandle" ∧ y_Fl_init.cls ≠ "java/lang/invoke/VarHandle" ∧ (parseMethodDescriptor y_Fl_init.desc).map (fun d => d.parameters.length) = some 0 := ⟨by decide +kernel, by decide +kernel, by decide +kernel⟩
theorem pl_Fl_init : plainFor y_Fl_init = true := plainFor_of_name (by decide +kernel)
def y_Im_init : MethodName := ⟨R_2, "<init>", "()V"⟩
theorem hy_Im_init : y_Im_init.cls ≠ "java/lang/invoke/MethodHandle" ∧ y_Im_init.cls ≠ "java/lang/invoke/VarHandle" ∧ (parseMethodDescriptor y_Im_init.desc).map (fun d => d.parameters.length) = some 0 := ⟨by decide +kernel, by decide +kernel, by decide +kernel⟩
theorem pl_Im_init : plainFor y_Im_init = true := plainFor_of_name (by decide +kernel)
def y_Ar_fill : MethodName := ⟨R_Ar, "fill", "([II)V"⟩
theorem hy_Ar_fill : y_Ar_fill.cls ≠ "java/lang/invoke/MethodHandle" ∧ y_Ar_fill.cls ≠ "java/lang/invoke/VarHandle" ∧ (parseMethodDescriptor y_Ar_fill.desc).map (fun d => d.parameters.length) = some 2 := ⟨by decide +kernel, by decide +kernel, by decide +kernel⟩
theorem pl_Ar_fill : plainFor y_Ar_fill = true := by decide +kernel
def y_Ke_init : MethodName := ⟨R_3, "<init>", "()V"⟩
theorem hy_Ke_init : y_Ke_init.cls ≠ "java/lang/invoke/MethodHandle" ∧ y_Ke_init.cls ≠ "java/lang/invoke/VarHandle" ∧ (parseMethodDescriptor y_Ke_init.desc).map (fun d => d.parameters.length) = some 0 := ⟨by decide +kernel, by decide +kernel, by decide +kernel⟩
theorem pl_Ke_init : plainFor y_Ke_init = true := plainFor_of_name (by decide +kernel)
def y_Li_init : MethodName := ⟨R_5, "<init>", "()V"⟩
theorem hy_Li_init : y_Li_init.cls ≠ "java/lang/invoke/MethodHandle" ∧ y_Li_init.cls ≠ "java/lang/invoke/VarHandle" ∧ (parseMethodDescriptor y_Li_init.desc).map (fun d => d.parameters.length) = some 0 := ⟨by decide +kernel, by decide +kernel, by decide +kernel⟩
theorem pl_Li_init : plainFor y_Li_init = true := plainFor_of_name (by decide +kernel)
def y_Po_init : MethodName := ⟨R_7, "<init>", "()V"⟩
theorem hy_Po_init : y_Po_init.cls ≠ "java/lang/invoke/MethodHandle" ∧ y_Po_init.cls ≠ "java/lang/invoke/VarHandle" ∧ (parseMethodDescriptor y_Po_init.desc).map (fun d => d.parameters.length) = some 0 := ⟨by decide +kernel, by decide +kernel, by decide +kernel⟩
theorem pl_Po_init : plainFor y_Po_init = true := plainFor_of_name (by decide +kernel)
def y_Ru_init : MethodName := ⟨R_9, "<init>", "()V"⟩
theorem hy_Ru_init : y_Ru_init.cls ≠ "java/lang/invoke/MethodHandle" ∧ y_Ru_init.cls ≠ "java/lang/invoke/VarHandle" ∧ (parseMethodDescriptor y_Ru_init.desc).map (fun d => d.parameters.length) = some 0 := ⟨by decide +kernel, by decide +kernel, by decide +kernel⟩
theorem pl_Ru_init : plainFor y_Ru_init = true := plainFor_of_name (by decide +kernel)
def y_Fo_init : MethodName := ⟨R_11, "<init>", "()V"⟩
theorem hy_Fo_init : y_Fo_init.cls ≠ "java/lang/invoke/MethodHandle" ∧ y_Fo_init.cls ≠ "java/lang/invoke/VarHandle" ∧ (parseMethodDescriptor y_Fo_init.desc).map (fun d => d.parameters.length) = some 0 := ⟨by decide +kernel, by decide +kernel, by decide +kernel⟩
theorem pl_Fo_init : plainFor y_Fo_init = true := plainFor_of_name (by decide +kernel)
def y_Fo_indexOfCode : MethodName := ⟨R_11, "indexOfCode", "([LLetterFoundry$Letter;II)I"⟩
theorem hy_Fo_indexOfCode : y_Fo_indexOfCode.cls ≠ "java/lang/invoke/MethodHandle" ∧ y_Fo_indexOfCode.cls ≠ "java/lang/invoke/VarHandle" ∧ (parseMethodDescriptor y_Fo_indexOfCode.desc).map (fun d => d.parameters.length) = some 3 := ⟨by decide +kernel, by decide +kernel, by decide +kernel⟩
theorem pl_Fo_indexOfCode : plainFor y_Fo_indexOfCode = true := plainFor_of_name (by decide +kernel)
def y_Fo_find : MethodName := ⟨R_11, "find", "(I)I"⟩
theorem hy_Fo_find : y_Fo_find.cls ≠ "java/lang/invoke/MethodHandle" ∧ y_Fo_find.cls ≠ "java/lang/invoke/VarHandle" ∧ (parseMethodDescriptor y_Fo_find.desc).map (fun d => d.parameters.length) = some 1 := ⟨by decide +kernel, by decide +kernel, by decide +kernel⟩
theorem pl_Fo_find : plainFor y_Fo_find = true := plainFor_of_name (by decide +kernel)
def y_Fo_within : MethodName := ⟨R_11, "within", "(JJJ)Z"⟩
theorem hy_Fo_within : y_Fo_within.cls ≠ "java/lang/invoke/MethodHandle" ∧ y_Fo_within.cls ≠ "java/lang/invoke/VarHandle" ∧ (parseMethodDescriptor y_Fo_within.desc).map (fun d => d.parameters.length) = some 3 := ⟨by decide +kernel, by decide +kernel, by decide +kernel⟩
theorem pl_Fo_within : plainFor y_Fo_within = true := plainFor_of_name (by decide +kernel)
def y_Fo_isCode : MethodName := ⟨R_11, "isCode", "(I)Z"⟩
theorem hy_Fo_isCode : y_Fo_isCode.cls ≠ "java/lang/invoke/MethodHandle" ∧ y_Fo_isCode.cls ≠ "java/lang/invoke/VarHandle" ∧ (parseMethodDescriptor y_Fo_isCode.desc).map (fun d => d.parameters.length) = some 1 := ⟨by decide +kernel, by decide +kernel, by decide +kernel⟩
theorem pl_Fo_isCode : plainFor y_Fo_isCode = true := plainFor_of_name (by decide +kernel)
def y_Pr_init : MethodName := ⟨R_8, "<init>", "()V"⟩
theorem hy_Pr_init : y_Pr_init.cls ≠ "java/lang/invoke/MethodHandle" ∧ y_Pr_init.cls ≠ "java/lang/invoke/VarHandle" ∧ (parseMethodDescriptor y_Pr_init.desc).map (fun d => d.parameters.length) = some 0 := ⟨by decide +kernel, by decide +kernel, by decide +kernel⟩
theorem pl_Pr_init : plainFor y_Pr_init = true := plainFor_of_name (by decide +kernel)
def y_Sh_init : MethodName := ⟨R_10, "<init>", "()V"⟩
theorem hy_Sh_init : y_Sh_init.cls ≠ "java/lang/invoke/MethodHandle" ∧ y_Sh_init.cls ≠ "java/lang/invoke/VarHandle" ∧ (parseMethodDescriptor y_Sh_init.desc).map (fun d => d.parameters.length) = some 0 := ⟨by decide +kernel, by decide +kernel, by decide +kernel⟩
theorem pl_Sh_init : plainFor y_Sh_init = true := plainFor_of_name (by decide +kernel)
def y_Le_init : MethodName := ⟨R_4, "<init>", "(II)V"⟩
theorem hy_Le_init : y_Le_init.cls ≠ "java/lang/invoke/MethodHandle" ∧ y_Le_init.cls ≠ "java/lang/invoke/VarHandle" ∧ (parseMethodDescriptor y_Le_init.desc).map (fun d => d.parameters.length) = some 2 := ⟨by decide +kernel, by decide +kernel, by decide +kernel⟩
theorem pl_Le_init : plainFor y_Le_init = true := plainFor_of_name (by decide +kernel)
def y_Fo_letter : MethodName := ⟨R_11, "letter", "(II)I"⟩
theorem hy_Fo_letter : y_Fo_letter.cls ≠ "java/lang/invoke/MethodHandle" ∧ y_Fo_letter.cls ≠ "java/lang/invoke/VarHandle" ∧ (parseMethodDescriptor y_Fo_letter.desc).map (fun d => d.parameters.length) = some 2 := ⟨by decide +kernel, by decide +kernel, by decide +kernel⟩
theorem pl_Fo_letter : plainFor y_Fo_letter = true := plainFor_of_name (by decide +kernel)
def y_Fo_letterOf : MethodName := ⟨R_11, "letterOf", "(I)LLetterFoundry$Letter;"⟩
theorem hy_Fo_letterOf : y_Fo_letterOf.cls ≠ "java/lang/invoke/MethodHandle" ∧ y_Fo_letterOf.cls ≠ "java/lang/invoke/VarHandle" ∧ (parseMethodDescriptor y_Fo_letterOf.desc).map (fun d => d.parameters.length) = some 1 := ⟨by decide +kernel, by decide +kernel, by decide +kernel⟩
theorem pl_Fo_letterOf : plainFor y_Fo_letterOf = true := plainFor_of_name (by decide +kernel)
theorem sel_Fo_letterOf : Cond.selects R_11 y_Fo_letterOf y_Fo_letterOf ∈ gw := List.mem_filter.mpr ⟨List.mem_append_left _ (List.mem_map.mpr ⟨(y_Fo_letterOf, 12), List.mem_of_getElem? (i := 0) rfl, rfl⟩), rfl⟩
def y_Sh_begin : MethodName := ⟨R_10, "begin", "()I"⟩
theorem hy_Sh_begin : y_Sh_begin.cls ≠ "java/lang/invoke/MethodHandle" ∧ y_Sh_begin.cls ≠ "java/lang/invoke/VarHandle" ∧ (parseMethodDescriptor y_Sh_begin.desc).map (fun d => d.parameters.length) = some 0 := ⟨by decide +kernel, by decide +kernel, by decide +kernel⟩
theorem pl_Sh_begin : plainFor y_Sh_begin = true := plainFor_of_name (by decide +kernel)
def y_Fo_outline : MethodName := ⟨R_11, "outline", "(I)I"⟩
theorem hy_Fo_outline : y_Fo_outline.cls ≠ "java/lang/invoke/MethodHandle" ∧ y_Fo_outline.cls ≠ "java/lang/invoke/VarHandle" ∧ (parseMethodDescriptor y_Fo_outline.desc).map (fun d => d.parameters.length) = some 1 := ⟨by decide +kernel, by decide +kernel, by decide +kernel⟩
theorem pl_Fo_outline : plainFor y_Fo_outline = true := plainFor_of_name (by decide +kernel)
def y_Fo_isPlace : MethodName := ⟨R_11, "isPlace", "(II)Z"⟩
theorem hy_Fo_isPlace : y_Fo_isPlace.cls ≠ "java/lang/invoke/MethodHandle" ∧ y_Fo_isPlace.cls ≠ "java/lang/invoke/VarHandle" ∧ (parseMethodDescriptor y_Fo_isPlace.desc).map (fun d => d.parameters.length) = some 2 := ⟨by decide +kernel, by decide +kernel, by decide +kernel⟩
theorem pl_Fo_isPlace : plainFor y_Fo_isPlace = true := plainFor_of_name (by decide +kernel)
def y_Sh_startOf : MethodName := ⟨R_10, "startOf", "(I)I"⟩
theorem hy_Sh_startOf : y_Sh_startOf.cls ≠ "java/lang/invoke/MethodHandle" ∧ y_Sh_startOf.cls ≠ "java/lang/invoke/VarHandle" ∧ (parseMethodDescriptor y_Sh_startOf.desc).map (fun d => d.parameters.length) = some 1 := ⟨by decide +kernel, by decide +kernel, by decide +kernel⟩
theorem pl_Sh_startOf : plainFor y_Sh_startOf = true := plainFor_of_name (by decide +kernel)
def y_Sh_closedPoints : MethodName := ⟨R_10, "closedPoints", "()I"⟩
theorem hy_Sh_closedPoints : y_Sh_closedPoints.cls ≠ "java/lang/invoke/MethodHandle" ∧ y_Sh_closedPoints.cls ≠ "java/lang/invoke/VarHandle" ∧ (parseMethodDescriptor y_Sh_closedPoints.desc).map (fun d => d.parameters.length) = some 0 := ⟨by decide +kernel, by decide +kernel, by decide +kernel⟩
theorem pl_Sh_closedPoints : plainFor y_Sh_closedPoints = true := plainFor_of_name (by decide +kernel)
def y_Sh_openPoints : MethodName := ⟨R_10, "openPoints", "()I"⟩
theorem hy_Sh_openPoints : y_Sh_openPoints.cls ≠ "java/lang/invoke/MethodHandle" ∧ y_Sh_openPoints.cls ≠ "java/lang/invoke/VarHandle" ∧ (parseMethodDescriptor y_Sh_openPoints.desc).map (fun d => d.parameters.length) = some 0 := ⟨by decide +kernel, by decide +kernel, by decide +kernel⟩
theorem pl_Sh_openPoints : plainFor y_Sh_openPoints = true := plainFor_of_name (by decide +kernel)
def y_Sh_add : MethodName := ⟨R_10, "add", "(III)I"⟩
theorem hy_Sh_add : y_Sh_add.cls ≠ "java/lang/invoke/MethodHandle" ∧ y_Sh_add.cls ≠ "java/lang/invoke/VarHandle" ∧ (parseMethodDescriptor y_Sh_add.desc).map (fun d => d.parameters.length) = some 3 := ⟨by decide +kernel, by decide +kernel, by decide +kernel⟩
theorem pl_Sh_add : plainFor y_Sh_add = true := plainFor_of_name (by decide +kernel)
def y_Fo_point : MethodName := ⟨R_11, "point", "(IIII)I"⟩
theorem hy_Fo_point : y_Fo_point.cls ≠ "java/lang/invoke/MethodHandle" ∧ y_Fo_point.cls ≠ "java/lang/invoke/VarHandle" ∧ (parseMethodDescriptor y_Fo_point.desc).map (fun d => d.parameters.length) = some 4 := ⟨by decide +kernel, by decide +kernel, by decide +kernel⟩
theorem pl_Fo_point : plainFor y_Fo_point = true := plainFor_of_name (by decide +kernel)
def y_Sh_stateBehind : MethodName := ⟨R_10, "stateBehind", "(II)I"⟩
theorem hy_Sh_stateBehind : y_Sh_stateBehind.cls ≠ "java/lang/invoke/MethodHandle" ∧ y_Sh_stateBehind.cls ≠ "java/lang/invoke/VarHandle" ∧ (parseMethodDescriptor y_Sh_stateBehind.desc).map (fun d => d.parameters.length) = some 2 := ⟨by decide +kernel, by decide +kernel, by decide +kernel⟩
theorem pl_Sh_stateBehind : plainFor y_Sh_stateBehind = true := plainFor_of_name (by decide +kernel)
def y_Sh_firstBad : MethodName := ⟨R_10, "firstBad", "()I"⟩
theorem hy_Sh_firstBad : y_Sh_firstBad.cls ≠ "java/lang/invoke/MethodHandle" ∧ y_Sh_firstBad.cls ≠ "java/lang/invoke/VarHandle" ∧ (parseMethodDescriptor y_Sh_firstBad.desc).map (fun d => d.parameters.length) = some 0 := ⟨by decide +kernel, by decide +kernel, by decide +kernel⟩
theorem pl_Sh_firstBad : plainFor y_Sh_firstBad = true := plainFor_of_name (by decide +kernel)
theorem sel_Sh_firstBad : Cond.selects R_10 y_Sh_firstBad y_Sh_firstBad ∈ gw := List.mem_filter.mpr ⟨List.mem_append_left _ (List.mem_map.mpr ⟨(y_Sh_firstBad, 9), List.mem_of_getElem? (i := 1) rfl, rfl⟩), rfl⟩
def y_Sh_finish : MethodName := ⟨R_10, "finish", "()I"⟩
theorem hy_Sh_finish : y_Sh_finish.cls ≠ "java/lang/invoke/MethodHandle" ∧ y_Sh_finish.cls ≠ "java/lang/invoke/VarHandle" ∧ (parseMethodDescriptor y_Sh_finish.desc).map (fun d => d.parameters.length) = some 0 := ⟨by decide +kernel, by decide +kernel, by decide +kernel⟩
theorem pl_Sh_finish : plainFor y_Sh_finish = true := plainFor_of_name (by decide +kernel)
def y_Fo_close : MethodName := ⟨R_11, "close", "(I)I"⟩
theorem hy_Fo_close : y_Fo_close.cls ≠ "java/lang/invoke/MethodHandle" ∧ y_Fo_close.cls ≠ "java/lang/invoke/VarHandle" ∧ (parseMethodDescriptor y_Fo_close.desc).map (fun d => d.parameters.length) = some 1 := ⟨by decide +kernel, by decide +kernel, by decide +kernel⟩
theorem pl_Fo_close : plainFor y_Fo_close = true := plainFor_of_name (by decide +kernel)
def y_Sh_hasAny : MethodName := ⟨R_10, "hasAny", "()Z"⟩
theorem hy_Sh_hasAny : y_Sh_hasAny.cls ≠ "java/lang/invoke/MethodHandle" ∧ y_Sh_hasAny.cls ≠ "java/lang/invoke/VarHandle" ∧ (parseMethodDescriptor y_Sh_hasAny.desc).map (fun d => d.parameters.length) = some 0 := ⟨by decide +kernel, by decide +kernel, by decide +kernel⟩
theorem pl_Sh_hasAny : plainFor y_Sh_hasAny = true := plainFor_of_name (by decide +kernel)
def y_Sh_removeLast : MethodName := ⟨R_10, "removeLast", "()I"⟩
theorem hy_Sh_removeLast : y_Sh_removeLast.cls ≠ "java/lang/invoke/MethodHandle" ∧ y_Sh_removeLast.cls ≠ "java/lang/invoke/VarHandle" ∧ (parseMethodDescriptor y_Sh_removeLast.desc).map (fun d => d.parameters.length) = some 0 := ⟨by decide +kernel, by decide +kernel, by decide +kernel⟩
theorem pl_Sh_removeLast : plainFor y_Sh_removeLast = true := plainFor_of_name (by decide +kernel)
def y_Fo_drop : MethodName := ⟨R_11, "drop", "(I)I"⟩
theorem hy_Fo_drop : y_Fo_drop.cls ≠ "java/lang/invoke/MethodHandle" ∧ y_Fo_drop.cls ≠ "java/lang/invoke/VarHandle" ∧ (parseMethodDescriptor y_Fo_drop.desc).map (fun d => d.parameters.length) = some 1 := ⟨by decide +kernel, by decide +kernel, by decide +kernel⟩
theorem pl_Fo_drop : plainFor y_Fo_drop = true := plainFor_of_name (by decide +kernel)
def y_Sh_hasPoint : MethodName := ⟨R_10, "hasPoint", "(I)Z"⟩
theorem hy_Sh_hasPoint : y_Sh_hasPoint.cls ≠ "java/lang/invoke/MethodHandle" ∧ y_Sh_hasPoint.cls ≠ "java/lang/invoke/VarHandle" ∧ (parseMethodDescriptor y_Sh_hasPoint.desc).map (fun d => d.parameters.length) = some 1 := ⟨by decide +kernel, by decide +kernel, by decide +kernel⟩
theorem pl_Sh_hasPoint : plainFor y_Sh_hasPoint = true := plainFor_of_name (by decide +kernel)
def y_Fo_move : MethodName := ⟨R_11, "move", "(IIII)Z"⟩
theorem hy_Fo_move : y_Fo_move.cls ≠ "java/lang/invoke/MethodHandle" ∧ y_Fo_move.cls ≠ "java/lang/invoke/VarHandle" ∧ (parseMethodDescriptor y_Fo_move.desc).map (fun d => d.parameters.length) = some 4 := ⟨by decide +kernel, by decide +kernel, by decide +kernel⟩
theorem pl_Fo_move : plainFor y_Fo_move = true := plainFor_of_name (by decide +kernel)
def y_Sh_endOf : MethodName := ⟨R_10, "endOf", "(I)I"⟩
theorem hy_Sh_endOf : y_Sh_endOf.cls ≠ "java/lang/invoke/MethodHandle" ∧ y_Sh_endOf.cls ≠ "java/lang/invoke/VarHandle" ∧ (parseMethodDescriptor y_Sh_endOf.desc).map (fun d => d.parameters.length) = some 1 := ⟨by decide +kernel, by decide +kernel, by decide +kernel⟩
theorem pl_Sh_endOf : plainFor y_Sh_endOf = true := plainFor_of_name (by decide +kernel)
def y_Sh_swap : MethodName := ⟨R_10, "swap", "([III)V"⟩
theorem hy_Sh_swap : y_Sh_swap.cls ≠ "java/lang/invoke/MethodHandle" ∧ y_Sh_swap.cls ≠ "java/lang/invoke/VarHandle" ∧ (parseMethodDescriptor y_Sh_swap.desc).map (fun d => d.parameters.length) = some 3 := ⟨by decide +kernel, by decide +kernel, by decide +kernel⟩
theorem pl_Sh_swap : plainFor y_Sh_swap = true := plainFor_of_name (by decide +kernel)
def y_Sh_exchange : MethodName := ⟨R_10, "exchange", "(II)V"⟩
theorem hy_Sh_exchange : y_Sh_exchange.cls ≠ "java/lang/invoke/MethodHandle" ∧ y_Sh_exchange.cls ≠ "java/lang/invoke/VarHandle" ∧ (parseMethodDescriptor y_Sh_exchange.desc).map (fun d => d.parameters.length) = some 2 := ⟨by decide +kernel, by decide +kernel, by decide +kernel⟩
theorem pl_Sh_exchange : plainFor y_Sh_exchange = true := plainFor_of_name (by decide +kernel)
theorem sel_Sh_exchange : Cond.selects R_10 y_Sh_exchange y_Sh_exchange ∈ gw := List.mem_filter.mpr ⟨List.mem_append_left _ (List.mem_map.mpr ⟨(y_Sh_exchange, 9), List.mem_of_getElem? (i := 2) rfl, rfl⟩), rfl⟩
def y_Sh_turn : MethodName := ⟨R_10, "turn", "(I)V"⟩
theorem hy_Sh_turn : y_Sh_turn.cls ≠ "java/lang/invoke/MethodHandle" ∧ y_Sh_turn.cls ≠ "java/lang/invoke/VarHandle" ∧ (parseMethodDescriptor y_Sh_turn.desc).map (fun d => d.parameters.length) = some 1 := ⟨by decide +kernel, by decide +kernel, by decide +kernel⟩
theorem pl_Sh_turn : plainFor y_Sh_turn = true := plainFor_of_name (by decide +kernel)
def y_Fo_reverse : MethodName := ⟨R_11, "reverse", "(II)Z"⟩
theorem hy_Fo_reverse : y_Fo_reverse.cls ≠ "java/lang/invoke/MethodHandle" ∧ y_Fo_reverse.cls ≠ "java/lang/invoke/VarHandle" ∧ (parseMethodDescriptor y_Fo_reverse.desc).map (fun d => d.parameters.length) = some 2 := ⟨by decide +kernel, by decide +kernel, by decide +kernel⟩
theorem pl_Fo_reverse : plainFor y_Fo_reverse = true := plainFor_of_name (by decide +kernel)
def y_Pa_init : MethodName := ⟨R_6, "<init>", "(LLetterFoundry$Letter;II)V"⟩
theorem hy_Pa_init : y_Pa_init.cls ≠ "java/lang/invoke/MethodHandle" ∧ y_Pa_init.cls ≠ "java/lang/invoke/VarHandle" ∧ (parseMethodDescriptor y_Pa_init.desc).map (fun d => d.parameters.length) = some 3 := ⟨by decide +kernel, by decide +kernel, by decide +kernel⟩
theorem pl_Pa_init : plainFor y_Pa_init = true := plainFor_of_name (by decide +kernel)
def y_Ma_max : MethodName := ⟨R_Ma, "max", "(II)I"⟩
theorem hy_Ma_max : y_Ma_max.cls ≠ "java/lang/invoke/MethodHandle" ∧ y_Ma_max.cls ≠ "java/lang/invoke/VarHandle" ∧ (parseMethodDescriptor y_Ma_max.desc).map (fun d => d.parameters.length) = some 2 := ⟨by decide +kernel, by decide +kernel, by decide +kernel⟩
theorem pl_Ma_max : plainFor y_Ma_max = true := by decide +kernel
def y_Le_addPart : MethodName := ⟨R_4, "addPart", "(LLetterFoundry$Letter;II)I"⟩
theorem hy_Le_addPart : y_Le_addPart.cls ≠ "java/lang/invoke/MethodHandle" ∧ y_Le_addPart.cls ≠ "java/lang/invoke/VarHandle" ∧ (parseMethodDescriptor y_Le_addPart.desc).map (fun d => d.parameters.length) = some 3 := ⟨by decide +kernel, by decide +kernel, by decide +kernel⟩
theorem pl_Le_addPart : plainFor y_Le_addPart = true := plainFor_of_name (by decide +kernel)
def y_Fo_part : MethodName := ⟨R_11, "part", "(IIII)I"⟩
theorem hy_Fo_part : y_Fo_part.cls ≠ "java/lang/invoke/MethodHandle" ∧ y_Fo_part.cls ≠ "java/lang/invoke/VarHandle" ∧ (parseMethodDescriptor y_Fo_part.desc).map (fun d => d.parameters.length) = some 4 := ⟨by decide +kernel, by decide +kernel, by decide +kernel⟩
theorem pl_Fo_part : plainFor y_Fo_part = true := plainFor_of_name (by decide +kernel)
def y_Fo_isShort : MethodName := ⟨R_11, "isShort", "(I)Z"⟩
theorem hy_Fo_isShort : y_Fo_isShort.cls ≠ "java/lang/invoke/MethodHandle" ∧ y_Fo_isShort.cls ≠ "java/lang/invoke/VarHandle" ∧ (parseMethodDescriptor y_Fo_isShort.desc).map (fun d => d.parameters.length) = some 1 := ⟨by decide +kernel, by decide +kernel, by decide +kernel⟩
theorem pl_Fo_isShort : plainFor y_Fo_isShort = true := plainFor_of_name (by decide +kernel)
def y_Le_partOf : MethodName := ⟨R_4, "partOf", "(I)LLetterFoundry$Part;"⟩
theorem hy_Le_partOf : y_Le_partOf.cls ≠ "java/lang/invoke/MethodHandle" ∧ y_Le_partOf.cls ≠ "java/lang/invoke/VarHandle" ∧ (parseMethodDescriptor y_Le_partOf.desc).map (fun d => d.parameters.length) = some 1 := ⟨by decide +kernel, by decide +kernel, by decide +kernel⟩
theorem pl_Le_partOf : plainFor y_Le_partOf = true := plainFor_of_name (by decide +kernel)
def y_Pa_turnBy : MethodName := ⟨R_6, "turnBy", "(IIII)V"⟩
theorem hy_Pa_turnBy : y_Pa_turnBy.cls ≠ "java/lang/invoke/MethodHandle" ∧ y_Pa_turnBy.cls ≠ "java/lang/invoke/VarHandle" ∧ (parseMethodDescriptor y_Pa_turnBy.desc).map (fun d => d.parameters.length) = some 4 := ⟨by decide +kernel, by decide +kernel, by decide +kernel⟩
theorem pl_Pa_turnBy : plainFor y_Pa_turnBy = true := plainFor_of_name (by decide +kernel)
def y_Fo_matrix : MethodName := ⟨R_11, "matrix", "(IIIIII)Z"⟩
theorem hy_Fo_matrix : y_Fo_matrix.cls ≠ "java/lang/invoke/MethodHandle" ∧ y_Fo_matrix.cls ≠ "java/lang/invoke/VarHandle" ∧ (parseMethodDescriptor y_Fo_matrix.desc).map (fun d => d.parameters.length) = some 6 := ⟨by decide +kernel, by decide +kernel, by decide +kernel⟩
theorem pl_Fo_matrix : plainFor y_Fo_matrix = true := plainFor_of_name (by decide +kernel)
def y_Fo_info : MethodName := ⟨R_11, "info", "(II)I"⟩
theorem hy_Fo_info : y_Fo_info.cls ≠ "java/lang/invoke/MethodHandle" ∧ y_Fo_info.cls ≠ "java/lang/invoke/VarHandle" ∧ (parseMethodDescriptor y_Fo_info.desc).map (fun d => d.parameters.length) = some 2 := ⟨by decide +kernel, by decide +kernel, by decide +kernel⟩
theorem pl_Fo_info : plainFor y_Fo_info = true := plainFor_of_name (by decide +kernel)
def y_Sh_outlineWith : MethodName := ⟨R_10, "outlineWith", "(I)I"⟩
theorem hy_Sh_outlineWith : y_Sh_outlineWith.cls ≠ "java/lang/invoke/MethodHandle" ∧ y_Sh_outlineWith.cls ≠ "java/lang/invoke/VarHandle" ∧ (parseMethodDescriptor y_Sh_outlineWith.desc).map (fun d => d.parameters.length) = some 1 := ⟨by decide +kernel, by decide +kernel, by decide +kernel⟩
theorem pl_Sh_outlineWith : plainFor y_Sh_outlineWith = true := plainFor_of_name (by decide +kernel)
def y_Fo_at : MethodName := ⟨R_11, "at", "(III)I"⟩
theorem hy_Fo_at : y_Fo_at.cls ≠ "java/lang/invoke/MethodHandle" ∧ y_Fo_at.cls ≠ "java/lang/invoke/VarHandle" ∧ (parseMethodDescriptor y_Fo_at.desc).map (fun d => d.parameters.length) = some 3 := ⟨by decide +kernel, by decide +kernel, by decide +kernel⟩
theorem pl_Fo_at : plainFor y_Fo_at = true := plainFor_of_name (by decide +kernel)
def y_Fo_takeSparePolygons : MethodName := ⟨R_11, "takeSparePolygons", "()V"⟩
theorem hy_Fo_takeSparePolygons : y_Fo_takeSparePolygons.cls ≠ "java/lang/invoke/MethodHandle" ∧ y_Fo_takeSparePolygons.cls ≠ "java/lang/invoke/VarHandle" ∧ (parseMethodDescriptor y_Fo_takeSparePolygons.desc).map (fun d => d.parameters.length) = some 0 := ⟨by decide +kernel, by decide +kernel, by decide +kernel⟩
theorem pl_Fo_takeSparePolygons : plainFor y_Fo_takeSparePolygons = true := plainFor_of_name (by decide +kernel)
theorem sel_Fo_takeSparePolygons : Cond.selects R_11 y_Fo_takeSparePolygons y_Fo_takeSparePolygons ∈ gw := List.mem_filter.mpr ⟨List.mem_append_left _ (List.mem_map.mpr ⟨(y_Fo_takeSparePolygons, 12), List.mem_of_getElem? (i := 11) rfl, rfl⟩), rfl⟩
def y_Ma_abs : MethodName := ⟨R_Ma, "abs", "(J)J"⟩
theorem hy_Ma_abs : y_Ma_abs.cls ≠ "java/lang/invoke/MethodHandle" ∧ y_Ma_abs.cls ≠ "java/lang/invoke/VarHandle" ∧ (parseMethodDescriptor y_Ma_abs.desc).map (fun d => d.parameters.length) = some 1 := ⟨by decide +kernel, by decide +kernel, by decide +kernel⟩
theorem pl_Ma_abs : plainFor y_Ma_abs = true := by decide +kernel
def y_Ma_floorDiv : MethodName := ⟨R_Ma, "floorDiv", "(JJ)J"⟩
theorem hy_Ma_floorDiv : y_Ma_floorDiv.cls ≠ "java/lang/invoke/MethodHandle" ∧ y_Ma_floorDiv.cls ≠ "java/lang/invoke/VarHandle" ∧ (parseMethodDescriptor y_Ma_floorDiv.desc).map (fun d => d.parameters.length) = some 2 := ⟨by decide +kernel, by decide +kernel, by decide +kernel⟩
theorem pl_Ma_floorDiv : plainFor y_Ma_floorDiv = true := by decide +kernel
def y_Fo_rounded : MethodName := ⟨R_11, "rounded", "(JJ)J"⟩
theorem hy_Fo_rounded : y_Fo_rounded.cls ≠ "java/lang/invoke/MethodHandle" ∧ y_Fo_rounded.cls ≠ "java/lang/invoke/VarHandle" ∧ (parseMethodDescriptor y_Fo_rounded.desc).map (fun d => d.parameters.length) = some 2 := ⟨by decide +kernel, by decide +kernel, by decide +kernel⟩
theorem pl_Fo_rounded : plainFor y_Fo_rounded = true := plainFor_of_name (by decide +kernel)
def y_Fl_firstHalf : MethodName := ⟨R_1, "firstHalf", "([JI)V"⟩
theorem hy_Fl_firstHalf : y_Fl_firstHalf.cls ≠ "java/lang/invoke/MethodHandle" ∧ y_Fl_firstHalf.cls ≠ "java/lang/invoke/VarHandle" ∧ (parseMethodDescriptor y_Fl_firstHalf.desc).map (fun d => d.parameters.length) = some 2 := ⟨by decide +kernel, by decide +kernel, by decide +kernel⟩
theorem pl_Fl_firstHalf : plainFor y_Fl_firstHalf = true := plainFor_of_name (by decide +kernel)
theorem sel_Fl_firstHalf : Cond.selects R_1 y_Fl_firstHalf y_Fl_firstHalf ∈ gw := List.mem_filter.mpr ⟨List.mem_append_left _ (List.mem_map.mpr ⟨(y_Fl_firstHalf, 7), List.mem_of_getElem? (i := 9) rfl, rfl⟩), rfl⟩
def y_Fl_bend : MethodName := ⟨R_1, "bend", "([JI)J"⟩
theorem hy_Fl_bend : y_Fl_bend.cls ≠ "java/lang/invoke/MethodHandle" ∧ y_Fl_bend.cls ≠ "java/lang/invoke/VarHandle" ∧ (parseMethodDescriptor y_Fl_bend.desc).map (fun d => d.parameters.length) = some 2 := ⟨by decide +kernel, by decide +kernel, by decide +kernel⟩
theorem pl_Fl_bend : plainFor y_Fl_bend = true := plainFor_of_name (by decide +kernel)
def y_Fl_isFlat : MethodName := ⟨R_1, "isFlat", "(I)Z"⟩
theorem hy_Fl_isFlat : y_Fl_isFlat.cls ≠ "java/lang/invoke/MethodHandle" ∧ y_Fl_isFlat.cls ≠ "java/lang/invoke/VarHandle" ∧ (parseMethodDescriptor y_Fl_isFlat.desc).map (fun d => d.parameters.length) = some 1 := ⟨by decide +kernel, by decide +kernel, by decide +kernel⟩
theorem pl_Fl_isFlat : plainFor y_Fl_isFlat = true := plainFor_of_name (by decide +kernel)
theorem sel_Fl_isFlat : Cond.selects R_1 y_Fl_isFlat y_Fl_isFlat ∈ gw := List.mem_filter.mpr ⟨List.mem_append_left _ (List.mem_map.mpr ⟨(y_Fl_isFlat, 7), List.mem_of_getElem? (i := 8) rfl, rfl⟩), rfl⟩
def y_Fl_secondHalf : MethodName := ⟨R_1, "secondHalf", "([JI)V"⟩
theorem hy_Fl_secondHalf : y_Fl_secondHalf.cls ≠ "java/lang/invoke/MethodHandle" ∧ y_Fl_secondHalf.cls ≠ "java/lang/invoke/VarHandle" ∧ (parseMethodDescriptor y_Fl_secondHalf.desc).map (fun d => d.parameters.length) = some 2 := ⟨by decide +kernel, by decide +kernel, by decide +kernel⟩
theorem pl_Fl_secondHalf : plainFor y_Fl_secondHalf = true := plainFor_of_name (by decide +kernel)
theorem sel_Fl_secondHalf : Cond.selects R_1 y_Fl_secondHalf y_Fl_secondHalf ∈ gw := List.mem_filter.mpr ⟨List.mem_append_left _ (List.mem_map.mpr ⟨(y_Fl_secondHalf, 7), List.mem_of_getElem? (i := 10) rfl, rfl⟩), rfl⟩
def y_Po_isLast : MethodName := ⟨R_7, "isLast", "(JJ)Z"⟩
theorem hy_Po_isLast : y_Po_isLast.cls ≠ "java/lang/invoke/MethodHandle" ∧ y_Po_isLast.cls ≠ "java/lang/invoke/VarHandle" ∧ (parseMethodDescriptor y_Po_isLast.desc).map (fun d => d.parameters.length) = some 2 := ⟨by decide +kernel, by decide +kernel, by decide +kernel⟩
theorem pl_Po_isLast : plainFor y_Po_isLast = true := plainFor_of_name (by decide +kernel)
theorem sel_Po_isLast : Cond.selects R_7 y_Po_isLast y_Po_isLast ∈ gw := List.mem_filter.mpr ⟨List.mem_append_left _ (List.mem_map.mpr ⟨(y_Po_isLast, 9), List.mem_of_getElem? (i := 6) rfl, rfl⟩), rfl⟩
def y_Po_isNear : MethodName := ⟨R_7, "isNear", "(J)Z"⟩
theorem hy_Po_isNear : y_Po_isNear.cls ≠ "java/lang/invoke/MethodHandle" ∧ y_Po_isNear.cls ≠ "java/lang/invoke/VarHandle" ∧ (parseMethodDescriptor y_Po_isNear.desc).map (fun d => d.parameters.length) = some 1 := ⟨by decide +kernel, by decide +kernel, by decide +kernel⟩
theorem pl_Po_isNear : plainFor y_Po_isNear = true := plainFor_of_name (by decide +kernel)
def y_Po_add : MethodName := ⟨R_7, "add", "(JJ)V"⟩
theorem hy_Po_add : y_Po_add.cls ≠ "java/lang/invoke/MethodHandle" ∧ y_Po_add.cls ≠ "java/lang/invoke/VarHandle" ∧ (parseMethodDescriptor y_Po_add.desc).map (fun d => d.parameters.length) = some 2 := ⟨by decide +kernel, by decide +kernel, by decide +kernel⟩
theorem pl_Po_add : plainFor y_Po_add = true := plainFor_of_name (by decide +kernel)
def y_Fl_addPiece : MethodName := ⟨R_1, "addPiece", "(ILLetterFoundry$Polygons;)V"⟩
theorem hy_Fl_addPiece : y_Fl_addPiece.cls ≠ "java/lang/invoke/MethodHandle" ∧ y_Fl_addPiece.cls ≠ "java/lang/invoke/VarHandle" ∧ (parseMethodDescriptor y_Fl_addPiece.desc).map (fun d => d.parameters.length) = some 2 := ⟨by decide +kernel, by decide +kernel, by decide +kernel⟩
theorem pl_Fl_addPiece : plainFor y_Fl_addPiece = true := plainFor_of_name (by decide +kernel)
theorem sel_Fl_addPiece : Cond.selects R_1 y_Fl_addPiece y_Fl_addPiece ∈ gw := List.mem_filter.mpr ⟨List.mem_append_left _ (List.mem_map.mpr ⟨(y_Fl_addPiece, 7), List.mem_of_getElem? (i := 7) rfl, rfl⟩), rfl⟩
def y_Pa_placeX : MethodName := ⟨R_6, "placeX", "(JJ)J"⟩
theorem hy_Pa_placeX : y_Pa_placeX.cls ≠ "java/lang/invoke/MethodHandle" ∧ y_Pa_placeX.cls ≠ "java/lang/invoke/VarHandle" ∧ (parseMethodDescriptor y_Pa_placeX.desc).map (fun d => d.parameters.length) = some 2 := ⟨by decide +kernel, by decide +kernel, by decide +kernel⟩
theorem pl_Pa_placeX : plainFor y_Pa_placeX = true := plainFor_of_name (by decide +kernel)
def y_Pa_placeY : MethodName := ⟨R_6, "placeY", "(JJ)J"⟩
theorem hy_Pa_placeY : y_Pa_placeY.cls ≠ "java/lang/invoke/MethodHandle" ∧ y_Pa_placeY.cls ≠ "java/lang/invoke/VarHandle" ∧ (parseMethodDescriptor y_Pa_placeY.desc).map (fun d => d.parameters.length) = some 2 := ⟨by decide +kernel, by decide +kernel, by decide +kernel⟩
theorem pl_Pa_placeY : plainFor y_Pa_placeY = true := plainFor_of_name (by decide +kernel)
def y_Fl_place : MethodName := ⟨R_1, "place", "(LLetterFoundry$Shape;II)V"⟩
theorem hy_Fl_place : y_Fl_place.cls ≠ "java/lang/invoke/MethodHandle" ∧ y_Fl_place.cls ≠ "java/lang/invoke/VarHandle" ∧ (parseMethodDescriptor y_Fl_place.desc).map (fun d => d.parameters.length) = some 3 := ⟨by decide +kernel, by decide +kernel, by decide +kernel⟩
theorem pl_Fl_place : plainFor y_Fl_place = true := plainFor_of_name (by decide +kernel)
theorem sel_Fl_place : Cond.selects R_1 y_Fl_place y_Fl_place ∈ gw := List.mem_filter.mpr ⟨List.mem_append_left _ (List.mem_map.mpr ⟨(y_Fl_place, 7), List.mem_of_getElem? (i := 5) rfl, rfl⟩), rfl⟩
def y_Po_finish : MethodName := ⟨R_7, "finish", "()V"⟩
theorem hy_Po_finish : y_Po_finish.cls ≠ "java/lang/invoke/MethodHandle" ∧ y_Po_finish.cls ≠ "java/lang/invoke/VarHandle" ∧ (parseMethodDescriptor y_Po_finish.desc).map (fun d => d.parameters.length) = some 0 := ⟨by decide +kernel, by decide +kernel, by decide +kernel⟩
theorem pl_Po_finish : plainFor y_Po_finish = true := plainFor_of_name (by decide +kernel)
def y_Fl_addOutline : MethodName := ⟨R_1, "addOutline", "(LLetterFoundry$Shape;IILLetterFoundry$Polygons;)V"⟩
theorem hy_Fl_addOutline : y_Fl_addOutline.cls ≠ "java/lang/invoke/MethodHandle" ∧ y_Fl_addOutline.cls ≠ "java/lang/invoke/VarHandle" ∧ (parseMethodDescriptor y_Fl_addOutline.desc).map (fun d => d.parameters.length) = some 4 := ⟨by decide +kernel, by decide +kernel, by decide +kernel⟩
theorem pl_Fl_addOutline : plainFor y_Fl_addOutline = true := plainFor_of_name (by decide +kernel)
theorem sel_Fl_addOutline : Cond.selects R_1 y_Fl_addOutline y_Fl_addOutline ∈ gw := List.mem_filter.mpr ⟨List.mem_append_left _ (List.mem_map.mpr ⟨(y_Fl_addOutline, 7), List.mem_of_getElem? (i := 4) rfl, rfl⟩), rfl⟩
def y_Fl_addLetter : MethodName := ⟨R_1, "addLetter", "(LLetterFoundry$Letter;ILLetterFoundry$Polygons;)V"⟩
theorem hy_Fl_addLetter : y_Fl_addLetter.cls ≠ "java/lang/invoke/MethodHandle" ∧ y_Fl_addLetter.cls ≠ "java/lang/invoke/VarHandle" ∧ (parseMethodDescriptor y_Fl_addLetter.desc).map (fun d => d.parameters.length) = some 3 := ⟨by decide +kernel, by decide +kernel, by decide +kernel⟩
theorem pl_Fl_addLetter : plainFor y_Fl_addLetter = true := plainFor_of_name (by decide +kernel)
theorem sel_Fl_addLetter : Cond.selects R_1 y_Fl_addLetter y_Fl_addLetter ∈ gw := List.mem_filter.mpr ⟨List.mem_append_left _ (List.mem_map.mpr ⟨(y_Fl_addLetter, 7), List.mem_of_getElem? (i := 3) rfl, rfl⟩), rfl⟩
def y_Po_clear : MethodName := ⟨R_7, "clear", "()V"⟩
theorem hy_Po_clear : y_Po_clear.cls ≠ "java/lang/invoke/MethodHandle" ∧ y_Po_clear.cls ≠ "java/lang/invoke/VarHandle" ∧ (parseMethodDescriptor y_Po_clear.desc).map (fun d => d.parameters.length) = some 0 := ⟨by decide +kernel, by decide +kernel, by decide +kernel⟩
theorem pl_Po_clear : plainFor y_Po_clear = true := plainFor_of_name (by decide +kernel)
def y_Fl_fill : MethodName := ⟨R_1, "fill", "(LLetterFoundry$Letter;ILLetterFoundry$Polygons;)Z"⟩
theorem hy_Fl_fill : y_Fl_fill.cls ≠ "java/lang/invoke/MethodHandle" ∧ y_Fl_fill.cls ≠ "java/lang/invoke/VarHandle" ∧ (parseMethodDescriptor y_Fl_fill.desc).map (fun d => d.parameters.length) = some 3 := ⟨by decide +kernel, by decide +kernel, by decide +kernel⟩
theorem pl_Fl_fill : plainFor y_Fl_fill = true := plainFor_of_name (by decide +kernel)
def y_Fo_flatten : MethodName := ⟨R_11, "flatten", "(II)I"⟩
theorem hy_Fo_flatten : y_Fo_flatten.cls ≠ "java/lang/invoke/MethodHandle" ∧ y_Fo_flatten.cls ≠ "java/lang/invoke/VarHandle" ∧ (parseMethodDescriptor y_Fo_flatten.desc).map (fun d => d.parameters.length) = some 2 := ⟨by decide +kernel, by decide +kernel, by decide +kernel⟩
theorem pl_Fo_flatten : plainFor y_Fo_flatten = true := plainFor_of_name (by decide +kernel)
def y_Fo_flat : MethodName := ⟨R_11, "flat", "(II)I"⟩
theorem hy_Fo_flat : y_Fo_flat.cls ≠ "java/lang/invoke/MethodHandle" ∧ y_Fo_flat.cls ≠ "java/lang/invoke/VarHandle" ∧ (parseMethodDescriptor y_Fo_flat.desc).map (fun d => d.parameters.length) = some 2 := ⟨by decide +kernel, by decide +kernel, by decide +kernel⟩
theorem pl_Fo_flat : plainFor y_Fo_flat = true := plainFor_of_name (by decide +kernel)
def y_Po_doubleArea : MethodName := ⟨R_7, "doubleArea", "()J"⟩
theorem hy_Po_doubleArea : y_Po_doubleArea.cls ≠ "java/lang/invoke/MethodHandle" ∧ y_Po_doubleArea.cls ≠ "java/lang/invoke/VarHandle" ∧ (parseMethodDescriptor y_Po_doubleArea.desc).map (fun d => d.parameters.length) = some 0 := ⟨by decide +kernel, by decide +kernel, by decide +kernel⟩
theorem pl_Po_doubleArea : plainFor y_Po_doubleArea = true := plainFor_of_name (by decide +kernel)
def y_Fo_area : MethodName := ⟨R_11, "area", "()J"⟩
theorem hy_Fo_area : y_Fo_area.cls ≠ "java/lang/invoke/MethodHandle" ∧ y_Fo_area.cls ≠ "java/lang/invoke/VarHandle" ∧ (parseMethodDescriptor y_Fo_area.desc).map (fun d => d.parameters.length) = some 0 := ⟨by decide +kernel, by decide +kernel, by decide +kernel⟩
theorem pl_Fo_area : plainFor y_Fo_area = true := plainFor_of_name (by decide +kernel)
def y_Po_turnsAround : MethodName := ⟨R_7, "turnsAround", "(II)I"⟩
theorem hy_Po_turnsAround : y_Po_turnsAround.cls ≠ "java/lang/invoke/MethodHandle" ∧ y_Po_turnsAround.cls ≠ "java/lang/invoke/VarHandle" ∧ (parseMethodDescriptor y_Po_turnsAround.desc).map (fun d => d.parameters.length) = some 2 := ⟨by decide +kernel, by decide +kernel, by decide +kernel⟩
theorem pl_Po_turnsAround : plainFor y_Po_turnsAround = true := plainFor_of_name (by decide +kernel)
def y_Fo_winding : MethodName := ⟨R_11, "winding", "(II)I"⟩
theorem hy_Fo_winding : y_Fo_winding.cls ≠ "java/lang/invoke/MethodHandle" ∧ y_Fo_winding.cls ≠ "java/lang/invoke/VarHandle" ∧ (parseMethodDescriptor y_Fo_winding.desc).map (fun d => d.parameters.length) = some 2 := ⟨by decide +kernel, by decide +kernel, by decide +kernel⟩
theorem pl_Fo_winding : plainFor y_Fo_winding = true := plainFor_of_name (by decide +kernel)
def y_Po_side : MethodName := ⟨R_7, "side", "(III)J"⟩
theorem hy_Po_side : y_Po_side.cls ≠ "java/lang/invoke/MethodHandle" ∧ y_Po_side.cls ≠ "java/lang/invoke/VarHandle" ∧ (parseMethodDescriptor y_Po_side.desc).map (fun d => d.parameters.length) = some 3 := ⟨by decide +kernel, by decide +kernel, by decide +kernel⟩
theorem pl_Po_side : plainFor y_Po_side = true := plainFor_of_name (by decide +kernel)
theorem sel_Po_side : Cond.selects R_7 y_Po_side y_Po_side ∈ gw := List.mem_filter.mpr ⟨List.mem_append_left _ (List.mem_map.mpr ⟨(y_Po_side, 9), List.mem_of_getElem? (i := 13) rfl, rfl⟩), rfl⟩
def y_Po_parts : MethodName := ⟨R_7, "parts", "(IIII)Z"⟩
theorem hy_Po_parts : y_Po_parts.cls ≠ "java/lang/invoke/MethodHandle" ∧ y_Po_parts.cls ≠ "java/lang/invoke/VarHandle" ∧ (parseMethodDescriptor y_Po_parts.desc).map (fun d => d.parameters.length) = some 4 := ⟨by decide +kernel, by decide +kernel, by decide +kernel⟩
theorem pl_Po_parts : plainFor y_Po_parts = true := plainFor_of_name (by decide +kernel)
theorem sel_Po_parts : Cond.selects R_7 y_Po_parts y_Po_parts ∈ gw := List.mem_filter.mpr ⟨List.mem_append_left _ (List.mem_map.mpr ⟨(y_Po_parts, 9), List.mem_of_getElem? (i := 12) rfl, rfl⟩), rfl⟩
def y_Po_crossingPairs : MethodName := ⟨R_7, "crossingPairs", "()I"⟩
theorem hy_Po_crossingPairs : y_Po_crossingPairs.cls ≠ "java/lang/invoke/MethodHandle" ∧ y_Po_crossingPairs.cls ≠ "java/lang/invoke/VarHandle" ∧ (parseMethodDescriptor y_Po_crossingPairs.desc).map (fun d => d.parameters.length) = some 0 := ⟨by decide +kernel, by decide +kernel, by decide +kernel⟩
theorem pl_Po_crossingPairs : plainFor y_Po_crossingPairs = true := plainFor_of_name (by decide +kernel)
def y_Fo_crossings : MethodName := ⟨R_11, "crossings", "()I"⟩
theorem hy_Fo_crossings : y_Fo_crossings.cls ≠ "java/lang/invoke/MethodHandle" ∧ y_Fo_crossings.cls ≠ "java/lang/invoke/VarHandle" ∧ (parseMethodDescriptor y_Fo_crossings.desc).map (fun d => d.parameters.length) = some 0 := ⟨by decide +kernel, by decide +kernel, by decide +kernel⟩
theorem pl_Fo_crossings : plainFor y_Fo_crossings = true := plainFor_of_name (by decide +kernel)
def y_Fo_isDots : MethodName := ⟨R_11, "isDots", "(I)Z"⟩
theorem hy_Fo_isDots : y_Fo_isDots.cls ≠ "java/lang/invoke/MethodHandle" ∧ y_Fo_isDots.cls ≠ "java/lang/invoke/VarHandle" ∧ (parseMethodDescriptor y_Fo_isDots.desc).map (fun d => d.parameters.length) = some 1 := ⟨by decide +kernel, by decide +kernel, by decide +kernel⟩
theorem pl_Fo_isDots : plainFor y_Fo_isDots = true := plainFor_of_name (by decide +kernel)
def y_Im_countRow : MethodName := ⟨R_2, "countRow", "(II)V"⟩
theorem hy_Im_countRow : y_Im_countRow.cls ≠ "java/lang/invoke/MethodHandle" ∧ y_Im_countRow.cls ≠ "java/lang/invoke/VarHandle" ∧ (parseMethodDescriptor y_Im_countRow.desc).map (fun d => d.parameters.length) = some 2 := ⟨by decide +kernel, by decide +kernel, by decide +kernel⟩
theorem pl_Im_countRow : plainFor y_Im_countRow = true := plainFor_of_name (by decide +kernel)
theorem sel_Im_countRow : Cond.selects R_2 y_Im_countRow y_Im_countRow ∈ gw := List.mem_filter.mpr ⟨List.mem_append_left _ (List.mem_map.mpr ⟨(y_Im_countRow, 9), List.mem_of_getElem? (i := 16) rfl, rfl⟩), rfl⟩
def y_Ma_min2 : MethodName := ⟨R_Ma, "min", "(II)I"⟩
theorem hy_Ma_min2 : y_Ma_min2.cls ≠ "java/lang/invoke/MethodHandle" ∧ y_Ma_min2.cls ≠ "java/lang/invoke/VarHandle" ∧ (parseMethodDescriptor y_Ma_min2.desc).map (fun d => d.parameters.length) = some 2 := ⟨by decide +kernel, by decide +kernel, by decide +kernel⟩
theorem pl_Ma_min2 : plainFor y_Ma_min2 = true := by decide +kernel
def y_Im_mark : MethodName := ⟨R_2, "mark", "(II)V"⟩
theorem hy_Im_mark : y_Im_mark.cls ≠ "java/lang/invoke/MethodHandle" ∧ y_Im_mark.cls ≠ "java/lang/invoke/VarHandle" ∧ (parseMethodDescriptor y_Im_mark.desc).map (fun d => d.parameters.length) = some 2 := ⟨by decide +kernel, by decide +kernel, by decide +kernel⟩
theorem pl_Im_mark : plainFor y_Im_mark = true := plainFor_of_name (by decide +kernel)
theorem sel_Im_mark : Cond.selects R_2 y_Im_mark y_Im_mark ∈ gw := List.mem_filter.mpr ⟨List.mem_append_left _ (List.mem_map.mpr ⟨(y_Im_mark, 9), List.mem_of_getElem? (i := 15) rfl, rfl⟩), rfl⟩
def y_Ma_max2 : MethodName := ⟨R_Ma, "max", "(JJ)J"⟩
theorem hy_Ma_max2 : y_Ma_max2.cls ≠ "java/lang/invoke/MethodHandle" ∧ y_Ma_max2.cls ≠ "java/lang/invoke/VarHandle" ∧ (parseMethodDescriptor y_Ma_max2.desc).map (fun d => d.parameters.length) = some 2 := ⟨by decide +kernel, by decide +kernel, by decide +kernel⟩
theorem pl_Ma_max2 : plainFor y_Ma_max2 = true := by decide +kernel
def y_Ma_min : MethodName := ⟨R_Ma, "min", "(JJ)J"⟩
theorem hy_Ma_min : y_Ma_min.cls ≠ "java/lang/invoke/MethodHandle" ∧ y_Ma_min.cls ≠ "java/lang/invoke/VarHandle" ∧ (parseMethodDescriptor y_Ma_min.desc).map (fun d => d.parameters.length) = some 2 := ⟨by decide +kernel, by decide +kernel, by decide +kernel⟩
theorem pl_Ma_min : plainFor y_Ma_min = true := by decide +kernel
def y_Im_samplesLeft : MethodName := ⟨R_2, "samplesLeft", "(LLetterFoundry$Polygons;IIIJ)I"⟩
theorem hy_Im_samplesLeft : y_Im_samplesLeft.cls ≠ "java/lang/invoke/MethodHandle" ∧ y_Im_samplesLeft.cls ≠ "java/lang/invoke/VarHandle" ∧ (parseMethodDescriptor y_Im_samplesLeft.desc).map (fun d => d.parameters.length) = some 5 := ⟨by decide +kernel, by decide +kernel, by decide +kernel⟩
theorem pl_Im_samplesLeft : plainFor y_Im_samplesLeft = true := plainFor_of_name (by decide +kernel)
def y_Im_markRow : MethodName := ⟨R_2, "markRow", "(LLetterFoundry$Polygons;II)V"⟩
theorem hy_Im_markRow : y_Im_markRow.cls ≠ "java/lang/invoke/MethodHandle" ∧ y_Im_markRow.cls ≠ "java/lang/invoke/VarHandle" ∧ (parseMethodDescriptor y_Im_markRow.desc).map (fun d => d.parameters.length) = some 3 := ⟨by decide +kernel, by decide +kernel, by decide +kernel⟩
theorem pl_Im_markRow : plainFor y_Im_markRow = true := plainFor_of_name (by decide +kernel)
theorem sel_Im_markRow : Cond.selects R_2 y_Im_markRow y_Im_markRow ∈ gw := List.mem_filter.mpr ⟨List.mem_append_left _ (List.mem_map.mpr ⟨(y_Im_markRow, 9), List.mem_of_getElem? (i := 14) rfl, rfl⟩), rfl⟩
def y_Im_measure : MethodName := ⟨R_2, "measure", "()V"⟩
theorem hy_Im_measure : y_Im_measure.cls ≠ "java/lang/invoke/MethodHandle" ∧ y_Im_measure.cls ≠ "java/lang/invoke/VarHandle" ∧ (parseMethodDescriptor y_Im_measure.desc).map (fun d => d.parameters.length) = some 0 := ⟨by decide +kernel, by decide +kernel, by decide +kernel⟩
theorem pl_Im_measure : plainFor y_Im_measure = true := plainFor_of_name (by decide +kernel)
theorem sel_Im_measure : Cond.selects R_2 y_Im_measure y_Im_measure ∈ gw := List.mem_filter.mpr ⟨List.mem_append_left _ (List.mem_map.mpr ⟨(y_Im_measure, 9), List.mem_of_getElem? (i := 17) rfl, rfl⟩), rfl⟩
def y_Im_draw : MethodName := ⟨R_2, "draw", "(LLetterFoundry$Polygons;II)V"⟩
theorem hy_Im_draw : y_Im_draw.cls ≠ "java/lang/invoke/MethodHandle" ∧ y_Im_draw.cls ≠ "java/lang/invoke/VarHandle" ∧ (parseMethodDescriptor y_Im_draw.desc).map (fun d => d.parameters.length) = some 3 := ⟨by decide +kernel, by decide +kernel, by decide +kernel⟩
theorem pl_Im_draw : plainFor y_Im_draw = true := plainFor_of_name (by decide +kernel)
def y_Im_isInside : MethodName := ⟨R_2, "isInside", "(I)Z"⟩
theorem hy_Im_isInside : y_Im_isInside.cls ≠ "java/lang/invoke/MethodHandle" ∧ y_Im_isInside.cls ≠ "java/lang/invoke/VarHandle" ∧ (parseMethodDescriptor y_Im_isInside.desc).map (fun d => d.parameters.length) = some 1 := ⟨by decide +kernel, by decide +kernel, by decide +kernel⟩
theorem pl_Im_isInside : plainFor y_Im_isInside = true := plainFor_of_name (by decide +kernel)
def y_Im_holds : MethodName := ⟨R_2, "holds", "(LLetterFoundry$Polygons;I)Z"⟩
theorem hy_Im_holds : y_Im_holds.cls ≠ "java/lang/invoke/MethodHandle" ∧ y_Im_holds.cls ≠ "java/lang/invoke/VarHandle" ∧ (parseMethodDescriptor y_Im_holds.desc).map (fun d => d.parameters.length) = some 2 := ⟨by decide +kernel, by decide +kernel, by decide +kernel⟩
theorem pl_Im_holds : plainFor y_Im_holds = true := plainFor_of_name (by decide +kernel)
def y_Fo_image : MethodName := ⟨R_11, "image", "(IIII)I"⟩
theorem hy_Fo_image : y_Fo_image.cls ≠ "java/lang/invoke/MethodHandle" ∧ y_Fo_image.cls ≠ "java/lang/invoke/VarHandle" ∧ (parseMethodDescriptor y_Fo_image.desc).map (fun d => d.parameters.length) = some 4 := ⟨by decide +kernel, by decide +kernel, by decide +kernel⟩
theorem pl_Fo_image : plainFor y_Fo_image = true := plainFor_of_name (by decide +kernel)
def y_Im_countAt : MethodName := ⟨R_2, "countAt", "(II)I"⟩
theorem hy_Im_countAt : y_Im_countAt.cls ≠ "java/lang/invoke/MethodHandle" ∧ y_Im_countAt.cls ≠ "java/lang/invoke/VarHandle" ∧ (parseMethodDescriptor y_Im_countAt.desc).map (fun d => d.parameters.length) = some 2 := ⟨by decide +kernel, by decide +kernel, by decide +kernel⟩
theorem pl_Im_countAt : plainFor y_Im_countAt = true := plainFor_of_name (by decide +kernel)
def y_Fo_dot : MethodName := ⟨R_11, "dot", "(II)I"⟩
theorem hy_Fo_dot : y_Fo_dot.cls ≠ "java/lang/invoke/MethodHandle" ∧ y_Fo_dot.cls ≠ "java/lang/invoke/VarHandle" ∧ (parseMethodDescriptor y_Fo_dot.desc).map (fun d => d.parameters.length) = some 2 := ⟨by decide +kernel, by decide +kernel, by decide +kernel⟩
theorem pl_Fo_dot : plainFor y_Fo_dot = true := plainFor_of_name (by decide +kernel)
def y_Im_edge : MethodName := ⟨R_2, "edge", "(I)I"⟩
theorem hy_Im_edge : y_Im_edge.cls ≠ "java/lang/invoke/MethodHandle" ∧ y_Im_edge.cls ≠ "java/lang/invoke/VarHandle" ∧ (parseMethodDescriptor y_Im_edge.desc).map (fun d => d.parameters.length) = some 1 := ⟨by decide +kernel, by decide +kernel, by decide +kernel⟩
theorem pl_Im_edge : plainFor y_Im_edge = true := plainFor_of_name (by decide +kernel)
def y_Fo_box : MethodName := ⟨R_11, "box", "(I)I"⟩
theorem hy_Fo_box : y_Fo_box.cls ≠ "java/lang/invoke/MethodHandle" ∧ y_Fo_box.cls ≠ "java/lang/invoke/VarHandle" ∧ (parseMethodDescriptor y_Fo_box.desc).map (fun d => d.parameters.length) = some 1 := ⟨by decide +kernel, by decide +kernel, by decide +kernel⟩
theorem pl_Fo_box : plainFor y_Fo_box = true := plainFor_of_name (by decide +kernel)
def y_Pr_add : MethodName := ⟨R_8, "add", "(II)I"⟩
theorem hy_Pr_add : y_Pr_add.cls ≠ "java/lang/invoke/MethodHandle" ∧ y_Pr_add.cls ≠ "java/lang/invoke/VarHandle" ∧ (parseMethodDescriptor y_Pr_add.desc).map (fun d => d.parameters.length) = some 2 := ⟨by decide +kernel, by decide +kernel, by decide +kernel⟩
theorem pl_Pr_add : plainFor y_Pr_add = true := plainFor_of_name (by decide +kernel)
def y_Fo_act : MethodName := ⟨R_11, "act", "(III)I"⟩
theorem hy_Fo_act : y_Fo_act.cls ≠ "java/lang/invoke/MethodHandle" ∧ y_Fo_act.cls ≠ "java/lang/invoke/VarHandle" ∧ (parseMethodDescriptor y_Fo_act.desc).map (fun d => d.parameters.length) = some 3 := ⟨by decide +kernel, by decide +kernel, by decide +kernel⟩
theorem pl_Fo_act : plainFor y_Fo_act = true := plainFor_of_name (by decide +kernel)
def y_Pr_clear : MethodName := ⟨R_8, "clear", "()I"⟩
theorem hy_Pr_clear : y_Pr_clear.cls ≠ "java/lang/invoke/MethodHandle" ∧ y_Pr_clear.cls ≠ "java/lang/invoke/VarHandle" ∧ (parseMethodDescriptor y_Pr_clear.desc).map (fun d => d.parameters.length) = some 0 := ⟨by decide +kernel, by decide +kernel, by decide +kernel⟩
theorem pl_Pr_clear : plainFor y_Pr_clear = true := plainFor_of_name (by decide +kernel)
def y_Fo_wipe : MethodName := ⟨R_11, "wipe", "(I)I"⟩
theorem hy_Fo_wipe : y_Fo_wipe.cls ≠ "java/lang/invoke/MethodHandle" ∧ y_Fo_wipe.cls ≠ "java/lang/invoke/VarHandle" ∧ (parseMethodDescriptor y_Fo_wipe.desc).map (fun d => d.parameters.length) = some 1 := ⟨by decide +kernel, by decide +kernel, by decide +kernel⟩
theorem pl_Fo_wipe : plainFor y_Fo_wipe = true := plainFor_of_name (by decide +kernel)
def y_Fit_start : MethodName := ⟨R_0, "start", "(LLetterFoundry$Shape;I)V"⟩
theorem hy_Fit_start : y_Fit_start.cls ≠ "java/lang/invoke/MethodHandle" ∧ y_Fit_start.cls ≠ "java/lang/invoke/VarHandle" ∧ (parseMethodDescriptor y_Fit_start.desc).map (fun d => d.parameters.length) = some 2 := ⟨by decide +kernel, by decide +kernel, by decide +kernel⟩
theorem pl_Fit_start : plainFor y_Fit_start = true := plainFor_of_name (by decide +kernel)
def y_Fit_placeBetween : MethodName := ⟨R_0, "placeBetween", "(IIIJ)J"⟩
theorem hy_Fit_placeBetween : y_Fit_placeBetween.cls ≠ "java/lang/invoke/MethodHandle" ∧ y_Fit_placeBetween.cls ≠ "java/lang/invoke/VarHandle" ∧ (parseMethodDescriptor y_Fit_placeBetween.desc).map (fun d => d.parameters.length) = some 4 := ⟨by decide +kernel, by decide +kernel, by decide +kernel⟩
theorem pl_Fit_placeBetween : plainFor y_Fit_placeBetween = true := plainFor_of_name (by decide +kernel)
theorem sel_Fit_placeBetween : Cond.selects R_0 y_Fit_placeBetween y_Fit_placeBetween ∈ gw := List.mem_filter.mpr ⟨List.mem_append_left _ (List.mem_map.mpr ⟨(y_Fit_placeBetween, 6), List.mem_of_getElem? (i := 30) rfl, rfl⟩), rfl⟩
def y_Fit_touchedBehind : MethodName := ⟨R_0, "touchedBehind", "(IIII)I"⟩
theorem hy_Fit_touchedBehind : y_Fit_touchedBehind.cls ≠ "java/lang/invoke/MethodHandle" ∧ y_Fit_touchedBehind.cls ≠ "java/lang/invoke/VarHandle" ∧ (parseMethodDescriptor y_Fit_touchedBehind.desc).map (fun d => d.parameters.length) = some 4 := ⟨by decide +kernel, by decide +kernel, by decide +kernel⟩
theorem pl_Fit_touchedBehind : plainFor y_Fit_touchedBehind = true := plainFor_of_name (by decide +kernel)
theorem sel_Fit_touchedBehind : Cond.selects R_0 y_Fit_touchedBehind y_Fit_touchedBehind ∈ gw := List.mem_filter.mpr ⟨List.mem_append_left _ (List.mem_map.mpr ⟨(y_Fit_touchedBehind, 6), List.mem_of_getElem? (i := 29) rfl, rfl⟩), rfl⟩
def y_Fit_fitOutline : MethodName := ⟨R_0, "fitOutline", "(III)Z"⟩
theorem hy_Fit_fitOutline : y_Fit_fitOutline.cls ≠ "java/lang/invoke/MethodHandle" ∧ y_Fit_fitOutline.cls ≠ "java/lang/invoke/VarHandle" ∧ (parseMethodDescriptor y_Fit_fitOutline.desc).map (fun d => d.parameters.length) = some 3 := ⟨by decide +kernel, by decide +kernel, by decide +kernel⟩
theorem pl_Fit_fitOutline : plainFor y_Fit_fitOutline = true := plainFor_of_name (by decide +kernel)
theorem sel_Fit_fitOutline : Cond.selects R_0 y_Fit_fitOutline y_Fit_fitOutline ∈ gw := List.mem_filter.mpr ⟨List.mem_append_left _ (List.mem_map.mpr ⟨(y_Fit_fitOutline, 6), List.mem_of_getElem? (i := 28) rfl, rfl⟩), rfl⟩
def y_Fit_fitAll : MethodName := ⟨R_0, "fitAll", "(I)Z"⟩
theorem hy_Fit_fitAll : y_Fit_fitAll.cls ≠ "java/lang/invoke/MethodHandle" ∧ y_Fit_fitAll.cls ≠ "java/lang/invoke/VarHandle" ∧ (parseMethodDescriptor y_Fit_fitAll.desc).map (fun d => d.parameters.length) = some 1 := ⟨by decide +kernel, by decide +kernel, by decide +kernel⟩
theorem pl_Fit_fitAll : plainFor y_Fit_fitAll = true := plainFor_of_name (by decide +kernel)
def y_Ru_pop : MethodName := ⟨R_9, "pop", "()I"⟩
theorem hy_Ru_pop : y_Ru_pop.cls ≠ "java/lang/invoke/MethodHandle" ∧ y_Ru_pop.cls ≠ "java/lang/invoke/VarHandle" ∧ (parseMethodDescriptor y_Ru_pop.desc).map (fun d => d.parameters.length) = some 0 := ⟨by decide +kernel, by decide +kernel, by decide +kernel⟩
theorem pl_Ru_pop : plainFor y_Ru_pop = true := plainFor_of_name (by decide +kernel)
theorem sel_Ru_pop : Cond.selects R_9 y_Ru_pop y_Ru_pop ∈ gw := List.mem_filter.mpr ⟨List.mem_append_left _ (List.mem_map.mpr ⟨(y_Ru_pop, 6), List.mem_of_getElem? (i := 22) rfl, rfl⟩), rfl⟩
def y_Ru_push : MethodName := ⟨R_9, "push", "(I)V"⟩
theorem hy_Ru_push : y_Ru_push.cls ≠ "java/lang/invoke/MethodHandle" ∧ y_Ru_push.cls ≠ "java/lang/invoke/VarHandle" ∧ (parseMethodDescriptor y_Ru_push.desc).map (fun d => d.parameters.length) = some 1 := ⟨by decide +kernel, by decide +kernel, by decide +kernel⟩
theorem pl_Ru_push : plainFor y_Ru_push = true := plainFor_of_name (by decide +kernel)
theorem sel_Ru_push : Cond.selects R_9 y_Ru_push y_Ru_push ∈ gw := List.mem_filter.mpr ⟨List.mem_append_left _ (List.mem_map.mpr ⟨(y_Ru_push, 6), List.mem_of_getElem? (i := 21) rfl, rfl⟩), rfl⟩
def y_Ru_changeTwo : MethodName := ⟨R_9, "changeTwo", "()V"⟩
theorem hy_Ru_changeTwo : y_Ru_changeTwo.cls ≠ "java/lang/invoke/MethodHandle" ∧ y_Ru_changeTwo.cls ≠ "java/lang/invoke/VarHandle" ∧ (parseMethodDescriptor y_Ru_changeTwo.desc).map (fun d => d.parameters.length) = some 0 := ⟨by decide +kernel, by decide +kernel, by decide +kernel⟩
theorem pl_Ru_changeTwo : plainFor y_Ru_changeTwo = true := plainFor_of_name (by decide +kernel)
theorem sel_Ru_changeTwo : Cond.selects R_9 y_Ru_changeTwo y_Ru_changeTwo ∈ gw := List.mem_filter.mpr ⟨List.mem_append_left _ (List.mem_map.mpr ⟨(y_Ru_changeTwo, 6), List.mem_of_getElem? (i := 23) rfl, rfl⟩), rfl⟩
def y_Ru_carry : MethodName := ⟨R_9, "carry", "(II)V"⟩
theorem hy_Ru_carry : y_Ru_carry.cls ≠ "java/lang/invoke/MethodHandle" ∧ y_Ru_carry.cls ≠ "java/lang/invoke/VarHandle" ∧ (parseMethodDescriptor y_Ru_carry.desc).map (fun d => d.parameters.length) = some 2 := ⟨by decide +kernel, by decide +kernel, by decide +kernel⟩
theorem pl_Ru_carry : plainFor y_Ru_carry = true := plainFor_of_name (by decide +kernel)
theorem sel_Ru_carry : Cond.selects R_9 y_Ru_carry y_Ru_carry ∈ gw := List.mem_filter.mpr ⟨List.mem_append_left _ (List.mem_map.mpr ⟨(y_Ru_carry, 6), List.mem_of_getElem? (i := 20) rfl, rfl⟩), rfl⟩
def y_Fit_hasPoint : MethodName := ⟨R_0, "hasPoint", "(I)Z"⟩
theorem hy_Fit_hasPoint : y_Fit_hasPoint.cls ≠ "java/lang/invoke/MethodHandle" ∧ y_Fit_hasPoint.cls ≠ "java/lang/invoke/VarHandle" ∧ (parseMethodDescriptor y_Fit_hasPoint.desc).map (fun d => d.parameters.length) = some 1 := ⟨by decide +kernel, by decide +kernel, by decide +kernel⟩
theorem pl_Fit_hasPoint : plainFor y_Fit_hasPoint = true := plainFor_of_name (by decide +kernel)
def y_Ru_faultAhead : MethodName := ⟨R_9, "faultAhead", "(IIILLetterFoundry$Fitting;)I"⟩
theorem hy_Ru_faultAhead : y_Ru_faultAhead.cls ≠ "java/lang/invoke/MethodHandle" ∧ y_Ru_faultAhead.cls ≠ "java/lang/invoke/VarHandle" ∧ (parseMethodDescriptor y_Ru_faultAhead.desc).map (fun d => d.parameters.length) = some 4 := ⟨by decide +kernel, by decide +kernel, by decide +kernel⟩
theorem pl_Ru_faultAhead : plainFor y_Ru_faultAhead = true := plainFor_of_name (by decide +kernel)
theorem sel_Ru_faultAhead : Cond.selects R_9 y_Ru_faultAhead y_Ru_faultAhead ∈ gw := List.mem_filter.mpr ⟨List.mem_append_left _ (List.mem_map.mpr ⟨(y_Ru_faultAhead, 6), List.mem_of_getElem? (i := 19) rfl, rfl⟩), rfl⟩
def y_Ru_go : MethodName := ⟨R_9, "go", "(III)V"⟩
theorem hy_Ru_go : y_Ru_go.cls ≠ "java/lang/invoke/MethodHandle" ∧ y_Ru_go.cls ≠ "java/lang/invoke/VarHandle" ∧ (parseMethodDescriptor y_Ru_go.desc).map (fun d => d.parameters.length) = some 3 := ⟨by decide +kernel, by decide +kernel, by decide +kernel⟩
theorem pl_Ru_go : plainFor y_Ru_go = true := plainFor_of_name (by decide +kernel)
theorem sel_Ru_go : Cond.selects R_9 y_Ru_go y_Ru_go ∈ gw := List.mem_filter.mpr ⟨List.mem_append_left _ (List.mem_map.mpr ⟨(y_Ru_go, 6), List.mem_of_getElem? (i := 26) rfl, rfl⟩), rfl⟩
def y_Ru_toGrid : MethodName := ⟨R_9, "toGrid", "(J)J"⟩
theorem hy_Ru_toGrid : y_Ru_toGrid.cls ≠ "java/lang/invoke/MethodHandle" ∧ y_Ru_toGrid.cls ≠ "java/lang/invoke/VarHandle" ∧ (parseMethodDescriptor y_Ru_toGrid.desc).map (fun d => d.parameters.length) = some 1 := ⟨by decide +kernel, by decide +kernel, by decide +kernel⟩
theorem pl_Ru_toGrid : plainFor y_Ru_toGrid = true := plainFor_of_name (by decide +kernel)
def y_Ru_ofOne : MethodName := ⟨R_9, "ofOne", "(IJ)J"⟩
theorem hy_Ru_ofOne : y_Ru_ofOne.cls ≠ "java/lang/invoke/MethodHandle" ∧ y_Ru_ofOne.cls ≠ "java/lang/invoke/VarHandle" ∧ (parseMethodDescriptor y_Ru_ofOne.desc).map (fun d => d.parameters.length) = some 2 := ⟨by decide +kernel, by decide +kernel, by decide +kernel⟩
theorem pl_Ru_ofOne : plainFor y_Ru_ofOne = true := plainFor_of_name (by decide +kernel)
def y_Ru_pushNumber : MethodName := ⟨R_9, "pushNumber", "(J)I"⟩
theorem hy_Ru_pushNumber : y_Ru_pushNumber.cls ≠ "java/lang/invoke/MethodHandle" ∧ y_Ru_pushNumber.cls ≠ "java/lang/invoke/VarHandle" ∧ (parseMethodDescriptor y_Ru_pushNumber.desc).map (fun d => d.parameters.length) = some 1 := ⟨by decide +kernel, by decide +kernel, by decide +kernel⟩
theorem pl_Ru_pushNumber : plainFor y_Ru_pushNumber = true := plainFor_of_name (by decide +kernel)
theorem sel_Ru_pushNumber : Cond.selects R_9 y_Ru_pushNumber y_Ru_pushNumber ∈ gw := List.mem_filter.mpr ⟨List.mem_append_left _ (List.mem_map.mpr ⟨(y_Ru_pushNumber, 6), List.mem_of_getElem? (i := 24) rfl, rfl⟩), rfl⟩
def y_Ru_ofTwo : MethodName := ⟨R_9, "ofTwo", "(IJJ)J"⟩
theorem hy_Ru_ofTwo : y_Ru_ofTwo.cls ≠ "java/lang/invoke/MethodHandle" ∧ y_Ru_ofTwo.cls ≠ "java/lang/invoke/VarHandle" ∧ (parseMethodDescriptor y_Ru_ofTwo.desc).map (fun d => d.parameters.length) = some 3 := ⟨by decide +kernel, by decide +kernel, by decide +kernel⟩
theorem pl_Ru_ofTwo : plainFor y_Ru_ofTwo = true := plainFor_of_name (by decide +kernel)
def y_Ru_reckonTwo : MethodName := ⟨R_9, "reckonTwo", "(I)I"⟩
theorem hy_Ru_reckonTwo : y_Ru_reckonTwo.cls ≠ "java/lang/invoke/MethodHandle" ∧ y_Ru_reckonTwo.cls ≠ "java/lang/invoke/VarHandle" ∧ (parseMethodDescriptor y_Ru_reckonTwo.desc).map (fun d => d.parameters.length) = some 1 := ⟨by decide +kernel, by decide +kernel, by decide +kernel⟩
theorem pl_Ru_reckonTwo : plainFor y_Ru_reckonTwo = true := plainFor_of_name (by decide +kernel)
theorem sel_Ru_reckonTwo : Cond.selects R_9 y_Ru_reckonTwo y_Ru_reckonTwo ∈ gw := List.mem_filter.mpr ⟨List.mem_append_left _ (List.mem_map.mpr ⟨(y_Ru_reckonTwo, 6), List.mem_of_getElem? (i := 25) rfl, rfl⟩), rfl⟩
def y_Fit_touch : MethodName := ⟨R_0, "touch", "(III)V"⟩
theorem hy_Fit_touch : y_Fit_touch.cls ≠ "java/lang/invoke/MethodHandle" ∧ y_Fit_touch.cls ≠ "java/lang/invoke/VarHandle" ∧ (parseMethodDescriptor y_Fit_touch.desc).map (fun d => d.parameters.length) = some 3 := ⟨by decide +kernel, by decide +kernel, by decide +kernel⟩
theorem pl_Fit_touch : plainFor y_Fit_touch = true := plainFor_of_name (by decide +kernel)
def y_Ru_usePoint : MethodName := ⟨R_9, "usePoint", "(IILLetterFoundry$Fitting;)V"⟩
theorem hy_Ru_usePoint : y_Ru_usePoint.cls ≠ "java/lang/invoke/MethodHandle" ∧ y_Ru_usePoint.cls ≠ "java/lang/invoke/VarHandle" ∧ (parseMethodDescriptor y_Ru_usePoint.desc).map (fun d => d.parameters.length) = some 3 := ⟨by decide +kernel, by decide +kernel, by decide +kernel⟩
theorem pl_Ru_usePoint : plainFor y_Ru_usePoint = true := plainFor_of_name (by decide +kernel)
theorem sel_Ru_usePoint : Cond.selects R_9 y_Ru_usePoint y_Ru_usePoint ∈ gw := List.mem_filter.mpr ⟨List.mem_append_left _ (List.mem_map.mpr ⟨(y_Ru_usePoint, 6), List.mem_of_getElem? (i := 27) rfl, rfl⟩), rfl⟩
def y_Ru_step : MethodName := ⟨R_9, "step", "(LLetterFoundry$Program;LLetterFoundry$Fitting;)I"⟩
theorem hy_Ru_step : y_Ru_step.cls ≠ "java/lang/invoke/MethodHandle" ∧ y_Ru_step.cls ≠ "java/lang/invoke/VarHandle" ∧ (parseMethodDescriptor y_Ru_step.desc).map (fun d => d.parameters.length) = some 2 := ⟨by decide +kernel, by decide +kernel, by decide +kernel⟩
theorem pl_Ru_step : plainFor y_Ru_step = true := plainFor_of_name (by decide +kernel)
theorem sel_Ru_step : Cond.selects R_9 y_Ru_step y_Ru_step ∈ gw := List.mem_filter.mpr ⟨List.mem_append_left _ (List.mem_map.mpr ⟨(y_Ru_step, 6), List.mem_of_getElem? (i := 18) rfl, rfl⟩), rfl⟩
def y_Ru_perform : MethodName := ⟨R_9, "perform", "(LLetterFoundry$Program;LLetterFoundry$Fitting;)I"⟩
theorem hy_Ru_perform : y_Ru_perform.cls ≠ "java/lang/invoke/MethodHandle" ∧ y_Ru_perform.cls ≠ "java/lang/invoke/VarHandle" ∧ (parseMethodDescriptor y_Ru_perform.desc).map (fun d => d.parameters.length) = some 2 := ⟨by decide +kernel, by decide +kernel, by decide +kernel⟩
theorem pl_Ru_perform : plainFor y_Ru_perform = true := plainFor_of_name (by decide +kernel)
def y_Fo_run : MethodName := ⟨R_11, "run", "(II)I"⟩
theorem hy_Fo_run : y_Fo_run.cls ≠ "java/lang/invoke/MethodHandle" ∧ y_Fo_run.cls ≠ "java/lang/invoke/VarHandle" ∧ (parseMethodDescriptor y_Fo_run.desc).map (fun d => d.parameters.length) = some 2 := ⟨by decide +kernel, by decide +kernel, by decide +kernel⟩
theorem pl_Fo_run : plainFor y_Fo_run = true := plainFor_of_name (by decide +kernel)
def y_Fo_fitted : MethodName := ⟨R_11, "fitted", "(II)I"⟩
theorem hy_Fo_fitted : y_Fo_fitted.cls ≠ "java/lang/invoke/MethodHandle" ∧ y_Fo_fitted.cls ≠ "java/lang/invoke/VarHandle" ∧ (parseMethodDescriptor y_Fo_fitted.desc).map (fun d => d.parameters.length) = some 2 := ⟨by decide +kernel, by decide +kernel, by decide +kernel⟩
theorem pl_Fo_fitted : plainFor y_Fo_fitted = true := plainFor_of_name (by decide +kernel)
def y_Fo_isBy : MethodName := ⟨R_11, "isBy", "(I)Z"⟩
theorem hy_Fo_isBy : y_Fo_isBy.cls ≠ "java/lang/invoke/MethodHandle" ∧ y_Fo_isBy.cls ≠ "java/lang/invoke/VarHandle" ∧ (parseMethodDescriptor y_Fo_isBy.desc).map (fun d => d.parameters.length) = some 1 := ⟨by decide +kernel, by decide +kernel, by decide +kernel⟩
theorem pl_Fo_isBy : plainFor y_Fo_isBy = true := plainFor_of_name (by decide +kernel)
def y_Fo_isMaster : MethodName := ⟨R_11, "isMaster", "(I)Z"⟩
theorem hy_Fo_isMaster : y_Fo_isMaster.cls ≠ "java/lang/invoke/MethodHandle" ∧ y_Fo_isMaster.cls ≠ "java/lang/invoke/VarHandle" ∧ (parseMethodDescriptor y_Fo_isMaster.desc).map (fun d => d.parameters.length) = some 1 := ⟨by decide +kernel, by decide +kernel, by decide +kernel⟩
theorem pl_Fo_isMaster : plainFor y_Fo_isMaster = true := plainFor_of_name (by decide +kernel)
def y_Fo_delta : MethodName := ⟨R_11, "delta", "(IIIII)Z"⟩
theorem hy_Fo_delta : y_Fo_delta.cls ≠ "java/lang/invoke/MethodHandle" ∧ y_Fo_delta.cls ≠ "java/lang/invoke/VarHandle" ∧ (parseMethodDescriptor y_Fo_delta.desc).map (fun d => d.parameters.length) = some 5 := ⟨by decide +kernel, by decide +kernel, by decide +kernel⟩
theorem pl_Fo_delta : plainFor y_Fo_delta = true := plainFor_of_name (by decide +kernel)
def y_Fo_weight : MethodName := ⟨R_11, "weight", "(II)Z"⟩
theorem hy_Fo_weight : y_Fo_weight.cls ≠ "java/lang/invoke/MethodHandle" ∧ y_Fo_weight.cls ≠ "java/lang/invoke/VarHandle" ∧ (parseMethodDescriptor y_Fo_weight.desc).map (fun d => d.parameters.length) = some 2 := ⟨by decide +kernel, by decide +kernel, by decide +kernel⟩
theorem pl_Fo_weight : plainFor y_Fo_weight = true := plainFor_of_name (by decide +kernel)
def y_Fo_weighed : MethodName := ⟨R_11, "weighed", "([[II)I"⟩
theorem hy_Fo_weighed : y_Fo_weighed.cls ≠ "java/lang/invoke/MethodHandle" ∧ y_Fo_weighed.cls ≠ "java/lang/invoke/VarHandle" ∧ (parseMethodDescriptor y_Fo_weighed.desc).map (fun d => d.parameters.length) = some 2 := ⟨by decide +kernel, by decide +kernel, by decide +kernel⟩
theorem pl_Fo_weighed : plainFor y_Fo_weighed = true := plainFor_of_name (by decide +kernel)
theorem sel_Fo_weighed : Cond.selects R_11 y_Fo_weighed y_Fo_weighed ∈ gw := List.mem_filter.mpr ⟨List.mem_append_left _ (List.mem_map.mpr ⟨(y_Fo_weighed, 12), List.mem_of_getElem? (i := 31) rfl, rfl⟩), rfl⟩
def y_Fo_mixed : MethodName := ⟨R_11, "mixed", "(III)I"⟩
theorem hy_Fo_mixed : y_Fo_mixed.cls ≠ "java/lang/invoke/MethodHandle" ∧ y_Fo_mixed.cls ≠ "java/lang/invoke/VarHandle" ∧ (parseMethodDescriptor y_Fo_mixed.desc).map (fun d => d.parameters.length) = some 3 := ⟨by decide +kernel, by decide +kernel, by decide +kernel⟩
theorem pl_Fo_mixed : plainFor y_Fo_mixed = true := plainFor_of_name (by decide +kernel)
def y_Fo_isClass : MethodName := ⟨R_11, "isClass", "(I)Z"⟩
theorem hy_Fo_isClass : y_Fo_isClass.cls ≠ "java/lang/invoke/MethodHandle" ∧ y_Fo_isClass.cls ≠ "java/lang/invoke/VarHandle" ∧ (parseMethodDescriptor y_Fo_isClass.desc).map (fun d => d.parameters.length) = some 1 := ⟨by decide +kernel, by decide +kernel, by decide +kernel⟩
theorem pl_Fo_isClass : plainFor y_Fo_isClass = true := plainFor_of_name (by decide +kernel)
def y_Fo_classOf : MethodName := ⟨R_11, "classOf", "(III)Z"⟩
theorem hy_Fo_classOf : y_Fo_classOf.cls ≠ "java/lang/invoke/MethodHandle" ∧ y_Fo_classOf.cls ≠ "java/lang/invoke/VarHandle" ∧ (parseMethodDescriptor y_Fo_classOf.desc).map (fun d => d.parameters.length) = some 3 := ⟨by decide +kernel, by decide +kernel, by decide +kernel⟩
theorem pl_Fo_classOf : plainFor y_Fo_classOf = true := plainFor_of_name (by decide +kernel)
def y_Fo_kern : MethodName := ⟨R_11, "kern", "(III)Z"⟩
theorem hy_Fo_kern : y_Fo_kern.cls ≠ "java/lang/invoke/MethodHandle" ∧ y_Fo_kern.cls ≠ "java/lang/invoke/VarHandle" ∧ (parseMethodDescriptor y_Fo_kern.desc).map (fun d => d.parameters.length) = some 3 := ⟨by decide +kernel, by decide +kernel, by decide +kernel⟩
theorem pl_Fo_kern : plainFor y_Fo_kern = true := plainFor_of_name (by decide +kernel)
def y_Fo_exception : MethodName := ⟨R_11, "exception", "(III)Z"⟩
theorem hy_Fo_exception : y_Fo_exception.cls ≠ "java/lang/invoke/MethodHandle" ∧ y_Fo_exception.cls ≠ "java/lang/invoke/VarHandle" ∧ (parseMethodDescriptor y_Fo_exception.desc).map (fun d => d.parameters.length) = some 3 := ⟨by decide +kernel, by decide +kernel, by decide +kernel⟩
theorem pl_Fo_exception : plainFor y_Fo_exception = true := plainFor_of_name (by decide +kernel)
def y_Ke_between : MethodName := ⟨R_3, "between", "([LLetterFoundry$Letter;II)I"⟩
theorem hy_Ke_between : y_Ke_between.cls ≠ "java/lang/invoke/MethodHandle" ∧ y_Ke_between.cls ≠ "java/lang/invoke/VarHandle" ∧ (parseMethodDescriptor y_Ke_between.desc).map (fun d => d.parameters.length) = some 3 := ⟨by decide +kernel, by decide +kernel, by decide +kernel⟩
theorem pl_Ke_between : plainFor y_Ke_between = true := plainFor_of_name (by decide +kernel)
def y_Fo_kerning : MethodName := ⟨R_11, "kerning", "(II)I"⟩
theorem hy_Fo_kerning : y_Fo_kerning.cls ≠ "java/lang/invoke/MethodHandle" ∧ y_Fo_kerning.cls ≠ "java/lang/invoke/VarHandle" ∧ (parseMethodDescriptor y_Fo_kerning.desc).map (fun d => d.parameters.length) = some 2 := ⟨by decide +kernel, by decide +kernel, by decide +kernel⟩
theorem pl_Fo_kerning : plainFor y_Fo_kerning = true := plainFor_of_name (by decide +kernel)
def y_Li_addRule : MethodName := ⟨R_5, "addRule", "(IIII)I"⟩
theorem hy_Li_addRule : y_Li_addRule.cls ≠ "java/lang/invoke/MethodHandle" ∧ y_Li_addRule.cls ≠ "java/lang/invoke/VarHandle" ∧ (parseMethodDescriptor y_Li_addRule.desc).map (fun d => d.parameters.length) = some 4 := ⟨by decide +kernel, by decide +kernel, by decide +kernel⟩
theorem pl_Li_addRule : plainFor y_Li_addRule = true := plainFor_of_name (by decide +kernel)
def y_Fo_join : MethodName := ⟨R_11, "join", "(IIII)I"⟩
theorem hy_Fo_join : y_Fo_join.cls ≠ "java/lang/invoke/MethodHandle" ∧ y_Fo_join.cls ≠ "java/lang/invoke/VarHandle" ∧ (parseMethodDescriptor y_Fo_join.desc).map (fun d => d.parameters.length) = some 4 := ⟨by decide +kernel, by decide +kernel, by decide +kernel⟩
theorem pl_Fo_join : plainFor y_Fo_join = true := plainFor_of_name (by decide +kernel)
def y_Li_addSign : MethodName := ⟨R_5, "addSign", "(I)I"⟩
theorem hy_Li_addSign : y_Li_addSign.cls ≠ "java/lang/invoke/MethodHandle" ∧ y_Li_addSign.cls ≠ "java/lang/invoke/VarHandle" ∧ (parseMethodDescriptor y_Li_addSign.desc).map (fun d => d.parameters.length) = some 1 := ⟨by decide +kernel, by decide +kernel, by decide +kernel⟩
theorem pl_Li_addSign : plainFor y_Li_addSign = true := plainFor_of_name (by decide +kernel)
def y_Fo_sign : MethodName := ⟨R_11, "sign", "(I)I"⟩
theorem hy_Fo_sign : y_Fo_sign.cls ≠ "java/lang/invoke/MethodHandle" ∧ y_Fo_sign.cls ≠ "java/lang/invoke/VarHandle" ∧ (parseMethodDescriptor y_Fo_sign.desc).map (fun d => d.parameters.length) = some 1 := ⟨by decide +kernel, by decide +kernel, by decide +kernel⟩
theorem pl_Fo_sign : plainFor y_Fo_sign = true := plainFor_of_name (by decide +kernel)
def y_Li_place : MethodName := ⟨R_5, "place", "([LLetterFoundry$Letter;IILLetterFoundry$Kerning;)V"⟩
theorem hy_Li_place : y_Li_place.cls ≠ "java/lang/invoke/MethodHandle" ∧ y_Li_place.cls ≠ "java/lang/invoke/VarHandle" ∧ (parseMethodDescriptor y_Li_place.desc).map (fun d => d.parameters.length) = some 4 := ⟨by decide +kernel, by decide +kernel, by decide +kernel⟩
theorem pl_Li_place : plainFor y_Li_place = true := plainFor_of_name (by decide +kernel)
theorem sel_Li_place : Cond.selects R_5 y_Li_place y_Li_place ∈ gw := List.mem_filter.mpr ⟨List.mem_append_left _ (List.mem_map.mpr ⟨(y_Li_place, 10), List.mem_of_getElem? (i := 35) rfl, rfl⟩), rfl⟩
def y_Li_sizeOf : MethodName := ⟨R_5, "sizeOf", "(I)I"⟩
theorem hy_Li_sizeOf : y_Li_sizeOf.cls ≠ "java/lang/invoke/MethodHandle" ∧ y_Li_sizeOf.cls ≠ "java/lang/invoke/VarHandle" ∧ (parseMethodDescriptor y_Li_sizeOf.desc).map (fun d => d.parameters.length) = some 1 := ⟨by decide +kernel, by decide +kernel, by decide +kernel⟩
theorem pl_Li_sizeOf : plainFor y_Li_sizeOf = true := plainFor_of_name (by decide +kernel)
theorem sel_Li_sizeOf : Cond.selects R_5 y_Li_sizeOf y_Li_sizeOf ∈ gw := List.mem_filter.mpr ⟨List.mem_append_left _ (List.mem_map.mpr ⟨(y_Li_sizeOf, 10), List.mem_of_getElem? (i := 33) rfl, rfl⟩), rfl⟩
def y_Li_fitsAt : MethodName := ⟨R_5, "fitsAt", "(II)Z"⟩
theorem hy_Li_fitsAt : y_Li_fitsAt.cls ≠ "java/lang/invoke/MethodHandle" ∧ y_Li_fitsAt.cls ≠ "java/lang/invoke/VarHandle" ∧ (parseMethodDescriptor y_Li_fitsAt.desc).map (fun d => d.parameters.length) = some 2 := ⟨by decide +kernel, by decide +kernel, by decide +kernel⟩
theorem pl_Li_fitsAt : plainFor y_Li_fitsAt = true := plainFor_of_name (by decide +kernel)
theorem sel_Li_fitsAt : Cond.selects R_5 y_Li_fitsAt y_Li_fitsAt ∈ gw := List.mem_filter.mpr ⟨List.mem_append_left _ (List.mem_map.mpr ⟨(y_Li_fitsAt, 10), List.mem_of_getElem? (i := 34) rfl, rfl⟩), rfl⟩
def y_Li_ruleAt : MethodName := ⟨R_5, "ruleAt", "(I)I"⟩
theorem hy_Li_ruleAt : y_Li_ruleAt.cls ≠ "java/lang/invoke/MethodHandle" ∧ y_Li_ruleAt.cls ≠ "java/lang/invoke/VarHandle" ∧ (parseMethodDescriptor y_Li_ruleAt.desc).map (fun d => d.parameters.length) = some 1 := ⟨by decide +kernel, by decide +kernel, by decide +kernel⟩
theorem pl_Li_ruleAt : plainFor y_Li_ruleAt = true := plainFor_of_name (by decide +kernel)
theorem sel_Li_ruleAt : Cond.selects R_5 y_Li_ruleAt y_Li_ruleAt ∈ gw := List.mem_filter.mpr ⟨List.mem_append_left _ (List.mem_map.mpr ⟨(y_Li_ruleAt, 10), List.mem_of_getElem? (i := 32) rfl, rfl⟩), rfl⟩
def y_Li_compose : MethodName := ⟨R_5, "compose", "([LLetterFoundry$Letter;ILLetterFoundry$Kerning;)V"⟩
theorem hy_Li_compose : y_Li_compose.cls ≠ "java/lang/invoke/MethodHandle" ∧ y_Li_compose.cls ≠ "java/lang/invoke/VarHandle" ∧ (parseMethodDescriptor y_Li_compose.desc).map (fun d => d.parameters.length) = some 3 := ⟨by decide +kernel, by decide +kernel, by decide +kernel⟩
theorem pl_Li_compose : plainFor y_Li_compose = true := plainFor_of_name (by decide +kernel)
def y_Fo_set : MethodName := ⟨R_11, "set", "()I"⟩
theorem hy_Fo_set : y_Fo_set.cls ≠ "java/lang/invoke/MethodHandle" ∧ y_Fo_set.cls ≠ "java/lang/invoke/VarHandle" ∧ (parseMethodDescriptor y_Fo_set.desc).map (fun d => d.parameters.length) = some 0 := ⟨by decide +kernel, by decide +kernel, by decide +kernel⟩
theorem pl_Fo_set : plainFor y_Fo_set = true := plainFor_of_name (by decide +kernel)
def y_Fo_placed : MethodName := ⟨R_11, "placed", "(II)I"⟩
theorem hy_Fo_placed : y_Fo_placed.cls ≠ "java/lang/invoke/MethodHandle" ∧ y_Fo_placed.cls ≠ "java/lang/invoke/VarHandle" ∧ (parseMethodDescriptor y_Fo_placed.desc).map (fun d => d.parameters.length) = some 2 := ⟨by decide +kernel, by decide +kernel, by decide +kernel⟩
theorem pl_Fo_placed : plainFor y_Fo_placed = true := plainFor_of_name (by decide +kernel)
def y_Fo_length : MethodName := ⟨R_11, "length", "()I"⟩
theorem hy_Fo_length : y_Fo_length.cls ≠ "java/lang/invoke/MethodHandle" ∧ y_Fo_length.cls ≠ "java/lang/invoke/VarHandle" ∧ (parseMethodDescriptor y_Fo_length.desc).map (fun d => d.parameters.length) = some 0 := ⟨by decide +kernel, by decide +kernel, by decide +kernel⟩
theorem pl_Fo_length : plainFor y_Fo_length = true := plainFor_of_name (by decide +kernel)
def y_Mo_init : MethodName := ⟨R_12, "<init>", "()V"⟩
theorem hy_Mo_init : y_Mo_init.cls ≠ "java/lang/invoke/MethodHandle" ∧ y_Mo_init.cls ≠ "java/lang/invoke/VarHandle" ∧ (parseMethodDescriptor y_Mo_init.desc).map (fun d => d.parameters.length) = some 0 := ⟨by decide +kernel, by decide +kernel, by decide +kernel⟩
theorem pl_Mo_init : plainFor y_Mo_init = true := plainFor_of_name (by decide +kernel)
def y_Mo_find : MethodName := ⟨R_12, "find", "(I)I"⟩
theorem hy_Mo_find : y_Mo_find.cls ≠ "java/lang/invoke/MethodHandle" ∧ y_Mo_find.cls ≠ "java/lang/invoke/VarHandle" ∧ (parseMethodDescriptor y_Mo_find.desc).map (fun d => d.parameters.length) = some 1 := ⟨by decide +kernel, by decide +kernel, by decide +kernel⟩
theorem pl_Mo_find : plainFor y_Mo_find = true := plainFor_of_name (by decide +kernel)
def y_Mo_isCode : MethodName := ⟨R_12, "isCode", "(I)Z"⟩
theorem hy_Mo_isCode : y_Mo_isCode.cls ≠ "java/lang/invoke/MethodHandle" ∧ y_Mo_isCode.cls ≠ "java/lang/invoke/VarHandle" ∧ (parseMethodDescriptor y_Mo_isCode.desc).map (fun d => d.parameters.length) = some 1 := ⟨by decide +kernel, by decide +kernel, by decide +kernel⟩
theorem pl_Mo_isCode : plainFor y_Mo_isCode = true := plainFor_of_name (by decide +kernel)
def y_Mo_letter : MethodName := ⟨R_12, "letter", "(II)I"⟩
theorem hy_Mo_letter : y_Mo_letter.cls ≠ "java/lang/invoke/MethodHandle" ∧ y_Mo_letter.cls ≠ "java/lang/invoke/VarHandle" ∧ (parseMethodDescriptor y_Mo_letter.desc).map (fun d => d.parameters.length) = some 2 := ⟨by decide +kernel, by decide +kernel, by decide +kernel⟩
theorem pl_Mo_letter : plainFor y_Mo_letter = true := plainFor_of_name (by decide +kernel)
def y_Mo_isLetter : MethodName := ⟨R_12, "isLetter", "(I)Z"⟩
theorem hy_Mo_isLetter : y_Mo_isLetter.cls ≠ "java/lang/invoke/MethodHandle" ∧ y_Mo_isLetter.cls ≠ "java/lang/invoke/VarHandle" ∧ (parseMethodDescriptor y_Mo_isLetter.desc).map (fun d => d.parameters.length) = some 1 := ⟨by decide +kernel, by decide +kernel, by decide +kernel⟩
theorem pl_Mo_isLetter : plainFor y_Mo_isLetter = true := plainFor_of_name (by decide +kernel)
theorem sel_Mo_isLetter : Cond.selects R_12 y_Mo_isLetter y_Mo_isLetter ∈ gw := List.mem_filter.mpr ⟨List.mem_append_left _ (List.mem_map.mpr ⟨(y_Mo_isLetter, 72), List.mem_of_getElem? (i := 36) rfl, rfl⟩), rfl⟩
def y_Mo_outline : MethodName := ⟨R_12, "outline", "(I)I"⟩
theorem hy_Mo_outline : y_Mo_outline.cls ≠ "java/lang/invoke/MethodHandle" ∧ y_Mo_outline.cls ≠ "java/lang/invoke/VarHandle" ∧ (parseMethodDescriptor y_Mo_outline.desc).map (fun d => d.parameters.length) = some 1 := ⟨by decide +kernel, by decide +kernel, by decide +kernel⟩
theorem pl_Mo_outline : plainFor y_Mo_outline = true := plainFor_of_name (by decide +kernel)
def y_Mo_closed : MethodName := ⟨R_12, "closed", "(I)I"⟩
theorem hy_Mo_closed : y_Mo_closed.cls ≠ "java/lang/invoke/MethodHandle" ∧ y_Mo_closed.cls ≠ "java/lang/invoke/VarHandle" ∧ (parseMethodDescriptor y_Mo_closed.desc).map (fun d => d.parameters.length) = some 1 := ⟨by decide +kernel, by decide +kernel, by decide +kernel⟩
theorem pl_Mo_closed : plainFor y_Mo_closed = true := plainFor_of_name (by decide +kernel)
theorem sel_Mo_closed : Cond.selects R_12 y_Mo_closed y_Mo_closed ∈ gw := List.mem_filter.mpr ⟨List.mem_append_left _ (List.mem_map.mpr ⟨(y_Mo_closed, 72), List.mem_of_getElem? (i := 37) rfl, rfl⟩), rfl⟩
def y_Mo_isPlace : MethodName := ⟨R_12, "isPlace", "(I)Z"⟩
theorem hy_Mo_isPlace : y_Mo_isPlace.cls ≠ "java/lang/invoke/MethodHandle" ∧ y_Mo_isPlace.cls ≠ "java/lang/invoke/VarHandle" ∧ (parseMethodDescriptor y_Mo_isPlace.desc).map (fun d => d.parameters.length) = some 1 := ⟨by decide +kernel, by decide +kernel, by decide +kernel⟩
theorem pl_Mo_isPlace : plainFor y_Mo_isPlace = true := plainFor_of_name (by decide +kernel)
def y_Mo_point : MethodName := ⟨R_12, "point", "(IIII)I"⟩
theorem hy_Mo_point : y_Mo_point.cls ≠ "java/lang/invoke/MethodHandle" ∧ y_Mo_point.cls ≠ "java/lang/invoke/VarHandle" ∧ (parseMethodDescriptor y_Mo_point.desc).map (fun d => d.parameters.length) = some 4 := ⟨by decide +kernel, by decide +kernel, by decide +kernel⟩
theorem pl_Mo_point : plainFor y_Mo_point = true := plainFor_of_name (by decide +kernel)
def y_Mo_bad : MethodName := ⟨R_12, "bad", "(I)I"⟩
theorem hy_Mo_bad : y_Mo_bad.cls ≠ "java/lang/invoke/MethodHandle" ∧ y_Mo_bad.cls ≠ "java/lang/invoke/VarHandle" ∧ (parseMethodDescriptor y_Mo_bad.desc).map (fun d => d.parameters.length) = some 1 := ⟨by decide +kernel, by decide +kernel, by decide +kernel⟩
theorem pl_Mo_bad : plainFor y_Mo_bad = true := plainFor_of_name (by decide +kernel)
theorem sel_Mo_bad : Cond.selects R_12 y_Mo_bad y_Mo_bad ∈ gw := List.mem_filter.mpr ⟨List.mem_append_left _ (List.mem_map.mpr ⟨(y_Mo_bad, 72), List.mem_of_getElem? (i := 38) rfl, rfl⟩), rfl⟩
def y_Mo_close : MethodName := ⟨R_12, "close", "(I)I"⟩
theorem hy_Mo_close : y_Mo_close.cls ≠ "java/lang/invoke/MethodHandle" ∧ y_Mo_close.cls ≠ "java/lang/invoke/VarHandle" ∧ (parseMethodDescriptor y_Mo_close.desc).map (fun d => d.parameters.length) = some 1 := ⟨by decide +kernel, by decide +kernel, by decide +kernel⟩
theorem pl_Mo_close : plainFor y_Mo_close = true := plainFor_of_name (by decide +kernel)
def y_Mo_drop : MethodName := ⟨R_12, "drop", "(I)I"⟩
theorem hy_Mo_drop : y_Mo_drop.cls ≠ "java/lang/invoke/MethodHandle" ∧ y_Mo_drop.cls ≠ "java/lang/invoke/VarHandle" ∧ (parseMethodDescriptor y_Mo_drop.desc).map (fun d => d.parameters.length) = some 1 := ⟨by decide +kernel, by decide +kernel, by decide +kernel⟩
theorem pl_Mo_drop : plainFor y_Mo_drop = true := plainFor_of_name (by decide +kernel)
def y_Mo_isPoint : MethodName := ⟨R_12, "isPoint", "(II)Z"⟩
theorem hy_Mo_isPoint : y_Mo_isPoint.cls ≠ "java/lang/invoke/MethodHandle" ∧ y_Mo_isPoint.cls ≠ "java/lang/invoke/VarHandle" ∧ (parseMethodDescriptor y_Mo_isPoint.desc).map (fun d => d.parameters.length) = some 2 := ⟨by decide +kernel, by decide +kernel, by decide +kernel⟩
theorem pl_Mo_isPoint : plainFor y_Mo_isPoint = true := plainFor_of_name (by decide +kernel)
theorem sel_Mo_isPoint : Cond.selects R_12 y_Mo_isPoint y_Mo_isPoint ∈ gw := List.mem_filter.mpr ⟨List.mem_append_left _ (List.mem_map.mpr ⟨(y_Mo_isPoint, 72), List.mem_of_getElem? (i := 39) rfl, rfl⟩), rfl⟩
def y_Mo_move : MethodName := ⟨R_12, "move", "(IIII)Z"⟩
theorem hy_Mo_move : y_Mo_move.cls ≠ "java/lang/invoke/MethodHandle" ∧ y_Mo_move.cls ≠ "java/lang/invoke/VarHandle" ∧ (parseMethodDescriptor y_Mo_move.desc).map (fun d => d.parameters.length) = some 4 := ⟨by decide +kernel, by decide +kernel, by decide +kernel⟩
theorem pl_Mo_move : plainFor y_Mo_move = true := plainFor_of_name (by decide +kernel)
def y_Mo_beginOf : MethodName := ⟨R_12, "beginOf", "(II)I"⟩
theorem hy_Mo_beginOf : y_Mo_beginOf.cls ≠ "java/lang/invoke/MethodHandle" ∧ y_Mo_beginOf.cls ≠ "java/lang/invoke/VarHandle" ∧ (parseMethodDescriptor y_Mo_beginOf.desc).map (fun d => d.parameters.length) = some 2 := ⟨by decide +kernel, by decide +kernel, by decide +kernel⟩
theorem pl_Mo_beginOf : plainFor y_Mo_beginOf = true := plainFor_of_name (by decide +kernel)
theorem sel_Mo_beginOf : Cond.selects R_12 y_Mo_beginOf y_Mo_beginOf ∈ gw := List.mem_filter.mpr ⟨List.mem_append_left _ (List.mem_map.mpr ⟨(y_Mo_beginOf, 72), List.mem_of_getElem? (i := 40) rfl, rfl⟩), rfl⟩
def y_Mo_swap : MethodName := ⟨R_12, "swap", "([III)V"⟩
theorem hy_Mo_swap : y_Mo_swap.cls ≠ "java/lang/invoke/MethodHandle" ∧ y_Mo_swap.cls ≠ "java/lang/invoke/VarHandle" ∧ (parseMethodDescriptor y_Mo_swap.desc).map (fun d => d.parameters.length) = some 3 := ⟨by decide +kernel, by decide +kernel, by decide +kernel⟩
theorem pl_Mo_swap : plainFor y_Mo_swap = true := plainFor_of_name (by decide +kernel)
theorem sel_Mo_swap : Cond.selects R_12 y_Mo_swap y_Mo_swap ∈ gw := List.mem_filter.mpr ⟨List.mem_append_left _ (List.mem_map.mpr ⟨(y_Mo_swap, 72), List.mem_of_getElem? (i := 41) rfl, rfl⟩), rfl⟩
def y_Mo_reverse : MethodName := ⟨R_12, "reverse", "(II)Z"⟩
theorem hy_Mo_reverse : y_Mo_reverse.cls ≠ "java/lang/invoke/MethodHandle" ∧ y_Mo_reverse.cls ≠ "java/lang/invoke/VarHandle" ∧ (parseMethodDescriptor y_Mo_reverse.desc).map (fun d => d.parameters.length) = some 2 := ⟨by decide +kernel, by decide +kernel, by decide +kernel⟩
theorem pl_Mo_reverse : plainFor y_Mo_reverse = true := plainFor_of_name (by decide +kernel)
def y_Mo_depth : MethodName := ⟨R_12, "depth", "(I)I"⟩
theorem hy_Mo_depth : y_Mo_depth.cls ≠ "java/lang/invoke/MethodHandle" ∧ y_Mo_depth.cls ≠ "java/lang/invoke/VarHandle" ∧ (parseMethodDescriptor y_Mo_depth.desc).map (fun d => d.parameters.length) = some 1 := ⟨by decide +kernel, by decide +kernel, by decide +kernel⟩
theorem pl_Mo_depth : plainFor y_Mo_depth = true := plainFor_of_name (by decide +kernel)
theorem sel_Mo_depth : Cond.selects R_12 y_Mo_depth y_Mo_depth ∈ gw := List.mem_filter.mpr ⟨List.mem_append_left _ (List.mem_map.mpr ⟨(y_Mo_depth, 72), List.mem_of_getElem? (i := 42) rfl, rfl⟩), rfl⟩
def y_Mo_part : MethodName := ⟨R_12, "part", "(IIII)I"⟩
theorem hy_Mo_part : y_Mo_part.cls ≠ "java/lang/invoke/MethodHandle" ∧ y_Mo_part.cls ≠ "java/lang/invoke/VarHandle" ∧ (parseMethodDescriptor y_Mo_part.desc).map (fun d => d.parameters.length) = some 4 := ⟨by decide +kernel, by decide +kernel, by decide +kernel⟩
theorem pl_Mo_part : plainFor y_Mo_part = true := plainFor_of_name (by decide +kernel)
def y_Mo_isShort : MethodName := ⟨R_12, "isShort", "(I)Z"⟩
theorem hy_Mo_isShort : y_Mo_isShort.cls ≠ "java/lang/invoke/MethodHandle" ∧ y_Mo_isShort.cls ≠ "java/lang/invoke/VarHandle" ∧ (parseMethodDescriptor y_Mo_isShort.desc).map (fun d => d.parameters.length) = some 1 := ⟨by decide +kernel, by decide +kernel, by decide +kernel⟩
theorem pl_Mo_isShort : plainFor y_Mo_isShort = true := plainFor_of_name (by decide +kernel)
def y_Mo_matrix : MethodName := ⟨R_12, "matrix", "(IIIIII)Z"⟩
theorem hy_Mo_matrix : y_Mo_matrix.cls ≠ "java/lang/invoke/MethodHandle" ∧ y_Mo_matrix.cls ≠ "java/lang/invoke/VarHandle" ∧ (parseMethodDescriptor y_Mo_matrix.desc).map (fun d => d.parameters.length) = some 6 := ⟨by decide +kernel, by decide +kernel, by decide +kernel⟩
theorem pl_Mo_matrix : plainFor y_Mo_matrix = true := plainFor_of_name (by decide +kernel)
def y_Mo_info : MethodName := ⟨R_12, "info", "(II)I"⟩
theorem hy_Mo_info : y_Mo_info.cls ≠ "java/lang/invoke/MethodHandle" ∧ y_Mo_info.cls ≠ "java/lang/invoke/VarHandle" ∧ (parseMethodDescriptor y_Mo_info.desc).map (fun d => d.parameters.length) = some 2 := ⟨by decide +kernel, by decide +kernel, by decide +kernel⟩
theorem pl_Mo_info : plainFor y_Mo_info = true := plainFor_of_name (by decide +kernel)
def y_Mo_at : MethodName := ⟨R_12, "at", "(III)I"⟩
theorem hy_Mo_at : y_Mo_at.cls ≠ "java/lang/invoke/MethodHandle" ∧ y_Mo_at.cls ≠ "java/lang/invoke/VarHandle" ∧ (parseMethodDescriptor y_Mo_at.desc).map (fun d => d.parameters.length) = some 3 := ⟨by decide +kernel, by decide +kernel, by decide +kernel⟩
theorem pl_Mo_at : plainFor y_Mo_at = true := plainFor_of_name (by decide +kernel)
def y_Mo_adds : MethodName := ⟨R_12, "adds", "(JJ)V"⟩
theorem hy_Mo_adds : y_Mo_adds.cls ≠ "java/lang/invoke/MethodHandle" ∧ y_Mo_adds.cls ≠ "java/lang/invoke/VarHandle" ∧ (parseMethodDescriptor y_Mo_adds.desc).map (fun d => d.parameters.length) = some 2 := ⟨by decide +kernel, by decide +kernel, by decide +kernel⟩
theorem pl_Mo_adds : plainFor y_Mo_adds = true := plainFor_of_name (by decide +kernel)
theorem sel_Mo_adds : Cond.selects R_12 y_Mo_adds y_Mo_adds ∈ gw := List.mem_filter.mpr ⟨List.mem_append_left _ (List.mem_map.mpr ⟨(y_Mo_adds, 72), List.mem_of_getElem? (i := 45) rfl, rfl⟩), rfl⟩
def y_Mo_halves : MethodName := ⟨R_12, "halves", "(I)V"⟩
theorem hy_Mo_halves : y_Mo_halves.cls ≠ "java/lang/invoke/MethodHandle" ∧ y_Mo_halves.cls ≠ "java/lang/invoke/VarHandle" ∧ (parseMethodDescriptor y_Mo_halves.desc).map (fun d => d.parameters.length) = some 1 := ⟨by decide +kernel, by decide +kernel, by decide +kernel⟩
theorem pl_Mo_halves : plainFor y_Mo_halves = true := plainFor_of_name (by decide +kernel)
theorem sel_Mo_halves : Cond.selects R_12 y_Mo_halves y_Mo_halves ∈ gw := List.mem_filter.mpr ⟨List.mem_append_left _ (List.mem_map.mpr ⟨(y_Mo_halves, 72), List.mem_of_getElem? (i := 48) rfl, rfl⟩), rfl⟩
def y_Mo_size : MethodName := ⟨R_12, "size", "(J)J"⟩
theorem hy_Mo_size : y_Mo_size.cls ≠ "java/lang/invoke/MethodHandle" ∧ y_Mo_size.cls ≠ "java/lang/invoke/VarHandle" ∧ (parseMethodDescriptor y_Mo_size.desc).map (fun d => d.parameters.length) = some 1 := ⟨by decide +kernel, by decide +kernel, by decide +kernel⟩
theorem pl_Mo_size : plainFor y_Mo_size = true := plainFor_of_name (by decide +kernel)
def y_Mo_isFlat : MethodName := ⟨R_12, "isFlat", "(IIJ)Z"⟩
theorem hy_Mo_isFlat : y_Mo_isFlat.cls ≠ "java/lang/invoke/MethodHandle" ∧ y_Mo_isFlat.cls ≠ "java/lang/invoke/VarHandle" ∧ (parseMethodDescriptor y_Mo_isFlat.desc).map (fun d => d.parameters.length) = some 3 := ⟨by decide +kernel, by decide +kernel, by decide +kernel⟩
theorem pl_Mo_isFlat : plainFor y_Mo_isFlat = true := plainFor_of_name (by decide +kernel)
theorem sel_Mo_isFlat : Cond.selects R_12 y_Mo_isFlat y_Mo_isFlat ∈ gw := List.mem_filter.mpr ⟨List.mem_append_left _ (List.mem_map.mpr ⟨(y_Mo_isFlat, 72), List.mem_of_getElem? (i := 47) rfl, rfl⟩), rfl⟩
def y_Mo_rounded : MethodName := ⟨R_12, "rounded", "(JJ)J"⟩
theorem hy_Mo_rounded : y_Mo_rounded.cls ≠ "java/lang/invoke/MethodHandle" ∧ y_Mo_rounded.cls ≠ "java/lang/invoke/VarHandle" ∧ (parseMethodDescriptor y_Mo_rounded.desc).map (fun d => d.parameters.length) = some 2 := ⟨by decide +kernel, by decide +kernel, by decide +kernel⟩
theorem pl_Mo_rounded : plainFor y_Mo_rounded = true := plainFor_of_name (by decide +kernel)
def y_Mo_curve : MethodName := ⟨R_12, "curve", "(IIII)V"⟩
theorem hy_Mo_curve : y_Mo_curve.cls ≠ "java/lang/invoke/MethodHandle" ∧ y_Mo_curve.cls ≠ "java/lang/invoke/VarHandle" ∧ (parseMethodDescriptor y_Mo_curve.desc).map (fun d => d.parameters.length) = some 4 := ⟨by decide +kernel, by decide +kernel, by decide +kernel⟩
theorem pl_Mo_curve : plainFor y_Mo_curve = true := plainFor_of_name (by decide +kernel)
theorem sel_Mo_curve : Cond.selects R_12 y_Mo_curve y_Mo_curve ∈ gw := List.mem_filter.mpr ⟨List.mem_append_left _ (List.mem_map.mpr ⟨(y_Mo_curve, 72), List.mem_of_getElem? (i := 46) rfl, rfl⟩), rfl⟩
def y_Mo_outlineOf : MethodName := ⟨R_12, "outlineOf", "(IIII)V"⟩
theorem hy_Mo_outlineOf : y_Mo_outlineOf.cls ≠ "java/lang/invoke/MethodHandle" ∧ y_Mo_outlineOf.cls ≠ "java/lang/invoke/VarHandle" ∧ (parseMethodDescriptor y_Mo_outlineOf.desc).map (fun d => d.parameters.length) = some 4 := ⟨by decide +kernel, by decide +kernel, by decide +kernel⟩
theorem pl_Mo_outlineOf : plainFor y_Mo_outlineOf = true := plainFor_of_name (by decide +kernel)
theorem sel_Mo_outlineOf : Cond.selects R_12 y_Mo_outlineOf y_Mo_outlineOf ∈ gw := List.mem_filter.mpr ⟨List.mem_append_left _ (List.mem_map.mpr ⟨(y_Mo_outlineOf, 72), List.mem_of_getElem? (i := 44) rfl, rfl⟩), rfl⟩
def y_Mo_flattens : MethodName := ⟨R_12, "flattens", "(II)Z"⟩
theorem hy_Mo_flattens : y_Mo_flattens.cls ≠ "java/lang/invoke/MethodHandle" ∧ y_Mo_flattens.cls ≠ "java/lang/invoke/VarHandle" ∧ (parseMethodDescriptor y_Mo_flattens.desc).map (fun d => d.parameters.length) = some 2 := ⟨by decide +kernel, by decide +kernel, by decide +kernel⟩
theorem pl_Mo_flattens : plainFor y_Mo_flattens = true := plainFor_of_name (by decide +kernel)
theorem sel_Mo_flattens : Cond.selects R_12 y_Mo_flattens y_Mo_flattens ∈ gw := List.mem_filter.mpr ⟨List.mem_append_left _ (List.mem_map.mpr ⟨(y_Mo_flattens, 72), List.mem_of_getElem? (i := 43) rfl, rfl⟩), rfl⟩
def y_Mo_told : MethodName := ⟨R_12, "told", "()V"⟩
theorem hy_Mo_told : y_Mo_told.cls ≠ "java/lang/invoke/MethodHandle" ∧ y_Mo_told.cls ≠ "java/lang/invoke/VarHandle" ∧ (parseMethodDescriptor y_Mo_told.desc).map (fun d => d.parameters.length) = some 0 := ⟨by decide +kernel, by decide +kernel, by decide +kernel⟩
theorem pl_Mo_told : plainFor y_Mo_told = true := plainFor_of_name (by decide +kernel)
theorem sel_Mo_told : Cond.selects R_12 y_Mo_told y_Mo_told ∈ gw := List.mem_filter.mpr ⟨List.mem_append_left _ (List.mem_map.mpr ⟨(y_Mo_told, 72), List.mem_of_getElem? (i := 49) rfl, rfl⟩), rfl⟩
def y_Mo_flatten : MethodName := ⟨R_12, "flatten", "(II)I"⟩
theorem hy_Mo_flatten : y_Mo_flatten.cls ≠ "java/lang/invoke/MethodHandle" ∧ y_Mo_flatten.cls ≠ "java/lang/invoke/VarHandle" ∧ (parseMethodDescriptor y_Mo_flatten.desc).map (fun d => d.parameters.length) = some 2 := ⟨by decide +kernel, by decide +kernel, by decide +kernel⟩
theorem pl_Mo_flatten : plainFor y_Mo_flatten = true := plainFor_of_name (by decide +kernel)
def y_Mo_flat : MethodName := ⟨R_12, "flat", "(II)I"⟩
theorem hy_Mo_flat : y_Mo_flat.cls ≠ "java/lang/invoke/MethodHandle" ∧ y_Mo_flat.cls ≠ "java/lang/invoke/VarHandle" ∧ (parseMethodDescriptor y_Mo_flat.desc).map (fun d => d.parameters.length) = some 2 := ⟨by decide +kernel, by decide +kernel, by decide +kernel⟩
theorem pl_Mo_flat : plainFor y_Mo_flat = true := plainFor_of_name (by decide +kernel)
def y_Mo_next : MethodName := ⟨R_12, "next", "(I)I"⟩
theorem hy_Mo_next : y_Mo_next.cls ≠ "java/lang/invoke/MethodHandle" ∧ y_Mo_next.cls ≠ "java/lang/invoke/VarHandle" ∧ (parseMethodDescriptor y_Mo_next.desc).map (fun d => d.parameters.length) = some 1 := ⟨by decide +kernel, by decide +kernel, by decide +kernel⟩
theorem pl_Mo_next : plainFor y_Mo_next = true := plainFor_of_name (by decide +kernel)
theorem sel_Mo_next : Cond.selects R_12 y_Mo_next y_Mo_next ∈ gw := List.mem_filter.mpr ⟨List.mem_append_left _ (List.mem_map.mpr ⟨(y_Mo_next, 72), List.mem_of_getElem? (i := 50) rfl, rfl⟩), rfl⟩
def y_Mo_area : MethodName := ⟨R_12, "area", "()J"⟩
theorem hy_Mo_area : y_Mo_area.cls ≠ "java/lang/invoke/MethodHandle" ∧ y_Mo_area.cls ≠ "java/lang/invoke/VarHandle" ∧ (parseMethodDescriptor y_Mo_area.desc).map (fun d => d.parameters.length) = some 0 := ⟨by decide +kernel, by decide +kernel, by decide +kernel⟩
theorem pl_Mo_area : plainFor y_Mo_area = true := plainFor_of_name (by decide +kernel)
def y_Mo_winding : MethodName := ⟨R_12, "winding", "(II)I"⟩
theorem hy_Mo_winding : y_Mo_winding.cls ≠ "java/lang/invoke/MethodHandle" ∧ y_Mo_winding.cls ≠ "java/lang/invoke/VarHandle" ∧ (parseMethodDescriptor y_Mo_winding.desc).map (fun d => d.parameters.length) = some 2 := ⟨by decide +kernel, by decide +kernel, by decide +kernel⟩
theorem pl_Mo_winding : plainFor y_Mo_winding = true := plainFor_of_name (by decide +kernel)
def y_Mo_signOf : MethodName := ⟨R_12, "signOf", "(J)I"⟩
theorem hy_Mo_signOf : y_Mo_signOf.cls ≠ "java/lang/invoke/MethodHandle" ∧ y_Mo_signOf.cls ≠ "java/lang/invoke/VarHandle" ∧ (parseMethodDescriptor y_Mo_signOf.desc).map (fun d => d.parameters.length) = some 1 := ⟨by decide +kernel, by decide +kernel, by decide +kernel⟩
theorem pl_Mo_signOf : plainFor y_Mo_signOf = true := plainFor_of_name (by decide +kernel)
def y_Mo_sideOf : MethodName := ⟨R_12, "sideOf", "(III)I"⟩
theorem hy_Mo_sideOf : y_Mo_sideOf.cls ≠ "java/lang/invoke/MethodHandle" ∧ y_Mo_sideOf.cls ≠ "java/lang/invoke/VarHandle" ∧ (parseMethodDescriptor y_Mo_sideOf.desc).map (fun d => d.parameters.length) = some 3 := ⟨by decide +kernel, by decide +kernel, by decide +kernel⟩
theorem pl_Mo_sideOf : plainFor y_Mo_sideOf = true := plainFor_of_name (by decide +kernel)
theorem sel_Mo_sideOf : Cond.selects R_12 y_Mo_sideOf y_Mo_sideOf ∈ gw := List.mem_filter.mpr ⟨List.mem_append_left _ (List.mem_map.mpr ⟨(y_Mo_sideOf, 72), List.mem_of_getElem? (i := 51) rfl, rfl⟩), rfl⟩
def y_Mo_crossings : MethodName := ⟨R_12, "crossings", "()I"⟩
theorem hy_Mo_crossings : y_Mo_crossings.cls ≠ "java/lang/invoke/MethodHandle" ∧ y_Mo_crossings.cls ≠ "java/lang/invoke/VarHandle" ∧ (parseMethodDescriptor y_Mo_crossings.desc).map (fun d => d.parameters.length) = some 0 := ⟨by decide +kernel, by decide +kernel, by decide +kernel⟩
theorem pl_Mo_crossings : plainFor y_Mo_crossings = true := plainFor_of_name (by decide +kernel)
def y_Mo_isImage : MethodName := ⟨R_12, "isImage", "(I)Z"⟩
theorem hy_Mo_isImage : y_Mo_isImage.cls ≠ "java/lang/invoke/MethodHandle" ∧ y_Mo_isImage.cls ≠ "java/lang/invoke/VarHandle" ∧ (parseMethodDescriptor y_Mo_isImage.desc).map (fun d => d.parameters.length) = some 1 := ⟨by decide +kernel, by decide +kernel, by decide +kernel⟩
theorem pl_Mo_isImage : plainFor y_Mo_isImage = true := plainFor_of_name (by decide +kernel)
theorem sel_Mo_isImage : Cond.selects R_12 y_Mo_isImage y_Mo_isImage ∈ gw := List.mem_filter.mpr ⟨List.mem_append_left _ (List.mem_map.mpr ⟨(y_Mo_isImage, 72), List.mem_of_getElem? (i := 52) rfl, rfl⟩), rfl⟩
def y_Mo_floor : MethodName := ⟨R_12, "floor", "(JJ)J"⟩
theorem hy_Mo_floor : y_Mo_floor.cls ≠ "java/lang/invoke/MethodHandle" ∧ y_Mo_floor.cls ≠ "java/lang/invoke/VarHandle" ∧ (parseMethodDescriptor y_Mo_floor.desc).map (fun d => d.parameters.length) = some 2 := ⟨by decide +kernel, by decide +kernel, by decide +kernel⟩
theorem pl_Mo_floor : plainFor y_Mo_floor = true := plainFor_of_name (by decide +kernel)
def y_Mo_steps : MethodName := ⟨R_12, "steps", "(II)V"⟩
theorem hy_Mo_steps : y_Mo_steps.cls ≠ "java/lang/invoke/MethodHandle" ∧ y_Mo_steps.cls ≠ "java/lang/invoke/VarHandle" ∧ (parseMethodDescriptor y_Mo_steps.desc).map (fun d => d.parameters.length) = some 2 := ⟨by decide +kernel, by decide +kernel, by decide +kernel⟩
theorem pl_Mo_steps : plainFor y_Mo_steps = true := plainFor_of_name (by decide +kernel)
theorem sel_Mo_steps : Cond.selects R_12 y_Mo_steps y_Mo_steps ∈ gw := List.mem_filter.mpr ⟨List.mem_append_left _ (List.mem_map.mpr ⟨(y_Mo_steps, 72), List.mem_of_getElem? (i := 53) rfl, rfl⟩), rfl⟩
def y_Mo_image : MethodName := ⟨R_12, "image", "(IIII)I"⟩
theorem hy_Mo_image : y_Mo_image.cls ≠ "java/lang/invoke/MethodHandle" ∧ y_Mo_image.cls ≠ "java/lang/invoke/VarHandle" ∧ (parseMethodDescriptor y_Mo_image.desc).map (fun d => d.parameters.length) = some 4 := ⟨by decide +kernel, by decide +kernel, by decide +kernel⟩
theorem pl_Mo_image : plainFor y_Mo_image = true := plainFor_of_name (by decide +kernel)
def y_Mo_dot : MethodName := ⟨R_12, "dot", "(II)I"⟩
theorem hy_Mo_dot : y_Mo_dot.cls ≠ "java/lang/invoke/MethodHandle" ∧ y_Mo_dot.cls ≠ "java/lang/invoke/VarHandle" ∧ (parseMethodDescriptor y_Mo_dot.desc).map (fun d => d.parameters.length) = some 2 := ⟨by decide +kernel, by decide +kernel, by decide +kernel⟩
theorem pl_Mo_dot : plainFor y_Mo_dot = true := plainFor_of_name (by decide +kernel)
def y_Mo_box : MethodName := ⟨R_12, "box", "(I)I"⟩
theorem hy_Mo_box : y_Mo_box.cls ≠ "java/lang/invoke/MethodHandle" ∧ y_Mo_box.cls ≠ "java/lang/invoke/VarHandle" ∧ (parseMethodDescriptor y_Mo_box.desc).map (fun d => d.parameters.length) = some 1 := ⟨by decide +kernel, by decide +kernel, by decide +kernel⟩
theorem pl_Mo_box : plainFor y_Mo_box = true := plainFor_of_name (by decide +kernel)
def y_Mo_act : MethodName := ⟨R_12, "act", "(III)I"⟩
theorem hy_Mo_act : y_Mo_act.cls ≠ "java/lang/invoke/MethodHandle" ∧ y_Mo_act.cls ≠ "java/lang/invoke/VarHandle" ∧ (parseMethodDescriptor y_Mo_act.desc).map (fun d => d.parameters.length) = some 3 := ⟨by decide +kernel, by decide +kernel, by decide +kernel⟩
theorem pl_Mo_act : plainFor y_Mo_act = true := plainFor_of_name (by decide +kernel)
def y_Mo_wipe : MethodName := ⟨R_12, "wipe", "(I)I"⟩
theorem hy_Mo_wipe : y_Mo_wipe.cls ≠ "java/lang/invoke/MethodHandle" ∧ y_Mo_wipe.cls ≠ "java/lang/invoke/VarHandle" ∧ (parseMethodDescriptor y_Mo_wipe.desc).map (fun d => d.parameters.length) = some 1 := ⟨by decide +kernel, by decide +kernel, by decide +kernel⟩
theorem pl_Mo_wipe : plainFor y_Mo_wipe = true := plainFor_of_name (by decide +kernel)
def y_Mo_onPoint : MethodName := ⟨R_12, "onPoint", "(I)Z"⟩
theorem hy_Mo_onPoint : y_Mo_onPoint.cls ≠ "java/lang/invoke/MethodHandle" ∧ y_Mo_onPoint.cls ≠ "java/lang/invoke/VarHandle" ∧ (parseMethodDescriptor y_Mo_onPoint.desc).map (fun d => d.parameters.length) = some 1 := ⟨by decide +kernel, by decide +kernel, by decide +kernel⟩
theorem pl_Mo_onPoint : plainFor y_Mo_onPoint = true := plainFor_of_name (by decide +kernel)
def y_Mo_pushes : MethodName := ⟨R_12, "pushes", "(I)Z"⟩
theorem hy_Mo_pushes : y_Mo_pushes.cls ≠ "java/lang/invoke/MethodHandle" ∧ y_Mo_pushes.cls ≠ "java/lang/invoke/VarHandle" ∧ (parseMethodDescriptor y_Mo_pushes.desc).map (fun d => d.parameters.length) = some 1 := ⟨by decide +kernel, by decide +kernel, by decide +kernel⟩
theorem pl_Mo_pushes : plainFor y_Mo_pushes = true := plainFor_of_name (by decide +kernel)
def y_Mo_wants : MethodName := ⟨R_12, "wants", "(I)I"⟩
theorem hy_Mo_wants : y_Mo_wants.cls ≠ "java/lang/invoke/MethodHandle" ∧ y_Mo_wants.cls ≠ "java/lang/invoke/VarHandle" ∧ (parseMethodDescriptor y_Mo_wants.desc).map (fun d => d.parameters.length) = some 1 := ⟨by decide +kernel, by decide +kernel, by decide +kernel⟩
theorem pl_Mo_wants : plainFor y_Mo_wants = true := plainFor_of_name (by decide +kernel)
def y_Mo_faultOf : MethodName := ⟨R_12, "faultOf", "(III)I"⟩
theorem hy_Mo_faultOf : y_Mo_faultOf.cls ≠ "java/lang/invoke/MethodHandle" ∧ y_Mo_faultOf.cls ≠ "java/lang/invoke/VarHandle" ∧ (parseMethodDescriptor y_Mo_faultOf.desc).map (fun d => d.parameters.length) = some 3 := ⟨by decide +kernel, by decide +kernel, by decide +kernel⟩
theorem pl_Mo_faultOf : plainFor y_Mo_faultOf = true := plainFor_of_name (by decide +kernel)
theorem sel_Mo_faultOf : Cond.selects R_12 y_Mo_faultOf y_Mo_faultOf ∈ gw := List.mem_filter.mpr ⟨List.mem_append_left _ (List.mem_map.mpr ⟨(y_Mo_faultOf, 72), List.mem_of_getElem? (i := 55) rfl, rfl⟩), rfl⟩
def y_Mo_fitted : MethodName := ⟨R_12, "fitted", "(JJJJJ)J"⟩
theorem hy_Mo_fitted : y_Mo_fitted.cls ≠ "java/lang/invoke/MethodHandle" ∧ y_Mo_fitted.cls ≠ "java/lang/invoke/VarHandle" ∧ (parseMethodDescriptor y_Mo_fitted.desc).map (fun d => d.parameters.length) = some 5 := ⟨by decide +kernel, by decide +kernel, by decide +kernel⟩
theorem pl_Mo_fitted : plainFor y_Mo_fitted = true := plainFor_of_name (by decide +kernel)
def y_Mo_isFar : MethodName := ⟨R_12, "isFar", "(J)Z"⟩
theorem hy_Mo_isFar : y_Mo_isFar.cls ≠ "java/lang/invoke/MethodHandle" ∧ y_Mo_isFar.cls ≠ "java/lang/invoke/VarHandle" ∧ (parseMethodDescriptor y_Mo_isFar.desc).map (fun d => d.parameters.length) = some 1 := ⟨by decide +kernel, by decide +kernel, by decide +kernel⟩
theorem pl_Mo_isFar : plainFor y_Mo_isFar = true := plainFor_of_name (by decide +kernel)
def y_Mo_fits : MethodName := ⟨R_12, "fits", "(I[J[J[Z)V"⟩
theorem hy_Mo_fits : y_Mo_fits.cls ≠ "java/lang/invoke/MethodHandle" ∧ y_Mo_fits.cls ≠ "java/lang/invoke/VarHandle" ∧ (parseMethodDescriptor y_Mo_fits.desc).map (fun d => d.parameters.length) = some 4 := ⟨by decide +kernel, by decide +kernel, by decide +kernel⟩
theorem pl_Mo_fits : plainFor y_Mo_fits = true := plainFor_of_name (by decide +kernel)
theorem sel_Mo_fits : Cond.selects R_12 y_Mo_fits y_Mo_fits ∈ gw := List.mem_filter.mpr ⟨List.mem_append_left _ (List.mem_map.mpr ⟨(y_Mo_fits, 72), List.mem_of_getElem? (i := 59) rfl, rfl⟩), rfl⟩
def y_Mo_made : MethodName := ⟨R_12, "made", "(IJJ)J"⟩
theorem hy_Mo_made : y_Mo_made.cls ≠ "java/lang/invoke/MethodHandle" ∧ y_Mo_made.cls ≠ "java/lang/invoke/VarHandle" ∧ (parseMethodDescriptor y_Mo_made.desc).map (fun d => d.parameters.length) = some 3 := ⟨by decide +kernel, by decide +kernel, by decide +kernel⟩
theorem pl_Mo_made : plainFor y_Mo_made = true := plainFor_of_name (by decide +kernel)
def y_Mo_pop : MethodName := ⟨R_12, "pop", "()J"⟩
theorem hy_Mo_pop : y_Mo_pop.cls ≠ "java/lang/invoke/MethodHandle" ∧ y_Mo_pop.cls ≠ "java/lang/invoke/VarHandle" ∧ (parseMethodDescriptor y_Mo_pop.desc).map (fun d => d.parameters.length) = some 0 := ⟨by decide +kernel, by decide +kernel, by decide +kernel⟩
theorem pl_Mo_pop : plainFor y_Mo_pop = true := plainFor_of_name (by decide +kernel)
theorem sel_Mo_pop : Cond.selects R_12 y_Mo_pop y_Mo_pop ∈ gw := List.mem_filter.mpr ⟨List.mem_append_left _ (List.mem_map.mpr ⟨(y_Mo_pop, 72), List.mem_of_getElem? (i := 56) rfl, rfl⟩), rfl⟩
def y_Mo_push : MethodName := ⟨R_12, "push", "(J)V"⟩
theorem hy_Mo_push : y_Mo_push.cls ≠ "java/lang/invoke/MethodHandle" ∧ y_Mo_push.cls ≠ "java/lang/invoke/VarHandle" ∧ (parseMethodDescriptor y_Mo_push.desc).map (fun d => d.parameters.length) = some 1 := ⟨by decide +kernel, by decide +kernel, by decide +kernel⟩
theorem pl_Mo_push : plainFor y_Mo_push = true := plainFor_of_name (by decide +kernel)
theorem sel_Mo_push : Cond.selects R_12 y_Mo_push y_Mo_push ∈ gw := List.mem_filter.mpr ⟨List.mem_append_left _ (List.mem_map.mpr ⟨(y_Mo_push, 72), List.mem_of_getElem? (i := 57) rfl, rfl⟩), rfl⟩
def y_Mo_puts : MethodName := ⟨R_12, "puts", "([J[ZIJ)V"⟩
theorem hy_Mo_puts : y_Mo_puts.cls ≠ "java/lang/invoke/MethodHandle" ∧ y_Mo_puts.cls ≠ "java/lang/invoke/VarHandle" ∧ (parseMethodDescriptor y_Mo_puts.desc).map (fun d => d.parameters.length) = some 4 := ⟨by decide +kernel, by decide +kernel, by decide +kernel⟩
theorem pl_Mo_puts : plainFor y_Mo_puts = true := plainFor_of_name (by decide +kernel)
theorem sel_Mo_puts : Cond.selects R_12 y_Mo_puts y_Mo_puts ∈ gw := List.mem_filter.mpr ⟨List.mem_append_left _ (List.mem_map.mpr ⟨(y_Mo_puts, 72), List.mem_of_getElem? (i := 58) rfl, rfl⟩), rfl⟩
def y_Mo_does : MethodName := ⟨R_12, "does", "(II)I"⟩
theorem hy_Mo_does : y_Mo_does.cls ≠ "java/lang/invoke/MethodHandle" ∧ y_Mo_does.cls ≠ "java/lang/invoke/VarHandle" ∧ (parseMethodDescriptor y_Mo_does.desc).map (fun d => d.parameters.length) = some 2 := ⟨by decide +kernel, by decide +kernel, by decide +kernel⟩
theorem pl_Mo_does : plainFor y_Mo_does = true := plainFor_of_name (by decide +kernel)
theorem sel_Mo_does : Cond.selects R_12 y_Mo_does y_Mo_does ∈ gw := List.mem_filter.mpr ⟨List.mem_append_left _ (List.mem_map.mpr ⟨(y_Mo_does, 72), List.mem_of_getElem? (i := 54) rfl, rfl⟩), rfl⟩
def y_Mo_run : MethodName := ⟨R_12, "run", "(II)I"⟩
theorem hy_Mo_run : y_Mo_run.cls ≠ "java/lang/invoke/MethodHandle" ∧ y_Mo_run.cls ≠ "java/lang/invoke/VarHandle" ∧ (parseMethodDescriptor y_Mo_run.desc).map (fun d => d.parameters.length) = some 2 := ⟨by decide +kernel, by decide +kernel, by decide +kernel⟩
theorem pl_Mo_run : plainFor y_Mo_run = true := plainFor_of_name (by decide +kernel)
def y_Mo_fitted2 : MethodName := ⟨R_12, "fitted", "(II)I"⟩
theorem hy_Mo_fitted2 : y_Mo_fitted2.cls ≠ "java/lang/invoke/MethodHandle" ∧ y_Mo_fitted2.cls ≠ "java/lang/invoke/VarHandle" ∧ (parseMethodDescriptor y_Mo_fitted2.desc).map (fun d => d.parameters.length) = some 2 := ⟨by decide +kernel, by decide +kernel, by decide +kernel⟩
theorem pl_Mo_fitted2 : plainFor y_Mo_fitted2 = true := plainFor_of_name (by decide +kernel)
def y_Mo_delta : MethodName := ⟨R_12, "delta", "(IIIII)Z"⟩
theorem hy_Mo_delta : y_Mo_delta.cls ≠ "java/lang/invoke/MethodHandle" ∧ y_Mo_delta.cls ≠ "java/lang/invoke/VarHandle" ∧ (parseMethodDescriptor y_Mo_delta.desc).map (fun d => d.parameters.length) = some 5 := ⟨by decide +kernel, by decide +kernel, by decide +kernel⟩
theorem pl_Mo_delta : plainFor y_Mo_delta = true := plainFor_of_name (by decide +kernel)
def y_Mo_weight : MethodName := ⟨R_12, "weight", "(II)Z"⟩
theorem hy_Mo_weight : y_Mo_weight.cls ≠ "java/lang/invoke/MethodHandle" ∧ y_Mo_weight.cls ≠ "java/lang/invoke/VarHandle" ∧ (parseMethodDescriptor y_Mo_weight.desc).map (fun d => d.parameters.length) = some 2 := ⟨by decide +kernel, by decide +kernel, by decide +kernel⟩
theorem pl_Mo_weight : plainFor y_Mo_weight = true := plainFor_of_name (by decide +kernel)
def y_Mo_mixed : MethodName := ⟨R_12, "mixed", "(III)I"⟩
theorem hy_Mo_mixed : y_Mo_mixed.cls ≠ "java/lang/invoke/MethodHandle" ∧ y_Mo_mixed.cls ≠ "java/lang/invoke/VarHandle" ∧ (parseMethodDescriptor y_Mo_mixed.desc).map (fun d => d.parameters.length) = some 3 := ⟨by decide +kernel, by decide +kernel, by decide +kernel⟩
theorem pl_Mo_mixed : plainFor y_Mo_mixed = true := plainFor_of_name (by decide +kernel)
def y_Mo_classOf : MethodName := ⟨R_12, "classOf", "(III)Z"⟩
theorem hy_Mo_classOf : y_Mo_classOf.cls ≠ "java/lang/invoke/MethodHandle" ∧ y_Mo_classOf.cls ≠ "java/lang/invoke/VarHandle" ∧ (parseMethodDescriptor y_Mo_classOf.desc).map (fun d => d.parameters.length) = some 3 := ⟨by decide +kernel, by decide +kernel, by decide +kernel⟩
theorem pl_Mo_classOf : plainFor y_Mo_classOf = true := plainFor_of_name (by decide +kernel)
def y_Mo_isKern : MethodName := ⟨R_12, "isKern", "(I)Z"⟩
theorem hy_Mo_isKern : y_Mo_isKern.cls ≠ "java/lang/invoke/MethodHandle" ∧ y_Mo_isKern.cls ≠ "java/lang/invoke/VarHandle" ∧ (parseMethodDescriptor y_Mo_isKern.desc).map (fun d => d.parameters.length) = some 1 := ⟨by decide +kernel, by decide +kernel, by decide +kernel⟩
theorem pl_Mo_isKern : plainFor y_Mo_isKern = true := plainFor_of_name (by decide +kernel)
def y_Mo_kern : MethodName := ⟨R_12, "kern", "(III)Z"⟩
theorem hy_Mo_kern : y_Mo_kern.cls ≠ "java/lang/invoke/MethodHandle" ∧ y_Mo_kern.cls ≠ "java/lang/invoke/VarHandle" ∧ (parseMethodDescriptor y_Mo_kern.desc).map (fun d => d.parameters.length) = some 3 := ⟨by decide +kernel, by decide +kernel, by decide +kernel⟩
theorem pl_Mo_kern : plainFor y_Mo_kern = true := plainFor_of_name (by decide +kernel)
def y_Mo_exception : MethodName := ⟨R_12, "exception", "(III)Z"⟩
theorem hy_Mo_exception : y_Mo_exception.cls ≠ "java/lang/invoke/MethodHandle" ∧ y_Mo_exception.cls ≠ "java/lang/invoke/VarHandle" ∧ (parseMethodDescriptor y_Mo_exception.desc).map (fun d => d.parameters.length) = some 3 := ⟨by decide +kernel, by decide +kernel, by decide +kernel⟩
theorem pl_Mo_exception : plainFor y_Mo_exception = true := plainFor_of_name (by decide +kernel)
def y_Mo_kerning : MethodName := ⟨R_12, "kerning", "(II)I"⟩
theorem hy_Mo_kerning : y_Mo_kerning.cls ≠ "java/lang/invoke/MethodHandle" ∧ y_Mo_kerning.cls ≠ "java/lang/invoke/VarHandle" ∧ (parseMethodDescriptor y_Mo_kerning.desc).map (fun d => d.parameters.length) = some 2 := ⟨by decide +kernel, by decide +kernel, by decide +kernel⟩
theorem pl_Mo_kerning : plainFor y_Mo_kerning = true := plainFor_of_name (by decide +kernel)
def y_Mo_join : MethodName := ⟨R_12, "join", "(IIII)I"⟩
theorem hy_Mo_join : y_Mo_join.cls ≠ "java/lang/invoke/MethodHandle" ∧ y_Mo_join.cls ≠ "java/lang/invoke/VarHandle" ∧ (parseMethodDescriptor y_Mo_join.desc).map (fun d => d.parameters.length) = some 4 := ⟨by decide +kernel, by decide +kernel, by decide +kernel⟩
theorem pl_Mo_join : plainFor y_Mo_join = true := plainFor_of_name (by decide +kernel)
def y_Mo_sign : MethodName := ⟨R_12, "sign", "(I)I"⟩
theorem hy_Mo_sign : y_Mo_sign.cls ≠ "java/lang/invoke/MethodHandle" ∧ y_Mo_sign.cls ≠ "java/lang/invoke/VarHandle" ∧ (parseMethodDescriptor y_Mo_sign.desc).map (fun d => d.parameters.length) = some 1 := ⟨by decide +kernel, by decide +kernel, by decide +kernel⟩
theorem pl_Mo_sign : plainFor y_Mo_sign = true := plainFor_of_name (by decide +kernel)
def y_Mo_letterOf : MethodName := ⟨R_12, "letterOf", "(I)I"⟩
theorem hy_Mo_letterOf : y_Mo_letterOf.cls ≠ "java/lang/invoke/MethodHandle" ∧ y_Mo_letterOf.cls ≠ "java/lang/invoke/VarHandle" ∧ (parseMethodDescriptor y_Mo_letterOf.desc).map (fun d => d.parameters.length) = some 1 := ⟨by decide +kernel, by decide +kernel, by decide +kernel⟩
theorem pl_Mo_letterOf : plainFor y_Mo_letterOf = true := plainFor_of_name (by decide +kernel)
theorem sel_Mo_letterOf : Cond.selects R_12 y_Mo_letterOf y_Mo_letterOf ∈ gw := List.mem_filter.mpr ⟨List.mem_append_left _ (List.mem_map.mpr ⟨(y_Mo_letterOf, 72), List.mem_of_getElem? (i := 62) rfl, rfl⟩), rfl⟩
def y_Mo_manyOf : MethodName := ⟨R_12, "manyOf", "(I)I"⟩
theorem hy_Mo_manyOf : y_Mo_manyOf.cls ≠ "java/lang/invoke/MethodHandle" ∧ y_Mo_manyOf.cls ≠ "java/lang/invoke/VarHandle" ∧ (parseMethodDescriptor y_Mo_manyOf.desc).map (fun d => d.parameters.length) = some 1 := ⟨by decide +kernel, by decide +kernel, by decide +kernel⟩
theorem pl_Mo_manyOf : plainFor y_Mo_manyOf = true := plainFor_of_name (by decide +kernel)
theorem sel_Mo_manyOf : Cond.selects R_12 y_Mo_manyOf y_Mo_manyOf ∈ gw := List.mem_filter.mpr ⟨List.mem_append_left _ (List.mem_map.mpr ⟨(y_Mo_manyOf, 72), List.mem_of_getElem? (i := 61) rfl, rfl⟩), rfl⟩
def y_Mo_ruleAt : MethodName := ⟨R_12, "ruleAt", "(I)I"⟩
theorem hy_Mo_ruleAt : y_Mo_ruleAt.cls ≠ "java/lang/invoke/MethodHandle" ∧ y_Mo_ruleAt.cls ≠ "java/lang/invoke/VarHandle" ∧ (parseMethodDescriptor y_Mo_ruleAt.desc).map (fun d => d.parameters.length) = some 1 := ⟨by decide +kernel, by decide +kernel, by decide +kernel⟩
theorem pl_Mo_ruleAt : plainFor y_Mo_ruleAt = true := plainFor_of_name (by decide +kernel)
theorem sel_Mo_ruleAt : Cond.selects R_12 y_Mo_ruleAt y_Mo_ruleAt ∈ gw := List.mem_filter.mpr ⟨List.mem_append_left _ (List.mem_map.mpr ⟨(y_Mo_ruleAt, 72), List.mem_of_getElem? (i := 60) rfl, rfl⟩), rfl⟩
def y_Mo_set : MethodName := ⟨R_12, "set", "()I"⟩
theorem hy_Mo_set : y_Mo_set.cls ≠ "java/lang/invoke/MethodHandle" ∧ y_Mo_set.cls ≠ "java/lang/invoke/VarHandle" ∧ (parseMethodDescriptor y_Mo_set.desc).map (fun d => d.parameters.length) = some 0 := ⟨by decide +kernel, by decide +kernel, by decide +kernel⟩
theorem pl_Mo_set : plainFor y_Mo_set = true := plainFor_of_name (by decide +kernel)
def y_Mo_placed : MethodName := ⟨R_12, "placed", "(II)I"⟩
theorem hy_Mo_placed : y_Mo_placed.cls ≠ "java/lang/invoke/MethodHandle" ∧ y_Mo_placed.cls ≠ "java/lang/invoke/VarHandle" ∧ (parseMethodDescriptor y_Mo_placed.desc).map (fun d => d.parameters.length) = some 2 := ⟨by decide +kernel, by decide +kernel, by decide +kernel⟩
theorem pl_Mo_placed : plainFor y_Mo_placed = true := plainFor_of_name (by decide +kernel)
def y_Mo_length : MethodName := ⟨R_12, "length", "()I"⟩
theorem hy_Mo_length : y_Mo_length.cls ≠ "java/lang/invoke/MethodHandle" ∧ y_Mo_length.cls ≠ "java/lang/invoke/VarHandle" ∧ (parseMethodDescriptor y_Mo_length.desc).map (fun d => d.parameters.length) = some 0 := ⟨by decide +kernel, by decide +kernel, by decide +kernel⟩
theorem pl_Mo_length : plainFor y_Mo_length = true := plainFor_of_name (by decide +kernel)
