theorem law_entry (L : Nat) (xs : Nat → Int32) {μ1 μ2 : Mem} (h1 : m_Fo_init (nw em 11 0) = some μ1) (hf : gF μ1 12 0 = false) (h2 : m_Mo_init (nw μ1 12 0) = some μ2) (hL : LinkOK μ2) (h : lp_Law_18 L xs 513 0 μ2 = some true) : J (GL L xs) false code R_law 4 48 10427 676521 0 [(0, vr 902 0)] [] em := by
  refine J_new (rc := 10426) (rs := 676509) (q := 3) (l := 0) cd_11 rfl tyok_11 dvok_11 rfl g_17 g_18 g_1 d_Law_0 rfl ?_
  refine J_dupR (q := 4) d_Law_3 rfl ?_
  refine J_callIv (rc := 10318) (rs := 664494) (q := 7) (as := []) (st := [vr 11 0]) (by decide) g_20 rfl (t_Fo_init h1) (by decide) (by decide) g_19 g_21 g_1 hy_Fo_init rfl (Nat.le_of_ble_eq_true rfl) d_Law_4 rfl ?_
  refine J_astore_n (q := 8) (lv' := [(1, vr 11 0), (0, vr 902 0)]) d_Law_7 rfl (by decide) rfl rfl ?_
  refine J_new (rc := 10317) (rs := 664422) (q := 11) (l := 0) cd_12 rfl tyok_12 dvok_12 hf g_1045 g_1046 g_10 d_Law_8 rfl ?_
  refine J_dupR (q := 12) d_Law_11 rfl ?_
  refine J_callIv (rc := 10260) (rs := 615600) (q := 15) (as := []) (st := [vr 12 0]) (by decide) g_1048 rfl (t_Mo_init h2) (by decide) (by decide) g_1047 g_1049 g_10 hy_Mo_init rfl (Nat.le_of_ble_eq_true rfl) d_Law_12 rfl ?_
  refine J_astore_n (q := 16) (lv' := [(2, vr 12 0), (1, vr 11 0), (0, vr 902 0)]) d_Law_15 rfl (by decide) rfl rfl ?_
  refine J_iconst (q := 17) (v := (0 : Int32)) d_Law_16 (by decide) rfl ?_
  refine J_istore_n (q := 18) (lv' := [(3, vi (0 : Int32)), (2, vr 12 0), (1, vr 11 0), (0, vr 902 0)]) d_Law_17 rfl (by decide) rfl rfl ?_
  refine J_on hL ?_
  refine J_pick [3, 2, 1, 0] rfl ?_
  exact tl_Law_18 L xs 513 _ _ h
theorem st_TAKES {args : Array Value} {s : State} {Z : Nat} (hgv : (Jvm.Cond.and given_1 narrow_1).before args s = true) (hts : ∀ w ∈ lw_tbl, w.before args s = true) (hZ : Z = s.heap.size) : ∃ t : Nat, va_Z "LetterFoundry$Runner" "TAKES" "[I" (.ref t) (fun q => Z ≤ q) s s.heap ∧ va_T .int t 31 (fun j => .int (takes j)) (fun q => Z ≤ q) s s.heap := by
  have hs := flat_of_before _ hgv
  have hA : ∀ a : Nat, a < s.heap.size → ¬ (fun q => Z ≤ q) a := fun a h => by rw [hZ]; exact Nat.not_le.mpr h
  have harr : (Cond.arrayOf (Term.static "LetterFoundry$Runner" "TAKES" "[I") .int).before args s = true := hs _ (by decide +kernel)
  have hlen := va_eqt (hs (Cond.eq (.length (Term.static "LetterFoundry$Runner" "TAKES" "[I")) (.int 31)) (by decide +kernel))
  have e0 := va_eqt (hs (Cond.eq (.elem (Term.static "LetterFoundry$Runner" "TAKES" "[I") (.int 0)) (.int 0)) (by decide +kernel))
  have e1 := va_eqt (hs (Cond.eq (.elem (Term.static "LetterFoundry$Runner" "TAKES" "[I") (.int 1)) (.int 1)) (by decide +kernel))
  have e2 := va_eqt (hs (Cond.eq (.elem (Term.static "LetterFoundry$Runner" "TAKES" "[I") (.int 2)) (.int 1)) (by decide +kernel))
  have e3 := va_eqt (hs (Cond.eq (.elem (Term.static "LetterFoundry$Runner" "TAKES" "[I") (.int 3)) (.int 2)) (by decide +kernel))
  have e4 := va_eqt (hs (Cond.eq (.elem (Term.static "LetterFoundry$Runner" "TAKES" "[I") (.int 4)) (.int 2)) (by decide +kernel))
  have e5 := va_eqt (hs (Cond.eq (.elem (Term.static "LetterFoundry$Runner" "TAKES" "[I") (.int 5)) (.int 2)) (by decide +kernel))
  have e6 := va_eqt (hs (Cond.eq (.elem (Term.static "LetterFoundry$Runner" "TAKES" "[I") (.int 6)) (.int 2)) (by decide +kernel))
  have e7 := va_eqt (hs (Cond.eq (.elem (Term.static "LetterFoundry$Runner" "TAKES" "[I") (.int 7)) (.int 2)) (by decide +kernel))
  have e8 := va_eqt (hs (Cond.eq (.elem (Term.static "LetterFoundry$Runner" "TAKES" "[I") (.int 8)) (.int 1)) (by decide +kernel))
  have e9 := va_eqt (hs (Cond.eq (.elem (Term.static "LetterFoundry$Runner" "TAKES" "[I") (.int 9)) (.int 1)) (by decide +kernel))
  have e10 := va_eqt (hs (Cond.eq (.elem (Term.static "LetterFoundry$Runner" "TAKES" "[I") (.int 10)) (.int 1)) (by decide +kernel))
  have e11 := va_eqt (hs (Cond.eq (.elem (Term.static "LetterFoundry$Runner" "TAKES" "[I") (.int 11)) (.int 1)) (by decide +kernel))
  have e12 := va_eqt (hs (Cond.eq (.elem (Term.static "LetterFoundry$Runner" "TAKES" "[I") (.int 12)) (.int 2)) (by decide +kernel))
  have e13 := va_eqt (hs (Cond.eq (.elem (Term.static "LetterFoundry$Runner" "TAKES" "[I") (.int 13)) (.int 2)) (by decide +kernel))
  have e14 := va_eqt (hs (Cond.eq (.elem (Term.static "LetterFoundry$Runner" "TAKES" "[I") (.int 14)) (.int 2)) (by decide +kernel))
  have e15 := va_eqt (hs (Cond.eq (.elem (Term.static "LetterFoundry$Runner" "TAKES" "[I") (.int 15)) (.int 2)) (by decide +kernel))
  have e16 := va_eqt (hs (Cond.eq (.elem (Term.static "LetterFoundry$Runner" "TAKES" "[I") (.int 16)) (.int 0)) (by decide +kernel))
  have e17 := va_eqt (hs (Cond.eq (.elem (Term.static "LetterFoundry$Runner" "TAKES" "[I") (.int 17)) (.int 1)) (by decide +kernel))
  have e18 := va_eqt (hs (Cond.eq (.elem (Term.static "LetterFoundry$Runner" "TAKES" "[I") (.int 18)) (.int 0)) (by decide +kernel))
  have e19 := va_eqt (hs (Cond.eq (.elem (Term.static "LetterFoundry$Runner" "TAKES" "[I") (.int 19)) (.int 0)) (by decide +kernel))
  have e20 := va_eqt (hs (Cond.eq (.elem (Term.static "LetterFoundry$Runner" "TAKES" "[I") (.int 20)) (.int 1)) (by decide +kernel))
  have e21 := va_eqt (hs (Cond.eq (.elem (Term.static "LetterFoundry$Runner" "TAKES" "[I") (.int 21)) (.int 0)) (by decide +kernel))
  have e22 := va_eqt (hs (Cond.eq (.elem (Term.static "LetterFoundry$Runner" "TAKES" "[I") (.int 22)) (.int 0)) (by decide +kernel))
  have e23 := va_eqt (hs (Cond.eq (.elem (Term.static "LetterFoundry$Runner" "TAKES" "[I") (.int 23)) (.int 1)) (by decide +kernel))
  have e24 := va_eqt (hs (Cond.eq (.elem (Term.static "LetterFoundry$Runner" "TAKES" "[I") (.int 24)) (.int 0)) (by decide +kernel))
  have e25 := va_eqt (hs (Cond.eq (.elem (Term.static "LetterFoundry$Runner" "TAKES" "[I") (.int 25)) (.int 1)) (by decide +kernel))
  have e26 := va_eqt (hs (Cond.eq (.elem (Term.static "LetterFoundry$Runner" "TAKES" "[I") (.int 26)) (.int 0)) (by decide +kernel))
  have e27 := va_eqt (hs (Cond.eq (.elem (Term.static "LetterFoundry$Runner" "TAKES" "[I") (.int 27)) (.int 0)) (by decide +kernel))
  have e28 := va_eqt (hs (Cond.eq (.elem (Term.static "LetterFoundry$Runner" "TAKES" "[I") (.int 28)) (.int 0)) (by decide +kernel))
  have e29 := va_eqt (hs (Cond.eq (.elem (Term.static "LetterFoundry$Runner" "TAKES" "[I") (.int 29)) (.int 0)) (by decide +kernel))
  have e30 := va_eqt (hs (Cond.eq (.elem (Term.static "LetterFoundry$Runner" "TAKES" "[I") (.int 30)) (.int 0)) (by decide +kernel))
  obtain ⟨t, ht, hT⟩ := va_Tof (N := 31) (f := fun j => .int (takes j)) (A := fun q => Z ≤ q) (by decide) harr hlen (fun j hj => by
    match j, hj with
    | 0, _ => exact e0
    | 1, _ => exact e1
    | 2, _ => exact e2
    | 3, _ => exact e3
    | 4, _ => exact e4
    | 5, _ => exact e5
    | 6, _ => exact e6
    | 7, _ => exact e7
    | 8, _ => exact e8
    | 9, _ => exact e9
    | 10, _ => exact e10
    | 11, _ => exact e11
    | 12, _ => exact e12
    | 13, _ => exact e13
    | 14, _ => exact e14
    | 15, _ => exact e15
    | 16, _ => exact e16
    | 17, _ => exact e17
    | 18, _ => exact e18
    | 19, _ => exact e19
    | 20, _ => exact e20
    | 21, _ => exact e21
    | 22, _ => exact e22
    | 23, _ => exact e23
    | 24, _ => exact e24
    | 25, _ => exact e25
    | 26, _ => exact e26
    | 27, _ => exact e27
    | 28, _ => exact e28
    | 29, _ => exact e29
    | 30, _ => exact e30
    | j + 31, hj => exact absurd hj (by omega)) hA
  exact ⟨t, va_Zof (hts (.laysStatic "LetterFoundry$Runner" "TAKES" "[I") (List.mem_append_right _ (List.mem_of_getElem? (i := 852) (by decide +kernel)))) (hts (.initialized "LetterFoundry$Runner") (List.mem_append_right _ (List.mem_of_getElem? (i := 5) (by decide +kernel)))) ht hA, hT⟩
theorem st_GIVES {args : Array Value} {s : State} {Z : Nat} (hgv : (Jvm.Cond.and given_1 narrow_1).before args s = true) (hts : ∀ w ∈ lw_tbl, w.before args s = true) (hZ : Z = s.heap.size) : ∃ t : Nat, va_Z "LetterFoundry$Runner" "GIVES" "[I" (.ref t) (fun q => Z ≤ q) s s.heap ∧ va_T .int t 31 (fun j => .int (gives j)) (fun q => Z ≤ q) s s.heap := by
  have hs := flat_of_before _ hgv
  have hA : ∀ a : Nat, a < s.heap.size → ¬ (fun q => Z ≤ q) a := fun a h => by rw [hZ]; exact Nat.not_le.mpr h
  have harr : (Cond.arrayOf (Term.static "LetterFoundry$Runner" "GIVES" "[I") .int).before args s = true := hs _ (by decide +kernel)
  have hlen := va_eqt (hs (Cond.eq (.length (Term.static "LetterFoundry$Runner" "GIVES" "[I")) (.int 31)) (by decide +kernel))
  have e0 := va_eqt (hs (Cond.eq (.elem (Term.static "LetterFoundry$Runner" "GIVES" "[I") (.int 0)) (.int 1)) (by decide +kernel))
  have e1 := va_eqt (hs (Cond.eq (.elem (Term.static "LetterFoundry$Runner" "GIVES" "[I") (.int 1)) (.int 2)) (by decide +kernel))
  have e2 := va_eqt (hs (Cond.eq (.elem (Term.static "LetterFoundry$Runner" "GIVES" "[I") (.int 2)) (.int 0)) (by decide +kernel))
  have e3 := va_eqt (hs (Cond.eq (.elem (Term.static "LetterFoundry$Runner" "GIVES" "[I") (.int 3)) (.int 2)) (by decide +kernel))
  have e4 := va_eqt (hs (Cond.eq (.elem (Term.static "LetterFoundry$Runner" "GIVES" "[I") (.int 4)) (.int 1)) (by decide +kernel))
  have e5 := va_eqt (hs (Cond.eq (.elem (Term.static "LetterFoundry$Runner" "GIVES" "[I") (.int 5)) (.int 1)) (by decide +kernel))
  have e6 := va_eqt (hs (Cond.eq (.elem (Term.static "LetterFoundry$Runner" "GIVES" "[I") (.int 6)) (.int 1)) (by decide +kernel))
  have e7 := va_eqt (hs (Cond.eq (.elem (Term.static "LetterFoundry$Runner" "GIVES" "[I") (.int 7)) (.int 1)) (by decide +kernel))
  have e8 := va_eqt (hs (Cond.eq (.elem (Term.static "LetterFoundry$Runner" "GIVES" "[I") (.int 8)) (.int 1)) (by decide +kernel))
  have e9 := va_eqt (hs (Cond.eq (.elem (Term.static "LetterFoundry$Runner" "GIVES" "[I") (.int 9)) (.int 1)) (by decide +kernel))
  have e10 := va_eqt (hs (Cond.eq (.elem (Term.static "LetterFoundry$Runner" "GIVES" "[I") (.int 10)) (.int 1)) (by decide +kernel))
  have e11 := va_eqt (hs (Cond.eq (.elem (Term.static "LetterFoundry$Runner" "GIVES" "[I") (.int 11)) (.int 1)) (by decide +kernel))
  have e12 := va_eqt (hs (Cond.eq (.elem (Term.static "LetterFoundry$Runner" "GIVES" "[I") (.int 12)) (.int 1)) (by decide +kernel))
  have e13 := va_eqt (hs (Cond.eq (.elem (Term.static "LetterFoundry$Runner" "GIVES" "[I") (.int 13)) (.int 1)) (by decide +kernel))
  have e14 := va_eqt (hs (Cond.eq (.elem (Term.static "LetterFoundry$Runner" "GIVES" "[I") (.int 14)) (.int 1)) (by decide +kernel))
  have e15 := va_eqt (hs (Cond.eq (.elem (Term.static "LetterFoundry$Runner" "GIVES" "[I") (.int 15)) (.int 1)) (by decide +kernel))
  have e16 := va_eqt (hs (Cond.eq (.elem (Term.static "LetterFoundry$Runner" "GIVES" "[I") (.int 16)) (.int 0)) (by decide +kernel))
  have e17 := va_eqt (hs (Cond.eq (.elem (Term.static "LetterFoundry$Runner" "GIVES" "[I") (.int 17)) (.int 0)) (by decide +kernel))
  have e18 := va_eqt (hs (Cond.eq (.elem (Term.static "LetterFoundry$Runner" "GIVES" "[I") (.int 18)) (.int 0)) (by decide +kernel))
  have e19 := va_eqt (hs (Cond.eq (.elem (Term.static "LetterFoundry$Runner" "GIVES" "[I") (.int 19)) (.int 0)) (by decide +kernel))
  have e20 := va_eqt (hs (Cond.eq (.elem (Term.static "LetterFoundry$Runner" "GIVES" "[I") (.int 20)) (.int 0)) (by decide +kernel))
  have e21 := va_eqt (hs (Cond.eq (.elem (Term.static "LetterFoundry$Runner" "GIVES" "[I") (.int 21)) (.int 1)) (by decide +kernel))
  have e22 := va_eqt (hs (Cond.eq (.elem (Term.static "LetterFoundry$Runner" "GIVES" "[I") (.int 22)) (.int 1)) (by decide +kernel))
  have e23 := va_eqt (hs (Cond.eq (.elem (Term.static "LetterFoundry$Runner" "GIVES" "[I") (.int 23)) (.int 0)) (by decide +kernel))
  have e24 := va_eqt (hs (Cond.eq (.elem (Term.static "LetterFoundry$Runner" "GIVES" "[I") (.int 24)) (.int 1)) (by decide +kernel))
  have e25 := va_eqt (hs (Cond.eq (.elem (Term.static "LetterFoundry$Runner" "GIVES" "[I") (.int 25)) (.int 0)) (by decide +kernel))
  have e26 := va_eqt (hs (Cond.eq (.elem (Term.static "LetterFoundry$Runner" "GIVES" "[I") (.int 26)) (.int 0)) (by decide +kernel))
  have e27 := va_eqt (hs (Cond.eq (.elem (Term.static "LetterFoundry$Runner" "GIVES" "[I") (.int 27)) (.int 0)) (by decide +kernel))
  have e28 := va_eqt (hs (Cond.eq (.elem (Term.static "LetterFoundry$Runner" "GIVES" "[I") (.int 28)) (.int 0)) (by decide +kernel))
  have e29 := va_eqt (hs (Cond.eq (.elem (Term.static "LetterFoundry$Runner" "GIVES" "[I") (.int 29)) (.int 0)) (by decide +kernel))
  have e30 := va_eqt (hs (Cond.eq (.elem (Term.static "LetterFoundry$Runner" "GIVES" "[I") (.int 30)) (.int 0)) (by decide +kernel))
  obtain ⟨t, ht, hT⟩ := va_Tof (N := 31) (f := fun j => .int (gives j)) (A := fun q => Z ≤ q) (by decide) harr hlen (fun j hj => by
    match j, hj with
    | 0, _ => exact e0
    | 1, _ => exact e1
    | 2, _ => exact e2
    | 3, _ => exact e3
    | 4, _ => exact e4
    | 5, _ => exact e5
    | 6, _ => exact e6
    | 7, _ => exact e7
    | 8, _ => exact e8
    | 9, _ => exact e9
    | 10, _ => exact e10
    | 11, _ => exact e11
    | 12, _ => exact e12
    | 13, _ => exact e13
    | 14, _ => exact e14
    | 15, _ => exact e15
    | 16, _ => exact e16
    | 17, _ => exact e17
    | 18, _ => exact e18
    | 19, _ => exact e19
    | 20, _ => exact e20
    | 21, _ => exact e21
    | 22, _ => exact e22
    | 23, _ => exact e23
    | 24, _ => exact e24
    | 25, _ => exact e25
    | 26, _ => exact e26
    | 27, _ => exact e27
    | 28, _ => exact e28
    | 29, _ => exact e29
    | 30, _ => exact e30
    | j + 31, hj => exact absurd hj (by omega)) hA
  exact ⟨t, va_Zof (hts (.laysStatic "LetterFoundry$Runner" "GIVES" "[I") (List.mem_append_right _ (List.mem_of_getElem? (i := 854) (by decide +kernel)))) (hts (.initialized "LetterFoundry$Runner") (List.mem_append_right _ (List.mem_of_getElem? (i := 5) (by decide +kernel)))) ht hA, hT⟩
theorem nst_start {args : Array Value} {s : State} (hts : ∀ w ∈ lw_tbl, w.before args s = true) : Nst s := by
  refine ⟨fun w hw => ?_, va_AO.of (hts (.arrayOver (FieldType.object "LetterFoundry$Letter")) (List.mem_append_right _ (List.mem_of_getElem? (i := 26) (by decide +kernel)))), va_AO.of (hts (.arrayOver (FieldType.object "LetterFoundry$Part")) (List.mem_append_right _ (List.mem_of_getElem? (i := 34) (by decide +kernel)))), hts (.arrayOver (FieldType.array FieldType.int)) (List.mem_append_right _ (List.mem_of_getElem? (i := 169) (by decide +kernel)))⟩
  simp only [nws, List.mem_cons, List.not_mem_nil, or_false] at hw
  rcases hw with rfl | rfl | rfl | rfl | rfl | rfl | rfl | rfl | rfl | rfl | rfl | rfl | rfl | rfl | rfl | rfl | rfl | rfl | rfl | rfl | rfl
  · exact va_Nw.of rfl (hts _ (List.mem_append_right _ (List.mem_of_getElem? (i := 29) (by decide +kernel))))
  · exact va_Nw.of rfl (hts _ (List.mem_append_right _ (List.mem_of_getElem? (i := 60) (by decide +kernel))))
  · exact va_Nw.of rfl (hts _ (List.mem_append_right _ (List.mem_of_getElem? (i := 104) (by decide +kernel))))
  · exact va_Nw.of rfl (hts _ (List.mem_append_right _ (List.mem_of_getElem? (i := 139) (by decide +kernel))))
  · exact va_Nw.of rfl (hts _ (List.mem_append_right _ (List.mem_of_getElem? (i := 164) (by decide +kernel))))
  · exact va_Nw.of rfl (hts _ (List.mem_append_right _ (List.mem_of_getElem? (i := 213) (by decide +kernel))))
  · exact va_Nw.of rfl (hts _ (List.mem_append_right _ (List.mem_of_getElem? (i := 317) (by decide +kernel))))
  · exact va_Nw.of rfl (hts _ (List.mem_append_right _ (List.mem_of_getElem? (i := 366) (by decide +kernel))))
  · exact va_Nw.of rfl (hts _ (List.mem_append_right _ (List.mem_of_getElem? (i := 468) (by decide +kernel))))
  · exact va_Nw.of rfl (hts _ (List.mem_append_right _ (List.mem_of_getElem? (i := 571) (by decide +kernel))))
  · exact va_Nw.of rfl (hts _ (List.mem_append_right _ (List.mem_of_getElem? (i := 605) (by decide +kernel))))
  · exact va_Nw.of rfl (hts _ (List.mem_append_right _ (List.mem_of_getElem? (i := 629) (by decide +kernel))))
  · exact va_Nw.of rfl (hts _ (List.mem_append_right _ (List.mem_of_getElem? (i := 651) (by decide +kernel))))
  · exact va_Nw.of rfl (hts _ (List.mem_append_right _ (List.mem_of_getElem? (i := 670) (by decide +kernel))))
  · exact va_Nw.of rfl (hts _ (List.mem_append_right _ (List.mem_of_getElem? (i := 795) (by decide +kernel))))
  · exact va_Nw.of rfl (hts _ (List.mem_append_right _ (List.mem_of_getElem? (i := 835) (by decide +kernel))))
  · exact va_Nw.of rfl (hts _ (List.mem_append_right _ (List.mem_of_getElem? (i := 841) (by decide +kernel))))
  · exact va_Nw.of rfl (hts _ (List.mem_append_right _ (List.mem_of_getElem? (i := 861) (by decide +kernel))))
  · exact va_Nw.of rfl (hts _ (List.mem_append_right _ (List.mem_of_getElem? (i := 889) (by decide +kernel))))
  · exact va_Nw.of rfl (hts _ (List.mem_append_right _ (List.mem_of_getElem? (i := 994) (by decide +kernel))))
  · exact va_Nw.of rfl (hts _ (List.mem_append_right _ (List.mem_of_getElem? (i := 1031) (by decide +kernel))))
theorem kn_start {args : Array Value} {s : State} (hts : ∀ w ∈ gw, w.before args s = true) : ∃ (D : va_G), va_K D classes [] s := by
  obtain ⟨c0, i0, k0⟩ := u_known (C := R_0) (T := T_0) (N := 6) (n := 6) hts iw_0 (hts _ g_163)
  obtain ⟨c1, i1, k1⟩ := u_known (C := R_1) (T := T_1) (N := 7) (n := 7) hts iw_1 (hts _ g_28)
  obtain ⟨c2, i2, k2⟩ := u_known (C := R_2) (T := T_2) (N := 9) (n := 9) hts iw_2 (hts _ g_103)
  obtain ⟨c3, i3, k3⟩ := u_known (C := R_3) (T := T_3) (N := 2) (n := 2) hts iw_3 (hts _ g_193)
  obtain ⟨c4, i4, k4⟩ := u_known (C := R_4) (T := T_4) (N := 10) (n := 10) hts iw_4 (hts _ g_310)
  obtain ⟨c5, i5, k5⟩ := u_known (C := R_5) (T := T_5) (N := 10) (n := 10) hts iw_5 (hts _ g_212)
  obtain ⟨c6, i6, k6⟩ := u_known (C := R_6) (T := T_6) (N := 7) (n := 7) hts iw_6 (hts _ g_532)
  obtain ⟨c7, i7, k7⟩ := u_known (C := R_7) (T := T_7) (N := 9) (n := 9) hts iw_7 (hts _ g_59)
  obtain ⟨c8, i8, k8⟩ := u_known (C := R_8) (T := T_8) (N := 3) (n := 3) hts iw_8 (hts _ g_365)
  obtain ⟨c9, i9, k9⟩ := u_known (C := R_9) (T := T_9) (N := 6) (n := 6) hts iw_9 (hts _ g_138)
  obtain ⟨c10, i10, k10⟩ := u_known (C := R_10) (T := T_10) (N := 9) (n := 9) hts iw_10 (hts _ g_316)
  obtain ⟨c11, i11, k11⟩ := u_known (C := R_11) (T := T_11) (N := 12) (n := 12) hts iw_11 (hts _ g_18)
  obtain ⟨c12, i12, k12⟩ := u_known (C := R_12) (T := T_12) (N := 72) (n := 72) hts iw_12 (hts _ g_1046)
  refine ⟨(fun k => match k with | 0 => c0 | 1 => c1 | 2 => c2 | 3 => c3 | 4 => c4 | 5 => c5 | 6 => c6 | 7 => c7 | 8 => c8 | 9 => c9 | 10 => c10 | 11 => c11 | _ => c12, fun k => match k with | 0 => i0 | 1 => i1 | 2 => i2 | 3 => i3 | 4 => i4 | 5 => i5 | 6 => i6 | 7 => i7 | 8 => i8 | 9 => i9 | 10 => i10 | 11 => i11 | _ => i12), fun k q hq => ?_, fun k q h => by simp at h⟩
  match k, hq with
  | 0, hq => cases hq; exact k0
  | 1, hq => cases hq; exact k1
  | 2, hq => cases hq; exact k2
  | 3, hq => cases hq; exact k3
  | 4, hq => cases hq; exact k4
  | 5, hq => cases hq; exact k5
  | 6, hq => cases hq; exact k6
  | 7, hq => cases hq; exact k7
  | 8, hq => cases hq; exact k8
  | 9, hq => cases hq; exact k9
  | 10, hq => cases hq; exact k10
  | 11, hq => cases hq; exact k11
  | 12, hq => cases hq; exact k12
  | k + 13, hq => simp [classes] at hq
set_option maxHeartbeats 4000000 in
theorem whole_start {p : Program} {e : Env} {s : State} {m : MethodId} {below : List Frame} {meth : Method} {c : Code} (l : Launch) {b L : Nat} {xs : Nat → Int32} (hL : L ≤ 3584) (C0 : lw_At p s m meth c b L xs) : W p l e room_1 s m #[Value.ref b] below meth c s.heap [] 0 0 (lw_Z below #[Value.ref b] s) (entryFrame m ([Value.ref b] : List Value).toArray 4) := by
  obtain ⟨hx, hb, hr, hml, hown, hts, hX, hbl, hlocks, hgv⟩ := C0
  obtain ⟨μ1, μ2, q1, q2, q3, q4, q5⟩ := pure_main L xs hL
  have hJ := law_entry L xs q1 q2 q3 q4 q5
  have htg : ∀ w ∈ gw, w.before #[Value.ref b] s = true := fun w hw => hts w (List.mem_filter.mp hw).1
  obtain ⟨D, hK⟩ := kn_start htg
  obtain ⟨t1, hZ1, hT1⟩ := st_TAKES (Z := s.heap.size) hgv hts rfl
  obtain ⟨t2, hZ2, hT2⟩ := st_GIVES (Z := s.heap.size) hgv hts rfl
  have hls := lv_entry ([.ref b]) (n := 4) (Nat.le_of_ble_eq_true rfl)
  rw [lg_entry_eq]
  generalize (lg_sl ([.ref b]) ++ List.replicate (4 - (lg_sl ([.ref b])).length) Slot.unset).toArray = ls at hls ⊢
  let ρ : MA := fun k _ => if k = 900 then t1 else if k = 901 then t2 else b
  have hRel : Rel D s.heap.size s s.heap ρ em := by
    refine ⟨[], [], fun _ => .inr (0, []), hK, ?_, ⟨?_, ?_⟩, ?_, ?_, ?_⟩
    · intro k q h; simp [va_pl] at h
    · intro i j p q h; simp [va_pl] at h
    · intro k q h; simp [va_pl] at h
    · intro k l h; cases h
    · intro k l k' l' h; cases h
    · intro k l h; cases h
  have hlv : ∀ q ∈ [((0 : Nat), vr 902 0)], LV em q.2 := by
    intro q hq
    rcases List.mem_singleton.mp hq with rfl
    exact Or.inr ⟨by decide, rfl⟩
  refine hJ p l e room_1 s m #[Value.ref b] below meth c _ s.heap [] 0 0 D s.heap.size ρ ρ (fun _ _ => false) ls ⟨rfl, hr, hlocks, hX, hbl, rfl, rfl, rfl⟩ ⟨hx, hb, hml, hown, htg, nst_start hts, ⟨hZ1, hT1, hZ2, hT2⟩, hRel, va_S.rf, Nat.le_refl _, ?_, fun _ _ => rfl, ?_, hlv, hls, ⟨by decide, by decide⟩, by decide, by decide⟩ ?_
  · intro k l h; cases h
  · intro h; cases h
  · intro v h; cases h
