def m_Pa_placeX (o : Nat) (a1 : Int64) (a2 : Int64) (μ : Mem) : Option (Int64) :=
  Option.bind (m_Fo_rounded ((((gI μ 6 (o) 3).toInt64) * (a1)) + (((gI μ 6 (o) 4).toInt64) * (a2))) ((16384 : Int64)) μ) fun r1 =>
  some ((r1) + ((gI μ 6 (o) 1).toInt64))
theorem t_Pa_placeX {o : Nat} {a1 : Int64} {a2 : Int64} {μ : Mem} {q : Int64} (h : m_Pa_placeX o a1 a2 μ = some q) : JM true (2) y_Pa_placeX b_Pa_placeX 5 (some (.long)) 0 0 [vr 6 (o), vl (a1), vl (a2)] μ (QQ (some (vl q)) μ) := by
  unfold m_Pa_placeX at h
  refine JM.of pl_Pa_placeX (fun ρ => Nat.le_of_ble_eq_true rfl) ?_
  show J (GM true (QQ (some (vl q)) μ) (some (.long)) y_Pa_placeX.name) true b_Pa_placeX R_6 5 (2) 0 0 0 [(0, vr 6 (o)), (1, vl (a1)), (3, vl (a2))] [] μ
  refine J_aload_n (q := 1) 0 d_Pa_placeX_0 rfl rfl rfl ?_
  refine J_getI (q := 4) (j := 3) cd_6 (by decide) (Or.inl rfl) g_541 rfl d_Pa_placeX_1 rfl ?_
  refine J_i2l (q := 5) d_Pa_placeX_4 rfl ?_
  refine J_lload_n (q := 6) 1 d_Pa_placeX_5 rfl rfl rfl ?_
  refine J_lmul (q := 7) d_Pa_placeX_6 rfl ?_
  refine J_aload_n (q := 8) 0 d_Pa_placeX_7 rfl rfl rfl ?_
  refine J_getI (q := 11) (j := 4) cd_6 (by decide) (Or.inl rfl) g_542 rfl d_Pa_placeX_8 rfl ?_
  refine J_i2l (q := 12) d_Pa_placeX_11 rfl ?_
  refine J_lload_n (q := 13) 2 d_Pa_placeX_12 rfl rfl rfl ?_
  refine J_lmul (q := 14) d_Pa_placeX_13 rfl ?_
  refine J_ladd (q := 15) d_Pa_placeX_14 rfl ?_
  refine J_ldc2 (q := 18) d_Pa_placeX_15 g_628 rfl ?_
  obtain ⟨r1, hr1, h⟩ := bd_some h
  refine J_callSNq (rc := 0) (rs := 0) (q := 21) (as := [vl ((((gI μ 6 (o) 3).toInt64) * (a1)) + (((gI μ 6 (o) 4).toInt64) * (a2))), vl ((16384 : Int64))]) (st := []) g_630 (t_Fo_rounded hr1) (by decide) (by decide) nn_11 g_631 g_1 hy_Fo_rounded rfl (Nat.le_of_ble_eq_true rfl) d_Pa_placeX_18 rfl ?_
  refine J_aload_n (q := 22) 0 d_Pa_placeX_21 rfl rfl rfl ?_
  refine J_getI (q := 25) (j := 1) cd_6 (by decide) (Or.inl rfl) g_539 rfl d_Pa_placeX_22 rfl ?_
  refine J_i2l (q := 26) d_Pa_placeX_25 rfl ?_
  refine J_ladd (q := 27) d_Pa_placeX_26 rfl ?_
  obtain rfl := Option.some.inj h
  exact J_lret rfl ⟨rfl, rfl⟩ d_Pa_placeX_27
def m_Pa_placeY (o : Nat) (a1 : Int64) (a2 : Int64) (μ : Mem) : Option (Int64) :=
  Option.bind (m_Fo_rounded ((((gI μ 6 (o) 5).toInt64) * (a1)) + (((gI μ 6 (o) 6).toInt64) * (a2))) ((16384 : Int64)) μ) fun r1 =>
  some ((r1) + ((gI μ 6 (o) 2).toInt64))
theorem t_Pa_placeY {o : Nat} {a1 : Int64} {a2 : Int64} {μ : Mem} {q : Int64} (h : m_Pa_placeY o a1 a2 μ = some q) : JM true (2) y_Pa_placeY b_Pa_placeY 5 (some (.long)) 0 0 [vr 6 (o), vl (a1), vl (a2)] μ (QQ (some (vl q)) μ) := by
  unfold m_Pa_placeY at h
  refine JM.of pl_Pa_placeY (fun ρ => Nat.le_of_ble_eq_true rfl) ?_
  show J (GM true (QQ (some (vl q)) μ) (some (.long)) y_Pa_placeY.name) true b_Pa_placeY R_6 5 (2) 0 0 0 [(0, vr 6 (o)), (1, vl (a1)), (3, vl (a2))] [] μ
  refine J_aload_n (q := 1) 0 d_Pa_placeY_0 rfl rfl rfl ?_
  refine J_getI (q := 4) (j := 5) cd_6 (by decide) (Or.inl rfl) g_543 rfl d_Pa_placeY_1 rfl ?_
  refine J_i2l (q := 5) d_Pa_placeY_4 rfl ?_
  refine J_lload_n (q := 6) 1 d_Pa_placeY_5 rfl rfl rfl ?_
  refine J_lmul (q := 7) d_Pa_placeY_6 rfl ?_
  refine J_aload_n (q := 8) 0 d_Pa_placeY_7 rfl rfl rfl ?_
  refine J_getI (q := 11) (j := 6) cd_6 (by decide) (Or.inl rfl) g_544 rfl d_Pa_placeY_8 rfl ?_
  refine J_i2l (q := 12) d_Pa_placeY_11 rfl ?_
  refine J_lload_n (q := 13) 2 d_Pa_placeY_12 rfl rfl rfl ?_
  refine J_lmul (q := 14) d_Pa_placeY_13 rfl ?_
  refine J_ladd (q := 15) d_Pa_placeY_14 rfl ?_
  refine J_ldc2 (q := 18) d_Pa_placeY_15 g_628 rfl ?_
  obtain ⟨r1, hr1, h⟩ := bd_some h
  refine J_callSNq (rc := 0) (rs := 0) (q := 21) (as := [vl ((((gI μ 6 (o) 5).toInt64) * (a1)) + (((gI μ 6 (o) 6).toInt64) * (a2))), vl ((16384 : Int64))]) (st := []) g_630 (t_Fo_rounded hr1) (by decide) (by decide) nn_11 g_631 g_1 hy_Fo_rounded rfl (Nat.le_of_ble_eq_true rfl) d_Pa_placeY_18 rfl ?_
  refine J_aload_n (q := 22) 0 d_Pa_placeY_21 rfl rfl rfl ?_
  refine J_getI (q := 25) (j := 2) cd_6 (by decide) (Or.inl rfl) g_540 rfl d_Pa_placeY_22 rfl ?_
  refine J_i2l (q := 26) d_Pa_placeY_25 rfl ?_
  refine J_ladd (q := 27) d_Pa_placeY_26 rfl ?_
  obtain rfl := Option.some.inj h
  exact J_lret rfl ⟨rfl, rfl⟩ d_Pa_placeY_27
def mj_Fl_place_68 (a1 : Nat) (a2 : Int32) (a3 : Int32) (c_23 : Int64 → Int64 → Int32 → Mem → Option (Mem)) (y4 : Int64) (y6 : Int64) (y8 : Int32) (μ : Mem) : Option (Mem) :=
  ap (y8 + (-1 : Int32)) fun x9 =>
  c_23 (y4) (y6) (x9) μ
theorem tj_Fl_place_68 (a1 : Nat) (a2 : Int32) (a3 : Int32) {q : Mem} {c_23 : Int64 → Int64 → Int32 → Mem → Option (Mem)} (hc_23 : ∀ (y4 : Int64) (y6 : Int64) (y8 : Int32) (μ : Mem), c_23 y4 y6 y8 μ = some q → J (GM true (QQ none q) none y_Fl_place.name) true b_Fl_place R_1 12 (3) 0 0 23 [(0, vr 1 (0)), (2, vi (a2)), (4, vl (y4)), (6, vl (y6)), (8, vi (y8))] [] μ) (y4 : Int64) (y6 : Int64) (y8 : Int32) (μ : Mem) (h : mj_Fl_place_68 a1 a2 a3 c_23 y4 y6 y8 μ = some q) : J (GM true (QQ none q) none y_Fl_place.name) true b_Fl_place R_1 12 (3) 0 0 68 [(0, vr 1 (0)), (2, vi (a2)), (4, vl (y4)), (6, vl (y6)), (8, vi (y8))] [] μ := by
  unfold mj_Fl_place_68 at h
  obtain ⟨x9, hx9, h⟩ := ap_eq h
  refine J_iinc (q := 71) (v := x9) (lv' := [(8, vi (x9)), (0, vr 1 (0)), (2, vi (a2)), (4, vl (y4)), (6, vl (y6))]) 4 d_Fl_place_68 rfl (by rw [hx9]; rfl) (by decide) rfl rfl ?_
  refine J_goto (q := 23) d_Fl_place_71 (by decide) ?_
  refine J_pick [1, 2, 3, 4, 0] rfl ?_
  exact hc_23 _ _ _ _ h
def lp_Fl_place_23 (a1 : Nat) (a2 : Int32) (a3 : Int32) (c_74 : Int64 → Int64 → Mem → Option (Mem)) : Nat → Int64 → Int64 → Int32 → Mem → Option (Mem)
  | 0, _, _, _, _ => none
  | n + 1, y4, y6, y8, μ =>
  if y8 < 0 then
 (c_74 (y4) (y6) μ)
 else
 (gu (y8) 4 <|
  ap (gR μ 124 (0) y8.toNatClampNeg) fun o13 =>
  oc o13
 (mj_Fl_place_68 a1 a2 a3 (lp_Fl_place_23 a1 a2 a3 c_74 n) (y4) (y6) (y8) μ)
 fun y14 => Option.bind (m_Pa_placeX (y14) (y4) (y6) μ) fun r15 =>
  Option.bind (m_Pa_placeY (y14) (y4) (y6) μ) fun r16 =>
  mj_Fl_place_68 a1 a2 a3 (lp_Fl_place_23 a1 a2 a3 c_74 n) (r15) (r16) (y8) μ)
theorem tl_Fl_place_23 (a1 : Nat) (a2 : Int32) (a3 : Int32) {q : Mem} {c_74 : Int64 → Int64 → Mem → Option (Mem)} (hc_74 : ∀ (y4 : Int64) (y6 : Int64) (μ : Mem), c_74 y4 y6 μ = some q → J (GM true (QQ none q) none y_Fl_place.name) true b_Fl_place R_1 12 (3) 0 0 74 [(0, vr 1 (0)), (2, vi (a2)), (4, vl (y4)), (6, vl (y6))] [] μ) : ∀ (n : Nat) (y4 : Int64) (y6 : Int64) (y8 : Int32) (μ : Mem), lp_Fl_place_23 a1 a2 a3 c_74 n y4 y6 y8 μ = some q → J (GM true (QQ none q) none y_Fl_place.name) true b_Fl_place R_1 12 (3) 0 0 23 [(0, vr 1 (0)), (2, vi (a2)), (4, vl (y4)), (6, vl (y6)), (8, vi (y8))] [] μ := by
  intro n
  induction n with
  | zero => intro _ _ _ _ h; cases h
  | succ n ih =>
    intro y4 y6 y8 μ h
    unfold lp_Fl_place_23 at h
    refine J_iload (q := 25) 4 d_Fl_place_23 rfl rfl ?_
    refine J_if_lt (q := 28) (tgt := 74) d_Fl_place_25 (by decide) rfl (fun hc => ?_) (fun hc => ?_)
    · rw [if_pos hc] at h
      refine J_pick [0, 1, 2, 3] rfl ?_
      exact hc_74 _ _ _ h
    · rw [if_neg hc] at h
      refine J_aload_n (q := 29) 0 d_Fl_place_28 rfl rfl rfl ?_
      refine J_getF (q := 32) cd_1 (by decide) ft_1_4 rfl g_39 rfl d_Fl_place_29 rfl ?_
      refine J_iload (q := 34) 4 d_Fl_place_32 rfl rfl ?_
      obtain ⟨hi12, h⟩ := gu_some h
      refine J_ald5 (q := 35) rk_124 (by decide) hi12 d_Fl_place_34 rfl ?_
      obtain ⟨o13, ho13, h⟩ := ap_eq h
      refine J_nmO ho13 ?_
      refine J_astore (q := 37) (lv' := [(9, vo 6 (o13)), (0, vr 1 (0)), (2, vi (a2)), (4, vl (y4)), (6, vl (y6)), (8, vi (y8))]) d_Fl_place_35 (by decide) rfl rfl ?_
      refine J_aload (q := 39) 0 d_Fl_place_37 rfl rfl ?_
      refine J_nullO (q := 42) (tgt := 68) d_Fl_place_39 (by decide) rfl (fun ho => ?_) (fun y14 ho => ?_)
      · subst ho
        rw [oc_none] at h
        refine J_pick [1, 2, 3, 4, 5] rfl ?_
        exact tj_Fl_place_68 a1 a2 a3 ih _ _ _ _ h
      · subst ho
        rw [oc_some] at h
        refine J_lload (q := 44) 3 d_Fl_place_42 rfl rfl ?_
        refine J_lstore (q := 46) (lv' := [(10, vl (y4)), (9, vr 6 (y14)), (0, vr 1 (0)), (2, vi (a2)), (4, vl (y4)), (6, vl (y6)), (8, vi (y8))]) d_Fl_place_44 (by decide) rfl rfl ?_
        refine J_aload (q := 48) 1 d_Fl_place_46 rfl rfl ?_
        refine J_lload (q := 50) 0 d_Fl_place_48 rfl rfl ?_
        refine J_lload (q := 52) 5 d_Fl_place_50 rfl rfl ?_
        obtain ⟨r15, hr15, h⟩ := bd_some h
        refine J_callVq (rc := 0) (rs := 0) (q := 55) (as := [vl (y4), vl (y6)]) (st := []) (by decide) rfl g_625 g_626 (t_Pa_placeX hr15) (by decide) (by decide) g_624 g_627 g_14 hy_Pa_placeX rfl (Nat.le_of_ble_eq_true rfl) d_Fl_place_52 rfl ?_
        refine J_lstore (q := 57) (lv' := [(4, vl (r15)), (10, vl (y4)), (9, vr 6 (y14)), (0, vr 1 (0)), (2, vi (a2)), (6, vl (y6)), (8, vi (y8))]) d_Fl_place_55 (by decide) rfl rfl ?_
        refine J_aload (q := 59) 2 d_Fl_place_57 rfl rfl ?_
        refine J_lload (q := 61) 1 d_Fl_place_59 rfl rfl ?_
        refine J_lload (q := 63) 5 d_Fl_place_61 rfl rfl ?_
        obtain ⟨r16, hr16, h⟩ := bd_some h
        refine J_callVq (rc := 0) (rs := 0) (q := 66) (as := [vl (y4), vl (y6)]) (st := []) (by decide) rfl g_639 g_640 (t_Pa_placeY hr16) (by decide) (by decide) g_638 g_641 g_14 hy_Pa_placeY rfl (Nat.le_of_ble_eq_true rfl) d_Fl_place_63 rfl ?_
        refine J_lstore (q := 68) (lv' := [(6, vl (r16)), (4, vl (r15)), (10, vl (y4)), (9, vr 6 (y14)), (0, vr 1 (0)), (2, vi (a2)), (8, vi (y8))]) d_Fl_place_66 (by decide) rfl rfl ?_
        refine J_pick [4, 5, 1, 0, 6] rfl ?_
        exact tj_Fl_place_68 a1 a2 a3 ih _ _ _ _ h
def mj_Fl_place_74 (a1 : Nat) (a2 : Int32) (a3 : Int32) (y4 : Int64) (y6 : Int64) (μ : Mem) : Option (Mem) :=
  gu (a2) 100 <|
  ap (sL μ 122 (0) a2.toNatClampNeg (y4)) fun μ18 =>
  gu (a2) 100 <|
  ap (sL μ18 123 (0) a2.toNatClampNeg (y6)) fun μ20 =>
  some μ20
theorem tj_Fl_place_74 (a1 : Nat) (a2 : Int32) (a3 : Int32) {q : Mem}  (y4 : Int64) (y6 : Int64) (μ : Mem) (h : mj_Fl_place_74 a1 a2 a3 y4 y6 μ = some q) : J (GM true (QQ none q) none y_Fl_place.name) true b_Fl_place R_1 12 (3) 0 0 74 [(0, vr 1 (0)), (2, vi (a2)), (4, vl (y4)), (6, vl (y6))] [] μ := by
  unfold mj_Fl_place_74 at h
  refine J_aload_n (q := 75) 0 d_Fl_place_74 rfl rfl rfl ?_
  refine J_getF (q := 78) cd_1 (by decide) ft_1_2 rfl g_37 rfl d_Fl_place_75 rfl ?_
  refine J_iload_n (q := 79) 1 d_Fl_place_78 rfl rfl rfl ?_
  refine J_lload (q := 81) 2 d_Fl_place_79 rfl rfl ?_
  obtain ⟨hi17, h⟩ := gu_some h
  refine J_last (q := 82) rk_122 (by decide) hi17 d_Fl_place_81 rfl ?_
  obtain ⟨μ18, hμ18, h⟩ := ap_eq h
  refine J_nmM hμ18 ?_
  refine J_aload_n (q := 83) 0 d_Fl_place_82 rfl rfl rfl ?_
  refine J_getF (q := 86) cd_1 (by decide) ft_1_3 rfl g_38 rfl d_Fl_place_83 rfl ?_
  refine J_iload_n (q := 87) 1 d_Fl_place_86 rfl rfl rfl ?_
  refine J_lload (q := 89) 3 d_Fl_place_87 rfl rfl ?_
  obtain ⟨hi19, h⟩ := gu_some h
  refine J_last (q := 90) rk_123 (by decide) hi19 d_Fl_place_89 rfl ?_
  obtain ⟨μ20, hμ20, h⟩ := ap_eq h
  refine J_nmM hμ20 ?_
  obtain rfl := Option.some.inj h
  exact J_vret rfl ⟨rfl, rfl⟩ d_Fl_place_90
def m_Fl_place (a1 : Nat) (a2 : Int32) (a3 : Int32) (μ : Mem) : Option (Mem) :=
  gu (a2) 100 <|
  ap ((gI μ 300 (a1) a2.toNatClampNeg).toInt64) fun x2 =>
  gu (a2) 100 <|
  ap ((gI μ 301 (a1) a2.toNatClampNeg).toInt64) fun x4 =>
  ap (a3 - (1 : Int32)) fun x5 =>
  lp_Fl_place_23 a1 a2 a3 (mj_Fl_place_74 a1 a2 a3) FU (x2) (x4) (x5) μ
theorem t_Fl_place {a1 : Nat} {a2 : Int32} {a3 : Int32} {μ : Mem} {q : Mem} (h : m_Fl_place a1 a2 a3 μ = some q) : JM true (3) y_Fl_place b_Fl_place 12 none 0 0 [vr 1 (0), vr 10 (a1), vi (a2), vi (a3)] μ (QQ none q) := by
  unfold m_Fl_place at h
  refine JM.of pl_Fl_place (fun ρ => Nat.le_of_ble_eq_true rfl) ?_
  show J (GM true (QQ none q) none y_Fl_place.name) true b_Fl_place R_1 12 (3) 0 0 0 [(0, vr 1 (0)), (1, vr 10 (a1)), (2, vi (a2)), (3, vi (a3))] [] μ
  refine J_aload_n (q := 1) 1 d_Fl_place_0 rfl rfl rfl ?_
  refine J_getF (q := 4) cd_10 (by decide) ft_10_0 rfl g_324 rfl d_Fl_place_1 rfl ?_
  refine J_iload_n (q := 5) 2 d_Fl_place_4 rfl rfl rfl ?_
  obtain ⟨hi1, h⟩ := gu_some h
  refine J_iald (q := 6) rk_300 (by decide) hi1 d_Fl_place_5 rfl ?_
  refine J_i2l (q := 7) d_Fl_place_6 rfl ?_
  obtain ⟨x2, hx2, h⟩ := ap_eq h
  refine J_nmL hx2 ?_
  refine J_lstore (q := 9) (lv' := [(4, vl (x2)), (0, vr 1 (0)), (1, vr 10 (a1)), (2, vi (a2)), (3, vi (a3))]) d_Fl_place_7 (by decide) rfl rfl ?_
  refine J_aload_n (q := 10) 2 d_Fl_place_9 rfl rfl rfl ?_
  refine J_getF (q := 13) cd_10 (by decide) ft_10_1 rfl g_328 rfl d_Fl_place_10 rfl ?_
  refine J_iload_n (q := 14) 3 d_Fl_place_13 rfl rfl rfl ?_
  obtain ⟨hi3, h⟩ := gu_some h
  refine J_iald (q := 15) rk_301 (by decide) hi3 d_Fl_place_14 rfl ?_
  refine J_i2l (q := 16) d_Fl_place_15 rfl ?_
  obtain ⟨x4, hx4, h⟩ := ap_eq h
  refine J_nmL hx4 ?_
  refine J_lstore (q := 18) (lv' := [(6, vl (x4)), (4, vl (x2)), (0, vr 1 (0)), (1, vr 10 (a1)), (2, vi (a2)), (3, vi (a3))]) d_Fl_place_16 (by decide) rfl rfl ?_
  refine J_iload_n (q := 19) 5 d_Fl_place_18 rfl rfl rfl ?_
  refine J_iconst (q := 20) (v := (1 : Int32)) d_Fl_place_19 (by decide) rfl ?_
  refine J_isub (q := 21) d_Fl_place_20 rfl ?_
  obtain ⟨x5, hx5, h⟩ := ap_eq h
  refine J_nmI hx5 ?_
  refine J_istore (q := 23) (lv' := [(8, vi (x5)), (6, vl (x4)), (4, vl (x2)), (0, vr 1 (0)), (1, vr 10 (a1)), (2, vi (a2)), (3, vi (a3))]) d_Fl_place_21 (by decide) rfl rfl ?_
  refine J_pick [3, 5, 2, 1, 0] rfl ?_
  exact tl_Fl_place_23 a1 a2 a3 (fun _ _ _ h => tj_Fl_place_74 a1 a2 a3 _ _ _ h) FU _ _ _ _ h
def lp_Po_finish_12 (o : Nat) (c_65 : Mem → Option (Mem)) : Nat → Mem → Option (Mem)
  | 0, _ => none
  | n + 1, μ =>
  if (gI μ 7 (o) 4) - (gI μ 7 (o) 7) ≤ (1 : Int32) then
 (c_65 μ)
 else
 (gu (gI μ 7 (o) 7) 500 <|
  gu (gI μ 7 (o) 7) 500 <|
  Option.bind (m_Po_isLast (o) ((gI μ 240 (o) (gI μ 7 (o) 7).toNatClampNeg).toInt64) ((gI μ 241 (o) (gI μ 7 (o) 7).toNatClampNeg).toInt64) μ) fun r7 =>
  if r7 then
 (ap (sI μ 7 (o) 4 ((gI μ 7 (o) 4) - ((1 : Int32)))) fun μ8 =>
  lp_Po_finish_12 o c_65 n μ8)
 else
 (c_65 μ))
theorem tl_Po_finish_12 (o : Nat) {q : Mem} {c_65 : Mem → Option (Mem)} (hc_65 : ∀ (μ : Mem), c_65  μ = some q → J (GM true (QQ none q) none y_Po_finish.name) true b_Po_finish R_7 1 (1) 0 0 65 [(0, vr 7 (o))] [] μ) : ∀ (n : Nat) (μ : Mem), lp_Po_finish_12 o c_65 n μ = some q → J (GM true (QQ none q) none y_Po_finish.name) true b_Po_finish R_7 1 (1) 0 0 12 [(0, vr 7 (o))] [] μ := by
  intro n
  induction n with
  | zero => intro _ h; cases h
  | succ n ih =>
    intro μ h
    unfold lp_Po_finish_12 at h
    refine J_aload_n (q := 13) 0 d_Po_finish_12 rfl rfl rfl ?_
    refine J_getI (q := 16) (j := 4) cd_7 (by decide) (Or.inl rfl) g_74 rfl d_Po_finish_13 rfl ?_
    refine J_aload_n (q := 17) 0 d_Po_finish_16 rfl rfl rfl ?_
    refine J_getI (q := 20) (j := 7) cd_7 (by decide) (Or.inl rfl) g_80 rfl d_Po_finish_17 rfl ?_
    refine J_isub (q := 21) d_Po_finish_20 rfl ?_
    refine J_iconst (q := 22) (v := (1 : Int32)) d_Po_finish_21 (by decide) rfl ?_
    refine J_icmp_le (q := 25) (tgt := 65) d_Po_finish_22 (by decide) rfl (fun hc => ?_) (fun hc => ?_)
    · rw [if_pos hc] at h
      refine J_pick [0] rfl ?_
      exact hc_65 _ h
    · rw [if_neg hc] at h
      refine J_aload_n (q := 26) 0 d_Po_finish_25 rfl rfl rfl ?_
      refine J_aload_n (q := 27) 0 d_Po_finish_26 rfl rfl rfl ?_
      refine J_getF (q := 30) cd_7 (by decide) ft_7_0 rfl g_64 rfl d_Po_finish_27 rfl ?_
      refine J_aload_n (q := 31) 0 d_Po_finish_30 rfl rfl rfl ?_
      refine J_getI (q := 34) (j := 7) cd_7 (by decide) (Or.inl rfl) g_80 rfl d_Po_finish_31 rfl ?_
      obtain ⟨hi5, h⟩ := gu_some h
      refine J_iald (q := 35) rk_240 (by decide) hi5 d_Po_finish_34 rfl ?_
      refine J_i2l (q := 36) d_Po_finish_35 rfl ?_
      refine J_aload_n (q := 37) 0 d_Po_finish_36 rfl rfl rfl ?_
      refine J_getF (q := 40) cd_7 (by decide) ft_7_1 rfl g_67 rfl d_Po_finish_37 rfl ?_
      refine J_aload_n (q := 41) 0 d_Po_finish_40 rfl rfl rfl ?_
      refine J_getI (q := 44) (j := 7) cd_7 (by decide) (Or.inl rfl) g_80 rfl d_Po_finish_41 rfl ?_
      obtain ⟨hi6, h⟩ := gu_some h
      refine J_iald (q := 45) rk_241 (by decide) hi6 d_Po_finish_44 rfl ?_
      refine J_i2l (q := 46) d_Po_finish_45 rfl ?_
      obtain ⟨r7, hr7, h⟩ := bd_some h
      refine J_callVq (rc := 0) (rs := 0) (q := 49) (as := [vl ((gI μ 240 (o) (gI μ 7 (o) 7).toNatClampNeg).toInt64), vl ((gI μ 241 (o) (gI μ 7 (o) 7).toNatClampNeg).toInt64)]) (st := []) (by decide) rfl g_654 sel_Po_isLast (t_Po_isLast hr7) (by decide) (by decide) g_652 g_655 g_3 hy_Po_isLast rfl (Nat.le_of_ble_eq_true rfl) d_Po_finish_46 rfl ?_
      refine J_ifB_eq (q := 52) (tgt := 65) d_Po_finish_49 (by decide) rfl (fun hb => ?_) (fun hb => ?_)
      · rw [iB_f hb] at h
        refine J_pick [0] rfl ?_
        exact hc_65 _ h
      · rw [iB_t hb] at h
        refine J_aload_n (q := 53) 0 d_Po_finish_52 rfl rfl rfl ?_
        refine J_dupR (q := 54) d_Po_finish_53 rfl ?_
        refine J_getI (q := 57) (j := 4) cd_7 (by decide) (Or.inl rfl) g_74 rfl d_Po_finish_54 rfl ?_
        refine J_iconst (q := 58) (v := (1 : Int32)) d_Po_finish_57 (by decide) rfl ?_
        refine J_isub (q := 59) d_Po_finish_58 rfl ?_
        refine J_putI (q := 62) (j := 4) cd_7 (by decide) rfl rfl rfl g_74 rfl d_Po_finish_59 rfl ?_
        obtain ⟨μ8, hμ8, h⟩ := ap_eq h
        refine J_nmM hμ8 ?_
        refine J_goto (q := 12) d_Po_finish_62 (by decide) ?_
        refine J_pick [0] rfl ?_
        exact ih _ h
def mj_Po_finish_65 (o : Nat) (μ : Mem) : Option (Mem) :=
  if (gI μ 7 (o) 4) - (gI μ 7 (o) 7) = (1 : Int32) then
 (ap (sI μ 7 (o) 4 (gI μ 7 (o) 7)) fun μ13 =>
  some μ13)
 else
 (gu ((gI μ 7 (o) 4) - ((1 : Int32))) 500 <|
  ap (sI μ 243 (o) ((gI μ 7 (o) 4) - ((1 : Int32))).toNatClampNeg (gI μ 7 (o) 7)) fun μ10 =>
  ap (sI μ10 7 (o) 7 (gI μ10 7 (o) 4)) fun μ11 =>
  ap (sI μ11 7 (o) 8 ((gI μ11 7 (o) 8) + ((1 : Int32)))) fun μ12 =>
  some μ12)
theorem tj_Po_finish_65 (o : Nat) {q : Mem}  (μ : Mem) (h : mj_Po_finish_65 o  μ = some q) : J (GM true (QQ none q) none y_Po_finish.name) true b_Po_finish R_7 1 (1) 0 0 65 [(0, vr 7 (o))] [] μ := by
  unfold mj_Po_finish_65 at h
  refine J_aload_n (q := 66) 0 d_Po_finish_65 rfl rfl rfl ?_
  refine J_getI (q := 69) (j := 4) cd_7 (by decide) (Or.inl rfl) g_74 rfl d_Po_finish_66 rfl ?_
  refine J_aload_n (q := 70) 0 d_Po_finish_69 rfl rfl rfl ?_
  refine J_getI (q := 73) (j := 7) cd_7 (by decide) (Or.inl rfl) g_80 rfl d_Po_finish_70 rfl ?_
  refine J_isub (q := 74) d_Po_finish_73 rfl ?_
  refine J_iconst (q := 75) (v := (1 : Int32)) d_Po_finish_74 (by decide) rfl ?_
  refine J_icmp_ne (q := 78) (tgt := 87) d_Po_finish_75 (by decide) rfl (fun hc => ?_) (fun hc => ?_)
  · rw [if_neg hc] at h
    refine J_aload_n (q := 88) 0 d_Po_finish_87 rfl rfl rfl ?_
    refine J_getF (q := 91) cd_7 (by decide) ft_7_3 rfl g_72 rfl d_Po_finish_88 rfl ?_
    refine J_aload_n (q := 92) 0 d_Po_finish_91 rfl rfl rfl ?_
    refine J_getI (q := 95) (j := 4) cd_7 (by decide) (Or.inl rfl) g_74 rfl d_Po_finish_92 rfl ?_
    refine J_iconst (q := 96) (v := (1 : Int32)) d_Po_finish_95 (by decide) rfl ?_
    refine J_isub (q := 97) d_Po_finish_96 rfl ?_
    refine J_aload_n (q := 98) 0 d_Po_finish_97 rfl rfl rfl ?_
    refine J_getI (q := 101) (j := 7) cd_7 (by decide) (Or.inl rfl) g_80 rfl d_Po_finish_98 rfl ?_
    obtain ⟨hi9, h⟩ := gu_some h
    refine J_iast (q := 102) rk_243 (by decide) hi9 d_Po_finish_101 rfl ?_
    obtain ⟨μ10, hμ10, h⟩ := ap_eq h
    refine J_nmM hμ10 ?_
    refine J_aload_n (q := 103) 0 d_Po_finish_102 rfl rfl rfl ?_
    refine J_aload_n (q := 104) 0 d_Po_finish_103 rfl rfl rfl ?_
    refine J_getI (q := 107) (j := 4) cd_7 (by decide) (Or.inl rfl) g_74 rfl d_Po_finish_104 rfl ?_
    refine J_putI (q := 110) (j := 7) cd_7 (by decide) rfl rfl rfl g_80 rfl d_Po_finish_107 rfl ?_
    obtain ⟨μ11, hμ11, h⟩ := ap_eq h
    refine J_nmM hμ11 ?_
    refine J_aload_n (q := 111) 0 d_Po_finish_110 rfl rfl rfl ?_
    refine J_dupR (q := 112) d_Po_finish_111 rfl ?_
    refine J_getI (q := 115) (j := 8) cd_7 (by decide) (Or.inl rfl) g_81 rfl d_Po_finish_112 rfl ?_
    refine J_iconst (q := 116) (v := (1 : Int32)) d_Po_finish_115 (by decide) rfl ?_
    refine J_iadd (q := 117) d_Po_finish_116 rfl ?_
    refine J_putI (q := 120) (j := 8) cd_7 (by decide) rfl rfl rfl g_81 rfl d_Po_finish_117 rfl ?_
    obtain ⟨μ12, hμ12, h⟩ := ap_eq h
    refine J_nmM hμ12 ?_
    obtain rfl := Option.some.inj h
    exact J_vret rfl ⟨rfl, rfl⟩ d_Po_finish_120
  · rw [if_pos hc] at h
    refine J_aload_n (q := 79) 0 d_Po_finish_78 rfl rfl rfl ?_
    refine J_aload_n (q := 80) 0 d_Po_finish_79 rfl rfl rfl ?_
    refine J_getI (q := 83) (j := 7) cd_7 (by decide) (Or.inl rfl) g_80 rfl d_Po_finish_80 rfl ?_
    refine J_putI (q := 86) (j := 4) cd_7 (by decide) rfl rfl rfl g_74 rfl d_Po_finish_83 rfl ?_
    obtain ⟨μ13, hμ13, h⟩ := ap_eq h
    refine J_nmM hμ13 ?_
    obtain rfl := Option.some.inj h
    exact J_vret rfl ⟨rfl, rfl⟩ d_Po_finish_86
def m_Po_finish (o : Nat) (μ : Mem) : Option (Mem) :=
  if gI μ 7 (o) 7 < gI μ 7 (o) 4 then
 (lp_Po_finish_12 o (mj_Po_finish_65 o) FU μ)
 else
 (some μ)
theorem t_Po_finish {o : Nat} {μ : Mem} {q : Mem} (h : m_Po_finish o μ = some q) : JM true (1) y_Po_finish b_Po_finish 1 none 0 0 [vr 7 (o)] μ (QQ none q) := by
  unfold m_Po_finish at h
  refine JM.of pl_Po_finish (fun ρ => Nat.le_of_ble_eq_true rfl) ?_
  show J (GM true (QQ none q) none y_Po_finish.name) true b_Po_finish R_7 1 (1) 0 0 0 [(0, vr 7 (o))] [] μ
  refine J_aload_n (q := 1) 0 d_Po_finish_0 rfl rfl rfl ?_
  refine J_getI (q := 4) (j := 4) cd_7 (by decide) (Or.inl rfl) g_74 rfl d_Po_finish_1 rfl ?_
  refine J_aload_n (q := 5) 0 d_Po_finish_4 rfl rfl rfl ?_
  refine J_getI (q := 8) (j := 7) cd_7 (by decide) (Or.inl rfl) g_80 rfl d_Po_finish_5 rfl ?_
  refine J_icmp_gt (q := 11) (tgt := 12) d_Po_finish_8 (by decide) rfl (fun hc => ?_) (fun hc => ?_)
  · rw [if_pos hc] at h
    refine J_pick [0] rfl ?_
    exact tl_Po_finish_12 o (fun _ h => tj_Po_finish_65 o _ h) FU _ h
  · rw [if_neg hc] at h
    obtain rfl := Option.some.inj h
    exact J_vret rfl ⟨rfl, rfl⟩ d_Po_finish_11
def lp_Fl_addOutline_18 (a1 : Nat) (a2 : Int32) (a3 : Int32) (a4 : Nat) (c_39 : Int32 → Int32 → Mem → Option (Mem)) : Nat → Int32 → Int32 → Int32 → Mem → Option (Mem)
  | 0, _, _, _, _ => none
  | n + 1, y5, y6, y7, μ =>
  if y6 ≤ y7 then
 (c_39 (y5) (y6) μ)
 else
 (Option.bind (m_Fl_place (a1) (y7) (a3) μ) fun r5 =>
  ap (y7 + (1 : Int32)) fun x6 =>
  lp_Fl_addOutline_18 a1 a2 a3 a4 c_39 n (y5) (y6) (x6) r5)
theorem tl_Fl_addOutline_18 (a1 : Nat) (a2 : Int32) (a3 : Int32) (a4 : Nat) {q : Mem} {c_39 : Int32 → Int32 → Mem → Option (Mem)} (hc_39 : ∀ (y5 : Int32) (y6 : Int32) (μ : Mem), c_39 y5 y6 μ = some q → J (GM true (QQ none q) none y_Fl_addOutline.name) true b_Fl_addOutline R_1 10 (24) 0 0 39 [(0, vr 1 (0)), (1, vr 10 (a1)), (4, vr 7 (a4)), (5, vi (y5)), (6, vi (y6))] [] μ) : ∀ (n : Nat) (y5 : Int32) (y6 : Int32) (y7 : Int32) (μ : Mem), lp_Fl_addOutline_18 a1 a2 a3 a4 c_39 n y5 y6 y7 μ = some q → J (GM true (QQ none q) none y_Fl_addOutline.name) true b_Fl_addOutline R_1 10 (24) 0 0 18 [(0, vr 1 (0)), (1, vr 10 (a1)), (3, vi (a3)), (4, vr 7 (a4)), (5, vi (y5)), (6, vi (y6)), (7, vi (y7))] [] μ := by
  intro n
  induction n with
  | zero => intro _ _ _ _ h; cases h
  | succ n ih =>
    intro y5 y6 y7 μ h
    unfold lp_Fl_addOutline_18 at h
    refine J_iload (q := 20) 6 d_Fl_addOutline_18 rfl rfl ?_
    refine J_iload (q := 22) 5 d_Fl_addOutline_20 rfl rfl ?_
    refine J_icmp_ge (q := 25) (tgt := 39) d_Fl_addOutline_22 (by decide) rfl (fun hc => ?_) (fun hc => ?_)
    · rw [if_pos hc] at h
      refine J_pick [0, 1, 3, 4, 5] rfl ?_
      exact hc_39 _ _ _ h
    · rw [if_neg hc] at h
      refine J_aload_n (q := 26) 0 d_Fl_addOutline_25 rfl rfl rfl ?_
      refine J_aload_n (q := 27) 1 d_Fl_addOutline_26 rfl rfl rfl ?_
      refine J_iload (q := 29) 6 d_Fl_addOutline_27 rfl rfl ?_
      refine J_iload_n (q := 30) 2 d_Fl_addOutline_29 rfl rfl rfl ?_
      obtain ⟨r5, hr5, h⟩ := bd_some h
      refine J_callVv (rc := 0) (rs := 0) (q := 33) (as := [vr 10 (a1), vi (y7), vi (a3)]) (st := []) (by decide) rfl g_622 sel_Fl_place (t_Fl_place hr5) (by decide) (by decide) g_620 g_623 g_2 hy_Fl_place rfl (Nat.le_of_ble_eq_true rfl) d_Fl_addOutline_30 rfl ?_
      obtain ⟨x6, hx6, h⟩ := ap_eq h
      refine J_iinc (q := 36) (v := x6) (lv' := [(7, vi (x6)), (0, vr 1 (0)), (1, vr 10 (a1)), (3, vi (a3)), (4, vr 7 (a4)), (5, vi (y5)), (6, vi (y6))]) 6 d_Fl_addOutline_33 rfl (by rw [hx6]; rfl) (by decide) rfl rfl ?_
      refine J_goto (q := 18) d_Fl_addOutline_36 (by decide) ?_
      refine J_pick [1, 2, 3, 4, 5, 6, 0] rfl ?_
      exact ih _ _ _ _ h
def mj_Fl_addOutline_137 (a1 : Nat) (a2 : Int32) (a3 : Int32) (a4 : Nat) (c_108 : Int32 → Int32 → Int32 → Int32 → Mem → Option (Mem)) (y5 : Int32) (y6 : Int32) (y7 : Int32) (y8 : Int32) (z0 : Int32) (μ : Mem) : Option (Mem) :=
  gu (z0) 100 <|
  gu (y8) 44 <|
  ap (sL μ 120 (0) y8.toNatClampNeg ((gL μ 122 (0) z0.toNatClampNeg) <<< (((30 : Int32)).toInt64 &&& 63))) fun μ13 =>
  gu (z0) 100 <|
  gu (y8) 44 <|
  ap (sL μ13 121 (0) y8.toNatClampNeg ((gL μ13 123 (0) z0.toNatClampNeg) <<< (((30 : Int32)).toInt64 &&& 63))) fun μ16 =>
  ap (y8 + (1 : Int32)) fun x17 =>
  c_108 (y5) (y6) (y7) (x17) μ16
theorem tj_Fl_addOutline_137 (a1 : Nat) (a2 : Int32) (a3 : Int32) (a4 : Nat) {q : Mem} {c_108 : Int32 → Int32 → Int32 → Int32 → Mem → Option (Mem)} (hc_108 : ∀ (y5 : Int32) (y6 : Int32) (y7 : Int32) (y8 : Int32) (μ : Mem), c_108 y5 y6 y7 y8 μ = some q → J (GM true (QQ none q) none y_Fl_addOutline.name) true b_Fl_addOutline R_1 10 (24) 0 0 108 [(0, vr 1 (0)), (1, vr 10 (a1)), (4, vr 7 (a4)), (5, vi (y5)), (6, vi (y6)), (7, vi (y7)), (8, vi (y8))] [] μ) (y5 : Int32) (y6 : Int32) (y7 : Int32) (y8 : Int32) (z0 : Int32) (μ : Mem) (h : mj_Fl_addOutline_137 a1 a2 a3 a4 c_108 y5 y6 y7 y8 z0 μ = some q) : J (GM true (QQ none q) none y_Fl_addOutline.name) true b_Fl_addOutline R_1 10 (24) 0 0 137 [(0, vr 1 (0)), (1, vr 10 (a1)), (4, vr 7 (a4)), (5, vi (y5)), (6, vi (y6)), (7, vi (y7)), (8, vi (y8))] [vi (z0)] μ := by
  unfold mj_Fl_addOutline_137 at h
  refine J_istore (q := 139) (lv' := [(9, vi (z0)), (0, vr 1 (0)), (1, vr 10 (a1)), (4, vr 7 (a4)), (5, vi (y5)), (6, vi (y6)), (7, vi (y7)), (8, vi (y8))]) d_Fl_addOutline_137 (by decide) rfl rfl ?_
  refine J_aload_n (q := 140) 1 d_Fl_addOutline_139 rfl rfl rfl ?_
  refine J_getF (q := 143) cd_1 (by decide) ft_1_0 rfl g_35 rfl d_Fl_addOutline_140 rfl ?_
  refine J_iload (q := 145) 7 d_Fl_addOutline_143 rfl rfl ?_
  refine J_aload_n (q := 146) 1 d_Fl_addOutline_145 rfl rfl rfl ?_
  refine J_getF (q := 149) cd_1 (by decide) ft_1_2 rfl g_37 rfl d_Fl_addOutline_146 rfl ?_
  refine J_iload (q := 151) 0 d_Fl_addOutline_149 rfl rfl ?_
  obtain ⟨hi11, h⟩ := gu_some h
  refine J_lald (q := 152) rk_122 (by decide) hi11 d_Fl_addOutline_151 rfl ?_
  refine J_bipush (q := 154) (v := (30 : Int32)) d_Fl_addOutline_152 (by decide) rfl ?_
  refine J_lshl (q := 155) d_Fl_addOutline_154 rfl ?_
  obtain ⟨hi12, h⟩ := gu_some h
  refine J_last (q := 156) rk_120 (by decide) hi12 d_Fl_addOutline_155 rfl ?_
  obtain ⟨μ13, hμ13, h⟩ := ap_eq h
  refine J_nmM hμ13 ?_
  refine J_aload_n (q := 157) 1 d_Fl_addOutline_156 rfl rfl rfl ?_
  refine J_getF (q := 160) cd_1 (by decide) ft_1_1 rfl g_36 rfl d_Fl_addOutline_157 rfl ?_
  refine J_iload (q := 162) 7 d_Fl_addOutline_160 rfl rfl ?_
  refine J_aload_n (q := 163) 1 d_Fl_addOutline_162 rfl rfl rfl ?_
  refine J_getF (q := 166) cd_1 (by decide) ft_1_3 rfl g_38 rfl d_Fl_addOutline_163 rfl ?_
  refine J_iload (q := 168) 0 d_Fl_addOutline_166 rfl rfl ?_
  obtain ⟨hi14, h⟩ := gu_some h
  refine J_lald (q := 169) rk_123 (by decide) hi14 d_Fl_addOutline_168 rfl ?_
  refine J_bipush (q := 171) (v := (30 : Int32)) d_Fl_addOutline_169 (by decide) rfl ?_
  refine J_lshl (q := 172) d_Fl_addOutline_171 rfl ?_
  obtain ⟨hi15, h⟩ := gu_some h
  refine J_last (q := 173) rk_121 (by decide) hi15 d_Fl_addOutline_172 rfl ?_
  obtain ⟨μ16, hμ16, h⟩ := ap_eq h
  refine J_nmM hμ16 ?_
  obtain ⟨x17, hx17, h⟩ := ap_eq h
  refine J_iinc (q := 176) (v := x17) (lv' := [(8, vi (x17)), (9, vi (z0)), (0, vr 1 (0)), (1, vr 10 (a1)), (4, vr 7 (a4)), (5, vi (y5)), (6, vi (y6)), (7, vi (y7))]) 7 d_Fl_addOutline_173 rfl (by rw [hx17]; rfl) (by decide) rfl rfl ?_
  refine J_goto (q := 108) d_Fl_addOutline_176 (by decide) ?_
  refine J_pick [2, 3, 4, 5, 6, 7, 0] rfl ?_
  exact hc_108 _ _ _ _ _ h
def lp_Fl_addOutline_108 (a1 : Nat) (a2 : Int32) (a3 : Int32) (a4 : Nat) (c_179 : Int32 → Int32 → Int32 → Mem → Option (Mem)) : Nat → Int32 → Int32 → Int32 → Int32 → Mem → Option (Mem)
  | 0, _, _, _, _, _ => none
  | n + 1, y5, y6, y7, y8, μ =>
  if gI μ 1 (0) 6 < y8 then
 (c_179 (y5) (y6) (y7) μ)
 else
 (if y6 ≤ y7 + y8 then
 (mj_Fl_addOutline_137 a1 a2 a3 a4 (lp_Fl_addOutline_108 a1 a2 a3 a4 c_179 n) (y5) (y6) (y7) (y8) (y5) μ)
 else
 (mj_Fl_addOutline_137 a1 a2 a3 a4 (lp_Fl_addOutline_108 a1 a2 a3 a4 c_179 n) (y5) (y6) (y7) (y8) (y7 + y8) μ))
theorem tl_Fl_addOutline_108 (a1 : Nat) (a2 : Int32) (a3 : Int32) (a4 : Nat) {q : Mem} {c_179 : Int32 → Int32 → Int32 → Mem → Option (Mem)} (hc_179 : ∀ (y5 : Int32) (y6 : Int32) (y7 : Int32) (μ : Mem), c_179 y5 y6 y7 μ = some q → J (GM true (QQ none q) none y_Fl_addOutline.name) true b_Fl_addOutline R_1 10 (24) 0 0 179 [(0, vr 1 (0)), (1, vr 10 (a1)), (4, vr 7 (a4)), (5, vi (y5)), (6, vi (y6)), (7, vi (y7))] [] μ) : ∀ (n : Nat) (y5 : Int32) (y6 : Int32) (y7 : Int32) (y8 : Int32) (μ : Mem), lp_Fl_addOutline_108 a1 a2 a3 a4 c_179 n y5 y6 y7 y8 μ = some q → J (GM true (QQ none q) none y_Fl_addOutline.name) true b_Fl_addOutline R_1 10 (24) 0 0 108 [(0, vr 1 (0)), (1, vr 10 (a1)), (4, vr 7 (a4)), (5, vi (y5)), (6, vi (y6)), (7, vi (y7)), (8, vi (y8))] [] μ := by
  intro n
  induction n with
  | zero => intro _ _ _ _ _ h; cases h
  | succ n ih =>
    intro y5 y6 y7 y8 μ h
    unfold lp_Fl_addOutline_108 at h
    refine J_iload (q := 110) 6 d_Fl_addOutline_108 rfl rfl ?_
    refine J_aload_n (q := 111) 0 d_Fl_addOutline_110 rfl rfl rfl ?_
    refine J_getI (q := 114) (j := 6) cd_1 (by decide) (Or.inl rfl) g_41 rfl d_Fl_addOutline_111 rfl ?_
    refine J_icmp_gt (q := 117) (tgt := 179) d_Fl_addOutline_114 (by decide) rfl (fun hc => ?_) (fun hc => ?_)
    · rw [if_pos hc] at h
      refine J_pick [0, 1, 2, 3, 4, 5] rfl ?_
      exact hc_179 _ _ _ _ h
    · rw [if_neg hc] at h
      refine J_iload (q := 119) 5 d_Fl_addOutline_117 rfl rfl ?_
      refine J_iload (q := 121) 6 d_Fl_addOutline_119 rfl rfl ?_
      refine J_iadd (q := 122) d_Fl_addOutline_121 rfl ?_
      refine J_iload (q := 124) 4 d_Fl_addOutline_122 rfl rfl ?_
      refine J_icmp_ge (q := 127) (tgt := 135) d_Fl_addOutline_124 (by decide) rfl (fun hc => ?_) (fun hc => ?_)
      · rw [if_pos hc] at h
        refine J_iload (q := 137) 3 d_Fl_addOutline_135 rfl rfl ?_
        refine J_pick [0, 1, 2, 3, 4, 5, 6] rfl ?_
        exact tj_Fl_addOutline_137 a1 a2 a3 a4 ih _ _ _ _ _ _ h
      · rw [if_neg hc] at h
        refine J_iload (q := 129) 5 d_Fl_addOutline_127 rfl rfl ?_
        refine J_iload (q := 131) 6 d_Fl_addOutline_129 rfl rfl ?_
        refine J_iadd (q := 132) d_Fl_addOutline_131 rfl ?_
        refine J_goto (q := 137) d_Fl_addOutline_132 (by decide) ?_
        refine J_pick [0, 1, 2, 3, 4, 5, 6] rfl ?_
        exact tj_Fl_addOutline_137 a1 a2 a3 a4 ih _ _ _ _ _ _ h
def mj_Fl_addOutline_179 (a1 : Nat) (a2 : Int32) (a3 : Int32) (a4 : Nat) (c_62 : Int32 → Int32 → Int32 → Mem → Option (Mem)) (y5 : Int32) (y6 : Int32) (y7 : Int32) (μ : Mem) : Option (Mem) :=
  Option.bind (m_Fl_addPiece 12 ((0 : Int32)) (a4) μ) fun r18 =>
  ap ((y7) + ((m_Ma_max ((1 : Int32)) (gI r18 1 (0) 6) r18))) fun x19 =>
  c_62 (y5) (y6) (x19) r18
theorem tj_Fl_addOutline_179 (a1 : Nat) (a2 : Int32) (a3 : Int32) (a4 : Nat) {q : Mem} {c_62 : Int32 → Int32 → Int32 → Mem → Option (Mem)} (hc_62 : ∀ (y5 : Int32) (y6 : Int32) (y7 : Int32) (μ : Mem), c_62 y5 y6 y7 μ = some q → J (GM true (QQ none q) none y_Fl_addOutline.name) true b_Fl_addOutline R_1 10 (24) 0 0 62 [(0, vr 1 (0)), (1, vr 10 (a1)), (4, vr 7 (a4)), (5, vi (y5)), (6, vi (y6)), (7, vi (y7))] [] μ) (y5 : Int32) (y6 : Int32) (y7 : Int32) (μ : Mem) (h : mj_Fl_addOutline_179 a1 a2 a3 a4 c_62 y5 y6 y7 μ = some q) : J (GM true (QQ none q) none y_Fl_addOutline.name) true b_Fl_addOutline R_1 10 (24) 0 0 179 [(0, vr 1 (0)), (1, vr 10 (a1)), (4, vr 7 (a4)), (5, vi (y5)), (6, vi (y6)), (7, vi (y7))] [] μ := by
  unfold mj_Fl_addOutline_179 at h
  refine J_aload_n (q := 180) 0 d_Fl_addOutline_179 rfl rfl rfl ?_
  refine J_iconst (q := 181) (v := (0 : Int32)) d_Fl_addOutline_180 (by decide) rfl ?_
  refine J_aload (q := 183) 2 d_Fl_addOutline_181 rfl rfl ?_
  obtain ⟨r18, hr18, h⟩ := bd_some h
  refine J_callVv (rc := 0) (rs := 0) (q := 186) (as := [vi ((0 : Int32)), vr 7 (a4)]) (st := []) (by decide) rfl g_658 sel_Fl_addPiece (t_Fl_addPiece 12 _ _ _ _ hr18) (by omega) (by decide) g_656 g_659 g_2 hy_Fl_addPiece rfl (Nat.le_of_ble_eq_true rfl) d_Fl_addOutline_183 rfl ?_
  refine J_iload (q := 188) 5 d_Fl_addOutline_186 rfl rfl ?_
  refine J_iconst (q := 189) (v := (1 : Int32)) d_Fl_addOutline_188 (by decide) rfl ?_
  refine J_aload_n (q := 190) 0 d_Fl_addOutline_189 rfl rfl rfl ?_
  refine J_getI (q := 193) (j := 6) cd_1 (by decide) (Or.inl rfl) g_41 rfl d_Fl_addOutline_190 rfl ?_
  refine J_callSq (rc := 0) (rs := 0) (q := 196) (as := [vi ((1 : Int32)), vi (gI r18 1 (0) 6)]) (st := [vi (y7)]) g_561 (t_Ma_max rfl) (by decide) (by decide) g_682 g_562 g_15 hy_Ma_max rfl (Nat.le_of_ble_eq_true rfl) d_Fl_addOutline_193 rfl ?_
  refine J_iadd (q := 197) d_Fl_addOutline_196 rfl ?_
  obtain ⟨x19, hx19, h⟩ := ap_eq h
  refine J_nmI hx19 ?_
  refine J_istore (q := 199) (lv' := [(7, vi (x19)), (0, vr 1 (0)), (1, vr 10 (a1)), (4, vr 7 (a4)), (5, vi (y5)), (6, vi (y6))]) d_Fl_addOutline_197 (by decide) rfl rfl ?_
  refine J_goto (q := 62) d_Fl_addOutline_199 (by decide) ?_
  refine J_pick [1, 2, 3, 4, 5, 0] rfl ?_
  exact hc_62 _ _ _ _ h
def mj_Fl_addOutline_102 (a1 : Nat) (a2 : Int32) (a3 : Int32) (a4 : Nat) (c_62 : Int32 → Int32 → Int32 → Mem → Option (Mem)) (y5 : Int32) (y6 : Int32) (y7 : Int32) (z0 : Int32) (μ : Mem) : Option (Mem) :=
  ap (sI μ 1 (0) 6 (z0)) fun μ10 =>
  lp_Fl_addOutline_108 a1 a2 a3 a4 (mj_Fl_addOutline_179 a1 a2 a3 a4 c_62) FU (y5) (y6) (y7) ((0 : Int32)) μ10
theorem tj_Fl_addOutline_102 (a1 : Nat) (a2 : Int32) (a3 : Int32) (a4 : Nat) {q : Mem} {c_62 : Int32 → Int32 → Int32 → Mem → Option (Mem)} (hc_62 : ∀ (y5 : Int32) (y6 : Int32) (y7 : Int32) (μ : Mem), c_62 y5 y6 y7 μ = some q → J (GM true (QQ none q) none y_Fl_addOutline.name) true b_Fl_addOutline R_1 10 (24) 0 0 62 [(0, vr 1 (0)), (1, vr 10 (a1)), (4, vr 7 (a4)), (5, vi (y5)), (6, vi (y6)), (7, vi (y7))] [] μ) (y5 : Int32) (y6 : Int32) (y7 : Int32) (z0 : Int32) (μ : Mem) (h : mj_Fl_addOutline_102 a1 a2 a3 a4 c_62 y5 y6 y7 z0 μ = some q) : J (GM true (QQ none q) none y_Fl_addOutline.name) true b_Fl_addOutline R_1 10 (24) 0 0 102 [(0, vr 1 (0)), (1, vr 10 (a1)), (4, vr 7 (a4)), (5, vi (y5)), (6, vi (y6)), (7, vi (y7))] [vi (z0), vr 1 (0)] μ := by
  unfold mj_Fl_addOutline_102 at h
  refine J_putI (q := 105) (j := 6) cd_1 (by decide) rfl rfl rfl g_41 rfl d_Fl_addOutline_102 rfl ?_
  obtain ⟨μ10, hμ10, h⟩ := ap_eq h
  refine J_nmM hμ10 ?_
  refine J_iconst (q := 106) (v := (0 : Int32)) d_Fl_addOutline_105 (by decide) rfl ?_
  refine J_istore (q := 108) (lv' := [(8, vi ((0 : Int32))), (0, vr 1 (0)), (1, vr 10 (a1)), (4, vr 7 (a4)), (5, vi (y5)), (6, vi (y6)), (7, vi (y7))]) d_Fl_addOutline_106 (by decide) rfl rfl ?_
  refine J_pick [1, 2, 3, 4, 5, 6, 0] rfl ?_
  exact tl_Fl_addOutline_108 a1 a2 a3 a4 (fun _ _ _ _ h => tj_Fl_addOutline_179 a1 a2 a3 a4 hc_62 _ _ _ _ h) FU _ _ _ _ _ h
def lp_Fl_addOutline_62 (a1 : Nat) (a2 : Int32) (a3 : Int32) (a4 : Nat) (c_202 : Mem → Option (Mem)) : Nat → Int32 → Int32 → Int32 → Mem → Option (Mem)
  | 0, _, _, _, _ => none
  | n + 1, y5, y6, y7, μ =>
  if y6 ≤ y7 then
 (c_202 μ)
 else
 (if gI μ 7 (a4) 5 = 0 then
 (c_202 μ)
 else
 (if y6 ≤ y7 + (1 : Int32) then
 (mj_Fl_addOutline_102 a1 a2 a3 a4 (lp_Fl_addOutline_62 a1 a2 a3 a4 c_202 n) (y5) (y6) (y7) ((1 : Int32)) μ)
 else
 (gu (y7 + (1 : Int32)) 100 <|
  mj_Fl_addOutline_102 a1 a2 a3 a4 (lp_Fl_addOutline_62 a1 a2 a3 a4 c_202 n) (y5) (y6) (y7) ((gI μ 302 (a1) (y7 + (1 : Int32)).toNatClampNeg) + ((1 : Int32))) μ)))
theorem tl_Fl_addOutline_62 (a1 : Nat) (a2 : Int32) (a3 : Int32) (a4 : Nat) {q : Mem} {c_202 : Mem → Option (Mem)} (hc_202 : ∀ (μ : Mem), c_202  μ = some q → J (GM true (QQ none q) none y_Fl_addOutline.name) true b_Fl_addOutline R_1 10 (24) 0 0 202 [(4, vr 7 (a4))] [] μ) : ∀ (n : Nat) (y5 : Int32) (y6 : Int32) (y7 : Int32) (μ : Mem), lp_Fl_addOutline_62 a1 a2 a3 a4 c_202 n y5 y6 y7 μ = some q → J (GM true (QQ none q) none y_Fl_addOutline.name) true b_Fl_addOutline R_1 10 (24) 0 0 62 [(0, vr 1 (0)), (1, vr 10 (a1)), (4, vr 7 (a4)), (5, vi (y5)), (6, vi (y6)), (7, vi (y7))] [] μ := by
  intro n
  induction n with
  | zero => intro _ _ _ _ h; cases h
  | succ n ih =>
    intro y5 y6 y7 μ h
    unfold lp_Fl_addOutline_62 at h
    refine J_iload (q := 64) 5 d_Fl_addOutline_62 rfl rfl ?_
    refine J_iload (q := 66) 4 d_Fl_addOutline_64 rfl rfl ?_
    refine J_icmp_ge (q := 69) (tgt := 202) d_Fl_addOutline_66 (by decide) rfl (fun hc => ?_) (fun hc => ?_)
    · rw [if_pos hc] at h
      refine J_pick [2] rfl ?_
      exact hc_202 _ h
    · rw [if_neg hc] at h
      refine J_aload (q := 71) 2 d_Fl_addOutline_69 rfl rfl ?_
      refine J_getI (q := 74) (j := 5) cd_7 (by decide) (Or.inr rfl) g_78 rfl d_Fl_addOutline_71 rfl ?_
      refine J_if_eq (q := 77) (tgt := 202) d_Fl_addOutline_74 (by decide) rfl (fun hc => ?_) (fun hc => ?_)
      · rw [if_pos hc] at h
        refine J_pick [2] rfl ?_
        exact hc_202 _ h
      · rw [if_neg hc] at h
        refine J_aload_n (q := 78) 0 d_Fl_addOutline_77 rfl rfl rfl ?_
        refine J_iload (q := 80) 5 d_Fl_addOutline_78 rfl rfl ?_
        refine J_iconst (q := 81) (v := (1 : Int32)) d_Fl_addOutline_80 (by decide) rfl ?_
        refine J_iadd (q := 82) d_Fl_addOutline_81 rfl ?_
        refine J_iload (q := 84) 4 d_Fl_addOutline_82 rfl rfl ?_
        refine J_icmp_ge (q := 87) (tgt := 101) d_Fl_addOutline_84 (by decide) rfl (fun hc => ?_) (fun hc => ?_)
        · rw [if_pos hc] at h
          refine J_iconst (q := 102) (v := (1 : Int32)) d_Fl_addOutline_101 (by decide) rfl ?_
          refine J_pick [0, 1, 2, 3, 4, 5] rfl ?_
          exact tj_Fl_addOutline_102 a1 a2 a3 a4 ih _ _ _ _ _ h
        · rw [if_neg hc] at h
          refine J_aload_n (q := 88) 1 d_Fl_addOutline_87 rfl rfl rfl ?_
          refine J_getF (q := 91) cd_10 (by decide) ft_10_2 rfl g_331 rfl d_Fl_addOutline_88 rfl ?_
          refine J_iload (q := 93) 5 d_Fl_addOutline_91 rfl rfl ?_
          refine J_iconst (q := 94) (v := (1 : Int32)) d_Fl_addOutline_93 (by decide) rfl ?_
          refine J_iadd (q := 95) d_Fl_addOutline_94 rfl ?_
          obtain ⟨hi21, h⟩ := gu_some h
          refine J_iald (q := 96) rk_302 (by decide) hi21 d_Fl_addOutline_95 rfl ?_
          refine J_iconst (q := 97) (v := (1 : Int32)) d_Fl_addOutline_96 (by decide) rfl ?_
          refine J_iadd (q := 98) d_Fl_addOutline_97 rfl ?_
          refine J_goto (q := 102) d_Fl_addOutline_98 (by decide) ?_
          refine J_pick [0, 1, 2, 3, 4, 5] rfl ?_
          exact tj_Fl_addOutline_102 a1 a2 a3 a4 ih _ _ _ _ _ h
def mj_Fl_addOutline_202 (a1 : Nat) (a2 : Int32) (a3 : Int32) (a4 : Nat) (μ : Mem) : Option (Mem) :=
  Option.bind (m_Po_finish (a4) μ) fun r22 =>
  some r22
theorem tj_Fl_addOutline_202 (a1 : Nat) (a2 : Int32) (a3 : Int32) (a4 : Nat) {q : Mem}  (μ : Mem) (h : mj_Fl_addOutline_202 a1 a2 a3 a4  μ = some q) : J (GM true (QQ none q) none y_Fl_addOutline.name) true b_Fl_addOutline R_1 10 (24) 0 0 202 [(4, vr 7 (a4))] [] μ := by
  unfold mj_Fl_addOutline_202 at h
  refine J_aload (q := 204) 0 d_Fl_addOutline_202 rfl rfl ?_
  obtain ⟨r22, hr22, h⟩ := bd_some h
  refine J_callVv (rc := 0) (rs := 0) (q := 207) (as := []) (st := []) (by decide) rfl g_684 g_685 (t_Po_finish hr22) (by decide) (by decide) g_683 g_686 g_3 hy_Po_finish rfl (Nat.le_of_ble_eq_true rfl) d_Fl_addOutline_204 rfl ?_
  obtain rfl := Option.some.inj h
  exact J_vret rfl ⟨rfl, rfl⟩ d_Fl_addOutline_207
def mj_Fl_addOutline_39 (a1 : Nat) (a2 : Int32) (a3 : Int32) (a4 : Nat) (y5 : Int32) (y6 : Int32) (μ : Mem) : Option (Mem) :=
  gu (y5) 100 <|
  gu (y5) 100 <|
  Option.bind (m_Po_add (a4) (gL μ 122 (0) y5.toNatClampNeg) (gL μ 123 (0) y5.toNatClampNeg) μ) fun r9 =>
  lp_Fl_addOutline_62 a1 a2 a3 a4 (mj_Fl_addOutline_202 a1 a2 a3 a4) FU (y5) (y6) (y5) r9
theorem tj_Fl_addOutline_39 (a1 : Nat) (a2 : Int32) (a3 : Int32) (a4 : Nat) {q : Mem}  (y5 : Int32) (y6 : Int32) (μ : Mem) (h : mj_Fl_addOutline_39 a1 a2 a3 a4 y5 y6 μ = some q) : J (GM true (QQ none q) none y_Fl_addOutline.name) true b_Fl_addOutline R_1 10 (24) 0 0 39 [(0, vr 1 (0)), (1, vr 10 (a1)), (4, vr 7 (a4)), (5, vi (y5)), (6, vi (y6))] [] μ := by
  unfold mj_Fl_addOutline_39 at h
  refine J_aload (q := 41) 2 d_Fl_addOutline_39 rfl rfl ?_
  refine J_aload_n (q := 42) 0 d_Fl_addOutline_41 rfl rfl rfl ?_
  refine J_getF (q := 45) cd_1 (by decide) ft_1_2 rfl g_37 rfl d_Fl_addOutline_42 rfl ?_
  refine J_iload (q := 47) 3 d_Fl_addOutline_45 rfl rfl ?_
  obtain ⟨hi7, h⟩ := gu_some h
  refine J_lald (q := 48) rk_122 (by decide) hi7 d_Fl_addOutline_47 rfl ?_
  refine J_aload_n (q := 49) 0 d_Fl_addOutline_48 rfl rfl rfl ?_
  refine J_getF (q := 52) cd_1 (by decide) ft_1_3 rfl g_38 rfl d_Fl_addOutline_49 rfl ?_
  refine J_iload (q := 54) 3 d_Fl_addOutline_52 rfl rfl ?_
  obtain ⟨hi8, h⟩ := gu_some h
  refine J_lald (q := 55) rk_123 (by decide) hi8 d_Fl_addOutline_54 rfl ?_
  obtain ⟨r9, hr9, h⟩ := bd_some h
  refine J_callVv (rc := 0) (rs := 0) (q := 58) (as := [vl (gL μ 122 (0) y5.toNatClampNeg), vl (gL μ 123 (0) y5.toNatClampNeg)]) (st := []) (by decide) rfl g_643 g_644 (t_Po_add hr9) (by decide) (by decide) g_642 g_645 g_3 hy_Po_add rfl (Nat.le_of_ble_eq_true rfl) d_Fl_addOutline_55 rfl ?_
  refine J_iload (q := 60) 3 d_Fl_addOutline_58 rfl rfl ?_
  refine J_istore (q := 62) (lv' := [(7, vi (y5)), (0, vr 1 (0)), (1, vr 10 (a1)), (4, vr 7 (a4)), (5, vi (y5)), (6, vi (y6))]) d_Fl_addOutline_60 (by decide) rfl rfl ?_
  refine J_pick [1, 2, 3, 4, 5, 0] rfl ?_
  exact tl_Fl_addOutline_62 a1 a2 a3 a4 (fun _ h => tj_Fl_addOutline_202 a1 a2 a3 a4 _ h) FU _ _ _ _ h
def m_Fl_addOutline (a1 : Nat) (a2 : Int32) (a3 : Int32) (a4 : Nat) (μ : Mem) : Option (Mem) :=
  Option.bind (m_Sh_startOf (a1) (a2) μ) fun r1 =>
  Option.bind (m_Sh_endOf (a1) (a2) μ) fun r2 =>
  lp_Fl_addOutline_18 a1 a2 a3 a4 (mj_Fl_addOutline_39 a1 a2 a3 a4) FU (r1) (r2) (r1) μ
theorem t_Fl_addOutline {a1 : Nat} {a2 : Int32} {a3 : Int32} {a4 : Nat} {μ : Mem} {q : Mem} (h : m_Fl_addOutline a1 a2 a3 a4 μ = some q) : JM true (24) y_Fl_addOutline b_Fl_addOutline 10 none 0 0 [vr 1 (0), vr 10 (a1), vi (a2), vi (a3), vr 7 (a4)] μ (QQ none q) := by
  unfold m_Fl_addOutline at h
  refine JM.of pl_Fl_addOutline (fun ρ => Nat.le_of_ble_eq_true rfl) ?_
  show J (GM true (QQ none q) none y_Fl_addOutline.name) true b_Fl_addOutline R_1 10 (24) 0 0 0 [(0, vr 1 (0)), (1, vr 10 (a1)), (2, vi (a2)), (3, vi (a3)), (4, vr 7 (a4))] [] μ
  refine J_aload_n (q := 1) 1 d_Fl_addOutline_0 rfl rfl rfl ?_
  refine J_iload_n (q := 2) 2 d_Fl_addOutline_1 rfl rfl rfl ?_
  obtain ⟨r1, hr1, h⟩ := bd_some h
  refine J_callVq (rc := 0) (rs := 0) (q := 5) (as := [vi (a2)]) (st := []) (by decide) rfl g_464 g_465 (t_Sh_startOf hr1) (by decide) (by decide) g_618 g_466 g_12 hy_Sh_startOf rfl (Nat.le_of_ble_eq_true rfl) d_Fl_addOutline_2 rfl ?_
  refine J_istore (q := 7) (lv' := [(5, vi (r1)), (0, vr 1 (0)), (1, vr 10 (a1)), (2, vi (a2)), (3, vi (a3)), (4, vr 7 (a4))]) d_Fl_addOutline_5 (by decide) rfl rfl ?_
  refine J_aload_n (q := 8) 2 d_Fl_addOutline_7 rfl rfl rfl ?_
  refine J_iload_n (q := 9) 3 d_Fl_addOutline_8 rfl rfl rfl ?_
  obtain ⟨r2, hr2, h⟩ := bd_some h
  refine J_callVq (rc := 0) (rs := 0) (q := 12) (as := [vi (a2)]) (st := []) (by decide) rfl g_513 g_514 (t_Sh_endOf hr2) (by decide) (by decide) g_619 g_515 g_12 hy_Sh_endOf rfl (Nat.le_of_ble_eq_true rfl) d_Fl_addOutline_9 rfl ?_
  refine J_istore (q := 14) (lv' := [(6, vi (r2)), (5, vi (r1)), (0, vr 1 (0)), (1, vr 10 (a1)), (2, vi (a2)), (3, vi (a3)), (4, vr 7 (a4))]) d_Fl_addOutline_12 (by decide) rfl rfl ?_
  refine J_iload (q := 16) 1 d_Fl_addOutline_14 rfl rfl ?_
  refine J_istore (q := 18) (lv' := [(7, vi (r1)), (6, vi (r2)), (5, vi (r1)), (0, vr 1 (0)), (1, vr 10 (a1)), (2, vi (a2)), (3, vi (a3)), (4, vr 7 (a4))]) d_Fl_addOutline_16 (by decide) rfl rfl ?_
  refine J_pick [3, 4, 6, 7, 2, 1, 0] rfl ?_
  exact tl_Fl_addOutline_18 a1 a2 a3 a4 (fun _ _ _ h => tj_Fl_addOutline_39 a1 a2 a3 a4 _ _ _ h) FU _ _ _ _ h
def lp_Fl_addLetter_3 (f : Nat) (sf : Nat → Int32 → Nat → Mem → Option (Mem)) (a1 : Nat) (a2 : Int32) (a3 : Nat) (c_40 : Mem → Option (Mem)) : Nat → Int32 → Mem → Option (Mem)
  | 0, _, _ => none
  | n + 1, y4, μ =>
  if gI μ 10 (a1) 6 ≤ y4 then
 (c_40 μ)
 else
 (if gI μ 7 (a3) 5 = 0 then
 (c_40 μ)
 else
 (Option.bind (m_Fl_addOutline (a1) (y4) (a2) (a3) μ) fun r3 =>
  ap (y4 + (1 : Int32)) fun x4 =>
  lp_Fl_addLetter_3 f sf a1 a2 a3 c_40 n (x4) r3))
theorem tl_Fl_addLetter_3 (f : Nat) (sf : Nat → Int32 → Nat → Mem → Option (Mem)) (a1 : Nat) (a2 : Int32) (a3 : Nat) (hsf : ∀ (a1 : Nat) (a2 : Int32) (a3 : Nat) (μ : Mem) (q : Mem), sf a1 a2 a3 μ = some q → JM true (f + 25) y_Fl_addLetter b_Fl_addLetter 6 none 0 0 [vr 1 (0), vr 4 (a1), vi (a2), vr 7 (a3)] μ (QQ none q)) {q : Mem} {c_40 : Mem → Option (Mem)} (hc_40 : ∀ (μ : Mem), c_40  μ = some q → J (GM true (QQ none q) none y_Fl_addLetter.name) true b_Fl_addLetter R_1 6 (f + 1 + 25) 0 0 40 [(0, vr 1 (0)), (1, vr 4 (a1)), (2, vi (a2)), (3, vr 7 (a3))] [] μ) : ∀ (n : Nat) (y4 : Int32) (μ : Mem), lp_Fl_addLetter_3 f sf a1 a2 a3 c_40 n y4 μ = some q → J (GM true (QQ none q) none y_Fl_addLetter.name) true b_Fl_addLetter R_1 6 (f + 1 + 25) 0 0 3 [(0, vr 1 (0)), (1, vr 4 (a1)), (2, vi (a2)), (3, vr 7 (a3)), (4, vi (y4))] [] μ := by
  intro n
  induction n with
  | zero => intro _ _ h; cases h
  | succ n ih =>
    intro y4 μ h
    unfold lp_Fl_addLetter_3 at h
    refine J_iload (q := 5) 4 d_Fl_addLetter_3 rfl rfl ?_
    refine J_aload_n (q := 6) 1 d_Fl_addLetter_5 rfl rfl rfl ?_
    refine J_getF (q := 9) cd_4 (by decide) ft_4_2 rfl g_391 rfl d_Fl_addLetter_6 rfl ?_
    refine J_getI (q := 12) (j := 6) cd_10 (by decide) (Or.inl rfl) g_340 rfl d_Fl_addLetter_9 rfl ?_
    refine J_icmp_ge (q := 15) (tgt := 40) d_Fl_addLetter_12 (by decide) rfl (fun hc => ?_) (fun hc => ?_)
    · rw [if_pos hc] at h
      refine J_pick [0, 1, 2, 3] rfl ?_
      exact hc_40 _ h
    · rw [if_neg hc] at h
      refine J_aload_n (q := 16) 3 d_Fl_addLetter_15 rfl rfl rfl ?_
      refine J_getI (q := 19) (j := 5) cd_7 (by decide) (Or.inr rfl) g_78 rfl d_Fl_addLetter_16 rfl ?_
      refine J_if_eq (q := 22) (tgt := 40) d_Fl_addLetter_19 (by decide) rfl (fun hc => ?_) (fun hc => ?_)
      · rw [if_pos hc] at h
        refine J_pick [0, 1, 2, 3] rfl ?_
        exact hc_40 _ h
      · rw [if_neg hc] at h
        refine J_aload_n (q := 23) 0 d_Fl_addLetter_22 rfl rfl rfl ?_
        refine J_aload_n (q := 24) 1 d_Fl_addLetter_23 rfl rfl rfl ?_
        refine J_getF (q := 27) cd_4 (by decide) ft_4_2 rfl g_391 rfl d_Fl_addLetter_24 rfl ?_
        refine J_iload (q := 29) 4 d_Fl_addLetter_27 rfl rfl ?_
        refine J_iload_n (q := 30) 2 d_Fl_addLetter_29 rfl rfl rfl ?_
        refine J_aload_n (q := 31) 3 d_Fl_addLetter_30 rfl rfl rfl ?_
        obtain ⟨r3, hr3, h⟩ := bd_some h
        refine J_callVv (rc := 0) (rs := 0) (q := 34) (as := [vr 10 (a1), vi (y4), vi (a2), vr 7 (a3)]) (st := []) (by decide) rfl g_616 sel_Fl_addOutline (t_Fl_addOutline hr3) (by omega) (by decide) g_614 g_617 g_2 hy_Fl_addOutline rfl (Nat.le_of_ble_eq_true rfl) d_Fl_addLetter_31 rfl ?_
        obtain ⟨x4, hx4, h⟩ := ap_eq h
        refine J_iinc (q := 37) (v := x4) (lv' := [(4, vi (x4)), (0, vr 1 (0)), (1, vr 4 (a1)), (2, vi (a2)), (3, vr 7 (a3))]) 4 d_Fl_addLetter_34 rfl (by rw [hx4]; rfl) (by decide) rfl rfl ?_
        refine J_goto (q := 3) d_Fl_addLetter_37 (by decide) ?_
        refine J_pick [1, 2, 3, 4, 0] rfl ?_
        exact ih _ _ h
def mj_Fl_addLetter_100 (f : Nat) (sf : Nat → Int32 → Nat → Mem → Option (Mem)) (a1 : Nat) (a2 : Int32) (a3 : Nat) (c_49 : Int32 → Mem → Option (Mem)) (y4 : Int32) (μ : Mem) : Option (Mem) :=
  ap (y4 + (1 : Int32)) fun x8 =>
  c_49 (x8) μ
theorem tj_Fl_addLetter_100 (f : Nat) (sf : Nat → Int32 → Nat → Mem → Option (Mem)) (a1 : Nat) (a2 : Int32) (a3 : Nat) (hsf : ∀ (a1 : Nat) (a2 : Int32) (a3 : Nat) (μ : Mem) (q : Mem), sf a1 a2 a3 μ = some q → JM true (f + 25) y_Fl_addLetter b_Fl_addLetter 6 none 0 0 [vr 1 (0), vr 4 (a1), vi (a2), vr 7 (a3)] μ (QQ none q)) {q : Mem} {c_49 : Int32 → Mem → Option (Mem)} (hc_49 : ∀ (y4 : Int32) (μ : Mem), c_49 y4 μ = some q → J (GM true (QQ none q) none y_Fl_addLetter.name) true b_Fl_addLetter R_1 6 (f + 1 + 25) 0 0 49 [(0, vr 1 (0)), (1, vr 4 (a1)), (2, vi (a2)), (3, vr 7 (a3)), (4, vi (y4))] [] μ) (y4 : Int32) (μ : Mem) (h : mj_Fl_addLetter_100 f sf a1 a2 a3 c_49 y4 μ = some q) : J (GM true (QQ none q) none y_Fl_addLetter.name) true b_Fl_addLetter R_1 6 (f + 1 + 25) 0 0 100 [(0, vr 1 (0)), (1, vr 4 (a1)), (2, vi (a2)), (3, vr 7 (a3)), (4, vi (y4))] [] μ := by
  unfold mj_Fl_addLetter_100 at h
  obtain ⟨x8, hx8, h⟩ := ap_eq h
  refine J_iinc (q := 103) (v := x8) (lv' := [(4, vi (x8)), (0, vr 1 (0)), (1, vr 4 (a1)), (2, vi (a2)), (3, vr 7 (a3))]) 4 d_Fl_addLetter_100 rfl (by rw [hx8]; rfl) (by decide) rfl rfl ?_
  refine J_goto (q := 49) d_Fl_addLetter_103 (by decide) ?_
  refine J_pick [1, 2, 3, 4, 0] rfl ?_
  exact hc_49 _ _ h
def lp_Fl_addLetter_49 (f : Nat) (sf : Nat → Int32 → Nat → Mem → Option (Mem)) (a1 : Nat) (a2 : Int32) (a3 : Nat) : Nat → Int32 → Mem → Option (Mem)
  | 0, _, _ => none
  | n + 1, y4, μ =>
  if gI μ 4 (a1) 5 ≤ y4 then
 (some μ)
 else
 (if gI μ 7 (a3) 5 = 0 then
 (some μ)
 else
 (gu (y4) 6 <|
  ap (gR μ 184 (a1) y4.toNatClampNeg) fun o15 =>
  oc o15
 (mj_Fl_addLetter_100 f sf a1 a2 a3 (lp_Fl_addLetter_49 f sf a1 a2 a3 n) (y4) μ)
 fun y16 => gu (a2) 4 <|
  ap (sR μ 124 (0) a2.toNatClampNeg (some (y16))) fun μ18 =>
  ap (gR μ18 6 (y16) 0) fun o19 =>
  Option.bind o19 fun y20 =>
  Option.bind (sf (y20) (a2 + (1 : Int32)) (a3) μ18) fun r21 =>
  mj_Fl_addLetter_100 f sf a1 a2 a3 (lp_Fl_addLetter_49 f sf a1 a2 a3 n) (y4) r21))
theorem tl_Fl_addLetter_49 (f : Nat) (sf : Nat → Int32 → Nat → Mem → Option (Mem)) (a1 : Nat) (a2 : Int32) (a3 : Nat) (hsf : ∀ (a1 : Nat) (a2 : Int32) (a3 : Nat) (μ : Mem) (q : Mem), sf a1 a2 a3 μ = some q → JM true (f + 25) y_Fl_addLetter b_Fl_addLetter 6 none 0 0 [vr 1 (0), vr 4 (a1), vi (a2), vr 7 (a3)] μ (QQ none q)) {q : Mem}  : ∀ (n : Nat) (y4 : Int32) (μ : Mem), lp_Fl_addLetter_49 f sf a1 a2 a3 n y4 μ = some q → J (GM true (QQ none q) none y_Fl_addLetter.name) true b_Fl_addLetter R_1 6 (f + 1 + 25) 0 0 49 [(0, vr 1 (0)), (1, vr 4 (a1)), (2, vi (a2)), (3, vr 7 (a3)), (4, vi (y4))] [] μ := by
  intro n
  induction n with
  | zero => intro _ _ h; cases h
  | succ n ih =>
    intro y4 μ h
    unfold lp_Fl_addLetter_49 at h
    refine J_iload (q := 51) 4 d_Fl_addLetter_49 rfl rfl ?_
    refine J_aload_n (q := 52) 1 d_Fl_addLetter_51 rfl rfl rfl ?_
    refine J_getI (q := 55) (j := 5) cd_4 (by decide) (Or.inl rfl) g_398 rfl d_Fl_addLetter_52 rfl ?_
    refine J_icmp_ge (q := 58) (tgt := 106) d_Fl_addLetter_55 (by decide) rfl (fun hc => ?_) (fun hc => ?_)
    · rw [if_pos hc] at h
      obtain rfl := Option.some.inj h
      exact J_vret rfl ⟨rfl, rfl⟩ d_Fl_addLetter_106
    · rw [if_neg hc] at h
      refine J_aload_n (q := 59) 3 d_Fl_addLetter_58 rfl rfl rfl ?_
      refine J_getI (q := 62) (j := 5) cd_7 (by decide) (Or.inr rfl) g_78 rfl d_Fl_addLetter_59 rfl ?_
      refine J_if_eq (q := 65) (tgt := 106) d_Fl_addLetter_62 (by decide) rfl (fun hc => ?_) (fun hc => ?_)
      · rw [if_pos hc] at h
        obtain rfl := Option.some.inj h
        exact J_vret rfl ⟨rfl, rfl⟩ d_Fl_addLetter_106
      · rw [if_neg hc] at h
        refine J_aload_n (q := 66) 1 d_Fl_addLetter_65 rfl rfl rfl ?_
        refine J_getF (q := 69) cd_4 (by decide) ft_4_4 rfl g_396 rfl d_Fl_addLetter_66 rfl ?_
        refine J_iload (q := 71) 4 d_Fl_addLetter_69 rfl rfl ?_
        obtain ⟨hi14, h⟩ := gu_some h
        refine J_ald5 (q := 72) rk_184 (by decide) hi14 d_Fl_addLetter_71 rfl ?_
        obtain ⟨o15, ho15, h⟩ := ap_eq h
        refine J_nmO ho15 ?_
        refine J_astore (q := 74) (lv' := [(5, vo 6 (o15)), (0, vr 1 (0)), (1, vr 4 (a1)), (2, vi (a2)), (3, vr 7 (a3)), (4, vi (y4))]) d_Fl_addLetter_72 (by decide) rfl rfl ?_
        refine J_aload (q := 76) 0 d_Fl_addLetter_74 rfl rfl ?_
        refine J_nullO (q := 79) (tgt := 100) d_Fl_addLetter_76 (by decide) rfl (fun ho => ?_) (fun y16 ho => ?_)
        · subst ho
          rw [oc_none] at h
          refine J_pick [1, 2, 3, 4, 5] rfl ?_
          exact tj_Fl_addLetter_100 f sf a1 a2 a3 hsf ih _ _ h
        · subst ho
          rw [oc_some] at h
          refine J_aload_n (q := 80) 1 d_Fl_addLetter_79 rfl rfl rfl ?_
          refine J_getF (q := 83) cd_1 (by decide) ft_1_4 rfl g_39 rfl d_Fl_addLetter_80 rfl ?_
          refine J_iload_n (q := 84) 3 d_Fl_addLetter_83 rfl rfl rfl ?_
          refine J_aload (q := 86) 0 d_Fl_addLetter_84 rfl rfl ?_
          obtain ⟨hi17, h⟩ := gu_some h
          refine J_ast5 (q := 87) (by decide) rfl rk_124 (by decide) hi17 d_Fl_addLetter_86 rfl ?_
          obtain ⟨μ18, hμ18, h⟩ := ap_eq h
          refine J_nmM hμ18 ?_
          refine J_aload_n (q := 88) 1 d_Fl_addLetter_87 rfl rfl rfl ?_
          refine J_aload (q := 90) 0 d_Fl_addLetter_88 rfl rfl ?_
          refine J_getR (q := 93) cd_6 (by decide) ft_6_0 g_538 rfl d_Fl_addLetter_90 rfl ?_
          obtain ⟨o19, ho19, h⟩ := ap_eq h
          refine J_nmO ho19 ?_
          refine J_iload_n (q := 94) 3 d_Fl_addLetter_93 rfl rfl rfl ?_
          refine J_iconst (q := 95) (v := (1 : Int32)) d_Fl_addLetter_94 (by decide) rfl ?_
          refine J_iadd (q := 96) d_Fl_addLetter_95 rfl ?_
          refine J_aload_n (q := 97) 4 d_Fl_addLetter_96 rfl rfl rfl ?_
          replace h := bd_some h
          obtain ⟨y20, hy20, h⟩ := h
          subst hy20
          obtain ⟨r21, hr21, h⟩ := bd_some h
          refine J_callVv (rc := 0) (rs := 0) (q := 100) (as := [vr 4 (y20), vi (a2 + (1 : Int32)), vr 7 (a3)]) (st := []) (by decide) rfl g_612 sel_Fl_addLetter (hsf (y20) (a2 + (1 : Int32)) (a3) μ18 _ hr21) (by omega) (by decide) g_610 g_613 g_2 hy_Fl_addLetter rfl (Nat.le_of_ble_eq_true rfl) d_Fl_addLetter_97 rfl ?_
          refine J_pick [1, 2, 3, 4, 5] rfl ?_
          exact tj_Fl_addLetter_100 f sf a1 a2 a3 hsf ih _ _ h
def mj_Fl_addLetter_40 (f : Nat) (sf : Nat → Int32 → Nat → Mem → Option (Mem)) (a1 : Nat) (a2 : Int32) (a3 : Nat) (μ : Mem) : Option (Mem) :=
  if a2 < (4 : Int32) then
 (lp_Fl_addLetter_49 f sf a1 a2 a3 FU ((0 : Int32)) μ)
 else
 (some μ)
theorem tj_Fl_addLetter_40 (f : Nat) (sf : Nat → Int32 → Nat → Mem → Option (Mem)) (a1 : Nat) (a2 : Int32) (a3 : Nat) (hsf : ∀ (a1 : Nat) (a2 : Int32) (a3 : Nat) (μ : Mem) (q : Mem), sf a1 a2 a3 μ = some q → JM true (f + 25) y_Fl_addLetter b_Fl_addLetter 6 none 0 0 [vr 1 (0), vr 4 (a1), vi (a2), vr 7 (a3)] μ (QQ none q)) {q : Mem}  (μ : Mem) (h : mj_Fl_addLetter_40 f sf a1 a2 a3  μ = some q) : J (GM true (QQ none q) none y_Fl_addLetter.name) true b_Fl_addLetter R_1 6 (f + 1 + 25) 0 0 40 [(0, vr 1 (0)), (1, vr 4 (a1)), (2, vi (a2)), (3, vr 7 (a3))] [] μ := by
  unfold mj_Fl_addLetter_40 at h
  refine J_iload_n (q := 41) 2 d_Fl_addLetter_40 rfl rfl rfl ?_
  refine J_iconst (q := 42) (v := (4 : Int32)) d_Fl_addLetter_41 (by decide) rfl ?_
  refine J_icmp_lt (q := 45) (tgt := 46) d_Fl_addLetter_42 (by decide) rfl (fun hc => ?_) (fun hc => ?_)
  · rw [if_pos hc] at h
    refine J_iconst (q := 47) (v := (0 : Int32)) d_Fl_addLetter_46 (by decide) rfl ?_
    refine J_istore (q := 49) (lv' := [(4, vi ((0 : Int32))), (0, vr 1 (0)), (1, vr 4 (a1)), (2, vi (a2)), (3, vr 7 (a3))]) d_Fl_addLetter_47 (by decide) rfl rfl ?_
    refine J_pick [1, 2, 3, 4, 0] rfl ?_
    exact tl_Fl_addLetter_49 f sf a1 a2 a3 hsf FU _ _ h
  · rw [if_neg hc] at h
    obtain rfl := Option.some.inj h
    exact J_vret rfl ⟨rfl, rfl⟩ d_Fl_addLetter_45
def m_Fl_addLetter : Nat → Nat → Int32 → Nat → Mem → Option (Mem)
  | 0, _, _, _, _ => none
  | f + 1, a1, a2, a3, μ =>
  ap (m_Fl_addLetter f) fun sf =>
  lp_Fl_addLetter_3 f sf a1 a2 a3 (mj_Fl_addLetter_40 f sf a1 a2 a3) FU ((0 : Int32)) μ
theorem t_Fl_addLetter : ∀ (f : Nat) (a1 : Nat) (a2 : Int32) (a3 : Nat) (μ : Mem) (q : Mem), m_Fl_addLetter f a1 a2 a3 μ = some q → JM true (f + 25) y_Fl_addLetter b_Fl_addLetter 6 none 0 0 [vr 1 (0), vr 4 (a1), vi (a2), vr 7 (a3)] μ (QQ none q) := by
  intro f
  induction f with
  | zero => intro _ _ _ _ _ h; cases h
  | succ f ih =>
    intro a1 a2 a3 μ q h
    unfold m_Fl_addLetter at h
    obtain ⟨sf, hsf0, h⟩ := ap_eq h
    have hsf := ih
    rw [← hsf0] at hsf
    refine JM.of pl_Fl_addLetter (fun ρ => Nat.le_of_ble_eq_true rfl) ?_
    show J (GM true (QQ none q) none y_Fl_addLetter.name) true b_Fl_addLetter R_1 6 (f + 1 + 25) 0 0 0 [(0, vr 1 (0)), (1, vr 4 (a1)), (2, vi (a2)), (3, vr 7 (a3))] [] μ
    refine J_iconst (q := 1) (v := (0 : Int32)) d_Fl_addLetter_0 (by decide) rfl ?_
    refine J_istore (q := 3) (lv' := [(4, vi ((0 : Int32))), (0, vr 1 (0)), (1, vr 4 (a1)), (2, vi (a2)), (3, vr 7 (a3))]) d_Fl_addLetter_1 (by decide) rfl rfl ?_
    refine J_pick [1, 2, 3, 4, 0] rfl ?_
    exact tl_Fl_addLetter_3 f sf a1 a2 a3 hsf (fun _ h => tj_Fl_addLetter_40 f sf a1 a2 a3 hsf _ h) FU _ _ h
def m_Po_clear (o : Nat) (μ : Mem) : Mem :=
  ap (sI μ 7 (o) 4 ((0 : Int32))) fun μ1 =>
  ap (sI μ1 7 (o) 5 ((1 : Int32))) fun μ2 =>
  ap (sI μ2 7 (o) 6 ((0 : Int32))) fun μ3 =>
  ap (sI μ3 7 (o) 7 ((0 : Int32))) fun μ4 =>
  ap (sI μ4 7 (o) 8 ((0 : Int32))) fun μ5 =>
  μ5
theorem t_Po_clear {o : Nat} {μ : Mem} {q : Mem} (h : m_Po_clear o μ = q) : JM true (0) y_Po_clear b_Po_clear 1 none 0 0 [vr 7 (o)] μ (QQ none q) := by
  unfold m_Po_clear at h
  refine JM.of pl_Po_clear (fun ρ => Nat.le_of_ble_eq_true rfl) ?_
  show J (GM true (QQ none q) none y_Po_clear.name) true b_Po_clear R_7 1 (0) 0 0 0 [(0, vr 7 (o))] [] μ
  refine J_aload_n (q := 1) 0 d_Po_clear_0 rfl rfl rfl ?_
  refine J_iconst (q := 2) (v := (0 : Int32)) d_Po_clear_1 (by decide) rfl ?_
  refine J_putI (q := 5) (j := 4) cd_7 (by decide) rfl rfl rfl g_74 rfl d_Po_clear_2 rfl ?_
  obtain ⟨μ1, hμ1, h⟩ := ap_eq h
  refine J_nmM hμ1 ?_
  refine J_aload_n (q := 6) 0 d_Po_clear_5 rfl rfl rfl ?_
  refine J_iconst (q := 7) (v := (1 : Int32)) d_Po_clear_6 (by decide) rfl ?_
  refine J_putZ (q := 10) (j := 5) cd_7 (by decide) rfl rfl (Or.inr rfl) rfl g_77 rfl d_Po_clear_7 rfl ?_
  obtain ⟨μ2, hμ2, h⟩ := ap_eq h
  refine J_nmM hμ2 ?_
  refine J_aload_n (q := 11) 0 d_Po_clear_10 rfl rfl rfl ?_
  refine J_iconst (q := 12) (v := (0 : Int32)) d_Po_clear_11 (by decide) rfl ?_
  refine J_putI (q := 15) (j := 6) cd_7 (by decide) rfl rfl rfl g_79 rfl d_Po_clear_12 rfl ?_
  obtain ⟨μ3, hμ3, h⟩ := ap_eq h
  refine J_nmM hμ3 ?_
  refine J_aload_n (q := 16) 0 d_Po_clear_15 rfl rfl rfl ?_
  refine J_iconst (q := 17) (v := (0 : Int32)) d_Po_clear_16 (by decide) rfl ?_
  refine J_putI (q := 20) (j := 7) cd_7 (by decide) rfl rfl rfl g_80 rfl d_Po_clear_17 rfl ?_
  obtain ⟨μ4, hμ4, h⟩ := ap_eq h
  refine J_nmM hμ4 ?_
  refine J_aload_n (q := 21) 0 d_Po_clear_20 rfl rfl rfl ?_
  refine J_iconst (q := 22) (v := (0 : Int32)) d_Po_clear_21 (by decide) rfl ?_
  refine J_putI (q := 25) (j := 8) cd_7 (by decide) rfl rfl rfl g_81 rfl d_Po_clear_22 rfl ?_
  obtain ⟨μ5, hμ5, h⟩ := ap_eq h
  refine J_nmM hμ5 ?_
  subst h
  exact J_vret rfl ⟨rfl, rfl⟩ d_Po_clear_25
def m_Fl_fill (a1 : Option Nat) (a2 : Int32) (a3 : Nat) (μ : Mem) : Option (Bool × Mem) :=
  oc a1
 (some ((false, μ)))
 fun y1 => if (m_Fo_within ((a2).toInt64) ((1 : Int64)) ((256 : Int64)) μ) then
 (ap (sL μ 1 (0) 5 (((a2).toInt64) <<< (((30 : Int32)).toInt64 &&& 63))) fun μ2 =>
  ap (m_Po_clear (a3) μ2) fun r3 =>
  Option.bind (m_Fl_addLetter 6 (y1) ((0 : Int32)) (a3) r3) fun r4 =>
  Option.bind (zb (gI r4 7 (a3) 5)) fun B5 => some ((B5, r4)))
 else
 (some ((false, μ)))
theorem t_Fl_fill {a1 : Option Nat} {a2 : Int32} {a3 : Nat} {μ : Mem} {q : Bool × Mem} (h : m_Fl_fill a1 a2 a3 μ = some q) : JM true (46) y_Fl_fill b_Fl_fill 4 (some (.boolean)) 0 0 [vr 1 (0), vo 4 (a1), vi (a2), vr 7 (a3)] μ (QQ (some (vi (b2i q.1))) q.2) := by
  unfold m_Fl_fill at h
  refine JM.of pl_Fl_fill (fun ρ => by cases a1 <;> exact Nat.le_of_ble_eq_true rfl) ?_
  show J (GM true (QQ (some (vi (b2i q.1))) q.2) (some (.boolean)) y_Fl_fill.name) true b_Fl_fill R_1 4 (46) 0 0 0 [(0, vr 1 (0)), (1, vo 4 (a1)), (2, vi (a2)), (3, vr 7 (a3))] [] μ
  refine J_aload_n (q := 1) 1 d_Fl_fill_0 rfl rfl rfl ?_
  refine J_nullO (q := 4) (tgt := 16) d_Fl_fill_1 (by decide) rfl (fun ho => ?_) (fun y1 ho => ?_)
  · subst ho
    rw [oc_none] at h
    refine J_iconst (q := 17) (v := (0 : Int32)) d_Fl_fill_16 (by decide) rfl ?_
    obtain rfl := Option.some.inj h
    exact J_zret (Or.inl rfl) rfl ⟨rfl, rfl⟩ d_Fl_fill_17
  · subst ho
    rw [oc_some] at h
    refine J_iload_n (q := 5) 2 d_Fl_fill_4 rfl rfl rfl ?_
    refine J_i2l (q := 6) d_Fl_fill_5 rfl ?_
    refine J_lconst (q := 7) (v := (1 : Int64)) d_Fl_fill_6 (by decide) rfl ?_
    refine J_ldc2 (q := 10) d_Fl_fill_7 g_604 rfl ?_
    refine J_callSNq (rc := 0) (rs := 0) (q := 13) (as := [vl ((a2).toInt64), vl ((1 : Int64)), vl ((256 : Int64))]) (st := []) g_300 (t_Fo_within rfl) (by decide) (by decide) nn_10 g_301 g_1 hy_Fo_within rfl (Nat.le_of_ble_eq_true rfl) d_Fl_fill_10 rfl ?_
    refine J_ifB_ne (q := 16) (tgt := 18) d_Fl_fill_13 (by decide) rfl (fun hb => ?_) (fun hb => ?_)
    · rw [iB_t hb] at h
      refine J_aload_n (q := 19) 0 d_Fl_fill_18 rfl rfl rfl ?_
      refine J_iload_n (q := 20) 2 d_Fl_fill_19 rfl rfl rfl ?_
      refine J_i2l (q := 21) d_Fl_fill_20 rfl ?_
      refine J_bipush (q := 23) (v := (30 : Int32)) d_Fl_fill_21 (by decide) rfl ?_
      refine J_lshl (q := 24) d_Fl_fill_23 rfl ?_
      refine J_putL (q := 27) (j := 5) cd_1 (by decide) rfl rfl rfl g_40 rfl d_Fl_fill_24 rfl ?_
      obtain ⟨μ2, hμ2, h⟩ := ap_eq h
      refine J_nmM hμ2 ?_
      refine J_aload_n (q := 28) 3 d_Fl_fill_27 rfl rfl rfl ?_
      obtain ⟨r3, hr3, h⟩ := ap_eq h
      refine J_callVv (rc := 0) (rs := 0) (q := 31) (as := []) (st := []) (by decide) rfl g_607 g_608 (t_Po_clear hr3.symm) (by decide) (by decide) g_606 g_609 g_3 hy_Po_clear rfl (Nat.le_of_ble_eq_true rfl) d_Fl_fill_28 rfl ?_
      refine J_aload_n (q := 32) 0 d_Fl_fill_31 rfl rfl rfl ?_
      refine J_aload_n (q := 33) 1 d_Fl_fill_32 rfl rfl rfl ?_
      refine J_iconst (q := 34) (v := (0 : Int32)) d_Fl_fill_33 (by decide) rfl ?_
      refine J_aload_n (q := 35) 3 d_Fl_fill_34 rfl rfl rfl ?_
      obtain ⟨r4, hr4, h⟩ := bd_some h
      refine J_callVv (rc := 0) (rs := 0) (q := 38) (as := [vr 4 (y1), vi ((0 : Int32)), vr 7 (a3)]) (st := []) (by decide) rfl g_612 sel_Fl_addLetter (t_Fl_addLetter 6 _ _ _ _ _ hr4) (by omega) (by decide) g_610 g_613 g_2 hy_Fl_addLetter rfl (Nat.le_of_ble_eq_true rfl) d_Fl_fill_35 rfl ?_
      refine J_aload_n (q := 39) 3 d_Fl_fill_38 rfl rfl rfl ?_
      refine J_getI (q := 42) (j := 5) cd_7 (by decide) (Or.inr rfl) g_78 rfl d_Fl_fill_39 rfl ?_
      obtain ⟨B5, hB5, h⟩ := zb_some h
      obtain rfl := Option.some.inj h
      refine J_nmI hB5.symm ?_
      exact J_zret (b2i01 _) rfl ⟨rfl, rfl⟩ d_Fl_fill_42
    · rw [iB_f hb] at h
      refine J_iconst (q := 17) (v := (0 : Int32)) d_Fl_fill_16 (by decide) rfl ?_
      obtain rfl := Option.some.inj h
      exact J_zret (Or.inl rfl) rfl ⟨rfl, rfl⟩ d_Fl_fill_17
def m_Fo_flatten (a1 : Int32) (a2 : Int32) (μ : Mem) : Option (Int32 × Mem) :=
  Option.bind (m_Fo_letterOf (a1) μ) fun r1 =>
  ap (gR μ 11 (0) 4) fun o2 =>
  Option.bind o2 fun y3 =>
  Option.bind (m_Fl_fill (r1) (a2) (y3) μ) fun r4 =>
  ap (r4.2) fun μ5 =>
  if r4.1 then
 (ap (m_Fo_takeSparePolygons  μ5) fun r6 =>
  ap (gR r6 11 (0) 3) fun o7 =>
  Option.bind o7 fun y8 =>
  some ((gI r6 7 (y8) 4, r6)))
 else
 (some (((-1 : Int32), μ5)))
theorem t_Fo_flatten {a1 : Int32} {a2 : Int32} {μ : Mem} {q : Int32 × Mem} (h : m_Fo_flatten a1 a2 μ = some q) : JM true (47) y_Fo_flatten b_Fo_flatten 3 (some (.int)) 0 0 [vr 11 (0), vi (a1), vi (a2)] μ (QQ (some (vi q.1)) q.2) := by
  unfold m_Fo_flatten at h
  refine JM.of pl_Fo_flatten (fun ρ => Nat.le_of_ble_eq_true rfl) ?_
  show J (GM true (QQ (some (vi q.1)) q.2) (some (.int)) y_Fo_flatten.name) true b_Fo_flatten R_11 3 (47) 0 0 0 [(0, vr 11 (0)), (1, vi (a1)), (2, vi (a2))] [] μ
  refine J_aload_n (q := 1) 0 d_Fo_flatten_0 rfl rfl rfl ?_
  refine J_getF (q := 4) cd_11 (by decide) ft_11_2 rfl g_256 rfl d_Fo_flatten_1 rfl ?_
  refine J_aload_n (q := 5) 0 d_Fo_flatten_4 rfl rfl rfl ?_
  refine J_iload_n (q := 6) 1 d_Fo_flatten_5 rfl rfl rfl ?_
  obtain ⟨r1, hr1, h⟩ := bd_some h
  refine J_callVq (rc := 0) (rs := 0) (q := 9) (as := [vi (a1)]) (st := [vr 1 (0)]) (by decide) rfl g_436 sel_Fo_letterOf (t_Fo_letterOf hr1) (by decide) (by decide) g_434 g_437 g_1 hy_Fo_letterOf rfl (Nat.le_of_ble_eq_true rfl) d_Fo_flatten_6 rfl ?_
  refine J_iload_n (q := 10) 2 d_Fo_flatten_9 rfl rfl rfl ?_
  refine J_aload_n (q := 11) 0 d_Fo_flatten_10 rfl rfl rfl ?_
  refine J_getR (q := 14) cd_11 (by decide) ft_11_4 g_258 rfl d_Fo_flatten_11 rfl ?_
  obtain ⟨o2, ho2, h⟩ := ap_eq h
  refine J_nmO ho2 ?_
  replace h := bd_some h
  obtain ⟨y3, hy3, h⟩ := h
  subst hy3
  obtain ⟨r4, hr4, h⟩ := bd_some h
  refine J_callVq (rc := 0) (rs := 0) (q := 17) (as := [vo 4 (r1), vi (a2), vr 7 (y3)]) (st := []) (by decide) rfl g_601 g_602 (t_Fl_fill hr4) (by decide) (by decide) g_600 g_603 g_2 hy_Fl_fill rfl (Nat.le_of_ble_eq_true rfl) d_Fo_flatten_14 rfl ?_
  obtain ⟨μ5, hμ5, h⟩ := ap_eq h
  refine J_nmM hμ5 ?_
  refine J_ifB_ne (q := 20) (tgt := 22) d_Fo_flatten_17 (by decide) rfl (fun hb => ?_) (fun hb => ?_)
  · rw [iB_t hb] at h
    refine J_aload_n (q := 23) 0 d_Fo_flatten_22 rfl rfl rfl ?_
    obtain ⟨r6, hr6, h⟩ := ap_eq h
    refine J_callVv (rc := 0) (rs := 0) (q := 26) (as := []) (st := []) (by decide) rfl g_689 sel_Fo_takeSparePolygons (t_Fo_takeSparePolygons hr6.symm) (by decide) (by decide) g_687 g_690 g_1 hy_Fo_takeSparePolygons rfl (Nat.le_of_ble_eq_true rfl) d_Fo_flatten_23 rfl ?_
    refine J_aload_n (q := 27) 0 d_Fo_flatten_26 rfl rfl rfl ?_
    refine J_getR (q := 30) cd_11 (by decide) ft_11_3 g_257 rfl d_Fo_flatten_27 rfl ?_
    obtain ⟨o7, ho7, h⟩ := ap_eq h
    refine J_nmO ho7 ?_
    replace h := bd_some h
    obtain ⟨y8, hy8, h⟩ := h
    subst hy8
    refine J_getI (q := 33) (j := 4) cd_7 (by decide) (Or.inl rfl) g_76 rfl d_Fo_flatten_30 rfl ?_
    obtain rfl := Option.some.inj h
    exact J_iret rfl ⟨rfl, rfl⟩ d_Fo_flatten_33
  · rw [iB_f hb] at h
    refine J_iconst (q := 21) (v := (-1 : Int32)) d_Fo_flatten_20 (by decide) rfl ?_
    obtain rfl := Option.some.inj h
    exact J_iret rfl ⟨rfl, rfl⟩ d_Fo_flatten_21
def m_Fo_flat (a1 : Int32) (a2 : Int32) (μ : Mem) : Option (Int32) :=
  ap (gR μ 11 (0) 3) fun o1 =>
  Option.bind o1 fun y2 =>
  if (m_Fo_within ((a1).toInt64) ((0 : Int64)) (((gI μ 7 (y2) 4) - ((1 : Int32))).toInt64) μ) then
 (if a2 = (0 : Int32) then
 (ap (gR μ 11 (0) 3) fun o3 =>
  Option.bind o3 fun y4 =>
  gu (a1) 500 <|
  some (gI μ 242 (y4) a1.toNatClampNeg))
 else if a2 = (1 : Int32) then
 (ap (gR μ 11 (0) 3) fun o6 =>
  Option.bind o6 fun y7 =>
  gu (a1) 500 <|
  some (gI μ 240 (y7) a1.toNatClampNeg))
 else if a2 = (2 : Int32) then
 (ap (gR μ 11 (0) 3) fun o9 =>
  Option.bind o9 fun y10 =>
  gu (a1) 500 <|
  some (gI μ 241 (y10) a1.toNatClampNeg))
 else (some ((-1000000 : Int32))))
 else
 (some ((-1000000 : Int32)))
theorem t_Fo_flat {a1 : Int32} {a2 : Int32} {μ : Mem} {q : Int32} (h : m_Fo_flat a1 a2 μ = some q) : JM true (1) y_Fo_flat b_Fo_flat 3 (some (.int)) 0 0 [vr 11 (0), vi (a1), vi (a2)] μ (QQ (some (vi q)) μ) := by
  unfold m_Fo_flat at h
  refine JM.of pl_Fo_flat (fun ρ => Nat.le_of_ble_eq_true rfl) ?_
  show J (GM true (QQ (some (vi q)) μ) (some (.int)) y_Fo_flat.name) true b_Fo_flat R_11 3 (1) 0 0 0 [(0, vr 11 (0)), (1, vi (a1)), (2, vi (a2))] [] μ
  refine J_iload_n (q := 1) 1 d_Fo_flat_0 rfl rfl rfl ?_
  refine J_i2l (q := 2) d_Fo_flat_1 rfl ?_
  refine J_lconst (q := 3) (v := (0 : Int64)) d_Fo_flat_2 (by decide) rfl ?_
  refine J_aload_n (q := 4) 0 d_Fo_flat_3 rfl rfl rfl ?_
  refine J_getR (q := 7) cd_11 (by decide) ft_11_3 g_257 rfl d_Fo_flat_4 rfl ?_
  obtain ⟨o1, ho1, h⟩ := ap_eq h
  refine J_nmO ho1 ?_
  replace h := bd_some h
  obtain ⟨y2, hy2, h⟩ := h
  subst hy2
  refine J_getI (q := 10) (j := 4) cd_7 (by decide) (Or.inl rfl) g_76 rfl d_Fo_flat_7 rfl ?_
  refine J_iconst (q := 11) (v := (1 : Int32)) d_Fo_flat_10 (by decide) rfl ?_
  refine J_isub (q := 12) d_Fo_flat_11 rfl ?_
  refine J_i2l (q := 13) d_Fo_flat_12 rfl ?_
  refine J_callSq (rc := 0) (rs := 0) (q := 16) (as := [vl ((a1).toInt64), vl ((0 : Int64)), vl (((gI μ 7 (y2) 4) - ((1 : Int32))).toInt64)]) (st := []) g_300 (t_Fo_within rfl) (by decide) (by decide) g_299 g_301 g_1 hy_Fo_within rfl (Nat.le_of_ble_eq_true rfl) d_Fo_flat_13 rfl ?_
  refine J_ifB_ne (q := 19) (tgt := 22) d_Fo_flat_16 (by decide) rfl (fun hb => ?_) (fun hb => ?_)
  · rw [iB_t hb] at h
    refine J_iload_n (q := 23) 2 d_Fo_flat_22 rfl rfl rfl ?_
    by_cases hk0 : a2 = (0 : Int32)
    · rw [if_pos hk0] at h
      refine J_swIn (tgt := 48) d_Fo_flat_23 (by rw [hk0]; decide) (by rw [hk0]; decide) (by rw [hk0]; rfl) (by decide) ?_
      refine J_aload_n (q := 49) 0 d_Fo_flat_48 rfl rfl rfl ?_
      refine J_getR (q := 52) cd_11 (by decide) ft_11_3 g_257 rfl d_Fo_flat_49 rfl ?_
      obtain ⟨o3, ho3, h⟩ := ap_eq h
      refine J_nmO ho3 ?_
      replace h := bd_some h
      obtain ⟨y4, hy4, h⟩ := h
      subst hy4
      refine J_getF (q := 55) cd_7 (by decide) ft_7_2 rfl g_71 rfl d_Fo_flat_52 rfl ?_
      refine J_iload_n (q := 56) 1 d_Fo_flat_55 rfl rfl rfl ?_
      obtain ⟨hi5, h⟩ := gu_some h
      refine J_iald (q := 57) rk_242 (by decide) hi5 d_Fo_flat_56 rfl ?_
      obtain rfl := Option.some.inj h
      exact J_iret rfl ⟨rfl, rfl⟩ d_Fo_flat_57
    rw [if_neg hk0] at h
    by_cases hk1 : a2 = (1 : Int32)
    · rw [if_pos hk1] at h
      refine J_swIn (tgt := 58) d_Fo_flat_23 (by rw [hk1]; decide) (by rw [hk1]; decide) (by rw [hk1]; rfl) (by decide) ?_
      refine J_aload_n (q := 59) 0 d_Fo_flat_58 rfl rfl rfl ?_
      refine J_getR (q := 62) cd_11 (by decide) ft_11_3 g_257 rfl d_Fo_flat_59 rfl ?_
      obtain ⟨o6, ho6, h⟩ := ap_eq h
      refine J_nmO ho6 ?_
      replace h := bd_some h
      obtain ⟨y7, hy7, h⟩ := h
      subst hy7
      refine J_getF (q := 65) cd_7 (by decide) ft_7_0 rfl g_66 rfl d_Fo_flat_62 rfl ?_
      refine J_iload_n (q := 66) 1 d_Fo_flat_65 rfl rfl rfl ?_
      obtain ⟨hi8, h⟩ := gu_some h
      refine J_iald (q := 67) rk_240 (by decide) hi8 d_Fo_flat_66 rfl ?_
      obtain rfl := Option.some.inj h
      exact J_iret rfl ⟨rfl, rfl⟩ d_Fo_flat_67
    rw [if_neg hk1] at h
    by_cases hk2 : a2 = (2 : Int32)
    · rw [if_pos hk2] at h
      refine J_swIn (tgt := 68) d_Fo_flat_23 (by rw [hk2]; decide) (by rw [hk2]; decide) (by rw [hk2]; rfl) (by decide) ?_
      refine J_aload_n (q := 69) 0 d_Fo_flat_68 rfl rfl rfl ?_
      refine J_getR (q := 72) cd_11 (by decide) ft_11_3 g_257 rfl d_Fo_flat_69 rfl ?_
      obtain ⟨o9, ho9, h⟩ := ap_eq h
      refine J_nmO ho9 ?_
      replace h := bd_some h
      obtain ⟨y10, hy10, h⟩ := h
      subst hy10
      refine J_getF (q := 75) cd_7 (by decide) ft_7_1 rfl g_69 rfl d_Fo_flat_72 rfl ?_
      refine J_iload_n (q := 76) 1 d_Fo_flat_75 rfl rfl rfl ?_
      obtain ⟨hi11, h⟩ := gu_some h
      refine J_iald (q := 77) rk_241 (by decide) hi11 d_Fo_flat_76 rfl ?_
      obtain rfl := Option.some.inj h
      exact J_iret rfl ⟨rfl, rfl⟩ d_Fo_flat_77
    rw [if_neg hk2] at h
    refine J_swOut (tgt := 78) d_Fo_flat_23 (by have e0 := lv_neT hk0 (a := 0) (by decide); have e1 := lv_neT hk1 (a := 1) (by decide); have e2 := lv_neT hk2 (a := 2) (by decide); omega) (by decide) ?_
    refine J_ldc (q := 80) d_Fo_flat_78 g_695 rfl ?_
    obtain rfl := Option.some.inj h
    exact J_iret rfl ⟨rfl, rfl⟩ d_Fo_flat_80
  · rw [iB_f hb] at h
    refine J_ldc (q := 21) d_Fo_flat_19 g_695 rfl ?_
    obtain rfl := Option.some.inj h
    exact J_iret rfl ⟨rfl, rfl⟩ d_Fo_flat_21
def lp_Po_doubleArea_4 (o : Nat) (μ : Mem) : Nat → Int64 → Int32 → Option (Int64)
  | 0, _, _ => none
  | n + 1, y1, y3 =>
  if gI μ 7 (o) 4 ≤ y3 then
 (some (y1))
 else
 (gu (y3) 500 <|
  ap (gI μ 243 (o) y3.toNatClampNeg) fun x10 =>
  gu (y3) 500 <|
  gu (x10) 500 <|
  gu (y3) 500 <|
  gu (x10) 500 <|
  ap ((y1) + ((((gI μ 240 (o) y3.toNatClampNeg).toInt64) * ((gI μ 241 (o) x10.toNatClampNeg).toInt64)) - (((gI μ 241 (o) y3.toNatClampNeg).toInt64) * ((gI μ 240 (o) x10.toNatClampNeg).toInt64)))) fun x15 =>
  ap (y3 + (1 : Int32)) fun x16 =>
  lp_Po_doubleArea_4 o μ n (x15) (x16))
theorem tl_Po_doubleArea_4 (o : Nat) (μ : Mem) {q : Int64}  : ∀ (n : Nat) (y1 : Int64) (y3 : Int32), lp_Po_doubleArea_4 o μ n y1 y3 = some q → J (GM true (QQ (some (vl q)) μ) (some (.long)) y_Po_doubleArea.name) true b_Po_doubleArea R_7 5 (0) 0 0 4 [(0, vr 7 (o)), (1, vl (y1)), (3, vi (y3))] [] μ := by
  intro n
  induction n with
  | zero => intro _ _ h; cases h
  | succ n ih =>
    intro y1 y3 h
    unfold lp_Po_doubleArea_4 at h
    refine J_iload_n (q := 5) 2 d_Po_doubleArea_4 rfl rfl rfl ?_
    refine J_aload_n (q := 6) 0 d_Po_doubleArea_5 rfl rfl rfl ?_
    refine J_getI (q := 9) (j := 4) cd_7 (by decide) (Or.inl rfl) g_74 rfl d_Po_doubleArea_6 rfl ?_
    refine J_icmp_ge (q := 12) (tgt := 62) d_Po_doubleArea_9 (by decide) rfl (fun hc => ?_) (fun hc => ?_)
    · rw [if_pos hc] at h
      refine J_lload_n (q := 63) 1 d_Po_doubleArea_62 rfl rfl rfl ?_
      obtain rfl := Option.some.inj h
      exact J_lret rfl ⟨rfl, rfl⟩ d_Po_doubleArea_63
    · rw [if_neg hc] at h
      refine J_aload_n (q := 13) 0 d_Po_doubleArea_12 rfl rfl rfl ?_
      refine J_getF (q := 16) cd_7 (by decide) ft_7_3 rfl g_72 rfl d_Po_doubleArea_13 rfl ?_
      refine J_iload_n (q := 17) 2 d_Po_doubleArea_16 rfl rfl rfl ?_
      obtain ⟨hi9, h⟩ := gu_some h
      refine J_iald (q := 18) rk_243 (by decide) hi9 d_Po_doubleArea_17 rfl ?_
      obtain ⟨x10, hx10, h⟩ := ap_eq h
      refine J_nmI hx10 ?_
      refine J_istore (q := 20) (lv' := [(4, vi (x10)), (0, vr 7 (o)), (1, vl (y1)), (3, vi (y3))]) d_Po_doubleArea_18 (by decide) rfl rfl ?_
      refine J_lload_n (q := 21) 2 d_Po_doubleArea_20 rfl rfl rfl ?_
      refine J_aload_n (q := 22) 1 d_Po_doubleArea_21 rfl rfl rfl ?_
      refine J_getF (q := 25) cd_7 (by decide) ft_7_0 rfl g_64 rfl d_Po_doubleArea_22 rfl ?_
      refine J_iload_n (q := 26) 3 d_Po_doubleArea_25 rfl rfl rfl ?_
      obtain ⟨hi11, h⟩ := gu_some h
      refine J_iald (q := 27) rk_240 (by decide) hi11 d_Po_doubleArea_26 rfl ?_
      refine J_i2l (q := 28) d_Po_doubleArea_27 rfl ?_
      refine J_aload_n (q := 29) 1 d_Po_doubleArea_28 rfl rfl rfl ?_
      refine J_getF (q := 32) cd_7 (by decide) ft_7_1 rfl g_67 rfl d_Po_doubleArea_29 rfl ?_
      refine J_iload (q := 34) 0 d_Po_doubleArea_32 rfl rfl ?_
      obtain ⟨hi12, h⟩ := gu_some h
      refine J_iald (q := 35) rk_241 (by decide) hi12 d_Po_doubleArea_34 rfl ?_
      refine J_i2l (q := 36) d_Po_doubleArea_35 rfl ?_
      refine J_lmul (q := 37) d_Po_doubleArea_36 rfl ?_
      refine J_aload_n (q := 38) 1 d_Po_doubleArea_37 rfl rfl rfl ?_
      refine J_getF (q := 41) cd_7 (by decide) ft_7_1 rfl g_67 rfl d_Po_doubleArea_38 rfl ?_
      refine J_iload_n (q := 42) 3 d_Po_doubleArea_41 rfl rfl rfl ?_
      obtain ⟨hi13, h⟩ := gu_some h
      refine J_iald (q := 43) rk_241 (by decide) hi13 d_Po_doubleArea_42 rfl ?_
      refine J_i2l (q := 44) d_Po_doubleArea_43 rfl ?_
      refine J_aload_n (q := 45) 1 d_Po_doubleArea_44 rfl rfl rfl ?_
      refine J_getF (q := 48) cd_7 (by decide) ft_7_0 rfl g_64 rfl d_Po_doubleArea_45 rfl ?_
      refine J_iload (q := 50) 0 d_Po_doubleArea_48 rfl rfl ?_
      obtain ⟨hi14, h⟩ := gu_some h
      refine J_iald (q := 51) rk_240 (by decide) hi14 d_Po_doubleArea_50 rfl ?_
      refine J_i2l (q := 52) d_Po_doubleArea_51 rfl ?_
      refine J_lmul (q := 53) d_Po_doubleArea_52 rfl ?_
      refine J_lsub (q := 54) d_Po_doubleArea_53 rfl ?_
      refine J_ladd (q := 55) d_Po_doubleArea_54 rfl ?_
      obtain ⟨x15, hx15, h⟩ := ap_eq h
      refine J_nmL hx15 ?_
      refine J_lstore_n (q := 56) (lv' := [(1, vl (x15)), (4, vi (x10)), (0, vr 7 (o)), (3, vi (y3))]) d_Po_doubleArea_55 rfl (by decide) rfl rfl ?_
      obtain ⟨x16, hx16, h⟩ := ap_eq h
      refine J_iinc (q := 59) (v := x16) (lv' := [(3, vi (x16)), (1, vl (x15)), (4, vi (x10)), (0, vr 7 (o))]) 3 d_Po_doubleArea_56 rfl (by rw [hx16]; rfl) (by decide) rfl rfl ?_
      refine J_goto (q := 4) d_Po_doubleArea_59 (by decide) ?_
      refine J_pick [3, 1, 0] rfl ?_
      exact ih _ _ h
def m_Po_doubleArea (o : Nat) (μ : Mem) : Option (Int64) :=
  lp_Po_doubleArea_4 o μ FU ((0 : Int64)) ((0 : Int32))
theorem t_Po_doubleArea {o : Nat} {μ : Mem} {q : Int64} (h : m_Po_doubleArea o μ = some q) : JM true (0) y_Po_doubleArea b_Po_doubleArea 5 (some (.long)) 0 0 [vr 7 (o)] μ (QQ (some (vl q)) μ) := by
  unfold m_Po_doubleArea at h
  refine JM.of pl_Po_doubleArea (fun ρ => Nat.le_of_ble_eq_true rfl) ?_
  show J (GM true (QQ (some (vl q)) μ) (some (.long)) y_Po_doubleArea.name) true b_Po_doubleArea R_7 5 (0) 0 0 0 [(0, vr 7 (o))] [] μ
  refine J_lconst (q := 1) (v := (0 : Int64)) d_Po_doubleArea_0 (by decide) rfl ?_
  refine J_lstore_n (q := 2) (lv' := [(1, vl ((0 : Int64))), (0, vr 7 (o))]) d_Po_doubleArea_1 rfl (by decide) rfl rfl ?_
  refine J_iconst (q := 3) (v := (0 : Int32)) d_Po_doubleArea_2 (by decide) rfl ?_
  refine J_istore_n (q := 4) (lv' := [(3, vi ((0 : Int32))), (1, vl ((0 : Int64))), (0, vr 7 (o))]) d_Po_doubleArea_3 rfl (by decide) rfl rfl ?_
  refine J_pick [2, 1, 0] rfl ?_
  exact tl_Po_doubleArea_4 o μ FU _ _ h
def m_Fo_area (μ : Mem) : Option (Int64) :=
  ap (gR μ 11 (0) 3) fun o1 =>
  Option.bind o1 fun y2 =>
  Option.bind (m_Po_doubleArea (y2) μ) fun r3 =>
  some (r3)
theorem t_Fo_area {μ : Mem} {q : Int64} (h : m_Fo_area  μ = some q) : JM true (1) y_Fo_area b_Fo_area 1 (some (.long)) 0 0 [vr 11 (0)] μ (QQ (some (vl q)) μ) := by
  unfold m_Fo_area at h
  refine JM.of pl_Fo_area (fun ρ => Nat.le_of_ble_eq_true rfl) ?_
  show J (GM true (QQ (some (vl q)) μ) (some (.long)) y_Fo_area.name) true b_Fo_area R_11 1 (1) 0 0 0 [(0, vr 11 (0))] [] μ
  refine J_aload_n (q := 1) 0 d_Fo_area_0 rfl rfl rfl ?_
  refine J_getR (q := 4) cd_11 (by decide) ft_11_3 g_257 rfl d_Fo_area_1 rfl ?_
  obtain ⟨o1, ho1, h⟩ := ap_eq h
  refine J_nmO ho1 ?_
  replace h := bd_some h
  obtain ⟨y2, hy2, h⟩ := h
  subst hy2
  obtain ⟨r3, hr3, h⟩ := bd_some h
  refine J_callVq (rc := 0) (rs := 0) (q := 7) (as := []) (st := []) (by decide) rfl g_701 g_702 (t_Po_doubleArea hr3) (by decide) (by decide) g_700 g_703 g_3 hy_Po_doubleArea rfl (Nat.le_of_ble_eq_true rfl) d_Fo_area_4 rfl ?_
  obtain rfl := Option.some.inj h
  exact J_lret rfl ⟨rfl, rfl⟩ d_Fo_area_7
def mj_Po_turnsAround_185 (o : Nat) (a1 : Int32) (a2 : Int32) (μ : Mem) (c_5 : Int32 → Int32 → Option (Int32)) (y3 : Int32) (y4 : Int32) : Option (Int32) :=
  ap (y4 + (1 : Int32)) fun x12 =>
  c_5 (y3) (x12)
theorem tj_Po_turnsAround_185 (o : Nat) (a1 : Int32) (a2 : Int32) (μ : Mem) {q : Int32} {c_5 : Int32 → Int32 → Option (Int32)} (hc_5 : ∀ (y3 : Int32) (y4 : Int32), c_5 y3 y4 = some q → J (GM true (QQ (some (vi q)) μ) (some (.int)) y_Po_turnsAround.name) true b_Po_turnsAround R_7 8 (0) 0 0 5 [(0, vr 7 (o)), (1, vi (a1)), (2, vi (a2)), (3, vi (y3)), (4, vi (y4))] [] μ) (y3 : Int32) (y4 : Int32) (h : mj_Po_turnsAround_185 o a1 a2 μ c_5 y3 y4 = some q) : J (GM true (QQ (some (vi q)) μ) (some (.int)) y_Po_turnsAround.name) true b_Po_turnsAround R_7 8 (0) 0 0 185 [(0, vr 7 (o)), (1, vi (a1)), (2, vi (a2)), (3, vi (y3)), (4, vi (y4))] [] μ := by
  unfold mj_Po_turnsAround_185 at h
  obtain ⟨x12, hx12, h⟩ := ap_eq h
  refine J_iinc (q := 188) (v := x12) (lv' := [(4, vi (x12)), (0, vr 7 (o)), (1, vi (a1)), (2, vi (a2)), (3, vi (y3))]) 4 d_Po_turnsAround_185 rfl (by rw [hx12]; rfl) (by decide) rfl rfl ?_
  refine J_goto (q := 5) d_Po_turnsAround_188 (by decide) ?_
  refine J_pick [1, 2, 3, 4, 0] rfl ?_
  exact hc_5 _ _ h
def mj_Po_turnsAround_139 (o : Nat) (a1 : Int32) (a2 : Int32) (μ : Mem) (c_5 : Int32 → Int32 → Option (Int32)) (y3 : Int32) (y4 : Int32) (y5 : Int32) (y6 : Int64) : Option (Int32) :=
  gu (y5) 500 <|
  if (a2).toInt64 < ((16 : Int64)) * ((gI μ 241 (o) y5.toNatClampNeg).toInt64) then
 (mj_Po_turnsAround_185 o a1 a2 μ c_5 (y3) (y4))
 else
 (gu (y4) 500 <|
  if ((16 : Int64)) * ((gI μ 241 (o) y4.toNatClampNeg).toInt64) ≤ (a2).toInt64 then
 (mj_Po_turnsAround_185 o a1 a2 μ c_5 (y3) (y4))
 else
 (if (0 : Int64) ≤ y6 then
 (mj_Po_turnsAround_185 o a1 a2 μ c_5 (y3) (y4))
 else
 (ap (y3 + (-1 : Int32)) fun x14 =>
  mj_Po_turnsAround_185 o a1 a2 μ c_5 (x14) (y4))))
theorem tj_Po_turnsAround_139 (o : Nat) (a1 : Int32) (a2 : Int32) (μ : Mem) {q : Int32} {c_5 : Int32 → Int32 → Option (Int32)} (hc_5 : ∀ (y3 : Int32) (y4 : Int32), c_5 y3 y4 = some q → J (GM true (QQ (some (vi q)) μ) (some (.int)) y_Po_turnsAround.name) true b_Po_turnsAround R_7 8 (0) 0 0 5 [(0, vr 7 (o)), (1, vi (a1)), (2, vi (a2)), (3, vi (y3)), (4, vi (y4))] [] μ) (y3 : Int32) (y4 : Int32) (y5 : Int32) (y6 : Int64) (h : mj_Po_turnsAround_139 o a1 a2 μ c_5 y3 y4 y5 y6 = some q) : J (GM true (QQ (some (vi q)) μ) (some (.int)) y_Po_turnsAround.name) true b_Po_turnsAround R_7 8 (0) 0 0 139 [(0, vr 7 (o)), (1, vi (a1)), (2, vi (a2)), (3, vi (y3)), (4, vi (y4)), (5, vi (y5)), (6, vl (y6))] [] μ := by
  unfold mj_Po_turnsAround_139 at h
  refine J_ldc2 (q := 142) d_Po_turnsAround_139 g_714 rfl ?_
  refine J_aload_n (q := 143) 0 d_Po_turnsAround_142 rfl rfl rfl ?_
  refine J_getF (q := 146) cd_7 (by decide) ft_7_1 rfl g_67 rfl d_Po_turnsAround_143 rfl ?_
  refine J_iload (q := 148) 5 d_Po_turnsAround_146 rfl rfl ?_
  obtain ⟨hi11, h⟩ := gu_some h
  refine J_iald (q := 149) rk_241 (by decide) hi11 d_Po_turnsAround_148 rfl ?_
  refine J_i2l (q := 150) d_Po_turnsAround_149 rfl ?_
  refine J_lmul (q := 151) d_Po_turnsAround_150 rfl ?_
  refine J_iload_n (q := 152) 2 d_Po_turnsAround_151 rfl rfl rfl ?_
  refine J_i2l (q := 153) d_Po_turnsAround_152 rfl ?_
  refine J_lif_gt (q := 157) (tgt := 185) d_Po_turnsAround_153 d_Po_turnsAround_154 (by decide) rfl (fun hc => ?_) (fun hc => ?_)
  · rw [if_pos hc] at h
    refine J_pick [0, 1, 2, 3, 4] rfl ?_
    exact tj_Po_turnsAround_185 o a1 a2 μ hc_5 _ _ h
  · rw [if_neg hc] at h
    refine J_iload_n (q := 158) 2 d_Po_turnsAround_157 rfl rfl rfl ?_
    refine J_i2l (q := 159) d_Po_turnsAround_158 rfl ?_
    refine J_ldc2 (q := 162) d_Po_turnsAround_159 g_714 rfl ?_
    refine J_aload_n (q := 163) 0 d_Po_turnsAround_162 rfl rfl rfl ?_
    refine J_getF (q := 166) cd_7 (by decide) ft_7_1 rfl g_67 rfl d_Po_turnsAround_163 rfl ?_
    refine J_iload (q := 168) 4 d_Po_turnsAround_166 rfl rfl ?_
    obtain ⟨hi13, h⟩ := gu_some h
    refine J_iald (q := 169) rk_241 (by decide) hi13 d_Po_turnsAround_168 rfl ?_
    refine J_i2l (q := 170) d_Po_turnsAround_169 rfl ?_
    refine J_lmul (q := 171) d_Po_turnsAround_170 rfl ?_
    refine J_lif_ge (q := 175) (tgt := 185) d_Po_turnsAround_171 d_Po_turnsAround_172 (by decide) rfl (fun hc => ?_) (fun hc => ?_)
    · rw [if_pos hc] at h
      refine J_pick [0, 1, 2, 3, 4] rfl ?_
      exact tj_Po_turnsAround_185 o a1 a2 μ hc_5 _ _ h
    · rw [if_neg hc] at h
      refine J_lload (q := 177) 6 d_Po_turnsAround_175 rfl rfl ?_
      refine J_lconst (q := 178) (v := (0 : Int64)) d_Po_turnsAround_177 (by decide) rfl ?_
      refine J_lif_ge (q := 182) (tgt := 185) d_Po_turnsAround_178 d_Po_turnsAround_179 (by decide) rfl (fun hc => ?_) (fun hc => ?_)
      · rw [if_pos hc] at h
        refine J_pick [0, 1, 2, 3, 4] rfl ?_
        exact tj_Po_turnsAround_185 o a1 a2 μ hc_5 _ _ h
      · rw [if_neg hc] at h
        obtain ⟨x14, hx14, h⟩ := ap_eq h
        refine J_iinc (q := 185) (v := x14) (lv' := [(3, vi (x14)), (0, vr 7 (o)), (1, vi (a1)), (2, vi (a2)), (4, vi (y4)), (5, vi (y5)), (6, vl (y6))]) 3 d_Po_turnsAround_182 rfl (by rw [hx14]; rfl) (by decide) rfl rfl ?_
        refine J_pick [1, 2, 3, 0, 4] rfl ?_
        exact tj_Po_turnsAround_185 o a1 a2 μ hc_5 _ _ h
def lp_Po_turnsAround_5 (o : Nat) (a1 : Int32) (a2 : Int32) (μ : Mem) : Nat → Int32 → Int32 → Option (Int32)
  | 0, _, _ => none
  | n + 1, y3, y4 =>
  if gI μ 7 (o) 4 ≤ y4 then
 (some (y3))
 else
 (gu (y4) 500 <|
  ap (gI μ 243 (o) y4.toNatClampNeg) fun x18 =>
  gu (x18) 500 <|
  gu (y4) 500 <|
  gu (y4) 500 <|
  gu (y4) 500 <|
  gu (x18) 500 <|
  gu (y4) 500 <|
  ap (((((gI μ 240 (o) x18.toNatClampNeg) - (gI μ 240 (o) y4.toNatClampNeg)).toInt64) * (((a2).toInt64) - (((16 : Int64)) * ((gI μ 241 (o) y4.toNatClampNeg).toInt64)))) - ((((a1).toInt64) - (((16 : Int64)) * ((gI μ 240 (o) y4.toNatClampNeg).toInt64))) * (((gI μ 241 (o) x18.toNatClampNeg) - (gI μ 241 (o) y4.toNatClampNeg)).toInt64))) fun x25 =>
  gu (y4) 500 <|
  if (a2).toInt64 < ((16 : Int64)) * ((gI μ 241 (o) y4.toNatClampNeg).toInt64) then
 (mj_Po_turnsAround_139 o a1 a2 μ (lp_Po_turnsAround_5 o a1 a2 μ n) (y3) (y4) (x18) (x25))
 else
 (gu (x18) 500 <|
  if ((16 : Int64)) * ((gI μ 241 (o) x18.toNatClampNeg).toInt64) ≤ (a2).toInt64 then
 (mj_Po_turnsAround_139 o a1 a2 μ (lp_Po_turnsAround_5 o a1 a2 μ n) (y3) (y4) (x18) (x25))
 else
 (if x25 ≤ (0 : Int64) then
 (mj_Po_turnsAround_139 o a1 a2 μ (lp_Po_turnsAround_5 o a1 a2 μ n) (y3) (y4) (x18) (x25))
 else
 (ap (y3 + (1 : Int32)) fun x28 =>
  mj_Po_turnsAround_185 o a1 a2 μ (lp_Po_turnsAround_5 o a1 a2 μ n) (x28) (y4)))))
theorem tl_Po_turnsAround_5 (o : Nat) (a1 : Int32) (a2 : Int32) (μ : Mem) {q : Int32}  : ∀ (n : Nat) (y3 : Int32) (y4 : Int32), lp_Po_turnsAround_5 o a1 a2 μ n y3 y4 = some q → J (GM true (QQ (some (vi q)) μ) (some (.int)) y_Po_turnsAround.name) true b_Po_turnsAround R_7 8 (0) 0 0 5 [(0, vr 7 (o)), (1, vi (a1)), (2, vi (a2)), (3, vi (y3)), (4, vi (y4))] [] μ := by
  intro n
  induction n with
  | zero => intro _ _ h; cases h
  | succ n ih =>
    intro y3 y4 h
    unfold lp_Po_turnsAround_5 at h
    refine J_iload (q := 7) 4 d_Po_turnsAround_5 rfl rfl ?_
    refine J_aload_n (q := 8) 0 d_Po_turnsAround_7 rfl rfl rfl ?_
    refine J_getI (q := 11) (j := 4) cd_7 (by decide) (Or.inl rfl) g_74 rfl d_Po_turnsAround_8 rfl ?_
    refine J_icmp_ge (q := 14) (tgt := 191) d_Po_turnsAround_11 (by decide) rfl (fun hc => ?_) (fun hc => ?_)
    · rw [if_pos hc] at h
      refine J_iload_n (q := 192) 3 d_Po_turnsAround_191 rfl rfl rfl ?_
      obtain rfl := Option.some.inj h
      exact J_iret rfl ⟨rfl, rfl⟩ d_Po_turnsAround_192
    · rw [if_neg hc] at h
      refine J_aload_n (q := 15) 0 d_Po_turnsAround_14 rfl rfl rfl ?_
      refine J_getF (q := 18) cd_7 (by decide) ft_7_3 rfl g_72 rfl d_Po_turnsAround_15 rfl ?_
      refine J_iload (q := 20) 4 d_Po_turnsAround_18 rfl rfl ?_
      obtain ⟨hi17, h⟩ := gu_some h
      refine J_iald (q := 21) rk_243 (by decide) hi17 d_Po_turnsAround_20 rfl ?_
      obtain ⟨x18, hx18, h⟩ := ap_eq h
      refine J_nmI hx18 ?_
      refine J_istore (q := 23) (lv' := [(5, vi (x18)), (0, vr 7 (o)), (1, vi (a1)), (2, vi (a2)), (3, vi (y3)), (4, vi (y4))]) d_Po_turnsAround_21 (by decide) rfl rfl ?_
      refine J_aload_n (q := 24) 1 d_Po_turnsAround_23 rfl rfl rfl ?_
      refine J_getF (q := 27) cd_7 (by decide) ft_7_0 rfl g_64 rfl d_Po_turnsAround_24 rfl ?_
      refine J_iload (q := 29) 0 d_Po_turnsAround_27 rfl rfl ?_
      obtain ⟨hi19, h⟩ := gu_some h
      refine J_iald (q := 30) rk_240 (by decide) hi19 d_Po_turnsAround_29 rfl ?_
      refine J_aload_n (q := 31) 1 d_Po_turnsAround_30 rfl rfl rfl ?_
      refine J_getF (q := 34) cd_7 (by decide) ft_7_0 rfl g_64 rfl d_Po_turnsAround_31 rfl ?_
      refine J_iload (q := 36) 5 d_Po_turnsAround_34 rfl rfl ?_
      obtain ⟨hi20, h⟩ := gu_some h
      refine J_iald (q := 37) rk_240 (by decide) hi20 d_Po_turnsAround_36 rfl ?_
      refine J_isub (q := 38) d_Po_turnsAround_37 rfl ?_
      refine J_i2l (q := 39) d_Po_turnsAround_38 rfl ?_
      refine J_iload_n (q := 40) 3 d_Po_turnsAround_39 rfl rfl rfl ?_
      refine J_i2l (q := 41) d_Po_turnsAround_40 rfl ?_
      refine J_ldc2 (q := 44) d_Po_turnsAround_41 g_714 rfl ?_
      refine J_aload_n (q := 45) 1 d_Po_turnsAround_44 rfl rfl rfl ?_
      refine J_getF (q := 48) cd_7 (by decide) ft_7_1 rfl g_67 rfl d_Po_turnsAround_45 rfl ?_
      refine J_iload (q := 50) 5 d_Po_turnsAround_48 rfl rfl ?_
      obtain ⟨hi21, h⟩ := gu_some h
      refine J_iald (q := 51) rk_241 (by decide) hi21 d_Po_turnsAround_50 rfl ?_
      refine J_i2l (q := 52) d_Po_turnsAround_51 rfl ?_
      refine J_lmul (q := 53) d_Po_turnsAround_52 rfl ?_
      refine J_lsub (q := 54) d_Po_turnsAround_53 rfl ?_
      refine J_lmul (q := 55) d_Po_turnsAround_54 rfl ?_
      refine J_iload_n (q := 56) 2 d_Po_turnsAround_55 rfl rfl rfl ?_
      refine J_i2l (q := 57) d_Po_turnsAround_56 rfl ?_
      refine J_ldc2 (q := 60) d_Po_turnsAround_57 g_714 rfl ?_
      refine J_aload_n (q := 61) 1 d_Po_turnsAround_60 rfl rfl rfl ?_
      refine J_getF (q := 64) cd_7 (by decide) ft_7_0 rfl g_64 rfl d_Po_turnsAround_61 rfl ?_
      refine J_iload (q := 66) 5 d_Po_turnsAround_64 rfl rfl ?_
      obtain ⟨hi22, h⟩ := gu_some h
      refine J_iald (q := 67) rk_240 (by decide) hi22 d_Po_turnsAround_66 rfl ?_
      refine J_i2l (q := 68) d_Po_turnsAround_67 rfl ?_
      refine J_lmul (q := 69) d_Po_turnsAround_68 rfl ?_
      refine J_lsub (q := 70) d_Po_turnsAround_69 rfl ?_
      refine J_aload_n (q := 71) 1 d_Po_turnsAround_70 rfl rfl rfl ?_
      refine J_getF (q := 74) cd_7 (by decide) ft_7_1 rfl g_67 rfl d_Po_turnsAround_71 rfl ?_
      refine J_iload (q := 76) 0 d_Po_turnsAround_74 rfl rfl ?_
      obtain ⟨hi23, h⟩ := gu_some h
      refine J_iald (q := 77) rk_241 (by decide) hi23 d_Po_turnsAround_76 rfl ?_
      refine J_aload_n (q := 78) 1 d_Po_turnsAround_77 rfl rfl rfl ?_
      refine J_getF (q := 81) cd_7 (by decide) ft_7_1 rfl g_67 rfl d_Po_turnsAround_78 rfl ?_
      refine J_iload (q := 83) 5 d_Po_turnsAround_81 rfl rfl ?_
      obtain ⟨hi24, h⟩ := gu_some h
      refine J_iald (q := 84) rk_241 (by decide) hi24 d_Po_turnsAround_83 rfl ?_
      refine J_isub (q := 85) d_Po_turnsAround_84 rfl ?_
      refine J_i2l (q := 86) d_Po_turnsAround_85 rfl ?_
      refine J_lmul (q := 87) d_Po_turnsAround_86 rfl ?_
      refine J_lsub (q := 88) d_Po_turnsAround_87 rfl ?_
      obtain ⟨x25, hx25, h⟩ := ap_eq h
      refine J_nmL hx25 ?_
      refine J_lstore (q := 90) (lv' := [(6, vl (x25)), (5, vi (x18)), (0, vr 7 (o)), (1, vi (a1)), (2, vi (a2)), (3, vi (y3)), (4, vi (y4))]) d_Po_turnsAround_88 (by decide) rfl rfl ?_
      refine J_ldc2 (q := 93) d_Po_turnsAround_90 g_714 rfl ?_
      refine J_aload_n (q := 94) 2 d_Po_turnsAround_93 rfl rfl rfl ?_
      refine J_getF (q := 97) cd_7 (by decide) ft_7_1 rfl g_67 rfl d_Po_turnsAround_94 rfl ?_
      refine J_iload (q := 99) 6 d_Po_turnsAround_97 rfl rfl ?_
      obtain ⟨hi26, h⟩ := gu_some h
      refine J_iald (q := 100) rk_241 (by decide) hi26 d_Po_turnsAround_99 rfl ?_
      refine J_i2l (q := 101) d_Po_turnsAround_100 rfl ?_
      refine J_lmul (q := 102) d_Po_turnsAround_101 rfl ?_
      refine J_iload_n (q := 103) 4 d_Po_turnsAround_102 rfl rfl rfl ?_
      refine J_i2l (q := 104) d_Po_turnsAround_103 rfl ?_
      refine J_lif_gt (q := 108) (tgt := 139) d_Po_turnsAround_104 d_Po_turnsAround_105 (by decide) rfl (fun hc => ?_) (fun hc => ?_)
      · rw [if_pos hc] at h
        refine J_pick [2, 3, 4, 5, 6, 1, 0] rfl ?_
        exact tj_Po_turnsAround_139 o a1 a2 μ ih _ _ _ _ h
      · rw [if_neg hc] at h
        refine J_iload_n (q := 109) 4 d_Po_turnsAround_108 rfl rfl rfl ?_
        refine J_i2l (q := 110) d_Po_turnsAround_109 rfl ?_
        refine J_ldc2 (q := 113) d_Po_turnsAround_110 g_714 rfl ?_
        refine J_aload_n (q := 114) 2 d_Po_turnsAround_113 rfl rfl rfl ?_
        refine J_getF (q := 117) cd_7 (by decide) ft_7_1 rfl g_67 rfl d_Po_turnsAround_114 rfl ?_
        refine J_iload (q := 119) 1 d_Po_turnsAround_117 rfl rfl ?_
        obtain ⟨hi27, h⟩ := gu_some h
        refine J_iald (q := 120) rk_241 (by decide) hi27 d_Po_turnsAround_119 rfl ?_
        refine J_i2l (q := 121) d_Po_turnsAround_120 rfl ?_
        refine J_lmul (q := 122) d_Po_turnsAround_121 rfl ?_
        refine J_lif_ge (q := 126) (tgt := 139) d_Po_turnsAround_122 d_Po_turnsAround_123 (by decide) rfl (fun hc => ?_) (fun hc => ?_)
        · rw [if_pos hc] at h
          refine J_pick [2, 3, 4, 5, 6, 1, 0] rfl ?_
          exact tj_Po_turnsAround_139 o a1 a2 μ ih _ _ _ _ h
        · rw [if_neg hc] at h
          refine J_lload (q := 128) 0 d_Po_turnsAround_126 rfl rfl ?_
          refine J_lconst (q := 129) (v := (0 : Int64)) d_Po_turnsAround_128 (by decide) rfl ?_
          refine J_lif_le (q := 133) (tgt := 139) d_Po_turnsAround_129 d_Po_turnsAround_130 (by decide) rfl (fun hc => ?_) (fun hc => ?_)
          · rw [if_pos hc] at h
            refine J_pick [2, 3, 4, 5, 6, 1, 0] rfl ?_
            exact tj_Po_turnsAround_139 o a1 a2 μ ih _ _ _ _ h
          · rw [if_neg hc] at h
            obtain ⟨x28, hx28, h⟩ := ap_eq h
            refine J_iinc (q := 136) (v := x28) (lv' := [(3, vi (x28)), (6, vl (x25)), (5, vi (x18)), (0, vr 7 (o)), (1, vi (a1)), (2, vi (a2)), (4, vi (y4))]) 5 d_Po_turnsAround_133 rfl (by rw [hx28]; rfl) (by decide) rfl rfl ?_
            refine J_goto (q := 185) d_Po_turnsAround_136 (by decide) ?_
            refine J_pick [3, 4, 5, 0, 6] rfl ?_
            exact tj_Po_turnsAround_185 o a1 a2 μ ih _ _ h
def m_Po_turnsAround (o : Nat) (a1 : Int32) (a2 : Int32) (μ : Mem) : Option (Int32) :=
  lp_Po_turnsAround_5 o a1 a2 μ FU ((0 : Int32)) ((0 : Int32))
theorem t_Po_turnsAround {o : Nat} {a1 : Int32} {a2 : Int32} {μ : Mem} {q : Int32} (h : m_Po_turnsAround o a1 a2 μ = some q) : JM true (0) y_Po_turnsAround b_Po_turnsAround 8 (some (.int)) 0 0 [vr 7 (o), vi (a1), vi (a2)] μ (QQ (some (vi q)) μ) := by
  unfold m_Po_turnsAround at h
  refine JM.of pl_Po_turnsAround (fun ρ => Nat.le_of_ble_eq_true rfl) ?_
  show J (GM true (QQ (some (vi q)) μ) (some (.int)) y_Po_turnsAround.name) true b_Po_turnsAround R_7 8 (0) 0 0 0 [(0, vr 7 (o)), (1, vi (a1)), (2, vi (a2))] [] μ
  refine J_iconst (q := 1) (v := (0 : Int32)) d_Po_turnsAround_0 (by decide) rfl ?_
  refine J_istore_n (q := 2) (lv' := [(3, vi ((0 : Int32))), (0, vr 7 (o)), (1, vi (a1)), (2, vi (a2))]) d_Po_turnsAround_1 rfl (by decide) rfl rfl ?_
  refine J_iconst (q := 3) (v := (0 : Int32)) d_Po_turnsAround_2 (by decide) rfl ?_
  refine J_istore (q := 5) (lv' := [(4, vi ((0 : Int32))), (3, vi ((0 : Int32))), (0, vr 7 (o)), (1, vi (a1)), (2, vi (a2))]) d_Po_turnsAround_3 (by decide) rfl rfl ?_
  refine J_pick [2, 3, 4, 1, 0] rfl ?_
  exact tl_Po_turnsAround_5 o a1 a2 μ FU _ _ h
