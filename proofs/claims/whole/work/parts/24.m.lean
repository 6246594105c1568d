def m_Im_countAt (a1 : Int32) (a2 : Int32) (μ : Mem) : Option (Int32) :=
  if (m_Fo_within ((a1).toInt64) ((-16 : Int64)) ((47 : Int64)) μ) then
 (if (m_Fo_within ((a2).toInt64) ((-16 : Int64)) ((47 : Int64)) μ) then
 (gu ((((a2 - (-16 : Int32)) * ((64 : Int32))) + (a1)) - ((-16 : Int32))) 4096 <|
  some (gI μ 140 (0) ((((a2 - (-16 : Int32)) * ((64 : Int32))) + (a1)) - ((-16 : Int32))).toNatClampNeg))
 else
 (some ((0 : Int32))))
 else
 (some ((0 : Int32)))
theorem t_Im_countAt {a1 : Int32} {a2 : Int32} {μ : Mem} {q : Int32} (h : m_Im_countAt a1 a2 μ = some q) : JM true (1) y_Im_countAt b_Im_countAt 3 (some (.int)) 0 0 [vr 2 (0), vi (a1), vi (a2)] μ (QQ (some (vi q)) μ) := by
  unfold m_Im_countAt at h
  refine JM.of pl_Im_countAt (fun ρ => Nat.le_of_ble_eq_true rfl) ?_
  show J (GM true (QQ (some (vi q)) μ) (some (.int)) y_Im_countAt.name) true b_Im_countAt R_2 3 (1) 0 0 0 [(0, vr 2 (0)), (1, vi (a1)), (2, vi (a2))] [] μ
  refine J_iload_n (q := 1) 1 d_Im_countAt_0 rfl rfl rfl ?_
  refine J_i2l (q := 2) d_Im_countAt_1 rfl ?_
  refine J_ldc2 (q := 5) d_Im_countAt_2 g_793 rfl ?_
  refine J_ldc2 (q := 8) d_Im_countAt_5 g_794 rfl ?_
  refine J_callSNq (rc := 0) (rs := 0) (q := 11) (as := [vl ((a1).toInt64), vl ((-16 : Int64)), vl ((47 : Int64))]) (st := []) g_300 (t_Fo_within rfl) (by decide) (by decide) nn_14 g_301 g_1 hy_Fo_within rfl (Nat.le_of_ble_eq_true rfl) d_Im_countAt_8 rfl ?_
  refine J_ifB_eq (q := 14) (tgt := 28) d_Im_countAt_11 (by decide) rfl (fun hb => ?_) (fun hb => ?_)
  · rw [iB_f hb] at h
    refine J_iconst (q := 29) (v := (0 : Int32)) d_Im_countAt_28 (by decide) rfl ?_
    obtain rfl := Option.some.inj h
    exact J_iret rfl ⟨rfl, rfl⟩ d_Im_countAt_29
  · rw [iB_t hb] at h
    refine J_iload_n (q := 15) 2 d_Im_countAt_14 rfl rfl rfl ?_
    refine J_i2l (q := 16) d_Im_countAt_15 rfl ?_
    refine J_ldc2 (q := 19) d_Im_countAt_16 g_793 rfl ?_
    refine J_ldc2 (q := 22) d_Im_countAt_19 g_794 rfl ?_
    refine J_callSNq (rc := 0) (rs := 0) (q := 25) (as := [vl ((a2).toInt64), vl ((-16 : Int64)), vl ((47 : Int64))]) (st := []) g_300 (t_Fo_within rfl) (by decide) (by decide) nn_14 g_301 g_1 hy_Fo_within rfl (Nat.le_of_ble_eq_true rfl) d_Im_countAt_22 rfl ?_
    refine J_ifB_ne (q := 28) (tgt := 30) d_Im_countAt_25 (by decide) rfl (fun hb => ?_) (fun hb => ?_)
    · rw [iB_t hb] at h
      refine J_aload_n (q := 31) 0 d_Im_countAt_30 rfl rfl rfl ?_
      refine J_getF (q := 34) cd_2 (by decide) ft_2_0 rfl g_108 rfl d_Im_countAt_31 rfl ?_
      refine J_iload_n (q := 35) 2 d_Im_countAt_34 rfl rfl rfl ?_
      refine J_bipush (q := 37) (v := (-16 : Int32)) d_Im_countAt_35 (by decide) rfl ?_
      refine J_isub (q := 38) d_Im_countAt_37 rfl ?_
      refine J_bipush (q := 40) (v := (64 : Int32)) d_Im_countAt_38 (by decide) rfl ?_
      refine J_imul (q := 41) d_Im_countAt_40 rfl ?_
      refine J_iload_n (q := 42) 1 d_Im_countAt_41 rfl rfl rfl ?_
      refine J_iadd (q := 43) d_Im_countAt_42 rfl ?_
      refine J_bipush (q := 45) (v := (-16 : Int32)) d_Im_countAt_43 (by decide) rfl ?_
      refine J_isub (q := 46) d_Im_countAt_45 rfl ?_
      obtain ⟨hi1, h⟩ := gu_some h
      refine J_iald (q := 47) rk_140 (by decide) hi1 d_Im_countAt_46 rfl ?_
      obtain rfl := Option.some.inj h
      exact J_iret rfl ⟨rfl, rfl⟩ d_Im_countAt_47
    · rw [iB_f hb] at h
      refine J_iconst (q := 29) (v := (0 : Int32)) d_Im_countAt_28 (by decide) rfl ?_
      obtain rfl := Option.some.inj h
      exact J_iret rfl ⟨rfl, rfl⟩ d_Im_countAt_29
def m_Fo_dot (a1 : Int32) (a2 : Int32) (μ : Mem) : Option (Int32) :=
  Option.bind (m_Im_countAt (a1) (a2) μ) fun r1 =>
  some (r1)
theorem t_Fo_dot {a1 : Int32} {a2 : Int32} {μ : Mem} {q : Int32} (h : m_Fo_dot a1 a2 μ = some q) : JM true (2) y_Fo_dot b_Fo_dot 3 (some (.int)) 0 0 [vr 11 (0), vi (a1), vi (a2)] μ (QQ (some (vi q)) μ) := by
  unfold m_Fo_dot at h
  refine JM.of pl_Fo_dot (fun ρ => Nat.le_of_ble_eq_true rfl) ?_
  show J (GM true (QQ (some (vi q)) μ) (some (.int)) y_Fo_dot.name) true b_Fo_dot R_11 3 (2) 0 0 0 [(0, vr 11 (0)), (1, vi (a1)), (2, vi (a2))] [] μ
  refine J_aload_n (q := 1) 0 d_Fo_dot_0 rfl rfl rfl ?_
  refine J_getF (q := 4) cd_11 (by decide) ft_11_5 rfl g_259 rfl d_Fo_dot_1 rfl ?_
  refine J_iload_n (q := 5) 1 d_Fo_dot_4 rfl rfl rfl ?_
  refine J_iload_n (q := 6) 2 d_Fo_dot_5 rfl rfl rfl ?_
  obtain ⟨r1, hr1, h⟩ := bd_some h
  refine J_callVq (rc := 0) (rs := 0) (q := 9) (as := [vi (a1), vi (a2)]) (st := []) (by decide) rfl g_790 g_791 (t_Im_countAt hr1) (by decide) (by decide) g_789 g_792 g_4 hy_Im_countAt rfl (Nat.le_of_ble_eq_true rfl) d_Fo_dot_6 rfl ?_
  obtain rfl := Option.some.inj h
  exact J_iret rfl ⟨rfl, rfl⟩ d_Fo_dot_9
def m_Im_edge (a1 : Int32) (μ : Mem) : Int32 :=
  if gI μ 2 (0) 4 = 0 then
 ((-1000 : Int32))
 else
 (if a1 = (0 : Int32) then
 (gI μ 2 (0) 5)
 else if a1 = (1 : Int32) then
 (gI μ 2 (0) 6)
 else if a1 = (2 : Int32) then
 (gI μ 2 (0) 7)
 else if a1 = (3 : Int32) then
 (gI μ 2 (0) 8)
 else ((-1000 : Int32)))
theorem t_Im_edge {a1 : Int32} {μ : Mem} {q : Int32} (h : m_Im_edge a1 μ = q) : JM true (0) y_Im_edge b_Im_edge 2 (some (.int)) 0 0 [vr 2 (0), vi (a1)] μ (QQ (some (vi q)) μ) := by
  unfold m_Im_edge at h
  refine JM.of pl_Im_edge (fun ρ => Nat.le_of_ble_eq_true rfl) ?_
  show J (GM true (QQ (some (vi q)) μ) (some (.int)) y_Im_edge.name) true b_Im_edge R_2 2 (0) 0 0 0 [(0, vr 2 (0)), (1, vi (a1))] [] μ
  refine J_aload_n (q := 1) 0 d_Im_edge_0 rfl rfl rfl ?_
  refine J_getI (q := 4) (j := 4) cd_2 (by decide) (Or.inl rfl) g_112 rfl d_Im_edge_1 rfl ?_
  refine J_if_ne (q := 7) (tgt := 11) d_Im_edge_4 (by decide) rfl (fun hc => ?_) (fun hc => ?_)
  · rw [if_neg hc] at h
    refine J_iload_n (q := 12) 1 d_Im_edge_11 rfl rfl rfl ?_
    by_cases hk0 : a1 = (0 : Int32)
    · rw [if_pos hk0] at h
      refine J_swIn (tgt := 44) d_Im_edge_12 (by rw [hk0]; decide) (by rw [hk0]; decide) (by rw [hk0]; rfl) (by decide) ?_
      refine J_aload_n (q := 45) 0 d_Im_edge_44 rfl rfl rfl ?_
      refine J_getI (q := 48) (j := 5) cd_2 (by decide) (Or.inl rfl) g_114 rfl d_Im_edge_45 rfl ?_
      subst h
      exact J_iret rfl ⟨rfl, rfl⟩ d_Im_edge_48
    rw [if_neg hk0] at h
    by_cases hk1 : a1 = (1 : Int32)
    · rw [if_pos hk1] at h
      refine J_swIn (tgt := 49) d_Im_edge_12 (by rw [hk1]; decide) (by rw [hk1]; decide) (by rw [hk1]; rfl) (by decide) ?_
      refine J_aload_n (q := 50) 0 d_Im_edge_49 rfl rfl rfl ?_
      refine J_getI (q := 53) (j := 6) cd_2 (by decide) (Or.inl rfl) g_115 rfl d_Im_edge_50 rfl ?_
      subst h
      exact J_iret rfl ⟨rfl, rfl⟩ d_Im_edge_53
    rw [if_neg hk1] at h
    by_cases hk2 : a1 = (2 : Int32)
    · rw [if_pos hk2] at h
      refine J_swIn (tgt := 54) d_Im_edge_12 (by rw [hk2]; decide) (by rw [hk2]; decide) (by rw [hk2]; rfl) (by decide) ?_
      refine J_aload_n (q := 55) 0 d_Im_edge_54 rfl rfl rfl ?_
      refine J_getI (q := 58) (j := 7) cd_2 (by decide) (Or.inl rfl) g_116 rfl d_Im_edge_55 rfl ?_
      subst h
      exact J_iret rfl ⟨rfl, rfl⟩ d_Im_edge_58
    rw [if_neg hk2] at h
    by_cases hk3 : a1 = (3 : Int32)
    · rw [if_pos hk3] at h
      refine J_swIn (tgt := 59) d_Im_edge_12 (by rw [hk3]; decide) (by rw [hk3]; decide) (by rw [hk3]; rfl) (by decide) ?_
      refine J_aload_n (q := 60) 0 d_Im_edge_59 rfl rfl rfl ?_
      refine J_getI (q := 63) (j := 8) cd_2 (by decide) (Or.inl rfl) g_117 rfl d_Im_edge_60 rfl ?_
      subst h
      exact J_iret rfl ⟨rfl, rfl⟩ d_Im_edge_63
    rw [if_neg hk3] at h
    refine J_swOut (tgt := 64) d_Im_edge_12 (by have e0 := lv_neT hk0 (a := 0) (by decide); have e1 := lv_neT hk1 (a := 1) (by decide); have e2 := lv_neT hk2 (a := 2) (by decide); have e3 := lv_neT hk3 (a := 3) (by decide); omega) (by decide) ?_
    refine J_sipush (q := 67) (v := (-1000 : Int32)) d_Im_edge_64 (by decide) rfl ?_
    subst h
    exact J_iret rfl ⟨rfl, rfl⟩ d_Im_edge_67
  · rw [if_pos hc] at h
    refine J_sipush (q := 10) (v := (-1000 : Int32)) d_Im_edge_7 (by decide) rfl ?_
    subst h
    exact J_iret rfl ⟨rfl, rfl⟩ d_Im_edge_10
def m_Fo_box (a1 : Int32) (μ : Mem) : Int32 :=
  (m_Im_edge (a1) μ)
theorem t_Fo_box {a1 : Int32} {μ : Mem} {q : Int32} (h : m_Fo_box a1 μ = q) : JM true (1) y_Fo_box b_Fo_box 2 (some (.int)) 0 0 [vr 11 (0), vi (a1)] μ (QQ (some (vi q)) μ) := by
  unfold m_Fo_box at h
  refine JM.of pl_Fo_box (fun ρ => Nat.le_of_ble_eq_true rfl) ?_
  show J (GM true (QQ (some (vi q)) μ) (some (.int)) y_Fo_box.name) true b_Fo_box R_11 2 (1) 0 0 0 [(0, vr 11 (0)), (1, vi (a1))] [] μ
  refine J_aload_n (q := 1) 0 d_Fo_box_0 rfl rfl rfl ?_
  refine J_getF (q := 4) cd_11 (by decide) ft_11_5 rfl g_259 rfl d_Fo_box_1 rfl ?_
  refine J_iload_n (q := 5) 1 d_Fo_box_4 rfl rfl rfl ?_
  refine J_callVq (rc := 0) (rs := 0) (q := 8) (as := [vi (a1)]) (st := []) (by decide) rfl g_801 g_802 (t_Im_edge rfl) (by decide) (by decide) g_800 g_803 g_4 hy_Im_edge rfl (Nat.le_of_ble_eq_true rfl) d_Fo_box_5 rfl ?_
  subst h
  exact J_iret rfl ⟨rfl, rfl⟩ d_Fo_box_8
def m_Pr_add (o : Nat) (a1 : Int32) (a2 : Int32) (μ : Mem) : Option (Int32 × Mem) :=
  if gI μ 8 (o) 2 < (100 : Int32) then
 (gu (gI μ 8 (o) 2) 100 <|
  ap (sI μ 260 (o) (gI μ 8 (o) 2).toNatClampNeg (a1)) fun μ2 =>
  gu (gI μ2 8 (o) 2) 100 <|
  ap (sI μ2 261 (o) (gI μ2 8 (o) 2).toNatClampNeg (a2)) fun μ4 =>
  ap (sI μ4 8 (o) 2 ((gI μ4 8 (o) 2) + ((1 : Int32)))) fun μ5 =>
  some ((gI μ5 8 (o) 2, μ5)))
 else
 (some (((-1 : Int32), μ)))
theorem t_Pr_add {o : Nat} {a1 : Int32} {a2 : Int32} {μ : Mem} {q : Int32 × Mem} (h : m_Pr_add o a1 a2 μ = some q) : JM true (0) y_Pr_add b_Pr_add 3 (some (.int)) 0 0 [vr 8 (o), vi (a1), vi (a2)] μ (QQ (some (vi q.1)) q.2) := by
  unfold m_Pr_add at h
  refine JM.of pl_Pr_add (fun ρ => Nat.le_of_ble_eq_true rfl) ?_
  show J (GM true (QQ (some (vi q.1)) q.2) (some (.int)) y_Pr_add.name) true b_Pr_add R_8 3 (0) 0 0 0 [(0, vr 8 (o)), (1, vi (a1)), (2, vi (a2))] [] μ
  refine J_aload_n (q := 1) 0 d_Pr_add_0 rfl rfl rfl ?_
  refine J_getI (q := 4) (j := 2) cd_8 (by decide) (Or.inl rfl) g_374 rfl d_Pr_add_1 rfl ?_
  refine J_bipush (q := 6) (v := (100 : Int32)) d_Pr_add_4 (by decide) rfl ?_
  refine J_icmp_lt (q := 9) (tgt := 11) d_Pr_add_6 (by decide) rfl (fun hc => ?_) (fun hc => ?_)
  · rw [if_pos hc] at h
    refine J_aload_n (q := 12) 0 d_Pr_add_11 rfl rfl rfl ?_
    refine J_getF (q := 15) cd_8 (by decide) ft_8_0 rfl g_370 rfl d_Pr_add_12 rfl ?_
    refine J_aload_n (q := 16) 0 d_Pr_add_15 rfl rfl rfl ?_
    refine J_getI (q := 19) (j := 2) cd_8 (by decide) (Or.inl rfl) g_374 rfl d_Pr_add_16 rfl ?_
    refine J_iload_n (q := 20) 1 d_Pr_add_19 rfl rfl rfl ?_
    obtain ⟨hi1, h⟩ := gu_some h
    refine J_iast (q := 21) rk_260 (by decide) hi1 d_Pr_add_20 rfl ?_
    obtain ⟨μ2, hμ2, h⟩ := ap_eq h
    refine J_nmM hμ2 ?_
    refine J_aload_n (q := 22) 0 d_Pr_add_21 rfl rfl rfl ?_
    refine J_getF (q := 25) cd_8 (by decide) ft_8_1 rfl g_372 rfl d_Pr_add_22 rfl ?_
    refine J_aload_n (q := 26) 0 d_Pr_add_25 rfl rfl rfl ?_
    refine J_getI (q := 29) (j := 2) cd_8 (by decide) (Or.inl rfl) g_374 rfl d_Pr_add_26 rfl ?_
    refine J_iload_n (q := 30) 2 d_Pr_add_29 rfl rfl rfl ?_
    obtain ⟨hi3, h⟩ := gu_some h
    refine J_iast (q := 31) rk_261 (by decide) hi3 d_Pr_add_30 rfl ?_
    obtain ⟨μ4, hμ4, h⟩ := ap_eq h
    refine J_nmM hμ4 ?_
    refine J_aload_n (q := 32) 0 d_Pr_add_31 rfl rfl rfl ?_
    refine J_dupR (q := 33) d_Pr_add_32 rfl ?_
    refine J_getI (q := 36) (j := 2) cd_8 (by decide) (Or.inl rfl) g_374 rfl d_Pr_add_33 rfl ?_
    refine J_iconst (q := 37) (v := (1 : Int32)) d_Pr_add_36 (by decide) rfl ?_
    refine J_iadd (q := 38) d_Pr_add_37 rfl ?_
    refine J_putI (q := 41) (j := 2) cd_8 (by decide) rfl rfl rfl g_374 rfl d_Pr_add_38 rfl ?_
    obtain ⟨μ5, hμ5, h⟩ := ap_eq h
    refine J_nmM hμ5 ?_
    refine J_aload_n (q := 42) 0 d_Pr_add_41 rfl rfl rfl ?_
    refine J_getI (q := 45) (j := 2) cd_8 (by decide) (Or.inl rfl) g_374 rfl d_Pr_add_42 rfl ?_
    obtain rfl := Option.some.inj h
    exact J_iret rfl ⟨rfl, rfl⟩ d_Pr_add_45
  · rw [if_neg hc] at h
    refine J_iconst (q := 10) (v := (-1 : Int32)) d_Pr_add_9 (by decide) rfl ?_
    obtain rfl := Option.some.inj h
    exact J_iret rfl ⟨rfl, rfl⟩ d_Pr_add_10
def m_Fo_act (a1 : Int32) (a2 : Int32) (a3 : Int32) (μ : Mem) : Option (Int32 × Mem) :=
  Option.bind (m_Fo_letterOf (a1) μ) fun r1 =>
  oc r1
 (some (((-1 : Int32), μ)))
 fun y2 => if gI μ 4 (y2) 5 ≤ 0 then
 (if (m_Fo_within ((a2).toInt64) ((0 : Int64)) ((30 : Int64)) μ) then
 (if (m_Fo_within ((a3).toInt64) ((-100000 : Int64)) ((100000 : Int64)) μ) then
 (Option.bind (m_Pr_add (y2) (a2) (a3) μ) fun r3 =>
  ap (r3.2) fun μ4 =>
  ap (r3.1) fun x5 =>
  some ((x5, μ4)))
 else
 (some (((-1 : Int32), μ))))
 else
 (some (((-1 : Int32), μ))))
 else
 (some (((-1 : Int32), μ)))
theorem t_Fo_act {a1 : Int32} {a2 : Int32} {a3 : Int32} {μ : Mem} {q : Int32 × Mem} (h : m_Fo_act a1 a2 a3 μ = some q) : JM true (2) y_Fo_act b_Fo_act 5 (some (.int)) 0 0 [vr 11 (0), vi (a1), vi (a2), vi (a3)] μ (QQ (some (vi q.1)) q.2) := by
  unfold m_Fo_act at h
  refine JM.of pl_Fo_act (fun ρ => Nat.le_of_ble_eq_true rfl) ?_
  show J (GM true (QQ (some (vi q.1)) q.2) (some (.int)) y_Fo_act.name) true b_Fo_act R_11 5 (2) 0 0 0 [(0, vr 11 (0)), (1, vi (a1)), (2, vi (a2)), (3, vi (a3))] [] μ
  refine J_aload_n (q := 1) 0 d_Fo_act_0 rfl rfl rfl ?_
  refine J_iload_n (q := 2) 1 d_Fo_act_1 rfl rfl rfl ?_
  obtain ⟨r1, hr1, h⟩ := bd_some h
  refine J_callVq (rc := 0) (rs := 0) (q := 5) (as := [vi (a1)]) (st := []) (by decide) rfl g_436 sel_Fo_letterOf (t_Fo_letterOf hr1) (by decide) (by decide) g_434 g_437 g_1 hy_Fo_letterOf rfl (Nat.le_of_ble_eq_true rfl) d_Fo_act_2 rfl ?_
  refine J_astore (q := 7) (lv' := [(4, vo 4 (r1)), (0, vr 11 (0)), (1, vi (a1)), (2, vi (a2)), (3, vi (a3))]) d_Fo_act_5 (by decide) rfl rfl ?_
  refine J_aload (q := 9) 0 d_Fo_act_7 rfl rfl ?_
  refine J_nullO (q := 12) (tgt := 20) d_Fo_act_9 (by decide) rfl (fun ho => ?_) (fun y2 ho => ?_)
  · subst ho
    rw [oc_none] at h
    refine J_iconst (q := 21) (v := (-1 : Int32)) d_Fo_act_20 (by decide) rfl ?_
    obtain rfl := Option.some.inj h
    exact J_iret rfl ⟨rfl, rfl⟩ d_Fo_act_21
  · subst ho
    rw [oc_some] at h
    refine J_aload (q := 14) 0 d_Fo_act_12 rfl rfl ?_
    refine J_getI (q := 17) (j := 5) cd_4 (by decide) (Or.inl rfl) g_399 rfl d_Fo_act_14 rfl ?_
    refine J_if_le (q := 20) (tgt := 22) d_Fo_act_17 (by decide) rfl (fun hc => ?_) (fun hc => ?_)
    · rw [if_pos hc] at h
      refine J_iload_n (q := 23) 3 d_Fo_act_22 rfl rfl rfl ?_
      refine J_i2l (q := 24) d_Fo_act_23 rfl ?_
      refine J_lconst (q := 25) (v := (0 : Int64)) d_Fo_act_24 (by decide) rfl ?_
      refine J_ldc2 (q := 28) d_Fo_act_25 g_808 rfl ?_
      refine J_callSq (rc := 0) (rs := 0) (q := 31) (as := [vl ((a2).toInt64), vl ((0 : Int64)), vl ((30 : Int64))]) (st := []) g_300 (t_Fo_within rfl) (by decide) (by decide) g_299 g_301 g_1 hy_Fo_within rfl (Nat.le_of_ble_eq_true rfl) d_Fo_act_28 rfl ?_
      refine J_ifB_eq (q := 34) (tgt := 48) d_Fo_act_31 (by decide) rfl (fun hb => ?_) (fun hb => ?_)
      · rw [iB_f hb] at h
        refine J_iconst (q := 49) (v := (-1 : Int32)) d_Fo_act_48 (by decide) rfl ?_
        obtain rfl := Option.some.inj h
        exact J_iret rfl ⟨rfl, rfl⟩ d_Fo_act_49
      · rw [iB_t hb] at h
        refine J_iload_n (q := 35) 4 d_Fo_act_34 rfl rfl rfl ?_
        refine J_i2l (q := 36) d_Fo_act_35 rfl ?_
        refine J_ldc2 (q := 39) d_Fo_act_36 g_809 rfl ?_
        refine J_ldc2 (q := 42) d_Fo_act_39 g_810 rfl ?_
        refine J_callSq (rc := 0) (rs := 0) (q := 45) (as := [vl ((a3).toInt64), vl ((-100000 : Int64)), vl ((100000 : Int64))]) (st := []) g_300 (t_Fo_within rfl) (by decide) (by decide) g_299 g_301 g_1 hy_Fo_within rfl (Nat.le_of_ble_eq_true rfl) d_Fo_act_42 rfl ?_
        refine J_ifB_ne (q := 48) (tgt := 50) d_Fo_act_45 (by decide) rfl (fun hb => ?_) (fun hb => ?_)
        · rw [iB_t hb] at h
          refine J_aload (q := 52) 0 d_Fo_act_50 rfl rfl ?_
          refine J_getF (q := 55) cd_4 (by decide) ft_4_3 rfl g_394 rfl d_Fo_act_52 rfl ?_
          refine J_iload_n (q := 56) 3 d_Fo_act_55 rfl rfl rfl ?_
          refine J_iload_n (q := 57) 4 d_Fo_act_56 rfl rfl rfl ?_
          obtain ⟨r3, hr3, h⟩ := bd_some h
          refine J_callVq (rc := 0) (rs := 0) (q := 60) (as := [vi (a2), vi (a3)]) (st := []) (by decide) rfl g_812 g_813 (t_Pr_add hr3) (by decide) (by decide) g_811 g_814 g_13 hy_Pr_add rfl (Nat.le_of_ble_eq_true rfl) d_Fo_act_57 rfl ?_
          obtain ⟨μ4, hμ4, h⟩ := ap_eq h
          refine J_nmM hμ4 ?_
          obtain ⟨x5, hx5, h⟩ := ap_eq h
          refine J_nmI hx5 ?_
          obtain rfl := Option.some.inj h
          exact J_iret rfl ⟨rfl, rfl⟩ d_Fo_act_60
        · rw [iB_f hb] at h
          refine J_iconst (q := 49) (v := (-1 : Int32)) d_Fo_act_48 (by decide) rfl ?_
          obtain rfl := Option.some.inj h
          exact J_iret rfl ⟨rfl, rfl⟩ d_Fo_act_49
    · rw [if_neg hc] at h
      refine J_iconst (q := 21) (v := (-1 : Int32)) d_Fo_act_20 (by decide) rfl ?_
      obtain rfl := Option.some.inj h
      exact J_iret rfl ⟨rfl, rfl⟩ d_Fo_act_21
def m_Pr_clear (o : Nat) (μ : Mem) : Int32 × Mem :=
  ap (gI μ 8 (o) 2) fun x1 =>
  ap (sI μ 8 (o) 2 ((0 : Int32))) fun μ2 =>
  (x1, μ2)
theorem t_Pr_clear {o : Nat} {μ : Mem} {q : Int32 × Mem} (h : m_Pr_clear o μ = q) : JM true (0) y_Pr_clear b_Pr_clear 2 (some (.int)) 0 0 [vr 8 (o)] μ (QQ (some (vi q.1)) q.2) := by
  unfold m_Pr_clear at h
  refine JM.of pl_Pr_clear (fun ρ => Nat.le_of_ble_eq_true rfl) ?_
  show J (GM true (QQ (some (vi q.1)) q.2) (some (.int)) y_Pr_clear.name) true b_Pr_clear R_8 2 (0) 0 0 0 [(0, vr 8 (o))] [] μ
  refine J_aload_n (q := 1) 0 d_Pr_clear_0 rfl rfl rfl ?_
  refine J_getI (q := 4) (j := 2) cd_8 (by decide) (Or.inl rfl) g_374 rfl d_Pr_clear_1 rfl ?_
  obtain ⟨x1, hx1, h⟩ := ap_eq h
  refine J_nmI hx1 ?_
  refine J_istore_n (q := 5) (lv' := [(1, vi (x1)), (0, vr 8 (o))]) d_Pr_clear_4 rfl (by decide) rfl rfl ?_
  refine J_aload_n (q := 6) 1 d_Pr_clear_5 rfl rfl rfl ?_
  refine J_iconst (q := 7) (v := (0 : Int32)) d_Pr_clear_6 (by decide) rfl ?_
  refine J_putI (q := 10) (j := 2) cd_8 (by decide) rfl rfl rfl g_374 rfl d_Pr_clear_7 rfl ?_
  obtain ⟨μ2, hμ2, h⟩ := ap_eq h
  refine J_nmM hμ2 ?_
  refine J_iload_n (q := 11) 0 d_Pr_clear_10 rfl rfl rfl ?_
  subst h
  exact J_iret rfl ⟨rfl, rfl⟩ d_Pr_clear_11
def m_Fo_wipe (a1 : Int32) (μ : Mem) : Option (Int32 × Mem) :=
  Option.bind (m_Fo_letterOf (a1) μ) fun r1 =>
  oc r1
 (some (((-1 : Int32), μ)))
 fun y2 => ap (m_Pr_clear (y2) μ) fun r3 =>
  ap (r3.2) fun μ4 =>
  some ((r3.1, μ4))
theorem t_Fo_wipe {a1 : Int32} {μ : Mem} {q : Int32 × Mem} (h : m_Fo_wipe a1 μ = some q) : JM true (2) y_Fo_wipe b_Fo_wipe 3 (some (.int)) 0 0 [vr 11 (0), vi (a1)] μ (QQ (some (vi q.1)) q.2) := by
  unfold m_Fo_wipe at h
  refine JM.of pl_Fo_wipe (fun ρ => Nat.le_of_ble_eq_true rfl) ?_
  show J (GM true (QQ (some (vi q.1)) q.2) (some (.int)) y_Fo_wipe.name) true b_Fo_wipe R_11 3 (2) 0 0 0 [(0, vr 11 (0)), (1, vi (a1))] [] μ
  refine J_aload_n (q := 1) 0 d_Fo_wipe_0 rfl rfl rfl ?_
  refine J_iload_n (q := 2) 1 d_Fo_wipe_1 rfl rfl rfl ?_
  obtain ⟨r1, hr1, h⟩ := bd_some h
  refine J_callVq (rc := 0) (rs := 0) (q := 5) (as := [vi (a1)]) (st := []) (by decide) rfl g_436 sel_Fo_letterOf (t_Fo_letterOf hr1) (by decide) (by decide) g_434 g_437 g_1 hy_Fo_letterOf rfl (Nat.le_of_ble_eq_true rfl) d_Fo_wipe_2 rfl ?_
  refine J_astore_n (q := 6) (lv' := [(2, vo 4 (r1)), (0, vr 11 (0)), (1, vi (a1))]) d_Fo_wipe_5 rfl (by decide) rfl rfl ?_
  refine J_aload_n (q := 7) 0 d_Fo_wipe_6 rfl rfl rfl ?_
  refine J_nonnullO (q := 10) (tgt := 14) d_Fo_wipe_7 (by decide) rfl (fun y2 ho => ?_) (fun ho => ?_)
  · subst ho
    rw [oc_some] at h
    refine J_aload_n (q := 15) 0 d_Fo_wipe_14 rfl rfl rfl ?_
    refine J_getF (q := 18) cd_4 (by decide) ft_4_3 rfl g_394 rfl d_Fo_wipe_15 rfl ?_
    obtain ⟨r3, hr3, h⟩ := ap_eq h
    refine J_callVq (rc := 0) (rs := 0) (q := 21) (as := []) (st := []) (by decide) rfl g_820 g_821 (t_Pr_clear hr3.symm) (by decide) (by decide) g_819 g_822 g_13 hy_Pr_clear rfl (Nat.le_of_ble_eq_true rfl) d_Fo_wipe_18 rfl ?_
    obtain ⟨μ4, hμ4, h⟩ := ap_eq h
    refine J_nmM hμ4 ?_
    obtain rfl := Option.some.inj h
    exact J_iret rfl ⟨rfl, rfl⟩ d_Fo_wipe_21
  · subst ho
    rw [oc_none] at h
    refine J_iconst (q := 11) (v := (-1 : Int32)) d_Fo_wipe_10 (by decide) rfl ?_
    refine J_goto (q := 21) d_Fo_wipe_11 (by decide) ?_
    obtain rfl := Option.some.inj h
    exact J_iret rfl ⟨rfl, rfl⟩ d_Fo_wipe_21
def lp_Fit_start_18 (o : Nat) (a1 : Nat) (a2 : Int32) (c_43 : Mem → Option (Mem)) : Nat → Int32 → Mem → Option (Mem)
  | 0, _, _ => none
  | n + 1, y3, μ =>
  if gI μ 0 (o) 4 ≤ y3 then
 (c_43 μ)
 else
 (Option.bind (m_Sh_endOf (a1) (y3) μ) fun r8 =>
  gu (y3) 8 <|
  ap (sI μ 103 (o) y3.toNatClampNeg (r8)) fun μ10 =>
  ap (y3 + (1 : Int32)) fun x11 =>
  lp_Fit_start_18 o a1 a2 c_43 n (x11) μ10)
theorem tl_Fit_start_18 (o : Nat) (a1 : Nat) (a2 : Int32) {q : Mem} {c_43 : Mem → Option (Mem)} (hc_43 : ∀ (μ : Mem), c_43  μ = some q → J (GM true (QQ none q) none y_Fit_start.name) true b_Fit_start R_0 5 (3) 0 0 43 [(0, vr 0 (o)), (1, vr 10 (a1)), (2, vi (a2))] [] μ) : ∀ (n : Nat) (y3 : Int32) (μ : Mem), lp_Fit_start_18 o a1 a2 c_43 n y3 μ = some q → J (GM true (QQ none q) none y_Fit_start.name) true b_Fit_start R_0 5 (3) 0 0 18 [(0, vr 0 (o)), (1, vr 10 (a1)), (2, vi (a2)), (3, vi (y3))] [] μ := by
  intro n
  induction n with
  | zero => intro _ _ h; cases h
  | succ n ih =>
    intro y3 μ h
    unfold lp_Fit_start_18 at h
    refine J_iload_n (q := 19) 3 d_Fit_start_18 rfl rfl rfl ?_
    refine J_aload_n (q := 20) 0 d_Fit_start_19 rfl rfl rfl ?_
    refine J_getI (q := 23) (j := 4) cd_0 (by decide) (Or.inl rfl) g_177 rfl d_Fit_start_20 rfl ?_
    refine J_icmp_ge (q := 26) (tgt := 43) d_Fit_start_23 (by decide) rfl (fun hc => ?_) (fun hc => ?_)
    · rw [if_pos hc] at h
      refine J_pick [0, 1, 2] rfl ?_
      exact hc_43 _ h
    · rw [if_neg hc] at h
      refine J_aload_n (q := 27) 0 d_Fit_start_26 rfl rfl rfl ?_
      refine J_getF (q := 30) cd_0 (by decide) ft_0_3 rfl g_176 rfl d_Fit_start_27 rfl ?_
      refine J_iload_n (q := 31) 3 d_Fit_start_30 rfl rfl rfl ?_
      refine J_aload_n (q := 32) 1 d_Fit_start_31 rfl rfl rfl ?_
      refine J_iload_n (q := 33) 3 d_Fit_start_32 rfl rfl rfl ?_
      obtain ⟨r8, hr8, h⟩ := bd_some h
      refine J_callVq (rc := 0) (rs := 0) (q := 36) (as := [vi (y3)]) (st := [vi (y3), vr 103 (o)]) (by decide) rfl g_513 g_514 (t_Sh_endOf hr8) (by decide) (by decide) g_832 g_515 g_12 hy_Sh_endOf rfl (Nat.le_of_ble_eq_true rfl) d_Fit_start_33 rfl ?_
      obtain ⟨hi9, h⟩ := gu_some h
      refine J_iast (q := 37) rk_103 (by decide) hi9 d_Fit_start_36 rfl ?_
      obtain ⟨μ10, hμ10, h⟩ := ap_eq h
      refine J_nmM hμ10 ?_
      obtain ⟨x11, hx11, h⟩ := ap_eq h
      refine J_iinc (q := 40) (v := x11) (lv' := [(3, vi (x11)), (0, vr 0 (o)), (1, vr 10 (a1)), (2, vi (a2))]) 3 d_Fit_start_37 rfl (by rw [hx11]; rfl) (by decide) rfl rfl ?_
      refine J_goto (q := 18) d_Fit_start_40 (by decide) ?_
      refine J_pick [1, 2, 3, 0] rfl ?_
      exact ih _ _ h
def lp_Fit_start_114 (o : Nat) (a1 : Nat) (a2 : Int32) (c_154 : Int32 → Mem → Option (Mem)) : Nat → Int32 → Int32 → Mem → Option (Mem)
  | 0, _, _, _ => none
  | n + 1, y3, y4, μ =>
  if (2 : Int32) ≤ y4 then
 (c_154 (y3) μ)
 else
 (gu (y4) 2 <|
  gu (y4) 2 <|
  gu (y3) 100 <|
  gu (y3) 100 <|
  ap (sI μ 501 (2 * o + y4.toNatClampNeg) y3.toNatClampNeg (gI μ 500 (2 * o + y4.toNatClampNeg) y3.toNatClampNeg)) fun μ35 =>
  gu (y4) 2 <|
  gu (y3) 100 <|
  ap (sI μ35 502 (2 * o + y4.toNatClampNeg) y3.toNatClampNeg ((0 : Int32))) fun μ38 =>
  ap (y4 + (1 : Int32)) fun x39 =>
  lp_Fit_start_114 o a1 a2 c_154 n (y3) (x39) μ38)
theorem tl_Fit_start_114 (o : Nat) (a1 : Nat) (a2 : Int32) {q : Mem} {c_154 : Int32 → Mem → Option (Mem)} (hc_154 : ∀ (y3 : Int32) (μ : Mem), c_154 y3 μ = some q → J (GM true (QQ none q) none y_Fit_start.name) true b_Fit_start R_0 5 (3) 0 0 154 [(0, vr 0 (o)), (1, vr 10 (a1)), (2, vi (a2)), (3, vi (y3))] [] μ) : ∀ (n : Nat) (y3 : Int32) (y4 : Int32) (μ : Mem), lp_Fit_start_114 o a1 a2 c_154 n y3 y4 μ = some q → J (GM true (QQ none q) none y_Fit_start.name) true b_Fit_start R_0 5 (3) 0 0 114 [(0, vr 0 (o)), (1, vr 10 (a1)), (2, vi (a2)), (3, vi (y3)), (4, vi (y4))] [] μ := by
  intro n
  induction n with
  | zero => intro _ _ _ h; cases h
  | succ n ih =>
    intro y3 y4 μ h
    unfold lp_Fit_start_114 at h
    refine J_iload (q := 116) 4 d_Fit_start_114 rfl rfl ?_
    refine J_iconst (q := 117) (v := (2 : Int32)) d_Fit_start_116 (by decide) rfl ?_
    refine J_icmp_ge (q := 120) (tgt := 154) d_Fit_start_117 (by decide) rfl (fun hc => ?_) (fun hc => ?_)
    · rw [if_pos hc] at h
      refine J_pick [0, 1, 2, 3] rfl ?_
      exact hc_154 _ _ h
    · rw [if_neg hc] at h
      refine J_aload_n (q := 121) 0 d_Fit_start_120 rfl rfl rfl ?_
      refine J_getF (q := 124) cd_0 (by decide) ft_0_1 rfl g_171 rfl d_Fit_start_121 rfl ?_
      refine J_iload (q := 126) 4 d_Fit_start_124 rfl rfl ?_
      obtain ⟨hi31, h⟩ := gu_some h
      refine J_ald6 (q := 127) rk_101 (by decide) hi31 d_Fit_start_126 rfl ?_
      refine J_iload_n (q := 128) 3 d_Fit_start_127 rfl rfl rfl ?_
      refine J_aload_n (q := 129) 0 d_Fit_start_128 rfl rfl rfl ?_
      refine J_getF (q := 132) cd_0 (by decide) ft_0_0 rfl g_170 rfl d_Fit_start_129 rfl ?_
      refine J_iload (q := 134) 4 d_Fit_start_132 rfl rfl ?_
      obtain ⟨hi32, h⟩ := gu_some h
      refine J_ald6 (q := 135) rk_100 (by decide) hi32 d_Fit_start_134 rfl ?_
      refine J_iload_n (q := 136) 3 d_Fit_start_135 rfl rfl rfl ?_
      obtain ⟨hi33, h⟩ := gu_some h
      refine J_iald (q := 137) rk_500 (by decide) hi33 d_Fit_start_136 rfl ?_
      obtain ⟨hi34, h⟩ := gu_some h
      refine J_iast (q := 138) rk_501 (by decide) hi34 d_Fit_start_137 rfl ?_
      obtain ⟨μ35, hμ35, h⟩ := ap_eq h
      refine J_nmM hμ35 ?_
      refine J_aload_n (q := 139) 0 d_Fit_start_138 rfl rfl rfl ?_
      refine J_getF (q := 142) cd_0 (by decide) ft_0_2 rfl g_174 rfl d_Fit_start_139 rfl ?_
      refine J_iload (q := 144) 4 d_Fit_start_142 rfl rfl ?_
      obtain ⟨hi36, h⟩ := gu_some h
      refine J_ald6 (q := 145) rk_102 (by decide) hi36 d_Fit_start_144 rfl ?_
      refine J_iload_n (q := 146) 3 d_Fit_start_145 rfl rfl rfl ?_
      refine J_iconst (q := 147) (v := (0 : Int32)) d_Fit_start_146 (by decide) rfl ?_
      obtain ⟨hi37, h⟩ := gu_some h
      refine J_iast (q := 148) rk_502 (by decide) hi37 d_Fit_start_147 rfl ?_
      obtain ⟨μ38, hμ38, h⟩ := ap_eq h
      refine J_nmM hμ38 ?_
      obtain ⟨x39, hx39, h⟩ := ap_eq h
      refine J_iinc (q := 151) (v := x39) (lv' := [(4, vi (x39)), (0, vr 0 (o)), (1, vr 10 (a1)), (2, vi (a2)), (3, vi (y3))]) 4 d_Fit_start_148 rfl (by rw [hx39]; rfl) (by decide) rfl rfl ?_
      refine J_goto (q := 114) d_Fit_start_151 (by decide) ?_
      refine J_pick [1, 2, 3, 4, 0] rfl ?_
      exact ih _ _ _ h
def mj_Fit_start_154 (o : Nat) (a1 : Nat) (a2 : Int32) (c_45 : Int32 → Mem → Option (Mem)) (y3 : Int32) (μ : Mem) : Option (Mem) :=
  ap (y3 + (1 : Int32)) fun x40 =>
  c_45 (x40) μ
theorem tj_Fit_start_154 (o : Nat) (a1 : Nat) (a2 : Int32) {q : Mem} {c_45 : Int32 → Mem → Option (Mem)} (hc_45 : ∀ (y3 : Int32) (μ : Mem), c_45 y3 μ = some q → J (GM true (QQ none q) none y_Fit_start.name) true b_Fit_start R_0 5 (3) 0 0 45 [(0, vr 0 (o)), (1, vr 10 (a1)), (2, vi (a2)), (3, vi (y3))] [] μ) (y3 : Int32) (μ : Mem) (h : mj_Fit_start_154 o a1 a2 c_45 y3 μ = some q) : J (GM true (QQ none q) none y_Fit_start.name) true b_Fit_start R_0 5 (3) 0 0 154 [(0, vr 0 (o)), (1, vr 10 (a1)), (2, vi (a2)), (3, vi (y3))] [] μ := by
  unfold mj_Fit_start_154 at h
  obtain ⟨x40, hx40, h⟩ := ap_eq h
  refine J_iinc (q := 157) (v := x40) (lv' := [(3, vi (x40)), (0, vr 0 (o)), (1, vr 10 (a1)), (2, vi (a2))]) 3 d_Fit_start_154 rfl (by rw [hx40]; rfl) (by decide) rfl rfl ?_
  refine J_goto (q := 45) d_Fit_start_157 (by decide) ?_
  refine J_pick [1, 2, 3, 0] rfl ?_
  exact hc_45 _ _ h
def lp_Fit_start_45 (o : Nat) (a1 : Nat) (a2 : Int32) : Nat → Int32 → Mem → Option (Mem)
  | 0, _, _ => none
  | n + 1, y3, μ =>
  if gI μ 0 (o) 5 ≤ y3 then
 (some μ)
 else
 (gu ((0 : Int32)) 2 <|
  gu (y3) 100 <|
  Option.bind (m_Fo_rounded ((((64 : Int64)) * ((a2).toInt64)) * ((gI μ 300 (a1) y3.toNatClampNeg).toInt64)) ((1024 : Int64)) μ) fun r43 =>
  gu (y3) 100 <|
  ap (sI μ 500 (2 * o + ((0 : Int32)).toNatClampNeg) y3.toNatClampNeg ((r43).toInt32)) fun μ45 =>
  gu ((1 : Int32)) 2 <|
  gu (y3) 100 <|
  Option.bind (m_Fo_rounded ((((64 : Int64)) * ((a2).toInt64)) * ((gI μ45 301 (a1) y3.toNatClampNeg).toInt64)) ((1024 : Int64)) μ45) fun r48 =>
  gu (y3) 100 <|
  ap (sI μ45 500 (2 * o + ((1 : Int32)).toNatClampNeg) y3.toNatClampNeg ((r48).toInt32)) fun μ50 =>
  lp_Fit_start_114 o a1 a2 (mj_Fit_start_154 o a1 a2 (lp_Fit_start_45 o a1 a2 n)) FU (y3) ((0 : Int32)) μ50)
theorem tl_Fit_start_45 (o : Nat) (a1 : Nat) (a2 : Int32) {q : Mem}  : ∀ (n : Nat) (y3 : Int32) (μ : Mem), lp_Fit_start_45 o a1 a2 n y3 μ = some q → J (GM true (QQ none q) none y_Fit_start.name) true b_Fit_start R_0 5 (3) 0 0 45 [(0, vr 0 (o)), (1, vr 10 (a1)), (2, vi (a2)), (3, vi (y3))] [] μ := by
  intro n
  induction n with
  | zero => intro _ _ h; cases h
  | succ n ih =>
    intro y3 μ h
    unfold lp_Fit_start_45 at h
    refine J_iload_n (q := 46) 3 d_Fit_start_45 rfl rfl rfl ?_
    refine J_aload_n (q := 47) 0 d_Fit_start_46 rfl rfl rfl ?_
    refine J_getI (q := 50) (j := 5) cd_0 (by decide) (Or.inl rfl) g_178 rfl d_Fit_start_47 rfl ?_
    refine J_icmp_ge (q := 53) (tgt := 160) d_Fit_start_50 (by decide) rfl (fun hc => ?_) (fun hc => ?_)
    · rw [if_pos hc] at h
      obtain rfl := Option.some.inj h
      exact J_vret rfl ⟨rfl, rfl⟩ d_Fit_start_160
    · rw [if_neg hc] at h
      refine J_aload_n (q := 54) 0 d_Fit_start_53 rfl rfl rfl ?_
      refine J_getF (q := 57) cd_0 (by decide) ft_0_0 rfl g_170 rfl d_Fit_start_54 rfl ?_
      refine J_iconst (q := 58) (v := (0 : Int32)) d_Fit_start_57 (by decide) rfl ?_
      obtain ⟨hi41, h⟩ := gu_some h
      refine J_ald6 (q := 59) rk_100 (by decide) hi41 d_Fit_start_58 rfl ?_
      refine J_iload_n (q := 60) 3 d_Fit_start_59 rfl rfl rfl ?_
      refine J_ldc2 (q := 63) d_Fit_start_60 g_833 rfl ?_
      refine J_iload_n (q := 64) 2 d_Fit_start_63 rfl rfl rfl ?_
      refine J_i2l (q := 65) d_Fit_start_64 rfl ?_
      refine J_lmul (q := 66) d_Fit_start_65 rfl ?_
      refine J_aload_n (q := 67) 1 d_Fit_start_66 rfl rfl rfl ?_
      refine J_getF (q := 70) cd_10 (by decide) ft_10_0 rfl g_323 rfl d_Fit_start_67 rfl ?_
      refine J_iload_n (q := 71) 3 d_Fit_start_70 rfl rfl rfl ?_
      obtain ⟨hi42, h⟩ := gu_some h
      refine J_iald (q := 72) rk_300 (by decide) hi42 d_Fit_start_71 rfl ?_
      refine J_i2l (q := 73) d_Fit_start_72 rfl ?_
      refine J_lmul (q := 74) d_Fit_start_73 rfl ?_
      refine J_ldc2 (q := 77) d_Fit_start_74 g_834 rfl ?_
      obtain ⟨r43, hr43, h⟩ := bd_some h
      refine J_callSNq (rc := 0) (rs := 0) (q := 80) (as := [vl ((((64 : Int64)) * ((a2).toInt64)) * ((gI μ 300 (a1) y3.toNatClampNeg).toInt64)), vl ((1024 : Int64))]) (st := [vi (y3), vr 500 (2 * o + ((0 : Int32)).toNatClampNeg)]) g_630 (t_Fo_rounded hr43) (by decide) (by decide) nn_15 g_631 g_1 hy_Fo_rounded rfl (Nat.le_of_ble_eq_true rfl) d_Fit_start_77 rfl ?_
      refine J_l2i (q := 81) d_Fit_start_80 rfl ?_
      obtain ⟨hi44, h⟩ := gu_some h
      refine J_iast (q := 82) rk_500 (by decide) hi44 d_Fit_start_81 rfl ?_
      obtain ⟨μ45, hμ45, h⟩ := ap_eq h
      refine J_nmM hμ45 ?_
      refine J_aload_n (q := 83) 0 d_Fit_start_82 rfl rfl rfl ?_
      refine J_getF (q := 86) cd_0 (by decide) ft_0_0 rfl g_170 rfl d_Fit_start_83 rfl ?_
      refine J_iconst (q := 87) (v := (1 : Int32)) d_Fit_start_86 (by decide) rfl ?_
      obtain ⟨hi46, h⟩ := gu_some h
      refine J_ald6 (q := 88) rk_100 (by decide) hi46 d_Fit_start_87 rfl ?_
      refine J_iload_n (q := 89) 3 d_Fit_start_88 rfl rfl rfl ?_
      refine J_ldc2 (q := 92) d_Fit_start_89 g_833 rfl ?_
      refine J_iload_n (q := 93) 2 d_Fit_start_92 rfl rfl rfl ?_
      refine J_i2l (q := 94) d_Fit_start_93 rfl ?_
      refine J_lmul (q := 95) d_Fit_start_94 rfl ?_
      refine J_aload_n (q := 96) 1 d_Fit_start_95 rfl rfl rfl ?_
      refine J_getF (q := 99) cd_10 (by decide) ft_10_1 rfl g_327 rfl d_Fit_start_96 rfl ?_
      refine J_iload_n (q := 100) 3 d_Fit_start_99 rfl rfl rfl ?_
      obtain ⟨hi47, h⟩ := gu_some h
      refine J_iald (q := 101) rk_301 (by decide) hi47 d_Fit_start_100 rfl ?_
      refine J_i2l (q := 102) d_Fit_start_101 rfl ?_
      refine J_lmul (q := 103) d_Fit_start_102 rfl ?_
      refine J_ldc2 (q := 106) d_Fit_start_103 g_834 rfl ?_
      obtain ⟨r48, hr48, h⟩ := bd_some h
      refine J_callSNq (rc := 0) (rs := 0) (q := 109) (as := [vl ((((64 : Int64)) * ((a2).toInt64)) * ((gI μ45 301 (a1) y3.toNatClampNeg).toInt64)), vl ((1024 : Int64))]) (st := [vi (y3), vr 500 (2 * o + ((1 : Int32)).toNatClampNeg)]) g_630 (t_Fo_rounded hr48) (by decide) (by decide) nn_15 g_631 g_1 hy_Fo_rounded rfl (Nat.le_of_ble_eq_true rfl) d_Fit_start_106 rfl ?_
      refine J_l2i (q := 110) d_Fit_start_109 rfl ?_
      obtain ⟨hi49, h⟩ := gu_some h
      refine J_iast (q := 111) rk_500 (by decide) hi49 d_Fit_start_110 rfl ?_
      obtain ⟨μ50, hμ50, h⟩ := ap_eq h
      refine J_nmM hμ50 ?_
      refine J_iconst (q := 112) (v := (0 : Int32)) d_Fit_start_111 (by decide) rfl ?_
      refine J_istore (q := 114) (lv' := [(4, vi ((0 : Int32))), (0, vr 0 (o)), (1, vr 10 (a1)), (2, vi (a2)), (3, vi (y3))]) d_Fit_start_112 (by decide) rfl rfl ?_
      refine J_pick [1, 2, 3, 4, 0] rfl ?_
      exact tl_Fit_start_114 o a1 a2 (fun _ _ h => tj_Fit_start_154 o a1 a2 ih _ _ h) FU _ _ _ h
def mj_Fit_start_43 (o : Nat) (a1 : Nat) (a2 : Int32) (μ : Mem) : Option (Mem) :=
  lp_Fit_start_45 o a1 a2 FU ((0 : Int32)) μ
theorem tj_Fit_start_43 (o : Nat) (a1 : Nat) (a2 : Int32) {q : Mem}  (μ : Mem) (h : mj_Fit_start_43 o a1 a2  μ = some q) : J (GM true (QQ none q) none y_Fit_start.name) true b_Fit_start R_0 5 (3) 0 0 43 [(0, vr 0 (o)), (1, vr 10 (a1)), (2, vi (a2))] [] μ := by
  unfold mj_Fit_start_43 at h
  refine J_iconst (q := 44) (v := (0 : Int32)) d_Fit_start_43 (by decide) rfl ?_
  refine J_istore_n (q := 45) (lv' := [(3, vi ((0 : Int32))), (0, vr 0 (o)), (1, vr 10 (a1)), (2, vi (a2))]) d_Fit_start_44 rfl (by decide) rfl rfl ?_
  refine J_pick [1, 2, 3, 0] rfl ?_
  exact tl_Fit_start_45 o a1 a2 FU _ _ h
def m_Fit_start (o : Nat) (a1 : Nat) (a2 : Int32) (μ : Mem) : Option (Mem) :=
  Option.bind (m_Sh_closedPoints (a1) μ) fun r1 =>
  ap (sI μ 0 (o) 5 (r1)) fun μ2 =>
  ap (sI μ2 0 (o) 4 (gI μ2 10 (a1) 6)) fun μ3 =>
  lp_Fit_start_18 o a1 a2 (mj_Fit_start_43 o a1 a2) FU ((0 : Int32)) μ3
theorem t_Fit_start {o : Nat} {a1 : Nat} {a2 : Int32} {μ : Mem} {q : Mem} (h : m_Fit_start o a1 a2 μ = some q) : JM true (3) y_Fit_start b_Fit_start 5 none 0 0 [vr 0 (o), vr 10 (a1), vi (a2)] μ (QQ none q) := by
  unfold m_Fit_start at h
  refine JM.of pl_Fit_start (fun ρ => Nat.le_of_ble_eq_true rfl) ?_
  show J (GM true (QQ none q) none y_Fit_start.name) true b_Fit_start R_0 5 (3) 0 0 0 [(0, vr 0 (o)), (1, vr 10 (a1)), (2, vi (a2))] [] μ
  refine J_aload_n (q := 1) 0 d_Fit_start_0 rfl rfl rfl ?_
  refine J_aload_n (q := 2) 1 d_Fit_start_1 rfl rfl rfl ?_
  obtain ⟨r1, hr1, h⟩ := bd_some h
  refine J_callVq (rc := 0) (rs := 0) (q := 5) (as := []) (st := [vr 0 (o)]) (by decide) rfl g_460 g_461 (t_Sh_closedPoints hr1) (by decide) (by decide) g_831 g_462 g_12 hy_Sh_closedPoints rfl (Nat.le_of_ble_eq_true rfl) d_Fit_start_2 rfl ?_
  refine J_putI (q := 8) (j := 5) cd_0 (by decide) rfl rfl rfl g_178 rfl d_Fit_start_5 rfl ?_
  obtain ⟨μ2, hμ2, h⟩ := ap_eq h
  refine J_nmM hμ2 ?_
  refine J_aload_n (q := 9) 0 d_Fit_start_8 rfl rfl rfl ?_
  refine J_aload_n (q := 10) 1 d_Fit_start_9 rfl rfl rfl ?_
  refine J_getI (q := 13) (j := 6) cd_10 (by decide) (Or.inl rfl) g_339 rfl d_Fit_start_10 rfl ?_
  refine J_putI (q := 16) (j := 4) cd_0 (by decide) rfl rfl rfl g_177 rfl d_Fit_start_13 rfl ?_
  obtain ⟨μ3, hμ3, h⟩ := ap_eq h
  refine J_nmM hμ3 ?_
  refine J_iconst (q := 17) (v := (0 : Int32)) d_Fit_start_16 (by decide) rfl ?_
  refine J_istore_n (q := 18) (lv' := [(3, vi ((0 : Int32))), (0, vr 0 (o)), (1, vr 10 (a1)), (2, vi (a2))]) d_Fit_start_17 rfl (by decide) rfl rfl ?_
  refine J_pick [1, 2, 3, 0] rfl ?_
  exact tl_Fit_start_18 o a1 a2 (fun _ h => tj_Fit_start_43 o a1 a2 _ h) FU _ _ h
def mj_Fit_placeBetween_88 (o : Nat) (a1 : Int32) (a2 : Int32) (a3 : Int32) (a4 : Int64) (μ : Mem) (y6 : Int64) (y8 : Int64) (y10 : Int64) (y12 : Int64) (y14 : Int64) (z0 : Int64) : Option (Int64) :=
  if (m_Ma_min (y6) (y8) μ) < a4 then
 (if a4 < (m_Ma_max2 (y6) (y8) μ) then
 (Option.bind (m_Fo_rounded ((a4 - y6) * (y12 - y10)) (y8 - y6) μ) fun r13 =>
  some (y10 + r13))
 else
 (some (a4 + z0)))
 else
 (some (a4 + y14))
theorem tj_Fit_placeBetween_88 (o : Nat) (a1 : Int32) (a2 : Int32) (a3 : Int32) (a4 : Int64) (μ : Mem) {q : Int64}  (y6 : Int64) (y8 : Int64) (y10 : Int64) (y12 : Int64) (y14 : Int64) (z0 : Int64) (h : mj_Fit_placeBetween_88 o a1 a2 a3 a4 μ y6 y8 y10 y12 y14 z0 = some q) : J (GM true (QQ (some (vl q)) μ) (some (.long)) y_Fit_placeBetween.name) true b_Fit_placeBetween R_0 18 (2) 0 0 88 [(4, vl (a4)), (6, vl (y6)), (8, vl (y8)), (10, vl (y10)), (12, vl (y12)), (14, vl (y14))] [vl (z0)] μ := by
  unfold mj_Fit_placeBetween_88 at h
  refine J_lstore (q := 90) (lv' := [(16, vl (z0)), (4, vl (a4)), (6, vl (y6)), (8, vl (y8)), (10, vl (y10)), (12, vl (y12)), (14, vl (y14))]) d_Fit_placeBetween_88 (by decide) rfl rfl ?_
  refine J_lload (q := 92) 1 d_Fit_placeBetween_90 rfl rfl ?_
  refine J_lload (q := 94) 2 d_Fit_placeBetween_92 rfl rfl ?_
  refine J_lload (q := 96) 3 d_Fit_placeBetween_94 rfl rfl ?_
  refine J_callSq (rc := 0) (rs := 0) (q := 99) (as := [vl (y6), vl (y8)]) (st := [vl (a4)]) g_764 (t_Ma_min rfl) (by decide) (by decide) g_934 g_765 g_15 hy_Ma_min rfl (Nat.le_of_ble_eq_true rfl) d_Fit_placeBetween_96 rfl ?_
  refine J_lif_gt (q := 103) (tgt := 109) d_Fit_placeBetween_99 d_Fit_placeBetween_100 (by decide) rfl (fun hc => ?_) (fun hc => ?_)
  · rw [if_pos hc] at h
    refine J_lload (q := 111) 1 d_Fit_placeBetween_109 rfl rfl ?_
    refine J_lload (q := 113) 2 d_Fit_placeBetween_111 rfl rfl ?_
    refine J_lload (q := 115) 3 d_Fit_placeBetween_113 rfl rfl ?_
    refine J_callSq (rc := 0) (rs := 0) (q := 118) (as := [vl (y6), vl (y8)]) (st := [vl (a4)]) g_767 (t_Ma_max2 rfl) (by decide) (by decide) g_935 g_768 g_15 hy_Ma_max2 rfl (Nat.le_of_ble_eq_true rfl) d_Fit_placeBetween_115 rfl ?_
    refine J_lif_lt (q := 122) (tgt := 128) d_Fit_placeBetween_118 d_Fit_placeBetween_119 (by decide) rfl (fun hc => ?_) (fun hc => ?_)
    · rw [if_pos hc] at h
      refine J_lload (q := 130) 4 d_Fit_placeBetween_128 rfl rfl ?_
      refine J_lload (q := 132) 1 d_Fit_placeBetween_130 rfl rfl ?_
      refine J_lload (q := 134) 2 d_Fit_placeBetween_132 rfl rfl ?_
      refine J_lsub (q := 135) d_Fit_placeBetween_134 rfl ?_
      refine J_lload (q := 137) 5 d_Fit_placeBetween_135 rfl rfl ?_
      refine J_lload (q := 139) 4 d_Fit_placeBetween_137 rfl rfl ?_
      refine J_lsub (q := 140) d_Fit_placeBetween_139 rfl ?_
      refine J_lmul (q := 141) d_Fit_placeBetween_140 rfl ?_
      refine J_lload (q := 143) 3 d_Fit_placeBetween_141 rfl rfl ?_
      refine J_lload (q := 145) 2 d_Fit_placeBetween_143 rfl rfl ?_
      refine J_lsub (q := 146) d_Fit_placeBetween_145 rfl ?_
      obtain ⟨r13, hr13, h⟩ := bd_some h
      refine J_callSNq (rc := 0) (rs := 0) (q := 149) (as := [vl ((a4 - y6) * (y12 - y10)), vl (y8 - y6)]) (st := [vl (y10)]) g_630 (t_Fo_rounded hr13) (by decide) (by decide) nn_15 g_631 g_1 hy_Fo_rounded rfl (Nat.le_of_ble_eq_true rfl) d_Fit_placeBetween_146 rfl ?_
      refine J_ladd (q := 150) d_Fit_placeBetween_149 rfl ?_
      obtain rfl := Option.some.inj h
      exact J_lret rfl ⟨rfl, rfl⟩ d_Fit_placeBetween_150
    · rw [if_neg hc] at h
      refine J_lload (q := 124) 1 d_Fit_placeBetween_122 rfl rfl ?_
      refine J_lload (q := 126) 0 d_Fit_placeBetween_124 rfl rfl ?_
      refine J_ladd (q := 127) d_Fit_placeBetween_126 rfl ?_
      obtain rfl := Option.some.inj h
      exact J_lret rfl ⟨rfl, rfl⟩ d_Fit_placeBetween_127
  · rw [if_neg hc] at h
    refine J_lload (q := 105) 1 d_Fit_placeBetween_103 rfl rfl ?_
    refine J_lload (q := 107) 6 d_Fit_placeBetween_105 rfl rfl ?_
    refine J_ladd (q := 108) d_Fit_placeBetween_107 rfl ?_
    obtain rfl := Option.some.inj h
    exact J_lret rfl ⟨rfl, rfl⟩ d_Fit_placeBetween_108
def mj_Fit_placeBetween_65 (o : Nat) (a1 : Int32) (a2 : Int32) (a3 : Int32) (a4 : Int64) (μ : Mem) (y6 : Int64) (y8 : Int64) (y10 : Int64) (y12 : Int64) (z0 : Int64) : Option (Int64) :=
  if y6 < y8 then
 (mj_Fit_placeBetween_88 o a1 a2 a3 a4 μ (y6) (y8) (y10) (y12) (z0) (y12 - y8))
 else
 (mj_Fit_placeBetween_88 o a1 a2 a3 a4 μ (y6) (y8) (y10) (y12) (z0) (y10 - y6))
theorem tj_Fit_placeBetween_65 (o : Nat) (a1 : Int32) (a2 : Int32) (a3 : Int32) (a4 : Int64) (μ : Mem) {q : Int64}  (y6 : Int64) (y8 : Int64) (y10 : Int64) (y12 : Int64) (z0 : Int64) (h : mj_Fit_placeBetween_65 o a1 a2 a3 a4 μ y6 y8 y10 y12 z0 = some q) : J (GM true (QQ (some (vl q)) μ) (some (.long)) y_Fit_placeBetween.name) true b_Fit_placeBetween R_0 18 (2) 0 0 65 [(4, vl (a4)), (6, vl (y6)), (8, vl (y8)), (10, vl (y10)), (12, vl (y12))] [vl (z0)] μ := by
  unfold mj_Fit_placeBetween_65 at h
  refine J_lstore (q := 67) (lv' := [(14, vl (z0)), (4, vl (a4)), (6, vl (y6)), (8, vl (y8)), (10, vl (y10)), (12, vl (y12))]) d_Fit_placeBetween_65 (by decide) rfl rfl ?_
  refine J_lload (q := 69) 2 d_Fit_placeBetween_67 rfl rfl ?_
  refine J_lload (q := 71) 3 d_Fit_placeBetween_69 rfl rfl ?_
  refine J_lif_lt (q := 75) (tgt := 83) d_Fit_placeBetween_71 d_Fit_placeBetween_72 (by decide) rfl (fun hc => ?_) (fun hc => ?_)
  · rw [if_pos hc] at h
    refine J_lload (q := 85) 5 d_Fit_placeBetween_83 rfl rfl ?_
    refine J_lload (q := 87) 3 d_Fit_placeBetween_85 rfl rfl ?_
    refine J_lsub (q := 88) d_Fit_placeBetween_87 rfl ?_
    refine J_pick [1, 2, 3, 4, 5, 0] rfl ?_
    exact tj_Fit_placeBetween_88 o a1 a2 a3 a4 μ _ _ _ _ _ _ h
  · rw [if_neg hc] at h
    refine J_lload (q := 77) 4 d_Fit_placeBetween_75 rfl rfl ?_
    refine J_lload (q := 79) 2 d_Fit_placeBetween_77 rfl rfl ?_
    refine J_lsub (q := 80) d_Fit_placeBetween_79 rfl ?_
    refine J_goto (q := 88) d_Fit_placeBetween_80 (by decide) ?_
    refine J_pick [1, 2, 3, 4, 5, 0] rfl ?_
    exact tj_Fit_placeBetween_88 o a1 a2 a3 a4 μ _ _ _ _ _ _ h
def m_Fit_placeBetween (o : Nat) (a1 : Int32) (a2 : Int32) (a3 : Int32) (a4 : Int64) (μ : Mem) : Option (Int64) :=
  gu (a1) 2 <|
  gu (a2) 100 <|
  ap ((gI μ 500 (2 * o + a1.toNatClampNeg) a2.toNatClampNeg).toInt64) fun x3 =>
  gu (a1) 2 <|
  gu (a3) 100 <|
  ap ((gI μ 500 (2 * o + a1.toNatClampNeg) a3.toNatClampNeg).toInt64) fun x6 =>
  gu (a1) 2 <|
  gu (a2) 100 <|
  ap ((gI μ 501 (2 * o + a1.toNatClampNeg) a2.toNatClampNeg).toInt64) fun x9 =>
  gu (a1) 2 <|
  gu (a3) 100 <|
  ap ((gI μ 501 (2 * o + a1.toNatClampNeg) a3.toNatClampNeg).toInt64) fun x12 =>
  if x6 < x3 then
 (mj_Fit_placeBetween_65 o a1 a2 a3 a4 μ (x3) (x6) (x9) (x12) (x12 - x6))
 else
 (mj_Fit_placeBetween_65 o a1 a2 a3 a4 μ (x3) (x6) (x9) (x12) (x9 - x3))
theorem t_Fit_placeBetween {o : Nat} {a1 : Int32} {a2 : Int32} {a3 : Int32} {a4 : Int64} {μ : Mem} {q : Int64} (h : m_Fit_placeBetween o a1 a2 a3 a4 μ = some q) : JM true (2) y_Fit_placeBetween b_Fit_placeBetween 18 (some (.long)) 0 0 [vr 0 (o), vi (a1), vi (a2), vi (a3), vl (a4)] μ (QQ (some (vl q)) μ) := by
  unfold m_Fit_placeBetween at h
  refine JM.of pl_Fit_placeBetween (fun ρ => Nat.le_of_ble_eq_true rfl) ?_
  show J (GM true (QQ (some (vl q)) μ) (some (.long)) y_Fit_placeBetween.name) true b_Fit_placeBetween R_0 18 (2) 0 0 0 [(0, vr 0 (o)), (1, vi (a1)), (2, vi (a2)), (3, vi (a3)), (4, vl (a4))] [] μ
  refine J_aload_n (q := 1) 0 d_Fit_placeBetween_0 rfl rfl rfl ?_
  refine J_getF (q := 4) cd_0 (by decide) ft_0_0 rfl g_170 rfl d_Fit_placeBetween_1 rfl ?_
  refine J_iload_n (q := 5) 1 d_Fit_placeBetween_4 rfl rfl rfl ?_
  obtain ⟨hi1, h⟩ := gu_some h
  refine J_ald6 (q := 6) rk_100 (by decide) hi1 d_Fit_placeBetween_5 rfl ?_
  refine J_iload_n (q := 7) 2 d_Fit_placeBetween_6 rfl rfl rfl ?_
  obtain ⟨hi2, h⟩ := gu_some h
  refine J_iald (q := 8) rk_500 (by decide) hi2 d_Fit_placeBetween_7 rfl ?_
  refine J_i2l (q := 9) d_Fit_placeBetween_8 rfl ?_
  obtain ⟨x3, hx3, h⟩ := ap_eq h
  refine J_nmL hx3 ?_
  refine J_lstore (q := 11) (lv' := [(6, vl (x3)), (0, vr 0 (o)), (1, vi (a1)), (2, vi (a2)), (3, vi (a3)), (4, vl (a4))]) d_Fit_placeBetween_9 (by decide) rfl rfl ?_
  refine J_aload_n (q := 12) 1 d_Fit_placeBetween_11 rfl rfl rfl ?_
  refine J_getF (q := 15) cd_0 (by decide) ft_0_0 rfl g_170 rfl d_Fit_placeBetween_12 rfl ?_
  refine J_iload_n (q := 16) 2 d_Fit_placeBetween_15 rfl rfl rfl ?_
  obtain ⟨hi4, h⟩ := gu_some h
  refine J_ald6 (q := 17) rk_100 (by decide) hi4 d_Fit_placeBetween_16 rfl ?_
  refine J_iload_n (q := 18) 4 d_Fit_placeBetween_17 rfl rfl rfl ?_
  obtain ⟨hi5, h⟩ := gu_some h
  refine J_iald (q := 19) rk_500 (by decide) hi5 d_Fit_placeBetween_18 rfl ?_
  refine J_i2l (q := 20) d_Fit_placeBetween_19 rfl ?_
  obtain ⟨x6, hx6, h⟩ := ap_eq h
  refine J_nmL hx6 ?_
  refine J_lstore (q := 22) (lv' := [(8, vl (x6)), (6, vl (x3)), (0, vr 0 (o)), (1, vi (a1)), (2, vi (a2)), (3, vi (a3)), (4, vl (a4))]) d_Fit_placeBetween_20 (by decide) rfl rfl ?_
  refine J_aload_n (q := 23) 2 d_Fit_placeBetween_22 rfl rfl rfl ?_
  refine J_getF (q := 26) cd_0 (by decide) ft_0_1 rfl g_171 rfl d_Fit_placeBetween_23 rfl ?_
  refine J_iload_n (q := 27) 3 d_Fit_placeBetween_26 rfl rfl rfl ?_
  obtain ⟨hi7, h⟩ := gu_some h
  refine J_ald6 (q := 28) rk_101 (by decide) hi7 d_Fit_placeBetween_27 rfl ?_
  refine J_iload_n (q := 29) 4 d_Fit_placeBetween_28 rfl rfl rfl ?_
  obtain ⟨hi8, h⟩ := gu_some h
  refine J_iald (q := 30) rk_501 (by decide) hi8 d_Fit_placeBetween_29 rfl ?_
  refine J_i2l (q := 31) d_Fit_placeBetween_30 rfl ?_
  obtain ⟨x9, hx9, h⟩ := ap_eq h
  refine J_nmL hx9 ?_
  refine J_lstore (q := 33) (lv' := [(10, vl (x9)), (8, vl (x6)), (6, vl (x3)), (0, vr 0 (o)), (1, vi (a1)), (2, vi (a2)), (3, vi (a3)), (4, vl (a4))]) d_Fit_placeBetween_31 (by decide) rfl rfl ?_
  refine J_aload_n (q := 34) 3 d_Fit_placeBetween_33 rfl rfl rfl ?_
  refine J_getF (q := 37) cd_0 (by decide) ft_0_1 rfl g_171 rfl d_Fit_placeBetween_34 rfl ?_
  refine J_iload_n (q := 38) 4 d_Fit_placeBetween_37 rfl rfl rfl ?_
  obtain ⟨hi10, h⟩ := gu_some h
  refine J_ald6 (q := 39) rk_101 (by decide) hi10 d_Fit_placeBetween_38 rfl ?_
  refine J_iload_n (q := 40) 6 d_Fit_placeBetween_39 rfl rfl rfl ?_
  obtain ⟨hi11, h⟩ := gu_some h
  refine J_iald (q := 41) rk_501 (by decide) hi11 d_Fit_placeBetween_40 rfl ?_
  refine J_i2l (q := 42) d_Fit_placeBetween_41 rfl ?_
  obtain ⟨x12, hx12, h⟩ := ap_eq h
  refine J_nmL hx12 ?_
  refine J_lstore (q := 44) (lv' := [(12, vl (x12)), (10, vl (x9)), (8, vl (x6)), (6, vl (x3)), (0, vr 0 (o)), (1, vi (a1)), (2, vi (a2)), (3, vi (a3)), (4, vl (a4))]) d_Fit_placeBetween_42 (by decide) rfl rfl ?_
  refine J_lload (q := 46) 3 d_Fit_placeBetween_44 rfl rfl ?_
  refine J_lload (q := 48) 2 d_Fit_placeBetween_46 rfl rfl ?_
  refine J_lif_gt (q := 52) (tgt := 60) d_Fit_placeBetween_48 d_Fit_placeBetween_49 (by decide) rfl (fun hc => ?_) (fun hc => ?_)
  · rw [if_pos hc] at h
    refine J_lload (q := 62) 0 d_Fit_placeBetween_60 rfl rfl ?_
    refine J_lload (q := 64) 2 d_Fit_placeBetween_62 rfl rfl ?_
    refine J_lsub (q := 65) d_Fit_placeBetween_64 rfl ?_
    refine J_pick [8, 3, 2, 1, 0] rfl ?_
    exact tj_Fit_placeBetween_65 o a1 a2 a3 a4 μ _ _ _ _ _ h
  · rw [if_neg hc] at h
    refine J_lload (q := 54) 1 d_Fit_placeBetween_52 rfl rfl ?_
    refine J_lload (q := 56) 3 d_Fit_placeBetween_54 rfl rfl ?_
    refine J_lsub (q := 57) d_Fit_placeBetween_56 rfl ?_
    refine J_goto (q := 65) d_Fit_placeBetween_57 (by decide) ?_
    refine J_pick [8, 3, 2, 1, 0] rfl ?_
    exact tj_Fit_placeBetween_65 o a1 a2 a3 a4 μ _ _ _ _ _ h
def mj_Fit_touchedBehind_56 (o : Nat) (a1 : Int32) (a2 : Int32) (a3 : Int32) (a4 : Int32) (μ : Mem) (c_20 : Int32 → Int32 → Option (Int32)) (y6 : Int32) (z0 : Int32) : Option (Int32) :=
  ap (y6 + (1 : Int32)) fun x3 =>
  c_20 (z0) (x3)
theorem tj_Fit_touchedBehind_56 (o : Nat) (a1 : Int32) (a2 : Int32) (a3 : Int32) (a4 : Int32) (μ : Mem) {q : Int32} {c_20 : Int32 → Int32 → Option (Int32)} (hc_20 : ∀ (y5 : Int32) (y6 : Int32), c_20 y5 y6 = some q → J (GM true (QQ (some (vi q)) μ) (some (.int)) y_Fit_touchedBehind.name) true b_Fit_touchedBehind R_0 7 (0) 0 0 20 [(0, vr 0 (o)), (1, vi (a1)), (3, vi (a3)), (4, vi (a4)), (5, vi (y5)), (6, vi (y6))] [] μ) (y6 : Int32) (z0 : Int32) (h : mj_Fit_touchedBehind_56 o a1 a2 a3 a4 μ c_20 y6 z0 = some q) : J (GM true (QQ (some (vi q)) μ) (some (.int)) y_Fit_touchedBehind.name) true b_Fit_touchedBehind R_0 7 (0) 0 0 56 [(0, vr 0 (o)), (1, vi (a1)), (3, vi (a3)), (4, vi (a4)), (6, vi (y6))] [vi (z0)] μ := by
  unfold mj_Fit_touchedBehind_56 at h
  refine J_istore (q := 58) (lv' := [(5, vi (z0)), (0, vr 0 (o)), (1, vi (a1)), (3, vi (a3)), (4, vi (a4)), (6, vi (y6))]) d_Fit_touchedBehind_56 (by decide) rfl rfl ?_
  obtain ⟨x3, hx3, h⟩ := ap_eq h
  refine J_iinc (q := 61) (v := x3) (lv' := [(6, vi (x3)), (5, vi (z0)), (0, vr 0 (o)), (1, vi (a1)), (3, vi (a3)), (4, vi (a4))]) 5 d_Fit_touchedBehind_58 rfl (by rw [hx3]; rfl) (by decide) rfl rfl ?_
  refine J_goto (q := 20) d_Fit_touchedBehind_61 (by decide) ?_
  refine J_pick [2, 3, 4, 5, 1, 0] rfl ?_
  exact hc_20 _ _ h
def lp_Fit_touchedBehind_20 (o : Nat) (a1 : Int32) (a2 : Int32) (a3 : Int32) (a4 : Int32) (μ : Mem) : Nat → Int32 → Int32 → Option (Int32)
  | 0, _, _ => none
  | n + 1, y5, y6 =>
  if a4 ≤ y6 then
 (some (y5))
 else
 (gu (a1) 2 <|
  gu (y5) 100 <|
  if gI μ 502 (2 * o + a1.toNatClampNeg) y5.toNatClampNeg = 0 then
 (if a4 ≤ y5 + (1 : Int32) then
 (mj_Fit_touchedBehind_56 o a1 a2 a3 a4 μ (lp_Fit_touchedBehind_20 o a1 a2 a3 a4 μ n) (y6) (a3))
 else
 (mj_Fit_touchedBehind_56 o a1 a2 a3 a4 μ (lp_Fit_touchedBehind_20 o a1 a2 a3 a4 μ n) (y6) (y5 + (1 : Int32))))
 else
 (some (y5)))
theorem tl_Fit_touchedBehind_20 (o : Nat) (a1 : Int32) (a2 : Int32) (a3 : Int32) (a4 : Int32) (μ : Mem) {q : Int32}  : ∀ (n : Nat) (y5 : Int32) (y6 : Int32), lp_Fit_touchedBehind_20 o a1 a2 a3 a4 μ n y5 y6 = some q → J (GM true (QQ (some (vi q)) μ) (some (.int)) y_Fit_touchedBehind.name) true b_Fit_touchedBehind R_0 7 (0) 0 0 20 [(0, vr 0 (o)), (1, vi (a1)), (3, vi (a3)), (4, vi (a4)), (5, vi (y5)), (6, vi (y6))] [] μ := by
  intro n
  induction n with
  | zero => intro _ _ h; cases h
  | succ n ih =>
    intro y5 y6 h
    unfold lp_Fit_touchedBehind_20 at h
    refine J_iload (q := 22) 5 d_Fit_touchedBehind_20 rfl rfl ?_
    refine J_iload (q := 24) 3 d_Fit_touchedBehind_22 rfl rfl ?_
    refine J_icmp_ge (q := 27) (tgt := 64) d_Fit_touchedBehind_24 (by decide) rfl (fun hc => ?_) (fun hc => ?_)
    · rw [if_pos hc] at h
      refine J_iload (q := 66) 4 d_Fit_touchedBehind_64 rfl rfl ?_
      obtain rfl := Option.some.inj h
      exact J_iret rfl ⟨rfl, rfl⟩ d_Fit_touchedBehind_66
    · rw [if_neg hc] at h
      refine J_aload_n (q := 28) 0 d_Fit_touchedBehind_27 rfl rfl rfl ?_
      refine J_getF (q := 31) cd_0 (by decide) ft_0_2 rfl g_174 rfl d_Fit_touchedBehind_28 rfl ?_
      refine J_iload_n (q := 32) 1 d_Fit_touchedBehind_31 rfl rfl rfl ?_
      obtain ⟨hi4, h⟩ := gu_some h
      refine J_ald6 (q := 33) rk_102 (by decide) hi4 d_Fit_touchedBehind_32 rfl ?_
      refine J_iload (q := 35) 4 d_Fit_touchedBehind_33 rfl rfl ?_
      obtain ⟨hi5, h⟩ := gu_some h
      refine J_iald (q := 36) rk_502 (by decide) hi5 d_Fit_touchedBehind_35 rfl ?_
      refine J_if_ne (q := 39) (tgt := 64) d_Fit_touchedBehind_36 (by decide) rfl (fun hc => ?_) (fun hc => ?_)
      · rw [if_neg hc] at h
        refine J_iload (q := 66) 4 d_Fit_touchedBehind_64 rfl rfl ?_
        obtain rfl := Option.some.inj h
        exact J_iret rfl ⟨rfl, rfl⟩ d_Fit_touchedBehind_66
      · rw [if_pos hc] at h
        refine J_iload (q := 41) 4 d_Fit_touchedBehind_39 rfl rfl ?_
        refine J_iconst (q := 42) (v := (1 : Int32)) d_Fit_touchedBehind_41 (by decide) rfl ?_
        refine J_iadd (q := 43) d_Fit_touchedBehind_42 rfl ?_
        refine J_iload (q := 45) 3 d_Fit_touchedBehind_43 rfl rfl ?_
        refine J_icmp_ge (q := 48) (tgt := 55) d_Fit_touchedBehind_45 (by decide) rfl (fun hc => ?_) (fun hc => ?_)
        · rw [if_pos hc] at h
          refine J_iload_n (q := 56) 2 d_Fit_touchedBehind_55 rfl rfl rfl ?_
          refine J_pick [0, 1, 2, 3, 5] rfl ?_
          exact tj_Fit_touchedBehind_56 o a1 a2 a3 a4 μ ih _ _ h
        · rw [if_neg hc] at h
          refine J_iload (q := 50) 4 d_Fit_touchedBehind_48 rfl rfl ?_
          refine J_iconst (q := 51) (v := (1 : Int32)) d_Fit_touchedBehind_50 (by decide) rfl ?_
          refine J_iadd (q := 52) d_Fit_touchedBehind_51 rfl ?_
          refine J_goto (q := 56) d_Fit_touchedBehind_52 (by decide) ?_
          refine J_pick [0, 1, 2, 3, 5] rfl ?_
          exact tj_Fit_touchedBehind_56 o a1 a2 a3 a4 μ ih _ _ h
def mj_Fit_touchedBehind_15 (o : Nat) (a1 : Int32) (a2 : Int32) (a3 : Int32) (a4 : Int32) (μ : Mem) (z0 : Int32) : Option (Int32) :=
  lp_Fit_touchedBehind_20 o a1 a2 a3 a4 μ FU (z0) (a3)
theorem tj_Fit_touchedBehind_15 (o : Nat) (a1 : Int32) (a2 : Int32) (a3 : Int32) (a4 : Int32) (μ : Mem) {q : Int32}  (z0 : Int32) (h : mj_Fit_touchedBehind_15 o a1 a2 a3 a4 μ z0 = some q) : J (GM true (QQ (some (vi q)) μ) (some (.int)) y_Fit_touchedBehind.name) true b_Fit_touchedBehind R_0 7 (0) 0 0 15 [(0, vr 0 (o)), (1, vi (a1)), (3, vi (a3)), (4, vi (a4))] [vi (z0)] μ := by
  unfold mj_Fit_touchedBehind_15 at h
  refine J_istore (q := 17) (lv' := [(5, vi (z0)), (0, vr 0 (o)), (1, vi (a1)), (3, vi (a3)), (4, vi (a4))]) d_Fit_touchedBehind_15 (by decide) rfl rfl ?_
  refine J_iload_n (q := 18) 3 d_Fit_touchedBehind_17 rfl rfl rfl ?_
  refine J_istore (q := 20) (lv' := [(6, vi (a3)), (5, vi (z0)), (0, vr 0 (o)), (1, vi (a1)), (3, vi (a3)), (4, vi (a4))]) d_Fit_touchedBehind_18 (by decide) rfl rfl ?_
  refine J_pick [2, 3, 4, 5, 1, 0] rfl ?_
  exact tl_Fit_touchedBehind_20 o a1 a2 a3 a4 μ FU _ _ h
def m_Fit_touchedBehind (o : Nat) (a1 : Int32) (a2 : Int32) (a3 : Int32) (a4 : Int32) (μ : Mem) : Option (Int32) :=
  if a4 ≤ a2 + (1 : Int32) then
 (mj_Fit_touchedBehind_15 o a1 a2 a3 a4 μ (a3))
 else
 (mj_Fit_touchedBehind_15 o a1 a2 a3 a4 μ (a2 + (1 : Int32)))
theorem t_Fit_touchedBehind {o : Nat} {a1 : Int32} {a2 : Int32} {a3 : Int32} {a4 : Int32} {μ : Mem} {q : Int32} (h : m_Fit_touchedBehind o a1 a2 a3 a4 μ = some q) : JM true (0) y_Fit_touchedBehind b_Fit_touchedBehind 7 (some (.int)) 0 0 [vr 0 (o), vi (a1), vi (a2), vi (a3), vi (a4)] μ (QQ (some (vi q)) μ) := by
  unfold m_Fit_touchedBehind at h
  refine JM.of pl_Fit_touchedBehind (fun ρ => Nat.le_of_ble_eq_true rfl) ?_
  show J (GM true (QQ (some (vi q)) μ) (some (.int)) y_Fit_touchedBehind.name) true b_Fit_touchedBehind R_0 7 (0) 0 0 0 [(0, vr 0 (o)), (1, vi (a1)), (2, vi (a2)), (3, vi (a3)), (4, vi (a4))] [] μ
  refine J_iload_n (q := 1) 2 d_Fit_touchedBehind_0 rfl rfl rfl ?_
  refine J_iconst (q := 2) (v := (1 : Int32)) d_Fit_touchedBehind_1 (by decide) rfl ?_
  refine J_iadd (q := 3) d_Fit_touchedBehind_2 rfl ?_
  refine J_iload (q := 5) 4 d_Fit_touchedBehind_3 rfl rfl ?_
  refine J_icmp_ge (q := 8) (tgt := 14) d_Fit_touchedBehind_5 (by decide) rfl (fun hc => ?_) (fun hc => ?_)
  · rw [if_pos hc] at h
    refine J_iload_n (q := 15) 3 d_Fit_touchedBehind_14 rfl rfl rfl ?_
    refine J_pick [0, 1, 3, 4] rfl ?_
    exact tj_Fit_touchedBehind_15 o a1 a2 a3 a4 μ _ h
  · rw [if_neg hc] at h
    refine J_iload_n (q := 9) 2 d_Fit_touchedBehind_8 rfl rfl rfl ?_
    refine J_iconst (q := 10) (v := (1 : Int32)) d_Fit_touchedBehind_9 (by decide) rfl ?_
    refine J_iadd (q := 11) d_Fit_touchedBehind_10 rfl ?_
    refine J_goto (q := 15) d_Fit_touchedBehind_11 (by decide) ?_
    refine J_pick [0, 1, 3, 4] rfl ?_
    exact tj_Fit_touchedBehind_15 o a1 a2 a3 a4 μ _ h
def lp_Fit_fitOutline_3 (o : Nat) (a1 : Int32) (a2 : Int32) (a3 : Int32) (c_27 : Int32 → Mem → Option (Bool × Mem)) : Nat → Int32 → Mem → Option (Bool × Mem)
  | 0, _, _ => none
  | n + 1, y4, μ =>
  if a3 ≤ y4 then
 (c_27 (y4) μ)
 else
 (gu (a1) 2 <|
  gu (y4) 100 <|
  if gI μ 502 (2 * o + a1.toNatClampNeg) y4.toNatClampNeg = 0 then
 (ap (y4 + (1 : Int32)) fun x6 =>
  lp_Fit_fitOutline_3 o a1 a2 a3 c_27 n (x6) μ)
 else
 (c_27 (y4) μ))
theorem tl_Fit_fitOutline_3 (o : Nat) (a1 : Int32) (a2 : Int32) (a3 : Int32) {q : Bool × Mem} {c_27 : Int32 → Mem → Option (Bool × Mem)} (hc_27 : ∀ (y4 : Int32) (μ : Mem), c_27 y4 μ = some q → J (GM true (QQ (some (vi (b2i q.1))) q.2) (some (.boolean)) y_Fit_fitOutline.name) true b_Fit_fitOutline R_0 12 (3) 0 0 27 [(0, vr 0 (o)), (1, vi (a1)), (2, vi (a2)), (3, vi (a3)), (4, vi (y4))] [] μ) : ∀ (n : Nat) (y4 : Int32) (μ : Mem), lp_Fit_fitOutline_3 o a1 a2 a3 c_27 n y4 μ = some q → J (GM true (QQ (some (vi (b2i q.1))) q.2) (some (.boolean)) y_Fit_fitOutline.name) true b_Fit_fitOutline R_0 12 (3) 0 0 3 [(0, vr 0 (o)), (1, vi (a1)), (2, vi (a2)), (3, vi (a3)), (4, vi (y4))] [] μ := by
  intro n
  induction n with
  | zero => intro _ _ h; cases h
  | succ n ih =>
    intro y4 μ h
    unfold lp_Fit_fitOutline_3 at h
    refine J_iload (q := 5) 4 d_Fit_fitOutline_3 rfl rfl ?_
    refine J_iload_n (q := 6) 3 d_Fit_fitOutline_5 rfl rfl rfl ?_
    refine J_icmp_ge (q := 9) (tgt := 27) d_Fit_fitOutline_6 (by decide) rfl (fun hc => ?_) (fun hc => ?_)
    · rw [if_pos hc] at h
      refine J_pick [0, 1, 2, 3, 4] rfl ?_
      exact hc_27 _ _ h
    · rw [if_neg hc] at h
      refine J_aload_n (q := 10) 0 d_Fit_fitOutline_9 rfl rfl rfl ?_
      refine J_getF (q := 13) cd_0 (by decide) ft_0_2 rfl g_174 rfl d_Fit_fitOutline_10 rfl ?_
      refine J_iload_n (q := 14) 1 d_Fit_fitOutline_13 rfl rfl rfl ?_
      obtain ⟨hi4, h⟩ := gu_some h
      refine J_ald6 (q := 15) rk_102 (by decide) hi4 d_Fit_fitOutline_14 rfl ?_
      refine J_iload (q := 17) 4 d_Fit_fitOutline_15 rfl rfl ?_
      obtain ⟨hi5, h⟩ := gu_some h
      refine J_iald (q := 18) rk_502 (by decide) hi5 d_Fit_fitOutline_17 rfl ?_
      refine J_if_ne (q := 21) (tgt := 27) d_Fit_fitOutline_18 (by decide) rfl (fun hc => ?_) (fun hc => ?_)
      · rw [if_neg hc] at h
        refine J_pick [0, 1, 2, 3, 4] rfl ?_
        exact hc_27 _ _ h
      · rw [if_pos hc] at h
        obtain ⟨x6, hx6, h⟩ := ap_eq h
        refine J_iinc (q := 24) (v := x6) (lv' := [(4, vi (x6)), (0, vr 0 (o)), (1, vi (a1)), (2, vi (a2)), (3, vi (a3))]) 4 d_Fit_fitOutline_21 rfl (by rw [hx6]; rfl) (by decide) rfl rfl ?_
        refine J_goto (q := 3) d_Fit_fitOutline_24 (by decide) ?_
        refine J_pick [1, 2, 3, 4, 0] rfl ?_
        exact ih _ _ h
def mj_Fit_fitOutline_172 (o : Nat) (a1 : Int32) (a2 : Int32) (a3 : Int32) (c_41 : Int32 → Int32 → Int32 → Int32 → Int32 → Mem → Option (Bool × Mem)) (y4 : Int32) (y5 : Int32) (y6 : Int32) (y7 : Int32) (y8 : Int32) (μ : Mem) : Option (Bool × Mem) :=
  ap (y8 + (1 : Int32)) fun x17 =>
  c_41 (y4) (y5) (y6) (y7) (x17) μ
theorem tj_Fit_fitOutline_172 (o : Nat) (a1 : Int32) (a2 : Int32) (a3 : Int32) {q : Bool × Mem} {c_41 : Int32 → Int32 → Int32 → Int32 → Int32 → Mem → Option (Bool × Mem)} (hc_41 : ∀ (y4 : Int32) (y5 : Int32) (y6 : Int32) (y7 : Int32) (y8 : Int32) (μ : Mem), c_41 y4 y5 y6 y7 y8 μ = some q → J (GM true (QQ (some (vi (b2i q.1))) q.2) (some (.boolean)) y_Fit_fitOutline.name) true b_Fit_fitOutline R_0 12 (3) 0 0 41 [(0, vr 0 (o)), (1, vi (a1)), (2, vi (a2)), (3, vi (a3)), (4, vi (y4)), (5, vi (y5)), (6, vi (y6)), (7, vi (y7)), (8, vi (y8))] [] μ) (y4 : Int32) (y5 : Int32) (y6 : Int32) (y7 : Int32) (y8 : Int32) (μ : Mem) (h : mj_Fit_fitOutline_172 o a1 a2 a3 c_41 y4 y5 y6 y7 y8 μ = some q) : J (GM true (QQ (some (vi (b2i q.1))) q.2) (some (.boolean)) y_Fit_fitOutline.name) true b_Fit_fitOutline R_0 12 (3) 0 0 172 [(0, vr 0 (o)), (1, vi (a1)), (2, vi (a2)), (3, vi (a3)), (4, vi (y4)), (5, vi (y5)), (6, vi (y6)), (7, vi (y7)), (8, vi (y8))] [] μ := by
  unfold mj_Fit_fitOutline_172 at h
  obtain ⟨x17, hx17, h⟩ := ap_eq h
  refine J_iinc (q := 175) (v := x17) (lv' := [(8, vi (x17)), (0, vr 0 (o)), (1, vi (a1)), (2, vi (a2)), (3, vi (a3)), (4, vi (y4)), (5, vi (y5)), (6, vi (y6)), (7, vi (y7))]) 8 d_Fit_fitOutline_172 rfl (by rw [hx17]; rfl) (by decide) rfl rfl ?_
  refine J_goto (q := 41) d_Fit_fitOutline_175 (by decide) ?_
  refine J_pick [1, 2, 3, 4, 5, 6, 7, 8, 0] rfl ?_
  exact hc_41 _ _ _ _ _ _ h
def mj_Fit_fitOutline_158 (o : Nat) (a1 : Int32) (a2 : Int32) (a3 : Int32) (c_41 : Int32 → Int32 → Int32 → Int32 → Int32 → Mem → Option (Bool × Mem)) (y4 : Int32) (y6 : Int32) (y7 : Int32) (y8 : Int32) (y9 : Int32) (y10 : Int64) (z0 : Int32) (μ : Mem) : Option (Bool × Mem) :=
  gu (a1) 2 <|
  gu (y9) 100 <|
  ap (sI μ 501 (2 * o + a1.toNatClampNeg) y9.toNatClampNeg ((y10).toInt32)) fun μ16 =>
  mj_Fit_fitOutline_172 o a1 a2 a3 c_41 (y4) (z0) (y6) (y7) (y8) μ16
theorem tj_Fit_fitOutline_158 (o : Nat) (a1 : Int32) (a2 : Int32) (a3 : Int32) {q : Bool × Mem} {c_41 : Int32 → Int32 → Int32 → Int32 → Int32 → Mem → Option (Bool × Mem)} (hc_41 : ∀ (y4 : Int32) (y5 : Int32) (y6 : Int32) (y7 : Int32) (y8 : Int32) (μ : Mem), c_41 y4 y5 y6 y7 y8 μ = some q → J (GM true (QQ (some (vi (b2i q.1))) q.2) (some (.boolean)) y_Fit_fitOutline.name) true b_Fit_fitOutline R_0 12 (3) 0 0 41 [(0, vr 0 (o)), (1, vi (a1)), (2, vi (a2)), (3, vi (a3)), (4, vi (y4)), (5, vi (y5)), (6, vi (y6)), (7, vi (y7)), (8, vi (y8))] [] μ) (y4 : Int32) (y6 : Int32) (y7 : Int32) (y8 : Int32) (y9 : Int32) (y10 : Int64) (z0 : Int32) (μ : Mem) (h : mj_Fit_fitOutline_158 o a1 a2 a3 c_41 y4 y6 y7 y8 y9 y10 z0 μ = some q) : J (GM true (QQ (some (vi (b2i q.1))) q.2) (some (.boolean)) y_Fit_fitOutline.name) true b_Fit_fitOutline R_0 12 (3) 0 0 158 [(0, vr 0 (o)), (1, vi (a1)), (2, vi (a2)), (3, vi (a3)), (4, vi (y4)), (6, vi (y6)), (7, vi (y7)), (8, vi (y8)), (9, vi (y9)), (10, vl (y10))] [vi (z0)] μ := by
  unfold mj_Fit_fitOutline_158 at h
  refine J_istore (q := 160) (lv' := [(5, vi (z0)), (0, vr 0 (o)), (1, vi (a1)), (2, vi (a2)), (3, vi (a3)), (4, vi (y4)), (6, vi (y6)), (7, vi (y7)), (8, vi (y8)), (9, vi (y9)), (10, vl (y10))]) d_Fit_fitOutline_158 (by decide) rfl rfl ?_
  refine J_aload_n (q := 161) 1 d_Fit_fitOutline_160 rfl rfl rfl ?_
  refine J_getF (q := 164) cd_0 (by decide) ft_0_1 rfl g_171 rfl d_Fit_fitOutline_161 rfl ?_
  refine J_iload_n (q := 165) 2 d_Fit_fitOutline_164 rfl rfl rfl ?_
  obtain ⟨hi14, h⟩ := gu_some h
  refine J_ald6 (q := 166) rk_101 (by decide) hi14 d_Fit_fitOutline_165 rfl ?_
  refine J_iload (q := 168) 9 d_Fit_fitOutline_166 rfl rfl ?_
  refine J_lload (q := 170) 10 d_Fit_fitOutline_168 rfl rfl ?_
  refine J_l2i (q := 171) d_Fit_fitOutline_170 rfl ?_
  obtain ⟨hi15, h⟩ := gu_some h
  refine J_iast (q := 172) rk_501 (by decide) hi15 d_Fit_fitOutline_171 rfl ?_
  obtain ⟨μ16, hμ16, h⟩ := ap_eq h
  refine J_nmM hμ16 ?_
  refine J_pick [1, 2, 3, 4, 5, 0, 6, 7, 8] rfl ?_
  exact tj_Fit_fitOutline_172 o a1 a2 a3 hc_41 _ _ _ _ _ _ h
def mj_Fit_fitOutline_157 (o : Nat) (a1 : Int32) (a2 : Int32) (a3 : Int32) (c_41 : Int32 → Int32 → Int32 → Int32 → Int32 → Mem → Option (Bool × Mem)) (y4 : Int32) (y6 : Int32) (y7 : Int32) (y8 : Int32) (y9 : Int32) (y10 : Int64) (μ : Mem) : Option (Bool × Mem) :=
  mj_Fit_fitOutline_158 o a1 a2 a3 c_41 (y4) (y6) (y7) (y8) (y9) (y10) ((0 : Int32)) μ
theorem tj_Fit_fitOutline_157 (o : Nat) (a1 : Int32) (a2 : Int32) (a3 : Int32) {q : Bool × Mem} {c_41 : Int32 → Int32 → Int32 → Int32 → Int32 → Mem → Option (Bool × Mem)} (hc_41 : ∀ (y4 : Int32) (y5 : Int32) (y6 : Int32) (y7 : Int32) (y8 : Int32) (μ : Mem), c_41 y4 y5 y6 y7 y8 μ = some q → J (GM true (QQ (some (vi (b2i q.1))) q.2) (some (.boolean)) y_Fit_fitOutline.name) true b_Fit_fitOutline R_0 12 (3) 0 0 41 [(0, vr 0 (o)), (1, vi (a1)), (2, vi (a2)), (3, vi (a3)), (4, vi (y4)), (5, vi (y5)), (6, vi (y6)), (7, vi (y7)), (8, vi (y8))] [] μ) (y4 : Int32) (y6 : Int32) (y7 : Int32) (y8 : Int32) (y9 : Int32) (y10 : Int64) (μ : Mem) (h : mj_Fit_fitOutline_157 o a1 a2 a3 c_41 y4 y6 y7 y8 y9 y10 μ = some q) : J (GM true (QQ (some (vi (b2i q.1))) q.2) (some (.boolean)) y_Fit_fitOutline.name) true b_Fit_fitOutline R_0 12 (3) 0 0 157 [(0, vr 0 (o)), (1, vi (a1)), (2, vi (a2)), (3, vi (a3)), (4, vi (y4)), (6, vi (y6)), (7, vi (y7)), (8, vi (y8)), (9, vi (y9)), (10, vl (y10))] [] μ := by
  unfold mj_Fit_fitOutline_157 at h
  refine J_iconst (q := 158) (v := (0 : Int32)) d_Fit_fitOutline_157 (by decide) rfl ?_
  refine J_pick [0, 1, 2, 3, 4, 5, 6, 7, 8, 9] rfl ?_
  exact tj_Fit_fitOutline_158 o a1 a2 a3 hc_41 _ _ _ _ _ _ _ _ h
def mj_Fit_fitOutline_81 (o : Nat) (a1 : Int32) (a2 : Int32) (a3 : Int32) (c_41 : Int32 → Int32 → Int32 → Int32 → Int32 → Mem → Option (Bool × Mem)) (y4 : Int32) (y5 : Int32) (y6 : Int32) (y7 : Int32) (y8 : Int32) (z0 : Int32) (μ : Mem) : Option (Bool × Mem) :=
  gu (a1) 2 <|
  gu (z0) 100 <|
  if gI μ 502 (2 * o + a1.toNatClampNeg) z0.toNatClampNeg = 0 then
 (gu (a1) 2 <|
  gu (z0) 100 <|
  Option.bind (m_Fit_placeBetween (o) (a1) (y6) (y7) ((gI μ 500 (2 * o + a1.toNatClampNeg) z0.toNatClampNeg).toInt64) μ) fun r13 =>
  if y5 = 0 then
 (mj_Fit_fitOutline_157 o a1 a2 a3 c_41 (y4) (y6) (y7) (y8) (z0) (r13) μ)
 else
 (if (m_Fo_within (r13) ((-1000000000 : Int64)) ((1000000000 : Int64)) μ) then
 (mj_Fit_fitOutline_158 o a1 a2 a3 c_41 (y4) (y6) (y7) (y8) (z0) (r13) ((1 : Int32)) μ)
 else
 (mj_Fit_fitOutline_157 o a1 a2 a3 c_41 (y4) (y6) (y7) (y8) (z0) (r13) μ)))
 else
 (Option.bind (m_Fit_touchedBehind (o) (a1) (z0) (a2) (a3) μ) fun r18 =>
  mj_Fit_fitOutline_172 o a1 a2 a3 c_41 (y4) (y5) (z0) (r18) (y8) μ)
theorem tj_Fit_fitOutline_81 (o : Nat) (a1 : Int32) (a2 : Int32) (a3 : Int32) {q : Bool × Mem} {c_41 : Int32 → Int32 → Int32 → Int32 → Int32 → Mem → Option (Bool × Mem)} (hc_41 : ∀ (y4 : Int32) (y5 : Int32) (y6 : Int32) (y7 : Int32) (y8 : Int32) (μ : Mem), c_41 y4 y5 y6 y7 y8 μ = some q → J (GM true (QQ (some (vi (b2i q.1))) q.2) (some (.boolean)) y_Fit_fitOutline.name) true b_Fit_fitOutline R_0 12 (3) 0 0 41 [(0, vr 0 (o)), (1, vi (a1)), (2, vi (a2)), (3, vi (a3)), (4, vi (y4)), (5, vi (y5)), (6, vi (y6)), (7, vi (y7)), (8, vi (y8))] [] μ) (y4 : Int32) (y5 : Int32) (y6 : Int32) (y7 : Int32) (y8 : Int32) (z0 : Int32) (μ : Mem) (h : mj_Fit_fitOutline_81 o a1 a2 a3 c_41 y4 y5 y6 y7 y8 z0 μ = some q) : J (GM true (QQ (some (vi (b2i q.1))) q.2) (some (.boolean)) y_Fit_fitOutline.name) true b_Fit_fitOutline R_0 12 (3) 0 0 81 [(0, vr 0 (o)), (1, vi (a1)), (2, vi (a2)), (3, vi (a3)), (4, vi (y4)), (5, vi (y5)), (6, vi (y6)), (7, vi (y7)), (8, vi (y8))] [vi (z0)] μ := by
  unfold mj_Fit_fitOutline_81 at h
  refine J_istore (q := 83) (lv' := [(9, vi (z0)), (0, vr 0 (o)), (1, vi (a1)), (2, vi (a2)), (3, vi (a3)), (4, vi (y4)), (5, vi (y5)), (6, vi (y6)), (7, vi (y7)), (8, vi (y8))]) d_Fit_fitOutline_81 (by decide) rfl rfl ?_
  refine J_aload_n (q := 84) 1 d_Fit_fitOutline_83 rfl rfl rfl ?_
  refine J_getF (q := 87) cd_0 (by decide) ft_0_2 rfl g_174 rfl d_Fit_fitOutline_84 rfl ?_
  refine J_iload_n (q := 88) 2 d_Fit_fitOutline_87 rfl rfl rfl ?_
  obtain ⟨hi9, h⟩ := gu_some h
  refine J_ald6 (q := 89) rk_102 (by decide) hi9 d_Fit_fitOutline_88 rfl ?_
  refine J_iload (q := 91) 0 d_Fit_fitOutline_89 rfl rfl ?_
  obtain ⟨hi10, h⟩ := gu_some h
  refine J_iald (q := 92) rk_502 (by decide) hi10 d_Fit_fitOutline_91 rfl ?_
  refine J_if_eq (q := 95) (tgt := 113) d_Fit_fitOutline_92 (by decide) rfl (fun hc => ?_) (fun hc => ?_)
  · rw [if_pos hc] at h
    refine J_aload_n (q := 114) 1 d_Fit_fitOutline_113 rfl rfl rfl ?_
    refine J_iload_n (q := 115) 2 d_Fit_fitOutline_114 rfl rfl rfl ?_
    refine J_iload (q := 117) 7 d_Fit_fitOutline_115 rfl rfl ?_
    refine J_iload (q := 119) 8 d_Fit_fitOutline_117 rfl rfl ?_
    refine J_aload_n (q := 120) 1 d_Fit_fitOutline_119 rfl rfl rfl ?_
    refine J_getF (q := 123) cd_0 (by decide) ft_0_0 rfl g_170 rfl d_Fit_fitOutline_120 rfl ?_
    refine J_iload_n (q := 124) 2 d_Fit_fitOutline_123 rfl rfl rfl ?_
    obtain ⟨hi11, h⟩ := gu_some h
    refine J_ald6 (q := 125) rk_100 (by decide) hi11 d_Fit_fitOutline_124 rfl ?_
    refine J_iload (q := 127) 0 d_Fit_fitOutline_125 rfl rfl ?_
    obtain ⟨hi12, h⟩ := gu_some h
    refine J_iald (q := 128) rk_500 (by decide) hi12 d_Fit_fitOutline_127 rfl ?_
    refine J_i2l (q := 129) d_Fit_fitOutline_128 rfl ?_
    obtain ⟨r13, hr13, h⟩ := bd_some h
    refine J_callVq (rc := 0) (rs := 0) (q := 132) (as := [vi (a1), vi (y6), vi (y7), vl ((gI μ 500 (2 * o + a1.toNatClampNeg) z0.toNatClampNeg).toInt64)]) (st := []) (by decide) rfl g_932 sel_Fit_placeBetween (t_Fit_placeBetween hr13) (by decide) (by decide) g_930 g_933 g_6 hy_Fit_placeBetween rfl (Nat.le_of_ble_eq_true rfl) d_Fit_fitOutline_129 rfl ?_
    refine J_lstore (q := 134) (lv' := [(10, vl (r13)), (9, vi (z0)), (0, vr 0 (o)), (1, vi (a1)), (2, vi (a2)), (3, vi (a3)), (4, vi (y4)), (5, vi (y5)), (6, vi (y6)), (7, vi (y7)), (8, vi (y8))]) d_Fit_fitOutline_132 (by decide) rfl rfl ?_
    refine J_iload (q := 136) 7 d_Fit_fitOutline_134 rfl rfl ?_
    refine J_if_eq (q := 139) (tgt := 157) d_Fit_fitOutline_136 (by decide) rfl (fun hc => ?_) (fun hc => ?_)
    · rw [if_pos hc] at h
      refine J_pick [2, 3, 4, 5, 6, 8, 9, 10, 1, 0] rfl ?_
      exact tj_Fit_fitOutline_157 o a1 a2 a3 hc_41 _ _ _ _ _ _ _ h
    · rw [if_neg hc] at h
      refine J_lload (q := 141) 0 d_Fit_fitOutline_139 rfl rfl ?_
      refine J_ldc2 (q := 144) d_Fit_fitOutline_141 g_936 rfl ?_
      refine J_ldc2 (q := 147) d_Fit_fitOutline_144 g_937 rfl ?_
      refine J_callSNq (rc := 0) (rs := 0) (q := 150) (as := [vl (r13), vl ((-1000000000 : Int64)), vl ((1000000000 : Int64))]) (st := []) g_300 (t_Fo_within rfl) (by decide) (by decide) nn_17 g_301 g_1 hy_Fo_within rfl (Nat.le_of_ble_eq_true rfl) d_Fit_fitOutline_147 rfl ?_
      refine J_ifB_eq (q := 153) (tgt := 157) d_Fit_fitOutline_150 (by decide) rfl (fun hb => ?_) (fun hb => ?_)
      · rw [iB_f hb] at h
        refine J_pick [2, 3, 4, 5, 6, 8, 9, 10, 1, 0] rfl ?_
        exact tj_Fit_fitOutline_157 o a1 a2 a3 hc_41 _ _ _ _ _ _ _ h
      · rw [iB_t hb] at h
        refine J_iconst (q := 154) (v := (1 : Int32)) d_Fit_fitOutline_153 (by decide) rfl ?_
        refine J_goto (q := 158) d_Fit_fitOutline_154 (by decide) ?_
        refine J_pick [2, 3, 4, 5, 6, 8, 9, 10, 1, 0] rfl ?_
        exact tj_Fit_fitOutline_158 o a1 a2 a3 hc_41 _ _ _ _ _ _ _ _ h
  · rw [if_neg hc] at h
    refine J_iload (q := 97) 0 d_Fit_fitOutline_95 rfl rfl ?_
    refine J_istore (q := 99) (lv' := [(6, vi (z0)), (9, vi (z0)), (0, vr 0 (o)), (1, vi (a1)), (2, vi (a2)), (3, vi (a3)), (4, vi (y4)), (5, vi (y5)), (7, vi (y7)), (8, vi (y8))]) d_Fit_fitOutline_97 (by decide) rfl rfl ?_
    refine J_aload_n (q := 100) 2 d_Fit_fitOutline_99 rfl rfl rfl ?_
    refine J_iload_n (q := 101) 3 d_Fit_fitOutline_100 rfl rfl rfl ?_
    refine J_iload (q := 103) 1 d_Fit_fitOutline_101 rfl rfl ?_
    refine J_iload_n (q := 104) 4 d_Fit_fitOutline_103 rfl rfl rfl ?_
    refine J_iload_n (q := 105) 5 d_Fit_fitOutline_104 rfl rfl rfl ?_
    obtain ⟨r18, hr18, h⟩ := bd_some h
    refine J_callVq (rc := 0) (rs := 0) (q := 108) (as := [vi (a1), vi (z0), vi (a2), vi (a3)]) (st := []) (by decide) rfl g_928 sel_Fit_touchedBehind (t_Fit_touchedBehind hr18) (by decide) (by decide) g_926 g_929 g_6 hy_Fit_touchedBehind rfl (Nat.le_of_ble_eq_true rfl) d_Fit_fitOutline_105 rfl ?_
    refine J_istore (q := 110) (lv' := [(7, vi (r18)), (6, vi (z0)), (9, vi (z0)), (0, vr 0 (o)), (1, vi (a1)), (2, vi (a2)), (3, vi (a3)), (4, vi (y4)), (5, vi (y5)), (8, vi (y8))]) d_Fit_fitOutline_108 (by decide) rfl rfl ?_
    refine J_goto (q := 172) d_Fit_fitOutline_110 (by decide) ?_
    refine J_pick [3, 4, 5, 6, 7, 8, 1, 0, 9] rfl ?_
    exact tj_Fit_fitOutline_172 o a1 a2 a3 hc_41 _ _ _ _ _ _ h
def lp_Fit_fitOutline_41 (o : Nat) (a1 : Int32) (a2 : Int32) (a3 : Int32) : Nat → Int32 → Int32 → Int32 → Int32 → Int32 → Mem → Option (Bool × Mem)
  | 0, _, _, _, _, _, _ => none
  | n + 1, y4, y5, y6, y7, y8, μ =>
  if a3 ≤ y4 then
 (Option.bind (zb (y5)) fun B19 => some ((B19, μ)))
 else
 (if a3 - a2 ≤ y8 then
 (Option.bind (zb (y5)) fun B20 => some ((B20, μ)))
 else
 (if a3 ≤ y4 + y8 then
 (mj_Fit_fitOutline_81 o a1 a2 a3 (lp_Fit_fitOutline_41 o a1 a2 a3 n) (y4) (y5) (y6) (y7) (y8) (((y4 + y8) - (a3)) + (a2)) μ)
 else
 (mj_Fit_fitOutline_81 o a1 a2 a3 (lp_Fit_fitOutline_41 o a1 a2 a3 n) (y4) (y5) (y6) (y7) (y8) (y4 + y8) μ)))
theorem tl_Fit_fitOutline_41 (o : Nat) (a1 : Int32) (a2 : Int32) (a3 : Int32) {q : Bool × Mem}  : ∀ (n : Nat) (y4 : Int32) (y5 : Int32) (y6 : Int32) (y7 : Int32) (y8 : Int32) (μ : Mem), lp_Fit_fitOutline_41 o a1 a2 a3 n y4 y5 y6 y7 y8 μ = some q → J (GM true (QQ (some (vi (b2i q.1))) q.2) (some (.boolean)) y_Fit_fitOutline.name) true b_Fit_fitOutline R_0 12 (3) 0 0 41 [(0, vr 0 (o)), (1, vi (a1)), (2, vi (a2)), (3, vi (a3)), (4, vi (y4)), (5, vi (y5)), (6, vi (y6)), (7, vi (y7)), (8, vi (y8))] [] μ := by
  intro n
  induction n with
  | zero => intro _ _ _ _ _ _ h; cases h
  | succ n ih =>
    intro y4 y5 y6 y7 y8 μ h
    unfold lp_Fit_fitOutline_41 at h
    refine J_iload (q := 43) 4 d_Fit_fitOutline_41 rfl rfl ?_
    refine J_iload_n (q := 44) 3 d_Fit_fitOutline_43 rfl rfl rfl ?_
    refine J_icmp_ge (q := 47) (tgt := 178) d_Fit_fitOutline_44 (by decide) rfl (fun hc => ?_) (fun hc => ?_)
    · rw [if_pos hc] at h
      refine J_iload (q := 180) 5 d_Fit_fitOutline_178 rfl rfl ?_
      obtain ⟨B19, hB19, h⟩ := zb_some h
      obtain rfl := Option.some.inj h
      refine J_nmI hB19.symm ?_
      exact J_zret (b2i01 _) rfl ⟨rfl, rfl⟩ d_Fit_fitOutline_180
    · rw [if_neg hc] at h
      refine J_iload (q := 49) 8 d_Fit_fitOutline_47 rfl rfl ?_
      refine J_iload_n (q := 50) 3 d_Fit_fitOutline_49 rfl rfl rfl ?_
      refine J_iload_n (q := 51) 2 d_Fit_fitOutline_50 rfl rfl rfl ?_
      refine J_isub (q := 52) d_Fit_fitOutline_51 rfl ?_
      refine J_icmp_ge (q := 55) (tgt := 178) d_Fit_fitOutline_52 (by decide) rfl (fun hc => ?_) (fun hc => ?_)
      · rw [if_pos hc] at h
        refine J_iload (q := 180) 5 d_Fit_fitOutline_178 rfl rfl ?_
        obtain ⟨B20, hB20, h⟩ := zb_some h
        obtain rfl := Option.some.inj h
        refine J_nmI hB20.symm ?_
        exact J_zret (b2i01 _) rfl ⟨rfl, rfl⟩ d_Fit_fitOutline_180
      · rw [if_neg hc] at h
        refine J_iload (q := 57) 4 d_Fit_fitOutline_55 rfl rfl ?_
        refine J_iload (q := 59) 8 d_Fit_fitOutline_57 rfl rfl ?_
        refine J_iadd (q := 60) d_Fit_fitOutline_59 rfl ?_
        refine J_iload_n (q := 61) 3 d_Fit_fitOutline_60 rfl rfl rfl ?_
        refine J_icmp_ge (q := 64) (tgt := 72) d_Fit_fitOutline_61 (by decide) rfl (fun hc => ?_) (fun hc => ?_)
        · rw [if_pos hc] at h
          refine J_iload (q := 74) 4 d_Fit_fitOutline_72 rfl rfl ?_
          refine J_iload (q := 76) 8 d_Fit_fitOutline_74 rfl rfl ?_
          refine J_iadd (q := 77) d_Fit_fitOutline_76 rfl ?_
          refine J_iload_n (q := 78) 3 d_Fit_fitOutline_77 rfl rfl rfl ?_
          refine J_isub (q := 79) d_Fit_fitOutline_78 rfl ?_
          refine J_iload_n (q := 80) 2 d_Fit_fitOutline_79 rfl rfl rfl ?_
          refine J_iadd (q := 81) d_Fit_fitOutline_80 rfl ?_
          refine J_pick [0, 1, 2, 3, 4, 5, 6, 7, 8] rfl ?_
          exact tj_Fit_fitOutline_81 o a1 a2 a3 ih _ _ _ _ _ _ _ h
        · rw [if_neg hc] at h
          refine J_iload (q := 66) 4 d_Fit_fitOutline_64 rfl rfl ?_
          refine J_iload (q := 68) 8 d_Fit_fitOutline_66 rfl rfl ?_
          refine J_iadd (q := 69) d_Fit_fitOutline_68 rfl ?_
          refine J_goto (q := 81) d_Fit_fitOutline_69 (by decide) ?_
          refine J_pick [0, 1, 2, 3, 4, 5, 6, 7, 8] rfl ?_
          exact tj_Fit_fitOutline_81 o a1 a2 a3 ih _ _ _ _ _ _ _ h
def mj_Fit_fitOutline_27 (o : Nat) (a1 : Int32) (a2 : Int32) (a3 : Int32) (y4 : Int32) (μ : Mem) : Option (Bool × Mem) :=
  lp_Fit_fitOutline_41 o a1 a2 a3 FU (y4) ((1 : Int32)) (y4) (y4) ((0 : Int32)) μ
theorem tj_Fit_fitOutline_27 (o : Nat) (a1 : Int32) (a2 : Int32) (a3 : Int32) {q : Bool × Mem}  (y4 : Int32) (μ : Mem) (h : mj_Fit_fitOutline_27 o a1 a2 a3 y4 μ = some q) : J (GM true (QQ (some (vi (b2i q.1))) q.2) (some (.boolean)) y_Fit_fitOutline.name) true b_Fit_fitOutline R_0 12 (3) 0 0 27 [(0, vr 0 (o)), (1, vi (a1)), (2, vi (a2)), (3, vi (a3)), (4, vi (y4))] [] μ := by
  unfold mj_Fit_fitOutline_27 at h
  refine J_iconst (q := 28) (v := (1 : Int32)) d_Fit_fitOutline_27 (by decide) rfl ?_
  refine J_istore (q := 30) (lv' := [(5, vi ((1 : Int32))), (0, vr 0 (o)), (1, vi (a1)), (2, vi (a2)), (3, vi (a3)), (4, vi (y4))]) d_Fit_fitOutline_28 (by decide) rfl rfl ?_
  refine J_iload (q := 32) 5 d_Fit_fitOutline_30 rfl rfl ?_
  refine J_istore (q := 34) (lv' := [(6, vi (y4)), (5, vi ((1 : Int32))), (0, vr 0 (o)), (1, vi (a1)), (2, vi (a2)), (3, vi (a3)), (4, vi (y4))]) d_Fit_fitOutline_32 (by decide) rfl rfl ?_
  refine J_iload (q := 36) 6 d_Fit_fitOutline_34 rfl rfl ?_
  refine J_istore (q := 38) (lv' := [(7, vi (y4)), (6, vi (y4)), (5, vi ((1 : Int32))), (0, vr 0 (o)), (1, vi (a1)), (2, vi (a2)), (3, vi (a3)), (4, vi (y4))]) d_Fit_fitOutline_36 (by decide) rfl rfl ?_
  refine J_iconst (q := 39) (v := (0 : Int32)) d_Fit_fitOutline_38 (by decide) rfl ?_
  refine J_istore (q := 41) (lv' := [(8, vi ((0 : Int32))), (7, vi (y4)), (6, vi (y4)), (5, vi ((1 : Int32))), (0, vr 0 (o)), (1, vi (a1)), (2, vi (a2)), (3, vi (a3)), (4, vi (y4))]) d_Fit_fitOutline_39 (by decide) rfl rfl ?_
  refine J_pick [4, 5, 6, 7, 8, 3, 2, 1, 0] rfl ?_
  exact tl_Fit_fitOutline_41 o a1 a2 a3 FU _ _ _ _ _ _ h
def m_Fit_fitOutline (o : Nat) (a1 : Int32) (a2 : Int32) (a3 : Int32) (μ : Mem) : Option (Bool × Mem) :=
  lp_Fit_fitOutline_3 o a1 a2 a3 (mj_Fit_fitOutline_27 o a1 a2 a3) FU (a2) μ
theorem t_Fit_fitOutline {o : Nat} {a1 : Int32} {a2 : Int32} {a3 : Int32} {μ : Mem} {q : Bool × Mem} (h : m_Fit_fitOutline o a1 a2 a3 μ = some q) : JM true (3) y_Fit_fitOutline b_Fit_fitOutline 12 (some (.boolean)) 0 0 [vr 0 (o), vi (a1), vi (a2), vi (a3)] μ (QQ (some (vi (b2i q.1))) q.2) := by
  unfold m_Fit_fitOutline at h
  refine JM.of pl_Fit_fitOutline (fun ρ => Nat.le_of_ble_eq_true rfl) ?_
  show J (GM true (QQ (some (vi (b2i q.1))) q.2) (some (.boolean)) y_Fit_fitOutline.name) true b_Fit_fitOutline R_0 12 (3) 0 0 0 [(0, vr 0 (o)), (1, vi (a1)), (2, vi (a2)), (3, vi (a3))] [] μ
  refine J_iload_n (q := 1) 2 d_Fit_fitOutline_0 rfl rfl rfl ?_
  refine J_istore (q := 3) (lv' := [(4, vi (a2)), (0, vr 0 (o)), (1, vi (a1)), (2, vi (a2)), (3, vi (a3))]) d_Fit_fitOutline_1 (by decide) rfl rfl ?_
  refine J_pick [1, 2, 3, 4, 0] rfl ?_
  exact tl_Fit_fitOutline_3 o a1 a2 a3 (fun _ _ h => tj_Fit_fitOutline_27 o a1 a2 a3 _ _ h) FU _ _ h
def mj_Fit_fitAll_41 (o : Nat) (a1 : Int32) (c_7 : Int32 → Int32 → Int32 → Mem → Option (Bool × Mem)) (y4 : Int32) (z0 : Int32) (μ : Mem) : Option (Bool × Mem) :=
  gu (y4) 8 <|
  ap (gI μ 103 (o) y4.toNatClampNeg) fun x6 =>
  ap (y4 + (1 : Int32)) fun x7 =>
  c_7 (z0) (x6) (x7) μ
theorem tj_Fit_fitAll_41 (o : Nat) (a1 : Int32) {q : Bool × Mem} {c_7 : Int32 → Int32 → Int32 → Mem → Option (Bool × Mem)} (hc_7 : ∀ (y2 : Int32) (y3 : Int32) (y4 : Int32) (μ : Mem), c_7 y2 y3 y4 μ = some q → J (GM true (QQ (some (vi (b2i q.1))) q.2) (some (.boolean)) y_Fit_fitAll.name) true b_Fit_fitAll R_0 5 (4) 0 0 7 [(0, vr 0 (o)), (1, vi (a1)), (2, vi (y2)), (3, vi (y3)), (4, vi (y4))] [] μ) (y4 : Int32) (z0 : Int32) (μ : Mem) (h : mj_Fit_fitAll_41 o a1 c_7 y4 z0 μ = some q) : J (GM true (QQ (some (vi (b2i q.1))) q.2) (some (.boolean)) y_Fit_fitAll.name) true b_Fit_fitAll R_0 5 (4) 0 0 41 [(0, vr 0 (o)), (1, vi (a1)), (4, vi (y4))] [vi (z0)] μ := by
  unfold mj_Fit_fitAll_41 at h
  refine J_istore_n (q := 42) (lv' := [(2, vi (z0)), (0, vr 0 (o)), (1, vi (a1)), (4, vi (y4))]) d_Fit_fitAll_41 rfl (by decide) rfl rfl ?_
  refine J_aload_n (q := 43) 1 d_Fit_fitAll_42 rfl rfl rfl ?_
  refine J_getF (q := 46) cd_0 (by decide) ft_0_3 rfl g_176 rfl d_Fit_fitAll_43 rfl ?_
  refine J_iload (q := 48) 3 d_Fit_fitAll_46 rfl rfl ?_
  obtain ⟨hi5, h⟩ := gu_some h
  refine J_iald (q := 49) rk_103 (by decide) hi5 d_Fit_fitAll_48 rfl ?_
  obtain ⟨x6, hx6, h⟩ := ap_eq h
  refine J_nmI hx6 ?_
  refine J_istore_n (q := 50) (lv' := [(3, vi (x6)), (2, vi (z0)), (0, vr 0 (o)), (1, vi (a1)), (4, vi (y4))]) d_Fit_fitAll_49 rfl (by decide) rfl rfl ?_
  obtain ⟨x7, hx7, h⟩ := ap_eq h
  refine J_iinc (q := 53) (v := x7) (lv' := [(4, vi (x7)), (3, vi (x6)), (2, vi (z0)), (0, vr 0 (o)), (1, vi (a1))]) 4 d_Fit_fitAll_50 rfl (by rw [hx7]; rfl) (by decide) rfl rfl ?_
  refine J_goto (q := 7) d_Fit_fitAll_53 (by decide) ?_
  refine J_pick [3, 4, 2, 1, 0] rfl ?_
  exact hc_7 _ _ _ _ h
def mj_Fit_fitAll_40 (o : Nat) (a1 : Int32) (c_7 : Int32 → Int32 → Int32 → Mem → Option (Bool × Mem)) (y4 : Int32) (μ : Mem) : Option (Bool × Mem) :=
  mj_Fit_fitAll_41 o a1 c_7 (y4) ((0 : Int32)) μ
theorem tj_Fit_fitAll_40 (o : Nat) (a1 : Int32) {q : Bool × Mem} {c_7 : Int32 → Int32 → Int32 → Mem → Option (Bool × Mem)} (hc_7 : ∀ (y2 : Int32) (y3 : Int32) (y4 : Int32) (μ : Mem), c_7 y2 y3 y4 μ = some q → J (GM true (QQ (some (vi (b2i q.1))) q.2) (some (.boolean)) y_Fit_fitAll.name) true b_Fit_fitAll R_0 5 (4) 0 0 7 [(0, vr 0 (o)), (1, vi (a1)), (2, vi (y2)), (3, vi (y3)), (4, vi (y4))] [] μ) (y4 : Int32) (μ : Mem) (h : mj_Fit_fitAll_40 o a1 c_7 y4 μ = some q) : J (GM true (QQ (some (vi (b2i q.1))) q.2) (some (.boolean)) y_Fit_fitAll.name) true b_Fit_fitAll R_0 5 (4) 0 0 40 [(0, vr 0 (o)), (1, vi (a1)), (4, vi (y4))] [] μ := by
  unfold mj_Fit_fitAll_40 at h
  refine J_iconst (q := 41) (v := (0 : Int32)) d_Fit_fitAll_40 (by decide) rfl ?_
  refine J_pick [0, 1, 2] rfl ?_
  exact tj_Fit_fitAll_41 o a1 hc_7 _ _ _ h
def lp_Fit_fitAll_7 (o : Nat) (a1 : Int32) : Nat → Int32 → Int32 → Int32 → Mem → Option (Bool × Mem)
  | 0, _, _, _, _ => none
  | n + 1, y2, y3, y4, μ =>
  if gI μ 0 (o) 4 ≤ y4 then
 (Option.bind (zb (y2)) fun B8 => some ((B8, μ)))
 else
 (gu (y4) 8 <|
  Option.bind (m_Fit_fitOutline (o) (a1) (y3) (gI μ 103 (o) y4.toNatClampNeg) μ) fun r10 =>
  ap (r10.2) fun μ11 =>
  if r10.1 then
 (if y2 = 0 then
 (mj_Fit_fitAll_40 o a1 (lp_Fit_fitAll_7 o a1 n) (y4) μ11)
 else
 (mj_Fit_fitAll_41 o a1 (lp_Fit_fitAll_7 o a1 n) (y4) ((1 : Int32)) μ11))
 else
 (mj_Fit_fitAll_40 o a1 (lp_Fit_fitAll_7 o a1 n) (y4) μ11))
theorem tl_Fit_fitAll_7 (o : Nat) (a1 : Int32) {q : Bool × Mem}  : ∀ (n : Nat) (y2 : Int32) (y3 : Int32) (y4 : Int32) (μ : Mem), lp_Fit_fitAll_7 o a1 n y2 y3 y4 μ = some q → J (GM true (QQ (some (vi (b2i q.1))) q.2) (some (.boolean)) y_Fit_fitAll.name) true b_Fit_fitAll R_0 5 (4) 0 0 7 [(0, vr 0 (o)), (1, vi (a1)), (2, vi (y2)), (3, vi (y3)), (4, vi (y4))] [] μ := by
  intro n
  induction n with
  | zero => intro _ _ _ _ h; cases h
  | succ n ih =>
    intro y2 y3 y4 μ h
    unfold lp_Fit_fitAll_7 at h
    refine J_iload (q := 9) 4 d_Fit_fitAll_7 rfl rfl ?_
    refine J_aload_n (q := 10) 0 d_Fit_fitAll_9 rfl rfl rfl ?_
    refine J_getI (q := 13) (j := 4) cd_0 (by decide) (Or.inl rfl) g_177 rfl d_Fit_fitAll_10 rfl ?_
    refine J_icmp_ge (q := 16) (tgt := 56) d_Fit_fitAll_13 (by decide) rfl (fun hc => ?_) (fun hc => ?_)
    · rw [if_pos hc] at h
      refine J_iload_n (q := 57) 2 d_Fit_fitAll_56 rfl rfl rfl ?_
      obtain ⟨B8, hB8, h⟩ := zb_some h
      obtain rfl := Option.some.inj h
      refine J_nmI hB8.symm ?_
      exact J_zret (b2i01 _) rfl ⟨rfl, rfl⟩ d_Fit_fitAll_57
    · rw [if_neg hc] at h
      refine J_aload_n (q := 17) 0 d_Fit_fitAll_16 rfl rfl rfl ?_
      refine J_iload_n (q := 18) 1 d_Fit_fitAll_17 rfl rfl rfl ?_
      refine J_iload_n (q := 19) 3 d_Fit_fitAll_18 rfl rfl rfl ?_
      refine J_aload_n (q := 20) 0 d_Fit_fitAll_19 rfl rfl rfl ?_
      refine J_getF (q := 23) cd_0 (by decide) ft_0_3 rfl g_176 rfl d_Fit_fitAll_20 rfl ?_
      refine J_iload (q := 25) 4 d_Fit_fitAll_23 rfl rfl ?_
      obtain ⟨hi9, h⟩ := gu_some h
      refine J_iald (q := 26) rk_103 (by decide) hi9 d_Fit_fitAll_25 rfl ?_
      obtain ⟨r10, hr10, h⟩ := bd_some h
      refine J_callVq (rc := 0) (rs := 0) (q := 29) (as := [vi (a1), vi (y3), vi (gI μ 103 (o) y4.toNatClampNeg)]) (st := []) (by decide) rfl g_924 sel_Fit_fitOutline (t_Fit_fitOutline hr10) (by decide) (by decide) g_922 g_925 g_6 hy_Fit_fitOutline rfl (Nat.le_of_ble_eq_true rfl) d_Fit_fitAll_26 rfl ?_
      obtain ⟨μ11, hμ11, h⟩ := ap_eq h
      refine J_nmM hμ11 ?_
      refine J_ifB_eq (q := 32) (tgt := 40) d_Fit_fitAll_29 (by decide) rfl (fun hb => ?_) (fun hb => ?_)
      · rw [iB_f hb] at h
        refine J_pick [0, 1, 4] rfl ?_
        exact tj_Fit_fitAll_40 o a1 ih _ _ h
      · rw [iB_t hb] at h
        refine J_iload_n (q := 33) 2 d_Fit_fitAll_32 rfl rfl rfl ?_
        refine J_if_eq (q := 36) (tgt := 40) d_Fit_fitAll_33 (by decide) rfl (fun hc => ?_) (fun hc => ?_)
        · rw [if_pos hc] at h
          refine J_pick [0, 1, 4] rfl ?_
          exact tj_Fit_fitAll_40 o a1 ih _ _ h
        · rw [if_neg hc] at h
          refine J_iconst (q := 37) (v := (1 : Int32)) d_Fit_fitAll_36 (by decide) rfl ?_
          refine J_goto (q := 41) d_Fit_fitAll_37 (by decide) ?_
          refine J_pick [0, 1, 4] rfl ?_
          exact tj_Fit_fitAll_41 o a1 ih _ _ _ h
def m_Fit_fitAll (o : Nat) (a1 : Int32) (μ : Mem) : Option (Bool × Mem) :=
  lp_Fit_fitAll_7 o a1 FU ((1 : Int32)) ((0 : Int32)) ((0 : Int32)) μ
theorem t_Fit_fitAll {o : Nat} {a1 : Int32} {μ : Mem} {q : Bool × Mem} (h : m_Fit_fitAll o a1 μ = some q) : JM true (4) y_Fit_fitAll b_Fit_fitAll 5 (some (.boolean)) 0 0 [vr 0 (o), vi (a1)] μ (QQ (some (vi (b2i q.1))) q.2) := by
  unfold m_Fit_fitAll at h
  refine JM.of pl_Fit_fitAll (fun ρ => Nat.le_of_ble_eq_true rfl) ?_
  show J (GM true (QQ (some (vi (b2i q.1))) q.2) (some (.boolean)) y_Fit_fitAll.name) true b_Fit_fitAll R_0 5 (4) 0 0 0 [(0, vr 0 (o)), (1, vi (a1))] [] μ
  refine J_iconst (q := 1) (v := (1 : Int32)) d_Fit_fitAll_0 (by decide) rfl ?_
  refine J_istore_n (q := 2) (lv' := [(2, vi ((1 : Int32))), (0, vr 0 (o)), (1, vi (a1))]) d_Fit_fitAll_1 rfl (by decide) rfl rfl ?_
  refine J_iconst (q := 3) (v := (0 : Int32)) d_Fit_fitAll_2 (by decide) rfl ?_
  refine J_istore_n (q := 4) (lv' := [(3, vi ((0 : Int32))), (2, vi ((1 : Int32))), (0, vr 0 (o)), (1, vi (a1))]) d_Fit_fitAll_3 rfl (by decide) rfl rfl ?_
  refine J_iconst (q := 5) (v := (0 : Int32)) d_Fit_fitAll_4 (by decide) rfl ?_
  refine J_istore (q := 7) (lv' := [(4, vi ((0 : Int32))), (3, vi ((0 : Int32))), (2, vi ((1 : Int32))), (0, vr 0 (o)), (1, vi (a1))]) d_Fit_fitAll_5 (by decide) rfl rfl ?_
  refine J_pick [3, 4, 2, 1, 0] rfl ?_
  exact tl_Fit_fitAll_7 o a1 FU _ _ _ _ h
def m_Ru_pop (μ : Mem) : Option (Int32 × Mem) :=
  if 0 < gI μ 9 (0) 3 then
 (ap (sI μ 9 (0) 3 ((gI μ 9 (0) 3) - ((1 : Int32)))) fun μ1 =>
  gu (gI μ1 9 (0) 3) 32 <|
  some ((gI μ1 280 (0) (gI μ1 9 (0) 3).toNatClampNeg, μ1)))
 else
 (some (((0 : Int32), μ)))
theorem t_Ru_pop {μ : Mem} {q : Int32 × Mem} (h : m_Ru_pop  μ = some q) : JM true (0) y_Ru_pop b_Ru_pop 1 (some (.int)) 0 0 [vr 9 (0)] μ (QQ (some (vi q.1)) q.2) := by
  unfold m_Ru_pop at h
  refine JM.of pl_Ru_pop (fun ρ => Nat.le_of_ble_eq_true rfl) ?_
  show J (GM true (QQ (some (vi q.1)) q.2) (some (.int)) y_Ru_pop.name) true b_Ru_pop R_9 1 (0) 0 0 0 [(0, vr 9 (0))] [] μ
  refine J_aload_n (q := 1) 0 d_Ru_pop_0 rfl rfl rfl ?_
  refine J_getI (q := 4) (j := 3) cd_9 (by decide) (Or.inl rfl) g_146 rfl d_Ru_pop_1 rfl ?_
  refine J_if_gt (q := 7) (tgt := 9) d_Ru_pop_4 (by decide) rfl (fun hc => ?_) (fun hc => ?_)
  · rw [if_pos hc] at h
    refine J_aload_n (q := 10) 0 d_Ru_pop_9 rfl rfl rfl ?_
    refine J_dupR (q := 11) d_Ru_pop_10 rfl ?_
    refine J_getI (q := 14) (j := 3) cd_9 (by decide) (Or.inl rfl) g_146 rfl d_Ru_pop_11 rfl ?_
    refine J_iconst (q := 15) (v := (1 : Int32)) d_Ru_pop_14 (by decide) rfl ?_
    refine J_isub (q := 16) d_Ru_pop_15 rfl ?_
    refine J_putI (q := 19) (j := 3) cd_9 (by decide) rfl rfl rfl g_146 rfl d_Ru_pop_16 rfl ?_
    obtain ⟨μ1, hμ1, h⟩ := ap_eq h
    refine J_nmM hμ1 ?_
    refine J_aload_n (q := 20) 0 d_Ru_pop_19 rfl rfl rfl ?_
    refine J_getF (q := 23) cd_9 (by decide) ft_9_0 rfl g_143 rfl d_Ru_pop_20 rfl ?_
    refine J_aload_n (q := 24) 0 d_Ru_pop_23 rfl rfl rfl ?_
    refine J_getI (q := 27) (j := 3) cd_9 (by decide) (Or.inl rfl) g_146 rfl d_Ru_pop_24 rfl ?_
    obtain ⟨hi2, h⟩ := gu_some h
    refine J_iald (q := 28) rk_280 (by decide) hi2 d_Ru_pop_27 rfl ?_
    obtain rfl := Option.some.inj h
    exact J_iret rfl ⟨rfl, rfl⟩ d_Ru_pop_28
  · rw [if_neg hc] at h
    refine J_iconst (q := 8) (v := (0 : Int32)) d_Ru_pop_7 (by decide) rfl ?_
    obtain rfl := Option.some.inj h
    exact J_iret rfl ⟨rfl, rfl⟩ d_Ru_pop_8
def m_Ru_push (a1 : Int32) (μ : Mem) : Option (Mem) :=
  if (32 : Int32) ≤ gI μ 9 (0) 3 then
 (some μ)
 else
 (gu (gI μ 9 (0) 3) 32 <|
  ap (sI μ 280 (0) (gI μ 9 (0) 3).toNatClampNeg (a1)) fun μ2 =>
  ap (sI μ2 9 (0) 3 ((gI μ2 9 (0) 3) + ((1 : Int32)))) fun μ3 =>
  some μ3)
theorem t_Ru_push {a1 : Int32} {μ : Mem} {q : Mem} (h : m_Ru_push a1 μ = some q) : JM true (0) y_Ru_push b_Ru_push 2 none 0 0 [vr 9 (0), vi (a1)] μ (QQ none q) := by
  unfold m_Ru_push at h
  refine JM.of pl_Ru_push (fun ρ => Nat.le_of_ble_eq_true rfl) ?_
  show J (GM true (QQ none q) none y_Ru_push.name) true b_Ru_push R_9 2 (0) 0 0 0 [(0, vr 9 (0)), (1, vi (a1))] [] μ
  refine J_aload_n (q := 1) 0 d_Ru_push_0 rfl rfl rfl ?_
  refine J_getI (q := 4) (j := 3) cd_9 (by decide) (Or.inl rfl) g_146 rfl d_Ru_push_1 rfl ?_
  refine J_bipush (q := 6) (v := (32 : Int32)) d_Ru_push_4 (by decide) rfl ?_
  refine J_icmp_ge (q := 9) (tgt := 29) d_Ru_push_6 (by decide) rfl (fun hc => ?_) (fun hc => ?_)
  · rw [if_pos hc] at h
    obtain rfl := Option.some.inj h
    exact J_vret rfl ⟨rfl, rfl⟩ d_Ru_push_29
  · rw [if_neg hc] at h
    refine J_aload_n (q := 10) 0 d_Ru_push_9 rfl rfl rfl ?_
    refine J_getF (q := 13) cd_9 (by decide) ft_9_0 rfl g_143 rfl d_Ru_push_10 rfl ?_
    refine J_aload_n (q := 14) 0 d_Ru_push_13 rfl rfl rfl ?_
    refine J_getI (q := 17) (j := 3) cd_9 (by decide) (Or.inl rfl) g_146 rfl d_Ru_push_14 rfl ?_
    refine J_iload_n (q := 18) 1 d_Ru_push_17 rfl rfl rfl ?_
    obtain ⟨hi1, h⟩ := gu_some h
    refine J_iast (q := 19) rk_280 (by decide) hi1 d_Ru_push_18 rfl ?_
    obtain ⟨μ2, hμ2, h⟩ := ap_eq h
    refine J_nmM hμ2 ?_
    refine J_aload_n (q := 20) 0 d_Ru_push_19 rfl rfl rfl ?_
    refine J_dupR (q := 21) d_Ru_push_20 rfl ?_
    refine J_getI (q := 24) (j := 3) cd_9 (by decide) (Or.inl rfl) g_146 rfl d_Ru_push_21 rfl ?_
    refine J_iconst (q := 25) (v := (1 : Int32)) d_Ru_push_24 (by decide) rfl ?_
    refine J_iadd (q := 26) d_Ru_push_25 rfl ?_
    refine J_putI (q := 29) (j := 3) cd_9 (by decide) rfl rfl rfl g_146 rfl d_Ru_push_26 rfl ?_
    obtain ⟨μ3, hμ3, h⟩ := ap_eq h
    refine J_nmM hμ3 ?_
    obtain rfl := Option.some.inj h
    exact J_vret rfl ⟨rfl, rfl⟩ d_Ru_push_29
