def m_Fo_winding (a1 : Int32) (a2 : Int32) (μ : Mem) : Option (Int32) :=
  if (m_Fo_within ((a1).toInt64) ((-2000000 : Int64)) ((2000000 : Int64)) μ) then
 (if (m_Fo_within ((a2).toInt64) ((-2000000 : Int64)) ((2000000 : Int64)) μ) then
 (ap (gR μ 11 (0) 3) fun o1 =>
  Option.bind o1 fun y2 =>
  Option.bind (m_Po_turnsAround (y2) (a1) (a2) μ) fun r3 =>
  some (r3))
 else
 (some ((0 : Int32))))
 else
 (some ((0 : Int32)))
theorem t_Fo_winding {a1 : Int32} {a2 : Int32} {μ : Mem} {q : Int32} (h : m_Fo_winding a1 a2 μ = some q) : JM true (1) y_Fo_winding b_Fo_winding 3 (some (.int)) 0 0 [vr 11 (0), vi (a1), vi (a2)] μ (QQ (some (vi q)) μ) := by
  unfold m_Fo_winding at h
  refine JM.of pl_Fo_winding (fun ρ => Nat.le_of_ble_eq_true rfl) ?_
  show J (GM true (QQ (some (vi q)) μ) (some (.int)) y_Fo_winding.name) true b_Fo_winding R_11 3 (1) 0 0 0 [(0, vr 11 (0)), (1, vi (a1)), (2, vi (a2))] [] μ
  refine J_iload_n (q := 1) 1 d_Fo_winding_0 rfl rfl rfl ?_
  refine J_i2l (q := 2) d_Fo_winding_1 rfl ?_
  refine J_ldc2 (q := 5) d_Fo_winding_2 g_708 rfl ?_
  refine J_ldc2 (q := 8) d_Fo_winding_5 g_709 rfl ?_
  refine J_callSq (rc := 0) (rs := 0) (q := 11) (as := [vl ((a1).toInt64), vl ((-2000000 : Int64)), vl ((2000000 : Int64))]) (st := []) g_300 (t_Fo_within rfl) (by decide) (by decide) g_299 g_301 g_1 hy_Fo_within rfl (Nat.le_of_ble_eq_true rfl) d_Fo_winding_8 rfl ?_
  refine J_ifB_eq (q := 14) (tgt := 28) d_Fo_winding_11 (by decide) rfl (fun hb => ?_) (fun hb => ?_)
  · rw [iB_f hb] at h
    refine J_iconst (q := 29) (v := (0 : Int32)) d_Fo_winding_28 (by decide) rfl ?_
    obtain rfl := Option.some.inj h
    exact J_iret rfl ⟨rfl, rfl⟩ d_Fo_winding_29
  · rw [iB_t hb] at h
    refine J_iload_n (q := 15) 2 d_Fo_winding_14 rfl rfl rfl ?_
    refine J_i2l (q := 16) d_Fo_winding_15 rfl ?_
    refine J_ldc2 (q := 19) d_Fo_winding_16 g_708 rfl ?_
    refine J_ldc2 (q := 22) d_Fo_winding_19 g_709 rfl ?_
    refine J_callSq (rc := 0) (rs := 0) (q := 25) (as := [vl ((a2).toInt64), vl ((-2000000 : Int64)), vl ((2000000 : Int64))]) (st := []) g_300 (t_Fo_within rfl) (by decide) (by decide) g_299 g_301 g_1 hy_Fo_within rfl (Nat.le_of_ble_eq_true rfl) d_Fo_winding_22 rfl ?_
    refine J_ifB_ne (q := 28) (tgt := 30) d_Fo_winding_25 (by decide) rfl (fun hb => ?_) (fun hb => ?_)
    · rw [iB_t hb] at h
      refine J_aload_n (q := 31) 0 d_Fo_winding_30 rfl rfl rfl ?_
      refine J_getR (q := 34) cd_11 (by decide) ft_11_3 g_257 rfl d_Fo_winding_31 rfl ?_
      obtain ⟨o1, ho1, h⟩ := ap_eq h
      refine J_nmO ho1 ?_
      refine J_iload_n (q := 35) 1 d_Fo_winding_34 rfl rfl rfl ?_
      refine J_iload_n (q := 36) 2 d_Fo_winding_35 rfl rfl rfl ?_
      replace h := bd_some h
      obtain ⟨y2, hy2, h⟩ := h
      subst hy2
      obtain ⟨r3, hr3, h⟩ := bd_some h
      refine J_callVq (rc := 0) (rs := 0) (q := 39) (as := [vi (a1), vi (a2)]) (st := []) (by decide) rfl g_711 g_712 (t_Po_turnsAround hr3) (by decide) (by decide) g_710 g_713 g_3 hy_Po_turnsAround rfl (Nat.le_of_ble_eq_true rfl) d_Fo_winding_36 rfl ?_
      obtain rfl := Option.some.inj h
      exact J_iret rfl ⟨rfl, rfl⟩ d_Fo_winding_39
    · rw [iB_f hb] at h
      refine J_iconst (q := 29) (v := (0 : Int32)) d_Fo_winding_28 (by decide) rfl ?_
      obtain rfl := Option.some.inj h
      exact J_iret rfl ⟨rfl, rfl⟩ d_Fo_winding_29
def m_Po_side (o : Nat) (a1 : Int32) (a2 : Int32) (a3 : Int32) (μ : Mem) : Option (Int64) :=
  gu (a2) 500 <|
  gu (a1) 500 <|
  gu (a3) 500 <|
  gu (a1) 500 <|
  gu (a3) 500 <|
  gu (a1) 500 <|
  gu (a2) 500 <|
  gu (a1) 500 <|
  some (((((gI μ 240 (o) a2.toNatClampNeg) - (gI μ 240 (o) a1.toNatClampNeg)).toInt64) * (((gI μ 241 (o) a3.toNatClampNeg) - (gI μ 241 (o) a1.toNatClampNeg)).toInt64)) - ((((gI μ 240 (o) a3.toNatClampNeg) - (gI μ 240 (o) a1.toNatClampNeg)).toInt64) * (((gI μ 241 (o) a2.toNatClampNeg) - (gI μ 241 (o) a1.toNatClampNeg)).toInt64)))
theorem t_Po_side {o : Nat} {a1 : Int32} {a2 : Int32} {a3 : Int32} {μ : Mem} {q : Int64} (h : m_Po_side o a1 a2 a3 μ = some q) : JM true (0) y_Po_side b_Po_side 4 (some (.long)) 0 0 [vr 7 (o), vi (a1), vi (a2), vi (a3)] μ (QQ (some (vl q)) μ) := by
  unfold m_Po_side at h
  refine JM.of pl_Po_side (fun ρ => Nat.le_of_ble_eq_true rfl) ?_
  show J (GM true (QQ (some (vl q)) μ) (some (.long)) y_Po_side.name) true b_Po_side R_7 4 (0) 0 0 0 [(0, vr 7 (o)), (1, vi (a1)), (2, vi (a2)), (3, vi (a3))] [] μ
  refine J_aload_n (q := 1) 0 d_Po_side_0 rfl rfl rfl ?_
  refine J_getF (q := 4) cd_7 (by decide) ft_7_0 rfl g_64 rfl d_Po_side_1 rfl ?_
  refine J_iload_n (q := 5) 2 d_Po_side_4 rfl rfl rfl ?_
  obtain ⟨hi1, h⟩ := gu_some h
  refine J_iald (q := 6) rk_240 (by decide) hi1 d_Po_side_5 rfl ?_
  refine J_aload_n (q := 7) 0 d_Po_side_6 rfl rfl rfl ?_
  refine J_getF (q := 10) cd_7 (by decide) ft_7_0 rfl g_64 rfl d_Po_side_7 rfl ?_
  refine J_iload_n (q := 11) 1 d_Po_side_10 rfl rfl rfl ?_
  obtain ⟨hi2, h⟩ := gu_some h
  refine J_iald (q := 12) rk_240 (by decide) hi2 d_Po_side_11 rfl ?_
  refine J_isub (q := 13) d_Po_side_12 rfl ?_
  refine J_i2l (q := 14) d_Po_side_13 rfl ?_
  refine J_aload_n (q := 15) 0 d_Po_side_14 rfl rfl rfl ?_
  refine J_getF (q := 18) cd_7 (by decide) ft_7_1 rfl g_67 rfl d_Po_side_15 rfl ?_
  refine J_iload_n (q := 19) 3 d_Po_side_18 rfl rfl rfl ?_
  obtain ⟨hi3, h⟩ := gu_some h
  refine J_iald (q := 20) rk_241 (by decide) hi3 d_Po_side_19 rfl ?_
  refine J_aload_n (q := 21) 0 d_Po_side_20 rfl rfl rfl ?_
  refine J_getF (q := 24) cd_7 (by decide) ft_7_1 rfl g_67 rfl d_Po_side_21 rfl ?_
  refine J_iload_n (q := 25) 1 d_Po_side_24 rfl rfl rfl ?_
  obtain ⟨hi4, h⟩ := gu_some h
  refine J_iald (q := 26) rk_241 (by decide) hi4 d_Po_side_25 rfl ?_
  refine J_isub (q := 27) d_Po_side_26 rfl ?_
  refine J_i2l (q := 28) d_Po_side_27 rfl ?_
  refine J_lmul (q := 29) d_Po_side_28 rfl ?_
  refine J_aload_n (q := 30) 0 d_Po_side_29 rfl rfl rfl ?_
  refine J_getF (q := 33) cd_7 (by decide) ft_7_0 rfl g_64 rfl d_Po_side_30 rfl ?_
  refine J_iload_n (q := 34) 3 d_Po_side_33 rfl rfl rfl ?_
  obtain ⟨hi5, h⟩ := gu_some h
  refine J_iald (q := 35) rk_240 (by decide) hi5 d_Po_side_34 rfl ?_
  refine J_aload_n (q := 36) 0 d_Po_side_35 rfl rfl rfl ?_
  refine J_getF (q := 39) cd_7 (by decide) ft_7_0 rfl g_64 rfl d_Po_side_36 rfl ?_
  refine J_iload_n (q := 40) 1 d_Po_side_39 rfl rfl rfl ?_
  obtain ⟨hi6, h⟩ := gu_some h
  refine J_iald (q := 41) rk_240 (by decide) hi6 d_Po_side_40 rfl ?_
  refine J_isub (q := 42) d_Po_side_41 rfl ?_
  refine J_i2l (q := 43) d_Po_side_42 rfl ?_
  refine J_aload_n (q := 44) 0 d_Po_side_43 rfl rfl rfl ?_
  refine J_getF (q := 47) cd_7 (by decide) ft_7_1 rfl g_67 rfl d_Po_side_44 rfl ?_
  refine J_iload_n (q := 48) 2 d_Po_side_47 rfl rfl rfl ?_
  obtain ⟨hi7, h⟩ := gu_some h
  refine J_iald (q := 49) rk_241 (by decide) hi7 d_Po_side_48 rfl ?_
  refine J_aload_n (q := 50) 0 d_Po_side_49 rfl rfl rfl ?_
  refine J_getF (q := 53) cd_7 (by decide) ft_7_1 rfl g_67 rfl d_Po_side_50 rfl ?_
  refine J_iload_n (q := 54) 1 d_Po_side_53 rfl rfl rfl ?_
  obtain ⟨hi8, h⟩ := gu_some h
  refine J_iald (q := 55) rk_241 (by decide) hi8 d_Po_side_54 rfl ?_
  refine J_isub (q := 56) d_Po_side_55 rfl ?_
  refine J_i2l (q := 57) d_Po_side_56 rfl ?_
  refine J_lmul (q := 58) d_Po_side_57 rfl ?_
  refine J_lsub (q := 59) d_Po_side_58 rfl ?_
  obtain rfl := Option.some.inj h
  exact J_lret rfl ⟨rfl, rfl⟩ d_Po_side_59
def mj_Po_parts_47 (o : Nat) (a1 : Int32) (a2 : Int32) (a3 : Int32) (a4 : Int32) (μ : Mem) : Option (Bool) :=
  some (true)
theorem tj_Po_parts_47 (o : Nat) (a1 : Int32) (a2 : Int32) (a3 : Int32) (a4 : Int32) (μ : Mem) {q : Bool}  (h : mj_Po_parts_47 o a1 a2 a3 a4 μ  = some q) : J (GM true (QQ (some (vi (b2i q))) μ) (some (.boolean)) y_Po_parts.name) true b_Po_parts R_7 9 (1) 0 0 47 [] [] μ := by
  unfold mj_Po_parts_47 at h
  refine J_iconst (q := 48) (v := (1 : Int32)) d_Po_parts_47 (by decide) rfl ?_
  refine J_goto (q := 52) d_Po_parts_48 (by decide) ?_
  obtain rfl := Option.some.inj h
  exact J_zret (Or.inr rfl) rfl ⟨rfl, rfl⟩ d_Po_parts_52
def mj_Po_parts_33 (o : Nat) (a1 : Int32) (a2 : Int32) (a3 : Int32) (a4 : Int32) (μ : Mem) (y5 : Int64) (y7 : Int64) : Option (Bool) :=
  if y5 ≤ (0 : Int64) then
 (some (false))
 else
 (if (0 : Int64) ≤ y7 then
 (some (false))
 else
 (mj_Po_parts_47 o a1 a2 a3 a4 μ ))
theorem tj_Po_parts_33 (o : Nat) (a1 : Int32) (a2 : Int32) (a3 : Int32) (a4 : Int32) (μ : Mem) {q : Bool}  (y5 : Int64) (y7 : Int64) (h : mj_Po_parts_33 o a1 a2 a3 a4 μ y5 y7 = some q) : J (GM true (QQ (some (vi (b2i q))) μ) (some (.boolean)) y_Po_parts.name) true b_Po_parts R_7 9 (1) 0 0 33 [(5, vl (y5)), (7, vl (y7))] [] μ := by
  unfold mj_Po_parts_33 at h
  refine J_lload (q := 35) 0 d_Po_parts_33 rfl rfl ?_
  refine J_lconst (q := 36) (v := (0 : Int64)) d_Po_parts_35 (by decide) rfl ?_
  refine J_lif_le (q := 40) (tgt := 51) d_Po_parts_36 d_Po_parts_37 (by decide) rfl (fun hc => ?_) (fun hc => ?_)
  · rw [if_pos hc] at h
    refine J_iconst (q := 52) (v := (0 : Int32)) d_Po_parts_51 (by decide) rfl ?_
    obtain rfl := Option.some.inj h
    exact J_zret (Or.inl rfl) rfl ⟨rfl, rfl⟩ d_Po_parts_52
  · rw [if_neg hc] at h
    refine J_lload (q := 42) 1 d_Po_parts_40 rfl rfl ?_
    refine J_lconst (q := 43) (v := (0 : Int64)) d_Po_parts_42 (by decide) rfl ?_
    refine J_lif_ge (q := 47) (tgt := 51) d_Po_parts_43 d_Po_parts_44 (by decide) rfl (fun hc => ?_) (fun hc => ?_)
    · rw [if_pos hc] at h
      refine J_iconst (q := 52) (v := (0 : Int32)) d_Po_parts_51 (by decide) rfl ?_
      obtain rfl := Option.some.inj h
      exact J_zret (Or.inl rfl) rfl ⟨rfl, rfl⟩ d_Po_parts_52
    · rw [if_neg hc] at h
      refine J_pick [] rfl ?_
      exact tj_Po_parts_47 o a1 a2 a3 a4 μ h
def m_Po_parts (o : Nat) (a1 : Int32) (a2 : Int32) (a3 : Int32) (a4 : Int32) (μ : Mem) : Option (Bool) :=
  Option.bind (m_Po_side (o) (a1) (a2) (a3) μ) fun r1 =>
  Option.bind (m_Po_side (o) (a1) (a2) (a4) μ) fun r2 =>
  if (0 : Int64) ≤ r1 then
 (mj_Po_parts_33 o a1 a2 a3 a4 μ (r1) (r2))
 else
 (if (0 : Int64) < r2 then
 (mj_Po_parts_47 o a1 a2 a3 a4 μ )
 else
 (mj_Po_parts_33 o a1 a2 a3 a4 μ (r1) (r2)))
theorem t_Po_parts {o : Nat} {a1 : Int32} {a2 : Int32} {a3 : Int32} {a4 : Int32} {μ : Mem} {q : Bool} (h : m_Po_parts o a1 a2 a3 a4 μ = some q) : JM true (1) y_Po_parts b_Po_parts 9 (some (.boolean)) 0 0 [vr 7 (o), vi (a1), vi (a2), vi (a3), vi (a4)] μ (QQ (some (vi (b2i q))) μ) := by
  unfold m_Po_parts at h
  refine JM.of pl_Po_parts (fun ρ => Nat.le_of_ble_eq_true rfl) ?_
  show J (GM true (QQ (some (vi (b2i q))) μ) (some (.boolean)) y_Po_parts.name) true b_Po_parts R_7 9 (1) 0 0 0 [(0, vr 7 (o)), (1, vi (a1)), (2, vi (a2)), (3, vi (a3)), (4, vi (a4))] [] μ
  refine J_aload_n (q := 1) 0 d_Po_parts_0 rfl rfl rfl ?_
  refine J_iload_n (q := 2) 1 d_Po_parts_1 rfl rfl rfl ?_
  refine J_iload_n (q := 3) 2 d_Po_parts_2 rfl rfl rfl ?_
  refine J_iload_n (q := 4) 3 d_Po_parts_3 rfl rfl rfl ?_
  obtain ⟨r1, hr1, h⟩ := bd_some h
  refine J_callVq (rc := 0) (rs := 0) (q := 7) (as := [vi (a1), vi (a2), vi (a3)]) (st := []) (by decide) rfl g_729 sel_Po_side (t_Po_side hr1) (by decide) (by decide) g_727 g_730 g_3 hy_Po_side rfl (Nat.le_of_ble_eq_true rfl) d_Po_parts_4 rfl ?_
  refine J_lstore (q := 9) (lv' := [(5, vl (r1)), (0, vr 7 (o)), (1, vi (a1)), (2, vi (a2)), (3, vi (a3)), (4, vi (a4))]) d_Po_parts_7 (by decide) rfl rfl ?_
  refine J_aload_n (q := 10) 1 d_Po_parts_9 rfl rfl rfl ?_
  refine J_iload_n (q := 11) 2 d_Po_parts_10 rfl rfl rfl ?_
  refine J_iload_n (q := 12) 3 d_Po_parts_11 rfl rfl rfl ?_
  refine J_iload (q := 14) 5 d_Po_parts_12 rfl rfl ?_
  obtain ⟨r2, hr2, h⟩ := bd_some h
  refine J_callVq (rc := 0) (rs := 0) (q := 17) (as := [vi (a1), vi (a2), vi (a4)]) (st := []) (by decide) rfl g_729 sel_Po_side (t_Po_side hr2) (by decide) (by decide) g_727 g_730 g_3 hy_Po_side rfl (Nat.le_of_ble_eq_true rfl) d_Po_parts_14 rfl ?_
  refine J_lstore (q := 19) (lv' := [(7, vl (r2)), (5, vl (r1)), (0, vr 7 (o)), (1, vi (a1)), (2, vi (a2)), (3, vi (a3)), (4, vi (a4))]) d_Po_parts_17 (by decide) rfl rfl ?_
  refine J_lload (q := 21) 1 d_Po_parts_19 rfl rfl ?_
  refine J_lconst (q := 22) (v := (0 : Int64)) d_Po_parts_21 (by decide) rfl ?_
  refine J_lif_ge (q := 26) (tgt := 33) d_Po_parts_22 d_Po_parts_23 (by decide) rfl (fun hc => ?_) (fun hc => ?_)
  · rw [if_pos hc] at h
    refine J_pick [1, 0] rfl ?_
    exact tj_Po_parts_33 o a1 a2 a3 a4 μ _ _ h
  · rw [if_neg hc] at h
    refine J_lload (q := 28) 0 d_Po_parts_26 rfl rfl ?_
    refine J_lconst (q := 29) (v := (0 : Int64)) d_Po_parts_28 (by decide) rfl ?_
    refine J_lif_gt (q := 33) (tgt := 47) d_Po_parts_29 d_Po_parts_30 (by decide) rfl (fun hc => ?_) (fun hc => ?_)
    · rw [if_pos hc] at h
      refine J_pick [] rfl ?_
      exact tj_Po_parts_47 o a1 a2 a3 a4 μ h
    · rw [if_neg hc] at h
      refine J_pick [1, 0] rfl ?_
      exact tj_Po_parts_33 o a1 a2 a3 a4 μ _ _ h
def mj_Po_crossingPairs_69 (o : Nat) (μ : Mem) (c_16 : Int32 → Int32 → Int32 → Option (Int32)) (y1 : Int32) (y2 : Int32) (y3 : Int32) : Option (Int32) :=
  ap (y3 + (1 : Int32)) fun x5 =>
  c_16 (y1) (y2) (x5)
theorem tj_Po_crossingPairs_69 (o : Nat) (μ : Mem) {q : Int32} {c_16 : Int32 → Int32 → Int32 → Option (Int32)} (hc_16 : ∀ (y1 : Int32) (y2 : Int32) (y3 : Int32), c_16 y1 y2 y3 = some q → J (GM true (QQ (some (vi q)) μ) (some (.int)) y_Po_crossingPairs.name) true b_Po_crossingPairs R_7 4 (2) 0 0 16 [(0, vr 7 (o)), (1, vi (y1)), (2, vi (y2)), (3, vi (y3))] [] μ) (y1 : Int32) (y2 : Int32) (y3 : Int32) (h : mj_Po_crossingPairs_69 o μ c_16 y1 y2 y3 = some q) : J (GM true (QQ (some (vi q)) μ) (some (.int)) y_Po_crossingPairs.name) true b_Po_crossingPairs R_7 4 (2) 0 0 69 [(0, vr 7 (o)), (1, vi (y1)), (2, vi (y2)), (3, vi (y3))] [] μ := by
  unfold mj_Po_crossingPairs_69 at h
  obtain ⟨x5, hx5, h⟩ := ap_eq h
  refine J_iinc (q := 72) (v := x5) (lv' := [(3, vi (x5)), (0, vr 7 (o)), (1, vi (y1)), (2, vi (y2))]) 3 d_Po_crossingPairs_69 rfl (by rw [hx5]; rfl) (by decide) rfl rfl ?_
  refine J_goto (q := 16) d_Po_crossingPairs_72 (by decide) ?_
  refine J_pick [1, 2, 3, 0] rfl ?_
  exact hc_16 _ _ _ h
def lp_Po_crossingPairs_16 (o : Nat) (μ : Mem) (c_75 : Int32 → Int32 → Option (Int32)) : Nat → Int32 → Int32 → Int32 → Option (Int32)
  | 0, _, _, _ => none
  | n + 1, y1, y2, y3 =>
  if gI μ 7 (o) 4 ≤ y3 then
 (c_75 (y1) (y2))
 else
 (gu (y2) 500 <|
  gu (y3) 500 <|
  Option.bind (m_Po_parts (o) (y2) (gI μ 243 (o) y2.toNatClampNeg) (y3) (gI μ 243 (o) y3.toNatClampNeg) μ) fun r12 =>
  if r12 then
 (gu (y3) 500 <|
  gu (y2) 500 <|
  Option.bind (m_Po_parts (o) (y3) (gI μ 243 (o) y3.toNatClampNeg) (y2) (gI μ 243 (o) y2.toNatClampNeg) μ) fun r15 =>
  if r15 then
 (ap (y1 + (1 : Int32)) fun x16 =>
  mj_Po_crossingPairs_69 o μ (lp_Po_crossingPairs_16 o μ c_75 n) (x16) (y2) (y3))
 else
 (mj_Po_crossingPairs_69 o μ (lp_Po_crossingPairs_16 o μ c_75 n) (y1) (y2) (y3)))
 else
 (mj_Po_crossingPairs_69 o μ (lp_Po_crossingPairs_16 o μ c_75 n) (y1) (y2) (y3)))
theorem tl_Po_crossingPairs_16 (o : Nat) (μ : Mem) {q : Int32} {c_75 : Int32 → Int32 → Option (Int32)} (hc_75 : ∀ (y1 : Int32) (y2 : Int32), c_75 y1 y2 = some q → J (GM true (QQ (some (vi q)) μ) (some (.int)) y_Po_crossingPairs.name) true b_Po_crossingPairs R_7 4 (2) 0 0 75 [(0, vr 7 (o)), (1, vi (y1)), (2, vi (y2))] [] μ) : ∀ (n : Nat) (y1 : Int32) (y2 : Int32) (y3 : Int32), lp_Po_crossingPairs_16 o μ c_75 n y1 y2 y3 = some q → J (GM true (QQ (some (vi q)) μ) (some (.int)) y_Po_crossingPairs.name) true b_Po_crossingPairs R_7 4 (2) 0 0 16 [(0, vr 7 (o)), (1, vi (y1)), (2, vi (y2)), (3, vi (y3))] [] μ := by
  intro n
  induction n with
  | zero => intro _ _ _ h; cases h
  | succ n ih =>
    intro y1 y2 y3 h
    unfold lp_Po_crossingPairs_16 at h
    refine J_iload_n (q := 17) 3 d_Po_crossingPairs_16 rfl rfl rfl ?_
    refine J_aload_n (q := 18) 0 d_Po_crossingPairs_17 rfl rfl rfl ?_
    refine J_getI (q := 21) (j := 4) cd_7 (by decide) (Or.inl rfl) g_74 rfl d_Po_crossingPairs_18 rfl ?_
    refine J_icmp_ge (q := 24) (tgt := 75) d_Po_crossingPairs_21 (by decide) rfl (fun hc => ?_) (fun hc => ?_)
    · rw [if_pos hc] at h
      refine J_pick [0, 1, 2] rfl ?_
      exact hc_75 _ _ h
    · rw [if_neg hc] at h
      refine J_aload_n (q := 25) 0 d_Po_crossingPairs_24 rfl rfl rfl ?_
      refine J_iload_n (q := 26) 2 d_Po_crossingPairs_25 rfl rfl rfl ?_
      refine J_aload_n (q := 27) 0 d_Po_crossingPairs_26 rfl rfl rfl ?_
      refine J_getF (q := 30) cd_7 (by decide) ft_7_3 rfl g_72 rfl d_Po_crossingPairs_27 rfl ?_
      refine J_iload_n (q := 31) 2 d_Po_crossingPairs_30 rfl rfl rfl ?_
      obtain ⟨hi10, h⟩ := gu_some h
      refine J_iald (q := 32) rk_243 (by decide) hi10 d_Po_crossingPairs_31 rfl ?_
      refine J_iload_n (q := 33) 3 d_Po_crossingPairs_32 rfl rfl rfl ?_
      refine J_aload_n (q := 34) 0 d_Po_crossingPairs_33 rfl rfl rfl ?_
      refine J_getF (q := 37) cd_7 (by decide) ft_7_3 rfl g_72 rfl d_Po_crossingPairs_34 rfl ?_
      refine J_iload_n (q := 38) 3 d_Po_crossingPairs_37 rfl rfl rfl ?_
      obtain ⟨hi11, h⟩ := gu_some h
      refine J_iald (q := 39) rk_243 (by decide) hi11 d_Po_crossingPairs_38 rfl ?_
      obtain ⟨r12, hr12, h⟩ := bd_some h
      refine J_callVq (rc := 0) (rs := 0) (q := 42) (as := [vi (y2), vi (gI μ 243 (o) y2.toNatClampNeg), vi (y3), vi (gI μ 243 (o) y3.toNatClampNeg)]) (st := []) (by decide) rfl g_725 sel_Po_parts (t_Po_parts hr12) (by decide) (by decide) g_723 g_726 g_3 hy_Po_parts rfl (Nat.le_of_ble_eq_true rfl) d_Po_crossingPairs_39 rfl ?_
      refine J_ifB_eq (q := 45) (tgt := 69) d_Po_crossingPairs_42 (by decide) rfl (fun hb => ?_) (fun hb => ?_)
      · rw [iB_f hb] at h
        refine J_pick [0, 1, 2, 3] rfl ?_
        exact tj_Po_crossingPairs_69 o μ ih _ _ _ h
      · rw [iB_t hb] at h
        refine J_aload_n (q := 46) 0 d_Po_crossingPairs_45 rfl rfl rfl ?_
        refine J_iload_n (q := 47) 3 d_Po_crossingPairs_46 rfl rfl rfl ?_
        refine J_aload_n (q := 48) 0 d_Po_crossingPairs_47 rfl rfl rfl ?_
        refine J_getF (q := 51) cd_7 (by decide) ft_7_3 rfl g_72 rfl d_Po_crossingPairs_48 rfl ?_
        refine J_iload_n (q := 52) 3 d_Po_crossingPairs_51 rfl rfl rfl ?_
        obtain ⟨hi13, h⟩ := gu_some h
        refine J_iald (q := 53) rk_243 (by decide) hi13 d_Po_crossingPairs_52 rfl ?_
        refine J_iload_n (q := 54) 2 d_Po_crossingPairs_53 rfl rfl rfl ?_
        refine J_aload_n (q := 55) 0 d_Po_crossingPairs_54 rfl rfl rfl ?_
        refine J_getF (q := 58) cd_7 (by decide) ft_7_3 rfl g_72 rfl d_Po_crossingPairs_55 rfl ?_
        refine J_iload_n (q := 59) 2 d_Po_crossingPairs_58 rfl rfl rfl ?_
        obtain ⟨hi14, h⟩ := gu_some h
        refine J_iald (q := 60) rk_243 (by decide) hi14 d_Po_crossingPairs_59 rfl ?_
        obtain ⟨r15, hr15, h⟩ := bd_some h
        refine J_callVq (rc := 0) (rs := 0) (q := 63) (as := [vi (y3), vi (gI μ 243 (o) y3.toNatClampNeg), vi (y2), vi (gI μ 243 (o) y2.toNatClampNeg)]) (st := []) (by decide) rfl g_725 sel_Po_parts (t_Po_parts hr15) (by decide) (by decide) g_723 g_726 g_3 hy_Po_parts rfl (Nat.le_of_ble_eq_true rfl) d_Po_crossingPairs_60 rfl ?_
        refine J_ifB_eq (q := 66) (tgt := 69) d_Po_crossingPairs_63 (by decide) rfl (fun hb => ?_) (fun hb => ?_)
        · rw [iB_f hb] at h
          refine J_pick [0, 1, 2, 3] rfl ?_
          exact tj_Po_crossingPairs_69 o μ ih _ _ _ h
        · rw [iB_t hb] at h
          obtain ⟨x16, hx16, h⟩ := ap_eq h
          refine J_iinc (q := 69) (v := x16) (lv' := [(1, vi (x16)), (0, vr 7 (o)), (2, vi (y2)), (3, vi (y3))]) 1 d_Po_crossingPairs_66 rfl (by rw [hx16]; rfl) (by decide) rfl rfl ?_
          refine J_pick [1, 0, 2, 3] rfl ?_
          exact tj_Po_crossingPairs_69 o μ ih _ _ _ h
def mj_Po_crossingPairs_75 (o : Nat) (μ : Mem) (c_4 : Int32 → Int32 → Option (Int32)) (y1 : Int32) (y2 : Int32) : Option (Int32) :=
  ap (y2 + (1 : Int32)) fun x17 =>
  c_4 (y1) (x17)
theorem tj_Po_crossingPairs_75 (o : Nat) (μ : Mem) {q : Int32} {c_4 : Int32 → Int32 → Option (Int32)} (hc_4 : ∀ (y1 : Int32) (y2 : Int32), c_4 y1 y2 = some q → J (GM true (QQ (some (vi q)) μ) (some (.int)) y_Po_crossingPairs.name) true b_Po_crossingPairs R_7 4 (2) 0 0 4 [(0, vr 7 (o)), (1, vi (y1)), (2, vi (y2))] [] μ) (y1 : Int32) (y2 : Int32) (h : mj_Po_crossingPairs_75 o μ c_4 y1 y2 = some q) : J (GM true (QQ (some (vi q)) μ) (some (.int)) y_Po_crossingPairs.name) true b_Po_crossingPairs R_7 4 (2) 0 0 75 [(0, vr 7 (o)), (1, vi (y1)), (2, vi (y2))] [] μ := by
  unfold mj_Po_crossingPairs_75 at h
  obtain ⟨x17, hx17, h⟩ := ap_eq h
  refine J_iinc (q := 78) (v := x17) (lv' := [(2, vi (x17)), (0, vr 7 (o)), (1, vi (y1))]) 2 d_Po_crossingPairs_75 rfl (by rw [hx17]; rfl) (by decide) rfl rfl ?_
  refine J_goto (q := 4) d_Po_crossingPairs_78 (by decide) ?_
  refine J_pick [1, 2, 0] rfl ?_
  exact hc_4 _ _ h
def lp_Po_crossingPairs_4 (o : Nat) (μ : Mem) : Nat → Int32 → Int32 → Option (Int32)
  | 0, _, _ => none
  | n + 1, y1, y2 =>
  if gI μ 7 (o) 4 ≤ y2 then
 (some (y1))
 else
 (ap (y2 + (1 : Int32)) fun x18 =>
  lp_Po_crossingPairs_16 o μ (mj_Po_crossingPairs_75 o μ (lp_Po_crossingPairs_4 o μ n)) FU (y1) (y2) (x18))
theorem tl_Po_crossingPairs_4 (o : Nat) (μ : Mem) {q : Int32}  : ∀ (n : Nat) (y1 : Int32) (y2 : Int32), lp_Po_crossingPairs_4 o μ n y1 y2 = some q → J (GM true (QQ (some (vi q)) μ) (some (.int)) y_Po_crossingPairs.name) true b_Po_crossingPairs R_7 4 (2) 0 0 4 [(0, vr 7 (o)), (1, vi (y1)), (2, vi (y2))] [] μ := by
  intro n
  induction n with
  | zero => intro _ _ h; cases h
  | succ n ih =>
    intro y1 y2 h
    unfold lp_Po_crossingPairs_4 at h
    refine J_iload_n (q := 5) 2 d_Po_crossingPairs_4 rfl rfl rfl ?_
    refine J_aload_n (q := 6) 0 d_Po_crossingPairs_5 rfl rfl rfl ?_
    refine J_getI (q := 9) (j := 4) cd_7 (by decide) (Or.inl rfl) g_74 rfl d_Po_crossingPairs_6 rfl ?_
    refine J_icmp_ge (q := 12) (tgt := 81) d_Po_crossingPairs_9 (by decide) rfl (fun hc => ?_) (fun hc => ?_)
    · rw [if_pos hc] at h
      refine J_iload_n (q := 82) 1 d_Po_crossingPairs_81 rfl rfl rfl ?_
      obtain rfl := Option.some.inj h
      exact J_iret rfl ⟨rfl, rfl⟩ d_Po_crossingPairs_82
    · rw [if_neg hc] at h
      refine J_iload_n (q := 13) 2 d_Po_crossingPairs_12 rfl rfl rfl ?_
      refine J_iconst (q := 14) (v := (1 : Int32)) d_Po_crossingPairs_13 (by decide) rfl ?_
      refine J_iadd (q := 15) d_Po_crossingPairs_14 rfl ?_
      obtain ⟨x18, hx18, h⟩ := ap_eq h
      refine J_nmI hx18 ?_
      refine J_istore_n (q := 16) (lv' := [(3, vi (x18)), (0, vr 7 (o)), (1, vi (y1)), (2, vi (y2))]) d_Po_crossingPairs_15 rfl (by decide) rfl rfl ?_
      refine J_pick [1, 2, 3, 0] rfl ?_
      exact tl_Po_crossingPairs_16 o μ (fun _ _ h => tj_Po_crossingPairs_75 o μ ih _ _ h) FU _ _ _ h
def m_Po_crossingPairs (o : Nat) (μ : Mem) : Option (Int32) :=
  lp_Po_crossingPairs_4 o μ FU ((0 : Int32)) ((0 : Int32))
theorem t_Po_crossingPairs {o : Nat} {μ : Mem} {q : Int32} (h : m_Po_crossingPairs o μ = some q) : JM true (2) y_Po_crossingPairs b_Po_crossingPairs 4 (some (.int)) 0 0 [vr 7 (o)] μ (QQ (some (vi q)) μ) := by
  unfold m_Po_crossingPairs at h
  refine JM.of pl_Po_crossingPairs (fun ρ => Nat.le_of_ble_eq_true rfl) ?_
  show J (GM true (QQ (some (vi q)) μ) (some (.int)) y_Po_crossingPairs.name) true b_Po_crossingPairs R_7 4 (2) 0 0 0 [(0, vr 7 (o))] [] μ
  refine J_iconst (q := 1) (v := (0 : Int32)) d_Po_crossingPairs_0 (by decide) rfl ?_
  refine J_istore_n (q := 2) (lv' := [(1, vi ((0 : Int32))), (0, vr 7 (o))]) d_Po_crossingPairs_1 rfl (by decide) rfl rfl ?_
  refine J_iconst (q := 3) (v := (0 : Int32)) d_Po_crossingPairs_2 (by decide) rfl ?_
  refine J_istore_n (q := 4) (lv' := [(2, vi ((0 : Int32))), (1, vi ((0 : Int32))), (0, vr 7 (o))]) d_Po_crossingPairs_3 rfl (by decide) rfl rfl ?_
  refine J_pick [2, 1, 0] rfl ?_
  exact tl_Po_crossingPairs_4 o μ FU _ _ h
def m_Fo_crossings (μ : Mem) : Option (Int32) :=
  ap (gR μ 11 (0) 3) fun o1 =>
  Option.bind o1 fun y2 =>
  Option.bind (m_Po_crossingPairs (y2) μ) fun r3 =>
  some (r3)
theorem t_Fo_crossings {μ : Mem} {q : Int32} (h : m_Fo_crossings  μ = some q) : JM true (3) y_Fo_crossings b_Fo_crossings 1 (some (.int)) 0 0 [vr 11 (0)] μ (QQ (some (vi q)) μ) := by
  unfold m_Fo_crossings at h
  refine JM.of pl_Fo_crossings (fun ρ => Nat.le_of_ble_eq_true rfl) ?_
  show J (GM true (QQ (some (vi q)) μ) (some (.int)) y_Fo_crossings.name) true b_Fo_crossings R_11 1 (3) 0 0 0 [(0, vr 11 (0))] [] μ
  refine J_aload_n (q := 1) 0 d_Fo_crossings_0 rfl rfl rfl ?_
  refine J_getR (q := 4) cd_11 (by decide) ft_11_3 g_257 rfl d_Fo_crossings_1 rfl ?_
  obtain ⟨o1, ho1, h⟩ := ap_eq h
  refine J_nmO ho1 ?_
  replace h := bd_some h
  obtain ⟨y2, hy2, h⟩ := h
  subst hy2
  obtain ⟨r3, hr3, h⟩ := bd_some h
  refine J_callVq (rc := 0) (rs := 0) (q := 7) (as := []) (st := []) (by decide) rfl g_720 g_721 (t_Po_crossingPairs hr3) (by decide) (by decide) g_719 g_722 g_3 hy_Po_crossingPairs rfl (Nat.le_of_ble_eq_true rfl) d_Fo_crossings_4 rfl ?_
  obtain rfl := Option.some.inj h
  exact J_iret rfl ⟨rfl, rfl⟩ d_Fo_crossings_7
def m_Fo_isDots (a1 : Int32) (μ : Mem) : Bool :=
  (m_Fo_within ((a1).toInt64) ((4 : Int64)) ((32 : Int64)) μ)
theorem t_Fo_isDots {a1 : Int32} {μ : Mem} {q : Bool} (h : m_Fo_isDots a1 μ = q) : JM true (1) y_Fo_isDots b_Fo_isDots 1 (some (.boolean)) 0 0 [vi (a1)] μ (QQ (some (vi (b2i q))) μ) := by
  unfold m_Fo_isDots at h
  refine JM.of pl_Fo_isDots (fun ρ => Nat.le_of_ble_eq_true rfl) ?_
  show J (GM true (QQ (some (vi (b2i q))) μ) (some (.boolean)) y_Fo_isDots.name) true b_Fo_isDots R_11 1 (1) 0 0 0 [(0, vi (a1))] [] μ
  refine J_iload_n (q := 1) 0 d_Fo_isDots_0 rfl rfl rfl ?_
  refine J_i2l (q := 2) d_Fo_isDots_1 rfl ?_
  refine J_ldc2 (q := 5) d_Fo_isDots_2 g_738 rfl ?_
  refine J_ldc2 (q := 8) d_Fo_isDots_5 g_739 rfl ?_
  refine J_callSq (rc := 0) (rs := 0) (q := 11) (as := [vl ((a1).toInt64), vl ((4 : Int64)), vl ((32 : Int64))]) (st := []) g_300 (t_Fo_within rfl) (by decide) (by decide) g_299 g_301 g_1 hy_Fo_within rfl (Nat.le_of_ble_eq_true rfl) d_Fo_isDots_8 rfl ?_
  subst h
  exact J_zret (b2i01 _) rfl ⟨rfl, rfl⟩ d_Fo_isDots_11
def mj_Im_countRow_97 (a1 : Int32) (a2 : Int32) (c_8 : Int32 → Int32 → Mem → Option (Mem)) (y3 : Int32) (y4 : Int32) (μ : Mem) : Option (Mem) :=
  ap (y4 + (-1 : Int32)) fun x6 =>
  c_8 (y3) (x6) μ
theorem tj_Im_countRow_97 (a1 : Int32) (a2 : Int32) {q : Mem} {c_8 : Int32 → Int32 → Mem → Option (Mem)} (hc_8 : ∀ (y3 : Int32) (y4 : Int32) (μ : Mem), c_8 y3 y4 μ = some q → J (GM true (QQ none q) none y_Im_countRow.name) true b_Im_countRow R_2 6 (0) 0 0 8 [(0, vr 2 (0)), (1, vi (a1)), (2, vi (a2)), (3, vi (y3)), (4, vi (y4))] [] μ) (y3 : Int32) (y4 : Int32) (μ : Mem) (h : mj_Im_countRow_97 a1 a2 c_8 y3 y4 μ = some q) : J (GM true (QQ none q) none y_Im_countRow.name) true b_Im_countRow R_2 6 (0) 0 0 97 [(0, vr 2 (0)), (1, vi (a1)), (2, vi (a2)), (3, vi (y3)), (4, vi (y4))] [] μ := by
  unfold mj_Im_countRow_97 at h
  obtain ⟨x6, hx6, h⟩ := ap_eq h
  refine J_iinc (q := 100) (v := x6) (lv' := [(4, vi (x6)), (0, vr 2 (0)), (1, vi (a1)), (2, vi (a2)), (3, vi (y3))]) 4 d_Im_countRow_97 rfl (by rw [hx6]; rfl) (by decide) rfl rfl ?_
  refine J_goto (q := 8) d_Im_countRow_100 (by decide) ?_
  refine J_pick [1, 2, 3, 4, 0] rfl ?_
  exact hc_8 _ _ _ h
def mj_Im_countRow_67 (a1 : Int32) (a2 : Int32) (c_8 : Int32 → Int32 → Mem → Option (Mem)) (y3 : Int32) (y4 : Int32) (z0 : Int32) (μ : Mem) : Option (Mem) :=
  if z0 = 0 then
 (mj_Im_countRow_97 a1 a2 c_8 (y3) (y4) μ)
 else
 (if y4 ≤ 0 then
 (mj_Im_countRow_97 a1 a2 c_8 (y3) (y4) μ)
 else
 (gu ((a1) + ((y4 - (1 : Int32)) / (8 : Int32))) 4096 <|
  gu ((a1) + ((y4 - (1 : Int32)) / (8 : Int32))) 4096 <|
  ap (sI μ 140 (0) ((a1) + ((y4 - (1 : Int32)) / (8 : Int32))).toNatClampNeg ((gI μ 140 (0) ((a1) + ((y4 - (1 : Int32)) / (8 : Int32))).toNatClampNeg) + ((1 : Int32)))) fun μ9 =>
  mj_Im_countRow_97 a1 a2 c_8 (y3) (y4) μ9))
theorem tj_Im_countRow_67 (a1 : Int32) (a2 : Int32) {q : Mem} {c_8 : Int32 → Int32 → Mem → Option (Mem)} (hc_8 : ∀ (y3 : Int32) (y4 : Int32) (μ : Mem), c_8 y3 y4 μ = some q → J (GM true (QQ none q) none y_Im_countRow.name) true b_Im_countRow R_2 6 (0) 0 0 8 [(0, vr 2 (0)), (1, vi (a1)), (2, vi (a2)), (3, vi (y3)), (4, vi (y4))] [] μ) (y3 : Int32) (y4 : Int32) (z0 : Int32) (μ : Mem) (h : mj_Im_countRow_67 a1 a2 c_8 y3 y4 z0 μ = some q) : J (GM true (QQ none q) none y_Im_countRow.name) true b_Im_countRow R_2 6 (0) 0 0 67 [(0, vr 2 (0)), (1, vi (a1)), (2, vi (a2)), (3, vi (y3)), (4, vi (y4))] [vi (z0)] μ := by
  unfold mj_Im_countRow_67 at h
  refine J_istore (q := 69) (lv' := [(5, vi (z0)), (0, vr 2 (0)), (1, vi (a1)), (2, vi (a2)), (3, vi (y3)), (4, vi (y4))]) d_Im_countRow_67 (by decide) rfl rfl ?_
  refine J_iload (q := 71) 0 d_Im_countRow_69 rfl rfl ?_
  refine J_if_eq (q := 74) (tgt := 97) d_Im_countRow_71 (by decide) rfl (fun hc => ?_) (fun hc => ?_)
  · rw [if_pos hc] at h
    refine J_pick [1, 2, 3, 4, 5] rfl ?_
    exact tj_Im_countRow_97 a1 a2 hc_8 _ _ _ h
  · rw [if_neg hc] at h
    refine J_iload (q := 76) 5 d_Im_countRow_74 rfl rfl ?_
    refine J_if_le (q := 79) (tgt := 97) d_Im_countRow_76 (by decide) rfl (fun hc => ?_) (fun hc => ?_)
    · rw [if_pos hc] at h
      refine J_pick [1, 2, 3, 4, 5] rfl ?_
      exact tj_Im_countRow_97 a1 a2 hc_8 _ _ _ h
    · rw [if_neg hc] at h
      refine J_aload_n (q := 80) 1 d_Im_countRow_79 rfl rfl rfl ?_
      refine J_getF (q := 83) cd_2 (by decide) ft_2_0 rfl g_108 rfl d_Im_countRow_80 rfl ?_
      refine J_iload_n (q := 84) 2 d_Im_countRow_83 rfl rfl rfl ?_
      refine J_iload (q := 86) 5 d_Im_countRow_84 rfl rfl ?_
      refine J_iconst (q := 87) (v := (1 : Int32)) d_Im_countRow_86 (by decide) rfl ?_
      refine J_isub (q := 88) d_Im_countRow_87 rfl ?_
      refine J_bipush (q := 90) (v := (8 : Int32)) d_Im_countRow_88 (by decide) rfl ?_
      refine J_idiv (q := 91) d_Im_countRow_90 (by decide) rfl ?_
      refine J_iadd (q := 92) d_Im_countRow_91 rfl ?_
      refine J_dup2IR (q := 93) d_Im_countRow_92 rfl ?_
      obtain ⟨hi7, h⟩ := gu_some h
      refine J_iald (q := 94) rk_140 (by decide) hi7 d_Im_countRow_93 rfl ?_
      refine J_iconst (q := 95) (v := (1 : Int32)) d_Im_countRow_94 (by decide) rfl ?_
      refine J_iadd (q := 96) d_Im_countRow_95 rfl ?_
      obtain ⟨hi8, h⟩ := gu_some h
      refine J_iast (q := 97) rk_140 (by decide) hi8 d_Im_countRow_96 rfl ?_
      obtain ⟨μ9, hμ9, h⟩ := ap_eq h
      refine J_nmM hμ9 ?_
      refine J_pick [1, 2, 3, 4, 5] rfl ?_
      exact tj_Im_countRow_97 a1 a2 hc_8 _ _ _ h
def lp_Im_countRow_8 (a1 : Int32) (a2 : Int32) : Nat → Int32 → Int32 → Mem → Option (Mem)
  | 0, _, _, _ => none
  | n + 1, y3, y4, μ =>
  if y4 < gI μ 2 (0) 2 then
 (some μ)
 else
 (if y4 < 0 then
 (some μ)
 else
 (gu (y4) 513 <|
  ap ((y3) + (gI μ 141 (0) y4.toNatClampNeg)) fun x11 =>
  gu (y4) 513 <|
  ap (sI μ 141 (0) y4.toNatClampNeg ((0 : Int32))) fun μ13 =>
  if a2 = 0 then
 (if x11 = 0 then
 (mj_Im_countRow_67 a1 a2 (lp_Im_countRow_8 a1 a2 n) (x11) (y4) ((0 : Int32)) μ13)
 else
 (mj_Im_countRow_67 a1 a2 (lp_Im_countRow_8 a1 a2 n) (x11) (y4) ((1 : Int32)) μ13))
 else
 (if x11 &&& (1 : Int32) = 0 then
 (mj_Im_countRow_67 a1 a2 (lp_Im_countRow_8 a1 a2 n) (x11) (y4) ((0 : Int32)) μ13)
 else
 (mj_Im_countRow_67 a1 a2 (lp_Im_countRow_8 a1 a2 n) (x11) (y4) ((1 : Int32)) μ13))))
theorem tl_Im_countRow_8 (a1 : Int32) (a2 : Int32) {q : Mem}  : ∀ (n : Nat) (y3 : Int32) (y4 : Int32) (μ : Mem), lp_Im_countRow_8 a1 a2 n y3 y4 μ = some q → J (GM true (QQ none q) none y_Im_countRow.name) true b_Im_countRow R_2 6 (0) 0 0 8 [(0, vr 2 (0)), (1, vi (a1)), (2, vi (a2)), (3, vi (y3)), (4, vi (y4))] [] μ := by
  intro n
  induction n with
  | zero => intro _ _ _ h; cases h
  | succ n ih =>
    intro y3 y4 μ h
    unfold lp_Im_countRow_8 at h
    refine J_iload (q := 10) 4 d_Im_countRow_8 rfl rfl ?_
    refine J_aload_n (q := 11) 0 d_Im_countRow_10 rfl rfl rfl ?_
    refine J_getI (q := 14) (j := 2) cd_2 (by decide) (Or.inl rfl) g_110 rfl d_Im_countRow_11 rfl ?_
    refine J_icmp_lt (q := 17) (tgt := 103) d_Im_countRow_14 (by decide) rfl (fun hc => ?_) (fun hc => ?_)
    · rw [if_pos hc] at h
      obtain rfl := Option.some.inj h
      exact J_vret rfl ⟨rfl, rfl⟩ d_Im_countRow_103
    · rw [if_neg hc] at h
      refine J_iload (q := 19) 4 d_Im_countRow_17 rfl rfl ?_
      refine J_if_lt (q := 22) (tgt := 103) d_Im_countRow_19 (by decide) rfl (fun hc => ?_) (fun hc => ?_)
      · rw [if_pos hc] at h
        obtain rfl := Option.some.inj h
        exact J_vret rfl ⟨rfl, rfl⟩ d_Im_countRow_103
      · rw [if_neg hc] at h
        refine J_iload_n (q := 23) 3 d_Im_countRow_22 rfl rfl rfl ?_
        refine J_aload_n (q := 24) 0 d_Im_countRow_23 rfl rfl rfl ?_
        refine J_getF (q := 27) cd_2 (by decide) ft_2_1 rfl g_109 rfl d_Im_countRow_24 rfl ?_
        refine J_iload (q := 29) 4 d_Im_countRow_27 rfl rfl ?_
        obtain ⟨hi10, h⟩ := gu_some h
        refine J_iald (q := 30) rk_141 (by decide) hi10 d_Im_countRow_29 rfl ?_
        refine J_iadd (q := 31) d_Im_countRow_30 rfl ?_
        obtain ⟨x11, hx11, h⟩ := ap_eq h
        refine J_nmI hx11 ?_
        refine J_istore_n (q := 32) (lv' := [(3, vi (x11)), (0, vr 2 (0)), (1, vi (a1)), (2, vi (a2)), (4, vi (y4))]) d_Im_countRow_31 rfl (by decide) rfl rfl ?_
        refine J_aload_n (q := 33) 1 d_Im_countRow_32 rfl rfl rfl ?_
        refine J_getF (q := 36) cd_2 (by decide) ft_2_1 rfl g_109 rfl d_Im_countRow_33 rfl ?_
        refine J_iload (q := 38) 4 d_Im_countRow_36 rfl rfl ?_
        refine J_iconst (q := 39) (v := (0 : Int32)) d_Im_countRow_38 (by decide) rfl ?_
        obtain ⟨hi12, h⟩ := gu_some h
        refine J_iast (q := 40) rk_141 (by decide) hi12 d_Im_countRow_39 rfl ?_
        obtain ⟨μ13, hμ13, h⟩ := ap_eq h
        refine J_nmM hμ13 ?_
        refine J_iload_n (q := 41) 3 d_Im_countRow_40 rfl rfl rfl ?_
        refine J_if_ne (q := 44) (tgt := 56) d_Im_countRow_41 (by decide) rfl (fun hc => ?_) (fun hc => ?_)
        · rw [if_neg hc] at h
          refine J_iload_n (q := 57) 0 d_Im_countRow_56 rfl rfl rfl ?_
          refine J_iconst (q := 58) (v := (1 : Int32)) d_Im_countRow_57 (by decide) rfl ?_
          refine J_iand (q := 59) d_Im_countRow_58 rfl ?_
          refine J_if_eq (q := 62) (tgt := 66) d_Im_countRow_59 (by decide) rfl (fun hc => ?_) (fun hc => ?_)
          · rw [if_pos hc] at h
            refine J_iconst (q := 67) (v := (0 : Int32)) d_Im_countRow_66 (by decide) rfl ?_
            refine J_pick [1, 2, 3, 0, 4] rfl ?_
            exact tj_Im_countRow_67 a1 a2 ih _ _ _ _ h
          · rw [if_neg hc] at h
            refine J_iconst (q := 63) (v := (1 : Int32)) d_Im_countRow_62 (by decide) rfl ?_
            refine J_goto (q := 67) d_Im_countRow_63 (by decide) ?_
            refine J_pick [1, 2, 3, 0, 4] rfl ?_
            exact tj_Im_countRow_67 a1 a2 ih _ _ _ _ h
        · rw [if_pos hc] at h
          refine J_iload_n (q := 45) 0 d_Im_countRow_44 rfl rfl rfl ?_
          refine J_if_eq (q := 48) (tgt := 52) d_Im_countRow_45 (by decide) rfl (fun hc => ?_) (fun hc => ?_)
          · rw [if_pos hc] at h
            refine J_iconst (q := 53) (v := (0 : Int32)) d_Im_countRow_52 (by decide) rfl ?_
            refine J_goto (q := 67) d_Im_countRow_53 (by decide) ?_
            refine J_pick [1, 2, 3, 0, 4] rfl ?_
            exact tj_Im_countRow_67 a1 a2 ih _ _ _ _ h
          · rw [if_neg hc] at h
            refine J_iconst (q := 49) (v := (1 : Int32)) d_Im_countRow_48 (by decide) rfl ?_
            refine J_goto (q := 67) d_Im_countRow_49 (by decide) ?_
            refine J_pick [1, 2, 3, 0, 4] rfl ?_
            exact tj_Im_countRow_67 a1 a2 ih _ _ _ _ h
def m_Im_countRow (a1 : Int32) (a2 : Int32) (μ : Mem) : Option (Mem) :=
  ap (gI μ 2 (0) 3) fun x1 =>
  lp_Im_countRow_8 a1 a2 FU ((0 : Int32)) (x1) μ
theorem t_Im_countRow {a1 : Int32} {a2 : Int32} {μ : Mem} {q : Mem} (h : m_Im_countRow a1 a2 μ = some q) : JM true (0) y_Im_countRow b_Im_countRow 6 none 0 0 [vr 2 (0), vi (a1), vi (a2)] μ (QQ none q) := by
  unfold m_Im_countRow at h
  refine JM.of pl_Im_countRow (fun ρ => Nat.le_of_ble_eq_true rfl) ?_
  show J (GM true (QQ none q) none y_Im_countRow.name) true b_Im_countRow R_2 6 (0) 0 0 0 [(0, vr 2 (0)), (1, vi (a1)), (2, vi (a2))] [] μ
  refine J_iconst (q := 1) (v := (0 : Int32)) d_Im_countRow_0 (by decide) rfl ?_
  refine J_istore_n (q := 2) (lv' := [(3, vi ((0 : Int32))), (0, vr 2 (0)), (1, vi (a1)), (2, vi (a2))]) d_Im_countRow_1 rfl (by decide) rfl rfl ?_
  refine J_aload_n (q := 3) 1 d_Im_countRow_2 rfl rfl rfl ?_
  refine J_getI (q := 6) (j := 3) cd_2 (by decide) (Or.inl rfl) g_111 rfl d_Im_countRow_3 rfl ?_
  obtain ⟨x1, hx1, h⟩ := ap_eq h
  refine J_nmI hx1 ?_
  refine J_istore (q := 8) (lv' := [(4, vi (x1)), (3, vi ((0 : Int32))), (0, vr 2 (0)), (1, vi (a1)), (2, vi (a2))]) d_Im_countRow_6 (by decide) rfl rfl ?_
  refine J_pick [2, 3, 4, 1, 0] rfl ?_
  exact tl_Im_countRow_8 a1 a2 FU _ _ _ h
def m_Ma_min2 (a1 : Int32) (a2 : Int32) (μ : Mem) : Int32 :=
  if a2 < a1 then
 (a2)
 else
 (a1)
theorem t_Ma_min2 {a1 : Int32} {a2 : Int32} {μ : Mem} {q : Int32} (h : m_Ma_min2 a1 a2 μ = q) : JM true (0) y_Ma_min2 b_Ma_min2 2 (some (.int)) 0 0 [vi (a1), vi (a2)] μ (QQ (some (vi q)) μ) := by
  unfold m_Ma_min2 at h
  refine JM.of pl_Ma_min2 (fun ρ => Nat.le_of_ble_eq_true rfl) ?_
  show J (GM true (QQ (some (vi q)) μ) (some (.int)) y_Ma_min2.name) true b_Ma_min2 R_Ma 2 (0) 0 0 0 [(0, vi (a1)), (1, vi (a2))] [] μ
  refine J_iload_n (q := 1) 0 d_Ma_min2_0 rfl rfl rfl ?_
  refine J_iload_n (q := 2) 1 d_Ma_min2_1 rfl rfl rfl ?_
  refine J_icmp_gt (q := 5) (tgt := 9) d_Ma_min2_2 (by decide) rfl (fun hc => ?_) (fun hc => ?_)
  · rw [if_pos hc] at h
    refine J_iload_n (q := 10) 1 d_Ma_min2_9 rfl rfl rfl ?_
    subst h
    exact J_iret rfl ⟨rfl, rfl⟩ d_Ma_min2_10
  · rw [if_neg hc] at h
    refine J_iload_n (q := 6) 0 d_Ma_min2_5 rfl rfl rfl ?_
    refine J_goto (q := 10) d_Ma_min2_6 (by decide) ?_
    subst h
    exact J_iret rfl ⟨rfl, rfl⟩ d_Ma_min2_10
def m_Im_mark (a1 : Int32) (a2 : Int32) (μ : Mem) : Option (Mem) :=
  gu (a1) 513 <|
  gu (a1) 513 <|
  ap (sI μ 141 (0) a1.toNatClampNeg ((gI μ 141 (0) a1.toNatClampNeg) + (a2))) fun μ3 =>
  ap (sI μ3 2 (0) 2 ((m_Ma_min2 (gI μ3 2 (0) 2) (a1) μ3))) fun μ4 =>
  ap (sI μ4 2 (0) 3 ((m_Ma_max (gI μ4 2 (0) 3) (a1) μ4))) fun μ5 =>
  some μ5
theorem t_Im_mark {a1 : Int32} {a2 : Int32} {μ : Mem} {q : Mem} (h : m_Im_mark a1 a2 μ = some q) : JM true (1) y_Im_mark b_Im_mark 3 none 0 0 [vr 2 (0), vi (a1), vi (a2)] μ (QQ none q) := by
  unfold m_Im_mark at h
  refine JM.of pl_Im_mark (fun ρ => Nat.le_of_ble_eq_true rfl) ?_
  show J (GM true (QQ none q) none y_Im_mark.name) true b_Im_mark R_2 3 (1) 0 0 0 [(0, vr 2 (0)), (1, vi (a1)), (2, vi (a2))] [] μ
  refine J_aload_n (q := 1) 0 d_Im_mark_0 rfl rfl rfl ?_
  refine J_getF (q := 4) cd_2 (by decide) ft_2_1 rfl g_109 rfl d_Im_mark_1 rfl ?_
  refine J_iload_n (q := 5) 1 d_Im_mark_4 rfl rfl rfl ?_
  refine J_dup2IR (q := 6) d_Im_mark_5 rfl ?_
  obtain ⟨hi1, h⟩ := gu_some h
  refine J_iald (q := 7) rk_141 (by decide) hi1 d_Im_mark_6 rfl ?_
  refine J_iload_n (q := 8) 2 d_Im_mark_7 rfl rfl rfl ?_
  refine J_iadd (q := 9) d_Im_mark_8 rfl ?_
  obtain ⟨hi2, h⟩ := gu_some h
  refine J_iast (q := 10) rk_141 (by decide) hi2 d_Im_mark_9 rfl ?_
  obtain ⟨μ3, hμ3, h⟩ := ap_eq h
  refine J_nmM hμ3 ?_
  refine J_aload_n (q := 11) 0 d_Im_mark_10 rfl rfl rfl ?_
  refine J_aload_n (q := 12) 0 d_Im_mark_11 rfl rfl rfl ?_
  refine J_getI (q := 15) (j := 2) cd_2 (by decide) (Or.inl rfl) g_110 rfl d_Im_mark_12 rfl ?_
  refine J_iload_n (q := 16) 1 d_Im_mark_15 rfl rfl rfl ?_
  refine J_callSq (rc := 0) (rs := 0) (q := 19) (as := [vi (gI μ3 2 (0) 2), vi (a1)]) (st := [vr 2 (0)]) g_774 (t_Ma_min2 rfl) (by decide) (by decide) g_773 g_775 g_15 hy_Ma_min2 rfl (Nat.le_of_ble_eq_true rfl) d_Im_mark_16 rfl ?_
  refine J_putI (q := 22) (j := 2) cd_2 (by decide) rfl rfl rfl g_110 rfl d_Im_mark_19 rfl ?_
  obtain ⟨μ4, hμ4, h⟩ := ap_eq h
  refine J_nmM hμ4 ?_
  refine J_aload_n (q := 23) 0 d_Im_mark_22 rfl rfl rfl ?_
  refine J_aload_n (q := 24) 0 d_Im_mark_23 rfl rfl rfl ?_
  refine J_getI (q := 27) (j := 3) cd_2 (by decide) (Or.inl rfl) g_111 rfl d_Im_mark_24 rfl ?_
  refine J_iload_n (q := 28) 1 d_Im_mark_27 rfl rfl rfl ?_
  refine J_callSq (rc := 0) (rs := 0) (q := 31) (as := [vi (gI μ4 2 (0) 3), vi (a1)]) (st := [vr 2 (0)]) g_561 (t_Ma_max rfl) (by decide) (by decide) g_776 g_562 g_15 hy_Ma_max rfl (Nat.le_of_ble_eq_true rfl) d_Im_mark_28 rfl ?_
  refine J_putI (q := 34) (j := 3) cd_2 (by decide) rfl rfl rfl g_111 rfl d_Im_mark_31 rfl ?_
  obtain ⟨μ5, hμ5, h⟩ := ap_eq h
  refine J_nmM hμ5 ?_
  obtain rfl := Option.some.inj h
  exact J_vret rfl ⟨rfl, rfl⟩ d_Im_mark_34
def m_Ma_max2 (a1 : Int64) (a2 : Int64) (μ : Mem) : Int64 :=
  if a1 < a2 then
 (a2)
 else
 (a1)
theorem t_Ma_max2 {a1 : Int64} {a2 : Int64} {μ : Mem} {q : Int64} (h : m_Ma_max2 a1 a2 μ = q) : JM true (0) y_Ma_max2 b_Ma_max2 4 (some (.long)) 0 0 [vl (a1), vl (a2)] μ (QQ (some (vl q)) μ) := by
  unfold m_Ma_max2 at h
  refine JM.of pl_Ma_max2 (fun ρ => Nat.le_of_ble_eq_true rfl) ?_
  show J (GM true (QQ (some (vl q)) μ) (some (.long)) y_Ma_max2.name) true b_Ma_max2 R_Ma 4 (0) 0 0 0 [(0, vl (a1)), (2, vl (a2))] [] μ
  refine J_lload_n (q := 1) 0 d_Ma_max2_0 rfl rfl rfl ?_
  refine J_lload_n (q := 2) 1 d_Ma_max2_1 rfl rfl rfl ?_
  refine J_lif_lt (q := 6) (tgt := 10) d_Ma_max2_2 d_Ma_max2_3 (by decide) rfl (fun hc => ?_) (fun hc => ?_)
  · rw [if_pos hc] at h
    refine J_lload_n (q := 11) 1 d_Ma_max2_10 rfl rfl rfl ?_
    subst h
    exact J_lret rfl ⟨rfl, rfl⟩ d_Ma_max2_11
  · rw [if_neg hc] at h
    refine J_lload_n (q := 7) 0 d_Ma_max2_6 rfl rfl rfl ?_
    refine J_goto (q := 11) d_Ma_max2_7 (by decide) ?_
    subst h
    exact J_lret rfl ⟨rfl, rfl⟩ d_Ma_max2_11
def m_Ma_min (a1 : Int64) (a2 : Int64) (μ : Mem) : Int64 :=
  if a2 < a1 then
 (a2)
 else
 (a1)
theorem t_Ma_min {a1 : Int64} {a2 : Int64} {μ : Mem} {q : Int64} (h : m_Ma_min a1 a2 μ = q) : JM true (0) y_Ma_min b_Ma_min 4 (some (.long)) 0 0 [vl (a1), vl (a2)] μ (QQ (some (vl q)) μ) := by
  unfold m_Ma_min at h
  refine JM.of pl_Ma_min (fun ρ => Nat.le_of_ble_eq_true rfl) ?_
  show J (GM true (QQ (some (vl q)) μ) (some (.long)) y_Ma_min.name) true b_Ma_min R_Ma 4 (0) 0 0 0 [(0, vl (a1)), (2, vl (a2))] [] μ
  refine J_lload_n (q := 1) 0 d_Ma_min_0 rfl rfl rfl ?_
  refine J_lload_n (q := 2) 1 d_Ma_min_1 rfl rfl rfl ?_
  refine J_lif_gt (q := 6) (tgt := 10) d_Ma_min_2 d_Ma_min_3 (by decide) rfl (fun hc => ?_) (fun hc => ?_)
  · rw [if_pos hc] at h
    refine J_lload_n (q := 11) 1 d_Ma_min_10 rfl rfl rfl ?_
    subst h
    exact J_lret rfl ⟨rfl, rfl⟩ d_Ma_min_11
  · rw [if_neg hc] at h
    refine J_lload_n (q := 7) 0 d_Ma_min_6 rfl rfl rfl ?_
    refine J_goto (q := 11) d_Ma_min_7 (by decide) ?_
    subst h
    exact J_lret rfl ⟨rfl, rfl⟩ d_Ma_min_11
def m_Im_samplesLeft (a1 : Nat) (a2 : Int32) (a3 : Int32) (a4 : Int32) (a5 : Int64) (μ : Mem) : Option (Int32) :=
  gu (a3) 500 <|
  gu (a2) 500 <|
  ap (((gI μ 241 (a1) a3.toNatClampNeg) - (gI μ 241 (a1) a2.toNatClampNeg)).toInt64) fun x3 =>
  if (0 : Int64) < x3 then
 (gu (a2) 500 <|
  gu (a3) 500 <|
  gu (a2) 500 <|
  gu (a2) 500 <|
  ap (((((a4) * (gI μ 240 (a1) a2.toNatClampNeg)).toInt64) * (x3)) + ((((gI μ 240 (a1) a3.toNatClampNeg) - (gI μ 240 (a1) a2.toNatClampNeg)).toInt64) * ((a5) - (((a4).toInt64) * ((gI μ 241 (a1) a2.toNatClampNeg).toInt64))))) fun x8 =>
  Option.bind (m_Ma_floorDiv (((-16320 : Int64) * x3) - (x8)) ((128 : Int64) * x3) μ) fun r9 =>
  ap (-(r9)) fun x10 =>
  some (((m_Ma_max2 ((0 : Int64)) ((m_Ma_min ((512 : Int64)) (x10) μ)) μ)).toInt32))
 else
 (some ((0 : Int32)))
theorem t_Im_samplesLeft {a1 : Nat} {a2 : Int32} {a3 : Int32} {a4 : Int32} {a5 : Int64} {μ : Mem} {q : Int32} (h : m_Im_samplesLeft a1 a2 a3 a4 a5 μ = some q) : JM true (1) y_Im_samplesLeft b_Im_samplesLeft 14 (some (.int)) 0 0 [vr 7 (a1), vi (a2), vi (a3), vi (a4), vl (a5)] μ (QQ (some (vi q)) μ) := by
  unfold m_Im_samplesLeft at h
  refine JM.of pl_Im_samplesLeft (fun ρ => Nat.le_of_ble_eq_true rfl) ?_
  show J (GM true (QQ (some (vi q)) μ) (some (.int)) y_Im_samplesLeft.name) true b_Im_samplesLeft R_2 14 (1) 0 0 0 [(0, vr 7 (a1)), (1, vi (a2)), (2, vi (a3)), (3, vi (a4)), (4, vl (a5))] [] μ
  refine J_aload_n (q := 1) 0 d_Im_samplesLeft_0 rfl rfl rfl ?_
  refine J_getF (q := 4) cd_7 (by decide) ft_7_1 rfl g_68 rfl d_Im_samplesLeft_1 rfl ?_
  refine J_iload_n (q := 5) 2 d_Im_samplesLeft_4 rfl rfl rfl ?_
  obtain ⟨hi1, h⟩ := gu_some h
  refine J_iald (q := 6) rk_241 (by decide) hi1 d_Im_samplesLeft_5 rfl ?_
  refine J_aload_n (q := 7) 0 d_Im_samplesLeft_6 rfl rfl rfl ?_
  refine J_getF (q := 10) cd_7 (by decide) ft_7_1 rfl g_68 rfl d_Im_samplesLeft_7 rfl ?_
  refine J_iload_n (q := 11) 1 d_Im_samplesLeft_10 rfl rfl rfl ?_
  obtain ⟨hi2, h⟩ := gu_some h
  refine J_iald (q := 12) rk_241 (by decide) hi2 d_Im_samplesLeft_11 rfl ?_
  refine J_isub (q := 13) d_Im_samplesLeft_12 rfl ?_
  refine J_i2l (q := 14) d_Im_samplesLeft_13 rfl ?_
  obtain ⟨x3, hx3, h⟩ := ap_eq h
  refine J_nmL hx3 ?_
  refine J_lstore (q := 16) (lv' := [(6, vl (x3)), (0, vr 7 (a1)), (1, vi (a2)), (2, vi (a3)), (3, vi (a4)), (4, vl (a5))]) d_Im_samplesLeft_14 (by decide) rfl rfl ?_
  refine J_lload (q := 18) 0 d_Im_samplesLeft_16 rfl rfl ?_
  refine J_lconst (q := 19) (v := (0 : Int64)) d_Im_samplesLeft_18 (by decide) rfl ?_
  refine J_lif_gt (q := 23) (tgt := 25) d_Im_samplesLeft_19 d_Im_samplesLeft_20 (by decide) rfl (fun hc => ?_) (fun hc => ?_)
  · rw [if_pos hc] at h
    refine J_iload_n (q := 26) 4 d_Im_samplesLeft_25 rfl rfl rfl ?_
    refine J_aload_n (q := 27) 1 d_Im_samplesLeft_26 rfl rfl rfl ?_
    refine J_getF (q := 30) cd_7 (by decide) ft_7_0 rfl g_65 rfl d_Im_samplesLeft_27 rfl ?_
    refine J_iload_n (q := 31) 2 d_Im_samplesLeft_30 rfl rfl rfl ?_
    obtain ⟨hi4, h⟩ := gu_some h
    refine J_iald (q := 32) rk_240 (by decide) hi4 d_Im_samplesLeft_31 rfl ?_
    refine J_imul (q := 33) d_Im_samplesLeft_32 rfl ?_
    refine J_i2l (q := 34) d_Im_samplesLeft_33 rfl ?_
    refine J_lload (q := 36) 0 d_Im_samplesLeft_34 rfl rfl ?_
    refine J_lmul (q := 37) d_Im_samplesLeft_36 rfl ?_
    refine J_aload_n (q := 38) 1 d_Im_samplesLeft_37 rfl rfl rfl ?_
    refine J_getF (q := 41) cd_7 (by decide) ft_7_0 rfl g_65 rfl d_Im_samplesLeft_38 rfl ?_
    refine J_iload_n (q := 42) 3 d_Im_samplesLeft_41 rfl rfl rfl ?_
    obtain ⟨hi5, h⟩ := gu_some h
    refine J_iald (q := 43) rk_240 (by decide) hi5 d_Im_samplesLeft_42 rfl ?_
    refine J_aload_n (q := 44) 1 d_Im_samplesLeft_43 rfl rfl rfl ?_
    refine J_getF (q := 47) cd_7 (by decide) ft_7_0 rfl g_65 rfl d_Im_samplesLeft_44 rfl ?_
    refine J_iload_n (q := 48) 2 d_Im_samplesLeft_47 rfl rfl rfl ?_
    obtain ⟨hi6, h⟩ := gu_some h
    refine J_iald (q := 49) rk_240 (by decide) hi6 d_Im_samplesLeft_48 rfl ?_
    refine J_isub (q := 50) d_Im_samplesLeft_49 rfl ?_
    refine J_i2l (q := 51) d_Im_samplesLeft_50 rfl ?_
    refine J_lload (q := 53) 5 d_Im_samplesLeft_51 rfl rfl ?_
    refine J_iload_n (q := 54) 4 d_Im_samplesLeft_53 rfl rfl rfl ?_
    refine J_i2l (q := 55) d_Im_samplesLeft_54 rfl ?_
    refine J_aload_n (q := 56) 1 d_Im_samplesLeft_55 rfl rfl rfl ?_
    refine J_getF (q := 59) cd_7 (by decide) ft_7_1 rfl g_68 rfl d_Im_samplesLeft_56 rfl ?_
    refine J_iload_n (q := 60) 2 d_Im_samplesLeft_59 rfl rfl rfl ?_
    obtain ⟨hi7, h⟩ := gu_some h
    refine J_iald (q := 61) rk_241 (by decide) hi7 d_Im_samplesLeft_60 rfl ?_
    refine J_i2l (q := 62) d_Im_samplesLeft_61 rfl ?_
    refine J_lmul (q := 63) d_Im_samplesLeft_62 rfl ?_
    refine J_lsub (q := 64) d_Im_samplesLeft_63 rfl ?_
    refine J_lmul (q := 65) d_Im_samplesLeft_64 rfl ?_
    refine J_ladd (q := 66) d_Im_samplesLeft_65 rfl ?_
    obtain ⟨x8, hx8, h⟩ := ap_eq h
    refine J_nmL hx8 ?_
    refine J_lstore (q := 68) (lv' := [(8, vl (x8)), (6, vl (x3)), (0, vr 7 (a1)), (1, vi (a2)), (2, vi (a3)), (3, vi (a4)), (4, vl (a5))]) d_Im_samplesLeft_66 (by decide) rfl rfl ?_
    refine J_ldc2 (q := 71) d_Im_samplesLeft_68 g_759 rfl ?_
    refine J_lstore (q := 73) (lv' := [(10, vl ((-16320 : Int64))), (8, vl (x8)), (6, vl (x3)), (0, vr 7 (a1)), (1, vi (a2)), (2, vi (a3)), (3, vi (a4)), (4, vl (a5))]) d_Im_samplesLeft_71 (by decide) rfl rfl ?_
    refine J_lload (q := 75) 0 d_Im_samplesLeft_73 rfl rfl ?_
    refine J_lload (q := 77) 2 d_Im_samplesLeft_75 rfl rfl ?_
    refine J_lmul (q := 78) d_Im_samplesLeft_77 rfl ?_
    refine J_lload (q := 80) 1 d_Im_samplesLeft_78 rfl rfl ?_
    refine J_lsub (q := 81) d_Im_samplesLeft_80 rfl ?_
    refine J_ldc2 (q := 84) d_Im_samplesLeft_81 g_760 rfl ?_
    refine J_lload (q := 86) 2 d_Im_samplesLeft_84 rfl rfl ?_
    refine J_lmul (q := 87) d_Im_samplesLeft_86 rfl ?_
    obtain ⟨r9, hr9, h⟩ := bd_some h
    refine J_callSq (rc := 0) (rs := 0) (q := 90) (as := [vl (((-16320 : Int64) * x3) - (x8)), vl ((128 : Int64) * x3)]) (st := []) g_636 (t_Ma_floorDiv hr9) (by decide) (by decide) g_761 g_637 g_15 hy_Ma_floorDiv rfl (Nat.le_of_ble_eq_true rfl) d_Im_samplesLeft_87 rfl ?_
    refine J_lneg (q := 91) d_Im_samplesLeft_90 rfl ?_
    obtain ⟨x10, hx10, h⟩ := ap_eq h
    refine J_nmL hx10 ?_
    refine J_lstore (q := 93) (lv' := [(12, vl (x10)), (10, vl ((-16320 : Int64))), (8, vl (x8)), (6, vl (x3)), (0, vr 7 (a1)), (1, vi (a2)), (2, vi (a3)), (3, vi (a4)), (4, vl (a5))]) d_Im_samplesLeft_91 (by decide) rfl rfl ?_
    refine J_lconst (q := 94) (v := (0 : Int64)) d_Im_samplesLeft_93 (by decide) rfl ?_
    refine J_ldc2 (q := 97) d_Im_samplesLeft_94 g_762 rfl ?_
    refine J_lload (q := 99) 0 d_Im_samplesLeft_97 rfl rfl ?_
    refine J_callSq (rc := 0) (rs := 0) (q := 102) (as := [vl ((512 : Int64)), vl (x10)]) (st := [vl ((0 : Int64))]) g_764 (t_Ma_min rfl) (by decide) (by decide) g_763 g_765 g_15 hy_Ma_min rfl (Nat.le_of_ble_eq_true rfl) d_Im_samplesLeft_99 rfl ?_
    refine J_callSq (rc := 0) (rs := 0) (q := 105) (as := [vl ((0 : Int64)), vl ((m_Ma_min ((512 : Int64)) (x10) μ))]) (st := []) g_767 (t_Ma_max2 rfl) (by decide) (by decide) g_766 g_768 g_15 hy_Ma_max2 rfl (Nat.le_of_ble_eq_true rfl) d_Im_samplesLeft_102 rfl ?_
    refine J_l2i (q := 106) d_Im_samplesLeft_105 rfl ?_
    obtain rfl := Option.some.inj h
    exact J_iret rfl ⟨rfl, rfl⟩ d_Im_samplesLeft_106
  · rw [if_neg hc] at h
    refine J_iconst (q := 24) (v := (0 : Int32)) d_Im_samplesLeft_23 (by decide) rfl ?_
    obtain rfl := Option.some.inj h
    exact J_iret rfl ⟨rfl, rfl⟩ d_Im_samplesLeft_24
def mj_Im_markRow_153 (a1 : Nat) (a2 : Int32) (a3 : Int32) (c_32 : Int64 → Int32 → Mem → Option (Mem)) (y4 : Int64) (y6 : Int32) (μ : Mem) : Option (Mem) :=
  ap (y6 + (1 : Int32)) fun x8 =>
  c_32 (y4) (x8) μ
theorem tj_Im_markRow_153 (a1 : Nat) (a2 : Int32) (a3 : Int32) {q : Mem} {c_32 : Int64 → Int32 → Mem → Option (Mem)} (hc_32 : ∀ (y4 : Int64) (y6 : Int32) (μ : Mem), c_32 y4 y6 μ = some q → J (GM true (QQ none q) none y_Im_markRow.name) true b_Im_markRow R_2 10 (2) 0 0 32 [(0, vr 2 (0)), (1, vr 7 (a1)), (2, vi (a2)), (4, vl (y4)), (6, vi (y6))] [] μ) (y4 : Int64) (y6 : Int32) (μ : Mem) (h : mj_Im_markRow_153 a1 a2 a3 c_32 y4 y6 μ = some q) : J (GM true (QQ none q) none y_Im_markRow.name) true b_Im_markRow R_2 10 (2) 0 0 153 [(0, vr 2 (0)), (1, vr 7 (a1)), (2, vi (a2)), (4, vl (y4)), (6, vi (y6))] [] μ := by
  unfold mj_Im_markRow_153 at h
  obtain ⟨x8, hx8, h⟩ := ap_eq h
  refine J_iinc (q := 156) (v := x8) (lv' := [(6, vi (x8)), (0, vr 2 (0)), (1, vr 7 (a1)), (2, vi (a2)), (4, vl (y4))]) 4 d_Im_markRow_153 rfl (by rw [hx8]; rfl) (by decide) rfl rfl ?_
  refine J_goto (q := 32) d_Im_markRow_156 (by decide) ?_
  refine J_pick [1, 2, 3, 4, 0] rfl ?_
  exact hc_32 _ _ _ h
def mj_Im_markRow_127 (a1 : Nat) (a2 : Int32) (a3 : Int32) (c_32 : Int64 → Int32 → Mem → Option (Mem)) (y4 : Int64) (y6 : Int32) (y7 : Int32) (y8 : Int32) (y9 : Int32) (μ : Mem) : Option (Mem) :=
  if y9 = 0 then
 (mj_Im_markRow_153 a1 a2 a3 c_32 (y4) (y6) μ)
 else
 (if y8 = 0 then
 (Option.bind (m_Im_samplesLeft (a1) (y7) (y6) (a2) (y4) μ) fun r9 =>
  Option.bind (m_Im_mark (r9) ((-1 : Int32)) μ) fun r10 =>
  mj_Im_markRow_153 a1 a2 a3 c_32 (y4) (y6) r10)
 else
 (mj_Im_markRow_153 a1 a2 a3 c_32 (y4) (y6) μ))
theorem tj_Im_markRow_127 (a1 : Nat) (a2 : Int32) (a3 : Int32) {q : Mem} {c_32 : Int64 → Int32 → Mem → Option (Mem)} (hc_32 : ∀ (y4 : Int64) (y6 : Int32) (μ : Mem), c_32 y4 y6 μ = some q → J (GM true (QQ none q) none y_Im_markRow.name) true b_Im_markRow R_2 10 (2) 0 0 32 [(0, vr 2 (0)), (1, vr 7 (a1)), (2, vi (a2)), (4, vl (y4)), (6, vi (y6))] [] μ) (y4 : Int64) (y6 : Int32) (y7 : Int32) (y8 : Int32) (y9 : Int32) (μ : Mem) (h : mj_Im_markRow_127 a1 a2 a3 c_32 y4 y6 y7 y8 y9 μ = some q) : J (GM true (QQ none q) none y_Im_markRow.name) true b_Im_markRow R_2 10 (2) 0 0 127 [(0, vr 2 (0)), (1, vr 7 (a1)), (2, vi (a2)), (4, vl (y4)), (6, vi (y6)), (7, vi (y7)), (8, vi (y8)), (9, vi (y9))] [] μ := by
  unfold mj_Im_markRow_127 at h
  refine J_iload (q := 129) 7 d_Im_markRow_127 rfl rfl ?_
  refine J_if_eq (q := 132) (tgt := 153) d_Im_markRow_129 (by decide) rfl (fun hc => ?_) (fun hc => ?_)
  · rw [if_pos hc] at h
    refine J_pick [0, 1, 2, 3, 4] rfl ?_
    exact tj_Im_markRow_153 a1 a2 a3 hc_32 _ _ _ h
  · rw [if_neg hc] at h
    refine J_iload (q := 134) 6 d_Im_markRow_132 rfl rfl ?_
    refine J_if_ne (q := 137) (tgt := 153) d_Im_markRow_134 (by decide) rfl (fun hc => ?_) (fun hc => ?_)
    · rw [if_neg hc] at h
      refine J_pick [0, 1, 2, 3, 4] rfl ?_
      exact tj_Im_markRow_153 a1 a2 a3 hc_32 _ _ _ h
    · rw [if_pos hc] at h
      refine J_aload_n (q := 138) 0 d_Im_markRow_137 rfl rfl rfl ?_
      refine J_aload_n (q := 139) 1 d_Im_markRow_138 rfl rfl rfl ?_
      refine J_iload (q := 141) 5 d_Im_markRow_139 rfl rfl ?_
      refine J_iload (q := 143) 4 d_Im_markRow_141 rfl rfl ?_
      refine J_iload_n (q := 144) 2 d_Im_markRow_143 rfl rfl rfl ?_
      refine J_lload (q := 146) 3 d_Im_markRow_144 rfl rfl ?_
      obtain ⟨r9, hr9, h⟩ := bd_some h
      refine J_callSq (rc := 0) (rs := 0) (q := 149) (as := [vr 7 (a1), vi (y7), vi (y6), vi (a2), vl (y4)]) (st := [vr 2 (0)]) g_757 (t_Im_samplesLeft hr9) (by decide) (by decide) g_756 g_758 g_4 hy_Im_samplesLeft rfl (Nat.le_of_ble_eq_true rfl) d_Im_markRow_146 rfl ?_
      refine J_iconst (q := 150) (v := (-1 : Int32)) d_Im_markRow_149 (by decide) rfl ?_
      obtain ⟨r10, hr10, h⟩ := bd_some h
      refine J_callVv (rc := 0) (rs := 0) (q := 153) (as := [vi (r9), vi ((-1 : Int32))]) (st := []) (by decide) rfl g_771 sel_Im_mark (t_Im_mark hr10) (by decide) (by decide) g_769 g_772 g_4 hy_Im_mark rfl (Nat.le_of_ble_eq_true rfl) d_Im_markRow_150 rfl ?_
      refine J_pick [0, 1, 2, 3, 4] rfl ?_
      exact tj_Im_markRow_153 a1 a2 a3 hc_32 _ _ _ h
def mj_Im_markRow_96 (a1 : Nat) (a2 : Int32) (a3 : Int32) (c_32 : Int64 → Int32 → Mem → Option (Mem)) (y4 : Int64) (y6 : Int32) (y7 : Int32) (y8 : Int32) (z0 : Int32) (μ : Mem) : Option (Mem) :=
  if y8 = 0 then
 (mj_Im_markRow_127 a1 a2 a3 c_32 (y4) (y6) (y7) (y8) (z0) μ)
 else
 (if z0 = 0 then
 (Option.bind (m_Im_samplesLeft (a1) (y6) (y7) (a2) (y4) μ) fun r11 =>
  Option.bind (m_Im_mark (r11) ((1 : Int32)) μ) fun r12 =>
  mj_Im_markRow_153 a1 a2 a3 c_32 (y4) (y6) r12)
 else
 (mj_Im_markRow_127 a1 a2 a3 c_32 (y4) (y6) (y7) (y8) (z0) μ))
theorem tj_Im_markRow_96 (a1 : Nat) (a2 : Int32) (a3 : Int32) {q : Mem} {c_32 : Int64 → Int32 → Mem → Option (Mem)} (hc_32 : ∀ (y4 : Int64) (y6 : Int32) (μ : Mem), c_32 y4 y6 μ = some q → J (GM true (QQ none q) none y_Im_markRow.name) true b_Im_markRow R_2 10 (2) 0 0 32 [(0, vr 2 (0)), (1, vr 7 (a1)), (2, vi (a2)), (4, vl (y4)), (6, vi (y6))] [] μ) (y4 : Int64) (y6 : Int32) (y7 : Int32) (y8 : Int32) (z0 : Int32) (μ : Mem) (h : mj_Im_markRow_96 a1 a2 a3 c_32 y4 y6 y7 y8 z0 μ = some q) : J (GM true (QQ none q) none y_Im_markRow.name) true b_Im_markRow R_2 10 (2) 0 0 96 [(0, vr 2 (0)), (1, vr 7 (a1)), (2, vi (a2)), (4, vl (y4)), (6, vi (y6)), (7, vi (y7)), (8, vi (y8))] [vi (z0)] μ := by
  unfold mj_Im_markRow_96 at h
  refine J_istore (q := 98) (lv' := [(9, vi (z0)), (0, vr 2 (0)), (1, vr 7 (a1)), (2, vi (a2)), (4, vl (y4)), (6, vi (y6)), (7, vi (y7)), (8, vi (y8))]) d_Im_markRow_96 (by decide) rfl rfl ?_
  refine J_iload (q := 100) 7 d_Im_markRow_98 rfl rfl ?_
  refine J_if_eq (q := 103) (tgt := 127) d_Im_markRow_100 (by decide) rfl (fun hc => ?_) (fun hc => ?_)
  · rw [if_pos hc] at h
    refine J_pick [1, 2, 3, 4, 5, 6, 7, 0] rfl ?_
    exact tj_Im_markRow_127 a1 a2 a3 hc_32 _ _ _ _ _ _ h
  · rw [if_neg hc] at h
    refine J_iload (q := 105) 0 d_Im_markRow_103 rfl rfl ?_
    refine J_if_ne (q := 108) (tgt := 127) d_Im_markRow_105 (by decide) rfl (fun hc => ?_) (fun hc => ?_)
    · rw [if_neg hc] at h
      refine J_pick [1, 2, 3, 4, 5, 6, 7, 0] rfl ?_
      exact tj_Im_markRow_127 a1 a2 a3 hc_32 _ _ _ _ _ _ h
    · rw [if_pos hc] at h
      refine J_aload_n (q := 109) 1 d_Im_markRow_108 rfl rfl rfl ?_
      refine J_aload_n (q := 110) 2 d_Im_markRow_109 rfl rfl rfl ?_
      refine J_iload (q := 112) 5 d_Im_markRow_110 rfl rfl ?_
      refine J_iload (q := 114) 6 d_Im_markRow_112 rfl rfl ?_
      refine J_iload_n (q := 115) 3 d_Im_markRow_114 rfl rfl rfl ?_
      refine J_lload (q := 117) 4 d_Im_markRow_115 rfl rfl ?_
      obtain ⟨r11, hr11, h⟩ := bd_some h
      refine J_callSq (rc := 0) (rs := 0) (q := 120) (as := [vr 7 (a1), vi (y6), vi (y7), vi (a2), vl (y4)]) (st := [vr 2 (0)]) g_757 (t_Im_samplesLeft hr11) (by decide) (by decide) g_756 g_758 g_4 hy_Im_samplesLeft rfl (Nat.le_of_ble_eq_true rfl) d_Im_markRow_117 rfl ?_
      refine J_iconst (q := 121) (v := (1 : Int32)) d_Im_markRow_120 (by decide) rfl ?_
      obtain ⟨r12, hr12, h⟩ := bd_some h
      refine J_callVv (rc := 0) (rs := 0) (q := 124) (as := [vi (r11), vi ((1 : Int32))]) (st := []) (by decide) rfl g_771 sel_Im_mark (t_Im_mark hr12) (by decide) (by decide) g_769 g_772 g_4 hy_Im_mark rfl (Nat.le_of_ble_eq_true rfl) d_Im_markRow_121 rfl ?_
      refine J_goto (q := 153) d_Im_markRow_124 (by decide) ?_
      refine J_pick [1, 2, 3, 4, 5] rfl ?_
      exact tj_Im_markRow_153 a1 a2 a3 hc_32 _ _ _ h
def mj_Im_markRow_72 (a1 : Nat) (a2 : Int32) (a3 : Int32) (c_32 : Int64 → Int32 → Mem → Option (Mem)) (y4 : Int64) (y6 : Int32) (y7 : Int32) (z0 : Int32) (μ : Mem) : Option (Mem) :=
  gu (y7) 500 <|
  if y4 < ((a2).toInt64) * ((gI μ 241 (a1) y7.toNatClampNeg).toInt64) then
 (mj_Im_markRow_96 a1 a2 a3 c_32 (y4) (y6) (y7) (z0) ((0 : Int32)) μ)
 else
 (mj_Im_markRow_96 a1 a2 a3 c_32 (y4) (y6) (y7) (z0) ((1 : Int32)) μ)
theorem tj_Im_markRow_72 (a1 : Nat) (a2 : Int32) (a3 : Int32) {q : Mem} {c_32 : Int64 → Int32 → Mem → Option (Mem)} (hc_32 : ∀ (y4 : Int64) (y6 : Int32) (μ : Mem), c_32 y4 y6 μ = some q → J (GM true (QQ none q) none y_Im_markRow.name) true b_Im_markRow R_2 10 (2) 0 0 32 [(0, vr 2 (0)), (1, vr 7 (a1)), (2, vi (a2)), (4, vl (y4)), (6, vi (y6))] [] μ) (y4 : Int64) (y6 : Int32) (y7 : Int32) (z0 : Int32) (μ : Mem) (h : mj_Im_markRow_72 a1 a2 a3 c_32 y4 y6 y7 z0 μ = some q) : J (GM true (QQ none q) none y_Im_markRow.name) true b_Im_markRow R_2 10 (2) 0 0 72 [(0, vr 2 (0)), (1, vr 7 (a1)), (2, vi (a2)), (4, vl (y4)), (6, vi (y6)), (7, vi (y7))] [vi (z0)] μ := by
  unfold mj_Im_markRow_72 at h
  refine J_istore (q := 74) (lv' := [(8, vi (z0)), (0, vr 2 (0)), (1, vr 7 (a1)), (2, vi (a2)), (4, vl (y4)), (6, vi (y6)), (7, vi (y7))]) d_Im_markRow_72 (by decide) rfl rfl ?_
  refine J_iload_n (q := 75) 3 d_Im_markRow_74 rfl rfl rfl ?_
  refine J_i2l (q := 76) d_Im_markRow_75 rfl ?_
  refine J_aload_n (q := 77) 2 d_Im_markRow_76 rfl rfl rfl ?_
  refine J_getF (q := 80) cd_7 (by decide) ft_7_1 rfl g_68 rfl d_Im_markRow_77 rfl ?_
  refine J_iload (q := 82) 6 d_Im_markRow_80 rfl rfl ?_
  obtain ⟨hi7, h⟩ := gu_some h
  refine J_iald (q := 83) rk_241 (by decide) hi7 d_Im_markRow_82 rfl ?_
  refine J_i2l (q := 84) d_Im_markRow_83 rfl ?_
  refine J_lmul (q := 85) d_Im_markRow_84 rfl ?_
  refine J_lload (q := 87) 4 d_Im_markRow_85 rfl rfl ?_
  refine J_lif_gt (q := 91) (tgt := 95) d_Im_markRow_87 d_Im_markRow_88 (by decide) rfl (fun hc => ?_) (fun hc => ?_)
  · rw [if_pos hc] at h
    refine J_iconst (q := 96) (v := (0 : Int32)) d_Im_markRow_95 (by decide) rfl ?_
    refine J_pick [1, 2, 3, 4, 5, 6, 0] rfl ?_
    exact tj_Im_markRow_96 a1 a2 a3 hc_32 _ _ _ _ _ _ h
  · rw [if_neg hc] at h
    refine J_iconst (q := 92) (v := (1 : Int32)) d_Im_markRow_91 (by decide) rfl ?_
    refine J_goto (q := 96) d_Im_markRow_92 (by decide) ?_
    refine J_pick [1, 2, 3, 4, 5, 6, 0] rfl ?_
    exact tj_Im_markRow_96 a1 a2 a3 hc_32 _ _ _ _ _ _ h
def lp_Im_markRow_32 (a1 : Nat) (a2 : Int32) (a3 : Int32) : Nat → Int64 → Int32 → Mem → Option (Mem)
  | 0, _, _, _ => none
  | n + 1, y4, y6, μ =>
  if gI μ 7 (a1) 4 ≤ y6 then
 (some μ)
 else
 (gu (y6) 500 <|
  ap (gI μ 243 (a1) y6.toNatClampNeg) fun x14 =>
  gu (y6) 500 <|
  if y4 < ((a2).toInt64) * ((gI μ 241 (a1) y6.toNatClampNeg).toInt64) then
 (mj_Im_markRow_72 a1 a2 a3 (lp_Im_markRow_32 a1 a2 a3 n) (y4) (y6) (x14) ((0 : Int32)) μ)
 else
 (mj_Im_markRow_72 a1 a2 a3 (lp_Im_markRow_32 a1 a2 a3 n) (y4) (y6) (x14) ((1 : Int32)) μ))
theorem tl_Im_markRow_32 (a1 : Nat) (a2 : Int32) (a3 : Int32) {q : Mem}  : ∀ (n : Nat) (y4 : Int64) (y6 : Int32) (μ : Mem), lp_Im_markRow_32 a1 a2 a3 n y4 y6 μ = some q → J (GM true (QQ none q) none y_Im_markRow.name) true b_Im_markRow R_2 10 (2) 0 0 32 [(0, vr 2 (0)), (1, vr 7 (a1)), (2, vi (a2)), (4, vl (y4)), (6, vi (y6))] [] μ := by
  intro n
  induction n with
  | zero => intro _ _ _ h; cases h
  | succ n ih =>
    intro y4 y6 μ h
    unfold lp_Im_markRow_32 at h
    refine J_iload (q := 34) 4 d_Im_markRow_32 rfl rfl ?_
    refine J_aload_n (q := 35) 1 d_Im_markRow_34 rfl rfl rfl ?_
    refine J_getI (q := 38) (j := 4) cd_7 (by decide) (Or.inl rfl) g_75 rfl d_Im_markRow_35 rfl ?_
    refine J_icmp_ge (q := 41) (tgt := 159) d_Im_markRow_38 (by decide) rfl (fun hc => ?_) (fun hc => ?_)
    · rw [if_pos hc] at h
      obtain rfl := Option.some.inj h
      exact J_vret rfl ⟨rfl, rfl⟩ d_Im_markRow_159
    · rw [if_neg hc] at h
      refine J_aload_n (q := 42) 1 d_Im_markRow_41 rfl rfl rfl ?_
      refine J_getF (q := 45) cd_7 (by decide) ft_7_3 rfl g_73 rfl d_Im_markRow_42 rfl ?_
      refine J_iload (q := 47) 4 d_Im_markRow_45 rfl rfl ?_
      obtain ⟨hi13, h⟩ := gu_some h
      refine J_iald (q := 48) rk_243 (by decide) hi13 d_Im_markRow_47 rfl ?_
      obtain ⟨x14, hx14, h⟩ := ap_eq h
      refine J_nmI hx14 ?_
      refine J_istore (q := 50) (lv' := [(7, vi (x14)), (0, vr 2 (0)), (1, vr 7 (a1)), (2, vi (a2)), (4, vl (y4)), (6, vi (y6))]) d_Im_markRow_48 (by decide) rfl rfl ?_
      refine J_iload_n (q := 51) 3 d_Im_markRow_50 rfl rfl rfl ?_
      refine J_i2l (q := 52) d_Im_markRow_51 rfl ?_
      refine J_aload_n (q := 53) 2 d_Im_markRow_52 rfl rfl rfl ?_
      refine J_getF (q := 56) cd_7 (by decide) ft_7_1 rfl g_68 rfl d_Im_markRow_53 rfl ?_
      refine J_iload (q := 58) 5 d_Im_markRow_56 rfl rfl ?_
      obtain ⟨hi15, h⟩ := gu_some h
      refine J_iald (q := 59) rk_241 (by decide) hi15 d_Im_markRow_58 rfl ?_
      refine J_i2l (q := 60) d_Im_markRow_59 rfl ?_
      refine J_lmul (q := 61) d_Im_markRow_60 rfl ?_
      refine J_lload (q := 63) 4 d_Im_markRow_61 rfl rfl ?_
      refine J_lif_gt (q := 67) (tgt := 71) d_Im_markRow_63 d_Im_markRow_64 (by decide) rfl (fun hc => ?_) (fun hc => ?_)
      · rw [if_pos hc] at h
        refine J_iconst (q := 72) (v := (0 : Int32)) d_Im_markRow_71 (by decide) rfl ?_
        refine J_pick [1, 2, 3, 4, 5, 0] rfl ?_
        exact tj_Im_markRow_72 a1 a2 a3 ih _ _ _ _ _ h
      · rw [if_neg hc] at h
        refine J_iconst (q := 68) (v := (1 : Int32)) d_Im_markRow_67 (by decide) rfl ?_
        refine J_goto (q := 72) d_Im_markRow_68 (by decide) ?_
        refine J_pick [1, 2, 3, 4, 5, 0] rfl ?_
        exact tj_Im_markRow_72 a1 a2 a3 ih _ _ _ _ _ h
def m_Im_markRow (a1 : Nat) (a2 : Int32) (a3 : Int32) (μ : Mem) : Option (Mem) :=
  ap (sI μ 2 (0) 2 ((513 : Int32))) fun μ1 =>
  ap (sI μ1 2 (0) 3 ((0 : Int32))) fun μ2 =>
  ap (((((-16384 : Int32)) + (a3 * (128 : Int32))) + ((64 : Int32))).toInt64) fun x3 =>
  lp_Im_markRow_32 a1 a2 a3 FU (x3) ((0 : Int32)) μ2
theorem t_Im_markRow {a1 : Nat} {a2 : Int32} {a3 : Int32} {μ : Mem} {q : Mem} (h : m_Im_markRow a1 a2 a3 μ = some q) : JM true (2) y_Im_markRow b_Im_markRow 10 none 0 0 [vr 2 (0), vr 7 (a1), vi (a2), vi (a3)] μ (QQ none q) := by
  unfold m_Im_markRow at h
  refine JM.of pl_Im_markRow (fun ρ => Nat.le_of_ble_eq_true rfl) ?_
  show J (GM true (QQ none q) none y_Im_markRow.name) true b_Im_markRow R_2 10 (2) 0 0 0 [(0, vr 2 (0)), (1, vr 7 (a1)), (2, vi (a2)), (3, vi (a3))] [] μ
  refine J_aload_n (q := 1) 0 d_Im_markRow_0 rfl rfl rfl ?_
  refine J_aload_n (q := 2) 0 d_Im_markRow_1 rfl rfl rfl ?_
  refine J_getF (q := 5) cd_2 (by decide) ft_2_1 rfl g_109 rfl d_Im_markRow_2 rfl ?_
  refine J_alen (q := 6) (v := (513 : Int32)) rk_141 (by decide) (Or.inl rfl) rfl d_Im_markRow_5 rfl ?_
  refine J_putI (q := 9) (j := 2) cd_2 (by decide) rfl rfl rfl g_110 rfl d_Im_markRow_6 rfl ?_
  obtain ⟨μ1, hμ1, h⟩ := ap_eq h
  refine J_nmM hμ1 ?_
  refine J_aload_n (q := 10) 0 d_Im_markRow_9 rfl rfl rfl ?_
  refine J_iconst (q := 11) (v := (0 : Int32)) d_Im_markRow_10 (by decide) rfl ?_
  refine J_putI (q := 14) (j := 3) cd_2 (by decide) rfl rfl rfl g_111 rfl d_Im_markRow_11 rfl ?_
  obtain ⟨μ2, hμ2, h⟩ := ap_eq h
  refine J_nmM hμ2 ?_
  refine J_sipush (q := 17) (v := (-16384 : Int32)) d_Im_markRow_14 (by decide) rfl ?_
  refine J_iload_n (q := 18) 3 d_Im_markRow_17 rfl rfl rfl ?_
  refine J_sipush (q := 21) (v := (128 : Int32)) d_Im_markRow_18 (by decide) rfl ?_
  refine J_imul (q := 22) d_Im_markRow_21 rfl ?_
  refine J_iadd (q := 23) d_Im_markRow_22 rfl ?_
  refine J_bipush (q := 25) (v := (64 : Int32)) d_Im_markRow_23 (by decide) rfl ?_
  refine J_iadd (q := 26) d_Im_markRow_25 rfl ?_
  refine J_i2l (q := 27) d_Im_markRow_26 rfl ?_
  obtain ⟨x3, hx3, h⟩ := ap_eq h
  refine J_nmL hx3 ?_
  refine J_lstore (q := 29) (lv' := [(4, vl (x3)), (0, vr 2 (0)), (1, vr 7 (a1)), (2, vi (a2)), (3, vi (a3))]) d_Im_markRow_27 (by decide) rfl rfl ?_
  refine J_iconst (q := 30) (v := (0 : Int32)) d_Im_markRow_29 (by decide) rfl ?_
  refine J_istore (q := 32) (lv' := [(6, vi ((0 : Int32))), (4, vl (x3)), (0, vr 2 (0)), (1, vr 7 (a1)), (2, vi (a2)), (3, vi (a3))]) d_Im_markRow_30 (by decide) rfl rfl ?_
  refine J_pick [2, 3, 4, 1, 0] rfl ?_
  exact tl_Im_markRow_32 a1 a2 a3 FU _ _ _ h
def mj_Im_measure_131 (c_31 : Int32 → Mem → Option (Mem)) (y1 : Int32) (μ : Mem) : Option (Mem) :=
  ap (y1 + (1 : Int32)) fun x7 =>
  c_31 (x7) μ
theorem tj_Im_measure_131 {q : Mem} {c_31 : Int32 → Mem → Option (Mem)} (hc_31 : ∀ (y1 : Int32) (μ : Mem), c_31 y1 μ = some q → J (GM true (QQ none q) none y_Im_measure.name) true b_Im_measure R_2 2 (1) 0 0 31 [(0, vr 2 (0)), (1, vi (y1))] [] μ) (y1 : Int32) (μ : Mem) (h : mj_Im_measure_131 c_31 y1 μ = some q) : J (GM true (QQ none q) none y_Im_measure.name) true b_Im_measure R_2 2 (1) 0 0 131 [(0, vr 2 (0)), (1, vi (y1))] [] μ := by
  unfold mj_Im_measure_131 at h
  obtain ⟨x7, hx7, h⟩ := ap_eq h
  refine J_iinc (q := 134) (v := x7) (lv' := [(1, vi (x7)), (0, vr 2 (0))]) 1 d_Im_measure_131 rfl (by rw [hx7]; rfl) (by decide) rfl rfl ?_
  refine J_goto (q := 31) d_Im_measure_134 (by decide) ?_
  refine J_pick [1, 0] rfl ?_
  exact hc_31 _ _ h
def lp_Im_measure_31 : Nat → Int32 → Mem → Option (Mem)
  | 0, _, _ => none
  | n + 1, y1, μ =>
  if (4096 : Int32) ≤ y1 then
 (some μ)
 else
 (gu (y1) 4096 <|
  if gI μ 140 (0) y1.toNatClampNeg ≤ 0 then
 (mj_Im_measure_131 (lp_Im_measure_31 n) (y1) μ)
 else
 (ap (sI μ 2 (0) 4 ((gI μ 2 (0) 4) + ((1 : Int32)))) fun μ16 =>
  ap (y1 - y1 / (64 : Int32) * (64 : Int32)) fun x17 =>
  ap (sI μ16 2 (0) 5 ((m_Ma_min2 (gI μ16 2 (0) 5) (x17 + (-16 : Int32)) μ16))) fun μ18 =>
  ap (y1 - y1 / (64 : Int32) * (64 : Int32)) fun x19 =>
  ap (sI μ18 2 (0) 7 ((m_Ma_max (gI μ18 2 (0) 7) (x19 + (-16 : Int32)) μ18))) fun μ20 =>
  ap (sI μ20 2 (0) 6 ((m_Ma_min2 (gI μ20 2 (0) 6) ((y1 / (64 : Int32)) + ((-16 : Int32))) μ20))) fun μ21 =>
  ap (sI μ21 2 (0) 8 ((m_Ma_max (gI μ21 2 (0) 8) ((y1 / (64 : Int32)) + ((-16 : Int32))) μ21))) fun μ22 =>
  mj_Im_measure_131 (lp_Im_measure_31 n) (y1) μ22))
theorem tl_Im_measure_31 {q : Mem}  : ∀ (n : Nat) (y1 : Int32) (μ : Mem), lp_Im_measure_31 n y1 μ = some q → J (GM true (QQ none q) none y_Im_measure.name) true b_Im_measure R_2 2 (1) 0 0 31 [(0, vr 2 (0)), (1, vi (y1))] [] μ := by
  intro n
  induction n with
  | zero => intro _ _ h; cases h
  | succ n ih =>
    intro y1 μ h
    unfold lp_Im_measure_31 at h
    refine J_iload_n (q := 32) 1 d_Im_measure_31 rfl rfl rfl ?_
    refine J_aload_n (q := 33) 0 d_Im_measure_32 rfl rfl rfl ?_
    refine J_getF (q := 36) cd_2 (by decide) ft_2_0 rfl g_108 rfl d_Im_measure_33 rfl ?_
    refine J_alen (q := 37) (v := (4096 : Int32)) rk_140 (by decide) (Or.inl rfl) rfl d_Im_measure_36 rfl ?_
    refine J_icmp_ge (q := 40) (tgt := 137) d_Im_measure_37 (by decide) rfl (fun hc => ?_) (fun hc => ?_)
    · rw [if_pos hc] at h
      obtain rfl := Option.some.inj h
      exact J_vret rfl ⟨rfl, rfl⟩ d_Im_measure_137
    · rw [if_neg hc] at h
      refine J_aload_n (q := 41) 0 d_Im_measure_40 rfl rfl rfl ?_
      refine J_getF (q := 44) cd_2 (by decide) ft_2_0 rfl g_108 rfl d_Im_measure_41 rfl ?_
      refine J_iload_n (q := 45) 1 d_Im_measure_44 rfl rfl rfl ?_
      obtain ⟨hi15, h⟩ := gu_some h
      refine J_iald (q := 46) rk_140 (by decide) hi15 d_Im_measure_45 rfl ?_
      refine J_if_le (q := 49) (tgt := 131) d_Im_measure_46 (by decide) rfl (fun hc => ?_) (fun hc => ?_)
      · rw [if_pos hc] at h
        refine J_pick [0, 1] rfl ?_
        exact tj_Im_measure_131 ih _ _ h
      · rw [if_neg hc] at h
        refine J_aload_n (q := 50) 0 d_Im_measure_49 rfl rfl rfl ?_
        refine J_dupR (q := 51) d_Im_measure_50 rfl ?_
        refine J_getI (q := 54) (j := 4) cd_2 (by decide) (Or.inl rfl) g_112 rfl d_Im_measure_51 rfl ?_
        refine J_iconst (q := 55) (v := (1 : Int32)) d_Im_measure_54 (by decide) rfl ?_
        refine J_iadd (q := 56) d_Im_measure_55 rfl ?_
        refine J_putI (q := 59) (j := 4) cd_2 (by decide) rfl rfl rfl g_112 rfl d_Im_measure_56 rfl ?_
        obtain ⟨μ16, hμ16, h⟩ := ap_eq h
        refine J_nmM hμ16 ?_
        refine J_aload_n (q := 60) 0 d_Im_measure_59 rfl rfl rfl ?_
        refine J_aload_n (q := 61) 0 d_Im_measure_60 rfl rfl rfl ?_
        refine J_getI (q := 64) (j := 5) cd_2 (by decide) (Or.inl rfl) g_114 rfl d_Im_measure_61 rfl ?_
        refine J_iload_n (q := 65) 1 d_Im_measure_64 rfl rfl rfl ?_
        refine J_bipush (q := 67) (v := (64 : Int32)) d_Im_measure_65 (by decide) rfl ?_
        refine J_irem (q := 68) d_Im_measure_67 (by decide) rfl ?_
        obtain ⟨x17, hx17, h⟩ := ap_eq h
        refine J_nmI hx17 ?_
        refine J_bipush (q := 70) (v := (-16 : Int32)) d_Im_measure_68 (by decide) rfl ?_
        refine J_iadd (q := 71) d_Im_measure_70 rfl ?_
        refine J_callSq (rc := 0) (rs := 0) (q := 74) (as := [vi (gI μ16 2 (0) 5), vi (x17 + (-16 : Int32))]) (st := [vr 2 (0)]) g_774 (t_Ma_min2 rfl) (by decide) (by decide) g_773 g_775 g_15 hy_Ma_min2 rfl (Nat.le_of_ble_eq_true rfl) d_Im_measure_71 rfl ?_
        refine J_putI (q := 77) (j := 5) cd_2 (by decide) rfl rfl rfl g_114 rfl d_Im_measure_74 rfl ?_
        obtain ⟨μ18, hμ18, h⟩ := ap_eq h
        refine J_nmM hμ18 ?_
        refine J_aload_n (q := 78) 0 d_Im_measure_77 rfl rfl rfl ?_
        refine J_aload_n (q := 79) 0 d_Im_measure_78 rfl rfl rfl ?_
        refine J_getI (q := 82) (j := 7) cd_2 (by decide) (Or.inl rfl) g_116 rfl d_Im_measure_79 rfl ?_
        refine J_iload_n (q := 83) 1 d_Im_measure_82 rfl rfl rfl ?_
        refine J_bipush (q := 85) (v := (64 : Int32)) d_Im_measure_83 (by decide) rfl ?_
        refine J_irem (q := 86) d_Im_measure_85 (by decide) rfl ?_
        obtain ⟨x19, hx19, h⟩ := ap_eq h
        refine J_nmI hx19 ?_
        refine J_bipush (q := 88) (v := (-16 : Int32)) d_Im_measure_86 (by decide) rfl ?_
        refine J_iadd (q := 89) d_Im_measure_88 rfl ?_
        refine J_callSq (rc := 0) (rs := 0) (q := 92) (as := [vi (gI μ18 2 (0) 7), vi (x19 + (-16 : Int32))]) (st := [vr 2 (0)]) g_561 (t_Ma_max rfl) (by decide) (by decide) g_776 g_562 g_15 hy_Ma_max rfl (Nat.le_of_ble_eq_true rfl) d_Im_measure_89 rfl ?_
        refine J_putI (q := 95) (j := 7) cd_2 (by decide) rfl rfl rfl g_116 rfl d_Im_measure_92 rfl ?_
        obtain ⟨μ20, hμ20, h⟩ := ap_eq h
        refine J_nmM hμ20 ?_
        refine J_aload_n (q := 96) 0 d_Im_measure_95 rfl rfl rfl ?_
        refine J_aload_n (q := 97) 0 d_Im_measure_96 rfl rfl rfl ?_
        refine J_getI (q := 100) (j := 6) cd_2 (by decide) (Or.inl rfl) g_115 rfl d_Im_measure_97 rfl ?_
        refine J_iload_n (q := 101) 1 d_Im_measure_100 rfl rfl rfl ?_
        refine J_bipush (q := 103) (v := (64 : Int32)) d_Im_measure_101 (by decide) rfl ?_
        refine J_idiv (q := 104) d_Im_measure_103 (by decide) rfl ?_
        refine J_bipush (q := 106) (v := (-16 : Int32)) d_Im_measure_104 (by decide) rfl ?_
        refine J_iadd (q := 107) d_Im_measure_106 rfl ?_
        refine J_callSq (rc := 0) (rs := 0) (q := 110) (as := [vi (gI μ20 2 (0) 6), vi ((y1 / (64 : Int32)) + ((-16 : Int32)))]) (st := [vr 2 (0)]) g_774 (t_Ma_min2 rfl) (by decide) (by decide) g_773 g_775 g_15 hy_Ma_min2 rfl (Nat.le_of_ble_eq_true rfl) d_Im_measure_107 rfl ?_
        refine J_putI (q := 113) (j := 6) cd_2 (by decide) rfl rfl rfl g_115 rfl d_Im_measure_110 rfl ?_
        obtain ⟨μ21, hμ21, h⟩ := ap_eq h
        refine J_nmM hμ21 ?_
        refine J_aload_n (q := 114) 0 d_Im_measure_113 rfl rfl rfl ?_
        refine J_aload_n (q := 115) 0 d_Im_measure_114 rfl rfl rfl ?_
        refine J_getI (q := 118) (j := 8) cd_2 (by decide) (Or.inl rfl) g_117 rfl d_Im_measure_115 rfl ?_
        refine J_iload_n (q := 119) 1 d_Im_measure_118 rfl rfl rfl ?_
        refine J_bipush (q := 121) (v := (64 : Int32)) d_Im_measure_119 (by decide) rfl ?_
        refine J_idiv (q := 122) d_Im_measure_121 (by decide) rfl ?_
        refine J_bipush (q := 124) (v := (-16 : Int32)) d_Im_measure_122 (by decide) rfl ?_
        refine J_iadd (q := 125) d_Im_measure_124 rfl ?_
        refine J_callSq (rc := 0) (rs := 0) (q := 128) (as := [vi (gI μ21 2 (0) 8), vi ((y1 / (64 : Int32)) + ((-16 : Int32)))]) (st := [vr 2 (0)]) g_561 (t_Ma_max rfl) (by decide) (by decide) g_776 g_562 g_15 hy_Ma_max rfl (Nat.le_of_ble_eq_true rfl) d_Im_measure_125 rfl ?_
        refine J_putI (q := 131) (j := 8) cd_2 (by decide) rfl rfl rfl g_117 rfl d_Im_measure_128 rfl ?_
        obtain ⟨μ22, hμ22, h⟩ := ap_eq h
        refine J_nmM hμ22 ?_
        refine J_pick [0, 1] rfl ?_
        exact tj_Im_measure_131 ih _ _ h
def m_Im_measure (μ : Mem) : Option (Mem) :=
  ap (sI μ 2 (0) 4 ((0 : Int32))) fun μ1 =>
  ap (sI μ1 2 (0) 5 ((48 : Int32))) fun μ2 =>
  ap (sI μ2 2 (0) 6 ((48 : Int32))) fun μ3 =>
  ap (sI μ3 2 (0) 7 ((-16 : Int32))) fun μ4 =>
  ap (sI μ4 2 (0) 8 ((-16 : Int32))) fun μ5 =>
  lp_Im_measure_31 FU ((0 : Int32)) μ5
theorem t_Im_measure {μ : Mem} {q : Mem} (h : m_Im_measure  μ = some q) : JM true (1) y_Im_measure b_Im_measure 2 none 0 0 [vr 2 (0)] μ (QQ none q) := by
  unfold m_Im_measure at h
  refine JM.of pl_Im_measure (fun ρ => Nat.le_of_ble_eq_true rfl) ?_
  show J (GM true (QQ none q) none y_Im_measure.name) true b_Im_measure R_2 2 (1) 0 0 0 [(0, vr 2 (0))] [] μ
  refine J_aload_n (q := 1) 0 d_Im_measure_0 rfl rfl rfl ?_
  refine J_iconst (q := 2) (v := (0 : Int32)) d_Im_measure_1 (by decide) rfl ?_
  refine J_putI (q := 5) (j := 4) cd_2 (by decide) rfl rfl rfl g_112 rfl d_Im_measure_2 rfl ?_
  obtain ⟨μ1, hμ1, h⟩ := ap_eq h
  refine J_nmM hμ1 ?_
  refine J_aload_n (q := 6) 0 d_Im_measure_5 rfl rfl rfl ?_
  refine J_bipush (q := 8) (v := (48 : Int32)) d_Im_measure_6 (by decide) rfl ?_
  refine J_putI (q := 11) (j := 5) cd_2 (by decide) rfl rfl rfl g_114 rfl d_Im_measure_8 rfl ?_
  obtain ⟨μ2, hμ2, h⟩ := ap_eq h
  refine J_nmM hμ2 ?_
  refine J_aload_n (q := 12) 0 d_Im_measure_11 rfl rfl rfl ?_
  refine J_bipush (q := 14) (v := (48 : Int32)) d_Im_measure_12 (by decide) rfl ?_
  refine J_putI (q := 17) (j := 6) cd_2 (by decide) rfl rfl rfl g_115 rfl d_Im_measure_14 rfl ?_
  obtain ⟨μ3, hμ3, h⟩ := ap_eq h
  refine J_nmM hμ3 ?_
  refine J_aload_n (q := 18) 0 d_Im_measure_17 rfl rfl rfl ?_
  refine J_bipush (q := 20) (v := (-16 : Int32)) d_Im_measure_18 (by decide) rfl ?_
  refine J_putI (q := 23) (j := 7) cd_2 (by decide) rfl rfl rfl g_116 rfl d_Im_measure_20 rfl ?_
  obtain ⟨μ4, hμ4, h⟩ := ap_eq h
  refine J_nmM hμ4 ?_
  refine J_aload_n (q := 24) 0 d_Im_measure_23 rfl rfl rfl ?_
  refine J_bipush (q := 26) (v := (-16 : Int32)) d_Im_measure_24 (by decide) rfl ?_
  refine J_putI (q := 29) (j := 8) cd_2 (by decide) rfl rfl rfl g_117 rfl d_Im_measure_26 rfl ?_
  obtain ⟨μ5, hμ5, h⟩ := ap_eq h
  refine J_nmM hμ5 ?_
  refine J_iconst (q := 30) (v := (0 : Int32)) d_Im_measure_29 (by decide) rfl ?_
  refine J_istore_n (q := 31) (lv' := [(1, vi ((0 : Int32))), (0, vr 2 (0))]) d_Im_measure_30 rfl (by decide) rfl rfl ?_
  refine J_pick [1, 0] rfl ?_
  exact tl_Im_measure_31 FU _ _ h
def lp_Im_draw_11 (a1 : Nat) (a2 : Int32) (a3 : Int32) (c_46 : Mem → Option (Mem)) : Nat → Int32 → Mem → Option (Mem)
  | 0, _, _ => none
  | n + 1, y4, μ =>
  if (512 : Int32) ≤ y4 then
 (c_46 μ)
 else
 (Option.bind (m_Im_markRow (a1) (a2) (y4) μ) fun r5 =>
  Option.bind (m_Im_countRow ((y4 / (8 : Int32)) * ((64 : Int32))) (a3) r5) fun r6 =>
  ap (y4 + (1 : Int32)) fun x7 =>
  lp_Im_draw_11 a1 a2 a3 c_46 n (x7) r6)
theorem tl_Im_draw_11 (a1 : Nat) (a2 : Int32) (a3 : Int32) {q : Mem} {c_46 : Mem → Option (Mem)} (hc_46 : ∀ (μ : Mem), c_46  μ = some q → J (GM true (QQ none q) none y_Im_draw.name) true b_Im_draw R_2 5 (3) 0 0 46 [(0, vr 2 (0))] [] μ) : ∀ (n : Nat) (y4 : Int32) (μ : Mem), lp_Im_draw_11 a1 a2 a3 c_46 n y4 μ = some q → J (GM true (QQ none q) none y_Im_draw.name) true b_Im_draw R_2 5 (3) 0 0 11 [(0, vr 2 (0)), (1, vr 7 (a1)), (2, vi (a2)), (3, vi (a3)), (4, vi (y4))] [] μ := by
  intro n
  induction n with
  | zero => intro _ _ h; cases h
  | succ n ih =>
    intro y4 μ h
    unfold lp_Im_draw_11 at h
    refine J_iload (q := 13) 4 d_Im_draw_11 rfl rfl ?_
    refine J_sipush (q := 16) (v := (512 : Int32)) d_Im_draw_13 (by decide) rfl ?_
    refine J_icmp_ge (q := 19) (tgt := 46) d_Im_draw_16 (by decide) rfl (fun hc => ?_) (fun hc => ?_)
    · rw [if_pos hc] at h
      refine J_pick [0] rfl ?_
      exact hc_46 _ h
    · rw [if_neg hc] at h
      refine J_aload_n (q := 20) 0 d_Im_draw_19 rfl rfl rfl ?_
      refine J_aload_n (q := 21) 1 d_Im_draw_20 rfl rfl rfl ?_
      refine J_iload_n (q := 22) 2 d_Im_draw_21 rfl rfl rfl ?_
      refine J_iload (q := 24) 4 d_Im_draw_22 rfl rfl ?_
      obtain ⟨r5, hr5, h⟩ := bd_some h
      refine J_callVv (rc := 0) (rs := 0) (q := 27) (as := [vr 7 (a1), vi (a2), vi (y4)]) (st := []) (by decide) rfl g_754 sel_Im_markRow (t_Im_markRow hr5) (by decide) (by decide) g_752 g_755 g_4 hy_Im_markRow rfl (Nat.le_of_ble_eq_true rfl) d_Im_draw_24 rfl ?_
      refine J_aload_n (q := 28) 0 d_Im_draw_27 rfl rfl rfl ?_
      refine J_iload (q := 30) 4 d_Im_draw_28 rfl rfl ?_
      refine J_bipush (q := 32) (v := (8 : Int32)) d_Im_draw_30 (by decide) rfl ?_
      refine J_idiv (q := 33) d_Im_draw_32 (by decide) rfl ?_
      refine J_bipush (q := 35) (v := (64 : Int32)) d_Im_draw_33 (by decide) rfl ?_
      refine J_imul (q := 36) d_Im_draw_35 rfl ?_
      refine J_iload_n (q := 37) 3 d_Im_draw_36 rfl rfl rfl ?_
      obtain ⟨r6, hr6, h⟩ := bd_some h
      refine J_callVv (rc := 0) (rs := 0) (q := 40) (as := [vi ((y4 / (8 : Int32)) * ((64 : Int32))), vi (a3)]) (st := []) (by decide) rfl g_779 sel_Im_countRow (t_Im_countRow hr6) (by decide) (by decide) g_777 g_780 g_4 hy_Im_countRow rfl (Nat.le_of_ble_eq_true rfl) d_Im_draw_37 rfl ?_
      obtain ⟨x7, hx7, h⟩ := ap_eq h
      refine J_iinc (q := 43) (v := x7) (lv' := [(4, vi (x7)), (0, vr 2 (0)), (1, vr 7 (a1)), (2, vi (a2)), (3, vi (a3))]) 4 d_Im_draw_40 rfl (by rw [hx7]; rfl) (by decide) rfl rfl ?_
      refine J_goto (q := 11) d_Im_draw_43 (by decide) ?_
      refine J_pick [1, 2, 3, 4, 0] rfl ?_
      exact ih _ _ h
def mj_Im_draw_46 (a1 : Nat) (a2 : Int32) (a3 : Int32) (μ : Mem) : Option (Mem) :=
  Option.bind (m_Im_measure  μ) fun r8 =>
  some r8
theorem tj_Im_draw_46 (a1 : Nat) (a2 : Int32) (a3 : Int32) {q : Mem}  (μ : Mem) (h : mj_Im_draw_46 a1 a2 a3  μ = some q) : J (GM true (QQ none q) none y_Im_draw.name) true b_Im_draw R_2 5 (3) 0 0 46 [(0, vr 2 (0))] [] μ := by
  unfold mj_Im_draw_46 at h
  refine J_aload_n (q := 47) 0 d_Im_draw_46 rfl rfl rfl ?_
  obtain ⟨r8, hr8, h⟩ := bd_some h
  refine J_callVv (rc := 0) (rs := 0) (q := 50) (as := []) (st := []) (by decide) rfl g_783 sel_Im_measure (t_Im_measure hr8) (by decide) (by decide) g_781 g_784 g_4 hy_Im_measure rfl (Nat.le_of_ble_eq_true rfl) d_Im_draw_47 rfl ?_
  obtain rfl := Option.some.inj h
  exact J_vret rfl ⟨rfl, rfl⟩ d_Im_draw_50
def m_Im_draw (a1 : Nat) (a2 : Int32) (a3 : Int32) (μ : Mem) : Option (Mem) :=
  Option.bind (m_Ar_fill 140 (0) 4096 0 ((0 : Int32)) μ) fun r1 =>
  lp_Im_draw_11 a1 a2 a3 (mj_Im_draw_46 a1 a2 a3) FU ((0 : Int32)) r1
theorem t_Im_draw {a1 : Nat} {a2 : Int32} {a3 : Int32} {μ : Mem} {q : Mem} (h : m_Im_draw a1 a2 a3 μ = some q) : JM true (3) y_Im_draw b_Im_draw 5 none 0 0 [vr 2 (0), vr 7 (a1), vi (a2), vi (a3)] μ (QQ none q) := by
  unfold m_Im_draw at h
  refine JM.of pl_Im_draw (fun ρ => Nat.le_of_ble_eq_true rfl) ?_
  show J (GM true (QQ none q) none y_Im_draw.name) true b_Im_draw R_2 5 (3) 0 0 0 [(0, vr 2 (0)), (1, vr 7 (a1)), (2, vi (a2)), (3, vi (a3))] [] μ
  refine J_aload_n (q := 1) 0 d_Im_draw_0 rfl rfl rfl ?_
  refine J_getF (q := 4) cd_2 (by decide) ft_2_0 rfl g_108 rfl d_Im_draw_1 rfl ?_
  refine J_iconst (q := 5) (v := (0 : Int32)) d_Im_draw_4 (by decide) rfl ?_
  obtain ⟨r1, hr1, h⟩ := bd_some h
  refine J_callSv (rc := 0) (rs := 0) (q := 8) (as := [vr 140 (0), vi ((0 : Int32))]) (st := []) g_200 (t_Ar_fill rk_140 (by decide) hr1) (by decide) (by decide) g_751 g_201 g_8 hy_Ar_fill rfl (Nat.le_of_ble_eq_true rfl) d_Im_draw_5 rfl ?_
  refine J_iconst (q := 9) (v := (0 : Int32)) d_Im_draw_8 (by decide) rfl ?_
  refine J_istore (q := 11) (lv' := [(4, vi ((0 : Int32))), (0, vr 2 (0)), (1, vr 7 (a1)), (2, vi (a2)), (3, vi (a3))]) d_Im_draw_9 (by decide) rfl rfl ?_
  refine J_pick [1, 2, 3, 4, 0] rfl ?_
  exact tl_Im_draw_11 a1 a2 a3 (fun _ h => tj_Im_draw_46 a1 a2 a3 _ h) FU _ _ h
def m_Im_isInside (a1 : Int32) (μ : Mem) : Bool :=
  if a1 < (-16384 : Int32) then
 (false)
 else
 (if (49152 : Int32) ≤ a1 then
 (false)
 else
 (true))
theorem t_Im_isInside {a1 : Int32} {μ : Mem} {q : Bool} (h : m_Im_isInside a1 μ = q) : JM true (0) y_Im_isInside b_Im_isInside 1 (some (.boolean)) 0 0 [vi (a1)] μ (QQ (some (vi (b2i q))) μ) := by
  unfold m_Im_isInside at h
  refine JM.of pl_Im_isInside (fun ρ => Nat.le_of_ble_eq_true rfl) ?_
  show J (GM true (QQ (some (vi (b2i q))) μ) (some (.boolean)) y_Im_isInside.name) true b_Im_isInside R_2 1 (0) 0 0 0 [(0, vi (a1))] [] μ
  refine J_iload_n (q := 1) 0 d_Im_isInside_0 rfl rfl rfl ?_
  refine J_sipush (q := 4) (v := (-16384 : Int32)) d_Im_isInside_1 (by decide) rfl ?_
  refine J_icmp_lt (q := 7) (tgt := 17) d_Im_isInside_4 (by decide) rfl (fun hc => ?_) (fun hc => ?_)
  · rw [if_pos hc] at h
    refine J_iconst (q := 18) (v := (0 : Int32)) d_Im_isInside_17 (by decide) rfl ?_
    subst h
    exact J_zret (Or.inl rfl) rfl ⟨rfl, rfl⟩ d_Im_isInside_18
  · rw [if_neg hc] at h
    refine J_iload_n (q := 8) 0 d_Im_isInside_7 rfl rfl rfl ?_
    refine J_ldc (q := 10) d_Im_isInside_8 g_746 rfl ?_
    refine J_icmp_ge (q := 13) (tgt := 17) d_Im_isInside_10 (by decide) rfl (fun hc => ?_) (fun hc => ?_)
    · rw [if_pos hc] at h
      refine J_iconst (q := 18) (v := (0 : Int32)) d_Im_isInside_17 (by decide) rfl ?_
      subst h
      exact J_zret (Or.inl rfl) rfl ⟨rfl, rfl⟩ d_Im_isInside_18
    · rw [if_neg hc] at h
      refine J_iconst (q := 14) (v := (1 : Int32)) d_Im_isInside_13 (by decide) rfl ?_
      refine J_goto (q := 18) d_Im_isInside_14 (by decide) ?_
      subst h
      exact J_zret (Or.inr rfl) rfl ⟨rfl, rfl⟩ d_Im_isInside_18
def lp_Im_holds_2 (a1 : Nat) (a2 : Int32) (μ : Mem) : Nat → Int32 → Option (Bool)
  | 0, _ => none
  | n + 1, y2 =>
  if gI μ 7 (a1) 4 ≤ y2 then
 (some (true))
 else
 (gu (y2) 500 <|
  if (m_Im_isInside ((a2) * (gI μ 240 (a1) y2.toNatClampNeg)) μ) then
 (gu (y2) 500 <|
  if (m_Im_isInside ((a2) * (gI μ 241 (a1) y2.toNatClampNeg)) μ) then
 (ap (y2 + (1 : Int32)) fun x6 =>
  lp_Im_holds_2 a1 a2 μ n (x6))
 else
 (some (false)))
 else
 (some (false)))
theorem tl_Im_holds_2 (a1 : Nat) (a2 : Int32) (μ : Mem) {q : Bool}  : ∀ (n : Nat) (y2 : Int32), lp_Im_holds_2 a1 a2 μ n y2 = some q → J (GM true (QQ (some (vi (b2i q))) μ) (some (.boolean)) y_Im_holds.name) true b_Im_holds R_2 3 (1) 0 0 2 [(0, vr 7 (a1)), (1, vi (a2)), (2, vi (y2))] [] μ := by
  intro n
  induction n with
  | zero => intro _ h; cases h
  | succ n ih =>
    intro y2 h
    unfold lp_Im_holds_2 at h
    refine J_iload_n (q := 3) 2 d_Im_holds_2 rfl rfl rfl ?_
    refine J_aload_n (q := 4) 0 d_Im_holds_3 rfl rfl rfl ?_
    refine J_getI (q := 7) (j := 4) cd_7 (by decide) (Or.inl rfl) g_75 rfl d_Im_holds_4 rfl ?_
    refine J_icmp_ge (q := 10) (tgt := 46) d_Im_holds_7 (by decide) rfl (fun hc => ?_) (fun hc => ?_)
    · rw [if_pos hc] at h
      refine J_iconst (q := 47) (v := (1 : Int32)) d_Im_holds_46 (by decide) rfl ?_
      obtain rfl := Option.some.inj h
      exact J_zret (Or.inr rfl) rfl ⟨rfl, rfl⟩ d_Im_holds_47
    · rw [if_neg hc] at h
      refine J_iload_n (q := 11) 1 d_Im_holds_10 rfl rfl rfl ?_
      refine J_aload_n (q := 12) 0 d_Im_holds_11 rfl rfl rfl ?_
      refine J_getF (q := 15) cd_7 (by decide) ft_7_0 rfl g_65 rfl d_Im_holds_12 rfl ?_
      refine J_iload_n (q := 16) 2 d_Im_holds_15 rfl rfl rfl ?_
      obtain ⟨hi4, h⟩ := gu_some h
      refine J_iald (q := 17) rk_240 (by decide) hi4 d_Im_holds_16 rfl ?_
      refine J_imul (q := 18) d_Im_holds_17 rfl ?_
      refine J_callSq (rc := 0) (rs := 0) (q := 21) (as := [vi ((a2) * (gI μ 240 (a1) y2.toNatClampNeg))]) (st := []) g_744 (t_Im_isInside rfl) (by decide) (by decide) g_743 g_745 g_4 hy_Im_isInside rfl (Nat.le_of_ble_eq_true rfl) d_Im_holds_18 rfl ?_
      refine J_ifB_eq (q := 24) (tgt := 38) d_Im_holds_21 (by decide) rfl (fun hb => ?_) (fun hb => ?_)
      · rw [iB_f hb] at h
        refine J_iconst (q := 39) (v := (0 : Int32)) d_Im_holds_38 (by decide) rfl ?_
        obtain rfl := Option.some.inj h
        exact J_zret (Or.inl rfl) rfl ⟨rfl, rfl⟩ d_Im_holds_39
      · rw [iB_t hb] at h
        refine J_iload_n (q := 25) 1 d_Im_holds_24 rfl rfl rfl ?_
        refine J_aload_n (q := 26) 0 d_Im_holds_25 rfl rfl rfl ?_
        refine J_getF (q := 29) cd_7 (by decide) ft_7_1 rfl g_68 rfl d_Im_holds_26 rfl ?_
        refine J_iload_n (q := 30) 2 d_Im_holds_29 rfl rfl rfl ?_
        obtain ⟨hi5, h⟩ := gu_some h
        refine J_iald (q := 31) rk_241 (by decide) hi5 d_Im_holds_30 rfl ?_
        refine J_imul (q := 32) d_Im_holds_31 rfl ?_
        refine J_callSq (rc := 0) (rs := 0) (q := 35) (as := [vi ((a2) * (gI μ 241 (a1) y2.toNatClampNeg))]) (st := []) g_744 (t_Im_isInside rfl) (by decide) (by decide) g_743 g_745 g_4 hy_Im_isInside rfl (Nat.le_of_ble_eq_true rfl) d_Im_holds_32 rfl ?_
        refine J_ifB_ne (q := 38) (tgt := 40) d_Im_holds_35 (by decide) rfl (fun hb => ?_) (fun hb => ?_)
        · rw [iB_t hb] at h
          obtain ⟨x6, hx6, h⟩ := ap_eq h
          refine J_iinc (q := 43) (v := x6) (lv' := [(2, vi (x6)), (0, vr 7 (a1)), (1, vi (a2))]) 2 d_Im_holds_40 rfl (by rw [hx6]; rfl) (by decide) rfl rfl ?_
          refine J_goto (q := 2) d_Im_holds_43 (by decide) ?_
          refine J_pick [1, 2, 0] rfl ?_
          exact ih _ h
        · rw [iB_f hb] at h
          refine J_iconst (q := 39) (v := (0 : Int32)) d_Im_holds_38 (by decide) rfl ?_
          obtain rfl := Option.some.inj h
          exact J_zret (Or.inl rfl) rfl ⟨rfl, rfl⟩ d_Im_holds_39
def m_Im_holds (a1 : Nat) (a2 : Int32) (μ : Mem) : Option (Bool) :=
  lp_Im_holds_2 a1 a2 μ FU ((0 : Int32))
theorem t_Im_holds {a1 : Nat} {a2 : Int32} {μ : Mem} {q : Bool} (h : m_Im_holds a1 a2 μ = some q) : JM true (1) y_Im_holds b_Im_holds 3 (some (.boolean)) 0 0 [vr 7 (a1), vi (a2)] μ (QQ (some (vi (b2i q))) μ) := by
  unfold m_Im_holds at h
  refine JM.of pl_Im_holds (fun ρ => Nat.le_of_ble_eq_true rfl) ?_
  show J (GM true (QQ (some (vi (b2i q))) μ) (some (.boolean)) y_Im_holds.name) true b_Im_holds R_2 3 (1) 0 0 0 [(0, vr 7 (a1)), (1, vi (a2))] [] μ
  refine J_iconst (q := 1) (v := (0 : Int32)) d_Im_holds_0 (by decide) rfl ?_
  refine J_istore_n (q := 2) (lv' := [(2, vi ((0 : Int32))), (0, vr 7 (a1)), (1, vi (a2))]) d_Im_holds_1 rfl (by decide) rfl rfl ?_
  refine J_pick [1, 2, 0] rfl ?_
  exact tl_Im_holds_2 a1 a2 μ FU _ h
def m_Fo_image (a1 : Int32) (a2 : Int32) (a3 : Int32) (a4 : Int32) (μ : Mem) : Option (Int32 × Mem) :=
  if (m_Fo_isDots (a3) μ) then
 (if (m_Fo_within ((a4).toInt64) ((0 : Int64)) ((1 : Int64)) μ) then
 (Option.bind (m_Fo_letterOf (a1) μ) fun r1 =>
  ap (gR μ 11 (0) 4) fun o2 =>
  Option.bind o2 fun y3 =>
  Option.bind (m_Fl_fill (r1) (a2) (y3) μ) fun r4 =>
  ap (r4.2) fun μ5 =>
  if r4.1 then
 (ap (gR μ5 11 (0) 4) fun o6 =>
  Option.bind o6 fun y7 =>
  Option.bind (m_Im_holds (y7) (a3) μ5) fun r8 =>
  if r8 then
 (ap (m_Fo_takeSparePolygons  μ5) fun r9 =>
  ap (gR r9 11 (0) 3) fun o10 =>
  Option.bind o10 fun y11 =>
  Option.bind (m_Im_draw (y11) (a3) (a4) r9) fun r12 =>
  some ((gI r12 2 (0) 4, r12)))
 else
 (some (((-1 : Int32), μ5))))
 else
 (some (((-1 : Int32), μ5))))
 else
 (some (((-1 : Int32), μ))))
 else
 (some (((-1 : Int32), μ)))
theorem t_Fo_image {a1 : Int32} {a2 : Int32} {a3 : Int32} {a4 : Int32} {μ : Mem} {q : Int32 × Mem} (h : m_Fo_image a1 a2 a3 a4 μ = some q) : JM true (47) y_Fo_image b_Fo_image 5 (some (.int)) 0 0 [vr 11 (0), vi (a1), vi (a2), vi (a3), vi (a4)] μ (QQ (some (vi q.1)) q.2) := by
  unfold m_Fo_image at h
  refine JM.of pl_Fo_image (fun ρ => Nat.le_of_ble_eq_true rfl) ?_
  show J (GM true (QQ (some (vi q.1)) q.2) (some (.int)) y_Fo_image.name) true b_Fo_image R_11 5 (47) 0 0 0 [(0, vr 11 (0)), (1, vi (a1)), (2, vi (a2)), (3, vi (a3)), (4, vi (a4))] [] μ
  refine J_iload_n (q := 1) 3 d_Fo_image_0 rfl rfl rfl ?_
  refine J_callSq (rc := 0) (rs := 0) (q := 4) (as := [vi (a3)]) (st := []) g_736 (t_Fo_isDots rfl) (by decide) (by decide) g_735 g_737 g_1 hy_Fo_isDots rfl (Nat.le_of_ble_eq_true rfl) d_Fo_image_1 rfl ?_
  refine J_ifB_eq (q := 7) (tgt := 18) d_Fo_image_4 (by decide) rfl (fun hb => ?_) (fun hb => ?_)
  · rw [iB_f hb] at h
    refine J_iconst (q := 19) (v := (-1 : Int32)) d_Fo_image_18 (by decide) rfl ?_
    obtain rfl := Option.some.inj h
    exact J_iret rfl ⟨rfl, rfl⟩ d_Fo_image_19
  · rw [iB_t hb] at h
    refine J_iload (q := 9) 4 d_Fo_image_7 rfl rfl ?_
    refine J_i2l (q := 10) d_Fo_image_9 rfl ?_
    refine J_lconst (q := 11) (v := (0 : Int64)) d_Fo_image_10 (by decide) rfl ?_
    refine J_lconst (q := 12) (v := (1 : Int64)) d_Fo_image_11 (by decide) rfl ?_
    refine J_callSq (rc := 0) (rs := 0) (q := 15) (as := [vl ((a4).toInt64), vl ((0 : Int64)), vl ((1 : Int64))]) (st := []) g_300 (t_Fo_within rfl) (by decide) (by decide) g_299 g_301 g_1 hy_Fo_within rfl (Nat.le_of_ble_eq_true rfl) d_Fo_image_12 rfl ?_
    refine J_ifB_ne (q := 18) (tgt := 20) d_Fo_image_15 (by decide) rfl (fun hb => ?_) (fun hb => ?_)
    · rw [iB_t hb] at h
      refine J_aload_n (q := 21) 0 d_Fo_image_20 rfl rfl rfl ?_
      refine J_getF (q := 24) cd_11 (by decide) ft_11_2 rfl g_256 rfl d_Fo_image_21 rfl ?_
      refine J_aload_n (q := 25) 0 d_Fo_image_24 rfl rfl rfl ?_
      refine J_iload_n (q := 26) 1 d_Fo_image_25 rfl rfl rfl ?_
      obtain ⟨r1, hr1, h⟩ := bd_some h
      refine J_callVq (rc := 0) (rs := 0) (q := 29) (as := [vi (a1)]) (st := [vr 1 (0)]) (by decide) rfl g_436 sel_Fo_letterOf (t_Fo_letterOf hr1) (by decide) (by decide) g_434 g_437 g_1 hy_Fo_letterOf rfl (Nat.le_of_ble_eq_true rfl) d_Fo_image_26 rfl ?_
      refine J_iload_n (q := 30) 2 d_Fo_image_29 rfl rfl rfl ?_
      refine J_aload_n (q := 31) 0 d_Fo_image_30 rfl rfl rfl ?_
      refine J_getR (q := 34) cd_11 (by decide) ft_11_4 g_258 rfl d_Fo_image_31 rfl ?_
      obtain ⟨o2, ho2, h⟩ := ap_eq h
      refine J_nmO ho2 ?_
      replace h := bd_some h
      obtain ⟨y3, hy3, h⟩ := h
      subst hy3
      obtain ⟨r4, hr4, h⟩ := bd_some h
      refine J_callVq (rc := 0) (rs := 0) (q := 37) (as := [vo 4 (r1), vi (a2), vr 7 (y3)]) (st := []) (by decide) rfl g_601 g_602 (t_Fl_fill hr4) (by decide) (by decide) g_600 g_603 g_2 hy_Fl_fill rfl (Nat.le_of_ble_eq_true rfl) d_Fo_image_34 rfl ?_
      obtain ⟨μ5, hμ5, h⟩ := ap_eq h
      refine J_nmM hμ5 ?_
      refine J_ifB_eq (q := 40) (tgt := 51) d_Fo_image_37 (by decide) rfl (fun hb => ?_) (fun hb => ?_)
      · rw [iB_f hb] at h
        refine J_iconst (q := 52) (v := (-1 : Int32)) d_Fo_image_51 (by decide) rfl ?_
        obtain rfl := Option.some.inj h
        exact J_iret rfl ⟨rfl, rfl⟩ d_Fo_image_52
      · rw [iB_t hb] at h
        refine J_aload_n (q := 41) 0 d_Fo_image_40 rfl rfl rfl ?_
        refine J_getR (q := 44) cd_11 (by decide) ft_11_4 g_258 rfl d_Fo_image_41 rfl ?_
        obtain ⟨o6, ho6, h⟩ := ap_eq h
        refine J_nmO ho6 ?_
        refine J_iload_n (q := 45) 3 d_Fo_image_44 rfl rfl rfl ?_
        replace h := bd_some h
        obtain ⟨y7, hy7, h⟩ := h
        subst hy7
        obtain ⟨r8, hr8, h⟩ := bd_some h
        refine J_callSq (rc := 0) (rs := 0) (q := 48) (as := [vr 7 (y7), vi (a3)]) (st := []) g_741 (t_Im_holds hr8) (by decide) (by decide) g_740 g_742 g_4 hy_Im_holds rfl (Nat.le_of_ble_eq_true rfl) d_Fo_image_45 rfl ?_
        refine J_ifB_ne (q := 51) (tgt := 53) d_Fo_image_48 (by decide) rfl (fun hb => ?_) (fun hb => ?_)
        · rw [iB_t hb] at h
          refine J_aload_n (q := 54) 0 d_Fo_image_53 rfl rfl rfl ?_
          obtain ⟨r9, hr9, h⟩ := ap_eq h
          refine J_callVv (rc := 0) (rs := 0) (q := 57) (as := []) (st := []) (by decide) rfl g_689 sel_Fo_takeSparePolygons (t_Fo_takeSparePolygons hr9.symm) (by decide) (by decide) g_687 g_690 g_1 hy_Fo_takeSparePolygons rfl (Nat.le_of_ble_eq_true rfl) d_Fo_image_54 rfl ?_
          refine J_aload_n (q := 58) 0 d_Fo_image_57 rfl rfl rfl ?_
          refine J_getF (q := 61) cd_11 (by decide) ft_11_5 rfl g_259 rfl d_Fo_image_58 rfl ?_
          refine J_aload_n (q := 62) 0 d_Fo_image_61 rfl rfl rfl ?_
          refine J_getR (q := 65) cd_11 (by decide) ft_11_3 g_257 rfl d_Fo_image_62 rfl ?_
          obtain ⟨o10, ho10, h⟩ := ap_eq h
          refine J_nmO ho10 ?_
          refine J_iload_n (q := 66) 3 d_Fo_image_65 rfl rfl rfl ?_
          refine J_iload (q := 68) 4 d_Fo_image_66 rfl rfl ?_
          replace h := bd_some h
          obtain ⟨y11, hy11, h⟩ := h
          subst hy11
          obtain ⟨r12, hr12, h⟩ := bd_some h
          refine J_callVv (rc := 0) (rs := 0) (q := 71) (as := [vr 7 (y11), vi (a3), vi (a4)]) (st := []) (by decide) rfl g_748 g_749 (t_Im_draw hr12) (by decide) (by decide) g_747 g_750 g_4 hy_Im_draw rfl (Nat.le_of_ble_eq_true rfl) d_Fo_image_68 rfl ?_
          refine J_aload_n (q := 72) 0 d_Fo_image_71 rfl rfl rfl ?_
          refine J_getF (q := 75) cd_11 (by decide) ft_11_5 rfl g_259 rfl d_Fo_image_72 rfl ?_
          refine J_getI (q := 78) (j := 4) cd_2 (by decide) (Or.inl rfl) g_113 rfl d_Fo_image_75 rfl ?_
          obtain rfl := Option.some.inj h
          exact J_iret rfl ⟨rfl, rfl⟩ d_Fo_image_78
        · rw [iB_f hb] at h
          refine J_iconst (q := 52) (v := (-1 : Int32)) d_Fo_image_51 (by decide) rfl ?_
          obtain rfl := Option.some.inj h
          exact J_iret rfl ⟨rfl, rfl⟩ d_Fo_image_52
    · rw [iB_f hb] at h
      refine J_iconst (q := 19) (v := (-1 : Int32)) d_Fo_image_18 (by decide) rfl ?_
      obtain rfl := Option.some.inj h
      exact J_iret rfl ⟨rfl, rfl⟩ d_Fo_image_19
