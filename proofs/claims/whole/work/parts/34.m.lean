def m_Mo_sign (a1 : Int32) (μ : Mem) : Option (Int32 × Mem) :=
  if (m_Mo_isCode (a1) μ) then
 (if gI μ 12 (0) 66 = (60 : Int32) then
 (some (((-1 : Int32), μ)))
 else
 (gu (gI μ 12 (0) 66) 60 <|
  ap (sI μ 407 (0) (gI μ 12 (0) 66).toNatClampNeg (a1)) fun μ2 =>
  ap (sI μ2 12 (0) 66 ((gI μ2 12 (0) 66) + ((1 : Int32)))) fun μ3 =>
  some ((gI μ3 12 (0) 66, μ3))))
 else
 (some (((-1 : Int32), μ)))
theorem t_Mo_sign {a1 : Int32} {μ : Mem} {q : Int32 × Mem} (h : m_Mo_sign a1 μ = some q) : JM true (1) y_Mo_sign b_Mo_sign 2 (some (.int)) 0 0 [vr 12 (0), vi (a1)] μ (QQ (some (vi q.1)) q.2) := by
  unfold m_Mo_sign at h
  refine JM.of pl_Mo_sign (fun ρ => Nat.le_of_ble_eq_true rfl) ?_
  show J (GM true (QQ (some (vi q.1)) q.2) (some (.int)) y_Mo_sign.name) true b_Mo_sign R_12 2 (1) 0 0 0 [(0, vr 12 (0)), (1, vi (a1))] [] μ
  refine J_iload_n (q := 1) 1 d_Mo_sign_0 rfl rfl rfl ?_
  refine J_callSq (rc := 0) (rs := 0) (q := 4) (as := [vi (a1)]) (st := []) g_1278 (t_Mo_isCode rfl) (by decide) (by decide) g_1277 g_1279 g_10 hy_Mo_isCode rfl (Nat.le_of_ble_eq_true rfl) d_Mo_sign_1 rfl ?_
  refine J_ifB_eq (q := 7) (tgt := 16) d_Mo_sign_4 (by decide) rfl (fun hb => ?_) (fun hb => ?_)
  · rw [iB_f hb] at h
    refine J_iconst (q := 17) (v := (-1 : Int32)) d_Mo_sign_16 (by decide) rfl ?_
    obtain rfl := Option.some.inj h
    exact J_iret rfl ⟨rfl, rfl⟩ d_Mo_sign_17
  · rw [iB_t hb] at h
    refine J_aload_n (q := 8) 0 d_Mo_sign_7 rfl rfl rfl ?_
    refine J_getI (q := 11) (j := 66) cd_12 (by decide) (Or.inl rfl) g_1117 rfl d_Mo_sign_8 rfl ?_
    refine J_bipush (q := 13) (v := (60 : Int32)) d_Mo_sign_11 (by decide) rfl ?_
    refine J_icmp_ne (q := 16) (tgt := 18) d_Mo_sign_13 (by decide) rfl (fun hc => ?_) (fun hc => ?_)
    · rw [if_neg hc] at h
      refine J_aload_n (q := 19) 0 d_Mo_sign_18 rfl rfl rfl ?_
      refine J_getF (q := 22) cd_12 (by decide) ft_12_67 rfl g_1118 rfl d_Mo_sign_19 rfl ?_
      refine J_aload_n (q := 23) 0 d_Mo_sign_22 rfl rfl rfl ?_
      refine J_getI (q := 26) (j := 66) cd_12 (by decide) (Or.inl rfl) g_1117 rfl d_Mo_sign_23 rfl ?_
      refine J_iload_n (q := 27) 1 d_Mo_sign_26 rfl rfl rfl ?_
      obtain ⟨hi1, h⟩ := gu_some h
      refine J_iast (q := 28) rk_407 (by decide) hi1 d_Mo_sign_27 rfl ?_
      obtain ⟨μ2, hμ2, h⟩ := ap_eq h
      refine J_nmM hμ2 ?_
      refine J_aload_n (q := 29) 0 d_Mo_sign_28 rfl rfl rfl ?_
      refine J_dupR (q := 30) d_Mo_sign_29 rfl ?_
      refine J_getI (q := 33) (j := 66) cd_12 (by decide) (Or.inl rfl) g_1117 rfl d_Mo_sign_30 rfl ?_
      refine J_iconst (q := 34) (v := (1 : Int32)) d_Mo_sign_33 (by decide) rfl ?_
      refine J_iadd (q := 35) d_Mo_sign_34 rfl ?_
      refine J_putI (q := 38) (j := 66) cd_12 (by decide) rfl rfl rfl g_1117 rfl d_Mo_sign_35 rfl ?_
      obtain ⟨μ3, hμ3, h⟩ := ap_eq h
      refine J_nmM hμ3 ?_
      refine J_aload_n (q := 39) 0 d_Mo_sign_38 rfl rfl rfl ?_
      refine J_getI (q := 42) (j := 66) cd_12 (by decide) (Or.inl rfl) g_1117 rfl d_Mo_sign_39 rfl ?_
      obtain rfl := Option.some.inj h
      exact J_iret rfl ⟨rfl, rfl⟩ d_Mo_sign_42
    · rw [if_pos hc] at h
      refine J_iconst (q := 17) (v := (-1 : Int32)) d_Mo_sign_16 (by decide) rfl ?_
      obtain rfl := Option.some.inj h
      exact J_iret rfl ⟨rfl, rfl⟩ d_Mo_sign_17
def mj_Mo_letterOf_35 (a1 : Int32) (μ : Mem) (c_4 : Int32 → Int32 → Option (Int32)) (y2 : Int32) (y3 : Int32) : Option (Int32) :=
  ap (y3 + (1 : Int32)) fun x3 =>
  c_4 (y2) (x3)
theorem tj_Mo_letterOf_35 (a1 : Int32) (μ : Mem) {q : Int32} {c_4 : Int32 → Int32 → Option (Int32)} (hc_4 : ∀ (y2 : Int32) (y3 : Int32), c_4 y2 y3 = some q → J (GM true (QQ (some (vi q)) μ) (some (.int)) y_Mo_letterOf.name) true b_Mo_letterOf R_12 4 (0) 0 0 4 [(0, vr 12 (0)), (1, vi (a1)), (2, vi (y2)), (3, vi (y3))] [] μ) (y2 : Int32) (y3 : Int32) (h : mj_Mo_letterOf_35 a1 μ c_4 y2 y3 = some q) : J (GM true (QQ (some (vi q)) μ) (some (.int)) y_Mo_letterOf.name) true b_Mo_letterOf R_12 4 (0) 0 0 35 [(0, vr 12 (0)), (1, vi (a1)), (2, vi (y2)), (3, vi (y3))] [] μ := by
  unfold mj_Mo_letterOf_35 at h
  obtain ⟨x3, hx3, h⟩ := ap_eq h
  refine J_iinc (q := 38) (v := x3) (lv' := [(3, vi (x3)), (0, vr 12 (0)), (1, vi (a1)), (2, vi (y2))]) 3 d_Mo_letterOf_35 rfl (by rw [hx3]; rfl) (by decide) rfl rfl ?_
  refine J_goto (q := 4) d_Mo_letterOf_38 (by decide) ?_
  refine J_pick [1, 2, 3, 0] rfl ?_
  exact hc_4 _ _ h
def lp_Mo_letterOf_4 (a1 : Int32) (μ : Mem) : Nat → Int32 → Int32 → Option (Int32)
  | 0, _, _ => none
  | n + 1, y2, y3 =>
  if gI μ 12 (0) 0 ≤ y3 then
 (some (y2))
 else
 (gu (y3) 32 <|
  if gI μ 341 (0) y3.toNatClampNeg = a1 then
 (some (y3))
 else
 (gu (y3) 32 <|
  if gI μ 341 (0) y3.toNatClampNeg = 0 then
 (mj_Mo_letterOf_35 a1 μ (lp_Mo_letterOf_4 a1 μ n) (y3) (y3))
 else
 (mj_Mo_letterOf_35 a1 μ (lp_Mo_letterOf_4 a1 μ n) (y2) (y3))))
theorem tl_Mo_letterOf_4 (a1 : Int32) (μ : Mem) {q : Int32}  : ∀ (n : Nat) (y2 : Int32) (y3 : Int32), lp_Mo_letterOf_4 a1 μ n y2 y3 = some q → J (GM true (QQ (some (vi q)) μ) (some (.int)) y_Mo_letterOf.name) true b_Mo_letterOf R_12 4 (0) 0 0 4 [(0, vr 12 (0)), (1, vi (a1)), (2, vi (y2)), (3, vi (y3))] [] μ := by
  intro n
  induction n with
  | zero => intro _ _ h; cases h
  | succ n ih =>
    intro y2 y3 h
    unfold lp_Mo_letterOf_4 at h
    refine J_iload_n (q := 5) 3 d_Mo_letterOf_4 rfl rfl rfl ?_
    refine J_aload_n (q := 6) 0 d_Mo_letterOf_5 rfl rfl rfl ?_
    refine J_getI (q := 9) (j := 0) cd_12 (by decide) (Or.inl rfl) g_1051 rfl d_Mo_letterOf_6 rfl ?_
    refine J_icmp_ge (q := 12) (tgt := 41) d_Mo_letterOf_9 (by decide) rfl (fun hc => ?_) (fun hc => ?_)
    · rw [if_pos hc] at h
      refine J_iload_n (q := 42) 2 d_Mo_letterOf_41 rfl rfl rfl ?_
      obtain rfl := Option.some.inj h
      exact J_iret rfl ⟨rfl, rfl⟩ d_Mo_letterOf_42
    · rw [if_neg hc] at h
      refine J_aload_n (q := 13) 0 d_Mo_letterOf_12 rfl rfl rfl ?_
      refine J_getF (q := 16) cd_12 (by decide) ft_12_1 rfl g_1052 rfl d_Mo_letterOf_13 rfl ?_
      refine J_iload_n (q := 17) 3 d_Mo_letterOf_16 rfl rfl rfl ?_
      obtain ⟨hi4, h⟩ := gu_some h
      refine J_iald (q := 18) rk_341 (by decide) hi4 d_Mo_letterOf_17 rfl ?_
      refine J_iload_n (q := 19) 1 d_Mo_letterOf_18 rfl rfl rfl ?_
      refine J_icmp_ne (q := 22) (tgt := 24) d_Mo_letterOf_19 (by decide) rfl (fun hc => ?_) (fun hc => ?_)
      · rw [if_neg hc] at h
        refine J_aload_n (q := 25) 0 d_Mo_letterOf_24 rfl rfl rfl ?_
        refine J_getF (q := 28) cd_12 (by decide) ft_12_1 rfl g_1052 rfl d_Mo_letterOf_25 rfl ?_
        refine J_iload_n (q := 29) 3 d_Mo_letterOf_28 rfl rfl rfl ?_
        obtain ⟨hi5, h⟩ := gu_some h
        refine J_iald (q := 30) rk_341 (by decide) hi5 d_Mo_letterOf_29 rfl ?_
        refine J_if_ne (q := 33) (tgt := 35) d_Mo_letterOf_30 (by decide) rfl (fun hc => ?_) (fun hc => ?_)
        · rw [if_neg hc] at h
          refine J_pick [0, 1, 2, 3] rfl ?_
          exact tj_Mo_letterOf_35 a1 μ ih _ _ h
        · rw [if_pos hc] at h
          refine J_iload_n (q := 34) 3 d_Mo_letterOf_33 rfl rfl rfl ?_
          refine J_istore_n (q := 35) (lv' := [(2, vi (y3)), (0, vr 12 (0)), (1, vi (a1)), (3, vi (y3))]) d_Mo_letterOf_34 rfl (by decide) rfl rfl ?_
          refine J_pick [1, 2, 0, 3] rfl ?_
          exact tj_Mo_letterOf_35 a1 μ ih _ _ h
      · rw [if_pos hc] at h
        refine J_iload_n (q := 23) 3 d_Mo_letterOf_22 rfl rfl rfl ?_
        obtain rfl := Option.some.inj h
        exact J_iret rfl ⟨rfl, rfl⟩ d_Mo_letterOf_23
def m_Mo_letterOf (a1 : Int32) (μ : Mem) : Option (Int32) :=
  lp_Mo_letterOf_4 a1 μ FU ((-1 : Int32)) ((0 : Int32))
theorem t_Mo_letterOf {a1 : Int32} {μ : Mem} {q : Int32} (h : m_Mo_letterOf a1 μ = some q) : JM true (0) y_Mo_letterOf b_Mo_letterOf 4 (some (.int)) 0 0 [vr 12 (0), vi (a1)] μ (QQ (some (vi q)) μ) := by
  unfold m_Mo_letterOf at h
  refine JM.of pl_Mo_letterOf (fun ρ => Nat.le_of_ble_eq_true rfl) ?_
  show J (GM true (QQ (some (vi q)) μ) (some (.int)) y_Mo_letterOf.name) true b_Mo_letterOf R_12 4 (0) 0 0 0 [(0, vr 12 (0)), (1, vi (a1))] [] μ
  refine J_iconst (q := 1) (v := (-1 : Int32)) d_Mo_letterOf_0 (by decide) rfl ?_
  refine J_istore_n (q := 2) (lv' := [(2, vi ((-1 : Int32))), (0, vr 12 (0)), (1, vi (a1))]) d_Mo_letterOf_1 rfl (by decide) rfl rfl ?_
  refine J_iconst (q := 3) (v := (0 : Int32)) d_Mo_letterOf_2 (by decide) rfl ?_
  refine J_istore_n (q := 4) (lv' := [(3, vi ((0 : Int32))), (2, vi ((-1 : Int32))), (0, vr 12 (0)), (1, vi (a1))]) d_Mo_letterOf_3 rfl (by decide) rfl rfl ?_
  refine J_pick [2, 3, 1, 0] rfl ?_
  exact tl_Mo_letterOf_4 a1 μ FU _ _ h
def m_Mo_manyOf (a1 : Int32) (μ : Mem) : Option (Int32) :=
  gu (((4 : Int32) * a1) + ((2 : Int32))) 160 <|
  if gI μ 405 (0) (((4 : Int32) * a1) + ((2 : Int32))).toNatClampNeg = (-1 : Int32) then
 (some ((2 : Int32)))
 else
 (some ((3 : Int32)))
theorem t_Mo_manyOf {a1 : Int32} {μ : Mem} {q : Int32} (h : m_Mo_manyOf a1 μ = some q) : JM true (0) y_Mo_manyOf b_Mo_manyOf 2 (some (.int)) 0 0 [vr 12 (0), vi (a1)] μ (QQ (some (vi q)) μ) := by
  unfold m_Mo_manyOf at h
  refine JM.of pl_Mo_manyOf (fun ρ => Nat.le_of_ble_eq_true rfl) ?_
  show J (GM true (QQ (some (vi q)) μ) (some (.int)) y_Mo_manyOf.name) true b_Mo_manyOf R_12 2 (0) 0 0 0 [(0, vr 12 (0)), (1, vi (a1))] [] μ
  refine J_aload_n (q := 1) 0 d_Mo_manyOf_0 rfl rfl rfl ?_
  refine J_getF (q := 4) cd_12 (by decide) ft_12_65 rfl g_1116 rfl d_Mo_manyOf_1 rfl ?_
  refine J_iconst (q := 5) (v := (4 : Int32)) d_Mo_manyOf_4 (by decide) rfl ?_
  refine J_iload_n (q := 6) 1 d_Mo_manyOf_5 rfl rfl rfl ?_
  refine J_imul (q := 7) d_Mo_manyOf_6 rfl ?_
  refine J_iconst (q := 8) (v := (2 : Int32)) d_Mo_manyOf_7 (by decide) rfl ?_
  refine J_iadd (q := 9) d_Mo_manyOf_8 rfl ?_
  obtain ⟨hi1, h⟩ := gu_some h
  refine J_iald (q := 10) rk_405 (by decide) hi1 d_Mo_manyOf_9 rfl ?_
  refine J_iconst (q := 11) (v := (-1 : Int32)) d_Mo_manyOf_10 (by decide) rfl ?_
  refine J_icmp_ne (q := 14) (tgt := 18) d_Mo_manyOf_11 (by decide) rfl (fun hc => ?_) (fun hc => ?_)
  · rw [if_neg hc] at h
    refine J_iconst (q := 19) (v := (3 : Int32)) d_Mo_manyOf_18 (by decide) rfl ?_
    obtain rfl := Option.some.inj h
    exact J_iret rfl ⟨rfl, rfl⟩ d_Mo_manyOf_19
  · rw [if_pos hc] at h
    refine J_iconst (q := 15) (v := (2 : Int32)) d_Mo_manyOf_14 (by decide) rfl ?_
    refine J_goto (q := 19) d_Mo_manyOf_15 (by decide) ?_
    obtain rfl := Option.some.inj h
    exact J_iret rfl ⟨rfl, rfl⟩ d_Mo_manyOf_19
def mj_Mo_ruleAt_95 (a1 : Int32) (μ : Mem) (c_55 : Int32 → Int32 → Int32 → Int32 → Int32 → Option (Int32)) (y2 : Int32) (y3 : Int32) (y4 : Int32) (y6 : Int32) (z0 : Int32) : Option (Int32) :=
  ap (y6 + (1 : Int32)) fun x4 =>
  c_55 (y2) (y3) (y4) (z0) (x4)
theorem tj_Mo_ruleAt_95 (a1 : Int32) (μ : Mem) {q : Int32} {c_55 : Int32 → Int32 → Int32 → Int32 → Int32 → Option (Int32)} (hc_55 : ∀ (y2 : Int32) (y3 : Int32) (y4 : Int32) (y5 : Int32) (y6 : Int32), c_55 y2 y3 y4 y5 y6 = some q → J (GM true (QQ (some (vi q)) μ) (some (.int)) y_Mo_ruleAt.name) true b_Mo_ruleAt R_12 7 (1) 0 0 55 [(0, vr 12 (0)), (1, vi (a1)), (2, vi (y2)), (3, vi (y3)), (4, vi (y4)), (5, vi (y5)), (6, vi (y6))] [] μ) (y2 : Int32) (y3 : Int32) (y4 : Int32) (y6 : Int32) (z0 : Int32) (h : mj_Mo_ruleAt_95 a1 μ c_55 y2 y3 y4 y6 z0 = some q) : J (GM true (QQ (some (vi q)) μ) (some (.int)) y_Mo_ruleAt.name) true b_Mo_ruleAt R_12 7 (1) 0 0 95 [(0, vr 12 (0)), (1, vi (a1)), (2, vi (y2)), (3, vi (y3)), (4, vi (y4)), (6, vi (y6))] [vi (z0)] μ := by
  unfold mj_Mo_ruleAt_95 at h
  refine J_istore (q := 97) (lv' := [(5, vi (z0)), (0, vr 12 (0)), (1, vi (a1)), (2, vi (y2)), (3, vi (y3)), (4, vi (y4)), (6, vi (y6))]) d_Mo_ruleAt_95 (by decide) rfl rfl ?_
  obtain ⟨x4, hx4, h⟩ := ap_eq h
  refine J_iinc (q := 100) (v := x4) (lv' := [(6, vi (x4)), (5, vi (z0)), (0, vr 12 (0)), (1, vi (a1)), (2, vi (y2)), (3, vi (y3)), (4, vi (y4))]) 6 d_Mo_ruleAt_97 rfl (by rw [hx4]; rfl) (by decide) rfl rfl ?_
  refine J_goto (q := 55) d_Mo_ruleAt_100 (by decide) ?_
  refine J_pick [2, 3, 4, 5, 6, 1, 0] rfl ?_
  exact hc_55 _ _ _ _ _ h
def lp_Mo_ruleAt_55 (a1 : Int32) (μ : Mem) (c_103 : Int32 → Int32 → Int32 → Option (Int32)) : Nat → Int32 → Int32 → Int32 → Int32 → Int32 → Option (Int32)
  | 0, _, _, _, _, _ => none
  | n + 1, y2, y3, y4, y5, y6 =>
  if y4 ≤ y6 then
 (c_103 (y2) (y3) (y5))
 else
 (if y5 = 0 then
 (c_103 (y2) (y3) (y5))
 else
 (gu (((4 : Int32) * y3) + (y6)) 160 <|
  gu (a1 + y6) 60 <|
  if gI μ 405 (0) (((4 : Int32) * y3) + (y6)).toNatClampNeg = gI μ 407 (0) (a1 + y6).toNatClampNeg then
 (mj_Mo_ruleAt_95 a1 μ (lp_Mo_ruleAt_55 a1 μ c_103 n) (y2) (y3) (y4) (y6) ((1 : Int32)))
 else
 (mj_Mo_ruleAt_95 a1 μ (lp_Mo_ruleAt_55 a1 μ c_103 n) (y2) (y3) (y4) (y6) ((0 : Int32)))))
theorem tl_Mo_ruleAt_55 (a1 : Int32) (μ : Mem) {q : Int32} {c_103 : Int32 → Int32 → Int32 → Option (Int32)} (hc_103 : ∀ (y2 : Int32) (y3 : Int32) (y5 : Int32), c_103 y2 y3 y5 = some q → J (GM true (QQ (some (vi q)) μ) (some (.int)) y_Mo_ruleAt.name) true b_Mo_ruleAt R_12 7 (1) 0 0 103 [(0, vr 12 (0)), (1, vi (a1)), (2, vi (y2)), (3, vi (y3)), (5, vi (y5))] [] μ) : ∀ (n : Nat) (y2 : Int32) (y3 : Int32) (y4 : Int32) (y5 : Int32) (y6 : Int32), lp_Mo_ruleAt_55 a1 μ c_103 n y2 y3 y4 y5 y6 = some q → J (GM true (QQ (some (vi q)) μ) (some (.int)) y_Mo_ruleAt.name) true b_Mo_ruleAt R_12 7 (1) 0 0 55 [(0, vr 12 (0)), (1, vi (a1)), (2, vi (y2)), (3, vi (y3)), (4, vi (y4)), (5, vi (y5)), (6, vi (y6))] [] μ := by
  intro n
  induction n with
  | zero => intro _ _ _ _ _ h; cases h
  | succ n ih =>
    intro y2 y3 y4 y5 y6 h
    unfold lp_Mo_ruleAt_55 at h
    refine J_iload (q := 57) 6 d_Mo_ruleAt_55 rfl rfl ?_
    refine J_iload (q := 59) 4 d_Mo_ruleAt_57 rfl rfl ?_
    refine J_icmp_ge (q := 62) (tgt := 103) d_Mo_ruleAt_59 (by decide) rfl (fun hc => ?_) (fun hc => ?_)
    · rw [if_pos hc] at h
      refine J_pick [0, 1, 2, 3, 5] rfl ?_
      exact hc_103 _ _ _ h
    · rw [if_neg hc] at h
      refine J_iload (q := 64) 5 d_Mo_ruleAt_62 rfl rfl ?_
      refine J_if_eq (q := 67) (tgt := 103) d_Mo_ruleAt_64 (by decide) rfl (fun hc => ?_) (fun hc => ?_)
      · rw [if_pos hc] at h
        refine J_pick [0, 1, 2, 3, 5] rfl ?_
        exact hc_103 _ _ _ h
      · rw [if_neg hc] at h
        refine J_aload_n (q := 68) 0 d_Mo_ruleAt_67 rfl rfl rfl ?_
        refine J_getF (q := 71) cd_12 (by decide) ft_12_65 rfl g_1116 rfl d_Mo_ruleAt_68 rfl ?_
        refine J_iconst (q := 72) (v := (4 : Int32)) d_Mo_ruleAt_71 (by decide) rfl ?_
        refine J_iload_n (q := 73) 3 d_Mo_ruleAt_72 rfl rfl rfl ?_
        refine J_imul (q := 74) d_Mo_ruleAt_73 rfl ?_
        refine J_iload (q := 76) 6 d_Mo_ruleAt_74 rfl rfl ?_
        refine J_iadd (q := 77) d_Mo_ruleAt_76 rfl ?_
        obtain ⟨hi5, h⟩ := gu_some h
        refine J_iald (q := 78) rk_405 (by decide) hi5 d_Mo_ruleAt_77 rfl ?_
        refine J_aload_n (q := 79) 0 d_Mo_ruleAt_78 rfl rfl rfl ?_
        refine J_getF (q := 82) cd_12 (by decide) ft_12_67 rfl g_1118 rfl d_Mo_ruleAt_79 rfl ?_
        refine J_iload_n (q := 83) 1 d_Mo_ruleAt_82 rfl rfl rfl ?_
        refine J_iload (q := 85) 6 d_Mo_ruleAt_83 rfl rfl ?_
        refine J_iadd (q := 86) d_Mo_ruleAt_85 rfl ?_
        obtain ⟨hi6, h⟩ := gu_some h
        refine J_iald (q := 87) rk_407 (by decide) hi6 d_Mo_ruleAt_86 rfl ?_
        refine J_icmp_ne (q := 90) (tgt := 94) d_Mo_ruleAt_87 (by decide) rfl (fun hc => ?_) (fun hc => ?_)
        · rw [if_neg hc] at h
          refine J_iconst (q := 95) (v := (0 : Int32)) d_Mo_ruleAt_94 (by decide) rfl ?_
          refine J_pick [0, 1, 2, 3, 4, 6] rfl ?_
          exact tj_Mo_ruleAt_95 a1 μ ih _ _ _ _ _ h
        · rw [if_pos hc] at h
          refine J_iconst (q := 91) (v := (1 : Int32)) d_Mo_ruleAt_90 (by decide) rfl ?_
          refine J_goto (q := 95) d_Mo_ruleAt_91 (by decide) ?_
          refine J_pick [0, 1, 2, 3, 4, 6] rfl ?_
          exact tj_Mo_ruleAt_95 a1 μ ih _ _ _ _ _ h
def mj_Mo_ruleAt_110 (a1 : Int32) (μ : Mem) (c_4 : Int32 → Int32 → Option (Int32)) (y2 : Int32) (y3 : Int32) : Option (Int32) :=
  ap (y3 + (1 : Int32)) fun x7 =>
  c_4 (y2) (x7)
theorem tj_Mo_ruleAt_110 (a1 : Int32) (μ : Mem) {q : Int32} {c_4 : Int32 → Int32 → Option (Int32)} (hc_4 : ∀ (y2 : Int32) (y3 : Int32), c_4 y2 y3 = some q → J (GM true (QQ (some (vi q)) μ) (some (.int)) y_Mo_ruleAt.name) true b_Mo_ruleAt R_12 7 (1) 0 0 4 [(0, vr 12 (0)), (1, vi (a1)), (2, vi (y2)), (3, vi (y3))] [] μ) (y2 : Int32) (y3 : Int32) (h : mj_Mo_ruleAt_110 a1 μ c_4 y2 y3 = some q) : J (GM true (QQ (some (vi q)) μ) (some (.int)) y_Mo_ruleAt.name) true b_Mo_ruleAt R_12 7 (1) 0 0 110 [(0, vr 12 (0)), (1, vi (a1)), (2, vi (y2)), (3, vi (y3))] [] μ := by
  unfold mj_Mo_ruleAt_110 at h
  obtain ⟨x7, hx7, h⟩ := ap_eq h
  refine J_iinc (q := 113) (v := x7) (lv' := [(3, vi (x7)), (0, vr 12 (0)), (1, vi (a1)), (2, vi (y2))]) 3 d_Mo_ruleAt_110 rfl (by rw [hx7]; rfl) (by decide) rfl rfl ?_
  refine J_goto (q := 4) d_Mo_ruleAt_113 (by decide) ?_
  refine J_pick [1, 2, 3, 0] rfl ?_
  exact hc_4 _ _ h
def mj_Mo_ruleAt_103 (a1 : Int32) (μ : Mem) (c_4 : Int32 → Int32 → Option (Int32)) (y2 : Int32) (y3 : Int32) (y5 : Int32) : Option (Int32) :=
  if y5 = 0 then
 (mj_Mo_ruleAt_110 a1 μ c_4 (y2) (y3))
 else
 (mj_Mo_ruleAt_110 a1 μ c_4 (y3) (y3))
theorem tj_Mo_ruleAt_103 (a1 : Int32) (μ : Mem) {q : Int32} {c_4 : Int32 → Int32 → Option (Int32)} (hc_4 : ∀ (y2 : Int32) (y3 : Int32), c_4 y2 y3 = some q → J (GM true (QQ (some (vi q)) μ) (some (.int)) y_Mo_ruleAt.name) true b_Mo_ruleAt R_12 7 (1) 0 0 4 [(0, vr 12 (0)), (1, vi (a1)), (2, vi (y2)), (3, vi (y3))] [] μ) (y2 : Int32) (y3 : Int32) (y5 : Int32) (h : mj_Mo_ruleAt_103 a1 μ c_4 y2 y3 y5 = some q) : J (GM true (QQ (some (vi q)) μ) (some (.int)) y_Mo_ruleAt.name) true b_Mo_ruleAt R_12 7 (1) 0 0 103 [(0, vr 12 (0)), (1, vi (a1)), (2, vi (y2)), (3, vi (y3)), (5, vi (y5))] [] μ := by
  unfold mj_Mo_ruleAt_103 at h
  refine J_iload (q := 105) 4 d_Mo_ruleAt_103 rfl rfl ?_
  refine J_if_eq (q := 108) (tgt := 110) d_Mo_ruleAt_105 (by decide) rfl (fun hc => ?_) (fun hc => ?_)
  · rw [if_pos hc] at h
    refine J_pick [0, 1, 2, 3] rfl ?_
    exact tj_Mo_ruleAt_110 a1 μ hc_4 _ _ h
  · rw [if_neg hc] at h
    refine J_iload_n (q := 109) 3 d_Mo_ruleAt_108 rfl rfl rfl ?_
    refine J_istore_n (q := 110) (lv' := [(2, vi (y3)), (0, vr 12 (0)), (1, vi (a1)), (3, vi (y3)), (5, vi (y5))]) d_Mo_ruleAt_109 rfl (by decide) rfl rfl ?_
    refine J_pick [1, 2, 0, 3] rfl ?_
    exact tj_Mo_ruleAt_110 a1 μ hc_4 _ _ h
def mj_Mo_ruleAt_50 (a1 : Int32) (μ : Mem) (c_4 : Int32 → Int32 → Option (Int32)) (y2 : Int32) (y3 : Int32) (y4 : Int32) (z0 : Int32) : Option (Int32) :=
  lp_Mo_ruleAt_55 a1 μ (mj_Mo_ruleAt_103 a1 μ c_4) FU (y2) (y3) (y4) (z0) ((0 : Int32))
theorem tj_Mo_ruleAt_50 (a1 : Int32) (μ : Mem) {q : Int32} {c_4 : Int32 → Int32 → Option (Int32)} (hc_4 : ∀ (y2 : Int32) (y3 : Int32), c_4 y2 y3 = some q → J (GM true (QQ (some (vi q)) μ) (some (.int)) y_Mo_ruleAt.name) true b_Mo_ruleAt R_12 7 (1) 0 0 4 [(0, vr 12 (0)), (1, vi (a1)), (2, vi (y2)), (3, vi (y3))] [] μ) (y2 : Int32) (y3 : Int32) (y4 : Int32) (z0 : Int32) (h : mj_Mo_ruleAt_50 a1 μ c_4 y2 y3 y4 z0 = some q) : J (GM true (QQ (some (vi q)) μ) (some (.int)) y_Mo_ruleAt.name) true b_Mo_ruleAt R_12 7 (1) 0 0 50 [(0, vr 12 (0)), (1, vi (a1)), (2, vi (y2)), (3, vi (y3)), (4, vi (y4))] [vi (z0)] μ := by
  unfold mj_Mo_ruleAt_50 at h
  refine J_istore (q := 52) (lv' := [(5, vi (z0)), (0, vr 12 (0)), (1, vi (a1)), (2, vi (y2)), (3, vi (y3)), (4, vi (y4))]) d_Mo_ruleAt_50 (by decide) rfl rfl ?_
  refine J_iconst (q := 53) (v := (0 : Int32)) d_Mo_ruleAt_52 (by decide) rfl ?_
  refine J_istore (q := 55) (lv' := [(6, vi ((0 : Int32))), (5, vi (z0)), (0, vr 12 (0)), (1, vi (a1)), (2, vi (y2)), (3, vi (y3)), (4, vi (y4))]) d_Mo_ruleAt_53 (by decide) rfl rfl ?_
  refine J_pick [2, 3, 4, 5, 6, 1, 0] rfl ?_
  exact tl_Mo_ruleAt_55 a1 μ (fun _ _ _ h => tj_Mo_ruleAt_103 a1 μ hc_4 _ _ _ h) FU _ _ _ _ _ h
def mj_Mo_ruleAt_49 (a1 : Int32) (μ : Mem) (c_4 : Int32 → Int32 → Option (Int32)) (y2 : Int32) (y3 : Int32) (y4 : Int32) : Option (Int32) :=
  mj_Mo_ruleAt_50 a1 μ c_4 (y2) (y3) (y4) ((0 : Int32))
theorem tj_Mo_ruleAt_49 (a1 : Int32) (μ : Mem) {q : Int32} {c_4 : Int32 → Int32 → Option (Int32)} (hc_4 : ∀ (y2 : Int32) (y3 : Int32), c_4 y2 y3 = some q → J (GM true (QQ (some (vi q)) μ) (some (.int)) y_Mo_ruleAt.name) true b_Mo_ruleAt R_12 7 (1) 0 0 4 [(0, vr 12 (0)), (1, vi (a1)), (2, vi (y2)), (3, vi (y3))] [] μ) (y2 : Int32) (y3 : Int32) (y4 : Int32) (h : mj_Mo_ruleAt_49 a1 μ c_4 y2 y3 y4 = some q) : J (GM true (QQ (some (vi q)) μ) (some (.int)) y_Mo_ruleAt.name) true b_Mo_ruleAt R_12 7 (1) 0 0 49 [(0, vr 12 (0)), (1, vi (a1)), (2, vi (y2)), (3, vi (y3)), (4, vi (y4))] [] μ := by
  unfold mj_Mo_ruleAt_49 at h
  refine J_iconst (q := 50) (v := (0 : Int32)) d_Mo_ruleAt_49 (by decide) rfl ?_
  refine J_pick [0, 1, 2, 3, 4] rfl ?_
  exact tj_Mo_ruleAt_50 a1 μ hc_4 _ _ _ _ h
def mj_Mo_ruleAt_45 (a1 : Int32) (μ : Mem) (c_4 : Int32 → Int32 → Option (Int32)) (y2 : Int32) (y3 : Int32) (y4 : Int32) : Option (Int32) :=
  mj_Mo_ruleAt_50 a1 μ c_4 (y2) (y3) (y4) ((1 : Int32))
theorem tj_Mo_ruleAt_45 (a1 : Int32) (μ : Mem) {q : Int32} {c_4 : Int32 → Int32 → Option (Int32)} (hc_4 : ∀ (y2 : Int32) (y3 : Int32), c_4 y2 y3 = some q → J (GM true (QQ (some (vi q)) μ) (some (.int)) y_Mo_ruleAt.name) true b_Mo_ruleAt R_12 7 (1) 0 0 4 [(0, vr 12 (0)), (1, vi (a1)), (2, vi (y2)), (3, vi (y3))] [] μ) (y2 : Int32) (y3 : Int32) (y4 : Int32) (h : mj_Mo_ruleAt_45 a1 μ c_4 y2 y3 y4 = some q) : J (GM true (QQ (some (vi q)) μ) (some (.int)) y_Mo_ruleAt.name) true b_Mo_ruleAt R_12 7 (1) 0 0 45 [(0, vr 12 (0)), (1, vi (a1)), (2, vi (y2)), (3, vi (y3)), (4, vi (y4))] [] μ := by
  unfold mj_Mo_ruleAt_45 at h
  refine J_iconst (q := 46) (v := (1 : Int32)) d_Mo_ruleAt_45 (by decide) rfl ?_
  refine J_goto (q := 50) d_Mo_ruleAt_46 (by decide) ?_
  refine J_pick [0, 1, 2, 3, 4] rfl ?_
  exact tj_Mo_ruleAt_50 a1 μ hc_4 _ _ _ _ h
def lp_Mo_ruleAt_4 (a1 : Int32) (μ : Mem) : Nat → Int32 → Int32 → Option (Int32)
  | 0, _, _ => none
  | n + 1, y2, y3 =>
  if gI μ 12 (0) 64 ≤ y3 then
 (some (y2))
 else
 (Option.bind (m_Mo_manyOf (y3) μ) fun r9 =>
  if gI μ 12 (0) 66 < a1 + r9 then
 (mj_Mo_ruleAt_49 a1 μ (lp_Mo_ruleAt_4 a1 μ n) (y2) (y3) (r9))
 else
 (if y2 = (-1 : Int32) then
 (mj_Mo_ruleAt_45 a1 μ (lp_Mo_ruleAt_4 a1 μ n) (y2) (y3) (r9))
 else
 (Option.bind (m_Mo_manyOf (y2) μ) fun r10 =>
  if r9 ≤ r10 then
 (mj_Mo_ruleAt_49 a1 μ (lp_Mo_ruleAt_4 a1 μ n) (y2) (y3) (r9))
 else
 (mj_Mo_ruleAt_45 a1 μ (lp_Mo_ruleAt_4 a1 μ n) (y2) (y3) (r9)))))
theorem tl_Mo_ruleAt_4 (a1 : Int32) (μ : Mem) {q : Int32}  : ∀ (n : Nat) (y2 : Int32) (y3 : Int32), lp_Mo_ruleAt_4 a1 μ n y2 y3 = some q → J (GM true (QQ (some (vi q)) μ) (some (.int)) y_Mo_ruleAt.name) true b_Mo_ruleAt R_12 7 (1) 0 0 4 [(0, vr 12 (0)), (1, vi (a1)), (2, vi (y2)), (3, vi (y3))] [] μ := by
  intro n
  induction n with
  | zero => intro _ _ h; cases h
  | succ n ih =>
    intro y2 y3 h
    unfold lp_Mo_ruleAt_4 at h
    refine J_iload_n (q := 5) 3 d_Mo_ruleAt_4 rfl rfl rfl ?_
    refine J_aload_n (q := 6) 0 d_Mo_ruleAt_5 rfl rfl rfl ?_
    refine J_getI (q := 9) (j := 64) cd_12 (by decide) (Or.inl rfl) g_1115 rfl d_Mo_ruleAt_6 rfl ?_
    refine J_icmp_ge (q := 12) (tgt := 116) d_Mo_ruleAt_9 (by decide) rfl (fun hc => ?_) (fun hc => ?_)
    · rw [if_pos hc] at h
      refine J_iload_n (q := 117) 2 d_Mo_ruleAt_116 rfl rfl rfl ?_
      obtain rfl := Option.some.inj h
      exact J_iret rfl ⟨rfl, rfl⟩ d_Mo_ruleAt_117
    · rw [if_neg hc] at h
      refine J_aload_n (q := 13) 0 d_Mo_ruleAt_12 rfl rfl rfl ?_
      refine J_iload_n (q := 14) 3 d_Mo_ruleAt_13 rfl rfl rfl ?_
      obtain ⟨r9, hr9, h⟩ := bd_some h
      refine J_callVq (rc := 0) (rs := 0) (q := 17) (as := [vi (y3)]) (st := []) (by decide) rfl g_1570 sel_Mo_manyOf (t_Mo_manyOf hr9) (by decide) (by decide) g_1568 g_1571 g_10 hy_Mo_manyOf rfl (Nat.le_of_ble_eq_true rfl) d_Mo_ruleAt_14 rfl ?_
      refine J_istore (q := 19) (lv' := [(4, vi (r9)), (0, vr 12 (0)), (1, vi (a1)), (2, vi (y2)), (3, vi (y3))]) d_Mo_ruleAt_17 (by decide) rfl rfl ?_
      refine J_iload_n (q := 20) 2 d_Mo_ruleAt_19 rfl rfl rfl ?_
      refine J_iload (q := 22) 0 d_Mo_ruleAt_20 rfl rfl ?_
      refine J_iadd (q := 23) d_Mo_ruleAt_22 rfl ?_
      refine J_aload_n (q := 24) 1 d_Mo_ruleAt_23 rfl rfl rfl ?_
      refine J_getI (q := 27) (j := 66) cd_12 (by decide) (Or.inl rfl) g_1117 rfl d_Mo_ruleAt_24 rfl ?_
      refine J_icmp_gt (q := 30) (tgt := 49) d_Mo_ruleAt_27 (by decide) rfl (fun hc => ?_) (fun hc => ?_)
      · rw [if_pos hc] at h
        refine J_pick [1, 2, 3, 4, 0] rfl ?_
        exact tj_Mo_ruleAt_49 a1 μ ih _ _ _ h
      · rw [if_neg hc] at h
        refine J_iload_n (q := 31) 3 d_Mo_ruleAt_30 rfl rfl rfl ?_
        refine J_iconst (q := 32) (v := (-1 : Int32)) d_Mo_ruleAt_31 (by decide) rfl ?_
        refine J_icmp_eq (q := 35) (tgt := 45) d_Mo_ruleAt_32 (by decide) rfl (fun hc => ?_) (fun hc => ?_)
        · rw [if_pos hc] at h
          refine J_pick [1, 2, 3, 4, 0] rfl ?_
          exact tj_Mo_ruleAt_45 a1 μ ih _ _ _ h
        · rw [if_neg hc] at h
          refine J_iload (q := 37) 0 d_Mo_ruleAt_35 rfl rfl ?_
          refine J_aload_n (q := 38) 1 d_Mo_ruleAt_37 rfl rfl rfl ?_
          refine J_iload_n (q := 39) 3 d_Mo_ruleAt_38 rfl rfl rfl ?_
          obtain ⟨r10, hr10, h⟩ := bd_some h
          refine J_callVq (rc := 0) (rs := 0) (q := 42) (as := [vi (y2)]) (st := [vi (r9)]) (by decide) rfl g_1570 sel_Mo_manyOf (t_Mo_manyOf hr10) (by decide) (by decide) g_1568 g_1571 g_10 hy_Mo_manyOf rfl (Nat.le_of_ble_eq_true rfl) d_Mo_ruleAt_39 rfl ?_
          refine J_icmp_le (q := 45) (tgt := 49) d_Mo_ruleAt_42 (by decide) rfl (fun hc => ?_) (fun hc => ?_)
          · rw [if_pos hc] at h
            refine J_pick [1, 2, 3, 4, 0] rfl ?_
            exact tj_Mo_ruleAt_49 a1 μ ih _ _ _ h
          · rw [if_neg hc] at h
            refine J_pick [1, 2, 3, 4, 0] rfl ?_
            exact tj_Mo_ruleAt_45 a1 μ ih _ _ _ h
def m_Mo_ruleAt (a1 : Int32) (μ : Mem) : Option (Int32) :=
  lp_Mo_ruleAt_4 a1 μ FU ((-1 : Int32)) ((0 : Int32))
theorem t_Mo_ruleAt {a1 : Int32} {μ : Mem} {q : Int32} (h : m_Mo_ruleAt a1 μ = some q) : JM true (1) y_Mo_ruleAt b_Mo_ruleAt 7 (some (.int)) 0 0 [vr 12 (0), vi (a1)] μ (QQ (some (vi q)) μ) := by
  unfold m_Mo_ruleAt at h
  refine JM.of pl_Mo_ruleAt (fun ρ => Nat.le_of_ble_eq_true rfl) ?_
  show J (GM true (QQ (some (vi q)) μ) (some (.int)) y_Mo_ruleAt.name) true b_Mo_ruleAt R_12 7 (1) 0 0 0 [(0, vr 12 (0)), (1, vi (a1))] [] μ
  refine J_iconst (q := 1) (v := (-1 : Int32)) d_Mo_ruleAt_0 (by decide) rfl ?_
  refine J_istore_n (q := 2) (lv' := [(2, vi ((-1 : Int32))), (0, vr 12 (0)), (1, vi (a1))]) d_Mo_ruleAt_1 rfl (by decide) rfl rfl ?_
  refine J_iconst (q := 3) (v := (0 : Int32)) d_Mo_ruleAt_2 (by decide) rfl ?_
  refine J_istore_n (q := 4) (lv' := [(3, vi ((0 : Int32))), (2, vi ((-1 : Int32))), (0, vr 12 (0)), (1, vi (a1))]) d_Mo_ruleAt_3 rfl (by decide) rfl rfl ?_
  refine J_pick [2, 3, 1, 0] rfl ?_
  exact tl_Mo_ruleAt_4 a1 μ FU _ _ h
def mj_Mo_set_163 (c_7 : Int32 → Mem → Option (Int32 × Mem)) (z0 : Int32) (z1 : Int32) (μ : Mem) : Option (Int32 × Mem) :=
  ap (z1 + z0) fun x6 =>
  c_7 (x6) μ
theorem tj_Mo_set_163 {q : Int32 × Mem} {c_7 : Int32 → Mem → Option (Int32 × Mem)} (hc_7 : ∀ (y1 : Int32) (μ : Mem), c_7 y1 μ = some q → J (GM true (QQ (some (vi q.1)) q.2) (some (.int)) y_Mo_set.name) true b_Mo_set R_12 6 (2) 0 0 7 [(0, vr 12 (0)), (1, vi (y1))] [] μ) (z0 : Int32) (z1 : Int32) (μ : Mem) (h : mj_Mo_set_163 c_7 z0 z1 μ = some q) : J (GM true (QQ (some (vi q.1)) q.2) (some (.int)) y_Mo_set.name) true b_Mo_set R_12 6 (2) 0 0 163 [(0, vr 12 (0))] [vi (z0), vi (z1)] μ := by
  unfold mj_Mo_set_163 at h
  refine J_iadd (q := 164) d_Mo_set_163 rfl ?_
  obtain ⟨x6, hx6, h⟩ := ap_eq h
  refine J_nmI hx6 ?_
  refine J_istore_n (q := 165) (lv' := [(1, vi (x6)), (0, vr 12 (0))]) d_Mo_set_164 rfl (by decide) rfl rfl ?_
  refine J_goto (q := 7) d_Mo_set_165 (by decide) ?_
  refine J_pick [1, 0] rfl ?_
  exact hc_7 _ _ h
def mj_Mo_set_148 (c_7 : Int32 → Mem → Option (Int32 × Mem)) (y1 : Int32) (y2 : Int32) (μ : Mem) : Option (Int32 × Mem) :=
  if y2 = (-1 : Int32) then
 (mj_Mo_set_163 c_7 ((1 : Int32)) (y1) μ)
 else
 (Option.bind (m_Mo_manyOf (y2) μ) fun r5 =>
  mj_Mo_set_163 c_7 (r5) (y1) μ)
theorem tj_Mo_set_148 {q : Int32 × Mem} {c_7 : Int32 → Mem → Option (Int32 × Mem)} (hc_7 : ∀ (y1 : Int32) (μ : Mem), c_7 y1 μ = some q → J (GM true (QQ (some (vi q.1)) q.2) (some (.int)) y_Mo_set.name) true b_Mo_set R_12 6 (2) 0 0 7 [(0, vr 12 (0)), (1, vi (y1))] [] μ) (y1 : Int32) (y2 : Int32) (μ : Mem) (h : mj_Mo_set_148 c_7 y1 y2 μ = some q) : J (GM true (QQ (some (vi q.1)) q.2) (some (.int)) y_Mo_set.name) true b_Mo_set R_12 6 (2) 0 0 148 [(0, vr 12 (0)), (1, vi (y1)), (2, vi (y2))] [] μ := by
  unfold mj_Mo_set_148 at h
  refine J_iload_n (q := 149) 1 d_Mo_set_148 rfl rfl rfl ?_
  refine J_iload_n (q := 150) 2 d_Mo_set_149 rfl rfl rfl ?_
  refine J_iconst (q := 151) (v := (-1 : Int32)) d_Mo_set_150 (by decide) rfl ?_
  refine J_icmp_ne (q := 154) (tgt := 158) d_Mo_set_151 (by decide) rfl (fun hc => ?_) (fun hc => ?_)
  · rw [if_neg hc] at h
    refine J_aload_n (q := 159) 0 d_Mo_set_158 rfl rfl rfl ?_
    refine J_iload_n (q := 160) 2 d_Mo_set_159 rfl rfl rfl ?_
    obtain ⟨r5, hr5, h⟩ := bd_some h
    refine J_callVq (rc := 0) (rs := 0) (q := 163) (as := [vi (y2)]) (st := [vi (y1)]) (by decide) rfl g_1570 sel_Mo_manyOf (t_Mo_manyOf hr5) (by decide) (by decide) g_1568 g_1571 g_10 hy_Mo_manyOf rfl (Nat.le_of_ble_eq_true rfl) d_Mo_set_160 rfl ?_
    refine J_pick [0] rfl ?_
    exact tj_Mo_set_163 hc_7 _ _ _ h
  · rw [if_pos hc] at h
    refine J_iconst (q := 155) (v := (1 : Int32)) d_Mo_set_154 (by decide) rfl ?_
    refine J_goto (q := 163) d_Mo_set_155 (by decide) ?_
    refine J_pick [0] rfl ?_
    exact tj_Mo_set_163 hc_7 _ _ _ h
def mj_Mo_set_129 (c_7 : Int32 → Mem → Option (Int32 × Mem)) (y1 : Int32) (y2 : Int32) (y4 : Int32) (z0 : Int32) (z1 : Int32) (μ : Mem) : Option (Int32 × Mem) :=
  gu (z1) 60 <|
  ap (sI μ 410 (0) z1.toNatClampNeg (z0)) fun μ15 =>
  gu (y4) 60 <|
  ap (sI μ15 411 (0) y4.toNatClampNeg (y1)) fun μ17 =>
  ap (sI μ17 12 (0) 68 ((gI μ17 12 (0) 68) + ((1 : Int32)))) fun μ18 =>
  mj_Mo_set_148 c_7 (y1) (y2) μ18
theorem tj_Mo_set_129 {q : Int32 × Mem} {c_7 : Int32 → Mem → Option (Int32 × Mem)} (hc_7 : ∀ (y1 : Int32) (μ : Mem), c_7 y1 μ = some q → J (GM true (QQ (some (vi q.1)) q.2) (some (.int)) y_Mo_set.name) true b_Mo_set R_12 6 (2) 0 0 7 [(0, vr 12 (0)), (1, vi (y1))] [] μ) (y1 : Int32) (y2 : Int32) (y4 : Int32) (z0 : Int32) (z1 : Int32) (μ : Mem) (h : mj_Mo_set_129 c_7 y1 y2 y4 z0 z1 μ = some q) : J (GM true (QQ (some (vi q.1)) q.2) (some (.int)) y_Mo_set.name) true b_Mo_set R_12 6 (2) 0 0 129 [(0, vr 12 (0)), (1, vi (y1)), (2, vi (y2)), (4, vi (y4))] [vi (z0), vi (z1), vr 410 (0)] μ := by
  unfold mj_Mo_set_129 at h
  obtain ⟨hi14, h⟩ := gu_some h
  refine J_iast (q := 130) rk_410 (by decide) hi14 d_Mo_set_129 rfl ?_
  obtain ⟨μ15, hμ15, h⟩ := ap_eq h
  refine J_nmM hμ15 ?_
  refine J_aload_n (q := 131) 0 d_Mo_set_130 rfl rfl rfl ?_
  refine J_getF (q := 134) cd_12 (by decide) ft_12_71 rfl g_1122 rfl d_Mo_set_131 rfl ?_
  refine J_iload (q := 136) 3 d_Mo_set_134 rfl rfl ?_
  refine J_iload_n (q := 137) 1 d_Mo_set_136 rfl rfl rfl ?_
  obtain ⟨hi16, h⟩ := gu_some h
  refine J_iast (q := 138) rk_411 (by decide) hi16 d_Mo_set_137 rfl ?_
  obtain ⟨μ17, hμ17, h⟩ := ap_eq h
  refine J_nmM hμ17 ?_
  refine J_aload_n (q := 139) 0 d_Mo_set_138 rfl rfl rfl ?_
  refine J_dupR (q := 140) d_Mo_set_139 rfl ?_
  refine J_getI (q := 143) (j := 68) cd_12 (by decide) (Or.inl rfl) g_1119 rfl d_Mo_set_140 rfl ?_
  refine J_iconst (q := 144) (v := (1 : Int32)) d_Mo_set_143 (by decide) rfl ?_
  refine J_iadd (q := 145) d_Mo_set_144 rfl ?_
  refine J_putI (q := 148) (j := 68) cd_12 (by decide) rfl rfl rfl g_1119 rfl d_Mo_set_145 rfl ?_
  obtain ⟨μ18, hμ18, h⟩ := ap_eq h
  refine J_nmM hμ18 ?_
  refine J_pick [0, 1, 2] rfl ?_
  exact tj_Mo_set_148 hc_7 _ _ _ h
def mj_Mo_set_79 (c_7 : Int32 → Mem → Option (Int32 × Mem)) (y1 : Int32) (y2 : Int32) (y3 : Int32) (y4 : Int32) (z0 : Int32) (μ : Mem) : Option (Int32 × Mem) :=
  gu (y4) 60 <|
  ap (sI μ 409 (0) y4.toNatClampNeg (y3)) fun μ10 =>
  if y4 = 0 then
 (mj_Mo_set_129 c_7 (y1) (y2) (y4) ((0 : Int32)) (y4) μ10)
 else
 (gu (y4 - (1 : Int32)) 60 <|
  gu (z0) 32 <|
  Option.bind (m_Mo_kerning (z0) (y3) μ10) fun r13 =>
  mj_Mo_set_129 c_7 (y1) (y2) (y4) (((gI μ10 410 (0) (y4 - (1 : Int32)).toNatClampNeg) + (gI μ10 342 (0) z0.toNatClampNeg)) + (r13)) (y4) μ10)
theorem tj_Mo_set_79 {q : Int32 × Mem} {c_7 : Int32 → Mem → Option (Int32 × Mem)} (hc_7 : ∀ (y1 : Int32) (μ : Mem), c_7 y1 μ = some q → J (GM true (QQ (some (vi q.1)) q.2) (some (.int)) y_Mo_set.name) true b_Mo_set R_12 6 (2) 0 0 7 [(0, vr 12 (0)), (1, vi (y1))] [] μ) (y1 : Int32) (y2 : Int32) (y3 : Int32) (y4 : Int32) (z0 : Int32) (μ : Mem) (h : mj_Mo_set_79 c_7 y1 y2 y3 y4 z0 μ = some q) : J (GM true (QQ (some (vi q.1)) q.2) (some (.int)) y_Mo_set.name) true b_Mo_set R_12 6 (2) 0 0 79 [(0, vr 12 (0)), (1, vi (y1)), (2, vi (y2)), (3, vi (y3)), (4, vi (y4))] [vi (z0)] μ := by
  unfold mj_Mo_set_79 at h
  refine J_istore (q := 81) (lv' := [(5, vi (z0)), (0, vr 12 (0)), (1, vi (y1)), (2, vi (y2)), (3, vi (y3)), (4, vi (y4))]) d_Mo_set_79 (by decide) rfl rfl ?_
  refine J_aload_n (q := 82) 1 d_Mo_set_81 rfl rfl rfl ?_
  refine J_getF (q := 85) cd_12 (by decide) ft_12_69 rfl g_1120 rfl d_Mo_set_82 rfl ?_
  refine J_iload (q := 87) 5 d_Mo_set_85 rfl rfl ?_
  refine J_iload_n (q := 88) 4 d_Mo_set_87 rfl rfl rfl ?_
  obtain ⟨hi9, h⟩ := gu_some h
  refine J_iast (q := 89) rk_409 (by decide) hi9 d_Mo_set_88 rfl ?_
  obtain ⟨μ10, hμ10, h⟩ := ap_eq h
  refine J_nmM hμ10 ?_
  refine J_aload_n (q := 90) 1 d_Mo_set_89 rfl rfl rfl ?_
  refine J_getF (q := 93) cd_12 (by decide) ft_12_70 rfl g_1121 rfl d_Mo_set_90 rfl ?_
  refine J_iload (q := 95) 5 d_Mo_set_93 rfl rfl ?_
  refine J_iload (q := 97) 5 d_Mo_set_95 rfl rfl ?_
  refine J_if_ne (q := 100) (tgt := 104) d_Mo_set_97 (by decide) rfl (fun hc => ?_) (fun hc => ?_)
  · rw [if_neg hc] at h
    refine J_aload_n (q := 105) 1 d_Mo_set_104 rfl rfl rfl ?_
    refine J_getF (q := 108) cd_12 (by decide) ft_12_70 rfl g_1121 rfl d_Mo_set_105 rfl ?_
    refine J_iload (q := 110) 5 d_Mo_set_108 rfl rfl ?_
    refine J_iconst (q := 111) (v := (1 : Int32)) d_Mo_set_110 (by decide) rfl ?_
    refine J_isub (q := 112) d_Mo_set_111 rfl ?_
    obtain ⟨hi11, h⟩ := gu_some h
    refine J_iald (q := 113) rk_410 (by decide) hi11 d_Mo_set_112 rfl ?_
    refine J_aload_n (q := 114) 1 d_Mo_set_113 rfl rfl rfl ?_
    refine J_getF (q := 117) cd_12 (by decide) ft_12_2 rfl g_1053 rfl d_Mo_set_114 rfl ?_
    refine J_iload (q := 119) 0 d_Mo_set_117 rfl rfl ?_
    obtain ⟨hi12, h⟩ := gu_some h
    refine J_iald (q := 120) rk_342 (by decide) hi12 d_Mo_set_119 rfl ?_
    refine J_iadd (q := 121) d_Mo_set_120 rfl ?_
    refine J_aload_n (q := 122) 1 d_Mo_set_121 rfl rfl rfl ?_
    refine J_iload (q := 124) 0 d_Mo_set_122 rfl rfl ?_
    refine J_iload_n (q := 125) 4 d_Mo_set_124 rfl rfl rfl ?_
    obtain ⟨r13, hr13, h⟩ := bd_some h
    refine J_callVq (rc := 0) (rs := 0) (q := 128) (as := [vi (z0), vi (y3)]) (st := [vi ((gI μ10 410 (0) (y4 - (1 : Int32)).toNatClampNeg) + (gI μ10 342 (0) z0.toNatClampNeg)), vi (y4), vr 410 (0)]) (by decide) rfl g_1549 g_1550 (t_Mo_kerning hr13) (by decide) (by decide) g_1576 g_1551 g_10 hy_Mo_kerning rfl (Nat.le_of_ble_eq_true rfl) d_Mo_set_125 rfl ?_
    refine J_iadd (q := 129) d_Mo_set_128 rfl ?_
    refine J_pick [1, 2, 3, 5] rfl ?_
    exact tj_Mo_set_129 hc_7 _ _ _ _ _ _ h
  · rw [if_pos hc] at h
    refine J_iconst (q := 101) (v := (0 : Int32)) d_Mo_set_100 (by decide) rfl ?_
    refine J_goto (q := 129) d_Mo_set_101 (by decide) ?_
    refine J_pick [1, 2, 3, 5] rfl ?_
    exact tj_Mo_set_129 hc_7 _ _ _ _ _ _ h
def mj_Mo_set_46 (c_7 : Int32 → Mem → Option (Int32 × Mem)) (y1 : Int32) (y2 : Int32) (z0 : Int32) (μ : Mem) : Option (Int32 × Mem) :=
  Option.bind (m_Mo_letterOf (z0) μ) fun r4 =>
  if r4 = (-1 : Int32) then
 (mj_Mo_set_148 c_7 (y1) (y2) μ)
 else
 (ap (gI μ 12 (0) 68) fun x7 =>
  if x7 = 0 then
 (mj_Mo_set_79 c_7 (y1) (y2) (r4) (x7) ((-1 : Int32)) μ)
 else
 (gu (x7 - (1 : Int32)) 60 <|
  mj_Mo_set_79 c_7 (y1) (y2) (r4) (x7) (gI μ 409 (0) (x7 - (1 : Int32)).toNatClampNeg) μ))
theorem tj_Mo_set_46 {q : Int32 × Mem} {c_7 : Int32 → Mem → Option (Int32 × Mem)} (hc_7 : ∀ (y1 : Int32) (μ : Mem), c_7 y1 μ = some q → J (GM true (QQ (some (vi q.1)) q.2) (some (.int)) y_Mo_set.name) true b_Mo_set R_12 6 (2) 0 0 7 [(0, vr 12 (0)), (1, vi (y1))] [] μ) (y1 : Int32) (y2 : Int32) (z0 : Int32) (μ : Mem) (h : mj_Mo_set_46 c_7 y1 y2 z0 μ = some q) : J (GM true (QQ (some (vi q.1)) q.2) (some (.int)) y_Mo_set.name) true b_Mo_set R_12 6 (2) 0 0 46 [(0, vr 12 (0)), (1, vi (y1)), (2, vi (y2))] [vi (z0), vr 12 (0)] μ := by
  unfold mj_Mo_set_46 at h
  obtain ⟨r4, hr4, h⟩ := bd_some h
  refine J_callVq (rc := 0) (rs := 0) (q := 49) (as := [vi (z0)]) (st := []) (by decide) rfl g_1574 sel_Mo_letterOf (t_Mo_letterOf hr4) (by decide) (by decide) g_1572 g_1575 g_10 hy_Mo_letterOf rfl (Nat.le_of_ble_eq_true rfl) d_Mo_set_46 rfl ?_
  refine J_istore_n (q := 50) (lv' := [(3, vi (r4)), (0, vr 12 (0)), (1, vi (y1)), (2, vi (y2))]) d_Mo_set_49 rfl (by decide) rfl rfl ?_
  refine J_iload_n (q := 51) 0 d_Mo_set_50 rfl rfl rfl ?_
  refine J_iconst (q := 52) (v := (-1 : Int32)) d_Mo_set_51 (by decide) rfl ?_
  refine J_icmp_eq (q := 55) (tgt := 148) d_Mo_set_52 (by decide) rfl (fun hc => ?_) (fun hc => ?_)
  · rw [if_pos hc] at h
    refine J_pick [1, 2, 3] rfl ?_
    exact tj_Mo_set_148 hc_7 _ _ _ h
  · rw [if_neg hc] at h
    refine J_aload_n (q := 56) 1 d_Mo_set_55 rfl rfl rfl ?_
    refine J_getI (q := 59) (j := 68) cd_12 (by decide) (Or.inl rfl) g_1119 rfl d_Mo_set_56 rfl ?_
    obtain ⟨x7, hx7, h⟩ := ap_eq h
    refine J_nmI hx7 ?_
    refine J_istore (q := 61) (lv' := [(4, vi (x7)), (3, vi (r4)), (0, vr 12 (0)), (1, vi (y1)), (2, vi (y2))]) d_Mo_set_59 (by decide) rfl rfl ?_
    refine J_iload (q := 63) 0 d_Mo_set_61 rfl rfl ?_
    refine J_if_ne (q := 66) (tgt := 70) d_Mo_set_63 (by decide) rfl (fun hc => ?_) (fun hc => ?_)
    · rw [if_neg hc] at h
      refine J_aload_n (q := 71) 2 d_Mo_set_70 rfl rfl rfl ?_
      refine J_getF (q := 74) cd_12 (by decide) ft_12_69 rfl g_1120 rfl d_Mo_set_71 rfl ?_
      refine J_iload (q := 76) 0 d_Mo_set_74 rfl rfl ?_
      refine J_iconst (q := 77) (v := (1 : Int32)) d_Mo_set_76 (by decide) rfl ?_
      refine J_isub (q := 78) d_Mo_set_77 rfl ?_
      obtain ⟨hi8, h⟩ := gu_some h
      refine J_iald (q := 79) rk_409 (by decide) hi8 d_Mo_set_78 rfl ?_
      refine J_pick [2, 3, 4, 1, 0] rfl ?_
      exact tj_Mo_set_79 hc_7 _ _ _ _ _ _ h
    · rw [if_pos hc] at h
      refine J_iconst (q := 67) (v := (-1 : Int32)) d_Mo_set_66 (by decide) rfl ?_
      refine J_goto (q := 79) d_Mo_set_67 (by decide) ?_
      refine J_pick [2, 3, 4, 1, 0] rfl ?_
      exact tj_Mo_set_79 hc_7 _ _ _ _ _ _ h
def lp_Mo_set_7 (c_168 : Mem → Option (Int32 × Mem)) : Nat → Int32 → Mem → Option (Int32 × Mem)
  | 0, _, _ => none
  | n + 1, y1, μ =>
  if gI μ 12 (0) 66 ≤ y1 then
 (c_168 μ)
 else
 (Option.bind (m_Mo_ruleAt (y1) μ) fun r20 =>
  if r20 = (-1 : Int32) then
 (gu (y1) 60 <|
  mj_Mo_set_46 (lp_Mo_set_7 c_168 n) (y1) (r20) (gI μ 407 (0) y1.toNatClampNeg) μ)
 else
 (gu (((4 : Int32) * r20) + ((3 : Int32))) 160 <|
  mj_Mo_set_46 (lp_Mo_set_7 c_168 n) (y1) (r20) (gI μ 405 (0) (((4 : Int32) * r20) + ((3 : Int32))).toNatClampNeg) μ))
theorem tl_Mo_set_7 {q : Int32 × Mem} {c_168 : Mem → Option (Int32 × Mem)} (hc_168 : ∀ (μ : Mem), c_168  μ = some q → J (GM true (QQ (some (vi q.1)) q.2) (some (.int)) y_Mo_set.name) true b_Mo_set R_12 6 (2) 0 0 168 [(0, vr 12 (0))] [] μ) : ∀ (n : Nat) (y1 : Int32) (μ : Mem), lp_Mo_set_7 c_168 n y1 μ = some q → J (GM true (QQ (some (vi q.1)) q.2) (some (.int)) y_Mo_set.name) true b_Mo_set R_12 6 (2) 0 0 7 [(0, vr 12 (0)), (1, vi (y1))] [] μ := by
  intro n
  induction n with
  | zero => intro _ _ h; cases h
  | succ n ih =>
    intro y1 μ h
    unfold lp_Mo_set_7 at h
    refine J_iload_n (q := 8) 1 d_Mo_set_7 rfl rfl rfl ?_
    refine J_aload_n (q := 9) 0 d_Mo_set_8 rfl rfl rfl ?_
    refine J_getI (q := 12) (j := 66) cd_12 (by decide) (Or.inl rfl) g_1117 rfl d_Mo_set_9 rfl ?_
    refine J_icmp_ge (q := 15) (tgt := 168) d_Mo_set_12 (by decide) rfl (fun hc => ?_) (fun hc => ?_)
    · rw [if_pos hc] at h
      refine J_pick [0] rfl ?_
      exact hc_168 _ h
    · rw [if_neg hc] at h
      refine J_aload_n (q := 16) 0 d_Mo_set_15 rfl rfl rfl ?_
      refine J_iload_n (q := 17) 1 d_Mo_set_16 rfl rfl rfl ?_
      obtain ⟨r20, hr20, h⟩ := bd_some h
      refine J_callVq (rc := 0) (rs := 0) (q := 20) (as := [vi (y1)]) (st := []) (by decide) rfl g_1566 sel_Mo_ruleAt (t_Mo_ruleAt hr20) (by decide) (by decide) g_1564 g_1567 g_10 hy_Mo_ruleAt rfl (Nat.le_of_ble_eq_true rfl) d_Mo_set_17 rfl ?_
      refine J_istore_n (q := 21) (lv' := [(2, vi (r20)), (0, vr 12 (0)), (1, vi (y1))]) d_Mo_set_20 rfl (by decide) rfl rfl ?_
      refine J_aload_n (q := 22) 1 d_Mo_set_21 rfl rfl rfl ?_
      refine J_iload_n (q := 23) 0 d_Mo_set_22 rfl rfl rfl ?_
      refine J_iconst (q := 24) (v := (-1 : Int32)) d_Mo_set_23 (by decide) rfl ?_
      refine J_icmp_ne (q := 27) (tgt := 36) d_Mo_set_24 (by decide) rfl (fun hc => ?_) (fun hc => ?_)
      · rw [if_neg hc] at h
        refine J_aload_n (q := 37) 1 d_Mo_set_36 rfl rfl rfl ?_
        refine J_getF (q := 40) cd_12 (by decide) ft_12_65 rfl g_1116 rfl d_Mo_set_37 rfl ?_
        refine J_iconst (q := 41) (v := (4 : Int32)) d_Mo_set_40 (by decide) rfl ?_
        refine J_iload_n (q := 42) 0 d_Mo_set_41 rfl rfl rfl ?_
        refine J_imul (q := 43) d_Mo_set_42 rfl ?_
        refine J_iconst (q := 44) (v := (3 : Int32)) d_Mo_set_43 (by decide) rfl ?_
        refine J_iadd (q := 45) d_Mo_set_44 rfl ?_
        obtain ⟨hi21, h⟩ := gu_some h
        refine J_iald (q := 46) rk_405 (by decide) hi21 d_Mo_set_45 rfl ?_
        refine J_pick [1, 2, 0] rfl ?_
        exact tj_Mo_set_46 ih _ _ _ _ h
      · rw [if_pos hc] at h
        refine J_aload_n (q := 28) 1 d_Mo_set_27 rfl rfl rfl ?_
        refine J_getF (q := 31) cd_12 (by decide) ft_12_67 rfl g_1118 rfl d_Mo_set_28 rfl ?_
        refine J_iload_n (q := 32) 2 d_Mo_set_31 rfl rfl rfl ?_
        obtain ⟨hi22, h⟩ := gu_some h
        refine J_iald (q := 33) rk_407 (by decide) hi22 d_Mo_set_32 rfl ?_
        refine J_goto (q := 46) d_Mo_set_33 (by decide) ?_
        refine J_pick [1, 2, 0] rfl ?_
        exact tj_Mo_set_46 ih _ _ _ _ h
def mj_Mo_set_168 (μ : Mem) : Option (Int32 × Mem) :=
  ap (sI μ 12 (0) 66 ((0 : Int32))) fun μ23 =>
  some ((gI μ23 12 (0) 68, μ23))
theorem tj_Mo_set_168 {q : Int32 × Mem}  (μ : Mem) (h : mj_Mo_set_168  μ = some q) : J (GM true (QQ (some (vi q.1)) q.2) (some (.int)) y_Mo_set.name) true b_Mo_set R_12 6 (2) 0 0 168 [(0, vr 12 (0))] [] μ := by
  unfold mj_Mo_set_168 at h
  refine J_aload_n (q := 169) 0 d_Mo_set_168 rfl rfl rfl ?_
  refine J_iconst (q := 170) (v := (0 : Int32)) d_Mo_set_169 (by decide) rfl ?_
  refine J_putI (q := 173) (j := 66) cd_12 (by decide) rfl rfl rfl g_1117 rfl d_Mo_set_170 rfl ?_
  obtain ⟨μ23, hμ23, h⟩ := ap_eq h
  refine J_nmM hμ23 ?_
  refine J_aload_n (q := 174) 0 d_Mo_set_173 rfl rfl rfl ?_
  refine J_getI (q := 177) (j := 68) cd_12 (by decide) (Or.inl rfl) g_1119 rfl d_Mo_set_174 rfl ?_
  obtain rfl := Option.some.inj h
  exact J_iret rfl ⟨rfl, rfl⟩ d_Mo_set_177
def m_Mo_set (μ : Mem) : Option (Int32 × Mem) :=
  ap (sI μ 12 (0) 68 ((0 : Int32))) fun μ1 =>
  lp_Mo_set_7 (mj_Mo_set_168) FU ((0 : Int32)) μ1
theorem t_Mo_set {μ : Mem} {q : Int32 × Mem} (h : m_Mo_set  μ = some q) : JM true (2) y_Mo_set b_Mo_set 6 (some (.int)) 0 0 [vr 12 (0)] μ (QQ (some (vi q.1)) q.2) := by
  unfold m_Mo_set at h
  refine JM.of pl_Mo_set (fun ρ => Nat.le_of_ble_eq_true rfl) ?_
  show J (GM true (QQ (some (vi q.1)) q.2) (some (.int)) y_Mo_set.name) true b_Mo_set R_12 6 (2) 0 0 0 [(0, vr 12 (0))] [] μ
  refine J_aload_n (q := 1) 0 d_Mo_set_0 rfl rfl rfl ?_
  refine J_iconst (q := 2) (v := (0 : Int32)) d_Mo_set_1 (by decide) rfl ?_
  refine J_putI (q := 5) (j := 68) cd_12 (by decide) rfl rfl rfl g_1119 rfl d_Mo_set_2 rfl ?_
  obtain ⟨μ1, hμ1, h⟩ := ap_eq h
  refine J_nmM hμ1 ?_
  refine J_iconst (q := 6) (v := (0 : Int32)) d_Mo_set_5 (by decide) rfl ?_
  refine J_istore_n (q := 7) (lv' := [(1, vi ((0 : Int32))), (0, vr 12 (0))]) d_Mo_set_6 rfl (by decide) rfl rfl ?_
  refine J_pick [1, 0] rfl ?_
  exact tl_Mo_set_7 (fun _ h => tj_Mo_set_168 _ h) FU _ _ h
def m_Mo_placed (a1 : Int32) (a2 : Int32) (μ : Mem) : Option (Int32) :=
  if a1 < 0 then
 (some ((-1000000 : Int32)))
 else
 (if a1 < gI μ 12 (0) 68 then
 (if a2 = 0 then
 (gu (a1) 60 <|
  some (gI μ 409 (0) a1.toNatClampNeg))
 else
 (if a2 = (1 : Int32) then
 (gu (a1) 60 <|
  some (gI μ 410 (0) a1.toNatClampNeg))
 else
 (if a2 = (2 : Int32) then
 (gu (a1) 60 <|
  some (gI μ 411 (0) a1.toNatClampNeg))
 else
 (some ((-1000000 : Int32))))))
 else
 (some ((-1000000 : Int32))))
theorem t_Mo_placed {a1 : Int32} {a2 : Int32} {μ : Mem} {q : Int32} (h : m_Mo_placed a1 a2 μ = some q) : JM true (0) y_Mo_placed b_Mo_placed 3 (some (.int)) 0 0 [vr 12 (0), vi (a1), vi (a2)] μ (QQ (some (vi q)) μ) := by
  unfold m_Mo_placed at h
  refine JM.of pl_Mo_placed (fun ρ => Nat.le_of_ble_eq_true rfl) ?_
  show J (GM true (QQ (some (vi q)) μ) (some (.int)) y_Mo_placed.name) true b_Mo_placed R_12 3 (0) 0 0 0 [(0, vr 12 (0)), (1, vi (a1)), (2, vi (a2))] [] μ
  refine J_iload_n (q := 1) 1 d_Mo_placed_0 rfl rfl rfl ?_
  refine J_if_lt (q := 4) (tgt := 12) d_Mo_placed_1 (by decide) rfl (fun hc => ?_) (fun hc => ?_)
  · rw [if_pos hc] at h
    refine J_ldcw (q := 15) d_Mo_placed_12 g_1404 rfl ?_
    obtain rfl := Option.some.inj h
    exact J_iret rfl ⟨rfl, rfl⟩ d_Mo_placed_15
  · rw [if_neg hc] at h
    refine J_iload_n (q := 5) 1 d_Mo_placed_4 rfl rfl rfl ?_
    refine J_aload_n (q := 6) 0 d_Mo_placed_5 rfl rfl rfl ?_
    refine J_getI (q := 9) (j := 68) cd_12 (by decide) (Or.inl rfl) g_1119 rfl d_Mo_placed_6 rfl ?_
    refine J_icmp_lt (q := 12) (tgt := 16) d_Mo_placed_9 (by decide) rfl (fun hc => ?_) (fun hc => ?_)
    · rw [if_pos hc] at h
      refine J_iload_n (q := 17) 2 d_Mo_placed_16 rfl rfl rfl ?_
      refine J_if_ne (q := 20) (tgt := 29) d_Mo_placed_17 (by decide) rfl (fun hc => ?_) (fun hc => ?_)
      · rw [if_neg hc] at h
        refine J_iload_n (q := 30) 2 d_Mo_placed_29 rfl rfl rfl ?_
        refine J_iconst (q := 31) (v := (1 : Int32)) d_Mo_placed_30 (by decide) rfl ?_
        refine J_icmp_ne (q := 34) (tgt := 43) d_Mo_placed_31 (by decide) rfl (fun hc => ?_) (fun hc => ?_)
        · rw [if_neg hc] at h
          refine J_iload_n (q := 44) 2 d_Mo_placed_43 rfl rfl rfl ?_
          refine J_iconst (q := 45) (v := (2 : Int32)) d_Mo_placed_44 (by decide) rfl ?_
          refine J_icmp_ne (q := 48) (tgt := 57) d_Mo_placed_45 (by decide) rfl (fun hc => ?_) (fun hc => ?_)
          · rw [if_neg hc] at h
            refine J_ldcw (q := 60) d_Mo_placed_57 g_1404 rfl ?_
            obtain rfl := Option.some.inj h
            exact J_iret rfl ⟨rfl, rfl⟩ d_Mo_placed_60
          · rw [if_pos hc] at h
            refine J_aload_n (q := 49) 0 d_Mo_placed_48 rfl rfl rfl ?_
            refine J_getF (q := 52) cd_12 (by decide) ft_12_71 rfl g_1122 rfl d_Mo_placed_49 rfl ?_
            refine J_iload_n (q := 53) 1 d_Mo_placed_52 rfl rfl rfl ?_
            obtain ⟨hi1, h⟩ := gu_some h
            refine J_iald (q := 54) rk_411 (by decide) hi1 d_Mo_placed_53 rfl ?_
            refine J_goto (q := 60) d_Mo_placed_54 (by decide) ?_
            obtain rfl := Option.some.inj h
            exact J_iret rfl ⟨rfl, rfl⟩ d_Mo_placed_60
        · rw [if_pos hc] at h
          refine J_aload_n (q := 35) 0 d_Mo_placed_34 rfl rfl rfl ?_
          refine J_getF (q := 38) cd_12 (by decide) ft_12_70 rfl g_1121 rfl d_Mo_placed_35 rfl ?_
          refine J_iload_n (q := 39) 1 d_Mo_placed_38 rfl rfl rfl ?_
          obtain ⟨hi2, h⟩ := gu_some h
          refine J_iald (q := 40) rk_410 (by decide) hi2 d_Mo_placed_39 rfl ?_
          refine J_goto (q := 60) d_Mo_placed_40 (by decide) ?_
          obtain rfl := Option.some.inj h
          exact J_iret rfl ⟨rfl, rfl⟩ d_Mo_placed_60
      · rw [if_pos hc] at h
        refine J_aload_n (q := 21) 0 d_Mo_placed_20 rfl rfl rfl ?_
        refine J_getF (q := 24) cd_12 (by decide) ft_12_69 rfl g_1120 rfl d_Mo_placed_21 rfl ?_
        refine J_iload_n (q := 25) 1 d_Mo_placed_24 rfl rfl rfl ?_
        obtain ⟨hi3, h⟩ := gu_some h
        refine J_iald (q := 26) rk_409 (by decide) hi3 d_Mo_placed_25 rfl ?_
        refine J_goto (q := 60) d_Mo_placed_26 (by decide) ?_
        obtain rfl := Option.some.inj h
        exact J_iret rfl ⟨rfl, rfl⟩ d_Mo_placed_60
    · rw [if_neg hc] at h
      refine J_ldcw (q := 15) d_Mo_placed_12 g_1404 rfl ?_
      obtain rfl := Option.some.inj h
      exact J_iret rfl ⟨rfl, rfl⟩ d_Mo_placed_15
def m_Mo_length (μ : Mem) : Option (Int32) :=
  if gI μ 12 (0) 68 = 0 then
 (some ((0 : Int32)))
 else
 (gu ((gI μ 12 (0) 68) - ((1 : Int32))) 60 <|
  gu ((gI μ 12 (0) 68) - ((1 : Int32))) 60 <|
  gu (gI μ 409 (0) ((gI μ 12 (0) 68) - ((1 : Int32))).toNatClampNeg) 32 <|
  some ((gI μ 410 (0) ((gI μ 12 (0) 68) - ((1 : Int32))).toNatClampNeg) + (gI μ 342 (0) (gI μ 409 (0) ((gI μ 12 (0) 68) - ((1 : Int32))).toNatClampNeg).toNatClampNeg)))
theorem t_Mo_length {μ : Mem} {q : Int32} (h : m_Mo_length  μ = some q) : JM true (0) y_Mo_length b_Mo_length 1 (some (.int)) 0 0 [vr 12 (0)] μ (QQ (some (vi q)) μ) := by
  unfold m_Mo_length at h
  refine JM.of pl_Mo_length (fun ρ => Nat.le_of_ble_eq_true rfl) ?_
  show J (GM true (QQ (some (vi q)) μ) (some (.int)) y_Mo_length.name) true b_Mo_length R_12 1 (0) 0 0 0 [(0, vr 12 (0))] [] μ
  refine J_aload_n (q := 1) 0 d_Mo_length_0 rfl rfl rfl ?_
  refine J_getI (q := 4) (j := 68) cd_12 (by decide) (Or.inl rfl) g_1119 rfl d_Mo_length_1 rfl ?_
  refine J_if_ne (q := 7) (tgt := 11) d_Mo_length_4 (by decide) rfl (fun hc => ?_) (fun hc => ?_)
  · rw [if_neg hc] at h
    refine J_aload_n (q := 12) 0 d_Mo_length_11 rfl rfl rfl ?_
    refine J_getF (q := 15) cd_12 (by decide) ft_12_70 rfl g_1121 rfl d_Mo_length_12 rfl ?_
    refine J_aload_n (q := 16) 0 d_Mo_length_15 rfl rfl rfl ?_
    refine J_getI (q := 19) (j := 68) cd_12 (by decide) (Or.inl rfl) g_1119 rfl d_Mo_length_16 rfl ?_
    refine J_iconst (q := 20) (v := (1 : Int32)) d_Mo_length_19 (by decide) rfl ?_
    refine J_isub (q := 21) d_Mo_length_20 rfl ?_
    obtain ⟨hi1, h⟩ := gu_some h
    refine J_iald (q := 22) rk_410 (by decide) hi1 d_Mo_length_21 rfl ?_
    refine J_aload_n (q := 23) 0 d_Mo_length_22 rfl rfl rfl ?_
    refine J_getF (q := 26) cd_12 (by decide) ft_12_2 rfl g_1053 rfl d_Mo_length_23 rfl ?_
    refine J_aload_n (q := 27) 0 d_Mo_length_26 rfl rfl rfl ?_
    refine J_getF (q := 30) cd_12 (by decide) ft_12_69 rfl g_1120 rfl d_Mo_length_27 rfl ?_
    refine J_aload_n (q := 31) 0 d_Mo_length_30 rfl rfl rfl ?_
    refine J_getI (q := 34) (j := 68) cd_12 (by decide) (Or.inl rfl) g_1119 rfl d_Mo_length_31 rfl ?_
    refine J_iconst (q := 35) (v := (1 : Int32)) d_Mo_length_34 (by decide) rfl ?_
    refine J_isub (q := 36) d_Mo_length_35 rfl ?_
    obtain ⟨hi2, h⟩ := gu_some h
    refine J_iald (q := 37) rk_409 (by decide) hi2 d_Mo_length_36 rfl ?_
    obtain ⟨hi3, h⟩ := gu_some h
    refine J_iald (q := 38) rk_342 (by decide) hi3 d_Mo_length_37 rfl ?_
    refine J_iadd (q := 39) d_Mo_length_38 rfl ?_
    obtain rfl := Option.some.inj h
    exact J_iret rfl ⟨rfl, rfl⟩ d_Mo_length_39
  · rw [if_pos hc] at h
    refine J_iconst (q := 8) (v := (0 : Int32)) d_Mo_length_7 (by decide) rfl ?_
    refine J_goto (q := 39) d_Mo_length_8 (by decide) ?_
    obtain rfl := Option.some.inj h
    exact J_iret rfl ⟨rfl, rfl⟩ d_Mo_length_39
