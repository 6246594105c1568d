def m_Ru_changeTwo (μ : Mem) : Option (Mem) :=
  Option.bind (m_Ru_pop  μ) fun r1 =>
  ap (r1.2) fun μ2 =>
  ap (r1.1) fun x3 =>
  Option.bind (m_Ru_pop  μ2) fun r4 =>
  ap (r4.2) fun μ5 =>
  ap (r4.1) fun x6 =>
  Option.bind (m_Ru_push (x3) μ5) fun r7 =>
  Option.bind (m_Ru_push (x6) r7) fun r8 =>
  some r8
theorem t_Ru_changeTwo {μ : Mem} {q : Mem} (h : m_Ru_changeTwo  μ = some q) : JM true (1) y_Ru_changeTwo b_Ru_changeTwo 3 none 0 0 [vr 9 (0)] μ (QQ none q) := by
  unfold m_Ru_changeTwo at h
  refine JM.of pl_Ru_changeTwo (fun ρ => Nat.le_of_ble_eq_true rfl) ?_
  show J (GM true (QQ none q) none y_Ru_changeTwo.name) true b_Ru_changeTwo R_9 3 (1) 0 0 0 [(0, vr 9 (0))] [] μ
  refine J_aload_n (q := 1) 0 d_Ru_changeTwo_0 rfl rfl rfl ?_
  obtain ⟨r1, hr1, h⟩ := bd_some h
  refine J_callVq (rc := 0) (rs := 0) (q := 4) (as := []) (st := []) (by decide) rfl g_875 sel_Ru_pop (t_Ru_pop hr1) (by decide) (by decide) g_873 g_876 g_5 hy_Ru_pop rfl (Nat.le_of_ble_eq_true rfl) d_Ru_changeTwo_1 rfl ?_
  obtain ⟨μ2, hμ2, h⟩ := ap_eq h
  refine J_nmM hμ2 ?_
  obtain ⟨x3, hx3, h⟩ := ap_eq h
  refine J_nmI hx3 ?_
  refine J_istore_n (q := 5) (lv' := [(1, vi (x3)), (0, vr 9 (0))]) d_Ru_changeTwo_4 rfl (by decide) rfl rfl ?_
  refine J_aload_n (q := 6) 1 d_Ru_changeTwo_5 rfl rfl rfl ?_
  obtain ⟨r4, hr4, h⟩ := bd_some h
  refine J_callVq (rc := 0) (rs := 0) (q := 9) (as := []) (st := []) (by decide) rfl g_875 sel_Ru_pop (t_Ru_pop hr4) (by decide) (by decide) g_873 g_876 g_5 hy_Ru_pop rfl (Nat.le_of_ble_eq_true rfl) d_Ru_changeTwo_6 rfl ?_
  obtain ⟨μ5, hμ5, h⟩ := ap_eq h
  refine J_nmM hμ5 ?_
  obtain ⟨x6, hx6, h⟩ := ap_eq h
  refine J_nmI hx6 ?_
  refine J_istore_n (q := 10) (lv' := [(2, vi (x6)), (1, vi (x3)), (0, vr 9 (0))]) d_Ru_changeTwo_9 rfl (by decide) rfl rfl ?_
  refine J_aload_n (q := 11) 2 d_Ru_changeTwo_10 rfl rfl rfl ?_
  refine J_iload_n (q := 12) 1 d_Ru_changeTwo_11 rfl rfl rfl ?_
  obtain ⟨r7, hr7, h⟩ := bd_some h
  refine J_callVv (rc := 0) (rs := 0) (q := 15) (as := [vi (x3)]) (st := []) (by decide) rfl g_871 sel_Ru_push (t_Ru_push hr7) (by decide) (by decide) g_869 g_872 g_5 hy_Ru_push rfl (Nat.le_of_ble_eq_true rfl) d_Ru_changeTwo_12 rfl ?_
  refine J_aload_n (q := 16) 2 d_Ru_changeTwo_15 rfl rfl rfl ?_
  refine J_iload_n (q := 17) 0 d_Ru_changeTwo_16 rfl rfl rfl ?_
  obtain ⟨r8, hr8, h⟩ := bd_some h
  refine J_callVv (rc := 0) (rs := 0) (q := 20) (as := [vi (x6)]) (st := []) (by decide) rfl g_871 sel_Ru_push (t_Ru_push hr8) (by decide) (by decide) g_869 g_872 g_5 hy_Ru_push rfl (Nat.le_of_ble_eq_true rfl) d_Ru_changeTwo_17 rfl ?_
  obtain rfl := Option.some.inj h
  exact J_vret rfl ⟨rfl, rfl⟩ d_Ru_changeTwo_20
def m_Ru_carry (a1 : Int32) (a2 : Int32) (μ : Mem) : Option (Mem) :=
  if a1 = (0 : Int32) then
 (Option.bind (m_Ru_push (a2) μ) fun r1 =>
  some r1)
 else if a1 = (1 : Int32) then
 (gu ((gI μ 9 (0) 3) - ((1 : Int32))) 32 <|
  Option.bind (m_Ru_push (gI μ 280 (0) ((gI μ 9 (0) 3) - ((1 : Int32))).toNatClampNeg) μ) fun r3 =>
  some r3)
 else if a1 = (2 : Int32) then
 (Option.bind (m_Ru_pop  μ) fun r4 =>
  ap (r4.2) fun μ5 =>
  ap (r4.1) fun x6 =>
  some μ5)
 else if a1 = (3 : Int32) then
 (Option.bind (m_Ru_changeTwo  μ) fun r7 =>
  some r7)
 else if a1 = (20 : Int32) then
 (Option.bind (m_Ru_pop  μ) fun r8 =>
  ap (r8.2) fun μ9 =>
  ap (r8.1) fun x10 =>
  gu (a2) 16 <|
  ap (sI μ9 281 (0) a2.toNatClampNeg (x10)) fun μ12 =>
  some μ12)
 else (gu (a2) 16 <|
  Option.bind (m_Ru_push (gI μ 281 (0) a2.toNatClampNeg) μ) fun r14 =>
  some r14)
theorem t_Ru_carry {a1 : Int32} {a2 : Int32} {μ : Mem} {q : Mem} (h : m_Ru_carry a1 a2 μ = some q) : JM true (2) y_Ru_carry b_Ru_carry 3 none 0 0 [vr 9 (0), vi (a1), vi (a2)] μ (QQ none q) := by
  unfold m_Ru_carry at h
  refine JM.of pl_Ru_carry (fun ρ => Nat.le_of_ble_eq_true rfl) ?_
  show J (GM true (QQ none q) none y_Ru_carry.name) true b_Ru_carry R_9 3 (2) 0 0 0 [(0, vr 9 (0)), (1, vi (a1)), (2, vi (a2))] [] μ
  refine J_iload_n (q := 1) 1 d_Ru_carry_0 rfl rfl rfl ?_
  by_cases hk0 : a1 = (0 : Int32)
  · rw [if_pos hk0] at h
    refine J_swL (off := 51) (tgt := 52) d_Ru_carry_1 (by decide) (by rw [hk0]; first | done | rfl) (by decide) ?_
    refine J_aload_n (q := 53) 0 d_Ru_carry_52 rfl rfl rfl ?_
    refine J_iload_n (q := 54) 2 d_Ru_carry_53 rfl rfl rfl ?_
    obtain ⟨r1, hr1, h⟩ := bd_some h
    refine J_callVv (rc := 0) (rs := 0) (q := 57) (as := [vi (a2)]) (st := []) (by decide) rfl g_871 sel_Ru_push (t_Ru_push hr1) (by decide) (by decide) g_869 g_872 g_5 hy_Ru_push rfl (Nat.le_of_ble_eq_true rfl) d_Ru_carry_54 rfl ?_
    refine J_goto (q := 116) d_Ru_carry_57 (by decide) ?_
    obtain rfl := Option.some.inj h
    exact J_vret rfl ⟨rfl, rfl⟩ d_Ru_carry_116
  rw [if_neg hk0] at h
  by_cases hk1 : a1 = (1 : Int32)
  · rw [if_pos hk1] at h
    refine J_swL (off := 59) (tgt := 60) d_Ru_carry_1 (by decide) (by rw [hk1]; first | done | rfl) (by decide) ?_
    refine J_aload_n (q := 61) 0 d_Ru_carry_60 rfl rfl rfl ?_
    refine J_aload_n (q := 62) 0 d_Ru_carry_61 rfl rfl rfl ?_
    refine J_getF (q := 65) cd_9 (by decide) ft_9_0 rfl g_143 rfl d_Ru_carry_62 rfl ?_
    refine J_aload_n (q := 66) 0 d_Ru_carry_65 rfl rfl rfl ?_
    refine J_getI (q := 69) (j := 3) cd_9 (by decide) (Or.inl rfl) g_146 rfl d_Ru_carry_66 rfl ?_
    refine J_iconst (q := 70) (v := (1 : Int32)) d_Ru_carry_69 (by decide) rfl ?_
    refine J_isub (q := 71) d_Ru_carry_70 rfl ?_
    obtain ⟨hi2, h⟩ := gu_some h
    refine J_iald (q := 72) rk_280 (by decide) hi2 d_Ru_carry_71 rfl ?_
    obtain ⟨r3, hr3, h⟩ := bd_some h
    refine J_callVv (rc := 0) (rs := 0) (q := 75) (as := [vi (gI μ 280 (0) ((gI μ 9 (0) 3) - ((1 : Int32))).toNatClampNeg)]) (st := []) (by decide) rfl g_871 sel_Ru_push (t_Ru_push hr3) (by decide) (by decide) g_869 g_872 g_5 hy_Ru_push rfl (Nat.le_of_ble_eq_true rfl) d_Ru_carry_72 rfl ?_
    refine J_goto (q := 116) d_Ru_carry_75 (by decide) ?_
    obtain rfl := Option.some.inj h
    exact J_vret rfl ⟨rfl, rfl⟩ d_Ru_carry_116
  rw [if_neg hk1] at h
  by_cases hk2 : a1 = (2 : Int32)
  · rw [if_pos hk2] at h
    refine J_swL (off := 77) (tgt := 78) d_Ru_carry_1 (by decide) (by rw [hk2]; first | done | rfl) (by decide) ?_
    refine J_aload_n (q := 79) 0 d_Ru_carry_78 rfl rfl rfl ?_
    obtain ⟨r4, hr4, h⟩ := bd_some h
    refine J_callVq (rc := 0) (rs := 0) (q := 82) (as := []) (st := []) (by decide) rfl g_875 sel_Ru_pop (t_Ru_pop hr4) (by decide) (by decide) g_873 g_876 g_5 hy_Ru_pop rfl (Nat.le_of_ble_eq_true rfl) d_Ru_carry_79 rfl ?_
    obtain ⟨μ5, hμ5, h⟩ := ap_eq h
    refine J_nmM hμ5 ?_
    obtain ⟨x6, hx6, h⟩ := ap_eq h
    refine J_nmI hx6 ?_
    refine J_popI (q := 83) d_Ru_carry_82 rfl ?_
    refine J_goto (q := 116) d_Ru_carry_83 (by decide) ?_
    obtain rfl := Option.some.inj h
    exact J_vret rfl ⟨rfl, rfl⟩ d_Ru_carry_116
  rw [if_neg hk2] at h
  by_cases hk3 : a1 = (3 : Int32)
  · rw [if_pos hk3] at h
    refine J_swL (off := 85) (tgt := 86) d_Ru_carry_1 (by decide) (by rw [hk3]; first | done | rfl) (by decide) ?_
    refine J_aload_n (q := 87) 0 d_Ru_carry_86 rfl rfl rfl ?_
    obtain ⟨r7, hr7, h⟩ := bd_some h
    refine J_callVv (rc := 0) (rs := 0) (q := 90) (as := []) (st := []) (by decide) rfl g_879 sel_Ru_changeTwo (t_Ru_changeTwo hr7) (by decide) (by decide) g_877 g_880 g_5 hy_Ru_changeTwo rfl (Nat.le_of_ble_eq_true rfl) d_Ru_carry_87 rfl ?_
    refine J_goto (q := 116) d_Ru_carry_90 (by decide) ?_
    obtain rfl := Option.some.inj h
    exact J_vret rfl ⟨rfl, rfl⟩ d_Ru_carry_116
  rw [if_neg hk3] at h
  by_cases hk4 : a1 = (20 : Int32)
  · rw [if_pos hk4] at h
    refine J_swL (off := 92) (tgt := 93) d_Ru_carry_1 (by decide) (by rw [hk4]; first | done | rfl) (by decide) ?_
    refine J_aload_n (q := 94) 0 d_Ru_carry_93 rfl rfl rfl ?_
    refine J_getF (q := 97) cd_9 (by decide) ft_9_1 rfl g_144 rfl d_Ru_carry_94 rfl ?_
    refine J_iload_n (q := 98) 2 d_Ru_carry_97 rfl rfl rfl ?_
    refine J_aload_n (q := 99) 0 d_Ru_carry_98 rfl rfl rfl ?_
    obtain ⟨r8, hr8, h⟩ := bd_some h
    refine J_callVq (rc := 0) (rs := 0) (q := 102) (as := []) (st := [vi (a2), vr 281 (0)]) (by decide) rfl g_875 sel_Ru_pop (t_Ru_pop hr8) (by decide) (by decide) g_873 g_876 g_5 hy_Ru_pop rfl (Nat.le_of_ble_eq_true rfl) d_Ru_carry_99 rfl ?_
    obtain ⟨μ9, hμ9, h⟩ := ap_eq h
    refine J_nmM hμ9 ?_
    obtain ⟨x10, hx10, h⟩ := ap_eq h
    refine J_nmI hx10 ?_
    obtain ⟨hi11, h⟩ := gu_some h
    refine J_iast (q := 103) rk_281 (by decide) hi11 d_Ru_carry_102 rfl ?_
    obtain ⟨μ12, hμ12, h⟩ := ap_eq h
    refine J_nmM hμ12 ?_
    refine J_goto (q := 116) d_Ru_carry_103 (by decide) ?_
    obtain rfl := Option.some.inj h
    exact J_vret rfl ⟨rfl, rfl⟩ d_Ru_carry_116
  rw [if_neg hk4] at h
  refine J_swL (off := 105) (tgt := 106) d_Ru_carry_1 (by decide) (by rw [lv_osw hk0 (by decide), lv_osw hk1 (by decide), lv_osw hk2 (by decide), lv_osw hk3 (by decide), lv_osw hk4 (by decide)]; first | done | rfl) (by decide) ?_
  refine J_aload_n (q := 107) 0 d_Ru_carry_106 rfl rfl rfl ?_
  refine J_aload_n (q := 108) 0 d_Ru_carry_107 rfl rfl rfl ?_
  refine J_getF (q := 111) cd_9 (by decide) ft_9_1 rfl g_144 rfl d_Ru_carry_108 rfl ?_
  refine J_iload_n (q := 112) 2 d_Ru_carry_111 rfl rfl rfl ?_
  obtain ⟨hi13, h⟩ := gu_some h
  refine J_iald (q := 113) rk_281 (by decide) hi13 d_Ru_carry_112 rfl ?_
  obtain ⟨r14, hr14, h⟩ := bd_some h
  refine J_callVv (rc := 0) (rs := 0) (q := 116) (as := [vi (gI μ 281 (0) a2.toNatClampNeg)]) (st := []) (by decide) rfl g_871 sel_Ru_push (t_Ru_push hr14) (by decide) (by decide) g_869 g_872 g_5 hy_Ru_push rfl (Nat.le_of_ble_eq_true rfl) d_Ru_carry_113 rfl ?_
  obtain rfl := Option.some.inj h
  exact J_vret rfl ⟨rfl, rfl⟩ d_Ru_carry_116
def m_Fit_hasPoint (o : Nat) (a1 : Int32) (μ : Mem) : Bool :=
  (m_Fo_within ((a1).toInt64) ((0 : Int64)) (((gI μ 0 (o) 5) - ((1 : Int32))).toInt64) μ)
theorem t_Fit_hasPoint {o : Nat} {a1 : Int32} {μ : Mem} {q : Bool} (h : m_Fit_hasPoint o a1 μ = q) : JM true (1) y_Fit_hasPoint b_Fit_hasPoint 2 (some (.boolean)) 0 0 [vr 0 (o), vi (a1)] μ (QQ (some (vi (b2i q))) μ) := by
  unfold m_Fit_hasPoint at h
  refine JM.of pl_Fit_hasPoint (fun ρ => Nat.le_of_ble_eq_true rfl) ?_
  show J (GM true (QQ (some (vi (b2i q))) μ) (some (.boolean)) y_Fit_hasPoint.name) true b_Fit_hasPoint R_0 2 (1) 0 0 0 [(0, vr 0 (o)), (1, vi (a1))] [] μ
  refine J_iload_n (q := 1) 1 d_Fit_hasPoint_0 rfl rfl rfl ?_
  refine J_i2l (q := 2) d_Fit_hasPoint_1 rfl ?_
  refine J_lconst (q := 3) (v := (0 : Int64)) d_Fit_hasPoint_2 (by decide) rfl ?_
  refine J_aload_n (q := 4) 0 d_Fit_hasPoint_3 rfl rfl rfl ?_
  refine J_getI (q := 7) (j := 5) cd_0 (by decide) (Or.inl rfl) g_178 rfl d_Fit_hasPoint_4 rfl ?_
  refine J_iconst (q := 8) (v := (1 : Int32)) d_Fit_hasPoint_7 (by decide) rfl ?_
  refine J_isub (q := 9) d_Fit_hasPoint_8 rfl ?_
  refine J_i2l (q := 10) d_Fit_hasPoint_9 rfl ?_
  refine J_callSNq (rc := 0) (rs := 0) (q := 13) (as := [vl ((a1).toInt64), vl ((0 : Int64)), vl (((gI μ 0 (o) 5) - ((1 : Int32))).toInt64)]) (st := []) g_300 (t_Fo_within rfl) (by decide) (by decide) nn_17 g_301 g_1 hy_Fo_within rfl (Nat.le_of_ble_eq_true rfl) d_Fit_hasPoint_10 rfl ?_
  subst h
  exact J_zret (b2i01 _) rfl ⟨rfl, rfl⟩ d_Fit_hasPoint_13
def mj_Ru_faultAhead_152 (a1 : Int32) (a2 : Int32) (a3 : Int32) (a4 : Nat) (μ : Mem) : Option (Int32) :=
  if (m_Fo_within ((a2).toInt64) ((0 : Int64)) ((15 : Int64)) μ) then
 (some ((0 : Int32)))
 else
 (some ((7 : Int32)))
theorem tj_Ru_faultAhead_152 (a1 : Int32) (a2 : Int32) (a3 : Int32) (a4 : Nat) (μ : Mem) {q : Int32}  (h : mj_Ru_faultAhead_152 a1 a2 a3 a4 μ  = some q) : J (GM true (QQ (some (vi q)) μ) (some (.int)) y_Ru_faultAhead.name) true b_Ru_faultAhead R_9 5 (2) 0 0 152 [(2, vi (a2))] [] μ := by
  unfold mj_Ru_faultAhead_152 at h
  refine J_iload_n (q := 153) 0 d_Ru_faultAhead_152 rfl rfl rfl ?_
  refine J_i2l (q := 154) d_Ru_faultAhead_153 rfl ?_
  refine J_lconst (q := 155) (v := (0 : Int64)) d_Ru_faultAhead_154 (by decide) rfl ?_
  refine J_ldc2 (q := 158) d_Ru_faultAhead_155 g_864 rfl ?_
  refine J_callSNq (rc := 0) (rs := 0) (q := 161) (as := [vl ((a2).toInt64), vl ((0 : Int64)), vl ((15 : Int64))]) (st := []) g_300 (t_Fo_within rfl) (by decide) (by decide) nn_16 g_301 g_1 hy_Fo_within rfl (Nat.le_of_ble_eq_true rfl) d_Ru_faultAhead_158 rfl ?_
  refine J_ifB_ne (q := 164) (tgt := 167) d_Ru_faultAhead_161 (by decide) rfl (fun hb => ?_) (fun hb => ?_)
  · rw [iB_t hb] at h
    refine J_iconst (q := 168) (v := (0 : Int32)) d_Ru_faultAhead_167 (by decide) rfl ?_
    obtain rfl := Option.some.inj h
    exact J_iret rfl ⟨rfl, rfl⟩ d_Ru_faultAhead_168
  · rw [iB_f hb] at h
    refine J_bipush (q := 166) (v := (7 : Int32)) d_Ru_faultAhead_164 (by decide) rfl ?_
    obtain rfl := Option.some.inj h
    exact J_iret rfl ⟨rfl, rfl⟩ d_Ru_faultAhead_166
def mj_Ru_faultAhead_140 (a1 : Int32) (a2 : Int32) (a3 : Int32) (a4 : Nat) (μ : Mem) : Option (Int32) :=
  if a1 = (20 : Int32) then
 (mj_Ru_faultAhead_152 a1 a2 a3 a4 μ )
 else
 (if a1 = (21 : Int32) then
 (mj_Ru_faultAhead_152 a1 a2 a3 a4 μ )
 else
 (some ((0 : Int32))))
theorem tj_Ru_faultAhead_140 (a1 : Int32) (a2 : Int32) (a3 : Int32) (a4 : Nat) (μ : Mem) {q : Int32}  (h : mj_Ru_faultAhead_140 a1 a2 a3 a4 μ  = some q) : J (GM true (QQ (some (vi q)) μ) (some (.int)) y_Ru_faultAhead.name) true b_Ru_faultAhead R_9 5 (2) 0 0 140 [(1, vi (a1)), (2, vi (a2))] [] μ := by
  unfold mj_Ru_faultAhead_140 at h
  refine J_iload_n (q := 141) 0 d_Ru_faultAhead_140 rfl rfl rfl ?_
  refine J_bipush (q := 143) (v := (20 : Int32)) d_Ru_faultAhead_141 (by decide) rfl ?_
  refine J_icmp_eq (q := 146) (tgt := 152) d_Ru_faultAhead_143 (by decide) rfl (fun hc => ?_) (fun hc => ?_)
  · rw [if_pos hc] at h
    refine J_pick [1] rfl ?_
    exact tj_Ru_faultAhead_152 a1 a2 a3 a4 μ h
  · rw [if_neg hc] at h
    refine J_iload_n (q := 147) 0 d_Ru_faultAhead_146 rfl rfl rfl ?_
    refine J_bipush (q := 149) (v := (21 : Int32)) d_Ru_faultAhead_147 (by decide) rfl ?_
    refine J_icmp_ne (q := 152) (tgt := 167) d_Ru_faultAhead_149 (by decide) rfl (fun hc => ?_) (fun hc => ?_)
    · rw [if_neg hc] at h
      refine J_iconst (q := 168) (v := (0 : Int32)) d_Ru_faultAhead_167 (by decide) rfl ?_
      obtain rfl := Option.some.inj h
      exact J_iret rfl ⟨rfl, rfl⟩ d_Ru_faultAhead_168
    · rw [if_pos hc] at h
      refine J_pick [1] rfl ?_
      exact tj_Ru_faultAhead_152 a1 a2 a3 a4 μ h
def mj_Ru_faultAhead_118 (a1 : Int32) (a2 : Int32) (a3 : Int32) (a4 : Nat) (μ : Mem) : Option (Int32) :=
  if a1 = (7 : Int32) then
 (gu ((gI μ 9 (0) 3) - ((1 : Int32))) 32 <|
  if gI μ 280 (0) ((gI μ 9 (0) 3) - ((1 : Int32))).toNatClampNeg = 0 then
 (some ((5 : Int32)))
 else
 (mj_Ru_faultAhead_140 a1 a2 a3 a4 μ ))
 else
 (mj_Ru_faultAhead_140 a1 a2 a3 a4 μ )
theorem tj_Ru_faultAhead_118 (a1 : Int32) (a2 : Int32) (a3 : Int32) (a4 : Nat) (μ : Mem) {q : Int32}  (h : mj_Ru_faultAhead_118 a1 a2 a3 a4 μ  = some q) : J (GM true (QQ (some (vi q)) μ) (some (.int)) y_Ru_faultAhead.name) true b_Ru_faultAhead R_9 5 (2) 0 0 118 [(0, vr 9 (0)), (1, vi (a1)), (2, vi (a2))] [] μ := by
  unfold mj_Ru_faultAhead_118 at h
  refine J_iload_n (q := 119) 1 d_Ru_faultAhead_118 rfl rfl rfl ?_
  refine J_bipush (q := 121) (v := (7 : Int32)) d_Ru_faultAhead_119 (by decide) rfl ?_
  refine J_icmp_ne (q := 124) (tgt := 140) d_Ru_faultAhead_121 (by decide) rfl (fun hc => ?_) (fun hc => ?_)
  · rw [if_neg hc] at h
    refine J_pick [1, 2] rfl ?_
    exact tj_Ru_faultAhead_140 a1 a2 a3 a4 μ h
  · rw [if_pos hc] at h
    refine J_aload_n (q := 125) 0 d_Ru_faultAhead_124 rfl rfl rfl ?_
    refine J_getF (q := 128) cd_9 (by decide) ft_9_0 rfl g_143 rfl d_Ru_faultAhead_125 rfl ?_
    refine J_aload_n (q := 129) 0 d_Ru_faultAhead_128 rfl rfl rfl ?_
    refine J_getI (q := 132) (j := 3) cd_9 (by decide) (Or.inl rfl) g_146 rfl d_Ru_faultAhead_129 rfl ?_
    refine J_iconst (q := 133) (v := (1 : Int32)) d_Ru_faultAhead_132 (by decide) rfl ?_
    refine J_isub (q := 134) d_Ru_faultAhead_133 rfl ?_
    obtain ⟨hi4, h⟩ := gu_some h
    refine J_iald (q := 135) rk_280 (by decide) hi4 d_Ru_faultAhead_134 rfl ?_
    refine J_if_ne (q := 138) (tgt := 140) d_Ru_faultAhead_135 (by decide) rfl (fun hc => ?_) (fun hc => ?_)
    · rw [if_neg hc] at h
      refine J_pick [1, 2] rfl ?_
      exact tj_Ru_faultAhead_140 a1 a2 a3 a4 μ h
    · rw [if_pos hc] at h
      refine J_iconst (q := 139) (v := (5 : Int32)) d_Ru_faultAhead_138 (by decide) rfl ?_
      obtain rfl := Option.some.inj h
      exact J_iret rfl ⟨rfl, rfl⟩ d_Ru_faultAhead_139
def mj_Ru_faultAhead_101 (a1 : Int32) (a2 : Int32) (a3 : Int32) (a4 : Nat) (μ : Mem) : Option (Int32) :=
  if a1 = (18 : Int32) then
 (if gI μ 9 (0) 4 < (8 : Int32) then
 (mj_Ru_faultAhead_118 a1 a2 a3 a4 μ )
 else
 (some ((4 : Int32))))
 else
 (mj_Ru_faultAhead_118 a1 a2 a3 a4 μ )
theorem tj_Ru_faultAhead_101 (a1 : Int32) (a2 : Int32) (a3 : Int32) (a4 : Nat) (μ : Mem) {q : Int32}  (h : mj_Ru_faultAhead_101 a1 a2 a3 a4 μ  = some q) : J (GM true (QQ (some (vi q)) μ) (some (.int)) y_Ru_faultAhead.name) true b_Ru_faultAhead R_9 5 (2) 0 0 101 [(0, vr 9 (0)), (1, vi (a1)), (2, vi (a2))] [] μ := by
  unfold mj_Ru_faultAhead_101 at h
  refine J_iload_n (q := 102) 1 d_Ru_faultAhead_101 rfl rfl rfl ?_
  refine J_bipush (q := 104) (v := (18 : Int32)) d_Ru_faultAhead_102 (by decide) rfl ?_
  refine J_icmp_ne (q := 107) (tgt := 118) d_Ru_faultAhead_104 (by decide) rfl (fun hc => ?_) (fun hc => ?_)
  · rw [if_neg hc] at h
    refine J_pick [0, 1, 2] rfl ?_
    exact tj_Ru_faultAhead_118 a1 a2 a3 a4 μ h
  · rw [if_pos hc] at h
    refine J_aload_n (q := 108) 0 d_Ru_faultAhead_107 rfl rfl rfl ?_
    refine J_getI (q := 111) (j := 4) cd_9 (by decide) (Or.inl rfl) g_147 rfl d_Ru_faultAhead_108 rfl ?_
    refine J_bipush (q := 113) (v := (8 : Int32)) d_Ru_faultAhead_111 (by decide) rfl ?_
    refine J_icmp_lt (q := 116) (tgt := 118) d_Ru_faultAhead_113 (by decide) rfl (fun hc => ?_) (fun hc => ?_)
    · rw [if_pos hc] at h
      refine J_pick [0, 1, 2] rfl ?_
      exact tj_Ru_faultAhead_118 a1 a2 a3 a4 μ h
    · rw [if_neg hc] at h
      refine J_iconst (q := 117) (v := (4 : Int32)) d_Ru_faultAhead_116 (by decide) rfl ?_
      obtain rfl := Option.some.inj h
      exact J_iret rfl ⟨rfl, rfl⟩ d_Ru_faultAhead_117
def mj_Ru_faultAhead_74 (a1 : Int32) (a2 : Int32) (a3 : Int32) (a4 : Nat) (μ : Mem) : Option (Int32) :=
  if (m_Fo_within ((a1).toInt64) ((16 : Int64)) ((18 : Int64)) μ) then
 (if (m_Fo_within ((a2).toInt64) ((0 : Int64)) ((a3).toInt64) μ) then
 (mj_Ru_faultAhead_101 a1 a2 a3 a4 μ )
 else
 (some ((3 : Int32))))
 else
 (mj_Ru_faultAhead_101 a1 a2 a3 a4 μ )
theorem tj_Ru_faultAhead_74 (a1 : Int32) (a2 : Int32) (a3 : Int32) (a4 : Nat) (μ : Mem) {q : Int32}  (h : mj_Ru_faultAhead_74 a1 a2 a3 a4 μ  = some q) : J (GM true (QQ (some (vi q)) μ) (some (.int)) y_Ru_faultAhead.name) true b_Ru_faultAhead R_9 5 (2) 0 0 74 [(0, vr 9 (0)), (1, vi (a1)), (2, vi (a2)), (3, vi (a3))] [] μ := by
  unfold mj_Ru_faultAhead_74 at h
  refine J_iload_n (q := 75) 1 d_Ru_faultAhead_74 rfl rfl rfl ?_
  refine J_i2l (q := 76) d_Ru_faultAhead_75 rfl ?_
  refine J_ldc2 (q := 79) d_Ru_faultAhead_76 g_862 rfl ?_
  refine J_ldc2 (q := 82) d_Ru_faultAhead_79 g_863 rfl ?_
  refine J_callSNq (rc := 0) (rs := 0) (q := 85) (as := [vl ((a1).toInt64), vl ((16 : Int64)), vl ((18 : Int64))]) (st := []) g_300 (t_Fo_within rfl) (by decide) (by decide) nn_16 g_301 g_1 hy_Fo_within rfl (Nat.le_of_ble_eq_true rfl) d_Ru_faultAhead_82 rfl ?_
  refine J_ifB_eq (q := 88) (tgt := 101) d_Ru_faultAhead_85 (by decide) rfl (fun hb => ?_) (fun hb => ?_)
  · rw [iB_f hb] at h
    refine J_pick [0, 1, 2] rfl ?_
    exact tj_Ru_faultAhead_101 a1 a2 a3 a4 μ h
  · rw [iB_t hb] at h
    refine J_iload_n (q := 89) 2 d_Ru_faultAhead_88 rfl rfl rfl ?_
    refine J_i2l (q := 90) d_Ru_faultAhead_89 rfl ?_
    refine J_lconst (q := 91) (v := (0 : Int64)) d_Ru_faultAhead_90 (by decide) rfl ?_
    refine J_iload_n (q := 92) 3 d_Ru_faultAhead_91 rfl rfl rfl ?_
    refine J_i2l (q := 93) d_Ru_faultAhead_92 rfl ?_
    refine J_callSNq (rc := 0) (rs := 0) (q := 96) (as := [vl ((a2).toInt64), vl ((0 : Int64)), vl ((a3).toInt64)]) (st := []) g_300 (t_Fo_within rfl) (by decide) (by decide) nn_16 g_301 g_1 hy_Fo_within rfl (Nat.le_of_ble_eq_true rfl) d_Ru_faultAhead_93 rfl ?_
    refine J_ifB_ne (q := 99) (tgt := 101) d_Ru_faultAhead_96 (by decide) rfl (fun hb => ?_) (fun hb => ?_)
    · rw [iB_t hb] at h
      refine J_pick [0, 1, 2] rfl ?_
      exact tj_Ru_faultAhead_101 a1 a2 a3 a4 μ h
    · rw [iB_f hb] at h
      refine J_iconst (q := 100) (v := (3 : Int32)) d_Ru_faultAhead_99 (by decide) rfl ?_
      obtain rfl := Option.some.inj h
      exact J_iret rfl ⟨rfl, rfl⟩ d_Ru_faultAhead_100
def m_Ru_faultAhead (a1 : Int32) (a2 : Int32) (a3 : Int32) (a4 : Nat) (μ : Mem) : Option (Int32) :=
  if (m_Fo_within ((a1).toInt64) ((0 : Int64)) ((30 : Int64)) μ) then
 (gu (a1) 31 <|
  if gI μ 9 (0) 3 < takes a1.toNatClampNeg then
 (some ((1 : Int32)))
 else
 (gu (a1) 31 <|
  gu (a1) 31 <|
  if ((gI μ 9 (0) 3) - (takes a1.toNatClampNeg)) + (gives a1.toNatClampNeg) ≤ (32 : Int32) then
 (if (m_Fo_within ((a1).toInt64) ((22 : Int64)) ((27 : Int64)) μ) then
 (if (m_Fit_hasPoint (a4) (a2) μ) then
 (mj_Ru_faultAhead_74 a1 a2 a3 a4 μ )
 else
 (some ((2 : Int32))))
 else
 (mj_Ru_faultAhead_74 a1 a2 a3 a4 μ ))
 else
 (some ((1 : Int32)))))
 else
 (some ((3 : Int32)))
theorem t_Ru_faultAhead {a1 : Int32} {a2 : Int32} {a3 : Int32} {a4 : Nat} {μ : Mem} {q : Int32} (h : m_Ru_faultAhead a1 a2 a3 a4 μ = some q) : JM true (2) y_Ru_faultAhead b_Ru_faultAhead 5 (some (.int)) 0 0 [vr 9 (0), vi (a1), vi (a2), vi (a3), vr 0 (a4)] μ (QQ (some (vi q)) μ) := by
  unfold m_Ru_faultAhead at h
  refine JM.of pl_Ru_faultAhead (fun ρ => Nat.le_of_ble_eq_true rfl) ?_
  show J (GM true (QQ (some (vi q)) μ) (some (.int)) y_Ru_faultAhead.name) true b_Ru_faultAhead R_9 5 (2) 0 0 0 [(0, vr 9 (0)), (1, vi (a1)), (2, vi (a2)), (3, vi (a3)), (4, vr 0 (a4))] [] μ
  refine J_iload_n (q := 1) 1 d_Ru_faultAhead_0 rfl rfl rfl ?_
  refine J_i2l (q := 2) d_Ru_faultAhead_1 rfl ?_
  refine J_lconst (q := 3) (v := (0 : Int64)) d_Ru_faultAhead_2 (by decide) rfl ?_
  refine J_ldc2 (q := 6) d_Ru_faultAhead_3 g_850 rfl ?_
  refine J_callSNq (rc := 0) (rs := 0) (q := 9) (as := [vl ((a1).toInt64), vl ((0 : Int64)), vl ((30 : Int64))]) (st := []) g_300 (t_Fo_within rfl) (by decide) (by decide) nn_16 g_301 g_1 hy_Fo_within rfl (Nat.le_of_ble_eq_true rfl) d_Ru_faultAhead_6 rfl ?_
  refine J_ifB_ne (q := 12) (tgt := 14) d_Ru_faultAhead_9 (by decide) rfl (fun hb => ?_) (fun hb => ?_)
  · rw [iB_t hb] at h
    refine J_aload_n (q := 15) 0 d_Ru_faultAhead_14 rfl rfl rfl ?_
    refine J_getI (q := 18) (j := 3) cd_9 (by decide) (Or.inl rfl) g_146 rfl d_Ru_faultAhead_15 rfl ?_
    refine J_gsTAKES (q := 21) g_851 d_Ru_faultAhead_18 rfl ?_
    refine J_iload_n (q := 22) 1 d_Ru_faultAhead_21 rfl rfl rfl ?_
    obtain ⟨hi1, h⟩ := gu_some h
    refine J_tiTAKES (q := 23) hi1 d_Ru_faultAhead_22 rfl ?_
    refine J_icmp_lt (q := 26) (tgt := 47) d_Ru_faultAhead_23 (by decide) rfl (fun hc => ?_) (fun hc => ?_)
    · rw [if_pos hc] at h
      refine J_iconst (q := 48) (v := (1 : Int32)) d_Ru_faultAhead_47 (by decide) rfl ?_
      obtain rfl := Option.some.inj h
      exact J_iret rfl ⟨rfl, rfl⟩ d_Ru_faultAhead_48
    · rw [if_neg hc] at h
      refine J_aload_n (q := 27) 0 d_Ru_faultAhead_26 rfl rfl rfl ?_
      refine J_getI (q := 30) (j := 3) cd_9 (by decide) (Or.inl rfl) g_146 rfl d_Ru_faultAhead_27 rfl ?_
      refine J_gsTAKES (q := 33) g_851 d_Ru_faultAhead_30 rfl ?_
      refine J_iload_n (q := 34) 1 d_Ru_faultAhead_33 rfl rfl rfl ?_
      obtain ⟨hi2, h⟩ := gu_some h
      refine J_tiTAKES (q := 35) hi2 d_Ru_faultAhead_34 rfl ?_
      refine J_isub (q := 36) d_Ru_faultAhead_35 rfl ?_
      refine J_gsGIVES (q := 39) g_853 d_Ru_faultAhead_36 rfl ?_
      refine J_iload_n (q := 40) 1 d_Ru_faultAhead_39 rfl rfl rfl ?_
      obtain ⟨hi3, h⟩ := gu_some h
      refine J_tiGIVES (q := 41) hi3 d_Ru_faultAhead_40 rfl ?_
      refine J_iadd (q := 42) d_Ru_faultAhead_41 rfl ?_
      refine J_bipush (q := 44) (v := (32 : Int32)) d_Ru_faultAhead_42 (by decide) rfl ?_
      refine J_icmp_le (q := 47) (tgt := 49) d_Ru_faultAhead_44 (by decide) rfl (fun hc => ?_) (fun hc => ?_)
      · rw [if_pos hc] at h
        refine J_iload_n (q := 50) 1 d_Ru_faultAhead_49 rfl rfl rfl ?_
        refine J_i2l (q := 51) d_Ru_faultAhead_50 rfl ?_
        refine J_ldc2 (q := 54) d_Ru_faultAhead_51 g_855 rfl ?_
        refine J_ldc2 (q := 57) d_Ru_faultAhead_54 g_856 rfl ?_
        refine J_callSNq (rc := 0) (rs := 0) (q := 60) (as := [vl ((a1).toInt64), vl ((22 : Int64)), vl ((27 : Int64))]) (st := []) g_300 (t_Fo_within rfl) (by decide) (by decide) nn_16 g_301 g_1 hy_Fo_within rfl (Nat.le_of_ble_eq_true rfl) d_Ru_faultAhead_57 rfl ?_
        refine J_ifB_eq (q := 63) (tgt := 74) d_Ru_faultAhead_60 (by decide) rfl (fun hb => ?_) (fun hb => ?_)
        · rw [iB_f hb] at h
          refine J_pick [0, 1, 2, 3] rfl ?_
          exact tj_Ru_faultAhead_74 a1 a2 a3 a4 μ h
        · rw [iB_t hb] at h
          refine J_aload (q := 65) 4 d_Ru_faultAhead_63 rfl rfl ?_
          refine J_iload_n (q := 66) 2 d_Ru_faultAhead_65 rfl rfl rfl ?_
          refine J_callVq (rc := 0) (rs := 0) (q := 69) (as := [vi (a2)]) (st := []) (by decide) rfl g_858 g_859 (t_Fit_hasPoint rfl) (by decide) (by decide) g_857 g_860 g_6 hy_Fit_hasPoint rfl (Nat.le_of_ble_eq_true rfl) d_Ru_faultAhead_66 rfl ?_
          refine J_ifB_ne (q := 72) (tgt := 74) d_Ru_faultAhead_69 (by decide) rfl (fun hb => ?_) (fun hb => ?_)
          · rw [iB_t hb] at h
            refine J_pick [0, 1, 2, 3] rfl ?_
            exact tj_Ru_faultAhead_74 a1 a2 a3 a4 μ h
          · rw [iB_f hb] at h
            refine J_iconst (q := 73) (v := (2 : Int32)) d_Ru_faultAhead_72 (by decide) rfl ?_
            obtain rfl := Option.some.inj h
            exact J_iret rfl ⟨rfl, rfl⟩ d_Ru_faultAhead_73
      · rw [if_neg hc] at h
        refine J_iconst (q := 48) (v := (1 : Int32)) d_Ru_faultAhead_47 (by decide) rfl ?_
        obtain rfl := Option.some.inj h
        exact J_iret rfl ⟨rfl, rfl⟩ d_Ru_faultAhead_48
  · rw [iB_f hb] at h
    refine J_iconst (q := 13) (v := (3 : Int32)) d_Ru_faultAhead_12 (by decide) rfl ?_
    obtain rfl := Option.some.inj h
    exact J_iret rfl ⟨rfl, rfl⟩ d_Ru_faultAhead_13
def mj_Ru_go_19 (a1 : Int32) (a2 : Int32) (a3 : Int32) (μ : Mem) : Option (Mem) :=
  ap (sI μ 9 (0) 5 (a2)) fun μ1 =>
  some μ1
theorem tj_Ru_go_19 (a1 : Int32) (a2 : Int32) (a3 : Int32) {q : Mem}  (μ : Mem) (h : mj_Ru_go_19 a1 a2 a3  μ = some q) : J (GM true (QQ none q) none y_Ru_go.name) true b_Ru_go R_9 4 (1) 0 0 19 [(0, vr 9 (0)), (2, vi (a2))] [] μ := by
  unfold mj_Ru_go_19 at h
  refine J_aload_n (q := 20) 0 d_Ru_go_19 rfl rfl rfl ?_
  refine J_iload_n (q := 21) 1 d_Ru_go_20 rfl rfl rfl ?_
  refine J_putI (q := 24) (j := 5) cd_9 (by decide) rfl rfl rfl g_148 rfl d_Ru_go_21 rfl ?_
  obtain ⟨μ1, hμ1, h⟩ := ap_eq h
  refine J_nmM hμ1 ?_
  refine J_goto (q := 120) d_Ru_go_24 (by decide) ?_
  obtain rfl := Option.some.inj h
  exact J_vret rfl ⟨rfl, rfl⟩ d_Ru_go_120
def mj_Ru_go_115 (a1 : Int32) (a2 : Int32) (a3 : Int32) (μ : Mem) : Option (Mem) :=
  ap (sI μ 9 (0) 5 (a3)) fun μ2 =>
  some μ2
theorem tj_Ru_go_115 (a1 : Int32) (a2 : Int32) (a3 : Int32) {q : Mem}  (μ : Mem) (h : mj_Ru_go_115 a1 a2 a3  μ = some q) : J (GM true (QQ none q) none y_Ru_go.name) true b_Ru_go R_9 4 (1) 0 0 115 [(0, vr 9 (0)), (3, vi (a3))] [] μ := by
  unfold mj_Ru_go_115 at h
  refine J_aload_n (q := 116) 0 d_Ru_go_115 rfl rfl rfl ?_
  refine J_iload_n (q := 117) 1 d_Ru_go_116 rfl rfl rfl ?_
  refine J_putI (q := 120) (j := 5) cd_9 (by decide) rfl rfl rfl g_148 rfl d_Ru_go_117 rfl ?_
  obtain ⟨μ2, hμ2, h⟩ := ap_eq h
  refine J_nmM hμ2 ?_
  obtain rfl := Option.some.inj h
  exact J_vret rfl ⟨rfl, rfl⟩ d_Ru_go_120
def mj_Ru_go_103 (a1 : Int32) (a2 : Int32) (a3 : Int32) (μ : Mem) : Option (Mem) :=
  if a1 = (19 : Int32) then
 (mj_Ru_go_115 a1 a2 a3 μ)
 else
 (if a1 = (30 : Int32) then
 (mj_Ru_go_115 a1 a2 a3 μ)
 else
 (some μ))
theorem tj_Ru_go_103 (a1 : Int32) (a2 : Int32) (a3 : Int32) {q : Mem}  (μ : Mem) (h : mj_Ru_go_103 a1 a2 a3  μ = some q) : J (GM true (QQ none q) none y_Ru_go.name) true b_Ru_go R_9 4 (1) 0 0 103 [(0, vr 9 (0)), (1, vi (a1)), (3, vi (a3))] [] μ := by
  unfold mj_Ru_go_103 at h
  refine J_iload_n (q := 104) 1 d_Ru_go_103 rfl rfl rfl ?_
  refine J_bipush (q := 106) (v := (19 : Int32)) d_Ru_go_104 (by decide) rfl ?_
  refine J_icmp_eq (q := 109) (tgt := 115) d_Ru_go_106 (by decide) rfl (fun hc => ?_) (fun hc => ?_)
  · rw [if_pos hc] at h
    refine J_pick [0, 2] rfl ?_
    exact tj_Ru_go_115 a1 a2 a3 _ h
  · rw [if_neg hc] at h
    refine J_iload_n (q := 110) 1 d_Ru_go_109 rfl rfl rfl ?_
    refine J_bipush (q := 112) (v := (30 : Int32)) d_Ru_go_110 (by decide) rfl ?_
    refine J_icmp_ne (q := 115) (tgt := 120) d_Ru_go_112 (by decide) rfl (fun hc => ?_) (fun hc => ?_)
    · rw [if_neg hc] at h
      obtain rfl := Option.some.inj h
      exact J_vret rfl ⟨rfl, rfl⟩ d_Ru_go_120
    · rw [if_pos hc] at h
      refine J_pick [0, 2] rfl ?_
      exact tj_Ru_go_115 a1 a2 a3 _ h
def mj_Ru_go_27 (a1 : Int32) (a2 : Int32) (a3 : Int32) (μ : Mem) : Option (Mem) :=
  if a1 = (18 : Int32) then
 (gu (gI μ 9 (0) 4) 8 <|
  ap (sI μ 282 (0) (gI μ 9 (0) 4).toNatClampNeg (gI μ 9 (0) 5)) fun μ7 =>
  ap (sI μ7 9 (0) 4 ((gI μ7 9 (0) 4) + ((1 : Int32)))) fun μ8 =>
  ap (sI μ8 9 (0) 5 (a2)) fun μ9 =>
  some μ9)
 else
 (if a1 = (19 : Int32) then
 (if gI μ 9 (0) 4 ≤ 0 then
 (mj_Ru_go_103 a1 a2 a3 μ)
 else
 (ap (sI μ 9 (0) 4 ((gI μ 9 (0) 4) - ((1 : Int32)))) fun μ3 =>
  gu (gI μ3 9 (0) 4) 8 <|
  ap (sI μ3 9 (0) 5 (gI μ3 282 (0) (gI μ3 9 (0) 4).toNatClampNeg)) fun μ5 =>
  some μ5))
 else
 (mj_Ru_go_103 a1 a2 a3 μ))
theorem tj_Ru_go_27 (a1 : Int32) (a2 : Int32) (a3 : Int32) {q : Mem}  (μ : Mem) (h : mj_Ru_go_27 a1 a2 a3  μ = some q) : J (GM true (QQ none q) none y_Ru_go.name) true b_Ru_go R_9 4 (1) 0 0 27 [(0, vr 9 (0)), (1, vi (a1)), (2, vi (a2)), (3, vi (a3))] [] μ := by
  unfold mj_Ru_go_27 at h
  refine J_iload_n (q := 28) 1 d_Ru_go_27 rfl rfl rfl ?_
  refine J_bipush (q := 30) (v := (18 : Int32)) d_Ru_go_28 (by decide) rfl ?_
  refine J_icmp_ne (q := 33) (tgt := 64) d_Ru_go_30 (by decide) rfl (fun hc => ?_) (fun hc => ?_)
  · rw [if_neg hc] at h
    refine J_iload_n (q := 65) 1 d_Ru_go_64 rfl rfl rfl ?_
    refine J_bipush (q := 67) (v := (19 : Int32)) d_Ru_go_65 (by decide) rfl ?_
    refine J_icmp_ne (q := 70) (tgt := 103) d_Ru_go_67 (by decide) rfl (fun hc => ?_) (fun hc => ?_)
    · rw [if_neg hc] at h
      refine J_pick [0, 1, 3] rfl ?_
      exact tj_Ru_go_103 a1 a2 a3 _ h
    · rw [if_pos hc] at h
      refine J_aload_n (q := 71) 0 d_Ru_go_70 rfl rfl rfl ?_
      refine J_getI (q := 74) (j := 4) cd_9 (by decide) (Or.inl rfl) g_147 rfl d_Ru_go_71 rfl ?_
      refine J_if_le (q := 77) (tgt := 103) d_Ru_go_74 (by decide) rfl (fun hc => ?_) (fun hc => ?_)
      · rw [if_pos hc] at h
        refine J_pick [0, 1, 3] rfl ?_
        exact tj_Ru_go_103 a1 a2 a3 _ h
      · rw [if_neg hc] at h
        refine J_aload_n (q := 78) 0 d_Ru_go_77 rfl rfl rfl ?_
        refine J_dupR (q := 79) d_Ru_go_78 rfl ?_
        refine J_getI (q := 82) (j := 4) cd_9 (by decide) (Or.inl rfl) g_147 rfl d_Ru_go_79 rfl ?_
        refine J_iconst (q := 83) (v := (1 : Int32)) d_Ru_go_82 (by decide) rfl ?_
        refine J_isub (q := 84) d_Ru_go_83 rfl ?_
        refine J_putI (q := 87) (j := 4) cd_9 (by decide) rfl rfl rfl g_147 rfl d_Ru_go_84 rfl ?_
        obtain ⟨μ3, hμ3, h⟩ := ap_eq h
        refine J_nmM hμ3 ?_
        refine J_aload_n (q := 88) 0 d_Ru_go_87 rfl rfl rfl ?_
        refine J_aload_n (q := 89) 0 d_Ru_go_88 rfl rfl rfl ?_
        refine J_getF (q := 92) cd_9 (by decide) ft_9_2 rfl g_145 rfl d_Ru_go_89 rfl ?_
        refine J_aload_n (q := 93) 0 d_Ru_go_92 rfl rfl rfl ?_
        refine J_getI (q := 96) (j := 4) cd_9 (by decide) (Or.inl rfl) g_147 rfl d_Ru_go_93 rfl ?_
        obtain ⟨hi4, h⟩ := gu_some h
        refine J_iald (q := 97) rk_282 (by decide) hi4 d_Ru_go_96 rfl ?_
        refine J_putI (q := 100) (j := 5) cd_9 (by decide) rfl rfl rfl g_148 rfl d_Ru_go_97 rfl ?_
        obtain ⟨μ5, hμ5, h⟩ := ap_eq h
        refine J_nmM hμ5 ?_
        refine J_goto (q := 120) d_Ru_go_100 (by decide) ?_
        obtain rfl := Option.some.inj h
        exact J_vret rfl ⟨rfl, rfl⟩ d_Ru_go_120
  · rw [if_pos hc] at h
    refine J_aload_n (q := 34) 0 d_Ru_go_33 rfl rfl rfl ?_
    refine J_getF (q := 37) cd_9 (by decide) ft_9_2 rfl g_145 rfl d_Ru_go_34 rfl ?_
    refine J_aload_n (q := 38) 0 d_Ru_go_37 rfl rfl rfl ?_
    refine J_getI (q := 41) (j := 4) cd_9 (by decide) (Or.inl rfl) g_147 rfl d_Ru_go_38 rfl ?_
    refine J_aload_n (q := 42) 0 d_Ru_go_41 rfl rfl rfl ?_
    refine J_getI (q := 45) (j := 5) cd_9 (by decide) (Or.inl rfl) g_148 rfl d_Ru_go_42 rfl ?_
    obtain ⟨hi6, h⟩ := gu_some h
    refine J_iast (q := 46) rk_282 (by decide) hi6 d_Ru_go_45 rfl ?_
    obtain ⟨μ7, hμ7, h⟩ := ap_eq h
    refine J_nmM hμ7 ?_
    refine J_aload_n (q := 47) 0 d_Ru_go_46 rfl rfl rfl ?_
    refine J_dupR (q := 48) d_Ru_go_47 rfl ?_
    refine J_getI (q := 51) (j := 4) cd_9 (by decide) (Or.inl rfl) g_147 rfl d_Ru_go_48 rfl ?_
    refine J_iconst (q := 52) (v := (1 : Int32)) d_Ru_go_51 (by decide) rfl ?_
    refine J_iadd (q := 53) d_Ru_go_52 rfl ?_
    refine J_putI (q := 56) (j := 4) cd_9 (by decide) rfl rfl rfl g_147 rfl d_Ru_go_53 rfl ?_
    obtain ⟨μ8, hμ8, h⟩ := ap_eq h
    refine J_nmM hμ8 ?_
    refine J_aload_n (q := 57) 0 d_Ru_go_56 rfl rfl rfl ?_
    refine J_iload_n (q := 58) 2 d_Ru_go_57 rfl rfl rfl ?_
    refine J_putI (q := 61) (j := 5) cd_9 (by decide) rfl rfl rfl g_148 rfl d_Ru_go_58 rfl ?_
    obtain ⟨μ9, hμ9, h⟩ := ap_eq h
    refine J_nmM hμ9 ?_
    refine J_goto (q := 120) d_Ru_go_61 (by decide) ?_
    obtain rfl := Option.some.inj h
    exact J_vret rfl ⟨rfl, rfl⟩ d_Ru_go_120
def m_Ru_go (a1 : Int32) (a2 : Int32) (a3 : Int32) (μ : Mem) : Option (Mem) :=
  if a1 = (16 : Int32) then
 (mj_Ru_go_19 a1 a2 a3 μ)
 else
 (if a1 = (17 : Int32) then
 (Option.bind (m_Ru_pop  μ) fun r10 =>
  ap (r10.2) fun μ11 =>
  ap (r10.1) fun x12 =>
  if x12 = 0 then
 (mj_Ru_go_19 a1 a2 a3 μ11)
 else
 (mj_Ru_go_27 a1 a2 a3 μ11))
 else
 (mj_Ru_go_27 a1 a2 a3 μ))
theorem t_Ru_go {a1 : Int32} {a2 : Int32} {a3 : Int32} {μ : Mem} {q : Mem} (h : m_Ru_go a1 a2 a3 μ = some q) : JM true (1) y_Ru_go b_Ru_go 4 none 0 0 [vr 9 (0), vi (a1), vi (a2), vi (a3)] μ (QQ none q) := by
  unfold m_Ru_go at h
  refine JM.of pl_Ru_go (fun ρ => Nat.le_of_ble_eq_true rfl) ?_
  show J (GM true (QQ none q) none y_Ru_go.name) true b_Ru_go R_9 4 (1) 0 0 0 [(0, vr 9 (0)), (1, vi (a1)), (2, vi (a2)), (3, vi (a3))] [] μ
  refine J_iload_n (q := 1) 1 d_Ru_go_0 rfl rfl rfl ?_
  refine J_bipush (q := 3) (v := (16 : Int32)) d_Ru_go_1 (by decide) rfl ?_
  refine J_icmp_eq (q := 6) (tgt := 19) d_Ru_go_3 (by decide) rfl (fun hc => ?_) (fun hc => ?_)
  · rw [if_pos hc] at h
    refine J_pick [0, 2] rfl ?_
    exact tj_Ru_go_19 a1 a2 a3 _ h
  · rw [if_neg hc] at h
    refine J_iload_n (q := 7) 1 d_Ru_go_6 rfl rfl rfl ?_
    refine J_bipush (q := 9) (v := (17 : Int32)) d_Ru_go_7 (by decide) rfl ?_
    refine J_icmp_ne (q := 12) (tgt := 27) d_Ru_go_9 (by decide) rfl (fun hc => ?_) (fun hc => ?_)
    · rw [if_neg hc] at h
      refine J_pick [0, 1, 2, 3] rfl ?_
      exact tj_Ru_go_27 a1 a2 a3 _ h
    · rw [if_pos hc] at h
      refine J_aload_n (q := 13) 0 d_Ru_go_12 rfl rfl rfl ?_
      obtain ⟨r10, hr10, h⟩ := bd_some h
      refine J_callVq (rc := 0) (rs := 0) (q := 16) (as := []) (st := []) (by decide) rfl g_875 sel_Ru_pop (t_Ru_pop hr10) (by decide) (by decide) g_873 g_876 g_5 hy_Ru_pop rfl (Nat.le_of_ble_eq_true rfl) d_Ru_go_13 rfl ?_
      obtain ⟨μ11, hμ11, h⟩ := ap_eq h
      refine J_nmM hμ11 ?_
      obtain ⟨x12, hx12, h⟩ := ap_eq h
      refine J_nmI hx12 ?_
      refine J_if_ne (q := 19) (tgt := 27) d_Ru_go_16 (by decide) rfl (fun hc => ?_) (fun hc => ?_)
      · rw [if_neg hc] at h
        refine J_pick [0, 1, 2, 3] rfl ?_
        exact tj_Ru_go_27 a1 a2 a3 _ h
      · rw [if_pos hc] at h
        refine J_pick [0, 2] rfl ?_
        exact tj_Ru_go_19 a1 a2 a3 _ h
def m_Ru_toGrid (a1 : Int64) (μ : Mem) : Option (Int64) :=
  Option.bind (m_Fo_rounded (a1) ((64 : Int64)) μ) fun r1 =>
  some ((64 : Int64) * r1)
theorem t_Ru_toGrid {a1 : Int64} {μ : Mem} {q : Int64} (h : m_Ru_toGrid a1 μ = some q) : JM true (2) y_Ru_toGrid b_Ru_toGrid 2 (some (.long)) 0 0 [vl (a1)] μ (QQ (some (vl q)) μ) := by
  unfold m_Ru_toGrid at h
  refine JM.of pl_Ru_toGrid (fun ρ => Nat.le_of_ble_eq_true rfl) ?_
  show J (GM true (QQ (some (vl q)) μ) (some (.long)) y_Ru_toGrid.name) true b_Ru_toGrid R_9 2 (2) 0 0 0 [(0, vl (a1))] [] μ
  refine J_ldc2 (q := 3) d_Ru_toGrid_0 g_888 rfl ?_
  refine J_lload_n (q := 4) 0 d_Ru_toGrid_3 rfl rfl rfl ?_
  refine J_ldc2 (q := 7) d_Ru_toGrid_4 g_888 rfl ?_
  obtain ⟨r1, hr1, h⟩ := bd_some h
  refine J_callSNq (rc := 0) (rs := 0) (q := 10) (as := [vl (a1), vl ((64 : Int64))]) (st := [vl ((64 : Int64))]) g_630 (t_Fo_rounded hr1) (by decide) (by decide) nn_18 g_631 g_1 hy_Fo_rounded rfl (Nat.le_of_ble_eq_true rfl) d_Ru_toGrid_7 rfl ?_
  refine J_lmul (q := 11) d_Ru_toGrid_10 rfl ?_
  obtain rfl := Option.some.inj h
  exact J_lret rfl ⟨rfl, rfl⟩ d_Ru_toGrid_11
def m_Ru_ofOne (a1 : Int32) (a2 : Int64) (μ : Mem) : Option (Int64) :=
  if a1 = (8 : Int32) then
 (some (-(a2)))
 else if a1 = (9 : Int32) then
 (some ((m_Ma_abs (a2) μ)))
 else if a1 = (10 : Int32) then
 (Option.bind (m_Ru_toGrid (a2) μ) fun r1 =>
  some (r1))
 else (Option.bind (m_Ma_floorDiv (a2) ((64 : Int64)) μ) fun r2 =>
  some ((64 : Int64) * r2))
theorem t_Ru_ofOne {a1 : Int32} {a2 : Int64} {μ : Mem} {q : Int64} (h : m_Ru_ofOne a1 a2 μ = some q) : JM true (3) y_Ru_ofOne b_Ru_ofOne 3 (some (.long)) 0 0 [vi (a1), vl (a2)] μ (QQ (some (vl q)) μ) := by
  unfold m_Ru_ofOne at h
  refine JM.of pl_Ru_ofOne (fun ρ => Nat.le_of_ble_eq_true rfl) ?_
  show J (GM true (QQ (some (vl q)) μ) (some (.long)) y_Ru_ofOne.name) true b_Ru_ofOne R_9 3 (3) 0 0 0 [(0, vi (a1)), (1, vl (a2))] [] μ
  refine J_iload_n (q := 1) 0 d_Ru_ofOne_0 rfl rfl rfl ?_
  by_cases hk0 : a1 = (8 : Int32)
  · rw [if_pos hk0] at h
    refine J_swIn (tgt := 28) d_Ru_ofOne_1 (by rw [hk0]; decide) (by rw [hk0]; decide) (by rw [hk0]; rfl) (by decide) ?_
    refine J_lload_n (q := 29) 1 d_Ru_ofOne_28 rfl rfl rfl ?_
    refine J_lneg (q := 30) d_Ru_ofOne_29 rfl ?_
    obtain rfl := Option.some.inj h
    exact J_lret rfl ⟨rfl, rfl⟩ d_Ru_ofOne_30
  rw [if_neg hk0] at h
  by_cases hk1 : a1 = (9 : Int32)
  · rw [if_pos hk1] at h
    refine J_swIn (tgt := 31) d_Ru_ofOne_1 (by rw [hk1]; decide) (by rw [hk1]; decide) (by rw [hk1]; rfl) (by decide) ?_
    refine J_lload_n (q := 32) 1 d_Ru_ofOne_31 rfl rfl rfl ?_
    refine J_callSq (rc := 0) (rs := 0) (q := 35) (as := [vl (a2)]) (st := []) g_633 (t_Ma_abs rfl) (by decide) (by decide) g_884 g_634 g_15 hy_Ma_abs rfl (Nat.le_of_ble_eq_true rfl) d_Ru_ofOne_32 rfl ?_
    obtain rfl := Option.some.inj h
    exact J_lret rfl ⟨rfl, rfl⟩ d_Ru_ofOne_35
  rw [if_neg hk1] at h
  by_cases hk2 : a1 = (10 : Int32)
  · rw [if_pos hk2] at h
    refine J_swIn (tgt := 36) d_Ru_ofOne_1 (by rw [hk2]; decide) (by rw [hk2]; decide) (by rw [hk2]; rfl) (by decide) ?_
    refine J_lload_n (q := 37) 1 d_Ru_ofOne_36 rfl rfl rfl ?_
    obtain ⟨r1, hr1, h⟩ := bd_some h
    refine J_callSq (rc := 0) (rs := 0) (q := 40) (as := [vl (a2)]) (st := []) g_886 (t_Ru_toGrid hr1) (by decide) (by decide) g_885 g_887 g_5 hy_Ru_toGrid rfl (Nat.le_of_ble_eq_true rfl) d_Ru_ofOne_37 rfl ?_
    obtain rfl := Option.some.inj h
    exact J_lret rfl ⟨rfl, rfl⟩ d_Ru_ofOne_40
  rw [if_neg hk2] at h
  refine J_swOut (tgt := 41) d_Ru_ofOne_1 (by have e0 := lv_neT hk0 (a := 8) (by decide); have e1 := lv_neT hk1 (a := 9) (by decide); have e2 := lv_neT hk2 (a := 10) (by decide); omega) (by decide) ?_
  refine J_ldc2 (q := 44) d_Ru_ofOne_41 g_888 rfl ?_
  refine J_lload_n (q := 45) 1 d_Ru_ofOne_44 rfl rfl rfl ?_
  refine J_ldc2 (q := 48) d_Ru_ofOne_45 g_888 rfl ?_
  obtain ⟨r2, hr2, h⟩ := bd_some h
  refine J_callSq (rc := 0) (rs := 0) (q := 51) (as := [vl (a2), vl ((64 : Int64))]) (st := [vl ((64 : Int64))]) g_636 (t_Ma_floorDiv hr2) (by decide) (by decide) g_890 g_637 g_15 hy_Ma_floorDiv rfl (Nat.le_of_ble_eq_true rfl) d_Ru_ofOne_48 rfl ?_
  refine J_lmul (q := 52) d_Ru_ofOne_51 rfl ?_
  obtain rfl := Option.some.inj h
  exact J_lret rfl ⟨rfl, rfl⟩ d_Ru_ofOne_52
def m_Ru_pushNumber (a1 : Int64) (μ : Mem) : Option (Int32 × Mem) :=
  if (m_Fo_within (a1) ((-1000000000 : Int64)) ((1000000000 : Int64)) μ) then
 (Option.bind (m_Ru_push ((a1).toInt32) μ) fun r1 =>
  some (((0 : Int32), r1)))
 else
 (some (((8 : Int32), μ)))
theorem t_Ru_pushNumber {a1 : Int64} {μ : Mem} {q : Int32 × Mem} (h : m_Ru_pushNumber a1 μ = some q) : JM true (1) y_Ru_pushNumber b_Ru_pushNumber 3 (some (.int)) 0 0 [vr 9 (0), vl (a1)] μ (QQ (some (vi q.1)) q.2) := by
  unfold m_Ru_pushNumber at h
  refine JM.of pl_Ru_pushNumber (fun ρ => Nat.le_of_ble_eq_true rfl) ?_
  show J (GM true (QQ (some (vi q.1)) q.2) (some (.int)) y_Ru_pushNumber.name) true b_Ru_pushNumber R_9 3 (1) 0 0 0 [(0, vr 9 (0)), (1, vl (a1))] [] μ
  refine J_lload_n (q := 1) 1 d_Ru_pushNumber_0 rfl rfl rfl ?_
  refine J_ldc2 (q := 4) d_Ru_pushNumber_1 g_895 rfl ?_
  refine J_ldc2 (q := 7) d_Ru_pushNumber_4 g_896 rfl ?_
  refine J_callSNq (rc := 0) (rs := 0) (q := 10) (as := [vl (a1), vl ((-1000000000 : Int64)), vl ((1000000000 : Int64))]) (st := []) g_300 (t_Fo_within rfl) (by decide) (by decide) nn_16 g_301 g_1 hy_Fo_within rfl (Nat.le_of_ble_eq_true rfl) d_Ru_pushNumber_7 rfl ?_
  refine J_ifB_ne (q := 13) (tgt := 16) d_Ru_pushNumber_10 (by decide) rfl (fun hb => ?_) (fun hb => ?_)
  · rw [iB_t hb] at h
    refine J_aload_n (q := 17) 0 d_Ru_pushNumber_16 rfl rfl rfl ?_
    refine J_lload_n (q := 18) 1 d_Ru_pushNumber_17 rfl rfl rfl ?_
    refine J_l2i (q := 19) d_Ru_pushNumber_18 rfl ?_
    obtain ⟨r1, hr1, h⟩ := bd_some h
    refine J_callVv (rc := 0) (rs := 0) (q := 22) (as := [vi ((a1).toInt32)]) (st := []) (by decide) rfl g_871 sel_Ru_push (t_Ru_push hr1) (by decide) (by decide) g_869 g_872 g_5 hy_Ru_push rfl (Nat.le_of_ble_eq_true rfl) d_Ru_pushNumber_19 rfl ?_
    refine J_iconst (q := 23) (v := (0 : Int32)) d_Ru_pushNumber_22 (by decide) rfl ?_
    obtain rfl := Option.some.inj h
    exact J_iret rfl ⟨rfl, rfl⟩ d_Ru_pushNumber_23
  · rw [iB_f hb] at h
    refine J_bipush (q := 15) (v := (8 : Int32)) d_Ru_pushNumber_13 (by decide) rfl ?_
    obtain rfl := Option.some.inj h
    exact J_iret rfl ⟨rfl, rfl⟩ d_Ru_pushNumber_15
def mj_Ru_ofTwo_114 (a1 : Int32) (a2 : Int64) (a3 : Int64) (μ : Mem) : Option (Int64) :=
  if a2 = a3 then
 (some ((64 : Int64)))
 else
 (some ((0 : Int64)))
theorem tj_Ru_ofTwo_114 (a1 : Int32) (a2 : Int64) (a3 : Int64) (μ : Mem) {q : Int64}  (h : mj_Ru_ofTwo_114 a1 a2 a3 μ  = some q) : J (GM true (QQ (some (vl q)) μ) (some (.long)) y_Ru_ofTwo.name) true b_Ru_ofTwo R_9 5 (2) 0 0 114 [(1, vl (a2)), (3, vl (a3))] [] μ := by
  unfold mj_Ru_ofTwo_114 at h
  refine J_lload_n (q := 115) 0 d_Ru_ofTwo_114 rfl rfl rfl ?_
  refine J_lload_n (q := 116) 1 d_Ru_ofTwo_115 rfl rfl rfl ?_
  refine J_lif_ne (q := 120) (tgt := 126) d_Ru_ofTwo_116 d_Ru_ofTwo_117 (by decide) rfl (fun hc => ?_) (fun hc => ?_)
  · rw [if_neg hc] at h
    refine J_lconst (q := 127) (v := (0 : Int64)) d_Ru_ofTwo_126 (by decide) rfl ?_
    obtain rfl := Option.some.inj h
    exact J_lret rfl ⟨rfl, rfl⟩ d_Ru_ofTwo_127
  · rw [if_pos hc] at h
    refine J_ldc2 (q := 123) d_Ru_ofTwo_120 g_888 rfl ?_
    refine J_goto (q := 127) d_Ru_ofTwo_123 (by decide) ?_
    obtain rfl := Option.some.inj h
    exact J_lret rfl ⟨rfl, rfl⟩ d_Ru_ofTwo_127
def m_Ru_ofTwo (a1 : Int32) (a2 : Int64) (a3 : Int64) (μ : Mem) : Option (Int64) :=
  if a1 = (4 : Int32) then
 (some (a2 + a3))
 else if a1 = (5 : Int32) then
 (some (a2 - a3))
 else if a1 = (6 : Int32) then
 (Option.bind (m_Fo_rounded (a2 * a3) ((64 : Int64)) μ) fun r1 =>
  some (r1))
 else if a1 = (7 : Int32) then
 (Option.bind (m_Fo_rounded ((64 : Int64) * a2) (a3) μ) fun r2 =>
  some (r2))
 else if a1 = (8 : Int32) then
 (mj_Ru_ofTwo_114 a1 a2 a3 μ )
 else if a1 = (9 : Int32) then
 (mj_Ru_ofTwo_114 a1 a2 a3 μ )
 else if a1 = (10 : Int32) then
 (mj_Ru_ofTwo_114 a1 a2 a3 μ )
 else if a1 = (11 : Int32) then
 (mj_Ru_ofTwo_114 a1 a2 a3 μ )
 else if a1 = (12 : Int32) then
 (some ((m_Ma_min (a2) (a3) μ)))
 else if a1 = (13 : Int32) then
 (some ((m_Ma_max2 (a2) (a3) μ)))
 else if a1 = (14 : Int32) then
 (if a3 ≤ a2 then
 (some ((0 : Int64)))
 else
 (some ((64 : Int64))))
 else (mj_Ru_ofTwo_114 a1 a2 a3 μ )
theorem t_Ru_ofTwo {a1 : Int32} {a2 : Int64} {a3 : Int64} {μ : Mem} {q : Int64} (h : m_Ru_ofTwo a1 a2 a3 μ = some q) : JM true (2) y_Ru_ofTwo b_Ru_ofTwo 5 (some (.long)) 0 0 [vi (a1), vl (a2), vl (a3)] μ (QQ (some (vl q)) μ) := by
  unfold m_Ru_ofTwo at h
  refine JM.of pl_Ru_ofTwo (fun ρ => Nat.le_of_ble_eq_true rfl) ?_
  show J (GM true (QQ (some (vl q)) μ) (some (.long)) y_Ru_ofTwo.name) true b_Ru_ofTwo R_9 5 (2) 0 0 0 [(0, vi (a1)), (1, vl (a2)), (3, vl (a3))] [] μ
  refine J_iload_n (q := 1) 0 d_Ru_ofTwo_0 rfl rfl rfl ?_
  by_cases hk0 : a1 = (4 : Int32)
  · rw [if_pos hk0] at h
    refine J_swIn (tgt := 60) d_Ru_ofTwo_1 (by rw [hk0]; decide) (by rw [hk0]; decide) (by rw [hk0]; rfl) (by decide) ?_
    refine J_lload_n (q := 61) 1 d_Ru_ofTwo_60 rfl rfl rfl ?_
    refine J_lload_n (q := 62) 2 d_Ru_ofTwo_61 rfl rfl rfl ?_
    refine J_ladd (q := 63) d_Ru_ofTwo_62 rfl ?_
    obtain rfl := Option.some.inj h
    exact J_lret rfl ⟨rfl, rfl⟩ d_Ru_ofTwo_63
  rw [if_neg hk0] at h
  by_cases hk1 : a1 = (5 : Int32)
  · rw [if_pos hk1] at h
    refine J_swIn (tgt := 64) d_Ru_ofTwo_1 (by rw [hk1]; decide) (by rw [hk1]; decide) (by rw [hk1]; rfl) (by decide) ?_
    refine J_lload_n (q := 65) 1 d_Ru_ofTwo_64 rfl rfl rfl ?_
    refine J_lload_n (q := 66) 2 d_Ru_ofTwo_65 rfl rfl rfl ?_
    refine J_lsub (q := 67) d_Ru_ofTwo_66 rfl ?_
    obtain rfl := Option.some.inj h
    exact J_lret rfl ⟨rfl, rfl⟩ d_Ru_ofTwo_67
  rw [if_neg hk1] at h
  by_cases hk2 : a1 = (6 : Int32)
  · rw [if_pos hk2] at h
    refine J_swIn (tgt := 68) d_Ru_ofTwo_1 (by rw [hk2]; decide) (by rw [hk2]; decide) (by rw [hk2]; rfl) (by decide) ?_
    refine J_lload_n (q := 69) 1 d_Ru_ofTwo_68 rfl rfl rfl ?_
    refine J_lload_n (q := 70) 2 d_Ru_ofTwo_69 rfl rfl rfl ?_
    refine J_lmul (q := 71) d_Ru_ofTwo_70 rfl ?_
    refine J_ldc2 (q := 74) d_Ru_ofTwo_71 g_888 rfl ?_
    obtain ⟨r1, hr1, h⟩ := bd_some h
    refine J_callSNq (rc := 0) (rs := 0) (q := 77) (as := [vl (a2 * a3), vl ((64 : Int64))]) (st := []) g_630 (t_Fo_rounded hr1) (by decide) (by decide) nn_18 g_631 g_1 hy_Fo_rounded rfl (Nat.le_of_ble_eq_true rfl) d_Ru_ofTwo_74 rfl ?_
    obtain rfl := Option.some.inj h
    exact J_lret rfl ⟨rfl, rfl⟩ d_Ru_ofTwo_77
  rw [if_neg hk2] at h
  by_cases hk3 : a1 = (7 : Int32)
  · rw [if_pos hk3] at h
    refine J_swIn (tgt := 78) d_Ru_ofTwo_1 (by rw [hk3]; decide) (by rw [hk3]; decide) (by rw [hk3]; rfl) (by decide) ?_
    refine J_ldc2 (q := 81) d_Ru_ofTwo_78 g_888 rfl ?_
    refine J_lload_n (q := 82) 1 d_Ru_ofTwo_81 rfl rfl rfl ?_
    refine J_lmul (q := 83) d_Ru_ofTwo_82 rfl ?_
    refine J_lload_n (q := 84) 2 d_Ru_ofTwo_83 rfl rfl rfl ?_
    obtain ⟨r2, hr2, h⟩ := bd_some h
    refine J_callSNq (rc := 0) (rs := 0) (q := 87) (as := [vl ((64 : Int64) * a2), vl (a3)]) (st := []) g_630 (t_Fo_rounded hr2) (by decide) (by decide) nn_18 g_631 g_1 hy_Fo_rounded rfl (Nat.le_of_ble_eq_true rfl) d_Ru_ofTwo_84 rfl ?_
    obtain rfl := Option.some.inj h
    exact J_lret rfl ⟨rfl, rfl⟩ d_Ru_ofTwo_87
  rw [if_neg hk3] at h
  by_cases hk4 : a1 = (8 : Int32)
  · rw [if_pos hk4] at h
    refine J_swIn (tgt := 114) d_Ru_ofTwo_1 (by rw [hk4]; decide) (by rw [hk4]; decide) (by rw [hk4]; rfl) (by decide) ?_
    refine J_pick [1, 2] rfl ?_
    exact tj_Ru_ofTwo_114 a1 a2 a3 μ h
  rw [if_neg hk4] at h
  by_cases hk5 : a1 = (9 : Int32)
  · rw [if_pos hk5] at h
    refine J_swIn (tgt := 114) d_Ru_ofTwo_1 (by rw [hk5]; decide) (by rw [hk5]; decide) (by rw [hk5]; rfl) (by decide) ?_
    refine J_pick [1, 2] rfl ?_
    exact tj_Ru_ofTwo_114 a1 a2 a3 μ h
  rw [if_neg hk5] at h
  by_cases hk6 : a1 = (10 : Int32)
  · rw [if_pos hk6] at h
    refine J_swIn (tgt := 114) d_Ru_ofTwo_1 (by rw [hk6]; decide) (by rw [hk6]; decide) (by rw [hk6]; rfl) (by decide) ?_
    refine J_pick [1, 2] rfl ?_
    exact tj_Ru_ofTwo_114 a1 a2 a3 μ h
  rw [if_neg hk6] at h
  by_cases hk7 : a1 = (11 : Int32)
  · rw [if_pos hk7] at h
    refine J_swIn (tgt := 114) d_Ru_ofTwo_1 (by rw [hk7]; decide) (by rw [hk7]; decide) (by rw [hk7]; rfl) (by decide) ?_
    refine J_pick [1, 2] rfl ?_
    exact tj_Ru_ofTwo_114 a1 a2 a3 μ h
  rw [if_neg hk7] at h
  by_cases hk8 : a1 = (12 : Int32)
  · rw [if_pos hk8] at h
    refine J_swIn (tgt := 88) d_Ru_ofTwo_1 (by rw [hk8]; decide) (by rw [hk8]; decide) (by rw [hk8]; rfl) (by decide) ?_
    refine J_lload_n (q := 89) 1 d_Ru_ofTwo_88 rfl rfl rfl ?_
    refine J_lload_n (q := 90) 2 d_Ru_ofTwo_89 rfl rfl rfl ?_
    refine J_callSq (rc := 0) (rs := 0) (q := 93) (as := [vl (a2), vl (a3)]) (st := []) g_764 (t_Ma_min rfl) (by decide) (by decide) g_904 g_765 g_15 hy_Ma_min rfl (Nat.le_of_ble_eq_true rfl) d_Ru_ofTwo_90 rfl ?_
    obtain rfl := Option.some.inj h
    exact J_lret rfl ⟨rfl, rfl⟩ d_Ru_ofTwo_93
  rw [if_neg hk8] at h
  by_cases hk9 : a1 = (13 : Int32)
  · rw [if_pos hk9] at h
    refine J_swIn (tgt := 94) d_Ru_ofTwo_1 (by rw [hk9]; decide) (by rw [hk9]; decide) (by rw [hk9]; rfl) (by decide) ?_
    refine J_lload_n (q := 95) 1 d_Ru_ofTwo_94 rfl rfl rfl ?_
    refine J_lload_n (q := 96) 2 d_Ru_ofTwo_95 rfl rfl rfl ?_
    refine J_callSq (rc := 0) (rs := 0) (q := 99) (as := [vl (a2), vl (a3)]) (st := []) g_767 (t_Ma_max2 rfl) (by decide) (by decide) g_905 g_768 g_15 hy_Ma_max2 rfl (Nat.le_of_ble_eq_true rfl) d_Ru_ofTwo_96 rfl ?_
    obtain rfl := Option.some.inj h
    exact J_lret rfl ⟨rfl, rfl⟩ d_Ru_ofTwo_99
  rw [if_neg hk9] at h
  by_cases hk10 : a1 = (14 : Int32)
  · rw [if_pos hk10] at h
    refine J_swIn (tgt := 100) d_Ru_ofTwo_1 (by rw [hk10]; decide) (by rw [hk10]; decide) (by rw [hk10]; rfl) (by decide) ?_
    refine J_lload_n (q := 101) 1 d_Ru_ofTwo_100 rfl rfl rfl ?_
    refine J_lload_n (q := 102) 2 d_Ru_ofTwo_101 rfl rfl rfl ?_
    refine J_lif_ge (q := 106) (tgt := 112) d_Ru_ofTwo_102 d_Ru_ofTwo_103 (by decide) rfl (fun hc => ?_) (fun hc => ?_)
    · rw [if_pos hc] at h
      refine J_lconst (q := 113) (v := (0 : Int64)) d_Ru_ofTwo_112 (by decide) rfl ?_
      obtain rfl := Option.some.inj h
      exact J_lret rfl ⟨rfl, rfl⟩ d_Ru_ofTwo_113
    · rw [if_neg hc] at h
      refine J_ldc2 (q := 109) d_Ru_ofTwo_106 g_888 rfl ?_
      refine J_goto (q := 113) d_Ru_ofTwo_109 (by decide) ?_
      obtain rfl := Option.some.inj h
      exact J_lret rfl ⟨rfl, rfl⟩ d_Ru_ofTwo_113
  rw [if_neg hk10] at h
  refine J_swOut (tgt := 114) d_Ru_ofTwo_1 (by have e0 := lv_neT hk0 (a := 4) (by decide); have e1 := lv_neT hk1 (a := 5) (by decide); have e2 := lv_neT hk2 (a := 6) (by decide); have e3 := lv_neT hk3 (a := 7) (by decide); have e4 := lv_neT hk4 (a := 8) (by decide); have e5 := lv_neT hk5 (a := 9) (by decide); have e6 := lv_neT hk6 (a := 10) (by decide); have e7 := lv_neT hk7 (a := 11) (by decide); have e8 := lv_neT hk8 (a := 12) (by decide); have e9 := lv_neT hk9 (a := 13) (by decide); have e10 := lv_neT hk10 (a := 14) (by decide); omega) (by decide) ?_
  refine J_pick [1, 2] rfl ?_
  exact tj_Ru_ofTwo_114 a1 a2 a3 μ h
def m_Ru_reckonTwo (a1 : Int32) (μ : Mem) : Option (Int32 × Mem) :=
  Option.bind (m_Ru_pop  μ) fun r1 =>
  ap (r1.2) fun μ2 =>
  ap (r1.1) fun x3 =>
  ap ((x3).toInt64) fun x4 =>
  Option.bind (m_Ru_pop  μ2) fun r5 =>
  ap (r5.2) fun μ6 =>
  ap (r5.1) fun x7 =>
  ap ((x7).toInt64) fun x8 =>
  Option.bind (m_Ru_ofTwo (a1) (x8) (x4) μ6) fun r9 =>
  Option.bind (m_Ru_pushNumber (r9) μ6) fun r10 =>
  ap (r10.2) fun μ11 =>
  ap (r10.1) fun x12 =>
  some ((x12, μ11))
theorem t_Ru_reckonTwo {a1 : Int32} {μ : Mem} {q : Int32 × Mem} (h : m_Ru_reckonTwo a1 μ = some q) : JM true (3) y_Ru_reckonTwo b_Ru_reckonTwo 6 (some (.int)) 0 0 [vr 9 (0), vi (a1)] μ (QQ (some (vi q.1)) q.2) := by
  unfold m_Ru_reckonTwo at h
  refine JM.of pl_Ru_reckonTwo (fun ρ => Nat.le_of_ble_eq_true rfl) ?_
  show J (GM true (QQ (some (vi q.1)) q.2) (some (.int)) y_Ru_reckonTwo.name) true b_Ru_reckonTwo R_9 6 (3) 0 0 0 [(0, vr 9 (0)), (1, vi (a1))] [] μ
  refine J_aload_n (q := 1) 0 d_Ru_reckonTwo_0 rfl rfl rfl ?_
  obtain ⟨r1, hr1, h⟩ := bd_some h
  refine J_callVq (rc := 0) (rs := 0) (q := 4) (as := []) (st := []) (by decide) rfl g_875 sel_Ru_pop (t_Ru_pop hr1) (by decide) (by decide) g_873 g_876 g_5 hy_Ru_pop rfl (Nat.le_of_ble_eq_true rfl) d_Ru_reckonTwo_1 rfl ?_
  obtain ⟨μ2, hμ2, h⟩ := ap_eq h
  refine J_nmM hμ2 ?_
  obtain ⟨x3, hx3, h⟩ := ap_eq h
  refine J_nmI hx3 ?_
  refine J_i2l (q := 5) d_Ru_reckonTwo_4 rfl ?_
  obtain ⟨x4, hx4, h⟩ := ap_eq h
  refine J_nmL hx4 ?_
  refine J_lstore_n (q := 6) (lv' := [(2, vl (x4)), (0, vr 9 (0)), (1, vi (a1))]) d_Ru_reckonTwo_5 rfl (by decide) rfl rfl ?_
  refine J_aload_n (q := 7) 1 d_Ru_reckonTwo_6 rfl rfl rfl ?_
  obtain ⟨r5, hr5, h⟩ := bd_some h
  refine J_callVq (rc := 0) (rs := 0) (q := 10) (as := []) (st := []) (by decide) rfl g_875 sel_Ru_pop (t_Ru_pop hr5) (by decide) (by decide) g_873 g_876 g_5 hy_Ru_pop rfl (Nat.le_of_ble_eq_true rfl) d_Ru_reckonTwo_7 rfl ?_
  obtain ⟨μ6, hμ6, h⟩ := ap_eq h
  refine J_nmM hμ6 ?_
  obtain ⟨x7, hx7, h⟩ := ap_eq h
  refine J_nmI hx7 ?_
  refine J_i2l (q := 11) d_Ru_reckonTwo_10 rfl ?_
  obtain ⟨x8, hx8, h⟩ := ap_eq h
  refine J_nmL hx8 ?_
  refine J_lstore (q := 13) (lv' := [(4, vl (x8)), (2, vl (x4)), (0, vr 9 (0)), (1, vi (a1))]) d_Ru_reckonTwo_11 (by decide) rfl rfl ?_
  refine J_aload_n (q := 14) 2 d_Ru_reckonTwo_13 rfl rfl rfl ?_
  refine J_iload_n (q := 15) 3 d_Ru_reckonTwo_14 rfl rfl rfl ?_
  refine J_lload (q := 17) 0 d_Ru_reckonTwo_15 rfl rfl ?_
  refine J_lload_n (q := 18) 1 d_Ru_reckonTwo_17 rfl rfl rfl ?_
  obtain ⟨r9, hr9, h⟩ := bd_some h
  refine J_callSq (rc := 0) (rs := 0) (q := 21) (as := [vi (a1), vl (x8), vl (x4)]) (st := [vr 9 (0)]) g_902 (t_Ru_ofTwo hr9) (by decide) (by decide) g_901 g_903 g_5 hy_Ru_ofTwo rfl (Nat.le_of_ble_eq_true rfl) d_Ru_reckonTwo_18 rfl ?_
  obtain ⟨r10, hr10, h⟩ := bd_some h
  refine J_callVq (rc := 0) (rs := 0) (q := 24) (as := [vl (r9)]) (st := []) (by decide) rfl g_893 sel_Ru_pushNumber (t_Ru_pushNumber hr10) (by decide) (by decide) g_891 g_894 g_5 hy_Ru_pushNumber rfl (Nat.le_of_ble_eq_true rfl) d_Ru_reckonTwo_21 rfl ?_
  obtain ⟨μ11, hμ11, h⟩ := ap_eq h
  refine J_nmM hμ11 ?_
  obtain ⟨x12, hx12, h⟩ := ap_eq h
  refine J_nmI hx12 ?_
  obtain rfl := Option.some.inj h
  exact J_iret rfl ⟨rfl, rfl⟩ d_Ru_reckonTwo_24
def m_Fit_touch (o : Nat) (a1 : Int32) (a2 : Int32) (a3 : Int32) (μ : Mem) : Option (Mem) :=
  gu (a1) 2 <|
  gu (a2) 100 <|
  ap (sI μ 501 (2 * o + a1.toNatClampNeg) a2.toNatClampNeg (a3)) fun μ3 =>
  gu (a1) 2 <|
  gu (a2) 100 <|
  ap (sI μ3 502 (2 * o + a1.toNatClampNeg) a2.toNatClampNeg ((1 : Int32))) fun μ6 =>
  some μ6
theorem t_Fit_touch {o : Nat} {a1 : Int32} {a2 : Int32} {a3 : Int32} {μ : Mem} {q : Mem} (h : m_Fit_touch o a1 a2 a3 μ = some q) : JM true (0) y_Fit_touch b_Fit_touch 4 none 0 0 [vr 0 (o), vi (a1), vi (a2), vi (a3)] μ (QQ none q) := by
  unfold m_Fit_touch at h
  refine JM.of pl_Fit_touch (fun ρ => Nat.le_of_ble_eq_true rfl) ?_
  show J (GM true (QQ none q) none y_Fit_touch.name) true b_Fit_touch R_0 4 (0) 0 0 0 [(0, vr 0 (o)), (1, vi (a1)), (2, vi (a2)), (3, vi (a3))] [] μ
  refine J_aload_n (q := 1) 0 d_Fit_touch_0 rfl rfl rfl ?_
  refine J_getF (q := 4) cd_0 (by decide) ft_0_1 rfl g_171 rfl d_Fit_touch_1 rfl ?_
  refine J_iload_n (q := 5) 1 d_Fit_touch_4 rfl rfl rfl ?_
  obtain ⟨hi1, h⟩ := gu_some h
  refine J_ald6 (q := 6) rk_101 (by decide) hi1 d_Fit_touch_5 rfl ?_
  refine J_iload_n (q := 7) 2 d_Fit_touch_6 rfl rfl rfl ?_
  refine J_iload_n (q := 8) 3 d_Fit_touch_7 rfl rfl rfl ?_
  obtain ⟨hi2, h⟩ := gu_some h
  refine J_iast (q := 9) rk_501 (by decide) hi2 d_Fit_touch_8 rfl ?_
  obtain ⟨μ3, hμ3, h⟩ := ap_eq h
  refine J_nmM hμ3 ?_
  refine J_aload_n (q := 10) 0 d_Fit_touch_9 rfl rfl rfl ?_
  refine J_getF (q := 13) cd_0 (by decide) ft_0_2 rfl g_174 rfl d_Fit_touch_10 rfl ?_
  refine J_iload_n (q := 14) 1 d_Fit_touch_13 rfl rfl rfl ?_
  obtain ⟨hi4, h⟩ := gu_some h
  refine J_ald6 (q := 15) rk_102 (by decide) hi4 d_Fit_touch_14 rfl ?_
  refine J_iload_n (q := 16) 2 d_Fit_touch_15 rfl rfl rfl ?_
  refine J_iconst (q := 17) (v := (1 : Int32)) d_Fit_touch_16 (by decide) rfl ?_
  obtain ⟨hi5, h⟩ := gu_some h
  refine J_iast (q := 18) rk_502 (by decide) hi5 d_Fit_touch_17 rfl ?_
  obtain ⟨μ6, hμ6, h⟩ := ap_eq h
  refine J_nmM hμ6 ?_
  obtain rfl := Option.some.inj h
  exact J_vret rfl ⟨rfl, rfl⟩ d_Fit_touch_18
def m_Ru_usePoint (a1 : Int32) (a2 : Int32) (a3 : Nat) (μ : Mem) : Option (Mem) :=
  if a1 = (22 : Int32) then
 (gu ((0 : Int32)) 2 <|
  gu (a2) 100 <|
  Option.bind (m_Ru_push (gI μ 501 (2 * a3 + ((0 : Int32)).toNatClampNeg) a2.toNatClampNeg) μ) fun r3 =>
  some r3)
 else if a1 = (23 : Int32) then
 (Option.bind (m_Ru_pop  μ) fun r4 =>
  ap (r4.2) fun μ5 =>
  ap (r4.1) fun x6 =>
  Option.bind (m_Fit_touch (a3) ((0 : Int32)) (a2) (x6) μ5) fun r7 =>
  some r7)
 else if a1 = (24 : Int32) then
 (gu ((1 : Int32)) 2 <|
  gu (a2) 100 <|
  Option.bind (m_Ru_push (gI μ 501 (2 * a3 + ((1 : Int32)).toNatClampNeg) a2.toNatClampNeg) μ) fun r10 =>
  some r10)
 else if a1 = (25 : Int32) then
 (Option.bind (m_Ru_pop  μ) fun r11 =>
  ap (r11.2) fun μ12 =>
  ap (r11.1) fun x13 =>
  Option.bind (m_Fit_touch (a3) ((1 : Int32)) (a2) (x13) μ12) fun r14 =>
  some r14)
 else if a1 = (26 : Int32) then
 (gu ((0 : Int32)) 2 <|
  gu (a2) 100 <|
  Option.bind (m_Ru_toGrid ((gI μ 501 (2 * a3 + ((0 : Int32)).toNatClampNeg) a2.toNatClampNeg).toInt64) μ) fun r17 =>
  Option.bind (m_Fit_touch (a3) ((0 : Int32)) (a2) ((r17).toInt32) μ) fun r18 =>
  some r18)
 else (gu ((1 : Int32)) 2 <|
  gu (a2) 100 <|
  Option.bind (m_Ru_toGrid ((gI μ 501 (2 * a3 + ((1 : Int32)).toNatClampNeg) a2.toNatClampNeg).toInt64) μ) fun r21 =>
  Option.bind (m_Fit_touch (a3) ((1 : Int32)) (a2) ((r21).toInt32) μ) fun r22 =>
  some r22)
theorem t_Ru_usePoint {a1 : Int32} {a2 : Int32} {a3 : Nat} {μ : Mem} {q : Mem} (h : m_Ru_usePoint a1 a2 a3 μ = some q) : JM true (3) y_Ru_usePoint b_Ru_usePoint 4 none 0 0 [vr 9 (0), vi (a1), vi (a2), vr 0 (a3)] μ (QQ none q) := by
  unfold m_Ru_usePoint at h
  refine JM.of pl_Ru_usePoint (fun ρ => Nat.le_of_ble_eq_true rfl) ?_
  show J (GM true (QQ none q) none y_Ru_usePoint.name) true b_Ru_usePoint R_9 4 (3) 0 0 0 [(0, vr 9 (0)), (1, vi (a1)), (2, vi (a2)), (3, vr 0 (a3))] [] μ
  refine J_iload_n (q := 1) 1 d_Ru_usePoint_0 rfl rfl rfl ?_
  by_cases hk0 : a1 = (22 : Int32)
  · rw [if_pos hk0] at h
    refine J_swIn (tgt := 36) d_Ru_usePoint_1 (by rw [hk0]; decide) (by rw [hk0]; decide) (by rw [hk0]; rfl) (by decide) ?_
    refine J_aload_n (q := 37) 0 d_Ru_usePoint_36 rfl rfl rfl ?_
    refine J_aload_n (q := 38) 3 d_Ru_usePoint_37 rfl rfl rfl ?_
    refine J_getF (q := 41) cd_0 (by decide) ft_0_1 rfl g_172 rfl d_Ru_usePoint_38 rfl ?_
    refine J_iconst (q := 42) (v := (0 : Int32)) d_Ru_usePoint_41 (by decide) rfl ?_
    obtain ⟨hi1, h⟩ := gu_some h
    refine J_ald6 (q := 43) rk_101 (by decide) hi1 d_Ru_usePoint_42 rfl ?_
    refine J_iload_n (q := 44) 2 d_Ru_usePoint_43 rfl rfl rfl ?_
    obtain ⟨hi2, h⟩ := gu_some h
    refine J_iald (q := 45) rk_501 (by decide) hi2 d_Ru_usePoint_44 rfl ?_
    obtain ⟨r3, hr3, h⟩ := bd_some h
    refine J_callVv (rc := 0) (rs := 0) (q := 48) (as := [vi (gI μ 501 (2 * a3 + ((0 : Int32)).toNatClampNeg) a2.toNatClampNeg)]) (st := []) (by decide) rfl g_871 sel_Ru_push (t_Ru_push hr3) (by decide) (by decide) g_869 g_872 g_5 hy_Ru_push rfl (Nat.le_of_ble_eq_true rfl) d_Ru_usePoint_45 rfl ?_
    refine J_goto (q := 133) d_Ru_usePoint_48 (by decide) ?_
    obtain rfl := Option.some.inj h
    exact J_vret rfl ⟨rfl, rfl⟩ d_Ru_usePoint_133
  rw [if_neg hk0] at h
  by_cases hk1 : a1 = (23 : Int32)
  · rw [if_pos hk1] at h
    refine J_swIn (tgt := 51) d_Ru_usePoint_1 (by rw [hk1]; decide) (by rw [hk1]; decide) (by rw [hk1]; rfl) (by decide) ?_
    refine J_aload_n (q := 52) 3 d_Ru_usePoint_51 rfl rfl rfl ?_
    refine J_iconst (q := 53) (v := (0 : Int32)) d_Ru_usePoint_52 (by decide) rfl ?_
    refine J_iload_n (q := 54) 2 d_Ru_usePoint_53 rfl rfl rfl ?_
    refine J_aload_n (q := 55) 0 d_Ru_usePoint_54 rfl rfl rfl ?_
    obtain ⟨r4, hr4, h⟩ := bd_some h
    refine J_callVq (rc := 0) (rs := 0) (q := 58) (as := []) (st := [vi (a2), vi ((0 : Int32)), vr 0 (a3)]) (by decide) rfl g_875 sel_Ru_pop (t_Ru_pop hr4) (by decide) (by decide) g_873 g_876 g_5 hy_Ru_pop rfl (Nat.le_of_ble_eq_true rfl) d_Ru_usePoint_55 rfl ?_
    obtain ⟨μ5, hμ5, h⟩ := ap_eq h
    refine J_nmM hμ5 ?_
    obtain ⟨x6, hx6, h⟩ := ap_eq h
    refine J_nmI hx6 ?_
    obtain ⟨r7, hr7, h⟩ := bd_some h
    refine J_callVv (rc := 0) (rs := 0) (q := 61) (as := [vi ((0 : Int32)), vi (a2), vi (x6)]) (st := []) (by decide) rfl g_915 g_916 (t_Fit_touch hr7) (by decide) (by decide) g_914 g_917 g_6 hy_Fit_touch rfl (Nat.le_of_ble_eq_true rfl) d_Ru_usePoint_58 rfl ?_
    refine J_goto (q := 133) d_Ru_usePoint_61 (by decide) ?_
    obtain rfl := Option.some.inj h
    exact J_vret rfl ⟨rfl, rfl⟩ d_Ru_usePoint_133
  rw [if_neg hk1] at h
  by_cases hk2 : a1 = (24 : Int32)
  · rw [if_pos hk2] at h
    refine J_swIn (tgt := 64) d_Ru_usePoint_1 (by rw [hk2]; decide) (by rw [hk2]; decide) (by rw [hk2]; rfl) (by decide) ?_
    refine J_aload_n (q := 65) 0 d_Ru_usePoint_64 rfl rfl rfl ?_
    refine J_aload_n (q := 66) 3 d_Ru_usePoint_65 rfl rfl rfl ?_
    refine J_getF (q := 69) cd_0 (by decide) ft_0_1 rfl g_172 rfl d_Ru_usePoint_66 rfl ?_
    refine J_iconst (q := 70) (v := (1 : Int32)) d_Ru_usePoint_69 (by decide) rfl ?_
    obtain ⟨hi8, h⟩ := gu_some h
    refine J_ald6 (q := 71) rk_101 (by decide) hi8 d_Ru_usePoint_70 rfl ?_
    refine J_iload_n (q := 72) 2 d_Ru_usePoint_71 rfl rfl rfl ?_
    obtain ⟨hi9, h⟩ := gu_some h
    refine J_iald (q := 73) rk_501 (by decide) hi9 d_Ru_usePoint_72 rfl ?_
    obtain ⟨r10, hr10, h⟩ := bd_some h
    refine J_callVv (rc := 0) (rs := 0) (q := 76) (as := [vi (gI μ 501 (2 * a3 + ((1 : Int32)).toNatClampNeg) a2.toNatClampNeg)]) (st := []) (by decide) rfl g_871 sel_Ru_push (t_Ru_push hr10) (by decide) (by decide) g_869 g_872 g_5 hy_Ru_push rfl (Nat.le_of_ble_eq_true rfl) d_Ru_usePoint_73 rfl ?_
    refine J_goto (q := 133) d_Ru_usePoint_76 (by decide) ?_
    obtain rfl := Option.some.inj h
    exact J_vret rfl ⟨rfl, rfl⟩ d_Ru_usePoint_133
  rw [if_neg hk2] at h
  by_cases hk3 : a1 = (25 : Int32)
  · rw [if_pos hk3] at h
    refine J_swIn (tgt := 79) d_Ru_usePoint_1 (by rw [hk3]; decide) (by rw [hk3]; decide) (by rw [hk3]; rfl) (by decide) ?_
    refine J_aload_n (q := 80) 3 d_Ru_usePoint_79 rfl rfl rfl ?_
    refine J_iconst (q := 81) (v := (1 : Int32)) d_Ru_usePoint_80 (by decide) rfl ?_
    refine J_iload_n (q := 82) 2 d_Ru_usePoint_81 rfl rfl rfl ?_
    refine J_aload_n (q := 83) 0 d_Ru_usePoint_82 rfl rfl rfl ?_
    obtain ⟨r11, hr11, h⟩ := bd_some h
    refine J_callVq (rc := 0) (rs := 0) (q := 86) (as := []) (st := [vi (a2), vi ((1 : Int32)), vr 0 (a3)]) (by decide) rfl g_875 sel_Ru_pop (t_Ru_pop hr11) (by decide) (by decide) g_873 g_876 g_5 hy_Ru_pop rfl (Nat.le_of_ble_eq_true rfl) d_Ru_usePoint_83 rfl ?_
    obtain ⟨μ12, hμ12, h⟩ := ap_eq h
    refine J_nmM hμ12 ?_
    obtain ⟨x13, hx13, h⟩ := ap_eq h
    refine J_nmI hx13 ?_
    obtain ⟨r14, hr14, h⟩ := bd_some h
    refine J_callVv (rc := 0) (rs := 0) (q := 89) (as := [vi ((1 : Int32)), vi (a2), vi (x13)]) (st := []) (by decide) rfl g_915 g_916 (t_Fit_touch hr14) (by decide) (by decide) g_914 g_917 g_6 hy_Fit_touch rfl (Nat.le_of_ble_eq_true rfl) d_Ru_usePoint_86 rfl ?_
    refine J_goto (q := 133) d_Ru_usePoint_89 (by decide) ?_
    obtain rfl := Option.some.inj h
    exact J_vret rfl ⟨rfl, rfl⟩ d_Ru_usePoint_133
  rw [if_neg hk3] at h
  by_cases hk4 : a1 = (26 : Int32)
  · rw [if_pos hk4] at h
    refine J_swIn (tgt := 92) d_Ru_usePoint_1 (by rw [hk4]; decide) (by rw [hk4]; decide) (by rw [hk4]; rfl) (by decide) ?_
    refine J_aload_n (q := 93) 3 d_Ru_usePoint_92 rfl rfl rfl ?_
    refine J_iconst (q := 94) (v := (0 : Int32)) d_Ru_usePoint_93 (by decide) rfl ?_
    refine J_iload_n (q := 95) 2 d_Ru_usePoint_94 rfl rfl rfl ?_
    refine J_aload_n (q := 96) 3 d_Ru_usePoint_95 rfl rfl rfl ?_
    refine J_getF (q := 99) cd_0 (by decide) ft_0_1 rfl g_172 rfl d_Ru_usePoint_96 rfl ?_
    refine J_iconst (q := 100) (v := (0 : Int32)) d_Ru_usePoint_99 (by decide) rfl ?_
    obtain ⟨hi15, h⟩ := gu_some h
    refine J_ald6 (q := 101) rk_101 (by decide) hi15 d_Ru_usePoint_100 rfl ?_
    refine J_iload_n (q := 102) 2 d_Ru_usePoint_101 rfl rfl rfl ?_
    obtain ⟨hi16, h⟩ := gu_some h
    refine J_iald (q := 103) rk_501 (by decide) hi16 d_Ru_usePoint_102 rfl ?_
    refine J_i2l (q := 104) d_Ru_usePoint_103 rfl ?_
    obtain ⟨r17, hr17, h⟩ := bd_some h
    refine J_callSq (rc := 0) (rs := 0) (q := 107) (as := [vl ((gI μ 501 (2 * a3 + ((0 : Int32)).toNatClampNeg) a2.toNatClampNeg).toInt64)]) (st := [vi (a2), vi ((0 : Int32)), vr 0 (a3)]) g_886 (t_Ru_toGrid hr17) (by decide) (by decide) g_885 g_887 g_5 hy_Ru_toGrid rfl (Nat.le_of_ble_eq_true rfl) d_Ru_usePoint_104 rfl ?_
    refine J_l2i (q := 108) d_Ru_usePoint_107 rfl ?_
    obtain ⟨r18, hr18, h⟩ := bd_some h
    refine J_callVv (rc := 0) (rs := 0) (q := 111) (as := [vi ((0 : Int32)), vi (a2), vi ((r17).toInt32)]) (st := []) (by decide) rfl g_915 g_916 (t_Fit_touch hr18) (by decide) (by decide) g_914 g_917 g_6 hy_Fit_touch rfl (Nat.le_of_ble_eq_true rfl) d_Ru_usePoint_108 rfl ?_
    refine J_goto (q := 133) d_Ru_usePoint_111 (by decide) ?_
    obtain rfl := Option.some.inj h
    exact J_vret rfl ⟨rfl, rfl⟩ d_Ru_usePoint_133
  rw [if_neg hk4] at h
  refine J_swOut (tgt := 114) d_Ru_usePoint_1 (by have e0 := lv_neT hk0 (a := 22) (by decide); have e1 := lv_neT hk1 (a := 23) (by decide); have e2 := lv_neT hk2 (a := 24) (by decide); have e3 := lv_neT hk3 (a := 25) (by decide); have e4 := lv_neT hk4 (a := 26) (by decide); omega) (by decide) ?_
  refine J_aload_n (q := 115) 3 d_Ru_usePoint_114 rfl rfl rfl ?_
  refine J_iconst (q := 116) (v := (1 : Int32)) d_Ru_usePoint_115 (by decide) rfl ?_
  refine J_iload_n (q := 117) 2 d_Ru_usePoint_116 rfl rfl rfl ?_
  refine J_aload_n (q := 118) 3 d_Ru_usePoint_117 rfl rfl rfl ?_
  refine J_getF (q := 121) cd_0 (by decide) ft_0_1 rfl g_172 rfl d_Ru_usePoint_118 rfl ?_
  refine J_iconst (q := 122) (v := (1 : Int32)) d_Ru_usePoint_121 (by decide) rfl ?_
  obtain ⟨hi19, h⟩ := gu_some h
  refine J_ald6 (q := 123) rk_101 (by decide) hi19 d_Ru_usePoint_122 rfl ?_
  refine J_iload_n (q := 124) 2 d_Ru_usePoint_123 rfl rfl rfl ?_
  obtain ⟨hi20, h⟩ := gu_some h
  refine J_iald (q := 125) rk_501 (by decide) hi20 d_Ru_usePoint_124 rfl ?_
  refine J_i2l (q := 126) d_Ru_usePoint_125 rfl ?_
  obtain ⟨r21, hr21, h⟩ := bd_some h
  refine J_callSq (rc := 0) (rs := 0) (q := 129) (as := [vl ((gI μ 501 (2 * a3 + ((1 : Int32)).toNatClampNeg) a2.toNatClampNeg).toInt64)]) (st := [vi (a2), vi ((1 : Int32)), vr 0 (a3)]) g_886 (t_Ru_toGrid hr21) (by decide) (by decide) g_885 g_887 g_5 hy_Ru_toGrid rfl (Nat.le_of_ble_eq_true rfl) d_Ru_usePoint_126 rfl ?_
  refine J_l2i (q := 130) d_Ru_usePoint_129 rfl ?_
  obtain ⟨r22, hr22, h⟩ := bd_some h
  refine J_callVv (rc := 0) (rs := 0) (q := 133) (as := [vi ((1 : Int32)), vi (a2), vi ((r21).toInt32)]) (st := []) (by decide) rfl g_915 g_916 (t_Fit_touch hr22) (by decide) (by decide) g_914 g_917 g_6 hy_Fit_touch rfl (Nat.le_of_ble_eq_true rfl) d_Ru_usePoint_130 rfl ?_
  obtain rfl := Option.some.inj h
  exact J_vret rfl ⟨rfl, rfl⟩ d_Ru_usePoint_133
def mj_Ru_step_70 (a1 : Nat) (a2 : Nat) (y3 : Int32) (y4 : Int32) (μ : Mem) : Option (Int32 × Mem) :=
  Option.bind (m_Ru_carry (y3) (y4) μ) fun r7 =>
  some (((0 : Int32), r7))
theorem tj_Ru_step_70 (a1 : Nat) (a2 : Nat) {q : Int32 × Mem}  (y3 : Int32) (y4 : Int32) (μ : Mem) (h : mj_Ru_step_70 a1 a2 y3 y4 μ = some q) : J (GM true (QQ (some (vi q.1)) q.2) (some (.int)) y_Ru_step.name) true b_Ru_step R_9 6 (5) 0 0 70 [(0, vr 9 (0)), (3, vi (y3)), (4, vi (y4))] [] μ := by
  unfold mj_Ru_step_70 at h
  refine J_aload_n (q := 71) 0 d_Ru_step_70 rfl rfl rfl ?_
  refine J_iload_n (q := 72) 1 d_Ru_step_71 rfl rfl rfl ?_
  refine J_iload (q := 74) 2 d_Ru_step_72 rfl rfl ?_
  obtain ⟨r7, hr7, h⟩ := bd_some h
  refine J_callVv (rc := 0) (rs := 0) (q := 77) (as := [vi (y3), vi (y4)]) (st := []) (by decide) rfl g_867 sel_Ru_carry (t_Ru_carry hr7) (by decide) (by decide) g_865 g_868 g_5 hy_Ru_carry rfl (Nat.le_of_ble_eq_true rfl) d_Ru_step_74 rfl ?_
  refine J_iconst (q := 78) (v := (0 : Int32)) d_Ru_step_77 (by decide) rfl ?_
  obtain rfl := Option.some.inj h
  exact J_iret rfl ⟨rfl, rfl⟩ d_Ru_step_78
def mj_Ru_step_128 (a1 : Nat) (a2 : Nat) (y3 : Int32) (y4 : Int32) (μ : Mem) : Option (Int32 × Mem) :=
  Option.bind (m_Ru_go (y3) (y4) (gI μ 8 (a1) 2) μ) fun r8 =>
  some (((0 : Int32), r8))
theorem tj_Ru_step_128 (a1 : Nat) (a2 : Nat) {q : Int32 × Mem}  (y3 : Int32) (y4 : Int32) (μ : Mem) (h : mj_Ru_step_128 a1 a2 y3 y4 μ = some q) : J (GM true (QQ (some (vi q.1)) q.2) (some (.int)) y_Ru_step.name) true b_Ru_step R_9 6 (5) 0 0 128 [(0, vr 9 (0)), (1, vr 8 (a1)), (3, vi (y3)), (4, vi (y4))] [] μ := by
  unfold mj_Ru_step_128 at h
  refine J_aload_n (q := 129) 0 d_Ru_step_128 rfl rfl rfl ?_
  refine J_iload_n (q := 130) 2 d_Ru_step_129 rfl rfl rfl ?_
  refine J_iload (q := 132) 3 d_Ru_step_130 rfl rfl ?_
  refine J_aload_n (q := 133) 1 d_Ru_step_132 rfl rfl rfl ?_
  refine J_getI (q := 136) (j := 2) cd_8 (by decide) (Or.inl rfl) g_375 rfl d_Ru_step_133 rfl ?_
  obtain ⟨r8, hr8, h⟩ := bd_some h
  refine J_callVv (rc := 0) (rs := 0) (q := 139) (as := [vi (y3), vi (y4), vi (gI μ 8 (a1) 2)]) (st := []) (by decide) rfl g_908 sel_Ru_go (t_Ru_go hr8) (by decide) (by decide) g_906 g_909 g_5 hy_Ru_go rfl (Nat.le_of_ble_eq_true rfl) d_Ru_step_136 rfl ?_
  refine J_iconst (q := 140) (v := (0 : Int32)) d_Ru_step_139 (by decide) rfl ?_
  obtain rfl := Option.some.inj h
  exact J_iret rfl ⟨rfl, rfl⟩ d_Ru_step_140
def m_Ru_step (a1 : Nat) (a2 : Nat) (μ : Mem) : Option (Int32 × Mem) :=
  gu (gI μ 9 (0) 5) 100 <|
  ap (gI μ 260 (a1) (gI μ 9 (0) 5).toNatClampNeg) fun x2 =>
  gu (gI μ 9 (0) 5) 100 <|
  ap (gI μ 261 (a1) (gI μ 9 (0) 5).toNatClampNeg) fun x4 =>
  Option.bind (m_Ru_faultAhead (x2) (x4) (gI μ 8 (a1) 2) (a2) μ) fun r5 =>
  if r5 = 0 then
 (ap (sI μ 9 (0) 5 ((gI μ 9 (0) 5) + ((1 : Int32)))) fun μ6 =>
  if x2 ≤ (3 : Int32) then
 (mj_Ru_step_70 a1 a2 (x2) (x4) μ6)
 else
 (if x2 = (20 : Int32) then
 (mj_Ru_step_70 a1 a2 (x2) (x4) μ6)
 else
 (if x2 = (21 : Int32) then
 (mj_Ru_step_70 a1 a2 (x2) (x4) μ6)
 else
 (if (15 : Int32) < x2 then
 (if x2 ≤ (19 : Int32) then
 (mj_Ru_step_128 a1 a2 (x2) (x4) μ6)
 else
 (if x2 = (30 : Int32) then
 (mj_Ru_step_128 a1 a2 (x2) (x4) μ6)
 else
 (if (27 : Int32) < x2 then
 (Option.bind (m_Fit_fitAll (a2) (x2 - (28 : Int32)) μ6) fun r9 =>
  ap (r9.2) fun μ10 =>
  if r9.1 then
 (some (((0 : Int32), μ10)))
 else
 (some (((8 : Int32), μ10))))
 else
 (Option.bind (m_Ru_usePoint (x2) (x4) (a2) μ6) fun r11 =>
  some (((0 : Int32), r11))))))
 else
 (gu (x2) 31 <|
  if takes x2.toNatClampNeg = (1 : Int32) then
 (Option.bind (m_Ru_pop  μ6) fun r16 =>
  ap (r16.2) fun μ17 =>
  ap (r16.1) fun x18 =>
  Option.bind (m_Ru_ofOne (x2) ((x18).toInt64) μ17) fun r19 =>
  Option.bind (m_Ru_pushNumber (r19) μ17) fun r20 =>
  ap (r20.2) fun μ21 =>
  ap (r20.1) fun x22 =>
  some ((x22, μ21)))
 else
 (Option.bind (m_Ru_reckonTwo (x2) μ6) fun r13 =>
  ap (r13.2) fun μ14 =>
  ap (r13.1) fun x15 =>
  some ((x15, μ14))))))))
 else
 (some ((r5, μ)))
theorem t_Ru_step {a1 : Nat} {a2 : Nat} {μ : Mem} {q : Int32 × Mem} (h : m_Ru_step a1 a2 μ = some q) : JM true (5) y_Ru_step b_Ru_step 6 (some (.int)) 0 0 [vr 9 (0), vr 8 (a1), vr 0 (a2)] μ (QQ (some (vi q.1)) q.2) := by
  unfold m_Ru_step at h
  refine JM.of pl_Ru_step (fun ρ => Nat.le_of_ble_eq_true rfl) ?_
  show J (GM true (QQ (some (vi q.1)) q.2) (some (.int)) y_Ru_step.name) true b_Ru_step R_9 6 (5) 0 0 0 [(0, vr 9 (0)), (1, vr 8 (a1)), (2, vr 0 (a2))] [] μ
  refine J_aload_n (q := 1) 1 d_Ru_step_0 rfl rfl rfl ?_
  refine J_getF (q := 4) cd_8 (by decide) ft_8_0 rfl g_371 rfl d_Ru_step_1 rfl ?_
  refine J_aload_n (q := 5) 0 d_Ru_step_4 rfl rfl rfl ?_
  refine J_getI (q := 8) (j := 5) cd_9 (by decide) (Or.inl rfl) g_148 rfl d_Ru_step_5 rfl ?_
  obtain ⟨hi1, h⟩ := gu_some h
  refine J_iald (q := 9) rk_260 (by decide) hi1 d_Ru_step_8 rfl ?_
  obtain ⟨x2, hx2, h⟩ := ap_eq h
  refine J_nmI hx2 ?_
  refine J_istore_n (q := 10) (lv' := [(3, vi (x2)), (0, vr 9 (0)), (1, vr 8 (a1)), (2, vr 0 (a2))]) d_Ru_step_9 rfl (by decide) rfl rfl ?_
  refine J_aload_n (q := 11) 2 d_Ru_step_10 rfl rfl rfl ?_
  refine J_getF (q := 14) cd_8 (by decide) ft_8_1 rfl g_373 rfl d_Ru_step_11 rfl ?_
  refine J_aload_n (q := 15) 1 d_Ru_step_14 rfl rfl rfl ?_
  refine J_getI (q := 18) (j := 5) cd_9 (by decide) (Or.inl rfl) g_148 rfl d_Ru_step_15 rfl ?_
  obtain ⟨hi3, h⟩ := gu_some h
  refine J_iald (q := 19) rk_261 (by decide) hi3 d_Ru_step_18 rfl ?_
  obtain ⟨x4, hx4, h⟩ := ap_eq h
  refine J_nmI hx4 ?_
  refine J_istore (q := 21) (lv' := [(4, vi (x4)), (3, vi (x2)), (0, vr 9 (0)), (1, vr 8 (a1)), (2, vr 0 (a2))]) d_Ru_step_19 (by decide) rfl rfl ?_
  refine J_aload_n (q := 22) 2 d_Ru_step_21 rfl rfl rfl ?_
  refine J_iload_n (q := 23) 1 d_Ru_step_22 rfl rfl rfl ?_
  refine J_iload (q := 25) 0 d_Ru_step_23 rfl rfl ?_
  refine J_aload_n (q := 26) 3 d_Ru_step_25 rfl rfl rfl ?_
  refine J_getI (q := 29) (j := 2) cd_8 (by decide) (Or.inl rfl) g_375 rfl d_Ru_step_26 rfl ?_
  refine J_aload_n (q := 30) 4 d_Ru_step_29 rfl rfl rfl ?_
  obtain ⟨r5, hr5, h⟩ := bd_some h
  refine J_callVq (rc := 0) (rs := 0) (q := 33) (as := [vi (x2), vi (x4), vi (gI μ 8 (a1) 2), vr 0 (a2)]) (st := []) (by decide) rfl g_848 sel_Ru_faultAhead (t_Ru_faultAhead hr5) (by decide) (by decide) g_846 g_849 g_5 hy_Ru_faultAhead rfl (Nat.le_of_ble_eq_true rfl) d_Ru_step_30 rfl ?_
  refine J_istore (q := 35) (lv' := [(5, vi (r5)), (4, vi (x4)), (3, vi (x2)), (0, vr 9 (0)), (1, vr 8 (a1)), (2, vr 0 (a2))]) d_Ru_step_33 (by decide) rfl rfl ?_
  refine J_iload (q := 37) 0 d_Ru_step_35 rfl rfl ?_
  refine J_if_eq (q := 40) (tgt := 43) d_Ru_step_37 (by decide) rfl (fun hc => ?_) (fun hc => ?_)
  · rw [if_pos hc] at h
    refine J_aload_n (q := 44) 3 d_Ru_step_43 rfl rfl rfl ?_
    refine J_dupR (q := 45) d_Ru_step_44 rfl ?_
    refine J_getI (q := 48) (j := 5) cd_9 (by decide) (Or.inl rfl) g_148 rfl d_Ru_step_45 rfl ?_
    refine J_iconst (q := 49) (v := (1 : Int32)) d_Ru_step_48 (by decide) rfl ?_
    refine J_iadd (q := 50) d_Ru_step_49 rfl ?_
    refine J_putI (q := 53) (j := 5) cd_9 (by decide) rfl rfl rfl g_148 rfl d_Ru_step_50 rfl ?_
    obtain ⟨μ6, hμ6, h⟩ := ap_eq h
    refine J_nmM hμ6 ?_
    refine J_iload_n (q := 54) 2 d_Ru_step_53 rfl rfl rfl ?_
    refine J_iconst (q := 55) (v := (3 : Int32)) d_Ru_step_54 (by decide) rfl ?_
    refine J_icmp_le (q := 58) (tgt := 70) d_Ru_step_55 (by decide) rfl (fun hc => ?_) (fun hc => ?_)
    · rw [if_pos hc] at h
      refine J_pick [3, 2, 1] rfl ?_
      exact tj_Ru_step_70 a1 a2 _ _ _ h
    · rw [if_neg hc] at h
      refine J_iload_n (q := 59) 2 d_Ru_step_58 rfl rfl rfl ?_
      refine J_bipush (q := 61) (v := (20 : Int32)) d_Ru_step_59 (by decide) rfl ?_
      refine J_icmp_eq (q := 64) (tgt := 70) d_Ru_step_61 (by decide) rfl (fun hc => ?_) (fun hc => ?_)
      · rw [if_pos hc] at h
        refine J_pick [3, 2, 1] rfl ?_
        exact tj_Ru_step_70 a1 a2 _ _ _ h
      · rw [if_neg hc] at h
        refine J_iload_n (q := 65) 2 d_Ru_step_64 rfl rfl rfl ?_
        refine J_bipush (q := 67) (v := (21 : Int32)) d_Ru_step_65 (by decide) rfl ?_
        refine J_icmp_ne (q := 70) (tgt := 79) d_Ru_step_67 (by decide) rfl (fun hc => ?_) (fun hc => ?_)
        · rw [if_neg hc] at h
          refine J_iload_n (q := 80) 2 d_Ru_step_79 rfl rfl rfl ?_
          refine J_bipush (q := 82) (v := (15 : Int32)) d_Ru_step_80 (by decide) rfl ?_
          refine J_icmp_gt (q := 85) (tgt := 116) d_Ru_step_82 (by decide) rfl (fun hc => ?_) (fun hc => ?_)
          · rw [if_pos hc] at h
            refine J_iload_n (q := 117) 2 d_Ru_step_116 rfl rfl rfl ?_
            refine J_bipush (q := 119) (v := (19 : Int32)) d_Ru_step_117 (by decide) rfl ?_
            refine J_icmp_le (q := 122) (tgt := 128) d_Ru_step_119 (by decide) rfl (fun hc => ?_) (fun hc => ?_)
            · rw [if_pos hc] at h
              refine J_pick [3, 4, 2, 1] rfl ?_
              exact tj_Ru_step_128 a1 a2 _ _ _ h
            · rw [if_neg hc] at h
              refine J_iload_n (q := 123) 2 d_Ru_step_122 rfl rfl rfl ?_
              refine J_bipush (q := 125) (v := (30 : Int32)) d_Ru_step_123 (by decide) rfl ?_
              refine J_icmp_ne (q := 128) (tgt := 141) d_Ru_step_125 (by decide) rfl (fun hc => ?_) (fun hc => ?_)
              · rw [if_neg hc] at h
                refine J_iload_n (q := 142) 2 d_Ru_step_141 rfl rfl rfl ?_
                refine J_bipush (q := 144) (v := (27 : Int32)) d_Ru_step_142 (by decide) rfl ?_
                refine J_icmp_gt (q := 147) (tgt := 157) d_Ru_step_144 (by decide) rfl (fun hc => ?_) (fun hc => ?_)
                · rw [if_pos hc] at h
                  refine J_aload_n (q := 158) 5 d_Ru_step_157 rfl rfl rfl ?_
                  refine J_iload_n (q := 159) 2 d_Ru_step_158 rfl rfl rfl ?_
                  refine J_bipush (q := 161) (v := (28 : Int32)) d_Ru_step_159 (by decide) rfl ?_
                  refine J_isub (q := 162) d_Ru_step_161 rfl ?_
                  obtain ⟨r9, hr9, h⟩ := bd_some h
                  refine J_callVq (rc := 0) (rs := 0) (q := 165) (as := [vi (x2 - (28 : Int32))]) (st := []) (by decide) rfl g_919 g_920 (t_Fit_fitAll hr9) (by decide) (by decide) g_918 g_921 g_6 hy_Fit_fitAll rfl (Nat.le_of_ble_eq_true rfl) d_Ru_step_162 rfl ?_
                  obtain ⟨μ10, hμ10, h⟩ := ap_eq h
                  refine J_nmM hμ10 ?_
                  refine J_ifB_eq (q := 168) (tgt := 172) d_Ru_step_165 (by decide) rfl (fun hb => ?_) (fun hb => ?_)
                  · rw [iB_f hb] at h
                    refine J_bipush (q := 174) (v := (8 : Int32)) d_Ru_step_172 (by decide) rfl ?_
                    obtain rfl := Option.some.inj h
                    exact J_iret rfl ⟨rfl, rfl⟩ d_Ru_step_174
                  · rw [iB_t hb] at h
                    refine J_iconst (q := 169) (v := (0 : Int32)) d_Ru_step_168 (by decide) rfl ?_
                    refine J_goto (q := 174) d_Ru_step_169 (by decide) ?_
                    obtain rfl := Option.some.inj h
                    exact J_iret rfl ⟨rfl, rfl⟩ d_Ru_step_174
                · rw [if_neg hc] at h
                  refine J_aload_n (q := 148) 3 d_Ru_step_147 rfl rfl rfl ?_
                  refine J_iload_n (q := 149) 2 d_Ru_step_148 rfl rfl rfl ?_
                  refine J_iload (q := 151) 1 d_Ru_step_149 rfl rfl ?_
                  refine J_aload_n (q := 152) 5 d_Ru_step_151 rfl rfl rfl ?_
                  obtain ⟨r11, hr11, h⟩ := bd_some h
                  refine J_callVv (rc := 0) (rs := 0) (q := 155) (as := [vi (x2), vi (x4), vr 0 (a2)]) (st := []) (by decide) rfl g_912 sel_Ru_usePoint (t_Ru_usePoint hr11) (by decide) (by decide) g_910 g_913 g_5 hy_Ru_usePoint rfl (Nat.le_of_ble_eq_true rfl) d_Ru_step_152 rfl ?_
                  refine J_iconst (q := 156) (v := (0 : Int32)) d_Ru_step_155 (by decide) rfl ?_
                  obtain rfl := Option.some.inj h
                  exact J_iret rfl ⟨rfl, rfl⟩ d_Ru_step_156
              · rw [if_pos hc] at h
                refine J_pick [3, 4, 2, 1] rfl ?_
                exact tj_Ru_step_128 a1 a2 _ _ _ h
          · rw [if_neg hc] at h
            refine J_gsTAKES (q := 88) g_851 d_Ru_step_85 rfl ?_
            refine J_iload_n (q := 89) 2 d_Ru_step_88 rfl rfl rfl ?_
            obtain ⟨hi12, h⟩ := gu_some h
            refine J_tiTAKES (q := 90) hi12 d_Ru_step_89 rfl ?_
            refine J_iconst (q := 91) (v := (1 : Int32)) d_Ru_step_90 (by decide) rfl ?_
            refine J_icmp_ne (q := 94) (tgt := 110) d_Ru_step_91 (by decide) rfl (fun hc => ?_) (fun hc => ?_)
            · rw [if_neg hc] at h
              refine J_aload_n (q := 111) 3 d_Ru_step_110 rfl rfl rfl ?_
              refine J_iload_n (q := 112) 2 d_Ru_step_111 rfl rfl rfl ?_
              obtain ⟨r13, hr13, h⟩ := bd_some h
              refine J_callVq (rc := 0) (rs := 0) (q := 115) (as := [vi (x2)]) (st := []) (by decide) rfl g_899 sel_Ru_reckonTwo (t_Ru_reckonTwo hr13) (by decide) (by decide) g_897 g_900 g_5 hy_Ru_reckonTwo rfl (Nat.le_of_ble_eq_true rfl) d_Ru_step_112 rfl ?_
              obtain ⟨μ14, hμ14, h⟩ := ap_eq h
              refine J_nmM hμ14 ?_
              obtain ⟨x15, hx15, h⟩ := ap_eq h
              refine J_nmI hx15 ?_
              obtain rfl := Option.some.inj h
              exact J_iret rfl ⟨rfl, rfl⟩ d_Ru_step_115
            · rw [if_pos hc] at h
              refine J_aload_n (q := 95) 3 d_Ru_step_94 rfl rfl rfl ?_
              refine J_iload_n (q := 96) 2 d_Ru_step_95 rfl rfl rfl ?_
              refine J_aload_n (q := 97) 3 d_Ru_step_96 rfl rfl rfl ?_
              obtain ⟨r16, hr16, h⟩ := bd_some h
              refine J_callVq (rc := 0) (rs := 0) (q := 100) (as := []) (st := [vi (x2), vr 9 (0)]) (by decide) rfl g_875 sel_Ru_pop (t_Ru_pop hr16) (by decide) (by decide) g_873 g_876 g_5 hy_Ru_pop rfl (Nat.le_of_ble_eq_true rfl) d_Ru_step_97 rfl ?_
              obtain ⟨μ17, hμ17, h⟩ := ap_eq h
              refine J_nmM hμ17 ?_
              obtain ⟨x18, hx18, h⟩ := ap_eq h
              refine J_nmI hx18 ?_
              refine J_i2l (q := 101) d_Ru_step_100 rfl ?_
              obtain ⟨r19, hr19, h⟩ := bd_some h
              refine J_callSq (rc := 0) (rs := 0) (q := 104) (as := [vi (x2), vl ((x18).toInt64)]) (st := [vr 9 (0)]) g_882 (t_Ru_ofOne hr19) (by decide) (by decide) g_881 g_883 g_5 hy_Ru_ofOne rfl (Nat.le_of_ble_eq_true rfl) d_Ru_step_101 rfl ?_
              obtain ⟨r20, hr20, h⟩ := bd_some h
              refine J_callVq (rc := 0) (rs := 0) (q := 107) (as := [vl (r19)]) (st := []) (by decide) rfl g_893 sel_Ru_pushNumber (t_Ru_pushNumber hr20) (by decide) (by decide) g_891 g_894 g_5 hy_Ru_pushNumber rfl (Nat.le_of_ble_eq_true rfl) d_Ru_step_104 rfl ?_
              obtain ⟨μ21, hμ21, h⟩ := ap_eq h
              refine J_nmM hμ21 ?_
              obtain ⟨x22, hx22, h⟩ := ap_eq h
              refine J_nmI hx22 ?_
              refine J_goto (q := 115) d_Ru_step_107 (by decide) ?_
              obtain rfl := Option.some.inj h
              exact J_iret rfl ⟨rfl, rfl⟩ d_Ru_step_115
        · rw [if_pos hc] at h
          refine J_pick [3, 2, 1] rfl ?_
          exact tj_Ru_step_70 a1 a2 _ _ _ h
  · rw [if_neg hc] at h
    refine J_iload (q := 42) 0 d_Ru_step_40 rfl rfl ?_
    obtain rfl := Option.some.inj h
    exact J_iret rfl ⟨rfl, rfl⟩ d_Ru_step_42
def lp_Ru_perform_25 (a1 : Nat) (a2 : Nat) (c_75 : Mem → Option (Int32 × Mem)) : Nat → Int32 → Mem → Option (Int32 × Mem)
  | 0, _, _ => none
  | n + 1, y3, μ =>
  if (1000 : Int32) ≤ y3 then
 (c_75 μ)
 else
 (if (m_Fo_within ((gI μ 9 (0) 5).toInt64) ((0 : Int64)) (((gI μ 8 (a1) 2) - ((1 : Int32))).toInt64) μ) then
 (Option.bind (m_Ru_step (a1) (a2) μ) fun r9 =>
  ap (r9.2) fun μ10 =>
  ap (r9.1) fun x11 =>
  if x11 = 0 then
 (ap (y3 + (1 : Int32)) fun x12 =>
  lp_Ru_perform_25 a1 a2 c_75 n (x12) μ10)
 else
 (some ((x11, μ10))))
 else
 (some (((0 : Int32), μ))))
theorem tl_Ru_perform_25 (a1 : Nat) (a2 : Nat) {q : Int32 × Mem} {c_75 : Mem → Option (Int32 × Mem)} (hc_75 : ∀ (μ : Mem), c_75  μ = some q → J (GM true (QQ (some (vi q.1)) q.2) (some (.int)) y_Ru_perform.name) true b_Ru_perform R_9 5 (6) 0 0 75 [(0, vr 9 (0)), (1, vr 8 (a1))] [] μ) : ∀ (n : Nat) (y3 : Int32) (μ : Mem), lp_Ru_perform_25 a1 a2 c_75 n y3 μ = some q → J (GM true (QQ (some (vi q.1)) q.2) (some (.int)) y_Ru_perform.name) true b_Ru_perform R_9 5 (6) 0 0 25 [(0, vr 9 (0)), (1, vr 8 (a1)), (2, vr 0 (a2)), (3, vi (y3))] [] μ := by
  intro n
  induction n with
  | zero => intro _ _ h; cases h
  | succ n ih =>
    intro y3 μ h
    unfold lp_Ru_perform_25 at h
    refine J_iload_n (q := 26) 3 d_Ru_perform_25 rfl rfl rfl ?_
    refine J_sipush (q := 29) (v := (1000 : Int32)) d_Ru_perform_26 (by decide) rfl ?_
    refine J_icmp_ge (q := 32) (tgt := 75) d_Ru_perform_29 (by decide) rfl (fun hc => ?_) (fun hc => ?_)
    · rw [if_pos hc] at h
      refine J_pick [0, 1] rfl ?_
      exact hc_75 _ h
    · rw [if_neg hc] at h
      refine J_aload_n (q := 33) 0 d_Ru_perform_32 rfl rfl rfl ?_
      refine J_getI (q := 36) (j := 5) cd_9 (by decide) (Or.inl rfl) g_148 rfl d_Ru_perform_33 rfl ?_
      refine J_i2l (q := 37) d_Ru_perform_36 rfl ?_
      refine J_lconst (q := 38) (v := (0 : Int64)) d_Ru_perform_37 (by decide) rfl ?_
      refine J_aload_n (q := 39) 1 d_Ru_perform_38 rfl rfl rfl ?_
      refine J_getI (q := 42) (j := 2) cd_8 (by decide) (Or.inl rfl) g_375 rfl d_Ru_perform_39 rfl ?_
      refine J_iconst (q := 43) (v := (1 : Int32)) d_Ru_perform_42 (by decide) rfl ?_
      refine J_isub (q := 44) d_Ru_perform_43 rfl ?_
      refine J_i2l (q := 45) d_Ru_perform_44 rfl ?_
      refine J_callSNq (rc := 0) (rs := 0) (q := 48) (as := [vl ((gI μ 9 (0) 5).toInt64), vl ((0 : Int64)), vl (((gI μ 8 (a1) 2) - ((1 : Int32))).toInt64)]) (st := []) g_300 (t_Fo_within rfl) (by decide) (by decide) nn_16 g_301 g_1 hy_Fo_within rfl (Nat.le_of_ble_eq_true rfl) d_Ru_perform_45 rfl ?_
      refine J_ifB_ne (q := 51) (tgt := 53) d_Ru_perform_48 (by decide) rfl (fun hb => ?_) (fun hb => ?_)
      · rw [iB_t hb] at h
        refine J_aload_n (q := 54) 0 d_Ru_perform_53 rfl rfl rfl ?_
        refine J_aload_n (q := 55) 1 d_Ru_perform_54 rfl rfl rfl ?_
        refine J_aload_n (q := 56) 2 d_Ru_perform_55 rfl rfl rfl ?_
        obtain ⟨r9, hr9, h⟩ := bd_some h
        refine J_callVq (rc := 0) (rs := 0) (q := 59) (as := [vr 8 (a1), vr 0 (a2)]) (st := []) (by decide) rfl g_844 sel_Ru_step (t_Ru_step hr9) (by decide) (by decide) g_842 g_845 g_5 hy_Ru_step rfl (Nat.le_of_ble_eq_true rfl) d_Ru_perform_56 rfl ?_
        obtain ⟨μ10, hμ10, h⟩ := ap_eq h
        refine J_nmM hμ10 ?_
        obtain ⟨x11, hx11, h⟩ := ap_eq h
        refine J_nmI hx11 ?_
        refine J_istore (q := 61) (lv' := [(4, vi (x11)), (0, vr 9 (0)), (1, vr 8 (a1)), (2, vr 0 (a2)), (3, vi (y3))]) d_Ru_perform_59 (by decide) rfl rfl ?_
        refine J_iload (q := 63) 0 d_Ru_perform_61 rfl rfl ?_
        refine J_if_eq (q := 66) (tgt := 69) d_Ru_perform_63 (by decide) rfl (fun hc => ?_) (fun hc => ?_)
        · rw [if_pos hc] at h
          obtain ⟨x12, hx12, h⟩ := ap_eq h
          refine J_iinc (q := 72) (v := x12) (lv' := [(3, vi (x12)), (4, vi (x11)), (0, vr 9 (0)), (1, vr 8 (a1)), (2, vr 0 (a2))]) 4 d_Ru_perform_69 rfl (by rw [hx12]; rfl) (by decide) rfl rfl ?_
          refine J_goto (q := 25) d_Ru_perform_72 (by decide) ?_
          refine J_pick [2, 3, 4, 0] rfl ?_
          exact ih _ _ h
        · rw [if_neg hc] at h
          refine J_iload (q := 68) 0 d_Ru_perform_66 rfl rfl ?_
          obtain rfl := Option.some.inj h
          exact J_iret rfl ⟨rfl, rfl⟩ d_Ru_perform_68
      · rw [iB_f hb] at h
        refine J_iconst (q := 52) (v := (0 : Int32)) d_Ru_perform_51 (by decide) rfl ?_
        obtain rfl := Option.some.inj h
        exact J_iret rfl ⟨rfl, rfl⟩ d_Ru_perform_52
def mj_Ru_perform_75 (a1 : Nat) (a2 : Nat) (μ : Mem) : Option (Int32 × Mem) :=
  if gI μ 8 (a1) 2 ≤ gI μ 9 (0) 5 then
 (some (((0 : Int32), μ)))
 else
 (some (((6 : Int32), μ)))
theorem tj_Ru_perform_75 (a1 : Nat) (a2 : Nat) {q : Int32 × Mem}  (μ : Mem) (h : mj_Ru_perform_75 a1 a2  μ = some q) : J (GM true (QQ (some (vi q.1)) q.2) (some (.int)) y_Ru_perform.name) true b_Ru_perform R_9 5 (6) 0 0 75 [(0, vr 9 (0)), (1, vr 8 (a1))] [] μ := by
  unfold mj_Ru_perform_75 at h
  refine J_aload_n (q := 76) 0 d_Ru_perform_75 rfl rfl rfl ?_
  refine J_getI (q := 79) (j := 5) cd_9 (by decide) (Or.inl rfl) g_148 rfl d_Ru_perform_76 rfl ?_
  refine J_aload_n (q := 80) 1 d_Ru_perform_79 rfl rfl rfl ?_
  refine J_getI (q := 83) (j := 2) cd_8 (by decide) (Or.inl rfl) g_375 rfl d_Ru_perform_80 rfl ?_
  refine J_icmp_ge (q := 86) (tgt := 91) d_Ru_perform_83 (by decide) rfl (fun hc => ?_) (fun hc => ?_)
  · rw [if_pos hc] at h
    refine J_iconst (q := 92) (v := (0 : Int32)) d_Ru_perform_91 (by decide) rfl ?_
    obtain rfl := Option.some.inj h
    exact J_iret rfl ⟨rfl, rfl⟩ d_Ru_perform_92
  · rw [if_neg hc] at h
    refine J_bipush (q := 88) (v := (6 : Int32)) d_Ru_perform_86 (by decide) rfl ?_
    refine J_goto (q := 92) d_Ru_perform_88 (by decide) ?_
    obtain rfl := Option.some.inj h
    exact J_iret rfl ⟨rfl, rfl⟩ d_Ru_perform_92
def m_Ru_perform (a1 : Nat) (a2 : Nat) (μ : Mem) : Option (Int32 × Mem) :=
  Option.bind (m_Ar_fill 281 (0) 16 0 ((0 : Int32)) μ) fun r1 =>
  ap (sI r1 9 (0) 3 ((0 : Int32))) fun μ2 =>
  ap (sI μ2 9 (0) 4 ((0 : Int32))) fun μ3 =>
  ap (sI μ3 9 (0) 5 ((0 : Int32))) fun μ4 =>
  lp_Ru_perform_25 a1 a2 (mj_Ru_perform_75 a1 a2) FU ((0 : Int32)) μ4
theorem t_Ru_perform {a1 : Nat} {a2 : Nat} {μ : Mem} {q : Int32 × Mem} (h : m_Ru_perform a1 a2 μ = some q) : JM true (6) y_Ru_perform b_Ru_perform 5 (some (.int)) 0 0 [vr 9 (0), vr 8 (a1), vr 0 (a2)] μ (QQ (some (vi q.1)) q.2) := by
  unfold m_Ru_perform at h
  refine JM.of pl_Ru_perform (fun ρ => Nat.le_of_ble_eq_true rfl) ?_
  show J (GM true (QQ (some (vi q.1)) q.2) (some (.int)) y_Ru_perform.name) true b_Ru_perform R_9 5 (6) 0 0 0 [(0, vr 9 (0)), (1, vr 8 (a1)), (2, vr 0 (a2))] [] μ
  refine J_aload_n (q := 1) 0 d_Ru_perform_0 rfl rfl rfl ?_
  refine J_getF (q := 4) cd_9 (by decide) ft_9_1 rfl g_144 rfl d_Ru_perform_1 rfl ?_
  refine J_iconst (q := 5) (v := (0 : Int32)) d_Ru_perform_4 (by decide) rfl ?_
  obtain ⟨r1, hr1, h⟩ := bd_some h
  refine J_callSv (rc := 0) (rs := 0) (q := 8) (as := [vr 281 (0), vi ((0 : Int32))]) (st := []) g_200 (t_Ar_fill rk_281 (by decide) hr1) (by decide) (by decide) g_840 g_201 g_8 hy_Ar_fill rfl (Nat.le_of_ble_eq_true rfl) d_Ru_perform_5 rfl ?_
  refine J_aload_n (q := 9) 0 d_Ru_perform_8 rfl rfl rfl ?_
  refine J_iconst (q := 10) (v := (0 : Int32)) d_Ru_perform_9 (by decide) rfl ?_
  refine J_putI (q := 13) (j := 3) cd_9 (by decide) rfl rfl rfl g_146 rfl d_Ru_perform_10 rfl ?_
  obtain ⟨μ2, hμ2, h⟩ := ap_eq h
  refine J_nmM hμ2 ?_
  refine J_aload_n (q := 14) 0 d_Ru_perform_13 rfl rfl rfl ?_
  refine J_iconst (q := 15) (v := (0 : Int32)) d_Ru_perform_14 (by decide) rfl ?_
  refine J_putI (q := 18) (j := 4) cd_9 (by decide) rfl rfl rfl g_147 rfl d_Ru_perform_15 rfl ?_
  obtain ⟨μ3, hμ3, h⟩ := ap_eq h
  refine J_nmM hμ3 ?_
  refine J_aload_n (q := 19) 0 d_Ru_perform_18 rfl rfl rfl ?_
  refine J_iconst (q := 20) (v := (0 : Int32)) d_Ru_perform_19 (by decide) rfl ?_
  refine J_putI (q := 23) (j := 5) cd_9 (by decide) rfl rfl rfl g_148 rfl d_Ru_perform_20 rfl ?_
  obtain ⟨μ4, hμ4, h⟩ := ap_eq h
  refine J_nmM hμ4 ?_
  refine J_iconst (q := 24) (v := (0 : Int32)) d_Ru_perform_23 (by decide) rfl ?_
  refine J_istore_n (q := 25) (lv' := [(3, vi ((0 : Int32))), (0, vr 9 (0)), (1, vr 8 (a1)), (2, vr 0 (a2))]) d_Ru_perform_24 rfl (by decide) rfl rfl ?_
  refine J_pick [1, 2, 3, 0] rfl ?_
  exact tl_Ru_perform_25 a1 a2 (fun _ h => tj_Ru_perform_75 a1 a2 _ h) FU _ _ h
