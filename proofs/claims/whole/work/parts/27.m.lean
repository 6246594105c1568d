def mj_Li_ruleAt_53 (a1 : Int32) (μ : Mem) (c_4 : Int32 → Int32 → Option (Int32)) (y2 : Int32) (y3 : Int32) : Option (Int32) :=
  ap (y3 + (1 : Int32)) fun x1 =>
  c_4 (y2) (x1)
theorem tj_Li_ruleAt_53 (a1 : Int32) (μ : Mem) {q : Int32} {c_4 : Int32 → Int32 → Option (Int32)} (hc_4 : ∀ (y2 : Int32) (y3 : Int32), c_4 y2 y3 = some q → J (GM true (QQ (some (vi q)) μ) (some (.int)) y_Li_ruleAt.name) true b_Li_ruleAt R_5 5 (2) 0 0 4 [(0, vr 5 (0)), (1, vi (a1)), (2, vi (y2)), (3, vi (y3))] [] μ) (y2 : Int32) (y3 : Int32) (h : mj_Li_ruleAt_53 a1 μ c_4 y2 y3 = some q) : J (GM true (QQ (some (vi q)) μ) (some (.int)) y_Li_ruleAt.name) true b_Li_ruleAt R_5 5 (2) 0 0 53 [(0, vr 5 (0)), (1, vi (a1)), (2, vi (y2)), (3, vi (y3))] [] μ := by
  unfold mj_Li_ruleAt_53 at h
  obtain ⟨x1, hx1, h⟩ := ap_eq h
  refine J_iinc (q := 56) (v := x1) (lv' := [(3, vi (x1)), (0, vr 5 (0)), (1, vi (a1)), (2, vi (y2))]) 3 d_Li_ruleAt_53 rfl (by rw [hx1]; rfl) (by decide) rfl rfl ?_
  refine J_goto (q := 4) d_Li_ruleAt_56 (by decide) ?_
  refine J_pick [1, 2, 3, 0] rfl ?_
  exact hc_4 _ _ h
def mj_Li_ruleAt_35 (a1 : Int32) (μ : Mem) (c_4 : Int32 → Int32 → Option (Int32)) (y2 : Int32) (y3 : Int32) (z0 : Int32) : Option (Int32) :=
  if z0 = 0 then
 (mj_Li_ruleAt_53 a1 μ c_4 (y2) (y3))
 else
 (Option.bind (m_Li_fitsAt (y3) (a1) μ) fun r2 =>
  if r2 then
 (mj_Li_ruleAt_53 a1 μ c_4 (y3) (y3))
 else
 (mj_Li_ruleAt_53 a1 μ c_4 (y2) (y3)))
theorem tj_Li_ruleAt_35 (a1 : Int32) (μ : Mem) {q : Int32} {c_4 : Int32 → Int32 → Option (Int32)} (hc_4 : ∀ (y2 : Int32) (y3 : Int32), c_4 y2 y3 = some q → J (GM true (QQ (some (vi q)) μ) (some (.int)) y_Li_ruleAt.name) true b_Li_ruleAt R_5 5 (2) 0 0 4 [(0, vr 5 (0)), (1, vi (a1)), (2, vi (y2)), (3, vi (y3))] [] μ) (y2 : Int32) (y3 : Int32) (z0 : Int32) (h : mj_Li_ruleAt_35 a1 μ c_4 y2 y3 z0 = some q) : J (GM true (QQ (some (vi q)) μ) (some (.int)) y_Li_ruleAt.name) true b_Li_ruleAt R_5 5 (2) 0 0 35 [(0, vr 5 (0)), (1, vi (a1)), (2, vi (y2)), (3, vi (y3))] [vi (z0)] μ := by
  unfold mj_Li_ruleAt_35 at h
  refine J_istore (q := 37) (lv' := [(4, vi (z0)), (0, vr 5 (0)), (1, vi (a1)), (2, vi (y2)), (3, vi (y3))]) d_Li_ruleAt_35 (by decide) rfl rfl ?_
  refine J_iload (q := 39) 0 d_Li_ruleAt_37 rfl rfl ?_
  refine J_if_eq (q := 42) (tgt := 53) d_Li_ruleAt_39 (by decide) rfl (fun hc => ?_) (fun hc => ?_)
  · rw [if_pos hc] at h
    refine J_pick [1, 2, 3, 4] rfl ?_
    exact tj_Li_ruleAt_53 a1 μ hc_4 _ _ h
  · rw [if_neg hc] at h
    refine J_aload_n (q := 43) 1 d_Li_ruleAt_42 rfl rfl rfl ?_
    refine J_iload_n (q := 44) 4 d_Li_ruleAt_43 rfl rfl rfl ?_
    refine J_iload_n (q := 45) 2 d_Li_ruleAt_44 rfl rfl rfl ?_
    obtain ⟨r2, hr2, h⟩ := bd_some h
    refine J_callVq (rc := 0) (rs := 0) (q := 48) (as := [vi (y3), vi (a1)]) (st := []) (by decide) rfl g_1029 sel_Li_fitsAt (t_Li_fitsAt hr2) (by decide) (by decide) g_1027 g_1030 g_9 hy_Li_fitsAt rfl (Nat.le_of_ble_eq_true rfl) d_Li_ruleAt_45 rfl ?_
    refine J_ifB_eq (q := 51) (tgt := 53) d_Li_ruleAt_48 (by decide) rfl (fun hb => ?_) (fun hb => ?_)
    · rw [iB_f hb] at h
      refine J_pick [1, 2, 3, 4] rfl ?_
      exact tj_Li_ruleAt_53 a1 μ hc_4 _ _ h
    · rw [iB_t hb] at h
      refine J_iload_n (q := 52) 4 d_Li_ruleAt_51 rfl rfl rfl ?_
      refine J_istore_n (q := 53) (lv' := [(2, vi (y3)), (4, vi (z0)), (0, vr 5 (0)), (1, vi (a1)), (3, vi (y3))]) d_Li_ruleAt_52 rfl (by decide) rfl rfl ?_
      refine J_pick [2, 3, 0, 4] rfl ?_
      exact tj_Li_ruleAt_53 a1 μ hc_4 _ _ h
def mj_Li_ruleAt_30 (a1 : Int32) (μ : Mem) (c_4 : Int32 → Int32 → Option (Int32)) (y2 : Int32) (y3 : Int32) : Option (Int32) :=
  mj_Li_ruleAt_35 a1 μ c_4 (y2) (y3) ((1 : Int32))
theorem tj_Li_ruleAt_30 (a1 : Int32) (μ : Mem) {q : Int32} {c_4 : Int32 → Int32 → Option (Int32)} (hc_4 : ∀ (y2 : Int32) (y3 : Int32), c_4 y2 y3 = some q → J (GM true (QQ (some (vi q)) μ) (some (.int)) y_Li_ruleAt.name) true b_Li_ruleAt R_5 5 (2) 0 0 4 [(0, vr 5 (0)), (1, vi (a1)), (2, vi (y2)), (3, vi (y3))] [] μ) (y2 : Int32) (y3 : Int32) (h : mj_Li_ruleAt_30 a1 μ c_4 y2 y3 = some q) : J (GM true (QQ (some (vi q)) μ) (some (.int)) y_Li_ruleAt.name) true b_Li_ruleAt R_5 5 (2) 0 0 30 [(0, vr 5 (0)), (1, vi (a1)), (2, vi (y2)), (3, vi (y3))] [] μ := by
  unfold mj_Li_ruleAt_30 at h
  refine J_iconst (q := 31) (v := (1 : Int32)) d_Li_ruleAt_30 (by decide) rfl ?_
  refine J_goto (q := 35) d_Li_ruleAt_31 (by decide) ?_
  refine J_pick [0, 1, 2, 3] rfl ?_
  exact tj_Li_ruleAt_35 a1 μ hc_4 _ _ _ h
def lp_Li_ruleAt_4 (a1 : Int32) (μ : Mem) : Nat → Int32 → Int32 → Option (Int32)
  | 0, _, _ => none
  | n + 1, y2, y3 =>
  if gI μ 5 (0) 2 ≤ y3 then
 (some (y2))
 else
 (if y2 = (-1 : Int32) then
 (mj_Li_ruleAt_30 a1 μ (lp_Li_ruleAt_4 a1 μ n) (y2) (y3))
 else
 (Option.bind (m_Li_sizeOf (y3) μ) fun r5 =>
  Option.bind (m_Li_sizeOf (y2) μ) fun r6 =>
  if r5 ≤ r6 then
 (mj_Li_ruleAt_35 a1 μ (lp_Li_ruleAt_4 a1 μ n) (y2) (y3) ((0 : Int32)))
 else
 (mj_Li_ruleAt_30 a1 μ (lp_Li_ruleAt_4 a1 μ n) (y2) (y3))))
theorem tl_Li_ruleAt_4 (a1 : Int32) (μ : Mem) {q : Int32}  : ∀ (n : Nat) (y2 : Int32) (y3 : Int32), lp_Li_ruleAt_4 a1 μ n y2 y3 = some q → J (GM true (QQ (some (vi q)) μ) (some (.int)) y_Li_ruleAt.name) true b_Li_ruleAt R_5 5 (2) 0 0 4 [(0, vr 5 (0)), (1, vi (a1)), (2, vi (y2)), (3, vi (y3))] [] μ := by
  intro n
  induction n with
  | zero => intro _ _ h; cases h
  | succ n ih =>
    intro y2 y3 h
    unfold lp_Li_ruleAt_4 at h
    refine J_iload_n (q := 5) 3 d_Li_ruleAt_4 rfl rfl rfl ?_
    refine J_aload_n (q := 6) 0 d_Li_ruleAt_5 rfl rfl rfl ?_
    refine J_getI (q := 9) (j := 2) cd_5 (by decide) (Or.inl rfl) g_220 rfl d_Li_ruleAt_6 rfl ?_
    refine J_icmp_ge (q := 12) (tgt := 59) d_Li_ruleAt_9 (by decide) rfl (fun hc => ?_) (fun hc => ?_)
    · rw [if_pos hc] at h
      refine J_iload_n (q := 60) 2 d_Li_ruleAt_59 rfl rfl rfl ?_
      obtain rfl := Option.some.inj h
      exact J_iret rfl ⟨rfl, rfl⟩ d_Li_ruleAt_60
    · rw [if_neg hc] at h
      refine J_iload_n (q := 13) 2 d_Li_ruleAt_12 rfl rfl rfl ?_
      refine J_iconst (q := 14) (v := (-1 : Int32)) d_Li_ruleAt_13 (by decide) rfl ?_
      refine J_icmp_eq (q := 17) (tgt := 30) d_Li_ruleAt_14 (by decide) rfl (fun hc => ?_) (fun hc => ?_)
      · rw [if_pos hc] at h
        refine J_pick [0, 1, 2, 3] rfl ?_
        exact tj_Li_ruleAt_30 a1 μ ih _ _ h
      · rw [if_neg hc] at h
        refine J_aload_n (q := 18) 0 d_Li_ruleAt_17 rfl rfl rfl ?_
        refine J_iload_n (q := 19) 3 d_Li_ruleAt_18 rfl rfl rfl ?_
        obtain ⟨r5, hr5, h⟩ := bd_some h
        refine J_callVq (rc := 0) (rs := 0) (q := 22) (as := [vi (y3)]) (st := []) (by decide) rfl g_1025 sel_Li_sizeOf (t_Li_sizeOf hr5) (by decide) (by decide) g_1023 g_1026 g_9 hy_Li_sizeOf rfl (Nat.le_of_ble_eq_true rfl) d_Li_ruleAt_19 rfl ?_
        refine J_aload_n (q := 23) 0 d_Li_ruleAt_22 rfl rfl rfl ?_
        refine J_iload_n (q := 24) 2 d_Li_ruleAt_23 rfl rfl rfl ?_
        obtain ⟨r6, hr6, h⟩ := bd_some h
        refine J_callVq (rc := 0) (rs := 0) (q := 27) (as := [vi (y2)]) (st := [vi (r5)]) (by decide) rfl g_1025 sel_Li_sizeOf (t_Li_sizeOf hr6) (by decide) (by decide) g_1023 g_1026 g_9 hy_Li_sizeOf rfl (Nat.le_of_ble_eq_true rfl) d_Li_ruleAt_24 rfl ?_
        refine J_icmp_le (q := 30) (tgt := 34) d_Li_ruleAt_27 (by decide) rfl (fun hc => ?_) (fun hc => ?_)
        · rw [if_pos hc] at h
          refine J_iconst (q := 35) (v := (0 : Int32)) d_Li_ruleAt_34 (by decide) rfl ?_
          refine J_pick [0, 1, 2, 3] rfl ?_
          exact tj_Li_ruleAt_35 a1 μ ih _ _ _ h
        · rw [if_neg hc] at h
          refine J_pick [0, 1, 2, 3] rfl ?_
          exact tj_Li_ruleAt_30 a1 μ ih _ _ h
def m_Li_ruleAt (a1 : Int32) (μ : Mem) : Option (Int32) :=
  lp_Li_ruleAt_4 a1 μ FU ((-1 : Int32)) ((0 : Int32))
theorem t_Li_ruleAt {a1 : Int32} {μ : Mem} {q : Int32} (h : m_Li_ruleAt a1 μ = some q) : JM true (2) y_Li_ruleAt b_Li_ruleAt 5 (some (.int)) 0 0 [vr 5 (0), vi (a1)] μ (QQ (some (vi q)) μ) := by
  unfold m_Li_ruleAt at h
  refine JM.of pl_Li_ruleAt (fun ρ => Nat.le_of_ble_eq_true rfl) ?_
  show J (GM true (QQ (some (vi q)) μ) (some (.int)) y_Li_ruleAt.name) true b_Li_ruleAt R_5 5 (2) 0 0 0 [(0, vr 5 (0)), (1, vi (a1))] [] μ
  refine J_iconst (q := 1) (v := (-1 : Int32)) d_Li_ruleAt_0 (by decide) rfl ?_
  refine J_istore_n (q := 2) (lv' := [(2, vi ((-1 : Int32))), (0, vr 5 (0)), (1, vi (a1))]) d_Li_ruleAt_1 rfl (by decide) rfl rfl ?_
  refine J_iconst (q := 3) (v := (0 : Int32)) d_Li_ruleAt_2 (by decide) rfl ?_
  refine J_istore_n (q := 4) (lv' := [(3, vi ((0 : Int32))), (2, vi ((-1 : Int32))), (0, vr 5 (0)), (1, vi (a1))]) d_Li_ruleAt_3 rfl (by decide) rfl rfl ?_
  refine J_pick [2, 3, 1, 0] rfl ?_
  exact tl_Li_ruleAt_4 a1 μ FU _ _ h
def mj_Li_compose_112 (a2 : Int32) (c_13 : Int32 → Mem → Option (Mem)) (z0 : Int32) (z1 : Int32) (μ : Mem) : Option (Mem) :=
  ap (z1 + z0) fun x7 =>
  c_13 (x7) μ
theorem tj_Li_compose_112 (a2 : Int32) {q : Mem} {c_13 : Int32 → Mem → Option (Mem)} (hc_13 : ∀ (y4 : Int32) (μ : Mem), c_13 y4 μ = some q → J (GM true (QQ none q) none y_Li_compose.name) true b_Li_compose R_5 8 (3) 0 0 13 [(0, vr 5 (0)), (1, vr 320 (0)), (2, vi (a2)), (3, vr 3 (0)), (4, vi (y4))] [] μ) (z0 : Int32) (z1 : Int32) (μ : Mem) (h : mj_Li_compose_112 a2 c_13 z0 z1 μ = some q) : J (GM true (QQ none q) none y_Li_compose.name) true b_Li_compose R_5 8 (3) 0 0 112 [(0, vr 5 (0)), (1, vr 320 (0)), (2, vi (a2)), (3, vr 3 (0))] [vi (z0), vi (z1)] μ := by
  unfold mj_Li_compose_112 at h
  refine J_iadd (q := 113) d_Li_compose_112 rfl ?_
  obtain ⟨x7, hx7, h⟩ := ap_eq h
  refine J_nmI hx7 ?_
  refine J_istore (q := 115) (lv' := [(4, vi (x7)), (0, vr 5 (0)), (1, vr 320 (0)), (2, vi (a2)), (3, vr 3 (0))]) d_Li_compose_113 (by decide) rfl rfl ?_
  refine J_goto (q := 13) d_Li_compose_115 (by decide) ?_
  refine J_pick [1, 2, 3, 4, 0] rfl ?_
  exact hc_13 _ _ h
def mj_Li_compose_94 (a2 : Int32) (c_13 : Int32 → Mem → Option (Mem)) (y4 : Int32) (y5 : Int32) (μ : Mem) : Option (Mem) :=
  if y5 = (-1 : Int32) then
 (mj_Li_compose_112 a2 c_13 ((1 : Int32)) (y4) μ)
 else
 (Option.bind (m_Li_sizeOf (y5) μ) fun r6 =>
  mj_Li_compose_112 a2 c_13 (r6) (y4) μ)
theorem tj_Li_compose_94 (a2 : Int32) {q : Mem} {c_13 : Int32 → Mem → Option (Mem)} (hc_13 : ∀ (y4 : Int32) (μ : Mem), c_13 y4 μ = some q → J (GM true (QQ none q) none y_Li_compose.name) true b_Li_compose R_5 8 (3) 0 0 13 [(0, vr 5 (0)), (1, vr 320 (0)), (2, vi (a2)), (3, vr 3 (0)), (4, vi (y4))] [] μ) (y4 : Int32) (y5 : Int32) (μ : Mem) (h : mj_Li_compose_94 a2 c_13 y4 y5 μ = some q) : J (GM true (QQ none q) none y_Li_compose.name) true b_Li_compose R_5 8 (3) 0 0 94 [(0, vr 5 (0)), (1, vr 320 (0)), (2, vi (a2)), (3, vr 3 (0)), (4, vi (y4)), (5, vi (y5))] [] μ := by
  unfold mj_Li_compose_94 at h
  refine J_iload (q := 96) 4 d_Li_compose_94 rfl rfl ?_
  refine J_iload (q := 98) 5 d_Li_compose_96 rfl rfl ?_
  refine J_iconst (q := 99) (v := (-1 : Int32)) d_Li_compose_98 (by decide) rfl ?_
  refine J_icmp_ne (q := 102) (tgt := 106) d_Li_compose_99 (by decide) rfl (fun hc => ?_) (fun hc => ?_)
  · rw [if_neg hc] at h
    refine J_aload_n (q := 107) 0 d_Li_compose_106 rfl rfl rfl ?_
    refine J_iload (q := 109) 5 d_Li_compose_107 rfl rfl ?_
    obtain ⟨r6, hr6, h⟩ := bd_some h
    refine J_callVq (rc := 0) (rs := 0) (q := 112) (as := [vi (y5)]) (st := [vi (y4)]) (by decide) rfl g_1025 sel_Li_sizeOf (t_Li_sizeOf hr6) (by decide) (by decide) g_1023 g_1026 g_9 hy_Li_sizeOf rfl (Nat.le_of_ble_eq_true rfl) d_Li_compose_109 rfl ?_
    refine J_pick [0, 1, 2, 3] rfl ?_
    exact tj_Li_compose_112 a2 hc_13 _ _ _ h
  · rw [if_pos hc] at h
    refine J_iconst (q := 103) (v := (1 : Int32)) d_Li_compose_102 (by decide) rfl ?_
    refine J_goto (q := 112) d_Li_compose_103 (by decide) ?_
    refine J_pick [0, 1, 2, 3] rfl ?_
    exact tj_Li_compose_112 a2 hc_13 _ _ _ h
def mj_Li_compose_78 (a2 : Int32) (c_13 : Int32 → Mem → Option (Mem)) (y4 : Int32) (y5 : Int32) (y7 : Int32) (μ : Mem) : Option (Mem) :=
  if y7 = (-1 : Int32) then
 (mj_Li_compose_94 a2 c_13 (y4) (y5) μ)
 else
 (Option.bind (m_Li_place (y7) (y4) μ) fun r8 =>
  mj_Li_compose_94 a2 c_13 (y4) (y5) r8)
theorem tj_Li_compose_78 (a2 : Int32) {q : Mem} {c_13 : Int32 → Mem → Option (Mem)} (hc_13 : ∀ (y4 : Int32) (μ : Mem), c_13 y4 μ = some q → J (GM true (QQ none q) none y_Li_compose.name) true b_Li_compose R_5 8 (3) 0 0 13 [(0, vr 5 (0)), (1, vr 320 (0)), (2, vi (a2)), (3, vr 3 (0)), (4, vi (y4))] [] μ) (y4 : Int32) (y5 : Int32) (y7 : Int32) (μ : Mem) (h : mj_Li_compose_78 a2 c_13 y4 y5 y7 μ = some q) : J (GM true (QQ none q) none y_Li_compose.name) true b_Li_compose R_5 8 (3) 0 0 78 [(0, vr 5 (0)), (1, vr 320 (0)), (2, vi (a2)), (3, vr 3 (0)), (4, vi (y4)), (5, vi (y5)), (7, vi (y7))] [] μ := by
  unfold mj_Li_compose_78 at h
  refine J_iload (q := 80) 6 d_Li_compose_78 rfl rfl ?_
  refine J_iconst (q := 81) (v := (-1 : Int32)) d_Li_compose_80 (by decide) rfl ?_
  refine J_icmp_eq (q := 84) (tgt := 94) d_Li_compose_81 (by decide) rfl (fun hc => ?_) (fun hc => ?_)
  · rw [if_pos hc] at h
    refine J_pick [0, 1, 2, 3, 4, 5] rfl ?_
    exact tj_Li_compose_94 a2 hc_13 _ _ _ h
  · rw [if_neg hc] at h
    refine J_aload_n (q := 85) 0 d_Li_compose_84 rfl rfl rfl ?_
    refine J_aload_n (q := 86) 1 d_Li_compose_85 rfl rfl rfl ?_
    refine J_iload (q := 88) 6 d_Li_compose_86 rfl rfl ?_
    refine J_iload (q := 90) 4 d_Li_compose_88 rfl rfl ?_
    refine J_aload_n (q := 91) 3 d_Li_compose_90 rfl rfl rfl ?_
    obtain ⟨r8, hr8, h⟩ := bd_some h
    refine J_callVv (rc := 0) (rs := 0) (q := 94) (as := [vr 320 (0), vi (y7), vi (y4), vr 3 (0)]) (st := []) (by decide) rfl g_1034 sel_Li_place (t_Li_place hr8) (by decide) (by decide) g_1032 g_1035 g_9 hy_Li_place rfl (Nat.le_of_ble_eq_true rfl) d_Li_compose_91 rfl ?_
    refine J_pick [0, 1, 2, 3, 4, 5] rfl ?_
    exact tj_Li_compose_94 a2 hc_13 _ _ _ h
def mj_Li_compose_53 (a2 : Int32) (c_13 : Int32 → Mem → Option (Mem)) (y4 : Int32) (y5 : Int32) (z0 : Int32) (μ : Mem) : Option (Mem) :=
  Option.bind (m_Fo_indexOfCode (a2) (z0) μ) fun r5 =>
  if r5 = (-1 : Int32) then
 (Option.bind (m_Fo_indexOfCode (a2) ((0 : Int32)) μ) fun r9 =>
  mj_Li_compose_78 a2 c_13 (y4) (y5) (r9) μ)
 else
 (mj_Li_compose_78 a2 c_13 (y4) (y5) (r5) μ)
theorem tj_Li_compose_53 (a2 : Int32) {q : Mem} {c_13 : Int32 → Mem → Option (Mem)} (hc_13 : ∀ (y4 : Int32) (μ : Mem), c_13 y4 μ = some q → J (GM true (QQ none q) none y_Li_compose.name) true b_Li_compose R_5 8 (3) 0 0 13 [(0, vr 5 (0)), (1, vr 320 (0)), (2, vi (a2)), (3, vr 3 (0)), (4, vi (y4))] [] μ) (y4 : Int32) (y5 : Int32) (z0 : Int32) (μ : Mem) (h : mj_Li_compose_53 a2 c_13 y4 y5 z0 μ = some q) : J (GM true (QQ none q) none y_Li_compose.name) true b_Li_compose R_5 8 (3) 0 0 53 [(0, vr 5 (0)), (1, vr 320 (0)), (2, vi (a2)), (3, vr 3 (0)), (4, vi (y4)), (5, vi (y5))] [vi (z0)] μ := by
  unfold mj_Li_compose_53 at h
  refine J_istore (q := 55) (lv' := [(6, vi (z0)), (0, vr 5 (0)), (1, vr 320 (0)), (2, vi (a2)), (3, vr 3 (0)), (4, vi (y4)), (5, vi (y5))]) d_Li_compose_53 (by decide) rfl rfl ?_
  refine J_aload_n (q := 56) 2 d_Li_compose_55 rfl rfl rfl ?_
  refine J_iload_n (q := 57) 3 d_Li_compose_56 rfl rfl rfl ?_
  refine J_iload (q := 59) 0 d_Li_compose_57 rfl rfl ?_
  obtain ⟨r5, hr5, h⟩ := bd_some h
  refine J_callSNq (rc := 0) (rs := 0) (q := 62) (as := [vr 320 (0), vi (a2), vi (z0)]) (st := []) g_308 (t_Fo_indexOfCode hr5) (by decide) (by decide) nn_20 g_309 g_1 hy_Fo_indexOfCode rfl (Nat.le_of_ble_eq_true rfl) d_Li_compose_59 rfl ?_
  refine J_istore (q := 64) (lv' := [(7, vi (r5)), (6, vi (z0)), (0, vr 5 (0)), (1, vr 320 (0)), (2, vi (a2)), (3, vr 3 (0)), (4, vi (y4)), (5, vi (y5))]) d_Li_compose_62 (by decide) rfl rfl ?_
  refine J_iload (q := 66) 0 d_Li_compose_64 rfl rfl ?_
  refine J_iconst (q := 67) (v := (-1 : Int32)) d_Li_compose_66 (by decide) rfl ?_
  refine J_icmp_ne (q := 70) (tgt := 78) d_Li_compose_67 (by decide) rfl (fun hc => ?_) (fun hc => ?_)
  · rw [if_neg hc] at h
    refine J_pick [2, 3, 4, 5, 6, 7, 0] rfl ?_
    exact tj_Li_compose_78 a2 hc_13 _ _ _ _ h
  · rw [if_pos hc] at h
    refine J_aload_n (q := 71) 3 d_Li_compose_70 rfl rfl rfl ?_
    refine J_iload_n (q := 72) 4 d_Li_compose_71 rfl rfl rfl ?_
    refine J_iconst (q := 73) (v := (0 : Int32)) d_Li_compose_72 (by decide) rfl ?_
    obtain ⟨r9, hr9, h⟩ := bd_some h
    refine J_callSNq (rc := 0) (rs := 0) (q := 76) (as := [vr 320 (0), vi (a2), vi ((0 : Int32))]) (st := []) g_308 (t_Fo_indexOfCode hr9) (by decide) (by decide) nn_20 g_309 g_1 hy_Fo_indexOfCode rfl (Nat.le_of_ble_eq_true rfl) d_Li_compose_73 rfl ?_
    refine J_istore (q := 78) (lv' := [(7, vi (r9)), (6, vi (z0)), (0, vr 5 (0)), (1, vr 320 (0)), (2, vi (a2)), (3, vr 3 (0)), (4, vi (y4)), (5, vi (y5))]) d_Li_compose_76 (by decide) rfl rfl ?_
    refine J_pick [2, 3, 4, 5, 6, 7, 0] rfl ?_
    exact tj_Li_compose_78 a2 hc_13 _ _ _ _ h
def lp_Li_compose_13 (a2 : Int32) (c_118 : Mem → Option (Mem)) : Nat → Int32 → Mem → Option (Mem)
  | 0, _, _ => none
  | n + 1, y4, μ =>
  if gI μ 5 (0) 4 ≤ y4 then
 (c_118 μ)
 else
 (Option.bind (m_Li_ruleAt (y4) μ) fun r11 =>
  if r11 = (-1 : Int32) then
 (gu (y4) 60 <|
  mj_Li_compose_53 a2 (lp_Li_compose_13 a2 c_118 n) (y4) (r11) (gI μ 203 (0) y4.toNatClampNeg) μ)
 else
 (gu (r11) 40 <|
  mj_Li_compose_53 a2 (lp_Li_compose_13 a2 c_118 n) (y4) (r11) (gI μ 201 (0) r11.toNatClampNeg) μ))
theorem tl_Li_compose_13 (a2 : Int32) {q : Mem} {c_118 : Mem → Option (Mem)} (hc_118 : ∀ (μ : Mem), c_118  μ = some q → J (GM true (QQ none q) none y_Li_compose.name) true b_Li_compose R_5 8 (3) 0 0 118 [(0, vr 5 (0))] [] μ) : ∀ (n : Nat) (y4 : Int32) (μ : Mem), lp_Li_compose_13 a2 c_118 n y4 μ = some q → J (GM true (QQ none q) none y_Li_compose.name) true b_Li_compose R_5 8 (3) 0 0 13 [(0, vr 5 (0)), (1, vr 320 (0)), (2, vi (a2)), (3, vr 3 (0)), (4, vi (y4))] [] μ := by
  intro n
  induction n with
  | zero => intro _ _ h; cases h
  | succ n ih =>
    intro y4 μ h
    unfold lp_Li_compose_13 at h
    refine J_iload (q := 15) 4 d_Li_compose_13 rfl rfl ?_
    refine J_aload_n (q := 16) 0 d_Li_compose_15 rfl rfl rfl ?_
    refine J_getI (q := 19) (j := 4) cd_5 (by decide) (Or.inl rfl) g_222 rfl d_Li_compose_16 rfl ?_
    refine J_icmp_ge (q := 22) (tgt := 118) d_Li_compose_19 (by decide) rfl (fun hc => ?_) (fun hc => ?_)
    · rw [if_pos hc] at h
      refine J_pick [0] rfl ?_
      exact hc_118 _ h
    · rw [if_neg hc] at h
      refine J_aload_n (q := 23) 0 d_Li_compose_22 rfl rfl rfl ?_
      refine J_iload (q := 25) 4 d_Li_compose_23 rfl rfl ?_
      obtain ⟨r11, hr11, h⟩ := bd_some h
      refine J_callVq (rc := 0) (rs := 0) (q := 28) (as := [vi (y4)]) (st := []) (by decide) rfl g_1021 sel_Li_ruleAt (t_Li_ruleAt hr11) (by decide) (by decide) g_1019 g_1022 g_9 hy_Li_ruleAt rfl (Nat.le_of_ble_eq_true rfl) d_Li_compose_25 rfl ?_
      refine J_istore (q := 30) (lv' := [(5, vi (r11)), (0, vr 5 (0)), (1, vr 320 (0)), (2, vi (a2)), (3, vr 3 (0)), (4, vi (y4))]) d_Li_compose_28 (by decide) rfl rfl ?_
      refine J_iload (q := 32) 0 d_Li_compose_30 rfl rfl ?_
      refine J_iconst (q := 33) (v := (-1 : Int32)) d_Li_compose_32 (by decide) rfl ?_
      refine J_icmp_ne (q := 36) (tgt := 46) d_Li_compose_33 (by decide) rfl (fun hc => ?_) (fun hc => ?_)
      · rw [if_neg hc] at h
        refine J_aload_n (q := 47) 1 d_Li_compose_46 rfl rfl rfl ?_
        refine J_getF (q := 50) cd_5 (by decide) ft_5_1 rfl g_219 rfl d_Li_compose_47 rfl ?_
        refine J_iload (q := 52) 0 d_Li_compose_50 rfl rfl ?_
        obtain ⟨hi12, h⟩ := gu_some h
        refine J_iald (q := 53) rk_201 (by decide) hi12 d_Li_compose_52 rfl ?_
        refine J_pick [1, 2, 3, 4, 5, 0] rfl ?_
        exact tj_Li_compose_53 a2 ih _ _ _ _ h
      · rw [if_pos hc] at h
        refine J_aload_n (q := 37) 1 d_Li_compose_36 rfl rfl rfl ?_
        refine J_getF (q := 40) cd_5 (by decide) ft_5_3 rfl g_221 rfl d_Li_compose_37 rfl ?_
        refine J_iload (q := 42) 5 d_Li_compose_40 rfl rfl ?_
        obtain ⟨hi13, h⟩ := gu_some h
        refine J_iald (q := 43) rk_203 (by decide) hi13 d_Li_compose_42 rfl ?_
        refine J_goto (q := 53) d_Li_compose_43 (by decide) ?_
        refine J_pick [1, 2, 3, 4, 5, 0] rfl ?_
        exact tj_Li_compose_53 a2 ih _ _ _ _ h
def mj_Li_compose_118 (a2 : Int32) (μ : Mem) : Option (Mem) :=
  ap (sI μ 5 (0) 4 ((0 : Int32))) fun μ14 =>
  some μ14
theorem tj_Li_compose_118 (a2 : Int32) {q : Mem}  (μ : Mem) (h : mj_Li_compose_118 a2  μ = some q) : J (GM true (QQ none q) none y_Li_compose.name) true b_Li_compose R_5 8 (3) 0 0 118 [(0, vr 5 (0))] [] μ := by
  unfold mj_Li_compose_118 at h
  refine J_aload_n (q := 119) 0 d_Li_compose_118 rfl rfl rfl ?_
  refine J_iconst (q := 120) (v := (0 : Int32)) d_Li_compose_119 (by decide) rfl ?_
  refine J_putI (q := 123) (j := 4) cd_5 (by decide) rfl rfl rfl g_222 rfl d_Li_compose_120 rfl ?_
  obtain ⟨μ14, hμ14, h⟩ := ap_eq h
  refine J_nmM hμ14 ?_
  obtain rfl := Option.some.inj h
  exact J_vret rfl ⟨rfl, rfl⟩ d_Li_compose_123
def m_Li_compose (a2 : Int32) (μ : Mem) : Option (Mem) :=
  ap (sI μ 5 (0) 8 ((0 : Int32))) fun μ1 =>
  ap (sI μ1 5 (0) 9 ((0 : Int32))) fun μ2 =>
  lp_Li_compose_13 a2 (mj_Li_compose_118 a2) FU ((0 : Int32)) μ2
theorem t_Li_compose {a2 : Int32} {μ : Mem} {q : Mem} (h : m_Li_compose a2 μ = some q) : JM true (3) y_Li_compose b_Li_compose 8 none 0 0 [vr 5 (0), vr 320 (0), vi (a2), vr 3 (0)] μ (QQ none q) := by
  unfold m_Li_compose at h
  refine JM.of pl_Li_compose (fun ρ => Nat.le_of_ble_eq_true rfl) ?_
  show J (GM true (QQ none q) none y_Li_compose.name) true b_Li_compose R_5 8 (3) 0 0 0 [(0, vr 5 (0)), (1, vr 320 (0)), (2, vi (a2)), (3, vr 3 (0))] [] μ
  refine J_aload_n (q := 1) 0 d_Li_compose_0 rfl rfl rfl ?_
  refine J_iconst (q := 2) (v := (0 : Int32)) d_Li_compose_1 (by decide) rfl ?_
  refine J_putI (q := 5) (j := 8) cd_5 (by decide) rfl rfl rfl g_229 rfl d_Li_compose_2 rfl ?_
  obtain ⟨μ1, hμ1, h⟩ := ap_eq h
  refine J_nmM hμ1 ?_
  refine J_aload_n (q := 6) 0 d_Li_compose_5 rfl rfl rfl ?_
  refine J_iconst (q := 7) (v := (0 : Int32)) d_Li_compose_6 (by decide) rfl ?_
  refine J_putI (q := 10) (j := 9) cd_5 (by decide) rfl rfl rfl g_231 rfl d_Li_compose_7 rfl ?_
  obtain ⟨μ2, hμ2, h⟩ := ap_eq h
  refine J_nmM hμ2 ?_
  refine J_iconst (q := 11) (v := (0 : Int32)) d_Li_compose_10 (by decide) rfl ?_
  refine J_istore (q := 13) (lv' := [(4, vi ((0 : Int32))), (0, vr 5 (0)), (1, vr 320 (0)), (2, vi (a2)), (3, vr 3 (0))]) d_Li_compose_11 (by decide) rfl rfl ?_
  refine J_pick [1, 2, 3, 4, 0] rfl ?_
  exact tl_Li_compose_13 a2 (fun _ h => tj_Li_compose_118 a2 _ h) FU _ _ h
def m_Fo_set (μ : Mem) : Option (Int32 × Mem) :=
  Option.bind (m_Li_compose (gI μ 11 (0) 1) μ) fun r1 =>
  some ((gI r1 5 (0) 8, r1))
theorem t_Fo_set {μ : Mem} {q : Int32 × Mem} (h : m_Fo_set  μ = some q) : JM true (4) y_Fo_set b_Fo_set 1 (some (.int)) 0 0 [vr 11 (0)] μ (QQ (some (vi q.1)) q.2) := by
  unfold m_Fo_set at h
  refine JM.of pl_Fo_set (fun ρ => Nat.le_of_ble_eq_true rfl) ?_
  show J (GM true (QQ (some (vi q.1)) q.2) (some (.int)) y_Fo_set.name) true b_Fo_set R_11 1 (4) 0 0 0 [(0, vr 11 (0))] [] μ
  refine J_aload_n (q := 1) 0 d_Fo_set_0 rfl rfl rfl ?_
  refine J_getF (q := 4) cd_11 (by decide) ft_11_11 rfl g_265 rfl d_Fo_set_1 rfl ?_
  refine J_aload_n (q := 5) 0 d_Fo_set_4 rfl rfl rfl ?_
  refine J_getF (q := 8) cd_11 (by decide) ft_11_0 rfl g_254 rfl d_Fo_set_5 rfl ?_
  refine J_aload_n (q := 9) 0 d_Fo_set_8 rfl rfl rfl ?_
  refine J_getI (q := 12) (j := 1) cd_11 (by decide) (Or.inl rfl) g_255 rfl d_Fo_set_9 rfl ?_
  refine J_aload_n (q := 13) 0 d_Fo_set_12 rfl rfl rfl ?_
  refine J_getF (q := 16) cd_11 (by decide) ft_11_10 rfl g_264 rfl d_Fo_set_13 rfl ?_
  obtain ⟨r1, hr1, h⟩ := bd_some h
  refine J_callVv (rc := 0) (rs := 0) (q := 19) (as := [vr 320 (0), vi (gI μ 11 (0) 1), vr 3 (0)]) (st := []) (by decide) rfl g_1016 g_1017 (t_Li_compose hr1) (by decide) (by decide) g_1015 g_1018 g_9 hy_Li_compose rfl (Nat.le_of_ble_eq_true rfl) d_Fo_set_16 rfl ?_
  refine J_aload_n (q := 20) 0 d_Fo_set_19 rfl rfl rfl ?_
  refine J_getF (q := 23) cd_11 (by decide) ft_11_11 rfl g_265 rfl d_Fo_set_20 rfl ?_
  refine J_getI (q := 26) (j := 8) cd_5 (by decide) (Or.inl rfl) g_230 rfl d_Fo_set_23 rfl ?_
  obtain rfl := Option.some.inj h
  exact J_iret rfl ⟨rfl, rfl⟩ d_Fo_set_26
def m_Fo_placed (a1 : Int32) (a2 : Int32) (μ : Mem) : Option (Int32) :=
  if (m_Fo_within ((a1).toInt64) ((0 : Int64)) (((gI μ 5 (0) 8) - ((1 : Int32))).toInt64) μ) then
 (if a2 = (0 : Int32) then
 (gu (a1) 60 <|
  some (gI μ 205 (0) a1.toNatClampNeg))
 else if a2 = (1 : Int32) then
 (gu (a1) 60 <|
  some (gI μ 206 (0) a1.toNatClampNeg))
 else if a2 = (2 : Int32) then
 (gu (a1) 60 <|
  some (gI μ 207 (0) a1.toNatClampNeg))
 else (some ((-1000000 : Int32))))
 else
 (some ((-1000000 : Int32)))
theorem t_Fo_placed {a1 : Int32} {a2 : Int32} {μ : Mem} {q : Int32} (h : m_Fo_placed a1 a2 μ = some q) : JM true (1) y_Fo_placed b_Fo_placed 3 (some (.int)) 0 0 [vr 11 (0), vi (a1), vi (a2)] μ (QQ (some (vi q)) μ) := by
  unfold m_Fo_placed at h
  refine JM.of pl_Fo_placed (fun ρ => Nat.le_of_ble_eq_true rfl) ?_
  show J (GM true (QQ (some (vi q)) μ) (some (.int)) y_Fo_placed.name) true b_Fo_placed R_11 3 (1) 0 0 0 [(0, vr 11 (0)), (1, vi (a1)), (2, vi (a2))] [] μ
  refine J_iload_n (q := 1) 1 d_Fo_placed_0 rfl rfl rfl ?_
  refine J_i2l (q := 2) d_Fo_placed_1 rfl ?_
  refine J_lconst (q := 3) (v := (0 : Int64)) d_Fo_placed_2 (by decide) rfl ?_
  refine J_aload_n (q := 4) 0 d_Fo_placed_3 rfl rfl rfl ?_
  refine J_getF (q := 7) cd_11 (by decide) ft_11_11 rfl g_265 rfl d_Fo_placed_4 rfl ?_
  refine J_getI (q := 10) (j := 8) cd_5 (by decide) (Or.inl rfl) g_230 rfl d_Fo_placed_7 rfl ?_
  refine J_iconst (q := 11) (v := (1 : Int32)) d_Fo_placed_10 (by decide) rfl ?_
  refine J_isub (q := 12) d_Fo_placed_11 rfl ?_
  refine J_i2l (q := 13) d_Fo_placed_12 rfl ?_
  refine J_callSq (rc := 0) (rs := 0) (q := 16) (as := [vl ((a1).toInt64), vl ((0 : Int64)), vl (((gI μ 5 (0) 8) - ((1 : Int32))).toInt64)]) (st := []) g_300 (t_Fo_within rfl) (by decide) (by decide) g_299 g_301 g_1 hy_Fo_within rfl (Nat.le_of_ble_eq_true rfl) d_Fo_placed_13 rfl ?_
  refine J_ifB_ne (q := 19) (tgt := 22) d_Fo_placed_16 (by decide) rfl (fun hb => ?_) (fun hb => ?_)
  · rw [iB_t hb] at h
    refine J_iload_n (q := 23) 2 d_Fo_placed_22 rfl rfl rfl ?_
    by_cases hk0 : a2 = (0 : Int32)
    · rw [if_pos hk0] at h
      refine J_swIn (tgt := 48) d_Fo_placed_23 (by rw [hk0]; decide) (by rw [hk0]; decide) (by rw [hk0]; rfl) (by decide) ?_
      refine J_aload_n (q := 49) 0 d_Fo_placed_48 rfl rfl rfl ?_
      refine J_getF (q := 52) cd_11 (by decide) ft_11_11 rfl g_265 rfl d_Fo_placed_49 rfl ?_
      refine J_getF (q := 55) cd_5 (by decide) ft_5_5 rfl g_224 rfl d_Fo_placed_52 rfl ?_
      refine J_iload_n (q := 56) 1 d_Fo_placed_55 rfl rfl rfl ?_
      obtain ⟨hi1, h⟩ := gu_some h
      refine J_iald (q := 57) rk_205 (by decide) hi1 d_Fo_placed_56 rfl ?_
      obtain rfl := Option.some.inj h
      exact J_iret rfl ⟨rfl, rfl⟩ d_Fo_placed_57
    rw [if_neg hk0] at h
    by_cases hk1 : a2 = (1 : Int32)
    · rw [if_pos hk1] at h
      refine J_swIn (tgt := 58) d_Fo_placed_23 (by rw [hk1]; decide) (by rw [hk1]; decide) (by rw [hk1]; rfl) (by decide) ?_
      refine J_aload_n (q := 59) 0 d_Fo_placed_58 rfl rfl rfl ?_
      refine J_getF (q := 62) cd_11 (by decide) ft_11_11 rfl g_265 rfl d_Fo_placed_59 rfl ?_
      refine J_getF (q := 65) cd_5 (by decide) ft_5_6 rfl g_226 rfl d_Fo_placed_62 rfl ?_
      refine J_iload_n (q := 66) 1 d_Fo_placed_65 rfl rfl rfl ?_
      obtain ⟨hi2, h⟩ := gu_some h
      refine J_iald (q := 67) rk_206 (by decide) hi2 d_Fo_placed_66 rfl ?_
      obtain rfl := Option.some.inj h
      exact J_iret rfl ⟨rfl, rfl⟩ d_Fo_placed_67
    rw [if_neg hk1] at h
    by_cases hk2 : a2 = (2 : Int32)
    · rw [if_pos hk2] at h
      refine J_swIn (tgt := 68) d_Fo_placed_23 (by rw [hk2]; decide) (by rw [hk2]; decide) (by rw [hk2]; rfl) (by decide) ?_
      refine J_aload_n (q := 69) 0 d_Fo_placed_68 rfl rfl rfl ?_
      refine J_getF (q := 72) cd_11 (by decide) ft_11_11 rfl g_265 rfl d_Fo_placed_69 rfl ?_
      refine J_getF (q := 75) cd_5 (by decide) ft_5_7 rfl g_228 rfl d_Fo_placed_72 rfl ?_
      refine J_iload_n (q := 76) 1 d_Fo_placed_75 rfl rfl rfl ?_
      obtain ⟨hi3, h⟩ := gu_some h
      refine J_iald (q := 77) rk_207 (by decide) hi3 d_Fo_placed_76 rfl ?_
      obtain rfl := Option.some.inj h
      exact J_iret rfl ⟨rfl, rfl⟩ d_Fo_placed_77
    rw [if_neg hk2] at h
    refine J_swOut (tgt := 78) d_Fo_placed_23 (by have e0 := lv_neT hk0 (a := 0) (by decide); have e1 := lv_neT hk1 (a := 1) (by decide); have e2 := lv_neT hk2 (a := 2) (by decide); omega) (by decide) ?_
    refine J_ldc (q := 80) d_Fo_placed_78 g_695 rfl ?_
    obtain rfl := Option.some.inj h
    exact J_iret rfl ⟨rfl, rfl⟩ d_Fo_placed_80
  · rw [iB_f hb] at h
    refine J_ldc (q := 21) d_Fo_placed_19 g_695 rfl ?_
    obtain rfl := Option.some.inj h
    exact J_iret rfl ⟨rfl, rfl⟩ d_Fo_placed_21
def m_Fo_length (μ : Mem) : Int32 :=
  gI μ 5 (0) 9
theorem t_Fo_length {μ : Mem} {q : Int32} (h : m_Fo_length  μ = q) : JM true (0) y_Fo_length b_Fo_length 1 (some (.int)) 0 0 [vr 11 (0)] μ (QQ (some (vi q)) μ) := by
  unfold m_Fo_length at h
  refine JM.of pl_Fo_length (fun ρ => Nat.le_of_ble_eq_true rfl) ?_
  show J (GM true (QQ (some (vi q)) μ) (some (.int)) y_Fo_length.name) true b_Fo_length R_11 1 (0) 0 0 0 [(0, vr 11 (0))] [] μ
  refine J_aload_n (q := 1) 0 d_Fo_length_0 rfl rfl rfl ?_
  refine J_getF (q := 4) cd_11 (by decide) ft_11_11 rfl g_265 rfl d_Fo_length_1 rfl ?_
  refine J_getI (q := 7) (j := 9) cd_5 (by decide) (Or.inl rfl) g_232 rfl d_Fo_length_4 rfl ?_
  subst h
  exact J_iret rfl ⟨rfl, rfl⟩ d_Fo_length_7
def lp_Mo_find_2 (a1 : Int32) (μ : Mem) : Nat → Int32 → Option (Int32)
  | 0, _ => none
  | n + 1, y2 =>
  if gI μ 12 (0) 0 ≤ y2 then
 (some ((-1 : Int32)))
 else
 (gu (y2) 32 <|
  if gI μ 341 (0) y2.toNatClampNeg = a1 then
 (some (y2))
 else
 (ap (y2 + (1 : Int32)) fun x4 =>
  lp_Mo_find_2 a1 μ n (x4)))
theorem tl_Mo_find_2 (a1 : Int32) (μ : Mem) {q : Int32}  : ∀ (n : Nat) (y2 : Int32), lp_Mo_find_2 a1 μ n y2 = some q → J (GM true (QQ (some (vi q)) μ) (some (.int)) y_Mo_find.name) true b_Mo_find R_12 3 (0) 0 0 2 [(0, vr 12 (0)), (1, vi (a1)), (2, vi (y2))] [] μ := by
  intro n
  induction n with
  | zero => intro _ h; cases h
  | succ n ih =>
    intro y2 h
    unfold lp_Mo_find_2 at h
    refine J_iload_n (q := 3) 2 d_Mo_find_2 rfl rfl rfl ?_
    refine J_aload_n (q := 4) 0 d_Mo_find_3 rfl rfl rfl ?_
    refine J_getI (q := 7) (j := 0) cd_12 (by decide) (Or.inl rfl) g_1051 rfl d_Mo_find_4 rfl ?_
    refine J_icmp_ge (q := 10) (tgt := 28) d_Mo_find_7 (by decide) rfl (fun hc => ?_) (fun hc => ?_)
    · rw [if_pos hc] at h
      refine J_iconst (q := 29) (v := (-1 : Int32)) d_Mo_find_28 (by decide) rfl ?_
      obtain rfl := Option.some.inj h
      exact J_iret rfl ⟨rfl, rfl⟩ d_Mo_find_29
    · rw [if_neg hc] at h
      refine J_aload_n (q := 11) 0 d_Mo_find_10 rfl rfl rfl ?_
      refine J_getF (q := 14) cd_12 (by decide) ft_12_1 rfl g_1052 rfl d_Mo_find_11 rfl ?_
      refine J_iload_n (q := 15) 2 d_Mo_find_14 rfl rfl rfl ?_
      obtain ⟨hi3, h⟩ := gu_some h
      refine J_iald (q := 16) rk_341 (by decide) hi3 d_Mo_find_15 rfl ?_
      refine J_iload_n (q := 17) 1 d_Mo_find_16 rfl rfl rfl ?_
      refine J_icmp_ne (q := 20) (tgt := 22) d_Mo_find_17 (by decide) rfl (fun hc => ?_) (fun hc => ?_)
      · rw [if_neg hc] at h
        obtain ⟨x4, hx4, h⟩ := ap_eq h
        refine J_iinc (q := 25) (v := x4) (lv' := [(2, vi (x4)), (0, vr 12 (0)), (1, vi (a1))]) 2 d_Mo_find_22 rfl (by rw [hx4]; rfl) (by decide) rfl rfl ?_
        refine J_goto (q := 2) d_Mo_find_25 (by decide) ?_
        refine J_pick [1, 2, 0] rfl ?_
        exact ih _ h
      · rw [if_pos hc] at h
        refine J_iload_n (q := 21) 2 d_Mo_find_20 rfl rfl rfl ?_
        obtain rfl := Option.some.inj h
        exact J_iret rfl ⟨rfl, rfl⟩ d_Mo_find_21
def m_Mo_find (a1 : Int32) (μ : Mem) : Option (Int32) :=
  lp_Mo_find_2 a1 μ FU ((0 : Int32))
theorem t_Mo_find {a1 : Int32} {μ : Mem} {q : Int32} (h : m_Mo_find a1 μ = some q) : JM true (0) y_Mo_find b_Mo_find 3 (some (.int)) 0 0 [vr 12 (0), vi (a1)] μ (QQ (some (vi q)) μ) := by
  unfold m_Mo_find at h
  refine JM.of pl_Mo_find (fun ρ => Nat.le_of_ble_eq_true rfl) ?_
  show J (GM true (QQ (some (vi q)) μ) (some (.int)) y_Mo_find.name) true b_Mo_find R_12 3 (0) 0 0 0 [(0, vr 12 (0)), (1, vi (a1))] [] μ
  refine J_iconst (q := 1) (v := (0 : Int32)) d_Mo_find_0 (by decide) rfl ?_
  refine J_istore_n (q := 2) (lv' := [(2, vi ((0 : Int32))), (0, vr 12 (0)), (1, vi (a1))]) d_Mo_find_1 rfl (by decide) rfl rfl ?_
  refine J_pick [1, 2, 0] rfl ?_
  exact tl_Mo_find_2 a1 μ FU _ h
def m_Mo_isCode (a1 : Int32) (μ : Mem) : Bool :=
  if a1 < 0 then
 (false)
 else
 (if (65535 : Int32) < a1 then
 (false)
 else
 (true))
theorem t_Mo_isCode {a1 : Int32} {μ : Mem} {q : Bool} (h : m_Mo_isCode a1 μ = q) : JM true (0) y_Mo_isCode b_Mo_isCode 1 (some (.boolean)) 0 0 [vi (a1)] μ (QQ (some (vi (b2i q))) μ) := by
  unfold m_Mo_isCode at h
  refine JM.of pl_Mo_isCode (fun ρ => Nat.le_of_ble_eq_true rfl) ?_
  show J (GM true (QQ (some (vi (b2i q))) μ) (some (.boolean)) y_Mo_isCode.name) true b_Mo_isCode R_12 1 (0) 0 0 0 [(0, vi (a1))] [] μ
  refine J_iload_n (q := 1) 0 d_Mo_isCode_0 rfl rfl rfl ?_
  refine J_if_lt (q := 4) (tgt := 14) d_Mo_isCode_1 (by decide) rfl (fun hc => ?_) (fun hc => ?_)
  · rw [if_pos hc] at h
    refine J_iconst (q := 15) (v := (0 : Int32)) d_Mo_isCode_14 (by decide) rfl ?_
    subst h
    exact J_zret (Or.inl rfl) rfl ⟨rfl, rfl⟩ d_Mo_isCode_15
  · rw [if_neg hc] at h
    refine J_iload_n (q := 5) 0 d_Mo_isCode_4 rfl rfl rfl ?_
    refine J_ldc (q := 7) d_Mo_isCode_5 g_1280 rfl ?_
    refine J_icmp_gt (q := 10) (tgt := 14) d_Mo_isCode_7 (by decide) rfl (fun hc => ?_) (fun hc => ?_)
    · rw [if_pos hc] at h
      refine J_iconst (q := 15) (v := (0 : Int32)) d_Mo_isCode_14 (by decide) rfl ?_
      subst h
      exact J_zret (Or.inl rfl) rfl ⟨rfl, rfl⟩ d_Mo_isCode_15
    · rw [if_neg hc] at h
      refine J_iconst (q := 11) (v := (1 : Int32)) d_Mo_isCode_10 (by decide) rfl ?_
      refine J_goto (q := 15) d_Mo_isCode_11 (by decide) ?_
      subst h
      exact J_zret (Or.inr rfl) rfl ⟨rfl, rfl⟩ d_Mo_isCode_15
def mj_Mo_letter_34 (a1 : Int32) (a2 : Int32) (c_5 : Int32 → Int32 → Mem → Option (Int32 × Mem)) (y4 : Int32) (z0 : Int32) (μ : Mem) : Option (Int32 × Mem) :=
  ap (y4 + (1 : Int32)) fun x1 =>
  c_5 (z0) (x1) μ
theorem tj_Mo_letter_34 (a1 : Int32) (a2 : Int32) {q : Int32 × Mem} {c_5 : Int32 → Int32 → Mem → Option (Int32 × Mem)} (hc_5 : ∀ (y3 : Int32) (y4 : Int32) (μ : Mem), c_5 y3 y4 μ = some q → J (GM true (QQ (some (vi q.1)) q.2) (some (.int)) y_Mo_letter.name) true b_Mo_letter R_12 5 (1) 0 0 5 [(0, vr 12 (0)), (1, vi (a1)), (2, vi (a2)), (3, vi (y3)), (4, vi (y4))] [] μ) (y4 : Int32) (z0 : Int32) (μ : Mem) (h : mj_Mo_letter_34 a1 a2 c_5 y4 z0 μ = some q) : J (GM true (QQ (some (vi q.1)) q.2) (some (.int)) y_Mo_letter.name) true b_Mo_letter R_12 5 (1) 0 0 34 [(0, vr 12 (0)), (1, vi (a1)), (2, vi (a2)), (4, vi (y4))] [vi (z0)] μ := by
  unfold mj_Mo_letter_34 at h
  refine J_istore_n (q := 35) (lv' := [(3, vi (z0)), (0, vr 12 (0)), (1, vi (a1)), (2, vi (a2)), (4, vi (y4))]) d_Mo_letter_34 rfl (by decide) rfl rfl ?_
  obtain ⟨x1, hx1, h⟩ := ap_eq h
  refine J_iinc (q := 38) (v := x1) (lv' := [(4, vi (x1)), (3, vi (z0)), (0, vr 12 (0)), (1, vi (a1)), (2, vi (a2))]) 4 d_Mo_letter_35 rfl (by rw [hx1]; rfl) (by decide) rfl rfl ?_
  refine J_goto (q := 5) d_Mo_letter_38 (by decide) ?_
  refine J_pick [2, 3, 4, 1, 0] rfl ?_
  exact hc_5 _ _ _ h
def mj_Mo_letter_29 (a1 : Int32) (a2 : Int32) (c_5 : Int32 → Int32 → Mem → Option (Int32 × Mem)) (y4 : Int32) (μ : Mem) : Option (Int32 × Mem) :=
  mj_Mo_letter_34 a1 a2 c_5 (y4) ((1 : Int32)) μ
theorem tj_Mo_letter_29 (a1 : Int32) (a2 : Int32) {q : Int32 × Mem} {c_5 : Int32 → Int32 → Mem → Option (Int32 × Mem)} (hc_5 : ∀ (y3 : Int32) (y4 : Int32) (μ : Mem), c_5 y3 y4 μ = some q → J (GM true (QQ (some (vi q.1)) q.2) (some (.int)) y_Mo_letter.name) true b_Mo_letter R_12 5 (1) 0 0 5 [(0, vr 12 (0)), (1, vi (a1)), (2, vi (a2)), (3, vi (y3)), (4, vi (y4))] [] μ) (y4 : Int32) (μ : Mem) (h : mj_Mo_letter_29 a1 a2 c_5 y4 μ = some q) : J (GM true (QQ (some (vi q.1)) q.2) (some (.int)) y_Mo_letter.name) true b_Mo_letter R_12 5 (1) 0 0 29 [(0, vr 12 (0)), (1, vi (a1)), (2, vi (a2)), (4, vi (y4))] [] μ := by
  unfold mj_Mo_letter_29 at h
  refine J_iconst (q := 30) (v := (1 : Int32)) d_Mo_letter_29 (by decide) rfl ?_
  refine J_goto (q := 34) d_Mo_letter_30 (by decide) ?_
  refine J_pick [0, 1, 2, 3] rfl ?_
  exact tj_Mo_letter_34 a1 a2 hc_5 _ _ _ h
def lp_Mo_letter_5 (a1 : Int32) (a2 : Int32) (c_41 : Int32 → Mem → Option (Int32 × Mem)) : Nat → Int32 → Int32 → Mem → Option (Int32 × Mem)
  | 0, _, _, _ => none
  | n + 1, y3, y4, μ =>
  if gI μ 12 (0) 0 ≤ y4 then
 (c_41 (y3) μ)
 else
 (if y3 = 0 then
 (gu (y4) 32 <|
  if gI μ 341 (0) y4.toNatClampNeg = a1 then
 (mj_Mo_letter_29 a1 a2 (lp_Mo_letter_5 a1 a2 c_41 n) (y4) μ)
 else
 (mj_Mo_letter_34 a1 a2 (lp_Mo_letter_5 a1 a2 c_41 n) (y4) ((0 : Int32)) μ))
 else
 (mj_Mo_letter_29 a1 a2 (lp_Mo_letter_5 a1 a2 c_41 n) (y4) μ))
theorem tl_Mo_letter_5 (a1 : Int32) (a2 : Int32) {q : Int32 × Mem} {c_41 : Int32 → Mem → Option (Int32 × Mem)} (hc_41 : ∀ (y3 : Int32) (μ : Mem), c_41 y3 μ = some q → J (GM true (QQ (some (vi q.1)) q.2) (some (.int)) y_Mo_letter.name) true b_Mo_letter R_12 5 (1) 0 0 41 [(0, vr 12 (0)), (1, vi (a1)), (2, vi (a2)), (3, vi (y3))] [] μ) : ∀ (n : Nat) (y3 : Int32) (y4 : Int32) (μ : Mem), lp_Mo_letter_5 a1 a2 c_41 n y3 y4 μ = some q → J (GM true (QQ (some (vi q.1)) q.2) (some (.int)) y_Mo_letter.name) true b_Mo_letter R_12 5 (1) 0 0 5 [(0, vr 12 (0)), (1, vi (a1)), (2, vi (a2)), (3, vi (y3)), (4, vi (y4))] [] μ := by
  intro n
  induction n with
  | zero => intro _ _ _ h; cases h
  | succ n ih =>
    intro y3 y4 μ h
    unfold lp_Mo_letter_5 at h
    refine J_iload (q := 7) 4 d_Mo_letter_5 rfl rfl ?_
    refine J_aload_n (q := 8) 0 d_Mo_letter_7 rfl rfl rfl ?_
    refine J_getI (q := 11) (j := 0) cd_12 (by decide) (Or.inl rfl) g_1051 rfl d_Mo_letter_8 rfl ?_
    refine J_icmp_ge (q := 14) (tgt := 41) d_Mo_letter_11 (by decide) rfl (fun hc => ?_) (fun hc => ?_)
    · rw [if_pos hc] at h
      refine J_pick [0, 1, 2, 3] rfl ?_
      exact hc_41 _ _ h
    · rw [if_neg hc] at h
      refine J_iload_n (q := 15) 3 d_Mo_letter_14 rfl rfl rfl ?_
      refine J_if_ne (q := 18) (tgt := 29) d_Mo_letter_15 (by decide) rfl (fun hc => ?_) (fun hc => ?_)
      · rw [if_neg hc] at h
        refine J_pick [0, 1, 2, 4] rfl ?_
        exact tj_Mo_letter_29 a1 a2 ih _ _ h
      · rw [if_pos hc] at h
        refine J_aload_n (q := 19) 0 d_Mo_letter_18 rfl rfl rfl ?_
        refine J_getF (q := 22) cd_12 (by decide) ft_12_1 rfl g_1052 rfl d_Mo_letter_19 rfl ?_
        refine J_iload (q := 24) 4 d_Mo_letter_22 rfl rfl ?_
        obtain ⟨hi3, h⟩ := gu_some h
        refine J_iald (q := 25) rk_341 (by decide) hi3 d_Mo_letter_24 rfl ?_
        refine J_iload_n (q := 26) 1 d_Mo_letter_25 rfl rfl rfl ?_
        refine J_icmp_ne (q := 29) (tgt := 33) d_Mo_letter_26 (by decide) rfl (fun hc => ?_) (fun hc => ?_)
        · rw [if_neg hc] at h
          refine J_iconst (q := 34) (v := (0 : Int32)) d_Mo_letter_33 (by decide) rfl ?_
          refine J_pick [0, 1, 2, 4] rfl ?_
          exact tj_Mo_letter_34 a1 a2 ih _ _ _ h
        · rw [if_pos hc] at h
          refine J_pick [0, 1, 2, 4] rfl ?_
          exact tj_Mo_letter_29 a1 a2 ih _ _ h
def mj_Mo_letter_41 (a1 : Int32) (a2 : Int32) (y3 : Int32) (μ : Mem) : Option (Int32 × Mem) :=
  if y3 = 0 then
 (if (m_Mo_isCode (a1) μ) then
 (if a2 < 0 then
 (some (((-1 : Int32), μ)))
 else
 (if (32000 : Int32) < a2 then
 (some (((-1 : Int32), μ)))
 else
 (if gI μ 12 (0) 0 = (32 : Int32) then
 (some (((-1 : Int32), μ)))
 else
 (gu (gI μ 12 (0) 0) 32 <|
  ap (sI μ 341 (0) (gI μ 12 (0) 0).toNatClampNeg (a1)) fun μ5 =>
  gu (gI μ5 12 (0) 0) 32 <|
  ap (sI μ5 342 (0) (gI μ5 12 (0) 0).toNatClampNeg (a2)) fun μ7 =>
  ap (sI μ7 12 (0) 0 ((gI μ7 12 (0) 0) + ((1 : Int32)))) fun μ8 =>
  some (((gI μ8 12 (0) 0) - ((1 : Int32)), μ8))))))
 else
 (some (((-1 : Int32), μ))))
 else
 (some (((-1 : Int32), μ)))
theorem tj_Mo_letter_41 (a1 : Int32) (a2 : Int32) {q : Int32 × Mem}  (y3 : Int32) (μ : Mem) (h : mj_Mo_letter_41 a1 a2 y3 μ = some q) : J (GM true (QQ (some (vi q.1)) q.2) (some (.int)) y_Mo_letter.name) true b_Mo_letter R_12 5 (1) 0 0 41 [(0, vr 12 (0)), (1, vi (a1)), (2, vi (a2)), (3, vi (y3))] [] μ := by
  unfold mj_Mo_letter_41 at h
  refine J_iload_n (q := 42) 3 d_Mo_letter_41 rfl rfl rfl ?_
  refine J_if_ne (q := 45) (tgt := 72) d_Mo_letter_42 (by decide) rfl (fun hc => ?_) (fun hc => ?_)
  · rw [if_neg hc] at h
    refine J_iconst (q := 73) (v := (-1 : Int32)) d_Mo_letter_72 (by decide) rfl ?_
    obtain rfl := Option.some.inj h
    exact J_iret rfl ⟨rfl, rfl⟩ d_Mo_letter_73
  · rw [if_pos hc] at h
    refine J_iload_n (q := 46) 1 d_Mo_letter_45 rfl rfl rfl ?_
    refine J_callSq (rc := 0) (rs := 0) (q := 49) (as := [vi (a1)]) (st := []) g_1278 (t_Mo_isCode rfl) (by decide) (by decide) g_1277 g_1279 g_10 hy_Mo_isCode rfl (Nat.le_of_ble_eq_true rfl) d_Mo_letter_46 rfl ?_
    refine J_ifB_eq (q := 52) (tgt := 72) d_Mo_letter_49 (by decide) rfl (fun hb => ?_) (fun hb => ?_)
    · rw [iB_f hb] at h
      refine J_iconst (q := 73) (v := (-1 : Int32)) d_Mo_letter_72 (by decide) rfl ?_
      obtain rfl := Option.some.inj h
      exact J_iret rfl ⟨rfl, rfl⟩ d_Mo_letter_73
    · rw [iB_t hb] at h
      refine J_iload_n (q := 53) 2 d_Mo_letter_52 rfl rfl rfl ?_
      refine J_if_lt (q := 56) (tgt := 72) d_Mo_letter_53 (by decide) rfl (fun hc => ?_) (fun hc => ?_)
      · rw [if_pos hc] at h
        refine J_iconst (q := 73) (v := (-1 : Int32)) d_Mo_letter_72 (by decide) rfl ?_
        obtain rfl := Option.some.inj h
        exact J_iret rfl ⟨rfl, rfl⟩ d_Mo_letter_73
      · rw [if_neg hc] at h
        refine J_iload_n (q := 57) 2 d_Mo_letter_56 rfl rfl rfl ?_
        refine J_sipush (q := 60) (v := (32000 : Int32)) d_Mo_letter_57 (by decide) rfl ?_
        refine J_icmp_gt (q := 63) (tgt := 72) d_Mo_letter_60 (by decide) rfl (fun hc => ?_) (fun hc => ?_)
        · rw [if_pos hc] at h
          refine J_iconst (q := 73) (v := (-1 : Int32)) d_Mo_letter_72 (by decide) rfl ?_
          obtain rfl := Option.some.inj h
          exact J_iret rfl ⟨rfl, rfl⟩ d_Mo_letter_73
        · rw [if_neg hc] at h
          refine J_aload_n (q := 64) 0 d_Mo_letter_63 rfl rfl rfl ?_
          refine J_getI (q := 67) (j := 0) cd_12 (by decide) (Or.inl rfl) g_1051 rfl d_Mo_letter_64 rfl ?_
          refine J_bipush (q := 69) (v := (32 : Int32)) d_Mo_letter_67 (by decide) rfl ?_
          refine J_icmp_ne (q := 72) (tgt := 74) d_Mo_letter_69 (by decide) rfl (fun hc => ?_) (fun hc => ?_)
          · rw [if_neg hc] at h
            refine J_aload_n (q := 75) 0 d_Mo_letter_74 rfl rfl rfl ?_
            refine J_getF (q := 78) cd_12 (by decide) ft_12_1 rfl g_1052 rfl d_Mo_letter_75 rfl ?_
            refine J_aload_n (q := 79) 0 d_Mo_letter_78 rfl rfl rfl ?_
            refine J_getI (q := 82) (j := 0) cd_12 (by decide) (Or.inl rfl) g_1051 rfl d_Mo_letter_79 rfl ?_
            refine J_iload_n (q := 83) 1 d_Mo_letter_82 rfl rfl rfl ?_
            obtain ⟨hi4, h⟩ := gu_some h
            refine J_iast (q := 84) rk_341 (by decide) hi4 d_Mo_letter_83 rfl ?_
            obtain ⟨μ5, hμ5, h⟩ := ap_eq h
            refine J_nmM hμ5 ?_
            refine J_aload_n (q := 85) 0 d_Mo_letter_84 rfl rfl rfl ?_
            refine J_getF (q := 88) cd_12 (by decide) ft_12_2 rfl g_1053 rfl d_Mo_letter_85 rfl ?_
            refine J_aload_n (q := 89) 0 d_Mo_letter_88 rfl rfl rfl ?_
            refine J_getI (q := 92) (j := 0) cd_12 (by decide) (Or.inl rfl) g_1051 rfl d_Mo_letter_89 rfl ?_
            refine J_iload_n (q := 93) 2 d_Mo_letter_92 rfl rfl rfl ?_
            obtain ⟨hi6, h⟩ := gu_some h
            refine J_iast (q := 94) rk_342 (by decide) hi6 d_Mo_letter_93 rfl ?_
            obtain ⟨μ7, hμ7, h⟩ := ap_eq h
            refine J_nmM hμ7 ?_
            refine J_aload_n (q := 95) 0 d_Mo_letter_94 rfl rfl rfl ?_
            refine J_dupR (q := 96) d_Mo_letter_95 rfl ?_
            refine J_getI (q := 99) (j := 0) cd_12 (by decide) (Or.inl rfl) g_1051 rfl d_Mo_letter_96 rfl ?_
            refine J_iconst (q := 100) (v := (1 : Int32)) d_Mo_letter_99 (by decide) rfl ?_
            refine J_iadd (q := 101) d_Mo_letter_100 rfl ?_
            refine J_putI (q := 104) (j := 0) cd_12 (by decide) rfl rfl rfl g_1051 rfl d_Mo_letter_101 rfl ?_
            obtain ⟨μ8, hμ8, h⟩ := ap_eq h
            refine J_nmM hμ8 ?_
            refine J_aload_n (q := 105) 0 d_Mo_letter_104 rfl rfl rfl ?_
            refine J_getI (q := 108) (j := 0) cd_12 (by decide) (Or.inl rfl) g_1051 rfl d_Mo_letter_105 rfl ?_
            refine J_iconst (q := 109) (v := (1 : Int32)) d_Mo_letter_108 (by decide) rfl ?_
            refine J_isub (q := 110) d_Mo_letter_109 rfl ?_
            obtain rfl := Option.some.inj h
            exact J_iret rfl ⟨rfl, rfl⟩ d_Mo_letter_110
          · rw [if_pos hc] at h
            refine J_iconst (q := 73) (v := (-1 : Int32)) d_Mo_letter_72 (by decide) rfl ?_
            obtain rfl := Option.some.inj h
            exact J_iret rfl ⟨rfl, rfl⟩ d_Mo_letter_73
def m_Mo_letter (a1 : Int32) (a2 : Int32) (μ : Mem) : Option (Int32 × Mem) :=
  lp_Mo_letter_5 a1 a2 (mj_Mo_letter_41 a1 a2) FU ((0 : Int32)) ((0 : Int32)) μ
theorem t_Mo_letter {a1 : Int32} {a2 : Int32} {μ : Mem} {q : Int32 × Mem} (h : m_Mo_letter a1 a2 μ = some q) : JM true (1) y_Mo_letter b_Mo_letter 5 (some (.int)) 0 0 [vr 12 (0), vi (a1), vi (a2)] μ (QQ (some (vi q.1)) q.2) := by
  unfold m_Mo_letter at h
  refine JM.of pl_Mo_letter (fun ρ => Nat.le_of_ble_eq_true rfl) ?_
  show J (GM true (QQ (some (vi q.1)) q.2) (some (.int)) y_Mo_letter.name) true b_Mo_letter R_12 5 (1) 0 0 0 [(0, vr 12 (0)), (1, vi (a1)), (2, vi (a2))] [] μ
  refine J_iconst (q := 1) (v := (0 : Int32)) d_Mo_letter_0 (by decide) rfl ?_
  refine J_istore_n (q := 2) (lv' := [(3, vi ((0 : Int32))), (0, vr 12 (0)), (1, vi (a1)), (2, vi (a2))]) d_Mo_letter_1 rfl (by decide) rfl rfl ?_
  refine J_iconst (q := 3) (v := (0 : Int32)) d_Mo_letter_2 (by decide) rfl ?_
  refine J_istore (q := 5) (lv' := [(4, vi ((0 : Int32))), (3, vi ((0 : Int32))), (0, vr 12 (0)), (1, vi (a1)), (2, vi (a2))]) d_Mo_letter_3 (by decide) rfl rfl ?_
  refine J_pick [2, 3, 4, 1, 0] rfl ?_
  exact tl_Mo_letter_5 a1 a2 (fun _ _ h => tj_Mo_letter_41 a1 a2 _ _ h) FU _ _ _ h
def m_Mo_isLetter (a1 : Int32) (μ : Mem) : Bool :=
  if a1 < 0 then
 (false)
 else
 (if gI μ 12 (0) 0 ≤ a1 then
 (false)
 else
 (true))
theorem t_Mo_isLetter {a1 : Int32} {μ : Mem} {q : Bool} (h : m_Mo_isLetter a1 μ = q) : JM true (0) y_Mo_isLetter b_Mo_isLetter 2 (some (.boolean)) 0 0 [vr 12 (0), vi (a1)] μ (QQ (some (vi (b2i q))) μ) := by
  unfold m_Mo_isLetter at h
  refine JM.of pl_Mo_isLetter (fun ρ => Nat.le_of_ble_eq_true rfl) ?_
  show J (GM true (QQ (some (vi (b2i q))) μ) (some (.boolean)) y_Mo_isLetter.name) true b_Mo_isLetter R_12 2 (0) 0 0 0 [(0, vr 12 (0)), (1, vi (a1))] [] μ
  refine J_iload_n (q := 1) 1 d_Mo_isLetter_0 rfl rfl rfl ?_
  refine J_if_lt (q := 4) (tgt := 16) d_Mo_isLetter_1 (by decide) rfl (fun hc => ?_) (fun hc => ?_)
  · rw [if_pos hc] at h
    refine J_iconst (q := 17) (v := (0 : Int32)) d_Mo_isLetter_16 (by decide) rfl ?_
    subst h
    exact J_zret (Or.inl rfl) rfl ⟨rfl, rfl⟩ d_Mo_isLetter_17
  · rw [if_neg hc] at h
    refine J_iload_n (q := 5) 1 d_Mo_isLetter_4 rfl rfl rfl ?_
    refine J_aload_n (q := 6) 0 d_Mo_isLetter_5 rfl rfl rfl ?_
    refine J_getI (q := 9) (j := 0) cd_12 (by decide) (Or.inl rfl) g_1051 rfl d_Mo_isLetter_6 rfl ?_
    refine J_icmp_ge (q := 12) (tgt := 16) d_Mo_isLetter_9 (by decide) rfl (fun hc => ?_) (fun hc => ?_)
    · rw [if_pos hc] at h
      refine J_iconst (q := 17) (v := (0 : Int32)) d_Mo_isLetter_16 (by decide) rfl ?_
      subst h
      exact J_zret (Or.inl rfl) rfl ⟨rfl, rfl⟩ d_Mo_isLetter_17
    · rw [if_neg hc] at h
      refine J_iconst (q := 13) (v := (1 : Int32)) d_Mo_isLetter_12 (by decide) rfl ?_
      refine J_goto (q := 17) d_Mo_isLetter_13 (by decide) ?_
      subst h
      exact J_zret (Or.inr rfl) rfl ⟨rfl, rfl⟩ d_Mo_isLetter_17
def m_Mo_outline (a1 : Int32) (μ : Mem) : Option (Int32 × Mem) :=
  if (m_Mo_isLetter (a1) μ) then
 (gu (a1) 32 <|
  if gI μ 344 (0) a1.toNatClampNeg = 0 then
 (gu (a1) 32 <|
  if 0 < gI μ 352 (0) a1.toNatClampNeg then
 (some (((-1 : Int32), μ)))
 else
 (gu (a1) 32 <|
  if gI μ 343 (0) a1.toNatClampNeg = (8 : Int32) then
 (some (((-1 : Int32), μ)))
 else
 (gu (a1) 32 <|
  ap (sI μ 344 (0) a1.toNatClampNeg ((1 : Int32))) fun μ5 =>
  gu (a1) 32 <|
  some ((gI μ5 343 (0) a1.toNatClampNeg, μ5)))))
 else
 (some (((-1 : Int32), μ))))
 else
 (some (((-1 : Int32), μ)))
theorem t_Mo_outline {a1 : Int32} {μ : Mem} {q : Int32 × Mem} (h : m_Mo_outline a1 μ = some q) : JM true (1) y_Mo_outline b_Mo_outline 2 (some (.int)) 0 0 [vr 12 (0), vi (a1)] μ (QQ (some (vi q.1)) q.2) := by
  unfold m_Mo_outline at h
  refine JM.of pl_Mo_outline (fun ρ => Nat.le_of_ble_eq_true rfl) ?_
  show J (GM true (QQ (some (vi q.1)) q.2) (some (.int)) y_Mo_outline.name) true b_Mo_outline R_12 2 (1) 0 0 0 [(0, vr 12 (0)), (1, vi (a1))] [] μ
  refine J_aload_n (q := 1) 0 d_Mo_outline_0 rfl rfl rfl ?_
  refine J_iload_n (q := 2) 1 d_Mo_outline_1 rfl rfl rfl ?_
  refine J_callVq (rc := 0) (rs := 0) (q := 5) (as := [vi (a1)]) (st := []) (by decide) rfl g_1287 sel_Mo_isLetter (t_Mo_isLetter rfl) (by decide) (by decide) g_1285 g_1288 g_10 hy_Mo_isLetter rfl (Nat.le_of_ble_eq_true rfl) d_Mo_outline_2 rfl ?_
  refine J_ifB_eq (q := 8) (tgt := 37) d_Mo_outline_5 (by decide) rfl (fun hb => ?_) (fun hb => ?_)
  · rw [iB_f hb] at h
    refine J_iconst (q := 38) (v := (-1 : Int32)) d_Mo_outline_37 (by decide) rfl ?_
    obtain rfl := Option.some.inj h
    exact J_iret rfl ⟨rfl, rfl⟩ d_Mo_outline_38
  · rw [iB_t hb] at h
    refine J_aload_n (q := 9) 0 d_Mo_outline_8 rfl rfl rfl ?_
    refine J_getF (q := 12) cd_12 (by decide) ft_12_4 rfl g_1055 rfl d_Mo_outline_9 rfl ?_
    refine J_iload_n (q := 13) 1 d_Mo_outline_12 rfl rfl rfl ?_
    obtain ⟨hi1, h⟩ := gu_some h
    refine J_zald (q := 14) rk_344 (by decide) hi1 d_Mo_outline_13 rfl ?_
    refine J_if_ne (q := 17) (tgt := 37) d_Mo_outline_14 (by decide) rfl (fun hc => ?_) (fun hc => ?_)
    · rw [if_neg hc] at h
      refine J_iconst (q := 38) (v := (-1 : Int32)) d_Mo_outline_37 (by decide) rfl ?_
      obtain rfl := Option.some.inj h
      exact J_iret rfl ⟨rfl, rfl⟩ d_Mo_outline_38
    · rw [if_pos hc] at h
      refine J_aload_n (q := 18) 0 d_Mo_outline_17 rfl rfl rfl ?_
      refine J_getF (q := 21) cd_12 (by decide) ft_12_12 rfl g_1063 rfl d_Mo_outline_18 rfl ?_
      refine J_iload_n (q := 22) 1 d_Mo_outline_21 rfl rfl rfl ?_
      obtain ⟨hi2, h⟩ := gu_some h
      refine J_iald (q := 23) rk_352 (by decide) hi2 d_Mo_outline_22 rfl ?_
      refine J_if_gt (q := 26) (tgt := 37) d_Mo_outline_23 (by decide) rfl (fun hc => ?_) (fun hc => ?_)
      · rw [if_pos hc] at h
        refine J_iconst (q := 38) (v := (-1 : Int32)) d_Mo_outline_37 (by decide) rfl ?_
        obtain rfl := Option.some.inj h
        exact J_iret rfl ⟨rfl, rfl⟩ d_Mo_outline_38
      · rw [if_neg hc] at h
        refine J_aload_n (q := 27) 0 d_Mo_outline_26 rfl rfl rfl ?_
        refine J_getF (q := 30) cd_12 (by decide) ft_12_3 rfl g_1054 rfl d_Mo_outline_27 rfl ?_
        refine J_iload_n (q := 31) 1 d_Mo_outline_30 rfl rfl rfl ?_
        obtain ⟨hi3, h⟩ := gu_some h
        refine J_iald (q := 32) rk_343 (by decide) hi3 d_Mo_outline_31 rfl ?_
        refine J_bipush (q := 34) (v := (8 : Int32)) d_Mo_outline_32 (by decide) rfl ?_
        refine J_icmp_ne (q := 37) (tgt := 39) d_Mo_outline_34 (by decide) rfl (fun hc => ?_) (fun hc => ?_)
        · rw [if_neg hc] at h
          refine J_aload_n (q := 40) 0 d_Mo_outline_39 rfl rfl rfl ?_
          refine J_getF (q := 43) cd_12 (by decide) ft_12_4 rfl g_1055 rfl d_Mo_outline_40 rfl ?_
          refine J_iload_n (q := 44) 1 d_Mo_outline_43 rfl rfl rfl ?_
          refine J_iconst (q := 45) (v := (1 : Int32)) d_Mo_outline_44 (by decide) rfl ?_
          obtain ⟨hi4, h⟩ := gu_some h
          refine J_zast (q := 46) (Or.inr rfl) rk_344 (by decide) hi4 d_Mo_outline_45 rfl ?_
          obtain ⟨μ5, hμ5, h⟩ := ap_eq h
          refine J_nmM hμ5 ?_
          refine J_aload_n (q := 47) 0 d_Mo_outline_46 rfl rfl rfl ?_
          refine J_getF (q := 50) cd_12 (by decide) ft_12_3 rfl g_1054 rfl d_Mo_outline_47 rfl ?_
          refine J_iload_n (q := 51) 1 d_Mo_outline_50 rfl rfl rfl ?_
          obtain ⟨hi6, h⟩ := gu_some h
          refine J_iald (q := 52) rk_343 (by decide) hi6 d_Mo_outline_51 rfl ?_
          obtain rfl := Option.some.inj h
          exact J_iret rfl ⟨rfl, rfl⟩ d_Mo_outline_52
        · rw [if_pos hc] at h
          refine J_iconst (q := 38) (v := (-1 : Int32)) d_Mo_outline_37 (by decide) rfl ?_
          obtain rfl := Option.some.inj h
          exact J_iret rfl ⟨rfl, rfl⟩ d_Mo_outline_38
def m_Mo_closed (a1 : Int32) (μ : Mem) : Option (Int32) :=
  gu (a1) 32 <|
  if gI μ 343 (0) a1.toNatClampNeg = 0 then
 (some ((0 : Int32)))
 else
 (gu (a1) 32 <|
  gu ((((8 : Int32) * a1) + (gI μ 343 (0) a1.toNatClampNeg)) - ((1 : Int32))) 256 <|
  some (gI μ 346 (0) ((((8 : Int32) * a1) + (gI μ 343 (0) a1.toNatClampNeg)) - ((1 : Int32))).toNatClampNeg))
theorem t_Mo_closed {a1 : Int32} {μ : Mem} {q : Int32} (h : m_Mo_closed a1 μ = some q) : JM true (0) y_Mo_closed b_Mo_closed 2 (some (.int)) 0 0 [vr 12 (0), vi (a1)] μ (QQ (some (vi q)) μ) := by
  unfold m_Mo_closed at h
  refine JM.of pl_Mo_closed (fun ρ => Nat.le_of_ble_eq_true rfl) ?_
  show J (GM true (QQ (some (vi q)) μ) (some (.int)) y_Mo_closed.name) true b_Mo_closed R_12 2 (0) 0 0 0 [(0, vr 12 (0)), (1, vi (a1))] [] μ
  refine J_aload_n (q := 1) 0 d_Mo_closed_0 rfl rfl rfl ?_
  refine J_getF (q := 4) cd_12 (by decide) ft_12_3 rfl g_1054 rfl d_Mo_closed_1 rfl ?_
  refine J_iload_n (q := 5) 1 d_Mo_closed_4 rfl rfl rfl ?_
  obtain ⟨hi1, h⟩ := gu_some h
  refine J_iald (q := 6) rk_343 (by decide) hi1 d_Mo_closed_5 rfl ?_
  refine J_if_ne (q := 9) (tgt := 13) d_Mo_closed_6 (by decide) rfl (fun hc => ?_) (fun hc => ?_)
  · rw [if_neg hc] at h
    refine J_aload_n (q := 14) 0 d_Mo_closed_13 rfl rfl rfl ?_
    refine J_getF (q := 17) cd_12 (by decide) ft_12_6 rfl g_1057 rfl d_Mo_closed_14 rfl ?_
    refine J_bipush (q := 19) (v := (8 : Int32)) d_Mo_closed_17 (by decide) rfl ?_
    refine J_iload_n (q := 20) 1 d_Mo_closed_19 rfl rfl rfl ?_
    refine J_imul (q := 21) d_Mo_closed_20 rfl ?_
    refine J_aload_n (q := 22) 0 d_Mo_closed_21 rfl rfl rfl ?_
    refine J_getF (q := 25) cd_12 (by decide) ft_12_3 rfl g_1054 rfl d_Mo_closed_22 rfl ?_
    refine J_iload_n (q := 26) 1 d_Mo_closed_25 rfl rfl rfl ?_
    obtain ⟨hi2, h⟩ := gu_some h
    refine J_iald (q := 27) rk_343 (by decide) hi2 d_Mo_closed_26 rfl ?_
    refine J_iadd (q := 28) d_Mo_closed_27 rfl ?_
    refine J_iconst (q := 29) (v := (1 : Int32)) d_Mo_closed_28 (by decide) rfl ?_
    refine J_isub (q := 30) d_Mo_closed_29 rfl ?_
    obtain ⟨hi3, h⟩ := gu_some h
    refine J_iald (q := 31) rk_346 (by decide) hi3 d_Mo_closed_30 rfl ?_
    obtain rfl := Option.some.inj h
    exact J_iret rfl ⟨rfl, rfl⟩ d_Mo_closed_31
  · rw [if_pos hc] at h
    refine J_iconst (q := 10) (v := (0 : Int32)) d_Mo_closed_9 (by decide) rfl ?_
    refine J_goto (q := 31) d_Mo_closed_10 (by decide) ?_
    obtain rfl := Option.some.inj h
    exact J_iret rfl ⟨rfl, rfl⟩ d_Mo_closed_31
def m_Mo_isPlace (a1 : Int32) (μ : Mem) : Bool :=
  if a1 < (-32000 : Int32) then
 (false)
 else
 (if (32000 : Int32) < a1 then
 (false)
 else
 (true))
theorem t_Mo_isPlace {a1 : Int32} {μ : Mem} {q : Bool} (h : m_Mo_isPlace a1 μ = q) : JM true (0) y_Mo_isPlace b_Mo_isPlace 1 (some (.boolean)) 0 0 [vi (a1)] μ (QQ (some (vi (b2i q))) μ) := by
  unfold m_Mo_isPlace at h
  refine JM.of pl_Mo_isPlace (fun ρ => Nat.le_of_ble_eq_true rfl) ?_
  show J (GM true (QQ (some (vi (b2i q))) μ) (some (.boolean)) y_Mo_isPlace.name) true b_Mo_isPlace R_12 1 (0) 0 0 0 [(0, vi (a1))] [] μ
  refine J_iload_n (q := 1) 0 d_Mo_isPlace_0 rfl rfl rfl ?_
  refine J_sipush (q := 4) (v := (-32000 : Int32)) d_Mo_isPlace_1 (by decide) rfl ?_
  refine J_icmp_lt (q := 7) (tgt := 18) d_Mo_isPlace_4 (by decide) rfl (fun hc => ?_) (fun hc => ?_)
  · rw [if_pos hc] at h
    refine J_iconst (q := 19) (v := (0 : Int32)) d_Mo_isPlace_18 (by decide) rfl ?_
    subst h
    exact J_zret (Or.inl rfl) rfl ⟨rfl, rfl⟩ d_Mo_isPlace_19
  · rw [if_neg hc] at h
    refine J_iload_n (q := 8) 0 d_Mo_isPlace_7 rfl rfl rfl ?_
    refine J_sipush (q := 11) (v := (32000 : Int32)) d_Mo_isPlace_8 (by decide) rfl ?_
    refine J_icmp_gt (q := 14) (tgt := 18) d_Mo_isPlace_11 (by decide) rfl (fun hc => ?_) (fun hc => ?_)
    · rw [if_pos hc] at h
      refine J_iconst (q := 19) (v := (0 : Int32)) d_Mo_isPlace_18 (by decide) rfl ?_
      subst h
      exact J_zret (Or.inl rfl) rfl ⟨rfl, rfl⟩ d_Mo_isPlace_19
    · rw [if_neg hc] at h
      refine J_iconst (q := 15) (v := (1 : Int32)) d_Mo_isPlace_14 (by decide) rfl ?_
      refine J_goto (q := 19) d_Mo_isPlace_15 (by decide) ?_
      subst h
      exact J_zret (Or.inr rfl) rfl ⟨rfl, rfl⟩ d_Mo_isPlace_19
def lp_Mo_point_96 (a1 : Int32) (a2 : Int32) (a3 : Int32) (a4 : Int32) (c_134 : Mem → Option (Int32 × Mem)) : Nat → Int32 → Int32 → Mem → Option (Int32 × Mem)
  | 0, _, _, _ => none
  | n + 1, y5, y6, μ =>
  if (3 : Int32) ≤ y6 then
 (c_134 μ)
 else
 (gu (((3 : Int32) * y5) + (y6)) 9600 <|
  ap (sI μ 350 (0) (((3 : Int32) * y5) + (y6)).toNatClampNeg ((0 : Int32))) fun μ17 =>
  gu (((3 : Int32) * y5) + (y6)) 9600 <|
  ap (sI μ17 351 (0) (((3 : Int32) * y5) + (y6)).toNatClampNeg ((0 : Int32))) fun μ19 =>
  ap (y6 + (1 : Int32)) fun x20 =>
  lp_Mo_point_96 a1 a2 a3 a4 c_134 n (y5) (x20) μ19)
theorem tl_Mo_point_96 (a1 : Int32) (a2 : Int32) (a3 : Int32) (a4 : Int32) {q : Int32 × Mem} {c_134 : Mem → Option (Int32 × Mem)} (hc_134 : ∀ (μ : Mem), c_134  μ = some q → J (GM true (QQ (some (vi q.1)) q.2) (some (.int)) y_Mo_point.name) true b_Mo_point R_12 7 (1) 0 0 134 [(0, vr 12 (0)), (1, vi (a1))] [] μ) : ∀ (n : Nat) (y5 : Int32) (y6 : Int32) (μ : Mem), lp_Mo_point_96 a1 a2 a3 a4 c_134 n y5 y6 μ = some q → J (GM true (QQ (some (vi q.1)) q.2) (some (.int)) y_Mo_point.name) true b_Mo_point R_12 7 (1) 0 0 96 [(0, vr 12 (0)), (1, vi (a1)), (5, vi (y5)), (6, vi (y6))] [] μ := by
  intro n
  induction n with
  | zero => intro _ _ _ h; cases h
  | succ n ih =>
    intro y5 y6 μ h
    unfold lp_Mo_point_96 at h
    refine J_iload (q := 98) 3 d_Mo_point_96 rfl rfl ?_
    refine J_iconst (q := 99) (v := (3 : Int32)) d_Mo_point_98 (by decide) rfl ?_
    refine J_icmp_ge (q := 102) (tgt := 134) d_Mo_point_99 (by decide) rfl (fun hc => ?_) (fun hc => ?_)
    · rw [if_pos hc] at h
      refine J_pick [0, 1] rfl ?_
      exact hc_134 _ h
    · rw [if_neg hc] at h
      refine J_aload_n (q := 103) 0 d_Mo_point_102 rfl rfl rfl ?_
      refine J_getF (q := 106) cd_12 (by decide) ft_12_10 rfl g_1061 rfl d_Mo_point_103 rfl ?_
      refine J_iconst (q := 107) (v := (3 : Int32)) d_Mo_point_106 (by decide) rfl ?_
      refine J_iload (q := 109) 2 d_Mo_point_107 rfl rfl ?_
      refine J_imul (q := 110) d_Mo_point_109 rfl ?_
      refine J_iload (q := 112) 3 d_Mo_point_110 rfl rfl ?_
      refine J_iadd (q := 113) d_Mo_point_112 rfl ?_
      refine J_iconst (q := 114) (v := (0 : Int32)) d_Mo_point_113 (by decide) rfl ?_
      obtain ⟨hi16, h⟩ := gu_some h
      refine J_iast (q := 115) rk_350 (by decide) hi16 d_Mo_point_114 rfl ?_
      obtain ⟨μ17, hμ17, h⟩ := ap_eq h
      refine J_nmM hμ17 ?_
      refine J_aload_n (q := 116) 0 d_Mo_point_115 rfl rfl rfl ?_
      refine J_getF (q := 119) cd_12 (by decide) ft_12_11 rfl g_1062 rfl d_Mo_point_116 rfl ?_
      refine J_iconst (q := 120) (v := (3 : Int32)) d_Mo_point_119 (by decide) rfl ?_
      refine J_iload (q := 122) 2 d_Mo_point_120 rfl rfl ?_
      refine J_imul (q := 123) d_Mo_point_122 rfl ?_
      refine J_iload (q := 125) 3 d_Mo_point_123 rfl rfl ?_
      refine J_iadd (q := 126) d_Mo_point_125 rfl ?_
      refine J_iconst (q := 127) (v := (0 : Int32)) d_Mo_point_126 (by decide) rfl ?_
      obtain ⟨hi18, h⟩ := gu_some h
      refine J_iast (q := 128) rk_351 (by decide) hi18 d_Mo_point_127 rfl ?_
      obtain ⟨μ19, hμ19, h⟩ := ap_eq h
      refine J_nmM hμ19 ?_
      obtain ⟨x20, hx20, h⟩ := ap_eq h
      refine J_iinc (q := 131) (v := x20) (lv' := [(6, vi (x20)), (0, vr 12 (0)), (1, vi (a1)), (5, vi (y5))]) 3 d_Mo_point_128 rfl (by rw [hx20]; rfl) (by decide) rfl rfl ?_
      refine J_goto (q := 96) d_Mo_point_131 (by decide) ?_
      refine J_pick [1, 2, 3, 0] rfl ?_
      exact ih _ _ _ h
def mj_Mo_point_134 (a1 : Int32) (a2 : Int32) (a3 : Int32) (a4 : Int32) (μ : Mem) : Option (Int32 × Mem) :=
  gu (a1) 32 <|
  gu (a1) 32 <|
  ap (sI μ 345 (0) a1.toNatClampNeg ((gI μ 345 (0) a1.toNatClampNeg) + ((1 : Int32)))) fun μ23 =>
  gu (a1) 32 <|
  Option.bind (m_Mo_closed (a1) μ23) fun r25 =>
  some (((gI μ23 345 (0) a1.toNatClampNeg) - (r25), μ23))
theorem tj_Mo_point_134 (a1 : Int32) (a2 : Int32) (a3 : Int32) (a4 : Int32) {q : Int32 × Mem}  (μ : Mem) (h : mj_Mo_point_134 a1 a2 a3 a4  μ = some q) : J (GM true (QQ (some (vi q.1)) q.2) (some (.int)) y_Mo_point.name) true b_Mo_point R_12 7 (1) 0 0 134 [(0, vr 12 (0)), (1, vi (a1))] [] μ := by
  unfold mj_Mo_point_134 at h
  refine J_aload_n (q := 135) 0 d_Mo_point_134 rfl rfl rfl ?_
  refine J_getF (q := 138) cd_12 (by decide) ft_12_5 rfl g_1056 rfl d_Mo_point_135 rfl ?_
  refine J_iload_n (q := 139) 1 d_Mo_point_138 rfl rfl rfl ?_
  refine J_dup2IR (q := 140) d_Mo_point_139 rfl ?_
  obtain ⟨hi21, h⟩ := gu_some h
  refine J_iald (q := 141) rk_345 (by decide) hi21 d_Mo_point_140 rfl ?_
  refine J_iconst (q := 142) (v := (1 : Int32)) d_Mo_point_141 (by decide) rfl ?_
  refine J_iadd (q := 143) d_Mo_point_142 rfl ?_
  obtain ⟨hi22, h⟩ := gu_some h
  refine J_iast (q := 144) rk_345 (by decide) hi22 d_Mo_point_143 rfl ?_
  obtain ⟨μ23, hμ23, h⟩ := ap_eq h
  refine J_nmM hμ23 ?_
  refine J_aload_n (q := 145) 0 d_Mo_point_144 rfl rfl rfl ?_
  refine J_getF (q := 148) cd_12 (by decide) ft_12_5 rfl g_1056 rfl d_Mo_point_145 rfl ?_
  refine J_iload_n (q := 149) 1 d_Mo_point_148 rfl rfl rfl ?_
  obtain ⟨hi24, h⟩ := gu_some h
  refine J_iald (q := 150) rk_345 (by decide) hi24 d_Mo_point_149 rfl ?_
  refine J_aload_n (q := 151) 0 d_Mo_point_150 rfl rfl rfl ?_
  refine J_iload_n (q := 152) 1 d_Mo_point_151 rfl rfl rfl ?_
  obtain ⟨r25, hr25, h⟩ := bd_some h
  refine J_callVq (rc := 0) (rs := 0) (q := 155) (as := [vi (a1)]) (st := [vi (gI μ23 345 (0) a1.toNatClampNeg)]) (by decide) rfl g_1298 sel_Mo_closed (t_Mo_closed hr25) (by decide) (by decide) g_1296 g_1299 g_10 hy_Mo_closed rfl (Nat.le_of_ble_eq_true rfl) d_Mo_point_152 rfl ?_
  refine J_isub (q := 156) d_Mo_point_155 rfl ?_
  obtain rfl := Option.some.inj h
  exact J_iret rfl ⟨rfl, rfl⟩ d_Mo_point_156
def m_Mo_point (a1 : Int32) (a2 : Int32) (a3 : Int32) (a4 : Int32) (μ : Mem) : Option (Int32 × Mem) :=
  if (m_Mo_isLetter (a1) μ) then
 (gu (a1) 32 <|
  if gI μ 344 (0) a1.toNatClampNeg = 0 then
 (some (((-1 : Int32), μ)))
 else
 (if (m_Mo_isPlace (a2) μ) then
 (if (m_Mo_isPlace (a3) μ) then
 (if a4 < 0 then
 (some (((-1 : Int32), μ)))
 else
 (if (2 : Int32) < a4 then
 (some (((-1 : Int32), μ)))
 else
 (gu (a1) 32 <|
  if gI μ 345 (0) a1.toNatClampNeg = (100 : Int32) then
 (some (((-1 : Int32), μ)))
 else
 (gu (a1) 32 <|
  ap (((100 : Int32) * a1) + (gI μ 345 (0) a1.toNatClampNeg)) fun x4 =>
  gu (x4) 3200 <|
  ap (sI μ 347 (0) x4.toNatClampNeg (a2)) fun μ6 =>
  gu (x4) 3200 <|
  ap (sI μ6 348 (0) x4.toNatClampNeg (a3)) fun μ8 =>
  gu (x4) 3200 <|
  ap (sI μ8 349 (0) x4.toNatClampNeg (a4)) fun μ10 =>
  lp_Mo_point_96 a1 a2 a3 a4 (mj_Mo_point_134 a1 a2 a3 a4) FU (x4) ((0 : Int32)) μ10))))
 else
 (some (((-1 : Int32), μ))))
 else
 (some (((-1 : Int32), μ)))))
 else
 (some (((-1 : Int32), μ)))
theorem t_Mo_point {a1 : Int32} {a2 : Int32} {a3 : Int32} {a4 : Int32} {μ : Mem} {q : Int32 × Mem} (h : m_Mo_point a1 a2 a3 a4 μ = some q) : JM true (1) y_Mo_point b_Mo_point 7 (some (.int)) 0 0 [vr 12 (0), vi (a1), vi (a2), vi (a3), vi (a4)] μ (QQ (some (vi q.1)) q.2) := by
  unfold m_Mo_point at h
  refine JM.of pl_Mo_point (fun ρ => Nat.le_of_ble_eq_true rfl) ?_
  show J (GM true (QQ (some (vi q.1)) q.2) (some (.int)) y_Mo_point.name) true b_Mo_point R_12 7 (1) 0 0 0 [(0, vr 12 (0)), (1, vi (a1)), (2, vi (a2)), (3, vi (a3)), (4, vi (a4))] [] μ
  refine J_aload_n (q := 1) 0 d_Mo_point_0 rfl rfl rfl ?_
  refine J_iload_n (q := 2) 1 d_Mo_point_1 rfl rfl rfl ?_
  refine J_callVq (rc := 0) (rs := 0) (q := 5) (as := [vi (a1)]) (st := []) (by decide) rfl g_1287 sel_Mo_isLetter (t_Mo_isLetter rfl) (by decide) (by decide) g_1285 g_1288 g_10 hy_Mo_isLetter rfl (Nat.le_of_ble_eq_true rfl) d_Mo_point_2 rfl ?_
  refine J_ifB_eq (q := 8) (tgt := 53) d_Mo_point_5 (by decide) rfl (fun hb => ?_) (fun hb => ?_)
  · rw [iB_f hb] at h
    refine J_iconst (q := 54) (v := (-1 : Int32)) d_Mo_point_53 (by decide) rfl ?_
    obtain rfl := Option.some.inj h
    exact J_iret rfl ⟨rfl, rfl⟩ d_Mo_point_54
  · rw [iB_t hb] at h
    refine J_aload_n (q := 9) 0 d_Mo_point_8 rfl rfl rfl ?_
    refine J_getF (q := 12) cd_12 (by decide) ft_12_4 rfl g_1055 rfl d_Mo_point_9 rfl ?_
    refine J_iload_n (q := 13) 1 d_Mo_point_12 rfl rfl rfl ?_
    obtain ⟨hi1, h⟩ := gu_some h
    refine J_zald (q := 14) rk_344 (by decide) hi1 d_Mo_point_13 rfl ?_
    refine J_if_eq (q := 17) (tgt := 53) d_Mo_point_14 (by decide) rfl (fun hc => ?_) (fun hc => ?_)
    · rw [if_pos hc] at h
      refine J_iconst (q := 54) (v := (-1 : Int32)) d_Mo_point_53 (by decide) rfl ?_
      obtain rfl := Option.some.inj h
      exact J_iret rfl ⟨rfl, rfl⟩ d_Mo_point_54
    · rw [if_neg hc] at h
      refine J_iload_n (q := 18) 2 d_Mo_point_17 rfl rfl rfl ?_
      refine J_callSq (rc := 0) (rs := 0) (q := 21) (as := [vi (a2)]) (st := []) g_1294 (t_Mo_isPlace rfl) (by decide) (by decide) g_1293 g_1295 g_10 hy_Mo_isPlace rfl (Nat.le_of_ble_eq_true rfl) d_Mo_point_18 rfl ?_
      refine J_ifB_eq (q := 24) (tgt := 53) d_Mo_point_21 (by decide) rfl (fun hb => ?_) (fun hb => ?_)
      · rw [iB_f hb] at h
        refine J_iconst (q := 54) (v := (-1 : Int32)) d_Mo_point_53 (by decide) rfl ?_
        obtain rfl := Option.some.inj h
        exact J_iret rfl ⟨rfl, rfl⟩ d_Mo_point_54
      · rw [iB_t hb] at h
        refine J_iload_n (q := 25) 3 d_Mo_point_24 rfl rfl rfl ?_
        refine J_callSq (rc := 0) (rs := 0) (q := 28) (as := [vi (a3)]) (st := []) g_1294 (t_Mo_isPlace rfl) (by decide) (by decide) g_1293 g_1295 g_10 hy_Mo_isPlace rfl (Nat.le_of_ble_eq_true rfl) d_Mo_point_25 rfl ?_
        refine J_ifB_eq (q := 31) (tgt := 53) d_Mo_point_28 (by decide) rfl (fun hb => ?_) (fun hb => ?_)
        · rw [iB_f hb] at h
          refine J_iconst (q := 54) (v := (-1 : Int32)) d_Mo_point_53 (by decide) rfl ?_
          obtain rfl := Option.some.inj h
          exact J_iret rfl ⟨rfl, rfl⟩ d_Mo_point_54
        · rw [iB_t hb] at h
          refine J_iload (q := 33) 4 d_Mo_point_31 rfl rfl ?_
          refine J_if_lt (q := 36) (tgt := 53) d_Mo_point_33 (by decide) rfl (fun hc => ?_) (fun hc => ?_)
          · rw [if_pos hc] at h
            refine J_iconst (q := 54) (v := (-1 : Int32)) d_Mo_point_53 (by decide) rfl ?_
            obtain rfl := Option.some.inj h
            exact J_iret rfl ⟨rfl, rfl⟩ d_Mo_point_54
          · rw [if_neg hc] at h
            refine J_iload (q := 38) 4 d_Mo_point_36 rfl rfl ?_
            refine J_iconst (q := 39) (v := (2 : Int32)) d_Mo_point_38 (by decide) rfl ?_
            refine J_icmp_gt (q := 42) (tgt := 53) d_Mo_point_39 (by decide) rfl (fun hc => ?_) (fun hc => ?_)
            · rw [if_pos hc] at h
              refine J_iconst (q := 54) (v := (-1 : Int32)) d_Mo_point_53 (by decide) rfl ?_
              obtain rfl := Option.some.inj h
              exact J_iret rfl ⟨rfl, rfl⟩ d_Mo_point_54
            · rw [if_neg hc] at h
              refine J_aload_n (q := 43) 0 d_Mo_point_42 rfl rfl rfl ?_
              refine J_getF (q := 46) cd_12 (by decide) ft_12_5 rfl g_1056 rfl d_Mo_point_43 rfl ?_
              refine J_iload_n (q := 47) 1 d_Mo_point_46 rfl rfl rfl ?_
              obtain ⟨hi2, h⟩ := gu_some h
              refine J_iald (q := 48) rk_345 (by decide) hi2 d_Mo_point_47 rfl ?_
              refine J_bipush (q := 50) (v := (100 : Int32)) d_Mo_point_48 (by decide) rfl ?_
              refine J_icmp_ne (q := 53) (tgt := 55) d_Mo_point_50 (by decide) rfl (fun hc => ?_) (fun hc => ?_)
              · rw [if_neg hc] at h
                refine J_bipush (q := 57) (v := (100 : Int32)) d_Mo_point_55 (by decide) rfl ?_
                refine J_iload_n (q := 58) 1 d_Mo_point_57 rfl rfl rfl ?_
                refine J_imul (q := 59) d_Mo_point_58 rfl ?_
                refine J_aload_n (q := 60) 0 d_Mo_point_59 rfl rfl rfl ?_
                refine J_getF (q := 63) cd_12 (by decide) ft_12_5 rfl g_1056 rfl d_Mo_point_60 rfl ?_
                refine J_iload_n (q := 64) 1 d_Mo_point_63 rfl rfl rfl ?_
                obtain ⟨hi3, h⟩ := gu_some h
                refine J_iald (q := 65) rk_345 (by decide) hi3 d_Mo_point_64 rfl ?_
                refine J_iadd (q := 66) d_Mo_point_65 rfl ?_
                obtain ⟨x4, hx4, h⟩ := ap_eq h
                refine J_nmI hx4 ?_
                refine J_istore (q := 68) (lv' := [(5, vi (x4)), (0, vr 12 (0)), (1, vi (a1)), (2, vi (a2)), (3, vi (a3)), (4, vi (a4))]) d_Mo_point_66 (by decide) rfl rfl ?_
                refine J_aload_n (q := 69) 1 d_Mo_point_68 rfl rfl rfl ?_
                refine J_getF (q := 72) cd_12 (by decide) ft_12_7 rfl g_1058 rfl d_Mo_point_69 rfl ?_
                refine J_iload (q := 74) 0 d_Mo_point_72 rfl rfl ?_
                refine J_iload_n (q := 75) 3 d_Mo_point_74 rfl rfl rfl ?_
                obtain ⟨hi5, h⟩ := gu_some h
                refine J_iast (q := 76) rk_347 (by decide) hi5 d_Mo_point_75 rfl ?_
                obtain ⟨μ6, hμ6, h⟩ := ap_eq h
                refine J_nmM hμ6 ?_
                refine J_aload_n (q := 77) 1 d_Mo_point_76 rfl rfl rfl ?_
                refine J_getF (q := 80) cd_12 (by decide) ft_12_8 rfl g_1059 rfl d_Mo_point_77 rfl ?_
                refine J_iload (q := 82) 0 d_Mo_point_80 rfl rfl ?_
                refine J_iload_n (q := 83) 4 d_Mo_point_82 rfl rfl rfl ?_
                obtain ⟨hi7, h⟩ := gu_some h
                refine J_iast (q := 84) rk_348 (by decide) hi7 d_Mo_point_83 rfl ?_
                obtain ⟨μ8, hμ8, h⟩ := ap_eq h
                refine J_nmM hμ8 ?_
                refine J_aload_n (q := 85) 1 d_Mo_point_84 rfl rfl rfl ?_
                refine J_getF (q := 88) cd_12 (by decide) ft_12_9 rfl g_1060 rfl d_Mo_point_85 rfl ?_
                refine J_iload (q := 90) 0 d_Mo_point_88 rfl rfl ?_
                refine J_iload (q := 92) 5 d_Mo_point_90 rfl rfl ?_
                obtain ⟨hi9, h⟩ := gu_some h
                refine J_iast (q := 93) rk_349 (by decide) hi9 d_Mo_point_92 rfl ?_
                obtain ⟨μ10, hμ10, h⟩ := ap_eq h
                refine J_nmM hμ10 ?_
                refine J_iconst (q := 94) (v := (0 : Int32)) d_Mo_point_93 (by decide) rfl ?_
                refine J_istore (q := 96) (lv' := [(6, vi ((0 : Int32))), (5, vi (x4)), (0, vr 12 (0)), (1, vi (a1)), (2, vi (a2)), (3, vi (a3)), (4, vi (a4))]) d_Mo_point_94 (by decide) rfl rfl ?_
                refine J_pick [2, 3, 1, 0] rfl ?_
                exact tl_Mo_point_96 a1 a2 a3 a4 (fun _ h => tj_Mo_point_134 a1 a2 a3 a4 _ h) FU _ _ _ h
              · rw [if_pos hc] at h
                refine J_iconst (q := 54) (v := (-1 : Int32)) d_Mo_point_53 (by decide) rfl ?_
                obtain rfl := Option.some.inj h
                exact J_iret rfl ⟨rfl, rfl⟩ d_Mo_point_54
def mj_Mo_bad_105 (a1 : Int32) (μ : Mem) (c_30 : Int32 → Int32 → Int32 → Int32 → Option (Int32)) (y2 : Int32) (y3 : Int32) (y5 : Int32) (z0 : Int32) : Option (Int32) :=
  ap (y5 + (1 : Int32)) fun x8 =>
  c_30 (y2) (y3) (z0) (x8)
theorem tj_Mo_bad_105 (a1 : Int32) (μ : Mem) {q : Int32} {c_30 : Int32 → Int32 → Int32 → Int32 → Option (Int32)} (hc_30 : ∀ (y2 : Int32) (y3 : Int32) (y4 : Int32) (y5 : Int32), c_30 y2 y3 y4 y5 = some q → J (GM true (QQ (some (vi q)) μ) (some (.int)) y_Mo_bad.name) true b_Mo_bad R_12 7 (1) 0 0 30 [(0, vr 12 (0)), (2, vi (y2)), (3, vi (y3)), (4, vi (y4)), (5, vi (y5))] [] μ) (y2 : Int32) (y3 : Int32) (y5 : Int32) (z0 : Int32) (h : mj_Mo_bad_105 a1 μ c_30 y2 y3 y5 z0 = some q) : J (GM true (QQ (some (vi q)) μ) (some (.int)) y_Mo_bad.name) true b_Mo_bad R_12 7 (1) 0 0 105 [(0, vr 12 (0)), (2, vi (y2)), (3, vi (y3)), (5, vi (y5))] [vi (z0)] μ := by
  unfold mj_Mo_bad_105 at h
  refine J_istore (q := 107) (lv' := [(4, vi (z0)), (0, vr 12 (0)), (2, vi (y2)), (3, vi (y3)), (5, vi (y5))]) d_Mo_bad_105 (by decide) rfl rfl ?_
  obtain ⟨x8, hx8, h⟩ := ap_eq h
  refine J_iinc (q := 110) (v := x8) (lv' := [(5, vi (x8)), (4, vi (z0)), (0, vr 12 (0)), (2, vi (y2)), (3, vi (y3))]) 4 d_Mo_bad_107 rfl (by rw [hx8]; rfl) (by decide) rfl rfl ?_
  refine J_goto (q := 30) d_Mo_bad_110 (by decide) ?_
  refine J_pick [2, 3, 4, 1, 0] rfl ?_
  exact hc_30 _ _ _ _ h
def mj_Mo_bad_85 (a1 : Int32) (μ : Mem) (c_30 : Int32 → Int32 → Int32 → Int32 → Option (Int32)) (y2 : Int32) (y3 : Int32) (y5 : Int32) : Option (Int32) :=
  mj_Mo_bad_105 a1 μ c_30 (y2) (y3) (y5) ((1 : Int32))
theorem tj_Mo_bad_85 (a1 : Int32) (μ : Mem) {q : Int32} {c_30 : Int32 → Int32 → Int32 → Int32 → Option (Int32)} (hc_30 : ∀ (y2 : Int32) (y3 : Int32) (y4 : Int32) (y5 : Int32), c_30 y2 y3 y4 y5 = some q → J (GM true (QQ (some (vi q)) μ) (some (.int)) y_Mo_bad.name) true b_Mo_bad R_12 7 (1) 0 0 30 [(0, vr 12 (0)), (2, vi (y2)), (3, vi (y3)), (4, vi (y4)), (5, vi (y5))] [] μ) (y2 : Int32) (y3 : Int32) (y5 : Int32) (h : mj_Mo_bad_85 a1 μ c_30 y2 y3 y5 = some q) : J (GM true (QQ (some (vi q)) μ) (some (.int)) y_Mo_bad.name) true b_Mo_bad R_12 7 (1) 0 0 85 [(0, vr 12 (0)), (2, vi (y2)), (3, vi (y3)), (5, vi (y5))] [] μ := by
  unfold mj_Mo_bad_85 at h
  refine J_iconst (q := 86) (v := (1 : Int32)) d_Mo_bad_85 (by decide) rfl ?_
  refine J_goto (q := 105) d_Mo_bad_86 (by decide) ?_
  refine J_pick [0, 1, 2, 3] rfl ?_
  exact tj_Mo_bad_105 a1 μ hc_30 _ _ _ _ h
def mj_Mo_bad_104 (a1 : Int32) (μ : Mem) (c_30 : Int32 → Int32 → Int32 → Int32 → Option (Int32)) (y2 : Int32) (y3 : Int32) (y5 : Int32) : Option (Int32) :=
  mj_Mo_bad_105 a1 μ c_30 (y2) (y3) (y5) ((0 : Int32))
theorem tj_Mo_bad_104 (a1 : Int32) (μ : Mem) {q : Int32} {c_30 : Int32 → Int32 → Int32 → Int32 → Option (Int32)} (hc_30 : ∀ (y2 : Int32) (y3 : Int32) (y4 : Int32) (y5 : Int32), c_30 y2 y3 y4 y5 = some q → J (GM true (QQ (some (vi q)) μ) (some (.int)) y_Mo_bad.name) true b_Mo_bad R_12 7 (1) 0 0 30 [(0, vr 12 (0)), (2, vi (y2)), (3, vi (y3)), (4, vi (y4)), (5, vi (y5))] [] μ) (y2 : Int32) (y3 : Int32) (y5 : Int32) (h : mj_Mo_bad_104 a1 μ c_30 y2 y3 y5 = some q) : J (GM true (QQ (some (vi q)) μ) (some (.int)) y_Mo_bad.name) true b_Mo_bad R_12 7 (1) 0 0 104 [(0, vr 12 (0)), (2, vi (y2)), (3, vi (y3)), (5, vi (y5))] [] μ := by
  unfold mj_Mo_bad_104 at h
  refine J_iconst (q := 105) (v := (0 : Int32)) d_Mo_bad_104 (by decide) rfl ?_
  refine J_pick [0, 1, 2, 3] rfl ?_
  exact tj_Mo_bad_105 a1 μ hc_30 _ _ _ _ h
def mj_Mo_bad_73 (a1 : Int32) (μ : Mem) (c_30 : Int32 → Int32 → Int32 → Int32 → Option (Int32)) (y2 : Int32) (y3 : Int32) (y4 : Int32) (y5 : Int32) (y6 : Int32) : Option (Int32) :=
  if y4 = (2 : Int32) then
 (mj_Mo_bad_85 a1 μ c_30 (y2) (y3) (y5))
 else
 (if y6 = (1 : Int32) then
 (mj_Mo_bad_85 a1 μ c_30 (y2) (y3) (y5))
 else
 (if y6 = (2 : Int32) then
 (if y4 = 0 then
 (mj_Mo_bad_105 a1 μ c_30 (y2) (y3) (y5) ((2 : Int32)))
 else
 (mj_Mo_bad_104 a1 μ c_30 (y2) (y3) (y5)))
 else
 (mj_Mo_bad_104 a1 μ c_30 (y2) (y3) (y5))))
theorem tj_Mo_bad_73 (a1 : Int32) (μ : Mem) {q : Int32} {c_30 : Int32 → Int32 → Int32 → Int32 → Option (Int32)} (hc_30 : ∀ (y2 : Int32) (y3 : Int32) (y4 : Int32) (y5 : Int32), c_30 y2 y3 y4 y5 = some q → J (GM true (QQ (some (vi q)) μ) (some (.int)) y_Mo_bad.name) true b_Mo_bad R_12 7 (1) 0 0 30 [(0, vr 12 (0)), (2, vi (y2)), (3, vi (y3)), (4, vi (y4)), (5, vi (y5))] [] μ) (y2 : Int32) (y3 : Int32) (y4 : Int32) (y5 : Int32) (y6 : Int32) (h : mj_Mo_bad_73 a1 μ c_30 y2 y3 y4 y5 y6 = some q) : J (GM true (QQ (some (vi q)) μ) (some (.int)) y_Mo_bad.name) true b_Mo_bad R_12 7 (1) 0 0 73 [(0, vr 12 (0)), (2, vi (y2)), (3, vi (y3)), (4, vi (y4)), (5, vi (y5)), (6, vi (y6))] [] μ := by
  unfold mj_Mo_bad_73 at h
  refine J_iload (q := 75) 3 d_Mo_bad_73 rfl rfl ?_
  refine J_iconst (q := 76) (v := (2 : Int32)) d_Mo_bad_75 (by decide) rfl ?_
  refine J_icmp_eq (q := 79) (tgt := 85) d_Mo_bad_76 (by decide) rfl (fun hc => ?_) (fun hc => ?_)
  · rw [if_pos hc] at h
    refine J_pick [0, 1, 2, 4] rfl ?_
    exact tj_Mo_bad_85 a1 μ hc_30 _ _ _ h
  · rw [if_neg hc] at h
    refine J_iload (q := 81) 5 d_Mo_bad_79 rfl rfl ?_
    refine J_iconst (q := 82) (v := (1 : Int32)) d_Mo_bad_81 (by decide) rfl ?_
    refine J_icmp_ne (q := 85) (tgt := 89) d_Mo_bad_82 (by decide) rfl (fun hc => ?_) (fun hc => ?_)
    · rw [if_neg hc] at h
      refine J_iload (q := 91) 5 d_Mo_bad_89 rfl rfl ?_
      refine J_iconst (q := 92) (v := (2 : Int32)) d_Mo_bad_91 (by decide) rfl ?_
      refine J_icmp_ne (q := 95) (tgt := 104) d_Mo_bad_92 (by decide) rfl (fun hc => ?_) (fun hc => ?_)
      · rw [if_neg hc] at h
        refine J_pick [0, 1, 2, 4] rfl ?_
        exact tj_Mo_bad_104 a1 μ hc_30 _ _ _ h
      · rw [if_pos hc] at h
        refine J_iload (q := 97) 3 d_Mo_bad_95 rfl rfl ?_
        refine J_if_ne (q := 100) (tgt := 104) d_Mo_bad_97 (by decide) rfl (fun hc => ?_) (fun hc => ?_)
        · rw [if_neg hc] at h
          refine J_pick [0, 1, 2, 4] rfl ?_
          exact tj_Mo_bad_104 a1 μ hc_30 _ _ _ h
        · rw [if_pos hc] at h
          refine J_iconst (q := 101) (v := (2 : Int32)) d_Mo_bad_100 (by decide) rfl ?_
          refine J_goto (q := 105) d_Mo_bad_101 (by decide) ?_
          refine J_pick [0, 1, 2, 4] rfl ?_
          exact tj_Mo_bad_105 a1 μ hc_30 _ _ _ _ h
    · rw [if_pos hc] at h
      refine J_pick [0, 1, 2, 4] rfl ?_
      exact tj_Mo_bad_85 a1 μ hc_30 _ _ _ h
def mj_Mo_bad_58 (a1 : Int32) (μ : Mem) (c_30 : Int32 → Int32 → Int32 → Int32 → Option (Int32)) (y2 : Int32) (y3 : Int32) (y4 : Int32) (y5 : Int32) (y6 : Int32) : Option (Int32) :=
  if y4 = (2 : Int32) then
 (if y6 = (2 : Int32) then
 (mj_Mo_bad_73 a1 μ c_30 (y2) (y3) (y4) (y5) (y6))
 else
 (some (y5)))
 else
 (mj_Mo_bad_73 a1 μ c_30 (y2) (y3) (y4) (y5) (y6))
theorem tj_Mo_bad_58 (a1 : Int32) (μ : Mem) {q : Int32} {c_30 : Int32 → Int32 → Int32 → Int32 → Option (Int32)} (hc_30 : ∀ (y2 : Int32) (y3 : Int32) (y4 : Int32) (y5 : Int32), c_30 y2 y3 y4 y5 = some q → J (GM true (QQ (some (vi q)) μ) (some (.int)) y_Mo_bad.name) true b_Mo_bad R_12 7 (1) 0 0 30 [(0, vr 12 (0)), (2, vi (y2)), (3, vi (y3)), (4, vi (y4)), (5, vi (y5))] [] μ) (y2 : Int32) (y3 : Int32) (y4 : Int32) (y5 : Int32) (y6 : Int32) (h : mj_Mo_bad_58 a1 μ c_30 y2 y3 y4 y5 y6 = some q) : J (GM true (QQ (some (vi q)) μ) (some (.int)) y_Mo_bad.name) true b_Mo_bad R_12 7 (1) 0 0 58 [(0, vr 12 (0)), (2, vi (y2)), (3, vi (y3)), (4, vi (y4)), (5, vi (y5)), (6, vi (y6))] [] μ := by
  unfold mj_Mo_bad_58 at h
  refine J_iload (q := 60) 3 d_Mo_bad_58 rfl rfl ?_
  refine J_iconst (q := 61) (v := (2 : Int32)) d_Mo_bad_60 (by decide) rfl ?_
  refine J_icmp_ne (q := 64) (tgt := 73) d_Mo_bad_61 (by decide) rfl (fun hc => ?_) (fun hc => ?_)
  · rw [if_neg hc] at h
    refine J_pick [0, 1, 2, 3, 4, 5] rfl ?_
    exact tj_Mo_bad_73 a1 μ hc_30 _ _ _ _ _ h
  · rw [if_pos hc] at h
    refine J_iload (q := 66) 5 d_Mo_bad_64 rfl rfl ?_
    refine J_iconst (q := 67) (v := (2 : Int32)) d_Mo_bad_66 (by decide) rfl ?_
    refine J_icmp_eq (q := 70) (tgt := 73) d_Mo_bad_67 (by decide) rfl (fun hc => ?_) (fun hc => ?_)
    · rw [if_pos hc] at h
      refine J_pick [0, 1, 2, 3, 4, 5] rfl ?_
      exact tj_Mo_bad_73 a1 μ hc_30 _ _ _ _ _ h
    · rw [if_neg hc] at h
      refine J_iload (q := 72) 4 d_Mo_bad_70 rfl rfl ?_
      obtain rfl := Option.some.inj h
      exact J_iret rfl ⟨rfl, rfl⟩ d_Mo_bad_72
def lp_Mo_bad_30 (a1 : Int32) (μ : Mem) (c_113 : Int32 → Int32 → Option (Int32)) : Nat → Int32 → Int32 → Int32 → Int32 → Option (Int32)
  | 0, _, _, _, _ => none
  | n + 1, y2, y3, y4, y5 =>
  if y3 ≤ y5 then
 (c_113 (y3) (y4))
 else
 (gu (y2 + y5) 3200 <|
  ap (gI μ 349 (0) (y2 + y5).toNatClampNeg) fun x10 =>
  if y4 = (1 : Int32) then
 (if x10 = 0 then
 (mj_Mo_bad_58 a1 μ (lp_Mo_bad_30 a1 μ c_113 n) (y2) (y3) (y4) (y5) (x10))
 else
 (some (y5)))
 else
 (mj_Mo_bad_58 a1 μ (lp_Mo_bad_30 a1 μ c_113 n) (y2) (y3) (y4) (y5) (x10)))
theorem tl_Mo_bad_30 (a1 : Int32) (μ : Mem) {q : Int32} {c_113 : Int32 → Int32 → Option (Int32)} (hc_113 : ∀ (y3 : Int32) (y4 : Int32), c_113 y3 y4 = some q → J (GM true (QQ (some (vi q)) μ) (some (.int)) y_Mo_bad.name) true b_Mo_bad R_12 7 (1) 0 0 113 [(3, vi (y3)), (4, vi (y4))] [] μ) : ∀ (n : Nat) (y2 : Int32) (y3 : Int32) (y4 : Int32) (y5 : Int32), lp_Mo_bad_30 a1 μ c_113 n y2 y3 y4 y5 = some q → J (GM true (QQ (some (vi q)) μ) (some (.int)) y_Mo_bad.name) true b_Mo_bad R_12 7 (1) 0 0 30 [(0, vr 12 (0)), (2, vi (y2)), (3, vi (y3)), (4, vi (y4)), (5, vi (y5))] [] μ := by
  intro n
  induction n with
  | zero => intro _ _ _ _ h; cases h
  | succ n ih =>
    intro y2 y3 y4 y5 h
    unfold lp_Mo_bad_30 at h
    refine J_iload (q := 32) 4 d_Mo_bad_30 rfl rfl ?_
    refine J_iload_n (q := 33) 2 d_Mo_bad_32 rfl rfl rfl ?_
    refine J_icmp_ge (q := 36) (tgt := 113) d_Mo_bad_33 (by decide) rfl (fun hc => ?_) (fun hc => ?_)
    · rw [if_pos hc] at h
      refine J_pick [2, 3] rfl ?_
      exact hc_113 _ _ h
    · rw [if_neg hc] at h
      refine J_aload_n (q := 37) 0 d_Mo_bad_36 rfl rfl rfl ?_
      refine J_getF (q := 40) cd_12 (by decide) ft_12_9 rfl g_1060 rfl d_Mo_bad_37 rfl ?_
      refine J_iload_n (q := 41) 1 d_Mo_bad_40 rfl rfl rfl ?_
      refine J_iload (q := 43) 4 d_Mo_bad_41 rfl rfl ?_
      refine J_iadd (q := 44) d_Mo_bad_43 rfl ?_
      obtain ⟨hi9, h⟩ := gu_some h
      refine J_iald (q := 45) rk_349 (by decide) hi9 d_Mo_bad_44 rfl ?_
      obtain ⟨x10, hx10, h⟩ := ap_eq h
      refine J_nmI hx10 ?_
      refine J_istore (q := 47) (lv' := [(6, vi (x10)), (0, vr 12 (0)), (2, vi (y2)), (3, vi (y3)), (4, vi (y4)), (5, vi (y5))]) d_Mo_bad_45 (by decide) rfl rfl ?_
      refine J_iload (q := 49) 4 d_Mo_bad_47 rfl rfl ?_
      refine J_iconst (q := 50) (v := (1 : Int32)) d_Mo_bad_49 (by decide) rfl ?_
      refine J_icmp_ne (q := 53) (tgt := 58) d_Mo_bad_50 (by decide) rfl (fun hc => ?_) (fun hc => ?_)
      · rw [if_neg hc] at h
        refine J_pick [1, 2, 3, 4, 5, 0] rfl ?_
        exact tj_Mo_bad_58 a1 μ ih _ _ _ _ _ h
      · rw [if_pos hc] at h
        refine J_iload (q := 55) 0 d_Mo_bad_53 rfl rfl ?_
        refine J_if_ne (q := 58) (tgt := 70) d_Mo_bad_55 (by decide) rfl (fun hc => ?_) (fun hc => ?_)
        · rw [if_neg hc] at h
          refine J_iload (q := 72) 5 d_Mo_bad_70 rfl rfl ?_
          obtain rfl := Option.some.inj h
          exact J_iret rfl ⟨rfl, rfl⟩ d_Mo_bad_72
        · rw [if_pos hc] at h
          refine J_pick [1, 2, 3, 4, 5, 0] rfl ?_
          exact tj_Mo_bad_58 a1 μ ih _ _ _ _ _ h
def mj_Mo_bad_124 (a1 : Int32) (μ : Mem) (y3 : Int32) : Option (Int32) :=
  some (y3)
theorem tj_Mo_bad_124 (a1 : Int32) (μ : Mem) {q : Int32}  (y3 : Int32) (h : mj_Mo_bad_124 a1 μ y3 = some q) : J (GM true (QQ (some (vi q)) μ) (some (.int)) y_Mo_bad.name) true b_Mo_bad R_12 7 (1) 0 0 124 [(3, vi (y3))] [] μ := by
  unfold mj_Mo_bad_124 at h
  refine J_iload_n (q := 125) 0 d_Mo_bad_124 rfl rfl rfl ?_
  refine J_goto (q := 129) d_Mo_bad_125 (by decide) ?_
  obtain rfl := Option.some.inj h
  exact J_iret rfl ⟨rfl, rfl⟩ d_Mo_bad_129
def mj_Mo_bad_113 (a1 : Int32) (μ : Mem) (y3 : Int32) (y4 : Int32) : Option (Int32) :=
  if y3 < (2 : Int32) then
 (mj_Mo_bad_124 a1 μ (y3))
 else
 (if y4 = (2 : Int32) then
 (mj_Mo_bad_124 a1 μ (y3))
 else
 (some ((-1 : Int32))))
theorem tj_Mo_bad_113 (a1 : Int32) (μ : Mem) {q : Int32}  (y3 : Int32) (y4 : Int32) (h : mj_Mo_bad_113 a1 μ y3 y4 = some q) : J (GM true (QQ (some (vi q)) μ) (some (.int)) y_Mo_bad.name) true b_Mo_bad R_12 7 (1) 0 0 113 [(3, vi (y3)), (4, vi (y4))] [] μ := by
  unfold mj_Mo_bad_113 at h
  refine J_iload_n (q := 114) 0 d_Mo_bad_113 rfl rfl rfl ?_
  refine J_iconst (q := 115) (v := (2 : Int32)) d_Mo_bad_114 (by decide) rfl ?_
  refine J_icmp_lt (q := 118) (tgt := 124) d_Mo_bad_115 (by decide) rfl (fun hc => ?_) (fun hc => ?_)
  · rw [if_pos hc] at h
    refine J_pick [0] rfl ?_
    exact tj_Mo_bad_124 a1 μ _ h
  · rw [if_neg hc] at h
    refine J_iload (q := 120) 1 d_Mo_bad_118 rfl rfl ?_
    refine J_iconst (q := 121) (v := (2 : Int32)) d_Mo_bad_120 (by decide) rfl ?_
    refine J_icmp_ne (q := 124) (tgt := 128) d_Mo_bad_121 (by decide) rfl (fun hc => ?_) (fun hc => ?_)
    · rw [if_neg hc] at h
      refine J_iconst (q := 129) (v := (-1 : Int32)) d_Mo_bad_128 (by decide) rfl ?_
      obtain rfl := Option.some.inj h
      exact J_iret rfl ⟨rfl, rfl⟩ d_Mo_bad_129
    · rw [if_pos hc] at h
      refine J_pick [0] rfl ?_
      exact tj_Mo_bad_124 a1 μ _ h
def m_Mo_bad (a1 : Int32) (μ : Mem) : Option (Int32) :=
  Option.bind (m_Mo_closed (a1) μ) fun r1 =>
  ap (((100 : Int32) * a1) + (r1)) fun x2 =>
  gu (a1) 32 <|
  Option.bind (m_Mo_closed (a1) μ) fun r4 =>
  ap ((gI μ 345 (0) a1.toNatClampNeg) - (r4)) fun x5 =>
  lp_Mo_bad_30 a1 μ (mj_Mo_bad_113 a1 μ) FU (x2) (x5) ((1 : Int32)) ((0 : Int32))
theorem t_Mo_bad {a1 : Int32} {μ : Mem} {q : Int32} (h : m_Mo_bad a1 μ = some q) : JM true (1) y_Mo_bad b_Mo_bad 7 (some (.int)) 0 0 [vr 12 (0), vi (a1)] μ (QQ (some (vi q)) μ) := by
  unfold m_Mo_bad at h
  refine JM.of pl_Mo_bad (fun ρ => Nat.le_of_ble_eq_true rfl) ?_
  show J (GM true (QQ (some (vi q)) μ) (some (.int)) y_Mo_bad.name) true b_Mo_bad R_12 7 (1) 0 0 0 [(0, vr 12 (0)), (1, vi (a1))] [] μ
  refine J_bipush (q := 2) (v := (100 : Int32)) d_Mo_bad_0 (by decide) rfl ?_
  refine J_iload_n (q := 3) 1 d_Mo_bad_2 rfl rfl rfl ?_
  refine J_imul (q := 4) d_Mo_bad_3 rfl ?_
  refine J_aload_n (q := 5) 0 d_Mo_bad_4 rfl rfl rfl ?_
  refine J_iload_n (q := 6) 1 d_Mo_bad_5 rfl rfl rfl ?_
  obtain ⟨r1, hr1, h⟩ := bd_some h
  refine J_callVq (rc := 0) (rs := 0) (q := 9) (as := [vi (a1)]) (st := [vi ((100 : Int32) * a1)]) (by decide) rfl g_1298 sel_Mo_closed (t_Mo_closed hr1) (by decide) (by decide) g_1296 g_1299 g_10 hy_Mo_closed rfl (Nat.le_of_ble_eq_true rfl) d_Mo_bad_6 rfl ?_
  refine J_iadd (q := 10) d_Mo_bad_9 rfl ?_
  obtain ⟨x2, hx2, h⟩ := ap_eq h
  refine J_nmI hx2 ?_
  refine J_istore_n (q := 11) (lv' := [(2, vi (x2)), (0, vr 12 (0)), (1, vi (a1))]) d_Mo_bad_10 rfl (by decide) rfl rfl ?_
  refine J_aload_n (q := 12) 1 d_Mo_bad_11 rfl rfl rfl ?_
  refine J_getF (q := 15) cd_12 (by decide) ft_12_5 rfl g_1056 rfl d_Mo_bad_12 rfl ?_
  refine J_iload_n (q := 16) 2 d_Mo_bad_15 rfl rfl rfl ?_
  obtain ⟨hi3, h⟩ := gu_some h
  refine J_iald (q := 17) rk_345 (by decide) hi3 d_Mo_bad_16 rfl ?_
  refine J_aload_n (q := 18) 1 d_Mo_bad_17 rfl rfl rfl ?_
  refine J_iload_n (q := 19) 2 d_Mo_bad_18 rfl rfl rfl ?_
  obtain ⟨r4, hr4, h⟩ := bd_some h
  refine J_callVq (rc := 0) (rs := 0) (q := 22) (as := [vi (a1)]) (st := [vi (gI μ 345 (0) a1.toNatClampNeg)]) (by decide) rfl g_1298 sel_Mo_closed (t_Mo_closed hr4) (by decide) (by decide) g_1296 g_1299 g_10 hy_Mo_closed rfl (Nat.le_of_ble_eq_true rfl) d_Mo_bad_19 rfl ?_
  refine J_isub (q := 23) d_Mo_bad_22 rfl ?_
  obtain ⟨x5, hx5, h⟩ := ap_eq h
  refine J_nmI hx5 ?_
  refine J_istore_n (q := 24) (lv' := [(3, vi (x5)), (2, vi (x2)), (0, vr 12 (0)), (1, vi (a1))]) d_Mo_bad_23 rfl (by decide) rfl rfl ?_
  refine J_iconst (q := 25) (v := (1 : Int32)) d_Mo_bad_24 (by decide) rfl ?_
  refine J_istore (q := 27) (lv' := [(4, vi ((1 : Int32))), (3, vi (x5)), (2, vi (x2)), (0, vr 12 (0)), (1, vi (a1))]) d_Mo_bad_25 (by decide) rfl rfl ?_
  refine J_iconst (q := 28) (v := (0 : Int32)) d_Mo_bad_27 (by decide) rfl ?_
  refine J_istore (q := 30) (lv' := [(5, vi ((0 : Int32))), (4, vi ((1 : Int32))), (3, vi (x5)), (2, vi (x2)), (0, vr 12 (0)), (1, vi (a1))]) d_Mo_bad_28 (by decide) rfl rfl ?_
  refine J_pick [4, 3, 2, 1, 0] rfl ?_
  exact tl_Mo_bad_30 a1 μ (fun _ _ h => tj_Mo_bad_113 a1 μ _ _ h) FU _ _ _ _ h
def m_Mo_close (a1 : Int32) (μ : Mem) : Option (Int32 × Mem) :=
  if (m_Mo_isLetter (a1) μ) then
 (gu (a1) 32 <|
  if gI μ 344 (0) a1.toNatClampNeg = 0 then
 (some (((-2 : Int32), μ)))
 else
 (Option.bind (m_Mo_bad (a1) μ) fun r2 =>
  if r2 = (-1 : Int32) then
 (gu (a1) 32 <|
  gu (a1) 32 <|
  gu (((8 : Int32) * a1) + (gI μ 343 (0) a1.toNatClampNeg)) 256 <|
  ap (sI μ 346 (0) (((8 : Int32) * a1) + (gI μ 343 (0) a1.toNatClampNeg)).toNatClampNeg (gI μ 345 (0) a1.toNatClampNeg)) fun μ6 =>
  gu (a1) 32 <|
  gu (a1) 32 <|
  ap (sI μ6 343 (0) a1.toNatClampNeg ((gI μ6 343 (0) a1.toNatClampNeg) + ((1 : Int32)))) fun μ9 =>
  gu (a1) 32 <|
  ap (sI μ9 344 (0) a1.toNatClampNeg ((0 : Int32))) fun μ11 =>
  some (((0 : Int32), μ11)))
 else
 (some (((1 : Int32) + r2, μ)))))
 else
 (some (((-2 : Int32), μ)))
theorem t_Mo_close {a1 : Int32} {μ : Mem} {q : Int32 × Mem} (h : m_Mo_close a1 μ = some q) : JM true (2) y_Mo_close b_Mo_close 3 (some (.int)) 0 0 [vr 12 (0), vi (a1)] μ (QQ (some (vi q.1)) q.2) := by
  unfold m_Mo_close at h
  refine JM.of pl_Mo_close (fun ρ => Nat.le_of_ble_eq_true rfl) ?_
  show J (GM true (QQ (some (vi q.1)) q.2) (some (.int)) y_Mo_close.name) true b_Mo_close R_12 3 (2) 0 0 0 [(0, vr 12 (0)), (1, vi (a1))] [] μ
  refine J_aload_n (q := 1) 0 d_Mo_close_0 rfl rfl rfl ?_
  refine J_iload_n (q := 2) 1 d_Mo_close_1 rfl rfl rfl ?_
  refine J_callVq (rc := 0) (rs := 0) (q := 5) (as := [vi (a1)]) (st := []) (by decide) rfl g_1287 sel_Mo_isLetter (t_Mo_isLetter rfl) (by decide) (by decide) g_1285 g_1288 g_10 hy_Mo_isLetter rfl (Nat.le_of_ble_eq_true rfl) d_Mo_close_2 rfl ?_
  refine J_ifB_eq (q := 8) (tgt := 17) d_Mo_close_5 (by decide) rfl (fun hb => ?_) (fun hb => ?_)
  · rw [iB_f hb] at h
    refine J_bipush (q := 19) (v := (-2 : Int32)) d_Mo_close_17 (by decide) rfl ?_
    obtain rfl := Option.some.inj h
    exact J_iret rfl ⟨rfl, rfl⟩ d_Mo_close_19
  · rw [iB_t hb] at h
    refine J_aload_n (q := 9) 0 d_Mo_close_8 rfl rfl rfl ?_
    refine J_getF (q := 12) cd_12 (by decide) ft_12_4 rfl g_1055 rfl d_Mo_close_9 rfl ?_
    refine J_iload_n (q := 13) 1 d_Mo_close_12 rfl rfl rfl ?_
    obtain ⟨hi1, h⟩ := gu_some h
    refine J_zald (q := 14) rk_344 (by decide) hi1 d_Mo_close_13 rfl ?_
    refine J_if_ne (q := 17) (tgt := 20) d_Mo_close_14 (by decide) rfl (fun hc => ?_) (fun hc => ?_)
    · rw [if_neg hc] at h
      refine J_aload_n (q := 21) 0 d_Mo_close_20 rfl rfl rfl ?_
      refine J_iload_n (q := 22) 1 d_Mo_close_21 rfl rfl rfl ?_
      obtain ⟨r2, hr2, h⟩ := bd_some h
      refine J_callVq (rc := 0) (rs := 0) (q := 25) (as := [vi (a1)]) (st := []) (by decide) rfl g_1306 sel_Mo_bad (t_Mo_bad hr2) (by decide) (by decide) g_1304 g_1307 g_10 hy_Mo_bad rfl (Nat.le_of_ble_eq_true rfl) d_Mo_close_22 rfl ?_
      refine J_istore_n (q := 26) (lv' := [(2, vi (r2)), (0, vr 12 (0)), (1, vi (a1))]) d_Mo_close_25 rfl (by decide) rfl rfl ?_
      refine J_iload_n (q := 27) 0 d_Mo_close_26 rfl rfl rfl ?_
      refine J_iconst (q := 28) (v := (-1 : Int32)) d_Mo_close_27 (by decide) rfl ?_
      refine J_icmp_eq (q := 31) (tgt := 35) d_Mo_close_28 (by decide) rfl (fun hc => ?_) (fun hc => ?_)
      · rw [if_pos hc] at h
        refine J_aload_n (q := 36) 1 d_Mo_close_35 rfl rfl rfl ?_
        refine J_getF (q := 39) cd_12 (by decide) ft_12_6 rfl g_1057 rfl d_Mo_close_36 rfl ?_
        refine J_bipush (q := 41) (v := (8 : Int32)) d_Mo_close_39 (by decide) rfl ?_
        refine J_iload_n (q := 42) 2 d_Mo_close_41 rfl rfl rfl ?_
        refine J_imul (q := 43) d_Mo_close_42 rfl ?_
        refine J_aload_n (q := 44) 1 d_Mo_close_43 rfl rfl rfl ?_
        refine J_getF (q := 47) cd_12 (by decide) ft_12_3 rfl g_1054 rfl d_Mo_close_44 rfl ?_
        refine J_iload_n (q := 48) 2 d_Mo_close_47 rfl rfl rfl ?_
        obtain ⟨hi3, h⟩ := gu_some h
        refine J_iald (q := 49) rk_343 (by decide) hi3 d_Mo_close_48 rfl ?_
        refine J_iadd (q := 50) d_Mo_close_49 rfl ?_
        refine J_aload_n (q := 51) 1 d_Mo_close_50 rfl rfl rfl ?_
        refine J_getF (q := 54) cd_12 (by decide) ft_12_5 rfl g_1056 rfl d_Mo_close_51 rfl ?_
        refine J_iload_n (q := 55) 2 d_Mo_close_54 rfl rfl rfl ?_
        obtain ⟨hi4, h⟩ := gu_some h
        refine J_iald (q := 56) rk_345 (by decide) hi4 d_Mo_close_55 rfl ?_
        obtain ⟨hi5, h⟩ := gu_some h
        refine J_iast (q := 57) rk_346 (by decide) hi5 d_Mo_close_56 rfl ?_
        obtain ⟨μ6, hμ6, h⟩ := ap_eq h
        refine J_nmM hμ6 ?_
        refine J_aload_n (q := 58) 1 d_Mo_close_57 rfl rfl rfl ?_
        refine J_getF (q := 61) cd_12 (by decide) ft_12_3 rfl g_1054 rfl d_Mo_close_58 rfl ?_
        refine J_iload_n (q := 62) 2 d_Mo_close_61 rfl rfl rfl ?_
        refine J_dup2IR (q := 63) d_Mo_close_62 rfl ?_
        obtain ⟨hi7, h⟩ := gu_some h
        refine J_iald (q := 64) rk_343 (by decide) hi7 d_Mo_close_63 rfl ?_
        refine J_iconst (q := 65) (v := (1 : Int32)) d_Mo_close_64 (by decide) rfl ?_
        refine J_iadd (q := 66) d_Mo_close_65 rfl ?_
        obtain ⟨hi8, h⟩ := gu_some h
        refine J_iast (q := 67) rk_343 (by decide) hi8 d_Mo_close_66 rfl ?_
        obtain ⟨μ9, hμ9, h⟩ := ap_eq h
        refine J_nmM hμ9 ?_
        refine J_aload_n (q := 68) 1 d_Mo_close_67 rfl rfl rfl ?_
        refine J_getF (q := 71) cd_12 (by decide) ft_12_4 rfl g_1055 rfl d_Mo_close_68 rfl ?_
        refine J_iload_n (q := 72) 2 d_Mo_close_71 rfl rfl rfl ?_
        refine J_iconst (q := 73) (v := (0 : Int32)) d_Mo_close_72 (by decide) rfl ?_
        obtain ⟨hi10, h⟩ := gu_some h
        refine J_zast (q := 74) (Or.inl rfl) rk_344 (by decide) hi10 d_Mo_close_73 rfl ?_
        obtain ⟨μ11, hμ11, h⟩ := ap_eq h
        refine J_nmM hμ11 ?_
        refine J_iconst (q := 75) (v := (0 : Int32)) d_Mo_close_74 (by decide) rfl ?_
        obtain rfl := Option.some.inj h
        exact J_iret rfl ⟨rfl, rfl⟩ d_Mo_close_75
      · rw [if_neg hc] at h
        refine J_iconst (q := 32) (v := (1 : Int32)) d_Mo_close_31 (by decide) rfl ?_
        refine J_iload_n (q := 33) 0 d_Mo_close_32 rfl rfl rfl ?_
        refine J_iadd (q := 34) d_Mo_close_33 rfl ?_
        obtain rfl := Option.some.inj h
        exact J_iret rfl ⟨rfl, rfl⟩ d_Mo_close_34
    · rw [if_pos hc] at h
      refine J_bipush (q := 19) (v := (-2 : Int32)) d_Mo_close_17 (by decide) rfl ?_
      obtain rfl := Option.some.inj h
      exact J_iret rfl ⟨rfl, rfl⟩ d_Mo_close_19
