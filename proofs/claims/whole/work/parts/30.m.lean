def mj_Mo_flattens_103 (a1 : Int32) (a2 : Int32) (c_36 : Int32 → Mem → Option (Bool × Mem)) (y3 : Int32) (y4 : Int32) (μ : Mem) : Option (Bool × Mem) :=
  gu (y3) 8 <|
  gu (y4) 32 <|
  if gI μ 361 (0) y3.toNatClampNeg = gI μ 352 (0) y4.toNatClampNeg then
 (ap (y3 + (-1 : Int32)) fun x25 =>
  c_36 (x25) μ)
 else
 (gu (y3) 8 <|
  gu (((6 : Int32) * y4) + (gI μ 361 (0) y3.toNatClampNeg)) 192 <|
  ap (gI μ 353 (0) (((6 : Int32) * y4) + (gI μ 361 (0) y3.toNatClampNeg)).toNatClampNeg) fun x16 =>
  gu (y3) 8 <|
  gu (y3) 8 <|
  ap (sI μ 361 (0) y3.toNatClampNeg ((gI μ 361 (0) y3.toNatClampNeg) + ((1 : Int32)))) fun μ19 =>
  ap (y3 + (1 : Int32)) fun x20 =>
  gu (x20) 8 <|
  ap (sI μ19 360 (0) x20.toNatClampNeg (x16)) fun μ22 =>
  gu (x20) 8 <|
  ap (sI μ22 361 (0) x20.toNatClampNeg ((0 : Int32))) fun μ24 =>
  c_36 (x20) μ24)
theorem tj_Mo_flattens_103 (a1 : Int32) (a2 : Int32) {q : Bool × Mem} {c_36 : Int32 → Mem → Option (Bool × Mem)} (hc_36 : ∀ (y3 : Int32) (μ : Mem), c_36 y3 μ = some q → J (GM true (QQ (some (vi (b2i q.1))) q.2) (some (.boolean)) y_Mo_flattens.name) true b_Mo_flattens R_12 6 (4) 0 0 36 [(0, vr 12 (0)), (2, vi (a2)), (3, vi (y3))] [] μ) (y3 : Int32) (y4 : Int32) (μ : Mem) (h : mj_Mo_flattens_103 a1 a2 c_36 y3 y4 μ = some q) : J (GM true (QQ (some (vi (b2i q.1))) q.2) (some (.boolean)) y_Mo_flattens.name) true b_Mo_flattens R_12 6 (4) 0 0 103 [(0, vr 12 (0)), (2, vi (a2)), (3, vi (y3)), (4, vi (y4))] [] μ := by
  unfold mj_Mo_flattens_103 at h
  refine J_aload_n (q := 104) 0 d_Mo_flattens_103 rfl rfl rfl ?_
  refine J_getF (q := 107) cd_12 (by decide) ft_12_21 rfl g_1072 rfl d_Mo_flattens_104 rfl ?_
  refine J_iload_n (q := 108) 2 d_Mo_flattens_107 rfl rfl rfl ?_
  obtain ⟨hi12, h⟩ := gu_some h
  refine J_iald (q := 109) rk_361 (by decide) hi12 d_Mo_flattens_108 rfl ?_
  refine J_aload_n (q := 110) 0 d_Mo_flattens_109 rfl rfl rfl ?_
  refine J_getF (q := 113) cd_12 (by decide) ft_12_12 rfl g_1063 rfl d_Mo_flattens_110 rfl ?_
  refine J_iload (q := 115) 3 d_Mo_flattens_113 rfl rfl ?_
  obtain ⟨hi13, h⟩ := gu_some h
  refine J_iald (q := 116) rk_352 (by decide) hi13 d_Mo_flattens_115 rfl ?_
  refine J_icmp_ne (q := 119) (tgt := 125) d_Mo_flattens_116 (by decide) rfl (fun hc => ?_) (fun hc => ?_)
  · rw [if_neg hc] at h
    refine J_aload_n (q := 126) 0 d_Mo_flattens_125 rfl rfl rfl ?_
    refine J_getF (q := 129) cd_12 (by decide) ft_12_13 rfl g_1064 rfl d_Mo_flattens_126 rfl ?_
    refine J_bipush (q := 131) (v := (6 : Int32)) d_Mo_flattens_129 (by decide) rfl ?_
    refine J_iload (q := 133) 3 d_Mo_flattens_131 rfl rfl ?_
    refine J_imul (q := 134) d_Mo_flattens_133 rfl ?_
    refine J_aload_n (q := 135) 0 d_Mo_flattens_134 rfl rfl rfl ?_
    refine J_getF (q := 138) cd_12 (by decide) ft_12_21 rfl g_1072 rfl d_Mo_flattens_135 rfl ?_
    refine J_iload_n (q := 139) 2 d_Mo_flattens_138 rfl rfl rfl ?_
    obtain ⟨hi14, h⟩ := gu_some h
    refine J_iald (q := 140) rk_361 (by decide) hi14 d_Mo_flattens_139 rfl ?_
    refine J_iadd (q := 141) d_Mo_flattens_140 rfl ?_
    obtain ⟨hi15, h⟩ := gu_some h
    refine J_iald (q := 142) rk_353 (by decide) hi15 d_Mo_flattens_141 rfl ?_
    obtain ⟨x16, hx16, h⟩ := ap_eq h
    refine J_nmI hx16 ?_
    refine J_istore (q := 144) (lv' := [(5, vi (x16)), (0, vr 12 (0)), (2, vi (a2)), (3, vi (y3)), (4, vi (y4))]) d_Mo_flattens_142 (by decide) rfl rfl ?_
    refine J_aload_n (q := 145) 1 d_Mo_flattens_144 rfl rfl rfl ?_
    refine J_getF (q := 148) cd_12 (by decide) ft_12_21 rfl g_1072 rfl d_Mo_flattens_145 rfl ?_
    refine J_iload_n (q := 149) 3 d_Mo_flattens_148 rfl rfl rfl ?_
    refine J_dup2IR (q := 150) d_Mo_flattens_149 rfl ?_
    obtain ⟨hi17, h⟩ := gu_some h
    refine J_iald (q := 151) rk_361 (by decide) hi17 d_Mo_flattens_150 rfl ?_
    refine J_iconst (q := 152) (v := (1 : Int32)) d_Mo_flattens_151 (by decide) rfl ?_
    refine J_iadd (q := 153) d_Mo_flattens_152 rfl ?_
    obtain ⟨hi18, h⟩ := gu_some h
    refine J_iast (q := 154) rk_361 (by decide) hi18 d_Mo_flattens_153 rfl ?_
    obtain ⟨μ19, hμ19, h⟩ := ap_eq h
    refine J_nmM hμ19 ?_
    obtain ⟨x20, hx20, h⟩ := ap_eq h
    refine J_iinc (q := 157) (v := x20) (lv' := [(3, vi (x20)), (5, vi (x16)), (0, vr 12 (0)), (2, vi (a2)), (4, vi (y4))]) 3 d_Mo_flattens_154 rfl (by rw [hx20]; rfl) (by decide) rfl rfl ?_
    refine J_aload_n (q := 158) 2 d_Mo_flattens_157 rfl rfl rfl ?_
    refine J_getF (q := 161) cd_12 (by decide) ft_12_20 rfl g_1071 rfl d_Mo_flattens_158 rfl ?_
    refine J_iload_n (q := 162) 0 d_Mo_flattens_161 rfl rfl rfl ?_
    refine J_iload (q := 164) 1 d_Mo_flattens_162 rfl rfl ?_
    obtain ⟨hi21, h⟩ := gu_some h
    refine J_iast (q := 165) rk_360 (by decide) hi21 d_Mo_flattens_164 rfl ?_
    obtain ⟨μ22, hμ22, h⟩ := ap_eq h
    refine J_nmM hμ22 ?_
    refine J_aload_n (q := 166) 2 d_Mo_flattens_165 rfl rfl rfl ?_
    refine J_getF (q := 169) cd_12 (by decide) ft_12_21 rfl g_1072 rfl d_Mo_flattens_166 rfl ?_
    refine J_iload_n (q := 170) 0 d_Mo_flattens_169 rfl rfl rfl ?_
    refine J_iconst (q := 171) (v := (0 : Int32)) d_Mo_flattens_170 (by decide) rfl ?_
    obtain ⟨hi23, h⟩ := gu_some h
    refine J_iast (q := 172) rk_361 (by decide) hi23 d_Mo_flattens_171 rfl ?_
    obtain ⟨μ24, hμ24, h⟩ := ap_eq h
    refine J_nmM hμ24 ?_
    refine J_goto (q := 36) d_Mo_flattens_172 (by decide) ?_
    refine J_pick [2, 3, 0] rfl ?_
    exact hc_36 _ _ h
  · rw [if_pos hc] at h
    obtain ⟨x25, hx25, h⟩ := ap_eq h
    refine J_iinc (q := 122) (v := x25) (lv' := [(3, vi (x25)), (0, vr 12 (0)), (2, vi (a2)), (4, vi (y4))]) 2 d_Mo_flattens_119 rfl (by rw [hx25]; rfl) (by decide) rfl rfl ?_
    refine J_goto (q := 36) d_Mo_flattens_122 (by decide) ?_
    refine J_pick [1, 2, 0] rfl ?_
    exact hc_36 _ _ h
def lp_Mo_flattens_68 (a1 : Int32) (a2 : Int32) (c_103 : Int32 → Int32 → Mem → Option (Bool × Mem)) : Nat → Int32 → Int32 → Int32 → Mem → Option (Bool × Mem)
  | 0, _, _, _, _ => none
  | n + 1, y3, y4, y5, μ =>
  gu (y4) 32 <|
  if gI μ 343 (0) y4.toNatClampNeg ≤ y5 then
 (c_103 (y3) (y4) μ)
 else
 (if gI μ 12 (0) 32 = 0 then
 (c_103 (y3) (y4) μ)
 else
 (Option.bind (m_Mo_outlineOf (y4) (y5) (y3) (a2) μ) fun r30 =>
  ap (y5 + (1 : Int32)) fun x31 =>
  lp_Mo_flattens_68 a1 a2 c_103 n (y3) (y4) (x31) r30))
theorem tl_Mo_flattens_68 (a1 : Int32) (a2 : Int32) {q : Bool × Mem} {c_103 : Int32 → Int32 → Mem → Option (Bool × Mem)} (hc_103 : ∀ (y3 : Int32) (y4 : Int32) (μ : Mem), c_103 y3 y4 μ = some q → J (GM true (QQ (some (vi (b2i q.1))) q.2) (some (.boolean)) y_Mo_flattens.name) true b_Mo_flattens R_12 6 (4) 0 0 103 [(0, vr 12 (0)), (2, vi (a2)), (3, vi (y3)), (4, vi (y4))] [] μ) : ∀ (n : Nat) (y3 : Int32) (y4 : Int32) (y5 : Int32) (μ : Mem), lp_Mo_flattens_68 a1 a2 c_103 n y3 y4 y5 μ = some q → J (GM true (QQ (some (vi (b2i q.1))) q.2) (some (.boolean)) y_Mo_flattens.name) true b_Mo_flattens R_12 6 (4) 0 0 68 [(0, vr 12 (0)), (2, vi (a2)), (3, vi (y3)), (4, vi (y4)), (5, vi (y5))] [] μ := by
  intro n
  induction n with
  | zero => intro _ _ _ _ h; cases h
  | succ n ih =>
    intro y3 y4 y5 μ h
    unfold lp_Mo_flattens_68 at h
    refine J_iload (q := 70) 4 d_Mo_flattens_68 rfl rfl ?_
    refine J_aload_n (q := 71) 0 d_Mo_flattens_70 rfl rfl rfl ?_
    refine J_getF (q := 74) cd_12 (by decide) ft_12_3 rfl g_1054 rfl d_Mo_flattens_71 rfl ?_
    refine J_iload (q := 76) 3 d_Mo_flattens_74 rfl rfl ?_
    obtain ⟨hi29, h⟩ := gu_some h
    refine J_iald (q := 77) rk_343 (by decide) hi29 d_Mo_flattens_76 rfl ?_
    refine J_icmp_ge (q := 80) (tgt := 103) d_Mo_flattens_77 (by decide) rfl (fun hc => ?_) (fun hc => ?_)
    · rw [if_pos hc] at h
      refine J_pick [0, 1, 2, 3] rfl ?_
      exact hc_103 _ _ _ h
    · rw [if_neg hc] at h
      refine J_aload_n (q := 81) 0 d_Mo_flattens_80 rfl rfl rfl ?_
      refine J_getI (q := 84) (j := 32) cd_12 (by decide) (Or.inr rfl) g_1083 rfl d_Mo_flattens_81 rfl ?_
      refine J_if_eq (q := 87) (tgt := 103) d_Mo_flattens_84 (by decide) rfl (fun hc => ?_) (fun hc => ?_)
      · rw [if_pos hc] at h
        refine J_pick [0, 1, 2, 3] rfl ?_
        exact hc_103 _ _ _ h
      · rw [if_neg hc] at h
        refine J_aload_n (q := 88) 0 d_Mo_flattens_87 rfl rfl rfl ?_
        refine J_iload (q := 90) 3 d_Mo_flattens_88 rfl rfl ?_
        refine J_iload (q := 92) 4 d_Mo_flattens_90 rfl rfl ?_
        refine J_iload_n (q := 93) 2 d_Mo_flattens_92 rfl rfl rfl ?_
        refine J_iload_n (q := 94) 1 d_Mo_flattens_93 rfl rfl rfl ?_
        obtain ⟨r30, hr30, h⟩ := bd_some h
        refine J_callVv (rc := 0) (rs := 0) (q := 97) (as := [vi (y4), vi (y5), vi (y3), vi (a2)]) (st := []) (by decide) rfl g_1366 sel_Mo_outlineOf (t_Mo_outlineOf hr30) (by decide) (by decide) g_1364 g_1367 g_10 hy_Mo_outlineOf rfl (Nat.le_of_ble_eq_true rfl) d_Mo_flattens_94 rfl ?_
        obtain ⟨x31, hx31, h⟩ := ap_eq h
        refine J_iinc (q := 100) (v := x31) (lv' := [(5, vi (x31)), (0, vr 12 (0)), (2, vi (a2)), (3, vi (y3)), (4, vi (y4))]) 4 d_Mo_flattens_97 rfl (by rw [hx31]; rfl) (by decide) rfl rfl ?_
        refine J_goto (q := 68) d_Mo_flattens_100 (by decide) ?_
        refine J_pick [1, 2, 3, 4, 0] rfl ?_
        exact ih _ _ _ _ h
def lp_Mo_flattens_36 (a1 : Int32) (a2 : Int32) (c_175 : Mem → Option (Bool × Mem)) : Nat → Int32 → Mem → Option (Bool × Mem)
  | 0, _, _ => none
  | n + 1, y3, μ =>
  if y3 < 0 then
 (c_175 μ)
 else
 (if gI μ 12 (0) 32 = 0 then
 (c_175 μ)
 else
 (gu (y3) 8 <|
  ap (gI μ 360 (0) y3.toNatClampNeg) fun x33 =>
  gu (x33) 32 <|
  if gI μ 352 (0) x33.toNatClampNeg = 0 then
 (lp_Mo_flattens_68 a1 a2 (mj_Mo_flattens_103 a1 a2 (lp_Mo_flattens_36 a1 a2 c_175 n)) FU (y3) (x33) ((0 : Int32)) μ)
 else
 (mj_Mo_flattens_103 a1 a2 (lp_Mo_flattens_36 a1 a2 c_175 n) (y3) (x33) μ)))
theorem tl_Mo_flattens_36 (a1 : Int32) (a2 : Int32) {q : Bool × Mem} {c_175 : Mem → Option (Bool × Mem)} (hc_175 : ∀ (μ : Mem), c_175  μ = some q → J (GM true (QQ (some (vi (b2i q.1))) q.2) (some (.boolean)) y_Mo_flattens.name) true b_Mo_flattens R_12 6 (4) 0 0 175 [(0, vr 12 (0))] [] μ) : ∀ (n : Nat) (y3 : Int32) (μ : Mem), lp_Mo_flattens_36 a1 a2 c_175 n y3 μ = some q → J (GM true (QQ (some (vi (b2i q.1))) q.2) (some (.boolean)) y_Mo_flattens.name) true b_Mo_flattens R_12 6 (4) 0 0 36 [(0, vr 12 (0)), (2, vi (a2)), (3, vi (y3))] [] μ := by
  intro n
  induction n with
  | zero => intro _ _ h; cases h
  | succ n ih =>
    intro y3 μ h
    unfold lp_Mo_flattens_36 at h
    refine J_iload_n (q := 37) 2 d_Mo_flattens_36 rfl rfl rfl ?_
    refine J_if_lt (q := 40) (tgt := 175) d_Mo_flattens_37 (by decide) rfl (fun hc => ?_) (fun hc => ?_)
    · rw [if_pos hc] at h
      refine J_pick [0] rfl ?_
      exact hc_175 _ h
    · rw [if_neg hc] at h
      refine J_aload_n (q := 41) 0 d_Mo_flattens_40 rfl rfl rfl ?_
      refine J_getI (q := 44) (j := 32) cd_12 (by decide) (Or.inr rfl) g_1083 rfl d_Mo_flattens_41 rfl ?_
      refine J_if_eq (q := 47) (tgt := 175) d_Mo_flattens_44 (by decide) rfl (fun hc => ?_) (fun hc => ?_)
      · rw [if_pos hc] at h
        refine J_pick [0] rfl ?_
        exact hc_175 _ h
      · rw [if_neg hc] at h
        refine J_aload_n (q := 48) 0 d_Mo_flattens_47 rfl rfl rfl ?_
        refine J_getF (q := 51) cd_12 (by decide) ft_12_20 rfl g_1071 rfl d_Mo_flattens_48 rfl ?_
        refine J_iload_n (q := 52) 2 d_Mo_flattens_51 rfl rfl rfl ?_
        obtain ⟨hi32, h⟩ := gu_some h
        refine J_iald (q := 53) rk_360 (by decide) hi32 d_Mo_flattens_52 rfl ?_
        obtain ⟨x33, hx33, h⟩ := ap_eq h
        refine J_nmI hx33 ?_
        refine J_istore (q := 55) (lv' := [(4, vi (x33)), (0, vr 12 (0)), (2, vi (a2)), (3, vi (y3))]) d_Mo_flattens_53 (by decide) rfl rfl ?_
        refine J_aload_n (q := 56) 1 d_Mo_flattens_55 rfl rfl rfl ?_
        refine J_getF (q := 59) cd_12 (by decide) ft_12_12 rfl g_1063 rfl d_Mo_flattens_56 rfl ?_
        refine J_iload (q := 61) 0 d_Mo_flattens_59 rfl rfl ?_
        obtain ⟨hi34, h⟩ := gu_some h
        refine J_iald (q := 62) rk_352 (by decide) hi34 d_Mo_flattens_61 rfl ?_
        refine J_if_ne (q := 65) (tgt := 103) d_Mo_flattens_62 (by decide) rfl (fun hc => ?_) (fun hc => ?_)
        · rw [if_neg hc] at h
          refine J_pick [1, 2, 3, 0] rfl ?_
          exact tj_Mo_flattens_103 a1 a2 ih _ _ _ h
        · rw [if_pos hc] at h
          refine J_iconst (q := 66) (v := (0 : Int32)) d_Mo_flattens_65 (by decide) rfl ?_
          refine J_istore (q := 68) (lv' := [(5, vi ((0 : Int32))), (4, vi (x33)), (0, vr 12 (0)), (2, vi (a2)), (3, vi (y3))]) d_Mo_flattens_66 (by decide) rfl rfl ?_
          refine J_pick [2, 3, 4, 1, 0] rfl ?_
          exact tl_Mo_flattens_68 a1 a2 (fun _ _ _ h => tj_Mo_flattens_103 a1 a2 ih _ _ _ h) FU _ _ _ _ h
def mj_Mo_flattens_175 (a1 : Int32) (a2 : Int32) (μ : Mem) : Option (Bool × Mem) :=
  Option.bind (zb (gI μ 12 (0) 32)) fun B35 => some ((B35, μ))
theorem tj_Mo_flattens_175 (a1 : Int32) (a2 : Int32) {q : Bool × Mem}  (μ : Mem) (h : mj_Mo_flattens_175 a1 a2  μ = some q) : J (GM true (QQ (some (vi (b2i q.1))) q.2) (some (.boolean)) y_Mo_flattens.name) true b_Mo_flattens R_12 6 (4) 0 0 175 [(0, vr 12 (0))] [] μ := by
  unfold mj_Mo_flattens_175 at h
  refine J_aload_n (q := 176) 0 d_Mo_flattens_175 rfl rfl rfl ?_
  refine J_getI (q := 179) (j := 32) cd_12 (by decide) (Or.inr rfl) g_1083 rfl d_Mo_flattens_176 rfl ?_
  obtain ⟨B35, hB35, h⟩ := zb_some h
  obtain rfl := Option.some.inj h
  refine J_nmI hB35.symm ?_
  exact J_zret (b2i01 _) rfl ⟨rfl, rfl⟩ d_Mo_flattens_179
def m_Mo_flattens (a1 : Int32) (a2 : Int32) (μ : Mem) : Option (Bool × Mem) :=
  ap (sI μ 12 (0) 22 ((0 : Int32))) fun μ1 =>
  ap (sI μ1 12 (0) 23 ((0 : Int32))) fun μ2 =>
  ap (sI μ2 12 (0) 31 ((0 : Int32))) fun μ3 =>
  ap (sI μ3 12 (0) 32 ((1 : Int32))) fun μ4 =>
  gu ((0 : Int32)) 8 <|
  ap (sI μ4 360 (0) ((0 : Int32)).toNatClampNeg (a1)) fun μ6 =>
  gu ((0 : Int32)) 8 <|
  ap (sI μ6 361 (0) ((0 : Int32)).toNatClampNeg ((0 : Int32))) fun μ8 =>
  lp_Mo_flattens_36 a1 a2 (mj_Mo_flattens_175 a1 a2) FU ((0 : Int32)) μ8
theorem t_Mo_flattens {a1 : Int32} {a2 : Int32} {μ : Mem} {q : Bool × Mem} (h : m_Mo_flattens a1 a2 μ = some q) : JM true (4) y_Mo_flattens b_Mo_flattens 6 (some (.boolean)) 0 0 [vr 12 (0), vi (a1), vi (a2)] μ (QQ (some (vi (b2i q.1))) q.2) := by
  unfold m_Mo_flattens at h
  refine JM.of pl_Mo_flattens (fun ρ => Nat.le_of_ble_eq_true rfl) ?_
  show J (GM true (QQ (some (vi (b2i q.1))) q.2) (some (.boolean)) y_Mo_flattens.name) true b_Mo_flattens R_12 6 (4) 0 0 0 [(0, vr 12 (0)), (1, vi (a1)), (2, vi (a2))] [] μ
  refine J_aload_n (q := 1) 0 d_Mo_flattens_0 rfl rfl rfl ?_
  refine J_iconst (q := 2) (v := (0 : Int32)) d_Mo_flattens_1 (by decide) rfl ?_
  refine J_putI (q := 5) (j := 22) cd_12 (by decide) rfl rfl rfl g_1073 rfl d_Mo_flattens_2 rfl ?_
  obtain ⟨μ1, hμ1, h⟩ := ap_eq h
  refine J_nmM hμ1 ?_
  refine J_aload_n (q := 6) 0 d_Mo_flattens_5 rfl rfl rfl ?_
  refine J_iconst (q := 7) (v := (0 : Int32)) d_Mo_flattens_6 (by decide) rfl ?_
  refine J_putI (q := 10) (j := 23) cd_12 (by decide) rfl rfl rfl g_1074 rfl d_Mo_flattens_7 rfl ?_
  obtain ⟨μ2, hμ2, h⟩ := ap_eq h
  refine J_nmM hμ2 ?_
  refine J_aload_n (q := 11) 0 d_Mo_flattens_10 rfl rfl rfl ?_
  refine J_iconst (q := 12) (v := (0 : Int32)) d_Mo_flattens_11 (by decide) rfl ?_
  refine J_putI (q := 15) (j := 31) cd_12 (by decide) rfl rfl rfl g_1082 rfl d_Mo_flattens_12 rfl ?_
  obtain ⟨μ3, hμ3, h⟩ := ap_eq h
  refine J_nmM hμ3 ?_
  refine J_aload_n (q := 16) 0 d_Mo_flattens_15 rfl rfl rfl ?_
  refine J_iconst (q := 17) (v := (1 : Int32)) d_Mo_flattens_16 (by decide) rfl ?_
  refine J_putZ (q := 20) (j := 32) cd_12 (by decide) rfl rfl (Or.inr rfl) rfl g_1083 rfl d_Mo_flattens_17 rfl ?_
  obtain ⟨μ4, hμ4, h⟩ := ap_eq h
  refine J_nmM hμ4 ?_
  refine J_iconst (q := 21) (v := (0 : Int32)) d_Mo_flattens_20 (by decide) rfl ?_
  refine J_istore_n (q := 22) (lv' := [(3, vi ((0 : Int32))), (0, vr 12 (0)), (1, vi (a1)), (2, vi (a2))]) d_Mo_flattens_21 rfl (by decide) rfl rfl ?_
  refine J_aload_n (q := 23) 1 d_Mo_flattens_22 rfl rfl rfl ?_
  refine J_getF (q := 26) cd_12 (by decide) ft_12_20 rfl g_1071 rfl d_Mo_flattens_23 rfl ?_
  refine J_iconst (q := 27) (v := (0 : Int32)) d_Mo_flattens_26 (by decide) rfl ?_
  refine J_iload_n (q := 28) 2 d_Mo_flattens_27 rfl rfl rfl ?_
  obtain ⟨hi5, h⟩ := gu_some h
  refine J_iast (q := 29) rk_360 (by decide) hi5 d_Mo_flattens_28 rfl ?_
  obtain ⟨μ6, hμ6, h⟩ := ap_eq h
  refine J_nmM hμ6 ?_
  refine J_aload_n (q := 30) 1 d_Mo_flattens_29 rfl rfl rfl ?_
  refine J_getF (q := 33) cd_12 (by decide) ft_12_21 rfl g_1072 rfl d_Mo_flattens_30 rfl ?_
  refine J_iconst (q := 34) (v := (0 : Int32)) d_Mo_flattens_33 (by decide) rfl ?_
  refine J_iconst (q := 35) (v := (0 : Int32)) d_Mo_flattens_34 (by decide) rfl ?_
  obtain ⟨hi7, h⟩ := gu_some h
  refine J_iast (q := 36) rk_361 (by decide) hi7 d_Mo_flattens_35 rfl ?_
  obtain ⟨μ8, hμ8, h⟩ := ap_eq h
  refine J_nmM hμ8 ?_
  refine J_pick [1, 3, 0] rfl ?_
  exact tl_Mo_flattens_36 a1 a2 (fun _ h => tj_Mo_flattens_175 a1 a2 _ h) FU _ _ h
def lp_Mo_told_10 : Nat → Int32 → Mem → Option (Mem)
  | 0, _, _ => none
  | n + 1, y1, μ =>
  if gI μ 12 (0) 22 ≤ y1 then
 (some μ)
 else
 (gu (y1) 500 <|
  gu (y1) 500 <|
  ap (sI μ 368 (0) y1.toNatClampNeg (gI μ 364 (0) y1.toNatClampNeg)) fun μ14 =>
  gu (y1) 500 <|
  gu (y1) 500 <|
  ap (sI μ14 369 (0) y1.toNatClampNeg (gI μ14 365 (0) y1.toNatClampNeg)) fun μ17 =>
  gu (y1) 500 <|
  gu (y1) 500 <|
  ap (sI μ17 370 (0) y1.toNatClampNeg (gI μ17 366 (0) y1.toNatClampNeg)) fun μ20 =>
  ap (y1 + (1 : Int32)) fun x21 =>
  lp_Mo_told_10 n (x21) μ20)
theorem tl_Mo_told_10 {q : Mem}  : ∀ (n : Nat) (y1 : Int32) (μ : Mem), lp_Mo_told_10 n y1 μ = some q → J (GM true (QQ none q) none y_Mo_told.name) true b_Mo_told R_12 2 (0) 0 0 10 [(0, vr 12 (0)), (1, vi (y1))] [] μ := by
  intro n
  induction n with
  | zero => intro _ _ h; cases h
  | succ n ih =>
    intro y1 μ h
    unfold lp_Mo_told_10 at h
    refine J_iload_n (q := 11) 1 d_Mo_told_10 rfl rfl rfl ?_
    refine J_aload_n (q := 12) 0 d_Mo_told_11 rfl rfl rfl ?_
    refine J_getI (q := 15) (j := 22) cd_12 (by decide) (Or.inl rfl) g_1073 rfl d_Mo_told_12 rfl ?_
    refine J_icmp_ge (q := 18) (tgt := 60) d_Mo_told_15 (by decide) rfl (fun hc => ?_) (fun hc => ?_)
    · rw [if_pos hc] at h
      obtain rfl := Option.some.inj h
      exact J_vret rfl ⟨rfl, rfl⟩ d_Mo_told_60
    · rw [if_neg hc] at h
      refine J_aload_n (q := 19) 0 d_Mo_told_18 rfl rfl rfl ?_
      refine J_getF (q := 22) cd_12 (by decide) ft_12_28 rfl g_1079 rfl d_Mo_told_19 rfl ?_
      refine J_iload_n (q := 23) 1 d_Mo_told_22 rfl rfl rfl ?_
      refine J_aload_n (q := 24) 0 d_Mo_told_23 rfl rfl rfl ?_
      refine J_getF (q := 27) cd_12 (by decide) ft_12_24 rfl g_1075 rfl d_Mo_told_24 rfl ?_
      refine J_iload_n (q := 28) 1 d_Mo_told_27 rfl rfl rfl ?_
      obtain ⟨hi12, h⟩ := gu_some h
      refine J_iald (q := 29) rk_364 (by decide) hi12 d_Mo_told_28 rfl ?_
      obtain ⟨hi13, h⟩ := gu_some h
      refine J_iast (q := 30) rk_368 (by decide) hi13 d_Mo_told_29 rfl ?_
      obtain ⟨μ14, hμ14, h⟩ := ap_eq h
      refine J_nmM hμ14 ?_
      refine J_aload_n (q := 31) 0 d_Mo_told_30 rfl rfl rfl ?_
      refine J_getF (q := 34) cd_12 (by decide) ft_12_29 rfl g_1080 rfl d_Mo_told_31 rfl ?_
      refine J_iload_n (q := 35) 1 d_Mo_told_34 rfl rfl rfl ?_
      refine J_aload_n (q := 36) 0 d_Mo_told_35 rfl rfl rfl ?_
      refine J_getF (q := 39) cd_12 (by decide) ft_12_25 rfl g_1076 rfl d_Mo_told_36 rfl ?_
      refine J_iload_n (q := 40) 1 d_Mo_told_39 rfl rfl rfl ?_
      obtain ⟨hi15, h⟩ := gu_some h
      refine J_iald (q := 41) rk_365 (by decide) hi15 d_Mo_told_40 rfl ?_
      obtain ⟨hi16, h⟩ := gu_some h
      refine J_iast (q := 42) rk_369 (by decide) hi16 d_Mo_told_41 rfl ?_
      obtain ⟨μ17, hμ17, h⟩ := ap_eq h
      refine J_nmM hμ17 ?_
      refine J_aload_n (q := 43) 0 d_Mo_told_42 rfl rfl rfl ?_
      refine J_getF (q := 46) cd_12 (by decide) ft_12_30 rfl g_1081 rfl d_Mo_told_43 rfl ?_
      refine J_iload_n (q := 47) 1 d_Mo_told_46 rfl rfl rfl ?_
      refine J_aload_n (q := 48) 0 d_Mo_told_47 rfl rfl rfl ?_
      refine J_getF (q := 51) cd_12 (by decide) ft_12_26 rfl g_1077 rfl d_Mo_told_48 rfl ?_
      refine J_iload_n (q := 52) 1 d_Mo_told_51 rfl rfl rfl ?_
      obtain ⟨hi18, h⟩ := gu_some h
      refine J_iald (q := 53) rk_366 (by decide) hi18 d_Mo_told_52 rfl ?_
      obtain ⟨hi19, h⟩ := gu_some h
      refine J_iast (q := 54) rk_370 (by decide) hi19 d_Mo_told_53 rfl ?_
      obtain ⟨μ20, hμ20, h⟩ := ap_eq h
      refine J_nmM hμ20 ?_
      obtain ⟨x21, hx21, h⟩ := ap_eq h
      refine J_iinc (q := 57) (v := x21) (lv' := [(1, vi (x21)), (0, vr 12 (0))]) 1 d_Mo_told_54 rfl (by rw [hx21]; rfl) (by decide) rfl rfl ?_
      refine J_goto (q := 10) d_Mo_told_57 (by decide) ?_
      refine J_pick [1, 0] rfl ?_
      exact ih _ _ h
def m_Mo_told (μ : Mem) : Option (Mem) :=
  ap (sI μ 12 (0) 27 (gI μ 12 (0) 22)) fun μ1 =>
  lp_Mo_told_10 FU ((0 : Int32)) μ1
theorem t_Mo_told {μ : Mem} {q : Mem} (h : m_Mo_told  μ = some q) : JM true (0) y_Mo_told b_Mo_told 2 none 0 0 [vr 12 (0)] μ (QQ none q) := by
  unfold m_Mo_told at h
  refine JM.of pl_Mo_told (fun ρ => Nat.le_of_ble_eq_true rfl) ?_
  show J (GM true (QQ none q) none y_Mo_told.name) true b_Mo_told R_12 2 (0) 0 0 0 [(0, vr 12 (0))] [] μ
  refine J_aload_n (q := 1) 0 d_Mo_told_0 rfl rfl rfl ?_
  refine J_aload_n (q := 2) 0 d_Mo_told_1 rfl rfl rfl ?_
  refine J_getI (q := 5) (j := 22) cd_12 (by decide) (Or.inl rfl) g_1073 rfl d_Mo_told_2 rfl ?_
  refine J_putI (q := 8) (j := 27) cd_12 (by decide) rfl rfl rfl g_1078 rfl d_Mo_told_5 rfl ?_
  obtain ⟨μ1, hμ1, h⟩ := ap_eq h
  refine J_nmM hμ1 ?_
  refine J_iconst (q := 9) (v := (0 : Int32)) d_Mo_told_8 (by decide) rfl ?_
  refine J_istore_n (q := 10) (lv' := [(1, vi ((0 : Int32))), (0, vr 12 (0))]) d_Mo_told_9 rfl (by decide) rfl rfl ?_
  refine J_pick [1, 0] rfl ?_
  exact tl_Mo_told_10 FU _ _ h
def m_Mo_flatten (a1 : Int32) (a2 : Int32) (μ : Mem) : Option (Int32 × Mem) :=
  if (m_Mo_isLetter (a1) μ) then
 (if a2 < (1 : Int32) then
 (some (((-1 : Int32), μ)))
 else
 (if (256 : Int32) < a2 then
 (some (((-1 : Int32), μ)))
 else
 (Option.bind (m_Mo_flattens (a1) (a2) μ) fun r1 =>
  ap (r1.2) fun μ2 =>
  if r1.1 then
 (Option.bind (m_Mo_told  μ2) fun r3 =>
  some ((gI r3 12 (0) 27, r3)))
 else
 (some (((-1 : Int32), μ2))))))
 else
 (some (((-1 : Int32), μ)))
theorem t_Mo_flatten {a1 : Int32} {a2 : Int32} {μ : Mem} {q : Int32 × Mem} (h : m_Mo_flatten a1 a2 μ = some q) : JM true (5) y_Mo_flatten b_Mo_flatten 3 (some (.int)) 0 0 [vr 12 (0), vi (a1), vi (a2)] μ (QQ (some (vi q.1)) q.2) := by
  unfold m_Mo_flatten at h
  refine JM.of pl_Mo_flatten (fun ρ => Nat.le_of_ble_eq_true rfl) ?_
  show J (GM true (QQ (some (vi q.1)) q.2) (some (.int)) y_Mo_flatten.name) true b_Mo_flatten R_12 3 (5) 0 0 0 [(0, vr 12 (0)), (1, vi (a1)), (2, vi (a2))] [] μ
  refine J_aload_n (q := 1) 0 d_Mo_flatten_0 rfl rfl rfl ?_
  refine J_iload_n (q := 2) 1 d_Mo_flatten_1 rfl rfl rfl ?_
  refine J_callVq (rc := 0) (rs := 0) (q := 5) (as := [vi (a1)]) (st := []) (by decide) rfl g_1287 sel_Mo_isLetter (t_Mo_isLetter rfl) (by decide) (by decide) g_1285 g_1288 g_10 hy_Mo_isLetter rfl (Nat.le_of_ble_eq_true rfl) d_Mo_flatten_2 rfl ?_
  refine J_ifB_eq (q := 8) (tgt := 29) d_Mo_flatten_5 (by decide) rfl (fun hb => ?_) (fun hb => ?_)
  · rw [iB_f hb] at h
    refine J_iconst (q := 30) (v := (-1 : Int32)) d_Mo_flatten_29 (by decide) rfl ?_
    obtain rfl := Option.some.inj h
    exact J_iret rfl ⟨rfl, rfl⟩ d_Mo_flatten_30
  · rw [iB_t hb] at h
    refine J_iload_n (q := 9) 2 d_Mo_flatten_8 rfl rfl rfl ?_
    refine J_iconst (q := 10) (v := (1 : Int32)) d_Mo_flatten_9 (by decide) rfl ?_
    refine J_icmp_lt (q := 13) (tgt := 29) d_Mo_flatten_10 (by decide) rfl (fun hc => ?_) (fun hc => ?_)
    · rw [if_pos hc] at h
      refine J_iconst (q := 30) (v := (-1 : Int32)) d_Mo_flatten_29 (by decide) rfl ?_
      obtain rfl := Option.some.inj h
      exact J_iret rfl ⟨rfl, rfl⟩ d_Mo_flatten_30
    · rw [if_neg hc] at h
      refine J_iload_n (q := 14) 2 d_Mo_flatten_13 rfl rfl rfl ?_
      refine J_sipush (q := 17) (v := (256 : Int32)) d_Mo_flatten_14 (by decide) rfl ?_
      refine J_icmp_gt (q := 20) (tgt := 29) d_Mo_flatten_17 (by decide) rfl (fun hc => ?_) (fun hc => ?_)
      · rw [if_pos hc] at h
        refine J_iconst (q := 30) (v := (-1 : Int32)) d_Mo_flatten_29 (by decide) rfl ?_
        obtain rfl := Option.some.inj h
        exact J_iret rfl ⟨rfl, rfl⟩ d_Mo_flatten_30
      · rw [if_neg hc] at h
        refine J_aload_n (q := 21) 0 d_Mo_flatten_20 rfl rfl rfl ?_
        refine J_iload_n (q := 22) 1 d_Mo_flatten_21 rfl rfl rfl ?_
        refine J_iload_n (q := 23) 2 d_Mo_flatten_22 rfl rfl rfl ?_
        obtain ⟨r1, hr1, h⟩ := bd_some h
        refine J_callVq (rc := 0) (rs := 0) (q := 26) (as := [vi (a1), vi (a2)]) (st := []) (by decide) rfl g_1362 sel_Mo_flattens (t_Mo_flattens hr1) (by decide) (by decide) g_1360 g_1363 g_10 hy_Mo_flattens rfl (Nat.le_of_ble_eq_true rfl) d_Mo_flatten_23 rfl ?_
        obtain ⟨μ2, hμ2, h⟩ := ap_eq h
        refine J_nmM hμ2 ?_
        refine J_ifB_ne (q := 29) (tgt := 31) d_Mo_flatten_26 (by decide) rfl (fun hb => ?_) (fun hb => ?_)
        · rw [iB_t hb] at h
          refine J_aload_n (q := 32) 0 d_Mo_flatten_31 rfl rfl rfl ?_
          obtain ⟨r3, hr3, h⟩ := bd_some h
          refine J_callVv (rc := 0) (rs := 0) (q := 35) (as := []) (st := []) (by decide) rfl g_1398 sel_Mo_told (t_Mo_told hr3) (by decide) (by decide) g_1396 g_1399 g_10 hy_Mo_told rfl (Nat.le_of_ble_eq_true rfl) d_Mo_flatten_32 rfl ?_
          refine J_aload_n (q := 36) 0 d_Mo_flatten_35 rfl rfl rfl ?_
          refine J_getI (q := 39) (j := 27) cd_12 (by decide) (Or.inl rfl) g_1078 rfl d_Mo_flatten_36 rfl ?_
          obtain rfl := Option.some.inj h
          exact J_iret rfl ⟨rfl, rfl⟩ d_Mo_flatten_39
        · rw [iB_f hb] at h
          refine J_iconst (q := 30) (v := (-1 : Int32)) d_Mo_flatten_29 (by decide) rfl ?_
          obtain rfl := Option.some.inj h
          exact J_iret rfl ⟨rfl, rfl⟩ d_Mo_flatten_30
def m_Mo_flat (a1 : Int32) (a2 : Int32) (μ : Mem) : Option (Int32) :=
  if a1 < 0 then
 (some ((-1000000 : Int32)))
 else
 (if a1 < gI μ 12 (0) 27 then
 (if a2 = 0 then
 (gu (a1) 500 <|
  some (gI μ 370 (0) a1.toNatClampNeg))
 else
 (if a2 = (1 : Int32) then
 (gu (a1) 500 <|
  some (gI μ 368 (0) a1.toNatClampNeg))
 else
 (if a2 = (2 : Int32) then
 (gu (a1) 500 <|
  some (gI μ 369 (0) a1.toNatClampNeg))
 else
 (some ((-1000000 : Int32))))))
 else
 (some ((-1000000 : Int32))))
theorem t_Mo_flat {a1 : Int32} {a2 : Int32} {μ : Mem} {q : Int32} (h : m_Mo_flat a1 a2 μ = some q) : JM true (0) y_Mo_flat b_Mo_flat 3 (some (.int)) 0 0 [vr 12 (0), vi (a1), vi (a2)] μ (QQ (some (vi q)) μ) := by
  unfold m_Mo_flat at h
  refine JM.of pl_Mo_flat (fun ρ => Nat.le_of_ble_eq_true rfl) ?_
  show J (GM true (QQ (some (vi q)) μ) (some (.int)) y_Mo_flat.name) true b_Mo_flat R_12 3 (0) 0 0 0 [(0, vr 12 (0)), (1, vi (a1)), (2, vi (a2))] [] μ
  refine J_iload_n (q := 1) 1 d_Mo_flat_0 rfl rfl rfl ?_
  refine J_if_lt (q := 4) (tgt := 12) d_Mo_flat_1 (by decide) rfl (fun hc => ?_) (fun hc => ?_)
  · rw [if_pos hc] at h
    refine J_ldcw (q := 15) d_Mo_flat_12 g_1404 rfl ?_
    obtain rfl := Option.some.inj h
    exact J_iret rfl ⟨rfl, rfl⟩ d_Mo_flat_15
  · rw [if_neg hc] at h
    refine J_iload_n (q := 5) 1 d_Mo_flat_4 rfl rfl rfl ?_
    refine J_aload_n (q := 6) 0 d_Mo_flat_5 rfl rfl rfl ?_
    refine J_getI (q := 9) (j := 27) cd_12 (by decide) (Or.inl rfl) g_1078 rfl d_Mo_flat_6 rfl ?_
    refine J_icmp_lt (q := 12) (tgt := 16) d_Mo_flat_9 (by decide) rfl (fun hc => ?_) (fun hc => ?_)
    · rw [if_pos hc] at h
      refine J_iload_n (q := 17) 2 d_Mo_flat_16 rfl rfl rfl ?_
      refine J_if_ne (q := 20) (tgt := 29) d_Mo_flat_17 (by decide) rfl (fun hc => ?_) (fun hc => ?_)
      · rw [if_neg hc] at h
        refine J_iload_n (q := 30) 2 d_Mo_flat_29 rfl rfl rfl ?_
        refine J_iconst (q := 31) (v := (1 : Int32)) d_Mo_flat_30 (by decide) rfl ?_
        refine J_icmp_ne (q := 34) (tgt := 43) d_Mo_flat_31 (by decide) rfl (fun hc => ?_) (fun hc => ?_)
        · rw [if_neg hc] at h
          refine J_iload_n (q := 44) 2 d_Mo_flat_43 rfl rfl rfl ?_
          refine J_iconst (q := 45) (v := (2 : Int32)) d_Mo_flat_44 (by decide) rfl ?_
          refine J_icmp_ne (q := 48) (tgt := 57) d_Mo_flat_45 (by decide) rfl (fun hc => ?_) (fun hc => ?_)
          · rw [if_neg hc] at h
            refine J_ldcw (q := 60) d_Mo_flat_57 g_1404 rfl ?_
            obtain rfl := Option.some.inj h
            exact J_iret rfl ⟨rfl, rfl⟩ d_Mo_flat_60
          · rw [if_pos hc] at h
            refine J_aload_n (q := 49) 0 d_Mo_flat_48 rfl rfl rfl ?_
            refine J_getF (q := 52) cd_12 (by decide) ft_12_29 rfl g_1080 rfl d_Mo_flat_49 rfl ?_
            refine J_iload_n (q := 53) 1 d_Mo_flat_52 rfl rfl rfl ?_
            obtain ⟨hi1, h⟩ := gu_some h
            refine J_iald (q := 54) rk_369 (by decide) hi1 d_Mo_flat_53 rfl ?_
            refine J_goto (q := 60) d_Mo_flat_54 (by decide) ?_
            obtain rfl := Option.some.inj h
            exact J_iret rfl ⟨rfl, rfl⟩ d_Mo_flat_60
        · rw [if_pos hc] at h
          refine J_aload_n (q := 35) 0 d_Mo_flat_34 rfl rfl rfl ?_
          refine J_getF (q := 38) cd_12 (by decide) ft_12_28 rfl g_1079 rfl d_Mo_flat_35 rfl ?_
          refine J_iload_n (q := 39) 1 d_Mo_flat_38 rfl rfl rfl ?_
          obtain ⟨hi2, h⟩ := gu_some h
          refine J_iald (q := 40) rk_368 (by decide) hi2 d_Mo_flat_39 rfl ?_
          refine J_goto (q := 60) d_Mo_flat_40 (by decide) ?_
          obtain rfl := Option.some.inj h
          exact J_iret rfl ⟨rfl, rfl⟩ d_Mo_flat_60
      · rw [if_pos hc] at h
        refine J_aload_n (q := 21) 0 d_Mo_flat_20 rfl rfl rfl ?_
        refine J_getF (q := 24) cd_12 (by decide) ft_12_30 rfl g_1081 rfl d_Mo_flat_21 rfl ?_
        refine J_iload_n (q := 25) 1 d_Mo_flat_24 rfl rfl rfl ?_
        obtain ⟨hi3, h⟩ := gu_some h
        refine J_iald (q := 26) rk_370 (by decide) hi3 d_Mo_flat_25 rfl ?_
        refine J_goto (q := 60) d_Mo_flat_26 (by decide) ?_
        obtain rfl := Option.some.inj h
        exact J_iret rfl ⟨rfl, rfl⟩ d_Mo_flat_60
    · rw [if_neg hc] at h
      refine J_ldcw (q := 15) d_Mo_flat_12 g_1404 rfl ?_
      obtain rfl := Option.some.inj h
      exact J_iret rfl ⟨rfl, rfl⟩ d_Mo_flat_15
def lp_Mo_next_33 (a1 : Int32) (μ : Mem) : Nat → Int32 → Option (Int32)
  | 0, _ => none
  | n + 1, y2 =>
  if y2 ≤ 0 then
 (some (y2))
 else
 (gu (y2 - (1 : Int32)) 500 <|
  gu (a1) 500 <|
  if gI μ 370 (0) (y2 - (1 : Int32)).toNatClampNeg = gI μ 370 (0) a1.toNatClampNeg then
 (ap (y2 + (-1 : Int32)) fun x6 =>
  lp_Mo_next_33 a1 μ n (x6))
 else
 (some (y2)))
theorem tl_Mo_next_33 (a1 : Int32) (μ : Mem) {q : Int32}  : ∀ (n : Nat) (y2 : Int32), lp_Mo_next_33 a1 μ n y2 = some q → J (GM true (QQ (some (vi q)) μ) (some (.int)) y_Mo_next.name) true b_Mo_next R_12 3 (0) 0 0 33 [(0, vr 12 (0)), (1, vi (a1)), (2, vi (y2))] [] μ := by
  intro n
  induction n with
  | zero => intro _ h; cases h
  | succ n ih =>
    intro y2 h
    unfold lp_Mo_next_33 at h
    refine J_iload_n (q := 34) 2 d_Mo_next_33 rfl rfl rfl ?_
    refine J_if_le (q := 37) (tgt := 60) d_Mo_next_34 (by decide) rfl (fun hc => ?_) (fun hc => ?_)
    · rw [if_pos hc] at h
      refine J_iload_n (q := 61) 2 d_Mo_next_60 rfl rfl rfl ?_
      obtain rfl := Option.some.inj h
      exact J_iret rfl ⟨rfl, rfl⟩ d_Mo_next_61
    · rw [if_neg hc] at h
      refine J_aload_n (q := 38) 0 d_Mo_next_37 rfl rfl rfl ?_
      refine J_getF (q := 41) cd_12 (by decide) ft_12_30 rfl g_1081 rfl d_Mo_next_38 rfl ?_
      refine J_iload_n (q := 42) 2 d_Mo_next_41 rfl rfl rfl ?_
      refine J_iconst (q := 43) (v := (1 : Int32)) d_Mo_next_42 (by decide) rfl ?_
      refine J_isub (q := 44) d_Mo_next_43 rfl ?_
      obtain ⟨hi4, h⟩ := gu_some h
      refine J_iald (q := 45) rk_370 (by decide) hi4 d_Mo_next_44 rfl ?_
      refine J_aload_n (q := 46) 0 d_Mo_next_45 rfl rfl rfl ?_
      refine J_getF (q := 49) cd_12 (by decide) ft_12_30 rfl g_1081 rfl d_Mo_next_46 rfl ?_
      refine J_iload_n (q := 50) 1 d_Mo_next_49 rfl rfl rfl ?_
      obtain ⟨hi5, h⟩ := gu_some h
      refine J_iald (q := 51) rk_370 (by decide) hi5 d_Mo_next_50 rfl ?_
      refine J_icmp_ne (q := 54) (tgt := 60) d_Mo_next_51 (by decide) rfl (fun hc => ?_) (fun hc => ?_)
      · rw [if_neg hc] at h
        refine J_iload_n (q := 61) 2 d_Mo_next_60 rfl rfl rfl ?_
        obtain rfl := Option.some.inj h
        exact J_iret rfl ⟨rfl, rfl⟩ d_Mo_next_61
      · rw [if_pos hc] at h
        obtain ⟨x6, hx6, h⟩ := ap_eq h
        refine J_iinc (q := 57) (v := x6) (lv' := [(2, vi (x6)), (0, vr 12 (0)), (1, vi (a1))]) 2 d_Mo_next_54 rfl (by rw [hx6]; rfl) (by decide) rfl rfl ?_
        refine J_goto (q := 33) d_Mo_next_57 (by decide) ?_
        refine J_pick [1, 2, 0] rfl ?_
        exact ih _ h
def mj_Mo_next_31 (a1 : Int32) (μ : Mem) : Option (Int32) :=
  lp_Mo_next_33 a1 μ FU (a1)
theorem tj_Mo_next_31 (a1 : Int32) (μ : Mem) {q : Int32}  (h : mj_Mo_next_31 a1 μ  = some q) : J (GM true (QQ (some (vi q)) μ) (some (.int)) y_Mo_next.name) true b_Mo_next R_12 3 (0) 0 0 31 [(0, vr 12 (0)), (1, vi (a1))] [] μ := by
  unfold mj_Mo_next_31 at h
  refine J_iload_n (q := 32) 1 d_Mo_next_31 rfl rfl rfl ?_
  refine J_istore_n (q := 33) (lv' := [(2, vi (a1)), (0, vr 12 (0)), (1, vi (a1))]) d_Mo_next_32 rfl (by decide) rfl rfl ?_
  refine J_pick [1, 2, 0] rfl ?_
  exact tl_Mo_next_33 a1 μ FU _ h
def m_Mo_next (a1 : Int32) (μ : Mem) : Option (Int32) :=
  if gI μ 12 (0) 27 ≤ a1 + (1 : Int32) then
 (mj_Mo_next_31 a1 μ )
 else
 (gu (a1 + (1 : Int32)) 500 <|
  gu (a1) 500 <|
  if gI μ 370 (0) (a1 + (1 : Int32)).toNatClampNeg = gI μ 370 (0) a1.toNatClampNeg then
 (some (a1 + (1 : Int32)))
 else
 (mj_Mo_next_31 a1 μ ))
theorem t_Mo_next {a1 : Int32} {μ : Mem} {q : Int32} (h : m_Mo_next a1 μ = some q) : JM true (0) y_Mo_next b_Mo_next 3 (some (.int)) 0 0 [vr 12 (0), vi (a1)] μ (QQ (some (vi q)) μ) := by
  unfold m_Mo_next at h
  refine JM.of pl_Mo_next (fun ρ => Nat.le_of_ble_eq_true rfl) ?_
  show J (GM true (QQ (some (vi q)) μ) (some (.int)) y_Mo_next.name) true b_Mo_next R_12 3 (0) 0 0 0 [(0, vr 12 (0)), (1, vi (a1))] [] μ
  refine J_iload_n (q := 1) 1 d_Mo_next_0 rfl rfl rfl ?_
  refine J_iconst (q := 2) (v := (1 : Int32)) d_Mo_next_1 (by decide) rfl ?_
  refine J_iadd (q := 3) d_Mo_next_2 rfl ?_
  refine J_aload_n (q := 4) 0 d_Mo_next_3 rfl rfl rfl ?_
  refine J_getI (q := 7) (j := 27) cd_12 (by decide) (Or.inl rfl) g_1078 rfl d_Mo_next_4 rfl ?_
  refine J_icmp_ge (q := 10) (tgt := 31) d_Mo_next_7 (by decide) rfl (fun hc => ?_) (fun hc => ?_)
  · rw [if_pos hc] at h
    refine J_pick [0, 1] rfl ?_
    exact tj_Mo_next_31 a1 μ h
  · rw [if_neg hc] at h
    refine J_aload_n (q := 11) 0 d_Mo_next_10 rfl rfl rfl ?_
    refine J_getF (q := 14) cd_12 (by decide) ft_12_30 rfl g_1081 rfl d_Mo_next_11 rfl ?_
    refine J_iload_n (q := 15) 1 d_Mo_next_14 rfl rfl rfl ?_
    refine J_iconst (q := 16) (v := (1 : Int32)) d_Mo_next_15 (by decide) rfl ?_
    refine J_iadd (q := 17) d_Mo_next_16 rfl ?_
    obtain ⟨hi7, h⟩ := gu_some h
    refine J_iald (q := 18) rk_370 (by decide) hi7 d_Mo_next_17 rfl ?_
    refine J_aload_n (q := 19) 0 d_Mo_next_18 rfl rfl rfl ?_
    refine J_getF (q := 22) cd_12 (by decide) ft_12_30 rfl g_1081 rfl d_Mo_next_19 rfl ?_
    refine J_iload_n (q := 23) 1 d_Mo_next_22 rfl rfl rfl ?_
    obtain ⟨hi8, h⟩ := gu_some h
    refine J_iald (q := 24) rk_370 (by decide) hi8 d_Mo_next_23 rfl ?_
    refine J_icmp_ne (q := 27) (tgt := 31) d_Mo_next_24 (by decide) rfl (fun hc => ?_) (fun hc => ?_)
    · rw [if_neg hc] at h
      refine J_pick [0, 1] rfl ?_
      exact tj_Mo_next_31 a1 μ h
    · rw [if_pos hc] at h
      refine J_iload_n (q := 28) 1 d_Mo_next_27 rfl rfl rfl ?_
      refine J_iconst (q := 29) (v := (1 : Int32)) d_Mo_next_28 (by decide) rfl ?_
      refine J_iadd (q := 30) d_Mo_next_29 rfl ?_
      obtain rfl := Option.some.inj h
      exact J_iret rfl ⟨rfl, rfl⟩ d_Mo_next_30
def lp_Mo_area_4 (μ : Mem) : Nat → Int64 → Int32 → Option (Int64)
  | 0, _, _ => none
  | n + 1, y1, y3 =>
  if gI μ 12 (0) 27 ≤ y3 then
 (some (y1))
 else
 (Option.bind (m_Mo_next (y3) μ) fun r8 =>
  gu (y3) 500 <|
  gu (r8) 500 <|
  gu (r8) 500 <|
  gu (y3) 500 <|
  ap ((y1) + ((((gI μ 368 (0) y3.toNatClampNeg).toInt64) * ((gI μ 369 (0) r8.toNatClampNeg).toInt64)) - (((gI μ 368 (0) r8.toNatClampNeg).toInt64) * ((gI μ 369 (0) y3.toNatClampNeg).toInt64)))) fun x13 =>
  ap (y3 + (1 : Int32)) fun x14 =>
  lp_Mo_area_4 μ n (x13) (x14))
theorem tl_Mo_area_4 (μ : Mem) {q : Int64}  : ∀ (n : Nat) (y1 : Int64) (y3 : Int32), lp_Mo_area_4 μ n y1 y3 = some q → J (GM true (QQ (some (vl q)) μ) (some (.long)) y_Mo_area.name) true b_Mo_area R_12 5 (1) 0 0 4 [(0, vr 12 (0)), (1, vl (y1)), (3, vi (y3))] [] μ := by
  intro n
  induction n with
  | zero => intro _ _ h; cases h
  | succ n ih =>
    intro y1 y3 h
    unfold lp_Mo_area_4 at h
    refine J_iload_n (q := 5) 2 d_Mo_area_4 rfl rfl rfl ?_
    refine J_aload_n (q := 6) 0 d_Mo_area_5 rfl rfl rfl ?_
    refine J_getI (q := 9) (j := 27) cd_12 (by decide) (Or.inl rfl) g_1078 rfl d_Mo_area_6 rfl ?_
    refine J_icmp_ge (q := 12) (tgt := 61) d_Mo_area_9 (by decide) rfl (fun hc => ?_) (fun hc => ?_)
    · rw [if_pos hc] at h
      refine J_lload_n (q := 62) 1 d_Mo_area_61 rfl rfl rfl ?_
      obtain rfl := Option.some.inj h
      exact J_lret rfl ⟨rfl, rfl⟩ d_Mo_area_62
    · rw [if_neg hc] at h
      refine J_aload_n (q := 13) 0 d_Mo_area_12 rfl rfl rfl ?_
      refine J_iload_n (q := 14) 2 d_Mo_area_13 rfl rfl rfl ?_
      obtain ⟨r8, hr8, h⟩ := bd_some h
      refine J_callVq (rc := 0) (rs := 0) (q := 17) (as := [vi (y3)]) (st := []) (by decide) rfl g_1411 sel_Mo_next (t_Mo_next hr8) (by decide) (by decide) g_1409 g_1412 g_10 hy_Mo_next rfl (Nat.le_of_ble_eq_true rfl) d_Mo_area_14 rfl ?_
      refine J_istore (q := 19) (lv' := [(4, vi (r8)), (0, vr 12 (0)), (1, vl (y1)), (3, vi (y3))]) d_Mo_area_17 (by decide) rfl rfl ?_
      refine J_lload_n (q := 20) 2 d_Mo_area_19 rfl rfl rfl ?_
      refine J_aload_n (q := 21) 1 d_Mo_area_20 rfl rfl rfl ?_
      refine J_getF (q := 24) cd_12 (by decide) ft_12_28 rfl g_1079 rfl d_Mo_area_21 rfl ?_
      refine J_iload_n (q := 25) 3 d_Mo_area_24 rfl rfl rfl ?_
      obtain ⟨hi9, h⟩ := gu_some h
      refine J_iald (q := 26) rk_368 (by decide) hi9 d_Mo_area_25 rfl ?_
      refine J_i2l (q := 27) d_Mo_area_26 rfl ?_
      refine J_aload_n (q := 28) 1 d_Mo_area_27 rfl rfl rfl ?_
      refine J_getF (q := 31) cd_12 (by decide) ft_12_29 rfl g_1080 rfl d_Mo_area_28 rfl ?_
      refine J_iload (q := 33) 0 d_Mo_area_31 rfl rfl ?_
      obtain ⟨hi10, h⟩ := gu_some h
      refine J_iald (q := 34) rk_369 (by decide) hi10 d_Mo_area_33 rfl ?_
      refine J_i2l (q := 35) d_Mo_area_34 rfl ?_
      refine J_lmul (q := 36) d_Mo_area_35 rfl ?_
      refine J_aload_n (q := 37) 1 d_Mo_area_36 rfl rfl rfl ?_
      refine J_getF (q := 40) cd_12 (by decide) ft_12_28 rfl g_1079 rfl d_Mo_area_37 rfl ?_
      refine J_iload (q := 42) 0 d_Mo_area_40 rfl rfl ?_
      obtain ⟨hi11, h⟩ := gu_some h
      refine J_iald (q := 43) rk_368 (by decide) hi11 d_Mo_area_42 rfl ?_
      refine J_i2l (q := 44) d_Mo_area_43 rfl ?_
      refine J_aload_n (q := 45) 1 d_Mo_area_44 rfl rfl rfl ?_
      refine J_getF (q := 48) cd_12 (by decide) ft_12_29 rfl g_1080 rfl d_Mo_area_45 rfl ?_
      refine J_iload_n (q := 49) 3 d_Mo_area_48 rfl rfl rfl ?_
      obtain ⟨hi12, h⟩ := gu_some h
      refine J_iald (q := 50) rk_369 (by decide) hi12 d_Mo_area_49 rfl ?_
      refine J_i2l (q := 51) d_Mo_area_50 rfl ?_
      refine J_lmul (q := 52) d_Mo_area_51 rfl ?_
      refine J_lsub (q := 53) d_Mo_area_52 rfl ?_
      refine J_ladd (q := 54) d_Mo_area_53 rfl ?_
      obtain ⟨x13, hx13, h⟩ := ap_eq h
      refine J_nmL hx13 ?_
      refine J_lstore_n (q := 55) (lv' := [(1, vl (x13)), (4, vi (r8)), (0, vr 12 (0)), (3, vi (y3))]) d_Mo_area_54 rfl (by decide) rfl rfl ?_
      obtain ⟨x14, hx14, h⟩ := ap_eq h
      refine J_iinc (q := 58) (v := x14) (lv' := [(3, vi (x14)), (1, vl (x13)), (4, vi (r8)), (0, vr 12 (0))]) 3 d_Mo_area_55 rfl (by rw [hx14]; rfl) (by decide) rfl rfl ?_
      refine J_goto (q := 4) d_Mo_area_58 (by decide) ?_
      refine J_pick [3, 1, 0] rfl ?_
      exact ih _ _ h
def m_Mo_area (μ : Mem) : Option (Int64) :=
  lp_Mo_area_4 μ FU ((0 : Int64)) ((0 : Int32))
theorem t_Mo_area {μ : Mem} {q : Int64} (h : m_Mo_area  μ = some q) : JM true (1) y_Mo_area b_Mo_area 5 (some (.long)) 0 0 [vr 12 (0)] μ (QQ (some (vl q)) μ) := by
  unfold m_Mo_area at h
  refine JM.of pl_Mo_area (fun ρ => Nat.le_of_ble_eq_true rfl) ?_
  show J (GM true (QQ (some (vl q)) μ) (some (.long)) y_Mo_area.name) true b_Mo_area R_12 5 (1) 0 0 0 [(0, vr 12 (0))] [] μ
  refine J_lconst (q := 1) (v := (0 : Int64)) d_Mo_area_0 (by decide) rfl ?_
  refine J_lstore_n (q := 2) (lv' := [(1, vl ((0 : Int64))), (0, vr 12 (0))]) d_Mo_area_1 rfl (by decide) rfl rfl ?_
  refine J_iconst (q := 3) (v := (0 : Int32)) d_Mo_area_2 (by decide) rfl ?_
  refine J_istore_n (q := 4) (lv' := [(3, vi ((0 : Int32))), (1, vl ((0 : Int64))), (0, vr 12 (0))]) d_Mo_area_3 rfl (by decide) rfl rfl ?_
  refine J_pick [2, 1, 0] rfl ?_
  exact tl_Mo_area_4 μ FU _ _ h
def mj_Mo_winding_185 (a1 : Int32) (a2 : Int32) (μ : Mem) (c_35 : Int32 → Int32 → Option (Int32)) (y3 : Int32) (y4 : Int32) : Option (Int32) :=
  ap (y4 + (1 : Int32)) fun x11 =>
  c_35 (y3) (x11)
theorem tj_Mo_winding_185 (a1 : Int32) (a2 : Int32) (μ : Mem) {q : Int32} {c_35 : Int32 → Int32 → Option (Int32)} (hc_35 : ∀ (y3 : Int32) (y4 : Int32), c_35 y3 y4 = some q → J (GM true (QQ (some (vi q)) μ) (some (.int)) y_Mo_winding.name) true b_Mo_winding R_12 16 (1) 0 0 35 [(0, vr 12 (0)), (1, vi (a1)), (2, vi (a2)), (3, vi (y3)), (4, vi (y4))] [] μ) (y3 : Int32) (y4 : Int32) (h : mj_Mo_winding_185 a1 a2 μ c_35 y3 y4 = some q) : J (GM true (QQ (some (vi q)) μ) (some (.int)) y_Mo_winding.name) true b_Mo_winding R_12 16 (1) 0 0 185 [(0, vr 12 (0)), (1, vi (a1)), (2, vi (a2)), (3, vi (y3)), (4, vi (y4))] [] μ := by
  unfold mj_Mo_winding_185 at h
  obtain ⟨x11, hx11, h⟩ := ap_eq h
  refine J_iinc (q := 188) (v := x11) (lv' := [(4, vi (x11)), (0, vr 12 (0)), (1, vi (a1)), (2, vi (a2)), (3, vi (y3))]) 4 d_Mo_winding_185 rfl (by rw [hx11]; rfl) (by decide) rfl rfl ?_
  refine J_goto (q := 35) d_Mo_winding_188 (by decide) ?_
  refine J_pick [1, 2, 3, 4, 0] rfl ?_
  exact hc_35 _ _ h
def mj_Mo_winding_159 (a1 : Int32) (a2 : Int32) (μ : Mem) (c_35 : Int32 → Int32 → Option (Int32)) (y3 : Int32) (y4 : Int32) (y8 : Int64) (y12 : Int64) (y14 : Int64) : Option (Int32) :=
  if (a2).toInt64 < y12 then
 (mj_Mo_winding_185 a1 a2 μ c_35 (y3) (y4))
 else
 (if y8 ≤ (a2).toInt64 then
 (mj_Mo_winding_185 a1 a2 μ c_35 (y3) (y4))
 else
 (if (0 : Int64) ≤ y14 then
 (mj_Mo_winding_185 a1 a2 μ c_35 (y3) (y4))
 else
 (ap (y3 + (-1 : Int32)) fun x12 =>
  mj_Mo_winding_185 a1 a2 μ c_35 (x12) (y4))))
theorem tj_Mo_winding_159 (a1 : Int32) (a2 : Int32) (μ : Mem) {q : Int32} {c_35 : Int32 → Int32 → Option (Int32)} (hc_35 : ∀ (y3 : Int32) (y4 : Int32), c_35 y3 y4 = some q → J (GM true (QQ (some (vi q)) μ) (some (.int)) y_Mo_winding.name) true b_Mo_winding R_12 16 (1) 0 0 35 [(0, vr 12 (0)), (1, vi (a1)), (2, vi (a2)), (3, vi (y3)), (4, vi (y4))] [] μ) (y3 : Int32) (y4 : Int32) (y8 : Int64) (y12 : Int64) (y14 : Int64) (h : mj_Mo_winding_159 a1 a2 μ c_35 y3 y4 y8 y12 y14 = some q) : J (GM true (QQ (some (vi q)) μ) (some (.int)) y_Mo_winding.name) true b_Mo_winding R_12 16 (1) 0 0 159 [(0, vr 12 (0)), (1, vi (a1)), (2, vi (a2)), (3, vi (y3)), (4, vi (y4)), (8, vl (y8)), (12, vl (y12)), (14, vl (y14))] [] μ := by
  unfold mj_Mo_winding_159 at h
  refine J_lload (q := 161) 6 d_Mo_winding_159 rfl rfl ?_
  refine J_iload_n (q := 162) 2 d_Mo_winding_161 rfl rfl rfl ?_
  refine J_i2l (q := 163) d_Mo_winding_162 rfl ?_
  refine J_lif_gt (q := 167) (tgt := 185) d_Mo_winding_163 d_Mo_winding_164 (by decide) rfl (fun hc => ?_) (fun hc => ?_)
  · rw [if_pos hc] at h
    refine J_pick [0, 1, 2, 3, 4] rfl ?_
    exact tj_Mo_winding_185 a1 a2 μ hc_35 _ _ h
  · rw [if_neg hc] at h
    refine J_iload_n (q := 168) 2 d_Mo_winding_167 rfl rfl rfl ?_
    refine J_i2l (q := 169) d_Mo_winding_168 rfl ?_
    refine J_lload (q := 171) 5 d_Mo_winding_169 rfl rfl ?_
    refine J_lif_ge (q := 175) (tgt := 185) d_Mo_winding_171 d_Mo_winding_172 (by decide) rfl (fun hc => ?_) (fun hc => ?_)
    · rw [if_pos hc] at h
      refine J_pick [0, 1, 2, 3, 4] rfl ?_
      exact tj_Mo_winding_185 a1 a2 μ hc_35 _ _ h
    · rw [if_neg hc] at h
      refine J_lload (q := 177) 7 d_Mo_winding_175 rfl rfl ?_
      refine J_lconst (q := 178) (v := (0 : Int64)) d_Mo_winding_177 (by decide) rfl ?_
      refine J_lif_ge (q := 182) (tgt := 185) d_Mo_winding_178 d_Mo_winding_179 (by decide) rfl (fun hc => ?_) (fun hc => ?_)
      · rw [if_pos hc] at h
        refine J_pick [0, 1, 2, 3, 4] rfl ?_
        exact tj_Mo_winding_185 a1 a2 μ hc_35 _ _ h
      · rw [if_neg hc] at h
        obtain ⟨x12, hx12, h⟩ := ap_eq h
        refine J_iinc (q := 185) (v := x12) (lv' := [(3, vi (x12)), (0, vr 12 (0)), (1, vi (a1)), (2, vi (a2)), (4, vi (y4)), (8, vl (y8)), (12, vl (y12)), (14, vl (y14))]) 3 d_Mo_winding_182 rfl (by rw [hx12]; rfl) (by decide) rfl rfl ?_
        refine J_pick [1, 2, 3, 0, 4] rfl ?_
        exact tj_Mo_winding_185 a1 a2 μ hc_35 _ _ h
def lp_Mo_winding_35 (a1 : Int32) (a2 : Int32) (μ : Mem) : Nat → Int32 → Int32 → Option (Int32)
  | 0, _, _ => none
  | n + 1, y3, y4 =>
  if gI μ 12 (0) 27 ≤ y4 then
 (some (y3))
 else
 (Option.bind (m_Mo_next (y4) μ) fun r14 =>
  gu (y4) 500 <|
  ap (((16 : Int64)) * ((gI μ 368 (0) y4.toNatClampNeg).toInt64)) fun x16 =>
  gu (y4) 500 <|
  ap (((16 : Int64)) * ((gI μ 369 (0) y4.toNatClampNeg).toInt64)) fun x18 =>
  gu (r14) 500 <|
  ap (((16 : Int64)) * ((gI μ 368 (0) r14.toNatClampNeg).toInt64)) fun x20 =>
  gu (r14) 500 <|
  ap (((16 : Int64)) * ((gI μ 369 (0) r14.toNatClampNeg).toInt64)) fun x22 =>
  ap (((x20 - x16) * (((a2).toInt64) - (x18))) - ((((a1).toInt64) - (x16)) * (x22 - x18))) fun x23 =>
  if (a2).toInt64 < x18 then
 (mj_Mo_winding_159 a1 a2 μ (lp_Mo_winding_35 a1 a2 μ n) (y3) (y4) (x18) (x22) (x23))
 else
 (if x22 ≤ (a2).toInt64 then
 (mj_Mo_winding_159 a1 a2 μ (lp_Mo_winding_35 a1 a2 μ n) (y3) (y4) (x18) (x22) (x23))
 else
 (if x23 ≤ (0 : Int64) then
 (mj_Mo_winding_159 a1 a2 μ (lp_Mo_winding_35 a1 a2 μ n) (y3) (y4) (x18) (x22) (x23))
 else
 (ap (y3 + (1 : Int32)) fun x24 =>
  mj_Mo_winding_159 a1 a2 μ (lp_Mo_winding_35 a1 a2 μ n) (x24) (y4) (x18) (x22) (x23)))))
theorem tl_Mo_winding_35 (a1 : Int32) (a2 : Int32) (μ : Mem) {q : Int32}  : ∀ (n : Nat) (y3 : Int32) (y4 : Int32), lp_Mo_winding_35 a1 a2 μ n y3 y4 = some q → J (GM true (QQ (some (vi q)) μ) (some (.int)) y_Mo_winding.name) true b_Mo_winding R_12 16 (1) 0 0 35 [(0, vr 12 (0)), (1, vi (a1)), (2, vi (a2)), (3, vi (y3)), (4, vi (y4))] [] μ := by
  intro n
  induction n with
  | zero => intro _ _ h; cases h
  | succ n ih =>
    intro y3 y4 h
    unfold lp_Mo_winding_35 at h
    refine J_iload (q := 37) 4 d_Mo_winding_35 rfl rfl ?_
    refine J_aload_n (q := 38) 0 d_Mo_winding_37 rfl rfl rfl ?_
    refine J_getI (q := 41) (j := 27) cd_12 (by decide) (Or.inl rfl) g_1078 rfl d_Mo_winding_38 rfl ?_
    refine J_icmp_ge (q := 44) (tgt := 191) d_Mo_winding_41 (by decide) rfl (fun hc => ?_) (fun hc => ?_)
    · rw [if_pos hc] at h
      refine J_iload_n (q := 192) 3 d_Mo_winding_191 rfl rfl rfl ?_
      obtain rfl := Option.some.inj h
      exact J_iret rfl ⟨rfl, rfl⟩ d_Mo_winding_192
    · rw [if_neg hc] at h
      refine J_aload_n (q := 45) 0 d_Mo_winding_44 rfl rfl rfl ?_
      refine J_iload (q := 47) 4 d_Mo_winding_45 rfl rfl ?_
      obtain ⟨r14, hr14, h⟩ := bd_some h
      refine J_callVq (rc := 0) (rs := 0) (q := 50) (as := [vi (y4)]) (st := []) (by decide) rfl g_1411 sel_Mo_next (t_Mo_next hr14) (by decide) (by decide) g_1409 g_1412 g_10 hy_Mo_next rfl (Nat.le_of_ble_eq_true rfl) d_Mo_winding_47 rfl ?_
      refine J_istore (q := 52) (lv' := [(5, vi (r14)), (0, vr 12 (0)), (1, vi (a1)), (2, vi (a2)), (3, vi (y3)), (4, vi (y4))]) d_Mo_winding_50 (by decide) rfl rfl ?_
      refine J_ldc2 (q := 55) d_Mo_winding_52 g_1419 rfl ?_
      refine J_aload_n (q := 56) 1 d_Mo_winding_55 rfl rfl rfl ?_
      refine J_getF (q := 59) cd_12 (by decide) ft_12_28 rfl g_1079 rfl d_Mo_winding_56 rfl ?_
      refine J_iload (q := 61) 5 d_Mo_winding_59 rfl rfl ?_
      obtain ⟨hi15, h⟩ := gu_some h
      refine J_iald (q := 62) rk_368 (by decide) hi15 d_Mo_winding_61 rfl ?_
      refine J_i2l (q := 63) d_Mo_winding_62 rfl ?_
      refine J_lmul (q := 64) d_Mo_winding_63 rfl ?_
      obtain ⟨x16, hx16, h⟩ := ap_eq h
      refine J_nmL hx16 ?_
      refine J_lstore (q := 66) (lv' := [(6, vl (x16)), (5, vi (r14)), (0, vr 12 (0)), (1, vi (a1)), (2, vi (a2)), (3, vi (y3)), (4, vi (y4))]) d_Mo_winding_64 (by decide) rfl rfl ?_
      refine J_ldc2 (q := 69) d_Mo_winding_66 g_1419 rfl ?_
      refine J_aload_n (q := 70) 2 d_Mo_winding_69 rfl rfl rfl ?_
      refine J_getF (q := 73) cd_12 (by decide) ft_12_29 rfl g_1080 rfl d_Mo_winding_70 rfl ?_
      refine J_iload (q := 75) 6 d_Mo_winding_73 rfl rfl ?_
      obtain ⟨hi17, h⟩ := gu_some h
      refine J_iald (q := 76) rk_369 (by decide) hi17 d_Mo_winding_75 rfl ?_
      refine J_i2l (q := 77) d_Mo_winding_76 rfl ?_
      refine J_lmul (q := 78) d_Mo_winding_77 rfl ?_
      obtain ⟨x18, hx18, h⟩ := ap_eq h
      refine J_nmL hx18 ?_
      refine J_lstore (q := 80) (lv' := [(8, vl (x18)), (6, vl (x16)), (5, vi (r14)), (0, vr 12 (0)), (1, vi (a1)), (2, vi (a2)), (3, vi (y3)), (4, vi (y4))]) d_Mo_winding_78 (by decide) rfl rfl ?_
      refine J_ldc2 (q := 83) d_Mo_winding_80 g_1419 rfl ?_
      refine J_aload_n (q := 84) 3 d_Mo_winding_83 rfl rfl rfl ?_
      refine J_getF (q := 87) cd_12 (by decide) ft_12_28 rfl g_1079 rfl d_Mo_winding_84 rfl ?_
      refine J_iload (q := 89) 2 d_Mo_winding_87 rfl rfl ?_
      obtain ⟨hi19, h⟩ := gu_some h
      refine J_iald (q := 90) rk_368 (by decide) hi19 d_Mo_winding_89 rfl ?_
      refine J_i2l (q := 91) d_Mo_winding_90 rfl ?_
      refine J_lmul (q := 92) d_Mo_winding_91 rfl ?_
      obtain ⟨x20, hx20, h⟩ := ap_eq h
      refine J_nmL hx20 ?_
      refine J_lstore (q := 94) (lv' := [(10, vl (x20)), (8, vl (x18)), (6, vl (x16)), (5, vi (r14)), (0, vr 12 (0)), (1, vi (a1)), (2, vi (a2)), (3, vi (y3)), (4, vi (y4))]) d_Mo_winding_92 (by decide) rfl rfl ?_
      refine J_ldc2 (q := 97) d_Mo_winding_94 g_1419 rfl ?_
      refine J_aload_n (q := 98) 4 d_Mo_winding_97 rfl rfl rfl ?_
      refine J_getF (q := 101) cd_12 (by decide) ft_12_29 rfl g_1080 rfl d_Mo_winding_98 rfl ?_
      refine J_iload (q := 103) 3 d_Mo_winding_101 rfl rfl ?_
      obtain ⟨hi21, h⟩ := gu_some h
      refine J_iald (q := 104) rk_369 (by decide) hi21 d_Mo_winding_103 rfl ?_
      refine J_i2l (q := 105) d_Mo_winding_104 rfl ?_
      refine J_lmul (q := 106) d_Mo_winding_105 rfl ?_
      obtain ⟨x22, hx22, h⟩ := ap_eq h
      refine J_nmL hx22 ?_
      refine J_lstore (q := 108) (lv' := [(12, vl (x22)), (10, vl (x20)), (8, vl (x18)), (6, vl (x16)), (5, vi (r14)), (0, vr 12 (0)), (1, vi (a1)), (2, vi (a2)), (3, vi (y3)), (4, vi (y4))]) d_Mo_winding_106 (by decide) rfl rfl ?_
      refine J_lload (q := 110) 1 d_Mo_winding_108 rfl rfl ?_
      refine J_lload (q := 112) 3 d_Mo_winding_110 rfl rfl ?_
      refine J_lsub (q := 113) d_Mo_winding_112 rfl ?_
      refine J_iload_n (q := 114) 7 d_Mo_winding_113 rfl rfl rfl ?_
      refine J_i2l (q := 115) d_Mo_winding_114 rfl ?_
      refine J_lload (q := 117) 2 d_Mo_winding_115 rfl rfl ?_
      refine J_lsub (q := 118) d_Mo_winding_117 rfl ?_
      refine J_lmul (q := 119) d_Mo_winding_118 rfl ?_
      refine J_iload_n (q := 120) 6 d_Mo_winding_119 rfl rfl rfl ?_
      refine J_i2l (q := 121) d_Mo_winding_120 rfl ?_
      refine J_lload (q := 123) 3 d_Mo_winding_121 rfl rfl ?_
      refine J_lsub (q := 124) d_Mo_winding_123 rfl ?_
      refine J_lload (q := 126) 0 d_Mo_winding_124 rfl rfl ?_
      refine J_lload (q := 128) 2 d_Mo_winding_126 rfl rfl ?_
      refine J_lsub (q := 129) d_Mo_winding_128 rfl ?_
      refine J_lmul (q := 130) d_Mo_winding_129 rfl ?_
      refine J_lsub (q := 131) d_Mo_winding_130 rfl ?_
      obtain ⟨x23, hx23, h⟩ := ap_eq h
      refine J_nmL hx23 ?_
      refine J_lstore (q := 133) (lv' := [(14, vl (x23)), (12, vl (x22)), (10, vl (x20)), (8, vl (x18)), (6, vl (x16)), (5, vi (r14)), (0, vr 12 (0)), (1, vi (a1)), (2, vi (a2)), (3, vi (y3)), (4, vi (y4))]) d_Mo_winding_131 (by decide) rfl rfl ?_
      refine J_lload (q := 135) 3 d_Mo_winding_133 rfl rfl ?_
      refine J_iload_n (q := 136) 8 d_Mo_winding_135 rfl rfl rfl ?_
      refine J_i2l (q := 137) d_Mo_winding_136 rfl ?_
      refine J_lif_gt (q := 141) (tgt := 159) d_Mo_winding_137 d_Mo_winding_138 (by decide) rfl (fun hc => ?_) (fun hc => ?_)
      · rw [if_pos hc] at h
        refine J_pick [6, 7, 8, 9, 10, 3, 1, 0] rfl ?_
        exact tj_Mo_winding_159 a1 a2 μ ih _ _ _ _ _ h
      · rw [if_neg hc] at h
        refine J_iload_n (q := 142) 8 d_Mo_winding_141 rfl rfl rfl ?_
        refine J_i2l (q := 143) d_Mo_winding_142 rfl ?_
        refine J_lload (q := 145) 1 d_Mo_winding_143 rfl rfl ?_
        refine J_lif_ge (q := 149) (tgt := 159) d_Mo_winding_145 d_Mo_winding_146 (by decide) rfl (fun hc => ?_) (fun hc => ?_)
        · rw [if_pos hc] at h
          refine J_pick [6, 7, 8, 9, 10, 3, 1, 0] rfl ?_
          exact tj_Mo_winding_159 a1 a2 μ ih _ _ _ _ _ h
        · rw [if_neg hc] at h
          refine J_lload (q := 151) 0 d_Mo_winding_149 rfl rfl ?_
          refine J_lconst (q := 152) (v := (0 : Int64)) d_Mo_winding_151 (by decide) rfl ?_
          refine J_lif_le (q := 156) (tgt := 159) d_Mo_winding_152 d_Mo_winding_153 (by decide) rfl (fun hc => ?_) (fun hc => ?_)
          · rw [if_pos hc] at h
            refine J_pick [6, 7, 8, 9, 10, 3, 1, 0] rfl ?_
            exact tj_Mo_winding_159 a1 a2 μ ih _ _ _ _ _ h
          · rw [if_neg hc] at h
            obtain ⟨x24, hx24, h⟩ := ap_eq h
            refine J_iinc (q := 159) (v := x24) (lv' := [(3, vi (x24)), (14, vl (x23)), (12, vl (x22)), (10, vl (x20)), (8, vl (x18)), (6, vl (x16)), (5, vi (r14)), (0, vr 12 (0)), (1, vi (a1)), (2, vi (a2)), (4, vi (y4))]) 9 d_Mo_winding_156 rfl (by rw [hx24]; rfl) (by decide) rfl rfl ?_
            refine J_pick [7, 8, 9, 0, 10, 4, 2, 1] rfl ?_
            exact tj_Mo_winding_159 a1 a2 μ ih _ _ _ _ _ h
def m_Mo_winding (a1 : Int32) (a2 : Int32) (μ : Mem) : Option (Int32) :=
  if a1 < (-2000000 : Int32) then
 (some ((0 : Int32)))
 else
 (if (2000000 : Int32) < a1 then
 (some ((0 : Int32)))
 else
 (if a2 < (-2000000 : Int32) then
 (some ((0 : Int32)))
 else
 (if a2 ≤ (2000000 : Int32) then
 (lp_Mo_winding_35 a1 a2 μ FU ((0 : Int32)) ((0 : Int32)))
 else
 (some ((0 : Int32))))))
theorem t_Mo_winding {a1 : Int32} {a2 : Int32} {μ : Mem} {q : Int32} (h : m_Mo_winding a1 a2 μ = some q) : JM true (1) y_Mo_winding b_Mo_winding 16 (some (.int)) 0 0 [vr 12 (0), vi (a1), vi (a2)] μ (QQ (some (vi q)) μ) := by
  unfold m_Mo_winding at h
  refine JM.of pl_Mo_winding (fun ρ => Nat.le_of_ble_eq_true rfl) ?_
  show J (GM true (QQ (some (vi q)) μ) (some (.int)) y_Mo_winding.name) true b_Mo_winding R_12 16 (1) 0 0 0 [(0, vr 12 (0)), (1, vi (a1)), (2, vi (a2))] [] μ
  refine J_iload_n (q := 1) 1 d_Mo_winding_0 rfl rfl rfl ?_
  refine J_ldcw (q := 4) d_Mo_winding_1 g_1417 rfl ?_
  refine J_icmp_lt (q := 7) (tgt := 28) d_Mo_winding_4 (by decide) rfl (fun hc => ?_) (fun hc => ?_)
  · rw [if_pos hc] at h
    refine J_iconst (q := 29) (v := (0 : Int32)) d_Mo_winding_28 (by decide) rfl ?_
    obtain rfl := Option.some.inj h
    exact J_iret rfl ⟨rfl, rfl⟩ d_Mo_winding_29
  · rw [if_neg hc] at h
    refine J_iload_n (q := 8) 1 d_Mo_winding_7 rfl rfl rfl ?_
    refine J_ldcw (q := 11) d_Mo_winding_8 g_1418 rfl ?_
    refine J_icmp_gt (q := 14) (tgt := 28) d_Mo_winding_11 (by decide) rfl (fun hc => ?_) (fun hc => ?_)
    · rw [if_pos hc] at h
      refine J_iconst (q := 29) (v := (0 : Int32)) d_Mo_winding_28 (by decide) rfl ?_
      obtain rfl := Option.some.inj h
      exact J_iret rfl ⟨rfl, rfl⟩ d_Mo_winding_29
    · rw [if_neg hc] at h
      refine J_iload_n (q := 15) 2 d_Mo_winding_14 rfl rfl rfl ?_
      refine J_ldcw (q := 18) d_Mo_winding_15 g_1417 rfl ?_
      refine J_icmp_lt (q := 21) (tgt := 28) d_Mo_winding_18 (by decide) rfl (fun hc => ?_) (fun hc => ?_)
      · rw [if_pos hc] at h
        refine J_iconst (q := 29) (v := (0 : Int32)) d_Mo_winding_28 (by decide) rfl ?_
        obtain rfl := Option.some.inj h
        exact J_iret rfl ⟨rfl, rfl⟩ d_Mo_winding_29
      · rw [if_neg hc] at h
        refine J_iload_n (q := 22) 2 d_Mo_winding_21 rfl rfl rfl ?_
        refine J_ldcw (q := 25) d_Mo_winding_22 g_1418 rfl ?_
        refine J_icmp_le (q := 28) (tgt := 30) d_Mo_winding_25 (by decide) rfl (fun hc => ?_) (fun hc => ?_)
        · rw [if_pos hc] at h
          refine J_iconst (q := 31) (v := (0 : Int32)) d_Mo_winding_30 (by decide) rfl ?_
          refine J_istore_n (q := 32) (lv' := [(3, vi ((0 : Int32))), (0, vr 12 (0)), (1, vi (a1)), (2, vi (a2))]) d_Mo_winding_31 rfl (by decide) rfl rfl ?_
          refine J_iconst (q := 33) (v := (0 : Int32)) d_Mo_winding_32 (by decide) rfl ?_
          refine J_istore (q := 35) (lv' := [(4, vi ((0 : Int32))), (3, vi ((0 : Int32))), (0, vr 12 (0)), (1, vi (a1)), (2, vi (a2))]) d_Mo_winding_33 (by decide) rfl rfl ?_
          refine J_pick [2, 3, 4, 1, 0] rfl ?_
          exact tl_Mo_winding_35 a1 a2 μ FU _ _ h
        · rw [if_neg hc] at h
          refine J_iconst (q := 29) (v := (0 : Int32)) d_Mo_winding_28 (by decide) rfl ?_
          obtain rfl := Option.some.inj h
          exact J_iret rfl ⟨rfl, rfl⟩ d_Mo_winding_29
def m_Mo_signOf (a1 : Int64) (μ : Mem) : Int32 :=
  if a1 ≤ (0 : Int64) then
 (if (0 : Int64) ≤ a1 then
 ((0 : Int32))
 else
 ((-1 : Int32)))
 else
 ((1 : Int32))
theorem t_Mo_signOf {a1 : Int64} {μ : Mem} {q : Int32} (h : m_Mo_signOf a1 μ = q) : JM true (0) y_Mo_signOf b_Mo_signOf 2 (some (.int)) 0 0 [vl (a1)] μ (QQ (some (vi q)) μ) := by
  unfold m_Mo_signOf at h
  refine JM.of pl_Mo_signOf (fun ρ => Nat.le_of_ble_eq_true rfl) ?_
  show J (GM true (QQ (some (vi q)) μ) (some (.int)) y_Mo_signOf.name) true b_Mo_signOf R_12 2 (0) 0 0 0 [(0, vl (a1))] [] μ
  refine J_lload_n (q := 1) 0 d_Mo_signOf_0 rfl rfl rfl ?_
  refine J_lconst (q := 2) (v := (0 : Int64)) d_Mo_signOf_1 (by decide) rfl ?_
  refine J_lif_le (q := 6) (tgt := 10) d_Mo_signOf_2 d_Mo_signOf_3 (by decide) rfl (fun hc => ?_) (fun hc => ?_)
  · rw [if_pos hc] at h
    refine J_lload_n (q := 11) 0 d_Mo_signOf_10 rfl rfl rfl ?_
    refine J_lconst (q := 12) (v := (0 : Int64)) d_Mo_signOf_11 (by decide) rfl ?_
    refine J_lif_ge (q := 16) (tgt := 20) d_Mo_signOf_12 d_Mo_signOf_13 (by decide) rfl (fun hc => ?_) (fun hc => ?_)
    · rw [if_pos hc] at h
      refine J_iconst (q := 21) (v := (0 : Int32)) d_Mo_signOf_20 (by decide) rfl ?_
      subst h
      exact J_iret rfl ⟨rfl, rfl⟩ d_Mo_signOf_21
    · rw [if_neg hc] at h
      refine J_iconst (q := 17) (v := (-1 : Int32)) d_Mo_signOf_16 (by decide) rfl ?_
      refine J_goto (q := 21) d_Mo_signOf_17 (by decide) ?_
      subst h
      exact J_iret rfl ⟨rfl, rfl⟩ d_Mo_signOf_21
  · rw [if_neg hc] at h
    refine J_iconst (q := 7) (v := (1 : Int32)) d_Mo_signOf_6 (by decide) rfl ?_
    refine J_goto (q := 21) d_Mo_signOf_7 (by decide) ?_
    subst h
    exact J_iret rfl ⟨rfl, rfl⟩ d_Mo_signOf_21
def m_Mo_sideOf (a1 : Int32) (a2 : Int32) (a3 : Int32) (μ : Mem) : Option (Int32) :=
  gu (a2) 500 <|
  gu (a1) 500 <|
  gu (a3) 500 <|
  gu (a1) 500 <|
  gu (a2) 500 <|
  gu (a1) 500 <|
  gu (a3) 500 <|
  gu (a1) 500 <|
  some ((m_Mo_signOf (((((gI μ 368 (0) a2.toNatClampNeg) - (gI μ 368 (0) a1.toNatClampNeg)).toInt64) * (((gI μ 369 (0) a3.toNatClampNeg) - (gI μ 369 (0) a1.toNatClampNeg)).toInt64)) - ((((gI μ 369 (0) a2.toNatClampNeg) - (gI μ 369 (0) a1.toNatClampNeg)).toInt64) * (((gI μ 368 (0) a3.toNatClampNeg) - (gI μ 368 (0) a1.toNatClampNeg)).toInt64))) μ))
theorem t_Mo_sideOf {a1 : Int32} {a2 : Int32} {a3 : Int32} {μ : Mem} {q : Int32} (h : m_Mo_sideOf a1 a2 a3 μ = some q) : JM true (1) y_Mo_sideOf b_Mo_sideOf 4 (some (.int)) 0 0 [vr 12 (0), vi (a1), vi (a2), vi (a3)] μ (QQ (some (vi q)) μ) := by
  unfold m_Mo_sideOf at h
  refine JM.of pl_Mo_sideOf (fun ρ => Nat.le_of_ble_eq_true rfl) ?_
  show J (GM true (QQ (some (vi q)) μ) (some (.int)) y_Mo_sideOf.name) true b_Mo_sideOf R_12 4 (1) 0 0 0 [(0, vr 12 (0)), (1, vi (a1)), (2, vi (a2)), (3, vi (a3))] [] μ
  refine J_aload_n (q := 1) 0 d_Mo_sideOf_0 rfl rfl rfl ?_
  refine J_getF (q := 4) cd_12 (by decide) ft_12_28 rfl g_1079 rfl d_Mo_sideOf_1 rfl ?_
  refine J_iload_n (q := 5) 2 d_Mo_sideOf_4 rfl rfl rfl ?_
  obtain ⟨hi1, h⟩ := gu_some h
  refine J_iald (q := 6) rk_368 (by decide) hi1 d_Mo_sideOf_5 rfl ?_
  refine J_aload_n (q := 7) 0 d_Mo_sideOf_6 rfl rfl rfl ?_
  refine J_getF (q := 10) cd_12 (by decide) ft_12_28 rfl g_1079 rfl d_Mo_sideOf_7 rfl ?_
  refine J_iload_n (q := 11) 1 d_Mo_sideOf_10 rfl rfl rfl ?_
  obtain ⟨hi2, h⟩ := gu_some h
  refine J_iald (q := 12) rk_368 (by decide) hi2 d_Mo_sideOf_11 rfl ?_
  refine J_isub (q := 13) d_Mo_sideOf_12 rfl ?_
  refine J_i2l (q := 14) d_Mo_sideOf_13 rfl ?_
  refine J_aload_n (q := 15) 0 d_Mo_sideOf_14 rfl rfl rfl ?_
  refine J_getF (q := 18) cd_12 (by decide) ft_12_29 rfl g_1080 rfl d_Mo_sideOf_15 rfl ?_
  refine J_iload_n (q := 19) 3 d_Mo_sideOf_18 rfl rfl rfl ?_
  obtain ⟨hi3, h⟩ := gu_some h
  refine J_iald (q := 20) rk_369 (by decide) hi3 d_Mo_sideOf_19 rfl ?_
  refine J_aload_n (q := 21) 0 d_Mo_sideOf_20 rfl rfl rfl ?_
  refine J_getF (q := 24) cd_12 (by decide) ft_12_29 rfl g_1080 rfl d_Mo_sideOf_21 rfl ?_
  refine J_iload_n (q := 25) 1 d_Mo_sideOf_24 rfl rfl rfl ?_
  obtain ⟨hi4, h⟩ := gu_some h
  refine J_iald (q := 26) rk_369 (by decide) hi4 d_Mo_sideOf_25 rfl ?_
  refine J_isub (q := 27) d_Mo_sideOf_26 rfl ?_
  refine J_i2l (q := 28) d_Mo_sideOf_27 rfl ?_
  refine J_lmul (q := 29) d_Mo_sideOf_28 rfl ?_
  refine J_aload_n (q := 30) 0 d_Mo_sideOf_29 rfl rfl rfl ?_
  refine J_getF (q := 33) cd_12 (by decide) ft_12_29 rfl g_1080 rfl d_Mo_sideOf_30 rfl ?_
  refine J_iload_n (q := 34) 2 d_Mo_sideOf_33 rfl rfl rfl ?_
  obtain ⟨hi5, h⟩ := gu_some h
  refine J_iald (q := 35) rk_369 (by decide) hi5 d_Mo_sideOf_34 rfl ?_
  refine J_aload_n (q := 36) 0 d_Mo_sideOf_35 rfl rfl rfl ?_
  refine J_getF (q := 39) cd_12 (by decide) ft_12_29 rfl g_1080 rfl d_Mo_sideOf_36 rfl ?_
  refine J_iload_n (q := 40) 1 d_Mo_sideOf_39 rfl rfl rfl ?_
  obtain ⟨hi6, h⟩ := gu_some h
  refine J_iald (q := 41) rk_369 (by decide) hi6 d_Mo_sideOf_40 rfl ?_
  refine J_isub (q := 42) d_Mo_sideOf_41 rfl ?_
  refine J_i2l (q := 43) d_Mo_sideOf_42 rfl ?_
  refine J_aload_n (q := 44) 0 d_Mo_sideOf_43 rfl rfl rfl ?_
  refine J_getF (q := 47) cd_12 (by decide) ft_12_28 rfl g_1079 rfl d_Mo_sideOf_44 rfl ?_
  refine J_iload_n (q := 48) 3 d_Mo_sideOf_47 rfl rfl rfl ?_
  obtain ⟨hi7, h⟩ := gu_some h
  refine J_iald (q := 49) rk_368 (by decide) hi7 d_Mo_sideOf_48 rfl ?_
  refine J_aload_n (q := 50) 0 d_Mo_sideOf_49 rfl rfl rfl ?_
  refine J_getF (q := 53) cd_12 (by decide) ft_12_28 rfl g_1079 rfl d_Mo_sideOf_50 rfl ?_
  refine J_iload_n (q := 54) 1 d_Mo_sideOf_53 rfl rfl rfl ?_
  obtain ⟨hi8, h⟩ := gu_some h
  refine J_iald (q := 55) rk_368 (by decide) hi8 d_Mo_sideOf_54 rfl ?_
  refine J_isub (q := 56) d_Mo_sideOf_55 rfl ?_
  refine J_i2l (q := 57) d_Mo_sideOf_56 rfl ?_
  refine J_lmul (q := 58) d_Mo_sideOf_57 rfl ?_
  refine J_lsub (q := 59) d_Mo_sideOf_58 rfl ?_
  refine J_callSq (rc := 0) (rs := 0) (q := 62) (as := [vl (((((gI μ 368 (0) a2.toNatClampNeg) - (gI μ 368 (0) a1.toNatClampNeg)).toInt64) * (((gI μ 369 (0) a3.toNatClampNeg) - (gI μ 369 (0) a1.toNatClampNeg)).toInt64)) - ((((gI μ 369 (0) a2.toNatClampNeg) - (gI μ 369 (0) a1.toNatClampNeg)).toInt64) * (((gI μ 368 (0) a3.toNatClampNeg) - (gI μ 368 (0) a1.toNatClampNeg)).toInt64)))]) (st := []) g_1429 (t_Mo_signOf rfl) (by decide) (by decide) g_1428 g_1430 g_10 hy_Mo_signOf rfl (Nat.le_of_ble_eq_true rfl) d_Mo_sideOf_59 rfl ?_
  obtain rfl := Option.some.inj h
  exact J_iret rfl ⟨rfl, rfl⟩ d_Mo_sideOf_62
def mj_Mo_crossings_83 (μ : Mem) (c_16 : Int32 → Int32 → Int32 → Option (Int32)) (y1 : Int32) (y2 : Int32) (y3 : Int32) : Option (Int32) :=
  ap (y3 + (1 : Int32)) fun x6 =>
  c_16 (y1) (y2) (x6)
theorem tj_Mo_crossings_83 (μ : Mem) {q : Int32} {c_16 : Int32 → Int32 → Int32 → Option (Int32)} (hc_16 : ∀ (y1 : Int32) (y2 : Int32) (y3 : Int32), c_16 y1 y2 y3 = some q → J (GM true (QQ (some (vi q)) μ) (some (.int)) y_Mo_crossings.name) true b_Mo_crossings R_12 6 (2) 0 0 16 [(0, vr 12 (0)), (1, vi (y1)), (2, vi (y2)), (3, vi (y3))] [] μ) (y1 : Int32) (y2 : Int32) (y3 : Int32) (h : mj_Mo_crossings_83 μ c_16 y1 y2 y3 = some q) : J (GM true (QQ (some (vi q)) μ) (some (.int)) y_Mo_crossings.name) true b_Mo_crossings R_12 6 (2) 0 0 83 [(0, vr 12 (0)), (1, vi (y1)), (2, vi (y2)), (3, vi (y3))] [] μ := by
  unfold mj_Mo_crossings_83 at h
  obtain ⟨x6, hx6, h⟩ := ap_eq h
  refine J_iinc (q := 86) (v := x6) (lv' := [(3, vi (x6)), (0, vr 12 (0)), (1, vi (y1)), (2, vi (y2))]) 3 d_Mo_crossings_83 rfl (by rw [hx6]; rfl) (by decide) rfl rfl ?_
  refine J_goto (q := 16) d_Mo_crossings_86 (by decide) ?_
  refine J_pick [1, 2, 3, 0] rfl ?_
  exact hc_16 _ _ _ h
def lp_Mo_crossings_16 (μ : Mem) (c_89 : Int32 → Int32 → Option (Int32)) : Nat → Int32 → Int32 → Int32 → Option (Int32)
  | 0, _, _, _ => none
  | n + 1, y1, y2, y3 =>
  if gI μ 12 (0) 27 ≤ y3 then
 (c_89 (y1) (y2))
 else
 (Option.bind (m_Mo_next (y2) μ) fun r10 =>
  Option.bind (m_Mo_next (y3) μ) fun r11 =>
  Option.bind (m_Mo_sideOf (y2) (r10) (y3) μ) fun r12 =>
  Option.bind (m_Mo_sideOf (y2) (r10) (r11) μ) fun r13 =>
  if 0 ≤ r12 * r13 then
 (mj_Mo_crossings_83 μ (lp_Mo_crossings_16 μ c_89 n) (y1) (y2) (y3))
 else
 (Option.bind (m_Mo_sideOf (y3) (r11) (y2) μ) fun r14 =>
  Option.bind (m_Mo_sideOf (y3) (r11) (r10) μ) fun r15 =>
  if 0 ≤ r14 * r15 then
 (mj_Mo_crossings_83 μ (lp_Mo_crossings_16 μ c_89 n) (y1) (y2) (y3))
 else
 (ap (y1 + (1 : Int32)) fun x16 =>
  mj_Mo_crossings_83 μ (lp_Mo_crossings_16 μ c_89 n) (x16) (y2) (y3))))
theorem tl_Mo_crossings_16 (μ : Mem) {q : Int32} {c_89 : Int32 → Int32 → Option (Int32)} (hc_89 : ∀ (y1 : Int32) (y2 : Int32), c_89 y1 y2 = some q → J (GM true (QQ (some (vi q)) μ) (some (.int)) y_Mo_crossings.name) true b_Mo_crossings R_12 6 (2) 0 0 89 [(0, vr 12 (0)), (1, vi (y1)), (2, vi (y2))] [] μ) : ∀ (n : Nat) (y1 : Int32) (y2 : Int32) (y3 : Int32), lp_Mo_crossings_16 μ c_89 n y1 y2 y3 = some q → J (GM true (QQ (some (vi q)) μ) (some (.int)) y_Mo_crossings.name) true b_Mo_crossings R_12 6 (2) 0 0 16 [(0, vr 12 (0)), (1, vi (y1)), (2, vi (y2)), (3, vi (y3))] [] μ := by
  intro n
  induction n with
  | zero => intro _ _ _ h; cases h
  | succ n ih =>
    intro y1 y2 y3 h
    unfold lp_Mo_crossings_16 at h
    refine J_iload_n (q := 17) 3 d_Mo_crossings_16 rfl rfl rfl ?_
    refine J_aload_n (q := 18) 0 d_Mo_crossings_17 rfl rfl rfl ?_
    refine J_getI (q := 21) (j := 27) cd_12 (by decide) (Or.inl rfl) g_1078 rfl d_Mo_crossings_18 rfl ?_
    refine J_icmp_ge (q := 24) (tgt := 89) d_Mo_crossings_21 (by decide) rfl (fun hc => ?_) (fun hc => ?_)
    · rw [if_pos hc] at h
      refine J_pick [0, 1, 2] rfl ?_
      exact hc_89 _ _ h
    · rw [if_neg hc] at h
      refine J_aload_n (q := 25) 0 d_Mo_crossings_24 rfl rfl rfl ?_
      refine J_iload_n (q := 26) 2 d_Mo_crossings_25 rfl rfl rfl ?_
      obtain ⟨r10, hr10, h⟩ := bd_some h
      refine J_callVq (rc := 0) (rs := 0) (q := 29) (as := [vi (y2)]) (st := []) (by decide) rfl g_1411 sel_Mo_next (t_Mo_next hr10) (by decide) (by decide) g_1409 g_1412 g_10 hy_Mo_next rfl (Nat.le_of_ble_eq_true rfl) d_Mo_crossings_26 rfl ?_
      refine J_istore (q := 31) (lv' := [(4, vi (r10)), (0, vr 12 (0)), (1, vi (y1)), (2, vi (y2)), (3, vi (y3))]) d_Mo_crossings_29 (by decide) rfl rfl ?_
      refine J_aload_n (q := 32) 1 d_Mo_crossings_31 rfl rfl rfl ?_
      refine J_iload_n (q := 33) 4 d_Mo_crossings_32 rfl rfl rfl ?_
      obtain ⟨r11, hr11, h⟩ := bd_some h
      refine J_callVq (rc := 0) (rs := 0) (q := 36) (as := [vi (y3)]) (st := []) (by decide) rfl g_1411 sel_Mo_next (t_Mo_next hr11) (by decide) (by decide) g_1409 g_1412 g_10 hy_Mo_next rfl (Nat.le_of_ble_eq_true rfl) d_Mo_crossings_33 rfl ?_
      refine J_istore (q := 38) (lv' := [(5, vi (r11)), (4, vi (r10)), (0, vr 12 (0)), (1, vi (y1)), (2, vi (y2)), (3, vi (y3))]) d_Mo_crossings_36 (by decide) rfl rfl ?_
      refine J_aload_n (q := 39) 2 d_Mo_crossings_38 rfl rfl rfl ?_
      refine J_iload_n (q := 40) 4 d_Mo_crossings_39 rfl rfl rfl ?_
      refine J_iload (q := 42) 1 d_Mo_crossings_40 rfl rfl ?_
      refine J_iload_n (q := 43) 5 d_Mo_crossings_42 rfl rfl rfl ?_
      obtain ⟨r12, hr12, h⟩ := bd_some h
      refine J_callVq (rc := 0) (rs := 0) (q := 46) (as := [vi (y2), vi (r10), vi (y3)]) (st := []) (by decide) rfl g_1426 sel_Mo_sideOf (t_Mo_sideOf hr12) (by decide) (by decide) g_1424 g_1427 g_10 hy_Mo_sideOf rfl (Nat.le_of_ble_eq_true rfl) d_Mo_crossings_43 rfl ?_
      refine J_aload_n (q := 47) 2 d_Mo_crossings_46 rfl rfl rfl ?_
      refine J_iload_n (q := 48) 4 d_Mo_crossings_47 rfl rfl rfl ?_
      refine J_iload (q := 50) 1 d_Mo_crossings_48 rfl rfl ?_
      refine J_iload (q := 52) 0 d_Mo_crossings_50 rfl rfl ?_
      obtain ⟨r13, hr13, h⟩ := bd_some h
      refine J_callVq (rc := 0) (rs := 0) (q := 55) (as := [vi (y2), vi (r10), vi (r11)]) (st := [vi (r12)]) (by decide) rfl g_1426 sel_Mo_sideOf (t_Mo_sideOf hr13) (by decide) (by decide) g_1424 g_1427 g_10 hy_Mo_sideOf rfl (Nat.le_of_ble_eq_true rfl) d_Mo_crossings_52 rfl ?_
      refine J_imul (q := 56) d_Mo_crossings_55 rfl ?_
      refine J_if_ge (q := 59) (tgt := 83) d_Mo_crossings_56 (by decide) rfl (fun hc => ?_) (fun hc => ?_)
      · rw [if_pos hc] at h
        refine J_pick [2, 3, 4, 5] rfl ?_
        exact tj_Mo_crossings_83 μ ih _ _ _ h
      · rw [if_neg hc] at h
        refine J_aload_n (q := 60) 2 d_Mo_crossings_59 rfl rfl rfl ?_
        refine J_iload_n (q := 61) 5 d_Mo_crossings_60 rfl rfl rfl ?_
        refine J_iload (q := 63) 0 d_Mo_crossings_61 rfl rfl ?_
        refine J_iload_n (q := 64) 4 d_Mo_crossings_63 rfl rfl rfl ?_
        obtain ⟨r14, hr14, h⟩ := bd_some h
        refine J_callVq (rc := 0) (rs := 0) (q := 67) (as := [vi (y3), vi (r11), vi (y2)]) (st := []) (by decide) rfl g_1426 sel_Mo_sideOf (t_Mo_sideOf hr14) (by decide) (by decide) g_1424 g_1427 g_10 hy_Mo_sideOf rfl (Nat.le_of_ble_eq_true rfl) d_Mo_crossings_64 rfl ?_
        refine J_aload_n (q := 68) 2 d_Mo_crossings_67 rfl rfl rfl ?_
        refine J_iload_n (q := 69) 5 d_Mo_crossings_68 rfl rfl rfl ?_
        refine J_iload (q := 71) 0 d_Mo_crossings_69 rfl rfl ?_
        refine J_iload (q := 73) 1 d_Mo_crossings_71 rfl rfl ?_
        obtain ⟨r15, hr15, h⟩ := bd_some h
        refine J_callVq (rc := 0) (rs := 0) (q := 76) (as := [vi (y3), vi (r11), vi (r10)]) (st := [vi (r14)]) (by decide) rfl g_1426 sel_Mo_sideOf (t_Mo_sideOf hr15) (by decide) (by decide) g_1424 g_1427 g_10 hy_Mo_sideOf rfl (Nat.le_of_ble_eq_true rfl) d_Mo_crossings_73 rfl ?_
        refine J_imul (q := 77) d_Mo_crossings_76 rfl ?_
        refine J_if_ge (q := 80) (tgt := 83) d_Mo_crossings_77 (by decide) rfl (fun hc => ?_) (fun hc => ?_)
        · rw [if_pos hc] at h
          refine J_pick [2, 3, 4, 5] rfl ?_
          exact tj_Mo_crossings_83 μ ih _ _ _ h
        · rw [if_neg hc] at h
          obtain ⟨x16, hx16, h⟩ := ap_eq h
          refine J_iinc (q := 83) (v := x16) (lv' := [(1, vi (x16)), (5, vi (r11)), (4, vi (r10)), (0, vr 12 (0)), (2, vi (y2)), (3, vi (y3))]) 3 d_Mo_crossings_80 rfl (by rw [hx16]; rfl) (by decide) rfl rfl ?_
          refine J_pick [3, 0, 4, 5] rfl ?_
          exact tj_Mo_crossings_83 μ ih _ _ _ h
def mj_Mo_crossings_89 (μ : Mem) (c_4 : Int32 → Int32 → Option (Int32)) (y1 : Int32) (y2 : Int32) : Option (Int32) :=
  ap (y2 + (1 : Int32)) fun x17 =>
  c_4 (y1) (x17)
theorem tj_Mo_crossings_89 (μ : Mem) {q : Int32} {c_4 : Int32 → Int32 → Option (Int32)} (hc_4 : ∀ (y1 : Int32) (y2 : Int32), c_4 y1 y2 = some q → J (GM true (QQ (some (vi q)) μ) (some (.int)) y_Mo_crossings.name) true b_Mo_crossings R_12 6 (2) 0 0 4 [(0, vr 12 (0)), (1, vi (y1)), (2, vi (y2))] [] μ) (y1 : Int32) (y2 : Int32) (h : mj_Mo_crossings_89 μ c_4 y1 y2 = some q) : J (GM true (QQ (some (vi q)) μ) (some (.int)) y_Mo_crossings.name) true b_Mo_crossings R_12 6 (2) 0 0 89 [(0, vr 12 (0)), (1, vi (y1)), (2, vi (y2))] [] μ := by
  unfold mj_Mo_crossings_89 at h
  obtain ⟨x17, hx17, h⟩ := ap_eq h
  refine J_iinc (q := 92) (v := x17) (lv' := [(2, vi (x17)), (0, vr 12 (0)), (1, vi (y1))]) 2 d_Mo_crossings_89 rfl (by rw [hx17]; rfl) (by decide) rfl rfl ?_
  refine J_goto (q := 4) d_Mo_crossings_92 (by decide) ?_
  refine J_pick [1, 2, 0] rfl ?_
  exact hc_4 _ _ h
def lp_Mo_crossings_4 (μ : Mem) : Nat → Int32 → Int32 → Option (Int32)
  | 0, _, _ => none
  | n + 1, y1, y2 =>
  if gI μ 12 (0) 27 ≤ y2 then
 (some (y1))
 else
 (ap (y2 + (1 : Int32)) fun x18 =>
  lp_Mo_crossings_16 μ (mj_Mo_crossings_89 μ (lp_Mo_crossings_4 μ n)) FU (y1) (y2) (x18))
theorem tl_Mo_crossings_4 (μ : Mem) {q : Int32}  : ∀ (n : Nat) (y1 : Int32) (y2 : Int32), lp_Mo_crossings_4 μ n y1 y2 = some q → J (GM true (QQ (some (vi q)) μ) (some (.int)) y_Mo_crossings.name) true b_Mo_crossings R_12 6 (2) 0 0 4 [(0, vr 12 (0)), (1, vi (y1)), (2, vi (y2))] [] μ := by
  intro n
  induction n with
  | zero => intro _ _ h; cases h
  | succ n ih =>
    intro y1 y2 h
    unfold lp_Mo_crossings_4 at h
    refine J_iload_n (q := 5) 2 d_Mo_crossings_4 rfl rfl rfl ?_
    refine J_aload_n (q := 6) 0 d_Mo_crossings_5 rfl rfl rfl ?_
    refine J_getI (q := 9) (j := 27) cd_12 (by decide) (Or.inl rfl) g_1078 rfl d_Mo_crossings_6 rfl ?_
    refine J_icmp_ge (q := 12) (tgt := 95) d_Mo_crossings_9 (by decide) rfl (fun hc => ?_) (fun hc => ?_)
    · rw [if_pos hc] at h
      refine J_iload_n (q := 96) 1 d_Mo_crossings_95 rfl rfl rfl ?_
      obtain rfl := Option.some.inj h
      exact J_iret rfl ⟨rfl, rfl⟩ d_Mo_crossings_96
    · rw [if_neg hc] at h
      refine J_iload_n (q := 13) 2 d_Mo_crossings_12 rfl rfl rfl ?_
      refine J_iconst (q := 14) (v := (1 : Int32)) d_Mo_crossings_13 (by decide) rfl ?_
      refine J_iadd (q := 15) d_Mo_crossings_14 rfl ?_
      obtain ⟨x18, hx18, h⟩ := ap_eq h
      refine J_nmI hx18 ?_
      refine J_istore_n (q := 16) (lv' := [(3, vi (x18)), (0, vr 12 (0)), (1, vi (y1)), (2, vi (y2))]) d_Mo_crossings_15 rfl (by decide) rfl rfl ?_
      refine J_pick [1, 2, 3, 0] rfl ?_
      exact tl_Mo_crossings_16 μ (fun _ _ h => tj_Mo_crossings_89 μ ih _ _ h) FU _ _ _ h
def m_Mo_crossings (μ : Mem) : Option (Int32) :=
  lp_Mo_crossings_4 μ FU ((0 : Int32)) ((0 : Int32))
theorem t_Mo_crossings {μ : Mem} {q : Int32} (h : m_Mo_crossings  μ = some q) : JM true (2) y_Mo_crossings b_Mo_crossings 6 (some (.int)) 0 0 [vr 12 (0)] μ (QQ (some (vi q)) μ) := by
  unfold m_Mo_crossings at h
  refine JM.of pl_Mo_crossings (fun ρ => Nat.le_of_ble_eq_true rfl) ?_
  show J (GM true (QQ (some (vi q)) μ) (some (.int)) y_Mo_crossings.name) true b_Mo_crossings R_12 6 (2) 0 0 0 [(0, vr 12 (0))] [] μ
  refine J_iconst (q := 1) (v := (0 : Int32)) d_Mo_crossings_0 (by decide) rfl ?_
  refine J_istore_n (q := 2) (lv' := [(1, vi ((0 : Int32))), (0, vr 12 (0))]) d_Mo_crossings_1 rfl (by decide) rfl rfl ?_
  refine J_iconst (q := 3) (v := (0 : Int32)) d_Mo_crossings_2 (by decide) rfl ?_
  refine J_istore_n (q := 4) (lv' := [(2, vi ((0 : Int32))), (1, vi ((0 : Int32))), (0, vr 12 (0))]) d_Mo_crossings_3 rfl (by decide) rfl rfl ?_
  refine J_pick [2, 1, 0] rfl ?_
  exact tl_Mo_crossings_4 μ FU _ _ h
def mj_Mo_isImage_73 (a1 : Int32) (μ : Mem) (c_4 : Int32 → Int32 → Option (Bool)) (y3 : Int32) (z0 : Int32) : Option (Bool) :=
  ap (y3 + (1 : Int32)) fun x6 =>
  c_4 (z0) (x6)
theorem tj_Mo_isImage_73 (a1 : Int32) (μ : Mem) {q : Bool} {c_4 : Int32 → Int32 → Option (Bool)} (hc_4 : ∀ (y2 : Int32) (y3 : Int32), c_4 y2 y3 = some q → J (GM true (QQ (some (vi (b2i q))) μ) (some (.boolean)) y_Mo_isImage.name) true b_Mo_isImage R_12 6 (0) 0 0 4 [(0, vr 12 (0)), (1, vi (a1)), (2, vi (y2)), (3, vi (y3))] [] μ) (y3 : Int32) (z0 : Int32) (h : mj_Mo_isImage_73 a1 μ c_4 y3 z0 = some q) : J (GM true (QQ (some (vi (b2i q))) μ) (some (.boolean)) y_Mo_isImage.name) true b_Mo_isImage R_12 6 (0) 0 0 73 [(0, vr 12 (0)), (1, vi (a1)), (3, vi (y3))] [vi (z0)] μ := by
  unfold mj_Mo_isImage_73 at h
  refine J_istore_n (q := 74) (lv' := [(2, vi (z0)), (0, vr 12 (0)), (1, vi (a1)), (3, vi (y3))]) d_Mo_isImage_73 rfl (by decide) rfl rfl ?_
  obtain ⟨x6, hx6, h⟩ := ap_eq h
  refine J_iinc (q := 77) (v := x6) (lv' := [(3, vi (x6)), (2, vi (z0)), (0, vr 12 (0)), (1, vi (a1))]) 3 d_Mo_isImage_74 rfl (by rw [hx6]; rfl) (by decide) rfl rfl ?_
  refine J_goto (q := 4) d_Mo_isImage_77 (by decide) ?_
  refine J_pick [2, 3, 1, 0] rfl ?_
  exact hc_4 _ _ h
def mj_Mo_isImage_72 (a1 : Int32) (μ : Mem) (c_4 : Int32 → Int32 → Option (Bool)) (y3 : Int32) : Option (Bool) :=
  mj_Mo_isImage_73 a1 μ c_4 (y3) ((0 : Int32))
theorem tj_Mo_isImage_72 (a1 : Int32) (μ : Mem) {q : Bool} {c_4 : Int32 → Int32 → Option (Bool)} (hc_4 : ∀ (y2 : Int32) (y3 : Int32), c_4 y2 y3 = some q → J (GM true (QQ (some (vi (b2i q))) μ) (some (.boolean)) y_Mo_isImage.name) true b_Mo_isImage R_12 6 (0) 0 0 4 [(0, vr 12 (0)), (1, vi (a1)), (2, vi (y2)), (3, vi (y3))] [] μ) (y3 : Int32) (h : mj_Mo_isImage_72 a1 μ c_4 y3 = some q) : J (GM true (QQ (some (vi (b2i q))) μ) (some (.boolean)) y_Mo_isImage.name) true b_Mo_isImage R_12 6 (0) 0 0 72 [(0, vr 12 (0)), (1, vi (a1)), (3, vi (y3))] [] μ := by
  unfold mj_Mo_isImage_72 at h
  refine J_iconst (q := 73) (v := (0 : Int32)) d_Mo_isImage_72 (by decide) rfl ?_
  refine J_pick [0, 1, 2] rfl ?_
  exact tj_Mo_isImage_73 a1 μ hc_4 _ _ h
def lp_Mo_isImage_4 (a1 : Int32) (μ : Mem) : Nat → Int32 → Int32 → Option (Bool)
  | 0, _, _ => none
  | n + 1, y2, y3 =>
  if gI μ 12 (0) 22 ≤ y3 then
 (Option.bind (zb (y2)) fun B7 => some (B7))
 else
 (gu (y3) 500 <|
  ap ((gI μ 364 (0) y3.toNatClampNeg) * (a1)) fun x9 =>
  gu (y3) 500 <|
  ap ((gI μ 365 (0) y3.toNatClampNeg) * (a1)) fun x11 =>
  if y2 = 0 then
 (mj_Mo_isImage_72 a1 μ (lp_Mo_isImage_4 a1 μ n) (y3))
 else
 (if x9 < (-16384 : Int32) then
 (mj_Mo_isImage_72 a1 μ (lp_Mo_isImage_4 a1 μ n) (y3))
 else
 (if (49152 : Int32) ≤ x9 then
 (mj_Mo_isImage_72 a1 μ (lp_Mo_isImage_4 a1 μ n) (y3))
 else
 (if x11 < (-16384 : Int32) then
 (mj_Mo_isImage_72 a1 μ (lp_Mo_isImage_4 a1 μ n) (y3))
 else
 (if (49152 : Int32) ≤ x11 then
 (mj_Mo_isImage_72 a1 μ (lp_Mo_isImage_4 a1 μ n) (y3))
 else
 (mj_Mo_isImage_73 a1 μ (lp_Mo_isImage_4 a1 μ n) (y3) ((1 : Int32))))))))
theorem tl_Mo_isImage_4 (a1 : Int32) (μ : Mem) {q : Bool}  : ∀ (n : Nat) (y2 : Int32) (y3 : Int32), lp_Mo_isImage_4 a1 μ n y2 y3 = some q → J (GM true (QQ (some (vi (b2i q))) μ) (some (.boolean)) y_Mo_isImage.name) true b_Mo_isImage R_12 6 (0) 0 0 4 [(0, vr 12 (0)), (1, vi (a1)), (2, vi (y2)), (3, vi (y3))] [] μ := by
  intro n
  induction n with
  | zero => intro _ _ h; cases h
  | succ n ih =>
    intro y2 y3 h
    unfold lp_Mo_isImage_4 at h
    refine J_iload_n (q := 5) 3 d_Mo_isImage_4 rfl rfl rfl ?_
    refine J_aload_n (q := 6) 0 d_Mo_isImage_5 rfl rfl rfl ?_
    refine J_getI (q := 9) (j := 22) cd_12 (by decide) (Or.inl rfl) g_1073 rfl d_Mo_isImage_6 rfl ?_
    refine J_icmp_ge (q := 12) (tgt := 80) d_Mo_isImage_9 (by decide) rfl (fun hc => ?_) (fun hc => ?_)
    · rw [if_pos hc] at h
      refine J_iload_n (q := 81) 2 d_Mo_isImage_80 rfl rfl rfl ?_
      obtain ⟨B7, hB7, h⟩ := zb_some h
      obtain rfl := Option.some.inj h
      refine J_nmI hB7.symm ?_
      exact J_zret (b2i01 _) rfl ⟨rfl, rfl⟩ d_Mo_isImage_81
    · rw [if_neg hc] at h
      refine J_aload_n (q := 13) 0 d_Mo_isImage_12 rfl rfl rfl ?_
      refine J_getF (q := 16) cd_12 (by decide) ft_12_24 rfl g_1075 rfl d_Mo_isImage_13 rfl ?_
      refine J_iload_n (q := 17) 3 d_Mo_isImage_16 rfl rfl rfl ?_
      obtain ⟨hi8, h⟩ := gu_some h
      refine J_iald (q := 18) rk_364 (by decide) hi8 d_Mo_isImage_17 rfl ?_
      refine J_iload_n (q := 19) 1 d_Mo_isImage_18 rfl rfl rfl ?_
      refine J_imul (q := 20) d_Mo_isImage_19 rfl ?_
      obtain ⟨x9, hx9, h⟩ := ap_eq h
      refine J_nmI hx9 ?_
      refine J_istore (q := 22) (lv' := [(4, vi (x9)), (0, vr 12 (0)), (1, vi (a1)), (2, vi (y2)), (3, vi (y3))]) d_Mo_isImage_20 (by decide) rfl rfl ?_
      refine J_aload_n (q := 23) 1 d_Mo_isImage_22 rfl rfl rfl ?_
      refine J_getF (q := 26) cd_12 (by decide) ft_12_25 rfl g_1076 rfl d_Mo_isImage_23 rfl ?_
      refine J_iload_n (q := 27) 4 d_Mo_isImage_26 rfl rfl rfl ?_
      obtain ⟨hi10, h⟩ := gu_some h
      refine J_iald (q := 28) rk_365 (by decide) hi10 d_Mo_isImage_27 rfl ?_
      refine J_iload_n (q := 29) 2 d_Mo_isImage_28 rfl rfl rfl ?_
      refine J_imul (q := 30) d_Mo_isImage_29 rfl ?_
      obtain ⟨x11, hx11, h⟩ := ap_eq h
      refine J_nmI hx11 ?_
      refine J_istore (q := 32) (lv' := [(5, vi (x11)), (4, vi (x9)), (0, vr 12 (0)), (1, vi (a1)), (2, vi (y2)), (3, vi (y3))]) d_Mo_isImage_30 (by decide) rfl rfl ?_
      refine J_iload_n (q := 33) 4 d_Mo_isImage_32 rfl rfl rfl ?_
      refine J_if_eq (q := 36) (tgt := 72) d_Mo_isImage_33 (by decide) rfl (fun hc => ?_) (fun hc => ?_)
      · rw [if_pos hc] at h
        refine J_pick [2, 3, 5] rfl ?_
        exact tj_Mo_isImage_72 a1 μ ih _ h
      · rw [if_neg hc] at h
        refine J_iload (q := 38) 1 d_Mo_isImage_36 rfl rfl ?_
        refine J_sipush (q := 41) (v := (-16384 : Int32)) d_Mo_isImage_38 (by decide) rfl ?_
        refine J_icmp_lt (q := 44) (tgt := 72) d_Mo_isImage_41 (by decide) rfl (fun hc => ?_) (fun hc => ?_)
        · rw [if_pos hc] at h
          refine J_pick [2, 3, 5] rfl ?_
          exact tj_Mo_isImage_72 a1 μ ih _ h
        · rw [if_neg hc] at h
          refine J_iload (q := 46) 1 d_Mo_isImage_44 rfl rfl ?_
          refine J_ldcw (q := 49) d_Mo_isImage_46 g_1439 rfl ?_
          refine J_icmp_ge (q := 52) (tgt := 72) d_Mo_isImage_49 (by decide) rfl (fun hc => ?_) (fun hc => ?_)
          · rw [if_pos hc] at h
            refine J_pick [2, 3, 5] rfl ?_
            exact tj_Mo_isImage_72 a1 μ ih _ h
          · rw [if_neg hc] at h
            refine J_iload (q := 54) 0 d_Mo_isImage_52 rfl rfl ?_
            refine J_sipush (q := 57) (v := (-16384 : Int32)) d_Mo_isImage_54 (by decide) rfl ?_
            refine J_icmp_lt (q := 60) (tgt := 72) d_Mo_isImage_57 (by decide) rfl (fun hc => ?_) (fun hc => ?_)
            · rw [if_pos hc] at h
              refine J_pick [2, 3, 5] rfl ?_
              exact tj_Mo_isImage_72 a1 μ ih _ h
            · rw [if_neg hc] at h
              refine J_iload (q := 62) 0 d_Mo_isImage_60 rfl rfl ?_
              refine J_ldcw (q := 65) d_Mo_isImage_62 g_1439 rfl ?_
              refine J_icmp_ge (q := 68) (tgt := 72) d_Mo_isImage_65 (by decide) rfl (fun hc => ?_) (fun hc => ?_)
              · rw [if_pos hc] at h
                refine J_pick [2, 3, 5] rfl ?_
                exact tj_Mo_isImage_72 a1 μ ih _ h
              · rw [if_neg hc] at h
                refine J_iconst (q := 69) (v := (1 : Int32)) d_Mo_isImage_68 (by decide) rfl ?_
                refine J_goto (q := 73) d_Mo_isImage_69 (by decide) ?_
                refine J_pick [2, 3, 5] rfl ?_
                exact tj_Mo_isImage_73 a1 μ ih _ _ h
def m_Mo_isImage (a1 : Int32) (μ : Mem) : Option (Bool) :=
  lp_Mo_isImage_4 a1 μ FU ((1 : Int32)) ((0 : Int32))
theorem t_Mo_isImage {a1 : Int32} {μ : Mem} {q : Bool} (h : m_Mo_isImage a1 μ = some q) : JM true (0) y_Mo_isImage b_Mo_isImage 6 (some (.boolean)) 0 0 [vr 12 (0), vi (a1)] μ (QQ (some (vi (b2i q))) μ) := by
  unfold m_Mo_isImage at h
  refine JM.of pl_Mo_isImage (fun ρ => Nat.le_of_ble_eq_true rfl) ?_
  show J (GM true (QQ (some (vi (b2i q))) μ) (some (.boolean)) y_Mo_isImage.name) true b_Mo_isImage R_12 6 (0) 0 0 0 [(0, vr 12 (0)), (1, vi (a1))] [] μ
  refine J_iconst (q := 1) (v := (1 : Int32)) d_Mo_isImage_0 (by decide) rfl ?_
  refine J_istore_n (q := 2) (lv' := [(2, vi ((1 : Int32))), (0, vr 12 (0)), (1, vi (a1))]) d_Mo_isImage_1 rfl (by decide) rfl rfl ?_
  refine J_iconst (q := 3) (v := (0 : Int32)) d_Mo_isImage_2 (by decide) rfl ?_
  refine J_istore_n (q := 4) (lv' := [(3, vi ((0 : Int32))), (2, vi ((1 : Int32))), (0, vr 12 (0)), (1, vi (a1))]) d_Mo_isImage_3 rfl (by decide) rfl rfl ?_
  refine J_pick [2, 3, 1, 0] rfl ?_
  exact tl_Mo_isImage_4 a1 μ FU _ _ h
def m_Mo_floor (a1 : Int64) (a2 : Int64) (μ : Mem) : Option (Int64) :=
  gzl (a2) <|
  ap (a1 / a2) fun x2 =>
  gzl (a2) <|
  ap (a1 - a1 / a2 * a2) fun x4 =>
  if (0 : Int64) ≤ x4 then
 (some (x2))
 else
 (some (x2 - (1 : Int64)))
theorem t_Mo_floor {a1 : Int64} {a2 : Int64} {μ : Mem} {q : Int64} (h : m_Mo_floor a1 a2 μ = some q) : JM true (0) y_Mo_floor b_Mo_floor 6 (some (.long)) 0 0 [vl (a1), vl (a2)] μ (QQ (some (vl q)) μ) := by
  unfold m_Mo_floor at h
  refine JM.of pl_Mo_floor (fun ρ => Nat.le_of_ble_eq_true rfl) ?_
  show J (GM true (QQ (some (vl q)) μ) (some (.long)) y_Mo_floor.name) true b_Mo_floor R_12 6 (0) 0 0 0 [(0, vl (a1)), (2, vl (a2))] [] μ
  refine J_lload_n (q := 1) 0 d_Mo_floor_0 rfl rfl rfl ?_
  refine J_lload_n (q := 2) 1 d_Mo_floor_1 rfl rfl rfl ?_
  obtain ⟨hg1, h⟩ := gzl_some h
  refine J_ldiv (q := 3) d_Mo_floor_2 hg1 rfl ?_
  obtain ⟨x2, hx2, h⟩ := ap_eq h
  refine J_nmL hx2 ?_
  refine J_lstore (q := 5) (lv' := [(4, vl (x2)), (0, vl (a1)), (2, vl (a2))]) d_Mo_floor_3 (by decide) rfl rfl ?_
  refine J_lload_n (q := 6) 1 d_Mo_floor_5 rfl rfl rfl ?_
  refine J_lload_n (q := 7) 2 d_Mo_floor_6 rfl rfl rfl ?_
  obtain ⟨hg3, h⟩ := gzl_some h
  refine J_lrem (q := 8) d_Mo_floor_7 hg3 rfl ?_
  obtain ⟨x4, hx4, h⟩ := ap_eq h
  refine J_nmL hx4 ?_
  refine J_lconst (q := 9) (v := (0 : Int64)) d_Mo_floor_8 (by decide) rfl ?_
  refine J_lif_ge (q := 13) (tgt := 20) d_Mo_floor_9 d_Mo_floor_10 (by decide) rfl (fun hc => ?_) (fun hc => ?_)
  · rw [if_pos hc] at h
    refine J_lload (q := 22) 0 d_Mo_floor_20 rfl rfl ?_
    obtain rfl := Option.some.inj h
    exact J_lret rfl ⟨rfl, rfl⟩ d_Mo_floor_22
  · rw [if_neg hc] at h
    refine J_lload (q := 15) 0 d_Mo_floor_13 rfl rfl ?_
    refine J_lconst (q := 16) (v := (1 : Int64)) d_Mo_floor_15 (by decide) rfl ?_
    refine J_lsub (q := 17) d_Mo_floor_16 rfl ?_
    refine J_goto (q := 22) d_Mo_floor_17 (by decide) ?_
    obtain rfl := Option.some.inj h
    exact J_lret rfl ⟨rfl, rfl⟩ d_Mo_floor_22
def lp_Mo_steps_2 (a1 : Int32) (a2 : Int32) (c_22 : Mem → Option (Mem)) : Nat → Int32 → Mem → Option (Mem)
  | 0, _, _ => none
  | n + 1, y3, μ =>
  if (514 : Int32) ≤ y3 then
 (c_22 μ)
 else
 (gu (y3) 514 <|
  ap (sI μ 380 (0) y3.toNatClampNeg ((0 : Int32))) fun μ5 =>
  ap (y3 + (1 : Int32)) fun x6 =>
  lp_Mo_steps_2 a1 a2 c_22 n (x6) μ5)
theorem tl_Mo_steps_2 (a1 : Int32) (a2 : Int32) {q : Mem} {c_22 : Mem → Option (Mem)} (hc_22 : ∀ (μ : Mem), c_22  μ = some q → J (GM true (QQ none q) none y_Mo_steps.name) true b_Mo_steps R_12 20 (1) 0 0 22 [(0, vr 12 (0)), (1, vi (a1)), (2, vi (a2))] [] μ) : ∀ (n : Nat) (y3 : Int32) (μ : Mem), lp_Mo_steps_2 a1 a2 c_22 n y3 μ = some q → J (GM true (QQ none q) none y_Mo_steps.name) true b_Mo_steps R_12 20 (1) 0 0 2 [(0, vr 12 (0)), (1, vi (a1)), (2, vi (a2)), (3, vi (y3))] [] μ := by
  intro n
  induction n with
  | zero => intro _ _ h; cases h
  | succ n ih =>
    intro y3 μ h
    unfold lp_Mo_steps_2 at h
    refine J_iload_n (q := 3) 3 d_Mo_steps_2 rfl rfl rfl ?_
    refine J_sipush (q := 6) (v := (514 : Int32)) d_Mo_steps_3 (by decide) rfl ?_
    refine J_icmp_ge (q := 9) (tgt := 22) d_Mo_steps_6 (by decide) rfl (fun hc => ?_) (fun hc => ?_)
    · rw [if_pos hc] at h
      refine J_pick [0, 1, 2] rfl ?_
      exact hc_22 _ h
    · rw [if_neg hc] at h
      refine J_aload_n (q := 10) 0 d_Mo_steps_9 rfl rfl rfl ?_
      refine J_getF (q := 13) cd_12 (by decide) ft_12_40 rfl g_1091 rfl d_Mo_steps_10 rfl ?_
      refine J_iload_n (q := 14) 3 d_Mo_steps_13 rfl rfl rfl ?_
      refine J_iconst (q := 15) (v := (0 : Int32)) d_Mo_steps_14 (by decide) rfl ?_
      obtain ⟨hi4, h⟩ := gu_some h
      refine J_iast (q := 16) rk_380 (by decide) hi4 d_Mo_steps_15 rfl ?_
      obtain ⟨μ5, hμ5, h⟩ := ap_eq h
      refine J_nmM hμ5 ?_
      obtain ⟨x6, hx6, h⟩ := ap_eq h
      refine J_iinc (q := 19) (v := x6) (lv' := [(3, vi (x6)), (0, vr 12 (0)), (1, vi (a1)), (2, vi (a2))]) 3 d_Mo_steps_16 rfl (by rw [hx6]; rfl) (by decide) rfl rfl ?_
      refine J_goto (q := 2) d_Mo_steps_19 (by decide) ?_
      refine J_pick [1, 2, 3, 0] rfl ?_
      exact ih _ _ h
def mj_Mo_steps_289 (a1 : Int32) (a2 : Int32) (c_38 : Int64 → Int32 → Mem → Option (Mem)) (y3 : Int64) (y5 : Int32) (μ : Mem) : Option (Mem) :=
  ap (y5 + (1 : Int32)) fun x27 =>
  c_38 (y3) (x27) μ
theorem tj_Mo_steps_289 (a1 : Int32) (a2 : Int32) {q : Mem} {c_38 : Int64 → Int32 → Mem → Option (Mem)} (hc_38 : ∀ (y3 : Int64) (y5 : Int32) (μ : Mem), c_38 y3 y5 μ = some q → J (GM true (QQ none q) none y_Mo_steps.name) true b_Mo_steps R_12 20 (1) 0 0 38 [(0, vr 12 (0)), (2, vi (a2)), (3, vl (y3)), (5, vi (y5))] [] μ) (y3 : Int64) (y5 : Int32) (μ : Mem) (h : mj_Mo_steps_289 a1 a2 c_38 y3 y5 μ = some q) : J (GM true (QQ none q) none y_Mo_steps.name) true b_Mo_steps R_12 20 (1) 0 0 289 [(0, vr 12 (0)), (2, vi (a2)), (3, vl (y3)), (5, vi (y5))] [] μ := by
  unfold mj_Mo_steps_289 at h
  obtain ⟨x27, hx27, h⟩ := ap_eq h
  refine J_iinc (q := 292) (v := x27) (lv' := [(5, vi (x27)), (0, vr 12 (0)), (2, vi (a2)), (3, vl (y3))]) 3 d_Mo_steps_289 rfl (by rw [hx27]; rfl) (by decide) rfl rfl ?_
  refine J_goto (q := 38) d_Mo_steps_292 (by decide) ?_
  refine J_pick [1, 2, 3, 0] rfl ?_
  exact hc_38 _ _ _ h
def mj_Mo_steps_287 (a1 : Int32) (a2 : Int32) (c_38 : Int64 → Int32 → Mem → Option (Mem)) (y3 : Int64) (y5 : Int32) (z0 : Int32) (z1 : Int32) (z2 : Int32) (μ : Mem) : Option (Mem) :=
  gu (z2) 514 <|
  ap (sI μ 380 (0) z2.toNatClampNeg (z1 - z0)) fun μ30 =>
  mj_Mo_steps_289 a1 a2 c_38 (y3) (y5) μ30
theorem tj_Mo_steps_287 (a1 : Int32) (a2 : Int32) {q : Mem} {c_38 : Int64 → Int32 → Mem → Option (Mem)} (hc_38 : ∀ (y3 : Int64) (y5 : Int32) (μ : Mem), c_38 y3 y5 μ = some q → J (GM true (QQ none q) none y_Mo_steps.name) true b_Mo_steps R_12 20 (1) 0 0 38 [(0, vr 12 (0)), (2, vi (a2)), (3, vl (y3)), (5, vi (y5))] [] μ) (y3 : Int64) (y5 : Int32) (z0 : Int32) (z1 : Int32) (z2 : Int32) (μ : Mem) (h : mj_Mo_steps_287 a1 a2 c_38 y3 y5 z0 z1 z2 μ = some q) : J (GM true (QQ none q) none y_Mo_steps.name) true b_Mo_steps R_12 20 (1) 0 0 287 [(0, vr 12 (0)), (2, vi (a2)), (3, vl (y3)), (5, vi (y5))] [vi (z0), vi (z1), vi (z2), vr 380 (0)] μ := by
  unfold mj_Mo_steps_287 at h
  refine J_isub (q := 288) d_Mo_steps_287 rfl ?_
  obtain ⟨hi29, h⟩ := gu_some h
  refine J_iast (q := 289) rk_380 (by decide) hi29 d_Mo_steps_288 rfl ?_
  obtain ⟨μ30, hμ30, h⟩ := ap_eq h
  refine J_nmM hμ30 ?_
  refine J_pick [0, 1, 2, 3] rfl ?_
  exact tj_Mo_steps_289 a1 a2 hc_38 _ _ _ h
def mj_Mo_steps_255 (a1 : Int32) (a2 : Int32) (c_38 : Int64 → Int32 → Mem → Option (Mem)) (y3 : Int64) (y5 : Int32) (y11 : Int32) (y18 : Int64) (z0 : Int32) (z1 : Int32) (z2 : Int32) (μ : Mem) : Option (Mem) :=
  gu (z2) 514 <|
  ap (sI μ 380 (0) z2.toNatClampNeg (z1 + z0)) fun μ26 =>
  if (512 : Int64) ≤ y18 then
 (mj_Mo_steps_289 a1 a2 c_38 (y3) (y5) μ26)
 else
 (gu (((y18).toInt32) + ((1 : Int32))) 514 <|
  if y11 = 0 then
 (mj_Mo_steps_287 a1 a2 c_38 (y3) (y5) ((-1 : Int32)) (gI μ26 380 (0) (((y18).toInt32) + ((1 : Int32))).toNatClampNeg) (((y18).toInt32) + ((1 : Int32))) μ26)
 else
 (mj_Mo_steps_287 a1 a2 c_38 (y3) (y5) ((1 : Int32)) (gI μ26 380 (0) (((y18).toInt32) + ((1 : Int32))).toNatClampNeg) (((y18).toInt32) + ((1 : Int32))) μ26))
theorem tj_Mo_steps_255 (a1 : Int32) (a2 : Int32) {q : Mem} {c_38 : Int64 → Int32 → Mem → Option (Mem)} (hc_38 : ∀ (y3 : Int64) (y5 : Int32) (μ : Mem), c_38 y3 y5 μ = some q → J (GM true (QQ none q) none y_Mo_steps.name) true b_Mo_steps R_12 20 (1) 0 0 38 [(0, vr 12 (0)), (2, vi (a2)), (3, vl (y3)), (5, vi (y5))] [] μ) (y3 : Int64) (y5 : Int32) (y11 : Int32) (y18 : Int64) (z0 : Int32) (z1 : Int32) (z2 : Int32) (μ : Mem) (h : mj_Mo_steps_255 a1 a2 c_38 y3 y5 y11 y18 z0 z1 z2 μ = some q) : J (GM true (QQ none q) none y_Mo_steps.name) true b_Mo_steps R_12 20 (1) 0 0 255 [(0, vr 12 (0)), (2, vi (a2)), (3, vl (y3)), (5, vi (y5)), (11, vi (y11)), (18, vl (y18))] [vi (z0), vi (z1), vi (z2), vr 380 (0)] μ := by
  unfold mj_Mo_steps_255 at h
  refine J_iadd (q := 256) d_Mo_steps_255 rfl ?_
  obtain ⟨hi25, h⟩ := gu_some h
  refine J_iast (q := 257) rk_380 (by decide) hi25 d_Mo_steps_256 rfl ?_
  obtain ⟨μ26, hμ26, h⟩ := ap_eq h
  refine J_nmM hμ26 ?_
  refine J_lload (q := 259) 5 d_Mo_steps_257 rfl rfl ?_
  refine J_ldc2 (q := 262) d_Mo_steps_259 g_1449 rfl ?_
  refine J_lif_ge (q := 266) (tgt := 289) d_Mo_steps_262 d_Mo_steps_263 (by decide) rfl (fun hc => ?_) (fun hc => ?_)
  · rw [if_pos hc] at h
    refine J_pick [0, 1, 2, 3] rfl ?_
    exact tj_Mo_steps_289 a1 a2 hc_38 _ _ _ h
  · rw [if_neg hc] at h
    refine J_aload_n (q := 267) 0 d_Mo_steps_266 rfl rfl rfl ?_
    refine J_getF (q := 270) cd_12 (by decide) ft_12_40 rfl g_1091 rfl d_Mo_steps_267 rfl ?_
    refine J_lload (q := 272) 5 d_Mo_steps_270 rfl rfl ?_
    refine J_l2i (q := 273) d_Mo_steps_272 rfl ?_
    refine J_iconst (q := 274) (v := (1 : Int32)) d_Mo_steps_273 (by decide) rfl ?_
    refine J_iadd (q := 275) d_Mo_steps_274 rfl ?_
    refine J_dup2IR (q := 276) d_Mo_steps_275 rfl ?_
    obtain ⟨hi28, h⟩ := gu_some h
    refine J_iald (q := 277) rk_380 (by decide) hi28 d_Mo_steps_276 rfl ?_
    refine J_iload (q := 279) 4 d_Mo_steps_277 rfl rfl ?_
    refine J_if_eq (q := 282) (tgt := 286) d_Mo_steps_279 (by decide) rfl (fun hc => ?_) (fun hc => ?_)
    · rw [if_pos hc] at h
      refine J_iconst (q := 287) (v := (-1 : Int32)) d_Mo_steps_286 (by decide) rfl ?_
      refine J_pick [0, 1, 2, 3] rfl ?_
      exact tj_Mo_steps_287 a1 a2 hc_38 _ _ _ _ _ _ h
    · rw [if_neg hc] at h
      refine J_iconst (q := 283) (v := (1 : Int32)) d_Mo_steps_282 (by decide) rfl ?_
      refine J_goto (q := 287) d_Mo_steps_283 (by decide) ?_
      refine J_pick [0, 1, 2, 3] rfl ?_
      exact tj_Mo_steps_287 a1 a2 hc_38 _ _ _ _ _ _ h
def mj_Mo_steps_154 (a1 : Int32) (a2 : Int32) (c_38 : Int64 → Int32 → Mem → Option (Mem)) (y3 : Int64) (y5 : Int32) (y6 : Int32) (y7 : Int64) (y11 : Int32) (y12 : Int64) (μ : Mem) : Option (Mem) :=
  gu (y5) 500 <|
  gu (y6) 500 <|
  gu (y5) 500 <|
  ap (((((gI μ 368 (0) y5.toNatClampNeg).toInt64) * ((a2).toInt64)) * (y12)) + ((((gI μ 368 (0) y6.toNatClampNeg) - (gI μ 368 (0) y5.toNatClampNeg)).toInt64) * ((m_Mo_size (y3 - y7) μ)))) fun x19 =>
  Option.bind (m_Mo_floor (-(x19)) ((64 : Int64) * y12) μ) fun r20 =>
  ap ((-(r20)) - ((1 : Int64))) fun x21 =>
  Option.bind (m_Mo_floor (x21 - (1 : Int64)) ((2 : Int64)) μ) fun r22 =>
  ap (r22 + (128 : Int64)) fun x23 =>
  if (0 : Int64) ≤ x23 then
 (gu ((0 : Int32)) 514 <|
  if y11 = 0 then
 (mj_Mo_steps_255 a1 a2 c_38 (y3) (y5) (y11) (x23) ((-1 : Int32)) (gI μ 380 (0) ((0 : Int32)).toNatClampNeg) ((0 : Int32)) μ)
 else
 (mj_Mo_steps_255 a1 a2 c_38 (y3) (y5) (y11) (x23) ((1 : Int32)) (gI μ 380 (0) ((0 : Int32)).toNatClampNeg) ((0 : Int32)) μ))
 else
 (mj_Mo_steps_289 a1 a2 c_38 (y3) (y5) μ)
theorem tj_Mo_steps_154 (a1 : Int32) (a2 : Int32) {q : Mem} {c_38 : Int64 → Int32 → Mem → Option (Mem)} (hc_38 : ∀ (y3 : Int64) (y5 : Int32) (μ : Mem), c_38 y3 y5 μ = some q → J (GM true (QQ none q) none y_Mo_steps.name) true b_Mo_steps R_12 20 (1) 0 0 38 [(0, vr 12 (0)), (2, vi (a2)), (3, vl (y3)), (5, vi (y5))] [] μ) (y3 : Int64) (y5 : Int32) (y6 : Int32) (y7 : Int64) (y11 : Int32) (y12 : Int64) (μ : Mem) (h : mj_Mo_steps_154 a1 a2 c_38 y3 y5 y6 y7 y11 y12 μ = some q) : J (GM true (QQ none q) none y_Mo_steps.name) true b_Mo_steps R_12 20 (1) 0 0 154 [(0, vr 12 (0)), (2, vi (a2)), (3, vl (y3)), (5, vi (y5)), (6, vi (y6)), (7, vl (y7)), (11, vi (y11)), (12, vl (y12))] [] μ := by
  unfold mj_Mo_steps_154 at h
  refine J_aload_n (q := 155) 0 d_Mo_steps_154 rfl rfl rfl ?_
  refine J_getF (q := 158) cd_12 (by decide) ft_12_28 rfl g_1079 rfl d_Mo_steps_155 rfl ?_
  refine J_iload (q := 160) 3 d_Mo_steps_158 rfl rfl ?_
  obtain ⟨hi16, h⟩ := gu_some h
  refine J_iald (q := 161) rk_368 (by decide) hi16 d_Mo_steps_160 rfl ?_
  refine J_i2l (q := 162) d_Mo_steps_161 rfl ?_
  refine J_iload_n (q := 163) 1 d_Mo_steps_162 rfl rfl rfl ?_
  refine J_i2l (q := 164) d_Mo_steps_163 rfl ?_
  refine J_lmul (q := 165) d_Mo_steps_164 rfl ?_
  refine J_lload (q := 167) 7 d_Mo_steps_165 rfl rfl ?_
  refine J_lmul (q := 168) d_Mo_steps_167 rfl ?_
  refine J_aload_n (q := 169) 0 d_Mo_steps_168 rfl rfl rfl ?_
  refine J_getF (q := 172) cd_12 (by decide) ft_12_28 rfl g_1079 rfl d_Mo_steps_169 rfl ?_
  refine J_iload (q := 174) 4 d_Mo_steps_172 rfl rfl ?_
  obtain ⟨hi17, h⟩ := gu_some h
  refine J_iald (q := 175) rk_368 (by decide) hi17 d_Mo_steps_174 rfl ?_
  refine J_aload_n (q := 176) 0 d_Mo_steps_175 rfl rfl rfl ?_
  refine J_getF (q := 179) cd_12 (by decide) ft_12_28 rfl g_1079 rfl d_Mo_steps_176 rfl ?_
  refine J_iload (q := 181) 3 d_Mo_steps_179 rfl rfl ?_
  obtain ⟨hi18, h⟩ := gu_some h
  refine J_iald (q := 182) rk_368 (by decide) hi18 d_Mo_steps_181 rfl ?_
  refine J_isub (q := 183) d_Mo_steps_182 rfl ?_
  refine J_i2l (q := 184) d_Mo_steps_183 rfl ?_
  refine J_lload_n (q := 185) 2 d_Mo_steps_184 rfl rfl rfl ?_
  refine J_lload (q := 187) 5 d_Mo_steps_185 rfl rfl ?_
  refine J_lsub (q := 188) d_Mo_steps_187 rfl ?_
  refine J_callSq (rc := 0) (rs := 0) (q := 191) (as := [vl (y3 - y7)]) (st := [vl (((gI μ 368 (0) y6.toNatClampNeg) - (gI μ 368 (0) y5.toNatClampNeg)).toInt64), vl ((((gI μ 368 (0) y5.toNatClampNeg).toInt64) * ((a2).toInt64)) * (y12))]) g_1390 (t_Mo_size rfl) (by decide) (by decide) g_1389 g_1391 g_10 hy_Mo_size rfl (Nat.le_of_ble_eq_true rfl) d_Mo_steps_188 rfl ?_
  refine J_lmul (q := 192) d_Mo_steps_191 rfl ?_
  refine J_ladd (q := 193) d_Mo_steps_192 rfl ?_
  obtain ⟨x19, hx19, h⟩ := ap_eq h
  refine J_nmL hx19 ?_
  refine J_lstore (q := 195) (lv' := [(14, vl (x19)), (0, vr 12 (0)), (2, vi (a2)), (3, vl (y3)), (5, vi (y5)), (6, vi (y6)), (7, vl (y7)), (11, vi (y11)), (12, vl (y12))]) d_Mo_steps_193 (by decide) rfl rfl ?_
  refine J_lload (q := 197) 0 d_Mo_steps_195 rfl rfl ?_
  refine J_lneg (q := 198) d_Mo_steps_197 rfl ?_
  refine J_ldc2 (q := 201) d_Mo_steps_198 g_1444 rfl ?_
  refine J_lload (q := 203) 8 d_Mo_steps_201 rfl rfl ?_
  refine J_lmul (q := 204) d_Mo_steps_203 rfl ?_
  obtain ⟨r20, hr20, h⟩ := bd_some h
  refine J_callSq (rc := 0) (rs := 0) (q := 207) (as := [vl (-(x19)), vl ((64 : Int64) * y12)]) (st := []) g_1446 (t_Mo_floor hr20) (by decide) (by decide) g_1445 g_1447 g_10 hy_Mo_floor rfl (Nat.le_of_ble_eq_true rfl) d_Mo_steps_204 rfl ?_
  refine J_lneg (q := 208) d_Mo_steps_207 rfl ?_
  refine J_lconst (q := 209) (v := (1 : Int64)) d_Mo_steps_208 (by decide) rfl ?_
  refine J_lsub (q := 210) d_Mo_steps_209 rfl ?_
  obtain ⟨x21, hx21, h⟩ := ap_eq h
  refine J_nmL hx21 ?_
  refine J_lstore (q := 212) (lv' := [(16, vl (x21)), (14, vl (x19)), (0, vr 12 (0)), (2, vi (a2)), (3, vl (y3)), (5, vi (y5)), (6, vi (y6)), (7, vl (y7)), (11, vi (y11)), (12, vl (y12))]) d_Mo_steps_210 (by decide) rfl rfl ?_
  refine J_lload (q := 214) 0 d_Mo_steps_212 rfl rfl ?_
  refine J_lconst (q := 215) (v := (1 : Int64)) d_Mo_steps_214 (by decide) rfl ?_
  refine J_lsub (q := 216) d_Mo_steps_215 rfl ?_
  refine J_ldc2 (q := 219) d_Mo_steps_216 g_1372 rfl ?_
  obtain ⟨r22, hr22, h⟩ := bd_some h
  refine J_callSq (rc := 0) (rs := 0) (q := 222) (as := [vl (x21 - (1 : Int64)), vl ((2 : Int64))]) (st := []) g_1446 (t_Mo_floor hr22) (by decide) (by decide) g_1445 g_1447 g_10 hy_Mo_floor rfl (Nat.le_of_ble_eq_true rfl) d_Mo_steps_219 rfl ?_
  refine J_ldc2 (q := 225) d_Mo_steps_222 g_1448 rfl ?_
  refine J_ladd (q := 226) d_Mo_steps_225 rfl ?_
  obtain ⟨x23, hx23, h⟩ := ap_eq h
  refine J_nmL hx23 ?_
  refine J_lstore (q := 228) (lv' := [(18, vl (x23)), (16, vl (x21)), (14, vl (x19)), (0, vr 12 (0)), (2, vi (a2)), (3, vl (y3)), (5, vi (y5)), (6, vi (y6)), (7, vl (y7)), (11, vi (y11)), (12, vl (y12))]) d_Mo_steps_226 (by decide) rfl rfl ?_
  refine J_lload (q := 230) 0 d_Mo_steps_228 rfl rfl ?_
  refine J_lconst (q := 231) (v := (0 : Int64)) d_Mo_steps_230 (by decide) rfl ?_
  refine J_lif_ge (q := 235) (tgt := 238) d_Mo_steps_231 d_Mo_steps_232 (by decide) rfl (fun hc => ?_) (fun hc => ?_)
  · rw [if_pos hc] at h
    refine J_aload_n (q := 239) 3 d_Mo_steps_238 rfl rfl rfl ?_
    refine J_getF (q := 242) cd_12 (by decide) ft_12_40 rfl g_1091 rfl d_Mo_steps_239 rfl ?_
    refine J_iconst (q := 243) (v := (0 : Int32)) d_Mo_steps_242 (by decide) rfl ?_
    refine J_dup2IR (q := 244) d_Mo_steps_243 rfl ?_
    obtain ⟨hi24, h⟩ := gu_some h
    refine J_iald (q := 245) rk_380 (by decide) hi24 d_Mo_steps_244 rfl ?_
    refine J_iload (q := 247) 9 d_Mo_steps_245 rfl rfl ?_
    refine J_if_eq (q := 250) (tgt := 254) d_Mo_steps_247 (by decide) rfl (fun hc => ?_) (fun hc => ?_)
    · rw [if_pos hc] at h
      refine J_iconst (q := 255) (v := (-1 : Int32)) d_Mo_steps_254 (by decide) rfl ?_
      refine J_pick [3, 4, 5, 6, 9, 0] rfl ?_
      exact tj_Mo_steps_255 a1 a2 hc_38 _ _ _ _ _ _ _ _ h
    · rw [if_neg hc] at h
      refine J_iconst (q := 251) (v := (1 : Int32)) d_Mo_steps_250 (by decide) rfl ?_
      refine J_goto (q := 255) d_Mo_steps_251 (by decide) ?_
      refine J_pick [3, 4, 5, 6, 9, 0] rfl ?_
      exact tj_Mo_steps_255 a1 a2 hc_38 _ _ _ _ _ _ _ _ h
  · rw [if_neg hc] at h
    refine J_goto (q := 289) d_Mo_steps_235 (by decide) ?_
    refine J_pick [3, 4, 5, 6] rfl ?_
    exact tj_Mo_steps_289 a1 a2 hc_38 _ _ _ h
def mj_Mo_steps_124 (a1 : Int32) (a2 : Int32) (c_38 : Int64 → Int32 → Mem → Option (Mem)) (y3 : Int64) (y5 : Int32) (y6 : Int32) (y7 : Int64) (y11 : Int32) (μ : Mem) : Option (Mem) :=
  gu (y6) 500 <|
  gu (y5) 500 <|
  ap (((gI μ 369 (0) y6.toNatClampNeg) - (gI μ 369 (0) y5.toNatClampNeg)).toInt64) fun x15 =>
  if (0 : Int64) ≤ x15 then
 (mj_Mo_steps_154 a1 a2 c_38 (y3) (y5) (y6) (y7) (y11) (x15) μ)
 else
 (ap (-(x15)) fun x31 =>
  mj_Mo_steps_154 a1 a2 c_38 (y3) (y5) (y6) (y7) (y11) (x31) μ)
theorem tj_Mo_steps_124 (a1 : Int32) (a2 : Int32) {q : Mem} {c_38 : Int64 → Int32 → Mem → Option (Mem)} (hc_38 : ∀ (y3 : Int64) (y5 : Int32) (μ : Mem), c_38 y3 y5 μ = some q → J (GM true (QQ none q) none y_Mo_steps.name) true b_Mo_steps R_12 20 (1) 0 0 38 [(0, vr 12 (0)), (2, vi (a2)), (3, vl (y3)), (5, vi (y5))] [] μ) (y3 : Int64) (y5 : Int32) (y6 : Int32) (y7 : Int64) (y11 : Int32) (μ : Mem) (h : mj_Mo_steps_124 a1 a2 c_38 y3 y5 y6 y7 y11 μ = some q) : J (GM true (QQ none q) none y_Mo_steps.name) true b_Mo_steps R_12 20 (1) 0 0 124 [(0, vr 12 (0)), (2, vi (a2)), (3, vl (y3)), (5, vi (y5)), (6, vi (y6)), (7, vl (y7)), (11, vi (y11))] [] μ := by
  unfold mj_Mo_steps_124 at h
  refine J_aload_n (q := 125) 0 d_Mo_steps_124 rfl rfl rfl ?_
  refine J_getF (q := 128) cd_12 (by decide) ft_12_29 rfl g_1080 rfl d_Mo_steps_125 rfl ?_
  refine J_iload (q := 130) 4 d_Mo_steps_128 rfl rfl ?_
  obtain ⟨hi13, h⟩ := gu_some h
  refine J_iald (q := 131) rk_369 (by decide) hi13 d_Mo_steps_130 rfl ?_
  refine J_aload_n (q := 132) 0 d_Mo_steps_131 rfl rfl rfl ?_
  refine J_getF (q := 135) cd_12 (by decide) ft_12_29 rfl g_1080 rfl d_Mo_steps_132 rfl ?_
  refine J_iload (q := 137) 3 d_Mo_steps_135 rfl rfl ?_
  obtain ⟨hi14, h⟩ := gu_some h
  refine J_iald (q := 138) rk_369 (by decide) hi14 d_Mo_steps_137 rfl ?_
  refine J_isub (q := 139) d_Mo_steps_138 rfl ?_
  refine J_i2l (q := 140) d_Mo_steps_139 rfl ?_
  obtain ⟨x15, hx15, h⟩ := ap_eq h
  refine J_nmL hx15 ?_
  refine J_lstore (q := 142) (lv' := [(12, vl (x15)), (0, vr 12 (0)), (2, vi (a2)), (3, vl (y3)), (5, vi (y5)), (6, vi (y6)), (7, vl (y7)), (11, vi (y11))]) d_Mo_steps_140 (by decide) rfl rfl ?_
  refine J_lload (q := 144) 0 d_Mo_steps_142 rfl rfl ?_
  refine J_lconst (q := 145) (v := (0 : Int64)) d_Mo_steps_144 (by decide) rfl ?_
  refine J_lif_ge (q := 149) (tgt := 154) d_Mo_steps_145 d_Mo_steps_146 (by decide) rfl (fun hc => ?_) (fun hc => ?_)
  · rw [if_pos hc] at h
    refine J_pick [1, 2, 3, 4, 5, 6, 7, 0] rfl ?_
    exact tj_Mo_steps_154 a1 a2 hc_38 _ _ _ _ _ _ _ h
  · rw [if_neg hc] at h
    refine J_lload (q := 151) 0 d_Mo_steps_149 rfl rfl ?_
    refine J_lneg (q := 152) d_Mo_steps_151 rfl ?_
    obtain ⟨x31, hx31, h⟩ := ap_eq h
    refine J_nmL hx31 ?_
    refine J_lstore (q := 154) (lv' := [(12, vl (x31)), (0, vr 12 (0)), (2, vi (a2)), (3, vl (y3)), (5, vi (y5)), (6, vi (y6)), (7, vl (y7)), (11, vi (y11))]) d_Mo_steps_152 (by decide) rfl rfl ?_
    refine J_pick [1, 2, 3, 4, 5, 6, 7, 0] rfl ?_
    exact tj_Mo_steps_154 a1 a2 hc_38 _ _ _ _ _ _ _ h
def mj_Mo_steps_100 (a1 : Int32) (a2 : Int32) (c_38 : Int64 → Int32 → Mem → Option (Mem)) (y3 : Int64) (y5 : Int32) (y6 : Int32) (y7 : Int64) (y9 : Int64) (z0 : Int32) (μ : Mem) : Option (Mem) :=
  if z0 = 0 then
 (if y3 < y9 then
 (mj_Mo_steps_289 a1 a2 c_38 (y3) (y5) μ)
 else
 (if y3 < y7 then
 (mj_Mo_steps_124 a1 a2 c_38 (y3) (y5) (y6) (y7) (z0) μ)
 else
 (mj_Mo_steps_289 a1 a2 c_38 (y3) (y5) μ)))
 else
 (mj_Mo_steps_124 a1 a2 c_38 (y3) (y5) (y6) (y7) (z0) μ)
theorem tj_Mo_steps_100 (a1 : Int32) (a2 : Int32) {q : Mem} {c_38 : Int64 → Int32 → Mem → Option (Mem)} (hc_38 : ∀ (y3 : Int64) (y5 : Int32) (μ : Mem), c_38 y3 y5 μ = some q → J (GM true (QQ none q) none y_Mo_steps.name) true b_Mo_steps R_12 20 (1) 0 0 38 [(0, vr 12 (0)), (2, vi (a2)), (3, vl (y3)), (5, vi (y5))] [] μ) (y3 : Int64) (y5 : Int32) (y6 : Int32) (y7 : Int64) (y9 : Int64) (z0 : Int32) (μ : Mem) (h : mj_Mo_steps_100 a1 a2 c_38 y3 y5 y6 y7 y9 z0 μ = some q) : J (GM true (QQ none q) none y_Mo_steps.name) true b_Mo_steps R_12 20 (1) 0 0 100 [(0, vr 12 (0)), (2, vi (a2)), (3, vl (y3)), (5, vi (y5)), (6, vi (y6)), (7, vl (y7)), (9, vl (y9))] [vi (z0)] μ := by
  unfold mj_Mo_steps_100 at h
  refine J_istore (q := 102) (lv' := [(11, vi (z0)), (0, vr 12 (0)), (2, vi (a2)), (3, vl (y3)), (5, vi (y5)), (6, vi (y6)), (7, vl (y7)), (9, vl (y9))]) d_Mo_steps_100 (by decide) rfl rfl ?_
  refine J_iload (q := 104) 0 d_Mo_steps_102 rfl rfl ?_
  refine J_if_ne (q := 107) (tgt := 124) d_Mo_steps_104 (by decide) rfl (fun hc => ?_) (fun hc => ?_)
  · rw [if_neg hc] at h
    refine J_pick [1, 2, 3, 4, 5, 6, 0] rfl ?_
    exact tj_Mo_steps_124 a1 a2 hc_38 _ _ _ _ _ _ h
  · rw [if_pos hc] at h
    refine J_lload (q := 109) 7 d_Mo_steps_107 rfl rfl ?_
    refine J_lload_n (q := 110) 3 d_Mo_steps_109 rfl rfl rfl ?_
    refine J_lif_gt (q := 114) (tgt := 289) d_Mo_steps_110 d_Mo_steps_111 (by decide) rfl (fun hc => ?_) (fun hc => ?_)
    · rw [if_pos hc] at h
      refine J_pick [1, 2, 3, 4] rfl ?_
      exact tj_Mo_steps_289 a1 a2 hc_38 _ _ _ h
    · rw [if_neg hc] at h
      refine J_lload_n (q := 115) 3 d_Mo_steps_114 rfl rfl rfl ?_
      refine J_lload (q := 117) 6 d_Mo_steps_115 rfl rfl ?_
      refine J_lif_lt (q := 121) (tgt := 124) d_Mo_steps_117 d_Mo_steps_118 (by decide) rfl (fun hc => ?_) (fun hc => ?_)
      · rw [if_pos hc] at h
        refine J_pick [1, 2, 3, 4, 5, 6, 0] rfl ?_
        exact tj_Mo_steps_124 a1 a2 hc_38 _ _ _ _ _ _ h
      · rw [if_neg hc] at h
        refine J_goto (q := 289) d_Mo_steps_121 (by decide) ?_
        refine J_pick [1, 2, 3, 4] rfl ?_
        exact tj_Mo_steps_289 a1 a2 hc_38 _ _ _ h
def mj_Mo_steps_99 (a1 : Int32) (a2 : Int32) (c_38 : Int64 → Int32 → Mem → Option (Mem)) (y3 : Int64) (y5 : Int32) (y6 : Int32) (y7 : Int64) (y9 : Int64) (μ : Mem) : Option (Mem) :=
  mj_Mo_steps_100 a1 a2 c_38 (y3) (y5) (y6) (y7) (y9) ((0 : Int32)) μ
theorem tj_Mo_steps_99 (a1 : Int32) (a2 : Int32) {q : Mem} {c_38 : Int64 → Int32 → Mem → Option (Mem)} (hc_38 : ∀ (y3 : Int64) (y5 : Int32) (μ : Mem), c_38 y3 y5 μ = some q → J (GM true (QQ none q) none y_Mo_steps.name) true b_Mo_steps R_12 20 (1) 0 0 38 [(0, vr 12 (0)), (2, vi (a2)), (3, vl (y3)), (5, vi (y5))] [] μ) (y3 : Int64) (y5 : Int32) (y6 : Int32) (y7 : Int64) (y9 : Int64) (μ : Mem) (h : mj_Mo_steps_99 a1 a2 c_38 y3 y5 y6 y7 y9 μ = some q) : J (GM true (QQ none q) none y_Mo_steps.name) true b_Mo_steps R_12 20 (1) 0 0 99 [(0, vr 12 (0)), (2, vi (a2)), (3, vl (y3)), (5, vi (y5)), (6, vi (y6)), (7, vl (y7)), (9, vl (y9))] [] μ := by
  unfold mj_Mo_steps_99 at h
  refine J_iconst (q := 100) (v := (0 : Int32)) d_Mo_steps_99 (by decide) rfl ?_
  refine J_pick [0, 1, 2, 3, 4, 5, 6] rfl ?_
  exact tj_Mo_steps_100 a1 a2 hc_38 _ _ _ _ _ _ _ h
def lp_Mo_steps_38 (a1 : Int32) (a2 : Int32) : Nat → Int64 → Int32 → Mem → Option (Mem)
  | 0, _, _, _ => none
  | n + 1, y3, y5, μ =>
  if gI μ 12 (0) 27 ≤ y5 then
 (some μ)
 else
 (Option.bind (m_Mo_next (y5) μ) fun r32 =>
  gu (y5) 500 <|
  ap (((gI μ 369 (0) y5.toNatClampNeg).toInt64) * ((a2).toInt64)) fun x34 =>
  gu (r32) 500 <|
  ap (((gI μ 369 (0) r32.toNatClampNeg).toInt64) * ((a2).toInt64)) fun x36 =>
  if y3 < x34 then
 (mj_Mo_steps_99 a1 a2 (lp_Mo_steps_38 a1 a2 n) (y3) (y5) (r32) (x34) (x36) μ)
 else
 (if x36 ≤ y3 then
 (mj_Mo_steps_99 a1 a2 (lp_Mo_steps_38 a1 a2 n) (y3) (y5) (r32) (x34) (x36) μ)
 else
 (mj_Mo_steps_100 a1 a2 (lp_Mo_steps_38 a1 a2 n) (y3) (y5) (r32) (x34) (x36) ((1 : Int32)) μ)))
theorem tl_Mo_steps_38 (a1 : Int32) (a2 : Int32) {q : Mem}  : ∀ (n : Nat) (y3 : Int64) (y5 : Int32) (μ : Mem), lp_Mo_steps_38 a1 a2 n y3 y5 μ = some q → J (GM true (QQ none q) none y_Mo_steps.name) true b_Mo_steps R_12 20 (1) 0 0 38 [(0, vr 12 (0)), (2, vi (a2)), (3, vl (y3)), (5, vi (y5))] [] μ := by
  intro n
  induction n with
  | zero => intro _ _ _ h; cases h
  | succ n ih =>
    intro y3 y5 μ h
    unfold lp_Mo_steps_38 at h
    refine J_iload (q := 40) 3 d_Mo_steps_38 rfl rfl ?_
    refine J_aload_n (q := 41) 0 d_Mo_steps_40 rfl rfl rfl ?_
    refine J_getI (q := 44) (j := 27) cd_12 (by decide) (Or.inl rfl) g_1078 rfl d_Mo_steps_41 rfl ?_
    refine J_icmp_ge (q := 47) (tgt := 295) d_Mo_steps_44 (by decide) rfl (fun hc => ?_) (fun hc => ?_)
    · rw [if_pos hc] at h
      obtain rfl := Option.some.inj h
      exact J_vret rfl ⟨rfl, rfl⟩ d_Mo_steps_295
    · rw [if_neg hc] at h
      refine J_aload_n (q := 48) 0 d_Mo_steps_47 rfl rfl rfl ?_
      refine J_iload (q := 50) 3 d_Mo_steps_48 rfl rfl ?_
      obtain ⟨r32, hr32, h⟩ := bd_some h
      refine J_callVq (rc := 0) (rs := 0) (q := 53) (as := [vi (y5)]) (st := []) (by decide) rfl g_1411 sel_Mo_next (t_Mo_next hr32) (by decide) (by decide) g_1409 g_1412 g_10 hy_Mo_next rfl (Nat.le_of_ble_eq_true rfl) d_Mo_steps_50 rfl ?_
      refine J_istore (q := 55) (lv' := [(6, vi (r32)), (0, vr 12 (0)), (2, vi (a2)), (3, vl (y3)), (5, vi (y5))]) d_Mo_steps_53 (by decide) rfl rfl ?_
      refine J_aload_n (q := 56) 1 d_Mo_steps_55 rfl rfl rfl ?_
      refine J_getF (q := 59) cd_12 (by decide) ft_12_29 rfl g_1080 rfl d_Mo_steps_56 rfl ?_
      refine J_iload (q := 61) 4 d_Mo_steps_59 rfl rfl ?_
      obtain ⟨hi33, h⟩ := gu_some h
      refine J_iald (q := 62) rk_369 (by decide) hi33 d_Mo_steps_61 rfl ?_
      refine J_i2l (q := 63) d_Mo_steps_62 rfl ?_
      refine J_iload_n (q := 64) 2 d_Mo_steps_63 rfl rfl rfl ?_
      refine J_i2l (q := 65) d_Mo_steps_64 rfl ?_
      refine J_lmul (q := 66) d_Mo_steps_65 rfl ?_
      obtain ⟨x34, hx34, h⟩ := ap_eq h
      refine J_nmL hx34 ?_
      refine J_lstore (q := 68) (lv' := [(7, vl (x34)), (6, vi (r32)), (0, vr 12 (0)), (2, vi (a2)), (3, vl (y3)), (5, vi (y5))]) d_Mo_steps_66 (by decide) rfl rfl ?_
      refine J_aload_n (q := 69) 2 d_Mo_steps_68 rfl rfl rfl ?_
      refine J_getF (q := 72) cd_12 (by decide) ft_12_29 rfl g_1080 rfl d_Mo_steps_69 rfl ?_
      refine J_iload (q := 74) 1 d_Mo_steps_72 rfl rfl ?_
      obtain ⟨hi35, h⟩ := gu_some h
      refine J_iald (q := 75) rk_369 (by decide) hi35 d_Mo_steps_74 rfl ?_
      refine J_i2l (q := 76) d_Mo_steps_75 rfl ?_
      refine J_iload_n (q := 77) 3 d_Mo_steps_76 rfl rfl rfl ?_
      refine J_i2l (q := 78) d_Mo_steps_77 rfl ?_
      refine J_lmul (q := 79) d_Mo_steps_78 rfl ?_
      obtain ⟨x36, hx36, h⟩ := ap_eq h
      refine J_nmL hx36 ?_
      refine J_lstore (q := 81) (lv' := [(9, vl (x36)), (7, vl (x34)), (6, vi (r32)), (0, vr 12 (0)), (2, vi (a2)), (3, vl (y3)), (5, vi (y5))]) d_Mo_steps_79 (by decide) rfl rfl ?_
      refine J_lload (q := 83) 1 d_Mo_steps_81 rfl rfl ?_
      refine J_lload_n (q := 84) 5 d_Mo_steps_83 rfl rfl rfl ?_
      refine J_lif_gt (q := 88) (tgt := 99) d_Mo_steps_84 d_Mo_steps_85 (by decide) rfl (fun hc => ?_) (fun hc => ?_)
      · rw [if_pos hc] at h
        refine J_pick [3, 4, 5, 6, 2, 1, 0] rfl ?_
        exact tj_Mo_steps_99 a1 a2 ih _ _ _ _ _ _ h
      · rw [if_neg hc] at h
        refine J_lload_n (q := 89) 5 d_Mo_steps_88 rfl rfl rfl ?_
        refine J_lload (q := 91) 0 d_Mo_steps_89 rfl rfl ?_
        refine J_lif_ge (q := 95) (tgt := 99) d_Mo_steps_91 d_Mo_steps_92 (by decide) rfl (fun hc => ?_) (fun hc => ?_)
        · rw [if_pos hc] at h
          refine J_pick [3, 4, 5, 6, 2, 1, 0] rfl ?_
          exact tj_Mo_steps_99 a1 a2 ih _ _ _ _ _ _ h
        · rw [if_neg hc] at h
          refine J_iconst (q := 96) (v := (1 : Int32)) d_Mo_steps_95 (by decide) rfl ?_
          refine J_goto (q := 100) d_Mo_steps_96 (by decide) ?_
          refine J_pick [3, 4, 5, 6, 2, 1, 0] rfl ?_
          exact tj_Mo_steps_100 a1 a2 ih _ _ _ _ _ _ _ h
def mj_Mo_steps_22 (a1 : Int32) (a2 : Int32) (μ : Mem) : Option (Mem) :=
  ap (((((2 : Int64)) * ((a1).toInt64)) + ((1 : Int64))) * ((64 : Int64))) fun x7 =>
  lp_Mo_steps_38 a1 a2 FU (x7) ((0 : Int32)) μ
theorem tj_Mo_steps_22 (a1 : Int32) (a2 : Int32) {q : Mem}  (μ : Mem) (h : mj_Mo_steps_22 a1 a2  μ = some q) : J (GM true (QQ none q) none y_Mo_steps.name) true b_Mo_steps R_12 20 (1) 0 0 22 [(0, vr 12 (0)), (1, vi (a1)), (2, vi (a2))] [] μ := by
  unfold mj_Mo_steps_22 at h
  refine J_ldc2 (q := 25) d_Mo_steps_22 g_1372 rfl ?_
  refine J_iload_n (q := 26) 1 d_Mo_steps_25 rfl rfl rfl ?_
  refine J_i2l (q := 27) d_Mo_steps_26 rfl ?_
  refine J_lmul (q := 28) d_Mo_steps_27 rfl ?_
  refine J_lconst (q := 29) (v := (1 : Int64)) d_Mo_steps_28 (by decide) rfl ?_
  refine J_ladd (q := 30) d_Mo_steps_29 rfl ?_
  refine J_ldc2 (q := 33) d_Mo_steps_30 g_1444 rfl ?_
  refine J_lmul (q := 34) d_Mo_steps_33 rfl ?_
  obtain ⟨x7, hx7, h⟩ := ap_eq h
  refine J_nmL hx7 ?_
  refine J_lstore_n (q := 35) (lv' := [(3, vl (x7)), (0, vr 12 (0)), (1, vi (a1)), (2, vi (a2))]) d_Mo_steps_34 rfl (by decide) rfl rfl ?_
  refine J_iconst (q := 36) (v := (0 : Int32)) d_Mo_steps_35 (by decide) rfl ?_
  refine J_istore (q := 38) (lv' := [(5, vi ((0 : Int32))), (3, vl (x7)), (0, vr 12 (0)), (1, vi (a1)), (2, vi (a2))]) d_Mo_steps_36 (by decide) rfl rfl ?_
  refine J_pick [2, 4, 1, 0] rfl ?_
  exact tl_Mo_steps_38 a1 a2 FU _ _ _ h
def m_Mo_steps (a1 : Int32) (a2 : Int32) (μ : Mem) : Option (Mem) :=
  lp_Mo_steps_2 a1 a2 (mj_Mo_steps_22 a1 a2) FU ((0 : Int32)) μ
theorem t_Mo_steps {a1 : Int32} {a2 : Int32} {μ : Mem} {q : Mem} (h : m_Mo_steps a1 a2 μ = some q) : JM true (1) y_Mo_steps b_Mo_steps 20 none 0 0 [vr 12 (0), vi (a1), vi (a2)] μ (QQ none q) := by
  unfold m_Mo_steps at h
  refine JM.of pl_Mo_steps (fun ρ => Nat.le_of_ble_eq_true rfl) ?_
  show J (GM true (QQ none q) none y_Mo_steps.name) true b_Mo_steps R_12 20 (1) 0 0 0 [(0, vr 12 (0)), (1, vi (a1)), (2, vi (a2))] [] μ
  refine J_iconst (q := 1) (v := (0 : Int32)) d_Mo_steps_0 (by decide) rfl ?_
  refine J_istore_n (q := 2) (lv' := [(3, vi ((0 : Int32))), (0, vr 12 (0)), (1, vi (a1)), (2, vi (a2))]) d_Mo_steps_1 rfl (by decide) rfl rfl ?_
  refine J_pick [1, 2, 3, 0] rfl ?_
  exact tl_Mo_steps_2 a1 a2 (fun _ h => tj_Mo_steps_22 a1 a2 _ h) FU _ _ h
