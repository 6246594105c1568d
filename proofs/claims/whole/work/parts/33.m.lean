def lp_Mo_run_39 (a1 : Int32) (a2 : Int32) (c_161 : Int32 → Mem → Option (Int32 × Mem)) : Nat → Int32 → Int32 → Mem → Option (Int32 × Mem)
  | 0, _, _, _ => none
  | n + 1, y3, y4, μ =>
  if y3 ≤ y4 then
 (c_161 (y3) μ)
 else
 (gu (((100 : Int32) * a1) + (y4)) 3200 <|
  Option.bind (m_Mo_rounded ((((64 : Int64)) * ((a2).toInt64)) * ((gI μ 347 (0) (((100 : Int32) * a1) + (y4)).toNatClampNeg).toInt64)) ((1024 : Int64)) μ) fun r23 =>
  gu (y4) 100 <|
  ap (sL μ 386 (0) y4.toNatClampNeg (r23)) fun μ25 =>
  gu (((100 : Int32) * a1) + (y4)) 3200 <|
  Option.bind (m_Mo_rounded ((((64 : Int64)) * ((a2).toInt64)) * ((gI μ25 348 (0) (((100 : Int32) * a1) + (y4)).toNatClampNeg).toInt64)) ((1024 : Int64)) μ25) fun r27 =>
  gu (y4) 100 <|
  ap (sL μ25 387 (0) y4.toNatClampNeg (r27)) fun μ29 =>
  gu (y4) 100 <|
  gu (y4) 100 <|
  ap (sL μ29 388 (0) y4.toNatClampNeg (gL μ29 386 (0) y4.toNatClampNeg)) fun μ32 =>
  gu (y4) 100 <|
  gu (y4) 100 <|
  ap (sL μ32 389 (0) y4.toNatClampNeg (gL μ32 387 (0) y4.toNatClampNeg)) fun μ35 =>
  gu (y4) 100 <|
  ap (sI μ35 390 (0) y4.toNatClampNeg ((0 : Int32))) fun μ37 =>
  gu (y4) 100 <|
  ap (sI μ37 391 (0) y4.toNatClampNeg ((0 : Int32))) fun μ39 =>
  ap (y4 + (1 : Int32)) fun x40 =>
  lp_Mo_run_39 a1 a2 c_161 n (y3) (x40) μ39)
theorem tl_Mo_run_39 (a1 : Int32) (a2 : Int32) {q : Int32 × Mem} {c_161 : Int32 → Mem → Option (Int32 × Mem)} (hc_161 : ∀ (y3 : Int32) (μ : Mem), c_161 y3 μ = some q → J (GM true (QQ (some (vi q.1)) q.2) (some (.int)) y_Mo_run.name) true b_Mo_run R_12 7 (4) 0 0 161 [(0, vr 12 (0)), (1, vi (a1)), (3, vi (y3))] [] μ) : ∀ (n : Nat) (y3 : Int32) (y4 : Int32) (μ : Mem), lp_Mo_run_39 a1 a2 c_161 n y3 y4 μ = some q → J (GM true (QQ (some (vi q.1)) q.2) (some (.int)) y_Mo_run.name) true b_Mo_run R_12 7 (4) 0 0 39 [(0, vr 12 (0)), (1, vi (a1)), (2, vi (a2)), (3, vi (y3)), (4, vi (y4))] [] μ := by
  intro n
  induction n with
  | zero => intro _ _ _ h; cases h
  | succ n ih =>
    intro y3 y4 μ h
    unfold lp_Mo_run_39 at h
    refine J_iload (q := 41) 4 d_Mo_run_39 rfl rfl ?_
    refine J_iload_n (q := 42) 3 d_Mo_run_41 rfl rfl rfl ?_
    refine J_icmp_ge (q := 45) (tgt := 161) d_Mo_run_42 (by decide) rfl (fun hc => ?_) (fun hc => ?_)
    · rw [if_pos hc] at h
      refine J_pick [0, 1, 3] rfl ?_
      exact hc_161 _ _ h
    · rw [if_neg hc] at h
      refine J_aload_n (q := 46) 0 d_Mo_run_45 rfl rfl rfl ?_
      refine J_getF (q := 49) cd_12 (by decide) ft_12_46 rfl g_1097 rfl d_Mo_run_46 rfl ?_
      refine J_iload (q := 51) 4 d_Mo_run_49 rfl rfl ?_
      refine J_ldc2 (q := 54) d_Mo_run_51 g_1444 rfl ?_
      refine J_iload_n (q := 55) 2 d_Mo_run_54 rfl rfl rfl ?_
      refine J_i2l (q := 56) d_Mo_run_55 rfl ?_
      refine J_lmul (q := 57) d_Mo_run_56 rfl ?_
      refine J_aload_n (q := 58) 0 d_Mo_run_57 rfl rfl rfl ?_
      refine J_getF (q := 61) cd_12 (by decide) ft_12_7 rfl g_1058 rfl d_Mo_run_58 rfl ?_
      refine J_bipush (q := 63) (v := (100 : Int32)) d_Mo_run_61 (by decide) rfl ?_
      refine J_iload_n (q := 64) 1 d_Mo_run_63 rfl rfl rfl ?_
      refine J_imul (q := 65) d_Mo_run_64 rfl ?_
      refine J_iload (q := 67) 4 d_Mo_run_65 rfl rfl ?_
      refine J_iadd (q := 68) d_Mo_run_67 rfl ?_
      obtain ⟨hi22, h⟩ := gu_some h
      refine J_iald (q := 69) rk_347 (by decide) hi22 d_Mo_run_68 rfl ?_
      refine J_i2l (q := 70) d_Mo_run_69 rfl ?_
      refine J_lmul (q := 71) d_Mo_run_70 rfl ?_
      refine J_ldc2 (q := 74) d_Mo_run_71 g_1471 rfl ?_
      obtain ⟨r23, hr23, h⟩ := bd_some h
      refine J_callSq (rc := 0) (rs := 0) (q := 77) (as := [vl ((((64 : Int64)) * ((a2).toInt64)) * ((gI μ 347 (0) (((100 : Int32) * a1) + (y4)).toNatClampNeg).toInt64)), vl ((1024 : Int64))]) (st := [vi (y4), vr 386 (0)]) g_1370 (t_Mo_rounded hr23) (by decide) (by decide) g_1369 g_1371 g_10 hy_Mo_rounded rfl (Nat.le_of_ble_eq_true rfl) d_Mo_run_74 rfl ?_
      obtain ⟨hi24, h⟩ := gu_some h
      refine J_last (q := 78) rk_386 (by decide) hi24 d_Mo_run_77 rfl ?_
      obtain ⟨μ25, hμ25, h⟩ := ap_eq h
      refine J_nmM hμ25 ?_
      refine J_aload_n (q := 79) 0 d_Mo_run_78 rfl rfl rfl ?_
      refine J_getF (q := 82) cd_12 (by decide) ft_12_47 rfl g_1098 rfl d_Mo_run_79 rfl ?_
      refine J_iload (q := 84) 4 d_Mo_run_82 rfl rfl ?_
      refine J_ldc2 (q := 87) d_Mo_run_84 g_1444 rfl ?_
      refine J_iload_n (q := 88) 2 d_Mo_run_87 rfl rfl rfl ?_
      refine J_i2l (q := 89) d_Mo_run_88 rfl ?_
      refine J_lmul (q := 90) d_Mo_run_89 rfl ?_
      refine J_aload_n (q := 91) 0 d_Mo_run_90 rfl rfl rfl ?_
      refine J_getF (q := 94) cd_12 (by decide) ft_12_8 rfl g_1059 rfl d_Mo_run_91 rfl ?_
      refine J_bipush (q := 96) (v := (100 : Int32)) d_Mo_run_94 (by decide) rfl ?_
      refine J_iload_n (q := 97) 1 d_Mo_run_96 rfl rfl rfl ?_
      refine J_imul (q := 98) d_Mo_run_97 rfl ?_
      refine J_iload (q := 100) 4 d_Mo_run_98 rfl rfl ?_
      refine J_iadd (q := 101) d_Mo_run_100 rfl ?_
      obtain ⟨hi26, h⟩ := gu_some h
      refine J_iald (q := 102) rk_348 (by decide) hi26 d_Mo_run_101 rfl ?_
      refine J_i2l (q := 103) d_Mo_run_102 rfl ?_
      refine J_lmul (q := 104) d_Mo_run_103 rfl ?_
      refine J_ldc2 (q := 107) d_Mo_run_104 g_1471 rfl ?_
      obtain ⟨r27, hr27, h⟩ := bd_some h
      refine J_callSq (rc := 0) (rs := 0) (q := 110) (as := [vl ((((64 : Int64)) * ((a2).toInt64)) * ((gI μ25 348 (0) (((100 : Int32) * a1) + (y4)).toNatClampNeg).toInt64)), vl ((1024 : Int64))]) (st := [vi (y4), vr 387 (0)]) g_1370 (t_Mo_rounded hr27) (by decide) (by decide) g_1369 g_1371 g_10 hy_Mo_rounded rfl (Nat.le_of_ble_eq_true rfl) d_Mo_run_107 rfl ?_
      obtain ⟨hi28, h⟩ := gu_some h
      refine J_last (q := 111) rk_387 (by decide) hi28 d_Mo_run_110 rfl ?_
      obtain ⟨μ29, hμ29, h⟩ := ap_eq h
      refine J_nmM hμ29 ?_
      refine J_aload_n (q := 112) 0 d_Mo_run_111 rfl rfl rfl ?_
      refine J_getF (q := 115) cd_12 (by decide) ft_12_48 rfl g_1099 rfl d_Mo_run_112 rfl ?_
      refine J_iload (q := 117) 4 d_Mo_run_115 rfl rfl ?_
      refine J_aload_n (q := 118) 0 d_Mo_run_117 rfl rfl rfl ?_
      refine J_getF (q := 121) cd_12 (by decide) ft_12_46 rfl g_1097 rfl d_Mo_run_118 rfl ?_
      refine J_iload (q := 123) 4 d_Mo_run_121 rfl rfl ?_
      obtain ⟨hi30, h⟩ := gu_some h
      refine J_lald (q := 124) rk_386 (by decide) hi30 d_Mo_run_123 rfl ?_
      obtain ⟨hi31, h⟩ := gu_some h
      refine J_last (q := 125) rk_388 (by decide) hi31 d_Mo_run_124 rfl ?_
      obtain ⟨μ32, hμ32, h⟩ := ap_eq h
      refine J_nmM hμ32 ?_
      refine J_aload_n (q := 126) 0 d_Mo_run_125 rfl rfl rfl ?_
      refine J_getF (q := 129) cd_12 (by decide) ft_12_49 rfl g_1100 rfl d_Mo_run_126 rfl ?_
      refine J_iload (q := 131) 4 d_Mo_run_129 rfl rfl ?_
      refine J_aload_n (q := 132) 0 d_Mo_run_131 rfl rfl rfl ?_
      refine J_getF (q := 135) cd_12 (by decide) ft_12_47 rfl g_1098 rfl d_Mo_run_132 rfl ?_
      refine J_iload (q := 137) 4 d_Mo_run_135 rfl rfl ?_
      obtain ⟨hi33, h⟩ := gu_some h
      refine J_lald (q := 138) rk_387 (by decide) hi33 d_Mo_run_137 rfl ?_
      obtain ⟨hi34, h⟩ := gu_some h
      refine J_last (q := 139) rk_389 (by decide) hi34 d_Mo_run_138 rfl ?_
      obtain ⟨μ35, hμ35, h⟩ := ap_eq h
      refine J_nmM hμ35 ?_
      refine J_aload_n (q := 140) 0 d_Mo_run_139 rfl rfl rfl ?_
      refine J_getF (q := 143) cd_12 (by decide) ft_12_50 rfl g_1101 rfl d_Mo_run_140 rfl ?_
      refine J_iload (q := 145) 4 d_Mo_run_143 rfl rfl ?_
      refine J_iconst (q := 146) (v := (0 : Int32)) d_Mo_run_145 (by decide) rfl ?_
      obtain ⟨hi36, h⟩ := gu_some h
      refine J_zast (q := 147) (Or.inl rfl) rk_390 (by decide) hi36 d_Mo_run_146 rfl ?_
      obtain ⟨μ37, hμ37, h⟩ := ap_eq h
      refine J_nmM hμ37 ?_
      refine J_aload_n (q := 148) 0 d_Mo_run_147 rfl rfl rfl ?_
      refine J_getF (q := 151) cd_12 (by decide) ft_12_51 rfl g_1102 rfl d_Mo_run_148 rfl ?_
      refine J_iload (q := 153) 4 d_Mo_run_151 rfl rfl ?_
      refine J_iconst (q := 154) (v := (0 : Int32)) d_Mo_run_153 (by decide) rfl ?_
      obtain ⟨hi38, h⟩ := gu_some h
      refine J_zast (q := 155) (Or.inl rfl) rk_391 (by decide) hi38 d_Mo_run_154 rfl ?_
      obtain ⟨μ39, hμ39, h⟩ := ap_eq h
      refine J_nmM hμ39 ?_
      obtain ⟨x40, hx40, h⟩ := ap_eq h
      refine J_iinc (q := 158) (v := x40) (lv' := [(4, vi (x40)), (0, vr 12 (0)), (1, vi (a1)), (2, vi (a2)), (3, vi (y3))]) 4 d_Mo_run_155 rfl (by rw [hx40]; rfl) (by decide) rfl rfl ?_
      refine J_goto (q := 39) d_Mo_run_158 (by decide) ?_
      refine J_pick [1, 2, 3, 4, 0] rfl ?_
      exact ih _ _ _ h
def lp_Mo_run_164 (a1 : Int32) (a2 : Int32) (c_185 : Int32 → Mem → Option (Int32 × Mem)) : Nat → Int32 → Int32 → Mem → Option (Int32 × Mem)
  | 0, _, _, _ => none
  | n + 1, y3, y4, μ =>
  if (16 : Int32) ≤ y4 then
 (c_185 (y3) μ)
 else
 (gu (y4) 16 <|
  ap (sL μ 383 (0) y4.toNatClampNeg ((0 : Int64))) fun μ45 =>
  ap (y4 + (1 : Int32)) fun x46 =>
  lp_Mo_run_164 a1 a2 c_185 n (y3) (x46) μ45)
theorem tl_Mo_run_164 (a1 : Int32) (a2 : Int32) {q : Int32 × Mem} {c_185 : Int32 → Mem → Option (Int32 × Mem)} (hc_185 : ∀ (y3 : Int32) (μ : Mem), c_185 y3 μ = some q → J (GM true (QQ (some (vi q.1)) q.2) (some (.int)) y_Mo_run.name) true b_Mo_run R_12 7 (4) 0 0 185 [(0, vr 12 (0)), (1, vi (a1)), (3, vi (y3))] [] μ) : ∀ (n : Nat) (y3 : Int32) (y4 : Int32) (μ : Mem), lp_Mo_run_164 a1 a2 c_185 n y3 y4 μ = some q → J (GM true (QQ (some (vi q.1)) q.2) (some (.int)) y_Mo_run.name) true b_Mo_run R_12 7 (4) 0 0 164 [(0, vr 12 (0)), (1, vi (a1)), (3, vi (y3)), (4, vi (y4))] [] μ := by
  intro n
  induction n with
  | zero => intro _ _ _ h; cases h
  | succ n ih =>
    intro y3 y4 μ h
    unfold lp_Mo_run_164 at h
    refine J_iload (q := 166) 3 d_Mo_run_164 rfl rfl ?_
    refine J_bipush (q := 168) (v := (16 : Int32)) d_Mo_run_166 (by decide) rfl ?_
    refine J_icmp_ge (q := 171) (tgt := 185) d_Mo_run_168 (by decide) rfl (fun hc => ?_) (fun hc => ?_)
    · rw [if_pos hc] at h
      refine J_pick [0, 1, 2] rfl ?_
      exact hc_185 _ _ h
    · rw [if_neg hc] at h
      refine J_aload_n (q := 172) 0 d_Mo_run_171 rfl rfl rfl ?_
      refine J_getF (q := 175) cd_12 (by decide) ft_12_43 rfl g_1094 rfl d_Mo_run_172 rfl ?_
      refine J_iload (q := 177) 3 d_Mo_run_175 rfl rfl ?_
      refine J_lconst (q := 178) (v := (0 : Int64)) d_Mo_run_177 (by decide) rfl ?_
      obtain ⟨hi44, h⟩ := gu_some h
      refine J_last (q := 179) rk_383 (by decide) hi44 d_Mo_run_178 rfl ?_
      obtain ⟨μ45, hμ45, h⟩ := ap_eq h
      refine J_nmM hμ45 ?_
      obtain ⟨x46, hx46, h⟩ := ap_eq h
      refine J_iinc (q := 182) (v := x46) (lv' := [(4, vi (x46)), (0, vr 12 (0)), (1, vi (a1)), (3, vi (y3))]) 3 d_Mo_run_179 rfl (by rw [hx46]; rfl) (by decide) rfl rfl ?_
      refine J_goto (q := 164) d_Mo_run_182 (by decide) ?_
      refine J_pick [1, 2, 3, 0] rfl ?_
      exact ih _ _ _ h
def mj_Mo_run_250 (a1 : Int32) (a2 : Int32) (c_206 : Int32 → Int32 → Int32 → Mem → Option (Int32 × Mem)) (y3 : Int32) (y4 : Int32) (y5 : Int32) (μ : Mem) : Option (Int32 × Mem) :=
  ap (y5 + (1 : Int32)) fun x54 =>
  c_206 (y3) (y4) (x54) μ
theorem tj_Mo_run_250 (a1 : Int32) (a2 : Int32) {q : Int32 × Mem} {c_206 : Int32 → Int32 → Int32 → Mem → Option (Int32 × Mem)} (hc_206 : ∀ (y3 : Int32) (y4 : Int32) (y5 : Int32) (μ : Mem), c_206 y3 y4 y5 μ = some q → J (GM true (QQ (some (vi q.1)) q.2) (some (.int)) y_Mo_run.name) true b_Mo_run R_12 7 (4) 0 0 206 [(0, vr 12 (0)), (1, vi (a1)), (3, vi (y3)), (4, vi (y4)), (5, vi (y5))] [] μ) (y3 : Int32) (y4 : Int32) (y5 : Int32) (μ : Mem) (h : mj_Mo_run_250 a1 a2 c_206 y3 y4 y5 μ = some q) : J (GM true (QQ (some (vi q.1)) q.2) (some (.int)) y_Mo_run.name) true b_Mo_run R_12 7 (4) 0 0 250 [(0, vr 12 (0)), (1, vi (a1)), (3, vi (y3)), (4, vi (y4)), (5, vi (y5))] [] μ := by
  unfold mj_Mo_run_250 at h
  obtain ⟨x54, hx54, h⟩ := ap_eq h
  refine J_iinc (q := 253) (v := x54) (lv' := [(5, vi (x54)), (0, vr 12 (0)), (1, vi (a1)), (3, vi (y3)), (4, vi (y4))]) 4 d_Mo_run_250 rfl (by rw [hx54]; rfl) (by decide) rfl rfl ?_
  refine J_goto (q := 206) d_Mo_run_253 (by decide) ?_
  refine J_pick [1, 2, 3, 4, 0] rfl ?_
  exact hc_206 _ _ _ _ h
def lp_Mo_run_206 (a1 : Int32) (a2 : Int32) (c_256 : Int32 → Mem → Option (Int32 × Mem)) : Nat → Int32 → Int32 → Int32 → Mem → Option (Int32 × Mem)
  | 0, _, _, _, _ => none
  | n + 1, y3, y4, y5, μ =>
  gu (a1) 32 <|
  if gI μ 357 (0) a1.toNatClampNeg ≤ y4 then
 (c_256 (y3) μ)
 else
 (if gI μ 12 (0) 52 = 0 then
 (if y5 = (1000 : Int32) then
 (ap (sI μ 12 (0) 52 ((6 : Int32))) fun μ60 =>
  mj_Mo_run_250 a1 a2 (lp_Mo_run_206 a1 a2 c_256 n) (y3) (y4) (y5) μ60)
 else
 (Option.bind (m_Mo_does (a1) (y4) μ) fun r57 =>
  ap (r57.2) fun μ58 =>
  ap (r57.1) fun x59 =>
  mj_Mo_run_250 a1 a2 (lp_Mo_run_206 a1 a2 c_256 n) (y3) (x59) (y5) μ58))
 else
 (c_256 (y3) μ))
theorem tl_Mo_run_206 (a1 : Int32) (a2 : Int32) {q : Int32 × Mem} {c_256 : Int32 → Mem → Option (Int32 × Mem)} (hc_256 : ∀ (y3 : Int32) (μ : Mem), c_256 y3 μ = some q → J (GM true (QQ (some (vi q.1)) q.2) (some (.int)) y_Mo_run.name) true b_Mo_run R_12 7 (4) 0 0 256 [(0, vr 12 (0)), (3, vi (y3))] [] μ) : ∀ (n : Nat) (y3 : Int32) (y4 : Int32) (y5 : Int32) (μ : Mem), lp_Mo_run_206 a1 a2 c_256 n y3 y4 y5 μ = some q → J (GM true (QQ (some (vi q.1)) q.2) (some (.int)) y_Mo_run.name) true b_Mo_run R_12 7 (4) 0 0 206 [(0, vr 12 (0)), (1, vi (a1)), (3, vi (y3)), (4, vi (y4)), (5, vi (y5))] [] μ := by
  intro n
  induction n with
  | zero => intro _ _ _ _ h; cases h
  | succ n ih =>
    intro y3 y4 y5 μ h
    unfold lp_Mo_run_206 at h
    refine J_iload (q := 208) 3 d_Mo_run_206 rfl rfl ?_
    refine J_aload_n (q := 209) 0 d_Mo_run_208 rfl rfl rfl ?_
    refine J_getF (q := 212) cd_12 (by decide) ft_12_17 rfl g_1068 rfl d_Mo_run_209 rfl ?_
    refine J_iload_n (q := 213) 1 d_Mo_run_212 rfl rfl rfl ?_
    obtain ⟨hi56, h⟩ := gu_some h
    refine J_iald (q := 214) rk_357 (by decide) hi56 d_Mo_run_213 rfl ?_
    refine J_icmp_ge (q := 217) (tgt := 256) d_Mo_run_214 (by decide) rfl (fun hc => ?_) (fun hc => ?_)
    · rw [if_pos hc] at h
      refine J_pick [0, 2] rfl ?_
      exact hc_256 _ _ h
    · rw [if_neg hc] at h
      refine J_aload_n (q := 218) 0 d_Mo_run_217 rfl rfl rfl ?_
      refine J_getI (q := 221) (j := 52) cd_12 (by decide) (Or.inl rfl) g_1103 rfl d_Mo_run_218 rfl ?_
      refine J_if_ne (q := 224) (tgt := 256) d_Mo_run_221 (by decide) rfl (fun hc => ?_) (fun hc => ?_)
      · rw [if_neg hc] at h
        refine J_pick [0, 2] rfl ?_
        exact hc_256 _ _ h
      · rw [if_pos hc] at h
        refine J_iload (q := 226) 4 d_Mo_run_224 rfl rfl ?_
        refine J_sipush (q := 229) (v := (1000 : Int32)) d_Mo_run_226 (by decide) rfl ?_
        refine J_icmp_ne (q := 232) (tgt := 241) d_Mo_run_229 (by decide) rfl (fun hc => ?_) (fun hc => ?_)
        · rw [if_neg hc] at h
          refine J_aload_n (q := 242) 0 d_Mo_run_241 rfl rfl rfl ?_
          refine J_iload_n (q := 243) 1 d_Mo_run_242 rfl rfl rfl ?_
          refine J_iload (q := 245) 3 d_Mo_run_243 rfl rfl ?_
          obtain ⟨r57, hr57, h⟩ := bd_some h
          refine J_callVq (rc := 0) (rs := 0) (q := 248) (as := [vi (a1), vi (y4)]) (st := []) (by decide) rfl g_1474 sel_Mo_does (t_Mo_does hr57) (by decide) (by decide) g_1472 g_1475 g_10 hy_Mo_does rfl (Nat.le_of_ble_eq_true rfl) d_Mo_run_245 rfl ?_
          obtain ⟨μ58, hμ58, h⟩ := ap_eq h
          refine J_nmM hμ58 ?_
          obtain ⟨x59, hx59, h⟩ := ap_eq h
          refine J_nmI hx59 ?_
          refine J_istore (q := 250) (lv' := [(4, vi (x59)), (0, vr 12 (0)), (1, vi (a1)), (3, vi (y3)), (5, vi (y5))]) d_Mo_run_248 (by decide) rfl rfl ?_
          refine J_pick [1, 2, 3, 0, 4] rfl ?_
          exact tj_Mo_run_250 a1 a2 ih _ _ _ _ h
        · rw [if_pos hc] at h
          refine J_aload_n (q := 233) 0 d_Mo_run_232 rfl rfl rfl ?_
          refine J_bipush (q := 235) (v := (6 : Int32)) d_Mo_run_233 (by decide) rfl ?_
          refine J_putI (q := 238) (j := 52) cd_12 (by decide) rfl rfl rfl g_1103 rfl d_Mo_run_235 rfl ?_
          obtain ⟨μ60, hμ60, h⟩ := ap_eq h
          refine J_nmM hμ60 ?_
          refine J_goto (q := 250) d_Mo_run_238 (by decide) ?_
          refine J_pick [0, 1, 2, 3, 4] rfl ?_
          exact tj_Mo_run_250 a1 a2 ih _ _ _ _ h
def lp_Mo_run_276 (a1 : Int32) (a2 : Int32) : Nat → Int32 → Int32 → Mem → Option (Int32 × Mem)
  | 0, _, _, _ => none
  | n + 1, y3, y6, μ =>
  if y3 ≤ y6 then
 (some (((0 : Int32), μ)))
 else
 (gu (y6) 100 <|
  gu (y6) 100 <|
  ap (sI μ 394 (0) y6.toNatClampNeg ((gL μ 388 (0) y6.toNatClampNeg).toInt32)) fun μ79 =>
  gu (y6) 100 <|
  gu (y6) 100 <|
  ap (sI μ79 395 (0) y6.toNatClampNeg ((gL μ79 389 (0) y6.toNatClampNeg).toInt32)) fun μ82 =>
  gu (y6) 100 <|
  gu (y6) 100 <|
  z01 (gI μ82 390 (0) y6.toNatClampNeg) <|
  ap (sI μ82 396 (0) y6.toNatClampNeg (gI μ82 390 (0) y6.toNatClampNeg)) fun μ86 =>
  gu (y6) 100 <|
  gu (y6) 100 <|
  z01 (gI μ86 391 (0) y6.toNatClampNeg) <|
  ap (sI μ86 397 (0) y6.toNatClampNeg (gI μ86 391 (0) y6.toNatClampNeg)) fun μ90 =>
  ap (y6 + (1 : Int32)) fun x91 =>
  lp_Mo_run_276 a1 a2 n (y3) (x91) μ90)
theorem tl_Mo_run_276 (a1 : Int32) (a2 : Int32) {q : Int32 × Mem}  : ∀ (n : Nat) (y3 : Int32) (y6 : Int32) (μ : Mem), lp_Mo_run_276 a1 a2 n y3 y6 μ = some q → J (GM true (QQ (some (vi q.1)) q.2) (some (.int)) y_Mo_run.name) true b_Mo_run R_12 7 (4) 0 0 276 [(0, vr 12 (0)), (3, vi (y3)), (6, vi (y6))] [] μ := by
  intro n
  induction n with
  | zero => intro _ _ _ h; cases h
  | succ n ih =>
    intro y3 y6 μ h
    unfold lp_Mo_run_276 at h
    refine J_iload (q := 278) 2 d_Mo_run_276 rfl rfl ?_
    refine J_iload_n (q := 279) 1 d_Mo_run_278 rfl rfl rfl ?_
    refine J_icmp_ge (q := 282) (tgt := 346) d_Mo_run_279 (by decide) rfl (fun hc => ?_) (fun hc => ?_)
    · rw [if_pos hc] at h
      refine J_iconst (q := 347) (v := (0 : Int32)) d_Mo_run_346 (by decide) rfl ?_
      obtain rfl := Option.some.inj h
      exact J_iret rfl ⟨rfl, rfl⟩ d_Mo_run_347
    · rw [if_neg hc] at h
      refine J_aload_n (q := 283) 0 d_Mo_run_282 rfl rfl rfl ?_
      refine J_getF (q := 286) cd_12 (by decide) ft_12_54 rfl g_1105 rfl d_Mo_run_283 rfl ?_
      refine J_iload (q := 288) 2 d_Mo_run_286 rfl rfl ?_
      refine J_aload_n (q := 289) 0 d_Mo_run_288 rfl rfl rfl ?_
      refine J_getF (q := 292) cd_12 (by decide) ft_12_48 rfl g_1099 rfl d_Mo_run_289 rfl ?_
      refine J_iload (q := 294) 2 d_Mo_run_292 rfl rfl ?_
      obtain ⟨hi77, h⟩ := gu_some h
      refine J_lald (q := 295) rk_388 (by decide) hi77 d_Mo_run_294 rfl ?_
      refine J_l2i (q := 296) d_Mo_run_295 rfl ?_
      obtain ⟨hi78, h⟩ := gu_some h
      refine J_iast (q := 297) rk_394 (by decide) hi78 d_Mo_run_296 rfl ?_
      obtain ⟨μ79, hμ79, h⟩ := ap_eq h
      refine J_nmM hμ79 ?_
      refine J_aload_n (q := 298) 0 d_Mo_run_297 rfl rfl rfl ?_
      refine J_getF (q := 301) cd_12 (by decide) ft_12_55 rfl g_1106 rfl d_Mo_run_298 rfl ?_
      refine J_iload (q := 303) 2 d_Mo_run_301 rfl rfl ?_
      refine J_aload_n (q := 304) 0 d_Mo_run_303 rfl rfl rfl ?_
      refine J_getF (q := 307) cd_12 (by decide) ft_12_49 rfl g_1100 rfl d_Mo_run_304 rfl ?_
      refine J_iload (q := 309) 2 d_Mo_run_307 rfl rfl ?_
      obtain ⟨hi80, h⟩ := gu_some h
      refine J_lald (q := 310) rk_389 (by decide) hi80 d_Mo_run_309 rfl ?_
      refine J_l2i (q := 311) d_Mo_run_310 rfl ?_
      obtain ⟨hi81, h⟩ := gu_some h
      refine J_iast (q := 312) rk_395 (by decide) hi81 d_Mo_run_311 rfl ?_
      obtain ⟨μ82, hμ82, h⟩ := ap_eq h
      refine J_nmM hμ82 ?_
      refine J_aload_n (q := 313) 0 d_Mo_run_312 rfl rfl rfl ?_
      refine J_getF (q := 316) cd_12 (by decide) ft_12_56 rfl g_1107 rfl d_Mo_run_313 rfl ?_
      refine J_iload (q := 318) 2 d_Mo_run_316 rfl rfl ?_
      refine J_aload_n (q := 319) 0 d_Mo_run_318 rfl rfl rfl ?_
      refine J_getF (q := 322) cd_12 (by decide) ft_12_50 rfl g_1101 rfl d_Mo_run_319 rfl ?_
      refine J_iload (q := 324) 2 d_Mo_run_322 rfl rfl ?_
      obtain ⟨hi83, h⟩ := gu_some h
      refine J_zald (q := 325) rk_390 (by decide) hi83 d_Mo_run_324 rfl ?_
      obtain ⟨hi84, h⟩ := gu_some h
      obtain ⟨hg85, h⟩ := z01_some h
      refine J_zast (q := 326) hg85 rk_396 (by decide) hi84 d_Mo_run_325 rfl ?_
      obtain ⟨μ86, hμ86, h⟩ := ap_eq h
      refine J_nmM hμ86 ?_
      refine J_aload_n (q := 327) 0 d_Mo_run_326 rfl rfl rfl ?_
      refine J_getF (q := 330) cd_12 (by decide) ft_12_57 rfl g_1108 rfl d_Mo_run_327 rfl ?_
      refine J_iload (q := 332) 2 d_Mo_run_330 rfl rfl ?_
      refine J_aload_n (q := 333) 0 d_Mo_run_332 rfl rfl rfl ?_
      refine J_getF (q := 336) cd_12 (by decide) ft_12_51 rfl g_1102 rfl d_Mo_run_333 rfl ?_
      refine J_iload (q := 338) 2 d_Mo_run_336 rfl rfl ?_
      obtain ⟨hi87, h⟩ := gu_some h
      refine J_zald (q := 339) rk_391 (by decide) hi87 d_Mo_run_338 rfl ?_
      obtain ⟨hi88, h⟩ := gu_some h
      obtain ⟨hg89, h⟩ := z01_some h
      refine J_zast (q := 340) hg89 rk_397 (by decide) hi88 d_Mo_run_339 rfl ?_
      obtain ⟨μ90, hμ90, h⟩ := ap_eq h
      refine J_nmM hμ90 ?_
      obtain ⟨x91, hx91, h⟩ := ap_eq h
      refine J_iinc (q := 343) (v := x91) (lv' := [(6, vi (x91)), (0, vr 12 (0)), (3, vi (y3))]) 2 d_Mo_run_340 rfl (by rw [hx91]; rfl) (by decide) rfl rfl ?_
      refine J_goto (q := 276) d_Mo_run_343 (by decide) ?_
      refine J_pick [1, 2, 0] rfl ?_
      exact ih _ _ _ h
def mj_Mo_run_256 (a1 : Int32) (a2 : Int32) (y3 : Int32) (μ : Mem) : Option (Int32 × Mem) :=
  if gI μ 12 (0) 52 ≤ 0 then
 (ap (sI μ 12 (0) 53 (y3)) fun μ61 =>
  lp_Mo_run_276 a1 a2 FU (y3) ((0 : Int32)) μ61)
 else
 (some ((gI μ 12 (0) 52, μ)))
theorem tj_Mo_run_256 (a1 : Int32) (a2 : Int32) {q : Int32 × Mem}  (y3 : Int32) (μ : Mem) (h : mj_Mo_run_256 a1 a2 y3 μ = some q) : J (GM true (QQ (some (vi q.1)) q.2) (some (.int)) y_Mo_run.name) true b_Mo_run R_12 7 (4) 0 0 256 [(0, vr 12 (0)), (3, vi (y3))] [] μ := by
  unfold mj_Mo_run_256 at h
  refine J_aload_n (q := 257) 0 d_Mo_run_256 rfl rfl rfl ?_
  refine J_getI (q := 260) (j := 52) cd_12 (by decide) (Or.inl rfl) g_1103 rfl d_Mo_run_257 rfl ?_
  refine J_if_le (q := 263) (tgt := 268) d_Mo_run_260 (by decide) rfl (fun hc => ?_) (fun hc => ?_)
  · rw [if_pos hc] at h
    refine J_aload_n (q := 269) 0 d_Mo_run_268 rfl rfl rfl ?_
    refine J_iload_n (q := 270) 1 d_Mo_run_269 rfl rfl rfl ?_
    refine J_putI (q := 273) (j := 53) cd_12 (by decide) rfl rfl rfl g_1104 rfl d_Mo_run_270 rfl ?_
    obtain ⟨μ61, hμ61, h⟩ := ap_eq h
    refine J_nmM hμ61 ?_
    refine J_iconst (q := 274) (v := (0 : Int32)) d_Mo_run_273 (by decide) rfl ?_
    refine J_istore (q := 276) (lv' := [(6, vi ((0 : Int32))), (0, vr 12 (0)), (3, vi (y3))]) d_Mo_run_274 (by decide) rfl rfl ?_
    refine J_pick [1, 2, 0] rfl ?_
    exact tl_Mo_run_276 a1 a2 FU _ _ _ h
  · rw [if_neg hc] at h
    refine J_aload_n (q := 264) 0 d_Mo_run_263 rfl rfl rfl ?_
    refine J_getI (q := 267) (j := 52) cd_12 (by decide) (Or.inl rfl) g_1103 rfl d_Mo_run_264 rfl ?_
    obtain rfl := Option.some.inj h
    exact J_iret rfl ⟨rfl, rfl⟩ d_Mo_run_267
def mj_Mo_run_185 (a1 : Int32) (a2 : Int32) (y3 : Int32) (μ : Mem) : Option (Int32 × Mem) :=
  ap (sI μ 12 (0) 42 ((0 : Int32))) fun μ47 =>
  ap (sI μ47 12 (0) 45 ((0 : Int32))) fun μ48 =>
  ap (sI μ48 12 (0) 52 ((0 : Int32))) fun μ49 =>
  lp_Mo_run_206 a1 a2 (mj_Mo_run_256 a1 a2) FU (y3) ((0 : Int32)) ((0 : Int32)) μ49
theorem tj_Mo_run_185 (a1 : Int32) (a2 : Int32) {q : Int32 × Mem}  (y3 : Int32) (μ : Mem) (h : mj_Mo_run_185 a1 a2 y3 μ = some q) : J (GM true (QQ (some (vi q.1)) q.2) (some (.int)) y_Mo_run.name) true b_Mo_run R_12 7 (4) 0 0 185 [(0, vr 12 (0)), (1, vi (a1)), (3, vi (y3))] [] μ := by
  unfold mj_Mo_run_185 at h
  refine J_aload_n (q := 186) 0 d_Mo_run_185 rfl rfl rfl ?_
  refine J_iconst (q := 187) (v := (0 : Int32)) d_Mo_run_186 (by decide) rfl ?_
  refine J_putI (q := 190) (j := 42) cd_12 (by decide) rfl rfl rfl g_1093 rfl d_Mo_run_187 rfl ?_
  obtain ⟨μ47, hμ47, h⟩ := ap_eq h
  refine J_nmM hμ47 ?_
  refine J_aload_n (q := 191) 0 d_Mo_run_190 rfl rfl rfl ?_
  refine J_iconst (q := 192) (v := (0 : Int32)) d_Mo_run_191 (by decide) rfl ?_
  refine J_putI (q := 195) (j := 45) cd_12 (by decide) rfl rfl rfl g_1096 rfl d_Mo_run_192 rfl ?_
  obtain ⟨μ48, hμ48, h⟩ := ap_eq h
  refine J_nmM hμ48 ?_
  refine J_aload_n (q := 196) 0 d_Mo_run_195 rfl rfl rfl ?_
  refine J_iconst (q := 197) (v := (0 : Int32)) d_Mo_run_196 (by decide) rfl ?_
  refine J_putI (q := 200) (j := 52) cd_12 (by decide) rfl rfl rfl g_1103 rfl d_Mo_run_197 rfl ?_
  obtain ⟨μ49, hμ49, h⟩ := ap_eq h
  refine J_nmM hμ49 ?_
  refine J_iconst (q := 201) (v := (0 : Int32)) d_Mo_run_200 (by decide) rfl ?_
  refine J_istore (q := 203) (lv' := [(4, vi ((0 : Int32))), (0, vr 12 (0)), (1, vi (a1)), (3, vi (y3))]) d_Mo_run_201 (by decide) rfl rfl ?_
  refine J_iconst (q := 204) (v := (0 : Int32)) d_Mo_run_203 (by decide) rfl ?_
  refine J_istore (q := 206) (lv' := [(5, vi ((0 : Int32))), (4, vi ((0 : Int32))), (0, vr 12 (0)), (1, vi (a1)), (3, vi (y3))]) d_Mo_run_204 (by decide) rfl rfl ?_
  refine J_pick [2, 3, 4, 1, 0] rfl ?_
  exact tl_Mo_run_206 a1 a2 (fun _ _ h => tj_Mo_run_256 a1 a2 _ _ h) FU _ _ _ _ h
def mj_Mo_run_161 (a1 : Int32) (a2 : Int32) (y3 : Int32) (μ : Mem) : Option (Int32 × Mem) :=
  lp_Mo_run_164 a1 a2 (mj_Mo_run_185 a1 a2) FU (y3) ((0 : Int32)) μ
theorem tj_Mo_run_161 (a1 : Int32) (a2 : Int32) {q : Int32 × Mem}  (y3 : Int32) (μ : Mem) (h : mj_Mo_run_161 a1 a2 y3 μ = some q) : J (GM true (QQ (some (vi q.1)) q.2) (some (.int)) y_Mo_run.name) true b_Mo_run R_12 7 (4) 0 0 161 [(0, vr 12 (0)), (1, vi (a1)), (3, vi (y3))] [] μ := by
  unfold mj_Mo_run_161 at h
  refine J_iconst (q := 162) (v := (0 : Int32)) d_Mo_run_161 (by decide) rfl ?_
  refine J_istore (q := 164) (lv' := [(4, vi ((0 : Int32))), (0, vr 12 (0)), (1, vi (a1)), (3, vi (y3))]) d_Mo_run_162 (by decide) rfl rfl ?_
  refine J_pick [1, 2, 3, 0] rfl ?_
  exact tl_Mo_run_164 a1 a2 (fun _ _ h => tj_Mo_run_185 a1 a2 _ _ h) FU _ _ _ h
def m_Mo_run (a1 : Int32) (a2 : Int32) (μ : Mem) : Option (Int32 × Mem) :=
  if (m_Mo_isLetter (a1) μ) then
 (gu (a1) 32 <|
  if 0 < gI μ 352 (0) a1.toNatClampNeg then
 (some (((-1 : Int32), μ)))
 else
 (if a2 < (4 : Int32) then
 (some (((-1 : Int32), μ)))
 else
 (if a2 ≤ (32 : Int32) then
 (Option.bind (m_Mo_closed (a1) μ) fun r2 =>
  lp_Mo_run_39 a1 a2 (mj_Mo_run_161 a1 a2) FU (r2) ((0 : Int32)) μ)
 else
 (some (((-1 : Int32), μ))))))
 else
 (some (((-1 : Int32), μ)))
theorem t_Mo_run {a1 : Int32} {a2 : Int32} {μ : Mem} {q : Int32 × Mem} (h : m_Mo_run a1 a2 μ = some q) : JM true (4) y_Mo_run b_Mo_run 7 (some (.int)) 0 0 [vr 12 (0), vi (a1), vi (a2)] μ (QQ (some (vi q.1)) q.2) := by
  unfold m_Mo_run at h
  refine JM.of pl_Mo_run (fun ρ => Nat.le_of_ble_eq_true rfl) ?_
  show J (GM true (QQ (some (vi q.1)) q.2) (some (.int)) y_Mo_run.name) true b_Mo_run R_12 7 (4) 0 0 0 [(0, vr 12 (0)), (1, vi (a1)), (2, vi (a2))] [] μ
  refine J_aload_n (q := 1) 0 d_Mo_run_0 rfl rfl rfl ?_
  refine J_iload_n (q := 2) 1 d_Mo_run_1 rfl rfl rfl ?_
  refine J_callVq (rc := 0) (rs := 0) (q := 5) (as := [vi (a1)]) (st := []) (by decide) rfl g_1287 sel_Mo_isLetter (t_Mo_isLetter rfl) (by decide) (by decide) g_1285 g_1288 g_10 hy_Mo_isLetter rfl (Nat.le_of_ble_eq_true rfl) d_Mo_run_2 rfl ?_
  refine J_ifB_eq (q := 8) (tgt := 28) d_Mo_run_5 (by decide) rfl (fun hb => ?_) (fun hb => ?_)
  · rw [iB_f hb] at h
    refine J_iconst (q := 29) (v := (-1 : Int32)) d_Mo_run_28 (by decide) rfl ?_
    obtain rfl := Option.some.inj h
    exact J_iret rfl ⟨rfl, rfl⟩ d_Mo_run_29
  · rw [iB_t hb] at h
    refine J_aload_n (q := 9) 0 d_Mo_run_8 rfl rfl rfl ?_
    refine J_getF (q := 12) cd_12 (by decide) ft_12_12 rfl g_1063 rfl d_Mo_run_9 rfl ?_
    refine J_iload_n (q := 13) 1 d_Mo_run_12 rfl rfl rfl ?_
    obtain ⟨hi1, h⟩ := gu_some h
    refine J_iald (q := 14) rk_352 (by decide) hi1 d_Mo_run_13 rfl ?_
    refine J_if_gt (q := 17) (tgt := 28) d_Mo_run_14 (by decide) rfl (fun hc => ?_) (fun hc => ?_)
    · rw [if_pos hc] at h
      refine J_iconst (q := 29) (v := (-1 : Int32)) d_Mo_run_28 (by decide) rfl ?_
      obtain rfl := Option.some.inj h
      exact J_iret rfl ⟨rfl, rfl⟩ d_Mo_run_29
    · rw [if_neg hc] at h
      refine J_iload_n (q := 18) 2 d_Mo_run_17 rfl rfl rfl ?_
      refine J_iconst (q := 19) (v := (4 : Int32)) d_Mo_run_18 (by decide) rfl ?_
      refine J_icmp_lt (q := 22) (tgt := 28) d_Mo_run_19 (by decide) rfl (fun hc => ?_) (fun hc => ?_)
      · rw [if_pos hc] at h
        refine J_iconst (q := 29) (v := (-1 : Int32)) d_Mo_run_28 (by decide) rfl ?_
        obtain rfl := Option.some.inj h
        exact J_iret rfl ⟨rfl, rfl⟩ d_Mo_run_29
      · rw [if_neg hc] at h
        refine J_iload_n (q := 23) 2 d_Mo_run_22 rfl rfl rfl ?_
        refine J_bipush (q := 25) (v := (32 : Int32)) d_Mo_run_23 (by decide) rfl ?_
        refine J_icmp_le (q := 28) (tgt := 30) d_Mo_run_25 (by decide) rfl (fun hc => ?_) (fun hc => ?_)
        · rw [if_pos hc] at h
          refine J_aload_n (q := 31) 0 d_Mo_run_30 rfl rfl rfl ?_
          refine J_iload_n (q := 32) 1 d_Mo_run_31 rfl rfl rfl ?_
          obtain ⟨r2, hr2, h⟩ := bd_some h
          refine J_callVq (rc := 0) (rs := 0) (q := 35) (as := [vi (a1)]) (st := []) (by decide) rfl g_1298 sel_Mo_closed (t_Mo_closed hr2) (by decide) (by decide) g_1296 g_1299 g_10 hy_Mo_closed rfl (Nat.le_of_ble_eq_true rfl) d_Mo_run_32 rfl ?_
          refine J_istore_n (q := 36) (lv' := [(3, vi (r2)), (0, vr 12 (0)), (1, vi (a1)), (2, vi (a2))]) d_Mo_run_35 rfl (by decide) rfl rfl ?_
          refine J_iconst (q := 37) (v := (0 : Int32)) d_Mo_run_36 (by decide) rfl ?_
          refine J_istore (q := 39) (lv' := [(4, vi ((0 : Int32))), (3, vi (r2)), (0, vr 12 (0)), (1, vi (a1)), (2, vi (a2))]) d_Mo_run_37 (by decide) rfl rfl ?_
          refine J_pick [2, 3, 4, 1, 0] rfl ?_
          exact tl_Mo_run_39 a1 a2 (fun _ _ h => tj_Mo_run_161 a1 a2 _ _ h) FU _ _ _ h
        · rw [if_neg hc] at h
          refine J_iconst (q := 29) (v := (-1 : Int32)) d_Mo_run_28 (by decide) rfl ?_
          obtain rfl := Option.some.inj h
          exact J_iret rfl ⟨rfl, rfl⟩ d_Mo_run_29
def m_Mo_fitted2 (a1 : Int32) (a2 : Int32) (μ : Mem) : Option (Int32) :=
  if a1 < 0 then
 (some ((-2000000000 : Int32)))
 else
 (if a1 < gI μ 12 (0) 53 then
 (if a2 = (0 : Int32) then
 (gu (a1) 100 <|
  some (gI μ 394 (0) a1.toNatClampNeg))
 else if a2 = (1 : Int32) then
 (gu (a1) 100 <|
  some (gI μ 395 (0) a1.toNatClampNeg))
 else if a2 = (2 : Int32) then
 (gu (a1) 100 <|
  if gI μ 396 (0) a1.toNatClampNeg = 0 then
 (some ((0 : Int32)))
 else
 (some ((1 : Int32))))
 else if a2 = (3 : Int32) then
 (gu (a1) 100 <|
  if gI μ 397 (0) a1.toNatClampNeg = 0 then
 (some ((0 : Int32)))
 else
 (some ((1 : Int32))))
 else (some ((-2000000000 : Int32))))
 else
 (some ((-2000000000 : Int32))))
theorem t_Mo_fitted2 {a1 : Int32} {a2 : Int32} {μ : Mem} {q : Int32} (h : m_Mo_fitted2 a1 a2 μ = some q) : JM true (0) y_Mo_fitted2 b_Mo_fitted2 3 (some (.int)) 0 0 [vr 12 (0), vi (a1), vi (a2)] μ (QQ (some (vi q)) μ) := by
  unfold m_Mo_fitted2 at h
  refine JM.of pl_Mo_fitted2 (fun ρ => Nat.le_of_ble_eq_true rfl) ?_
  show J (GM true (QQ (some (vi q)) μ) (some (.int)) y_Mo_fitted2.name) true b_Mo_fitted2 R_12 3 (0) 0 0 0 [(0, vr 12 (0)), (1, vi (a1)), (2, vi (a2))] [] μ
  refine J_iload_n (q := 1) 1 d_Mo_fitted2_0 rfl rfl rfl ?_
  refine J_if_lt (q := 4) (tgt := 12) d_Mo_fitted2_1 (by decide) rfl (fun hc => ?_) (fun hc => ?_)
  · rw [if_pos hc] at h
    refine J_ldcw (q := 15) d_Mo_fitted2_12 g_1520 rfl ?_
    obtain rfl := Option.some.inj h
    exact J_iret rfl ⟨rfl, rfl⟩ d_Mo_fitted2_15
  · rw [if_neg hc] at h
    refine J_iload_n (q := 5) 1 d_Mo_fitted2_4 rfl rfl rfl ?_
    refine J_aload_n (q := 6) 0 d_Mo_fitted2_5 rfl rfl rfl ?_
    refine J_getI (q := 9) (j := 53) cd_12 (by decide) (Or.inl rfl) g_1104 rfl d_Mo_fitted2_6 rfl ?_
    refine J_icmp_lt (q := 12) (tgt := 16) d_Mo_fitted2_9 (by decide) rfl (fun hc => ?_) (fun hc => ?_)
    · rw [if_pos hc] at h
      refine J_iload_n (q := 17) 2 d_Mo_fitted2_16 rfl rfl rfl ?_
      by_cases hk0 : a2 = (0 : Int32)
      · rw [if_pos hk0] at h
        refine J_swIn (tgt := 48) d_Mo_fitted2_17 (by rw [hk0]; decide) (by rw [hk0]; decide) (by rw [hk0]; rfl) (by decide) ?_
        refine J_aload_n (q := 49) 0 d_Mo_fitted2_48 rfl rfl rfl ?_
        refine J_getF (q := 52) cd_12 (by decide) ft_12_54 rfl g_1105 rfl d_Mo_fitted2_49 rfl ?_
        refine J_iload_n (q := 53) 1 d_Mo_fitted2_52 rfl rfl rfl ?_
        obtain ⟨hi1, h⟩ := gu_some h
        refine J_iald (q := 54) rk_394 (by decide) hi1 d_Mo_fitted2_53 rfl ?_
        obtain rfl := Option.some.inj h
        exact J_iret rfl ⟨rfl, rfl⟩ d_Mo_fitted2_54
      rw [if_neg hk0] at h
      by_cases hk1 : a2 = (1 : Int32)
      · rw [if_pos hk1] at h
        refine J_swIn (tgt := 55) d_Mo_fitted2_17 (by rw [hk1]; decide) (by rw [hk1]; decide) (by rw [hk1]; rfl) (by decide) ?_
        refine J_aload_n (q := 56) 0 d_Mo_fitted2_55 rfl rfl rfl ?_
        refine J_getF (q := 59) cd_12 (by decide) ft_12_55 rfl g_1106 rfl d_Mo_fitted2_56 rfl ?_
        refine J_iload_n (q := 60) 1 d_Mo_fitted2_59 rfl rfl rfl ?_
        obtain ⟨hi2, h⟩ := gu_some h
        refine J_iald (q := 61) rk_395 (by decide) hi2 d_Mo_fitted2_60 rfl ?_
        obtain rfl := Option.some.inj h
        exact J_iret rfl ⟨rfl, rfl⟩ d_Mo_fitted2_61
      rw [if_neg hk1] at h
      by_cases hk2 : a2 = (2 : Int32)
      · rw [if_pos hk2] at h
        refine J_swIn (tgt := 62) d_Mo_fitted2_17 (by rw [hk2]; decide) (by rw [hk2]; decide) (by rw [hk2]; rfl) (by decide) ?_
        refine J_aload_n (q := 63) 0 d_Mo_fitted2_62 rfl rfl rfl ?_
        refine J_getF (q := 66) cd_12 (by decide) ft_12_56 rfl g_1107 rfl d_Mo_fitted2_63 rfl ?_
        refine J_iload_n (q := 67) 1 d_Mo_fitted2_66 rfl rfl rfl ?_
        obtain ⟨hi3, h⟩ := gu_some h
        refine J_zald (q := 68) rk_396 (by decide) hi3 d_Mo_fitted2_67 rfl ?_
        refine J_if_eq (q := 71) (tgt := 75) d_Mo_fitted2_68 (by decide) rfl (fun hc => ?_) (fun hc => ?_)
        · rw [if_pos hc] at h
          refine J_iconst (q := 76) (v := (0 : Int32)) d_Mo_fitted2_75 (by decide) rfl ?_
          obtain rfl := Option.some.inj h
          exact J_iret rfl ⟨rfl, rfl⟩ d_Mo_fitted2_76
        · rw [if_neg hc] at h
          refine J_iconst (q := 72) (v := (1 : Int32)) d_Mo_fitted2_71 (by decide) rfl ?_
          refine J_goto (q := 76) d_Mo_fitted2_72 (by decide) ?_
          obtain rfl := Option.some.inj h
          exact J_iret rfl ⟨rfl, rfl⟩ d_Mo_fitted2_76
      rw [if_neg hk2] at h
      by_cases hk3 : a2 = (3 : Int32)
      · rw [if_pos hk3] at h
        refine J_swIn (tgt := 77) d_Mo_fitted2_17 (by rw [hk3]; decide) (by rw [hk3]; decide) (by rw [hk3]; rfl) (by decide) ?_
        refine J_aload_n (q := 78) 0 d_Mo_fitted2_77 rfl rfl rfl ?_
        refine J_getF (q := 81) cd_12 (by decide) ft_12_57 rfl g_1108 rfl d_Mo_fitted2_78 rfl ?_
        refine J_iload_n (q := 82) 1 d_Mo_fitted2_81 rfl rfl rfl ?_
        obtain ⟨hi4, h⟩ := gu_some h
        refine J_zald (q := 83) rk_397 (by decide) hi4 d_Mo_fitted2_82 rfl ?_
        refine J_if_eq (q := 86) (tgt := 90) d_Mo_fitted2_83 (by decide) rfl (fun hc => ?_) (fun hc => ?_)
        · rw [if_pos hc] at h
          refine J_iconst (q := 91) (v := (0 : Int32)) d_Mo_fitted2_90 (by decide) rfl ?_
          obtain rfl := Option.some.inj h
          exact J_iret rfl ⟨rfl, rfl⟩ d_Mo_fitted2_91
        · rw [if_neg hc] at h
          refine J_iconst (q := 87) (v := (1 : Int32)) d_Mo_fitted2_86 (by decide) rfl ?_
          refine J_goto (q := 91) d_Mo_fitted2_87 (by decide) ?_
          obtain rfl := Option.some.inj h
          exact J_iret rfl ⟨rfl, rfl⟩ d_Mo_fitted2_91
      rw [if_neg hk3] at h
      refine J_swOut (tgt := 92) d_Mo_fitted2_17 (by have e0 := lv_neT hk0 (a := 0) (by decide); have e1 := lv_neT hk1 (a := 1) (by decide); have e2 := lv_neT hk2 (a := 2) (by decide); have e3 := lv_neT hk3 (a := 3) (by decide); omega) (by decide) ?_
      refine J_ldcw (q := 95) d_Mo_fitted2_92 g_1520 rfl ?_
      obtain rfl := Option.some.inj h
      exact J_iret rfl ⟨rfl, rfl⟩ d_Mo_fitted2_95
    · rw [if_neg hc] at h
      refine J_ldcw (q := 15) d_Mo_fitted2_12 g_1520 rfl ?_
      obtain rfl := Option.some.inj h
      exact J_iret rfl ⟨rfl, rfl⟩ d_Mo_fitted2_15
def m_Mo_delta (a1 : Int32) (a2 : Int32) (a3 : Int32) (a4 : Int32) (a5 : Int32) (μ : Mem) : Option (Bool × Mem) :=
  Option.bind (m_Mo_isPoint (a1) (a3) μ) fun r1 =>
  if r1 then
 (if a2 < 0 then
 (some ((false, μ)))
 else
 (if (2 : Int32) < a2 then
 (some ((false, μ)))
 else
 (if a4 < (-2000 : Int32) then
 (some ((false, μ)))
 else
 (if (2000 : Int32) < a4 then
 (some ((false, μ)))
 else
 (if a5 < (-2000 : Int32) then
 (some ((false, μ)))
 else
 (if a5 ≤ (2000 : Int32) then
 (gu ((((3 : Int32)) * (((100 : Int32) * a1) + (a3))) + (a2)) 9600 <|
  ap (sI μ 350 (0) ((((3 : Int32)) * (((100 : Int32) * a1) + (a3))) + (a2)).toNatClampNeg (a4)) fun μ3 =>
  gu ((((3 : Int32)) * (((100 : Int32) * a1) + (a3))) + (a2)) 9600 <|
  ap (sI μ3 351 (0) ((((3 : Int32)) * (((100 : Int32) * a1) + (a3))) + (a2)).toNatClampNeg (a5)) fun μ5 =>
  some ((true, μ5)))
 else
 (some ((false, μ)))))))))
 else
 (some ((false, μ)))
theorem t_Mo_delta {a1 : Int32} {a2 : Int32} {a3 : Int32} {a4 : Int32} {a5 : Int32} {μ : Mem} {q : Bool × Mem} (h : m_Mo_delta a1 a2 a3 a4 a5 μ = some q) : JM true (2) y_Mo_delta b_Mo_delta 6 (some (.boolean)) 0 0 [vr 12 (0), vi (a1), vi (a2), vi (a3), vi (a4), vi (a5)] μ (QQ (some (vi (b2i q.1))) q.2) := by
  unfold m_Mo_delta at h
  refine JM.of pl_Mo_delta (fun ρ => Nat.le_of_ble_eq_true rfl) ?_
  show J (GM true (QQ (some (vi (b2i q.1))) q.2) (some (.boolean)) y_Mo_delta.name) true b_Mo_delta R_12 6 (2) 0 0 0 [(0, vr 12 (0)), (1, vi (a1)), (2, vi (a2)), (3, vi (a3)), (4, vi (a4)), (5, vi (a5))] [] μ
  refine J_aload_n (q := 1) 0 d_Mo_delta_0 rfl rfl rfl ?_
  refine J_iload_n (q := 2) 1 d_Mo_delta_1 rfl rfl rfl ?_
  refine J_iload_n (q := 3) 3 d_Mo_delta_2 rfl rfl rfl ?_
  obtain ⟨r1, hr1, h⟩ := bd_some h
  refine J_callVq (rc := 0) (rs := 0) (q := 6) (as := [vi (a1), vi (a3)]) (st := []) (by decide) rfl g_1318 sel_Mo_isPoint (t_Mo_isPoint hr1) (by decide) (by decide) g_1316 g_1319 g_10 hy_Mo_isPoint rfl (Nat.le_of_ble_eq_true rfl) d_Mo_delta_3 rfl ?_
  refine J_ifB_eq (q := 9) (tgt := 50) d_Mo_delta_6 (by decide) rfl (fun hb => ?_) (fun hb => ?_)
  · rw [iB_f hb] at h
    refine J_iconst (q := 51) (v := (0 : Int32)) d_Mo_delta_50 (by decide) rfl ?_
    obtain rfl := Option.some.inj h
    exact J_zret (Or.inl rfl) rfl ⟨rfl, rfl⟩ d_Mo_delta_51
  · rw [iB_t hb] at h
    refine J_iload_n (q := 10) 2 d_Mo_delta_9 rfl rfl rfl ?_
    refine J_if_lt (q := 13) (tgt := 50) d_Mo_delta_10 (by decide) rfl (fun hc => ?_) (fun hc => ?_)
    · rw [if_pos hc] at h
      refine J_iconst (q := 51) (v := (0 : Int32)) d_Mo_delta_50 (by decide) rfl ?_
      obtain rfl := Option.some.inj h
      exact J_zret (Or.inl rfl) rfl ⟨rfl, rfl⟩ d_Mo_delta_51
    · rw [if_neg hc] at h
      refine J_iload_n (q := 14) 2 d_Mo_delta_13 rfl rfl rfl ?_
      refine J_iconst (q := 15) (v := (2 : Int32)) d_Mo_delta_14 (by decide) rfl ?_
      refine J_icmp_gt (q := 18) (tgt := 50) d_Mo_delta_15 (by decide) rfl (fun hc => ?_) (fun hc => ?_)
      · rw [if_pos hc] at h
        refine J_iconst (q := 51) (v := (0 : Int32)) d_Mo_delta_50 (by decide) rfl ?_
        obtain rfl := Option.some.inj h
        exact J_zret (Or.inl rfl) rfl ⟨rfl, rfl⟩ d_Mo_delta_51
      · rw [if_neg hc] at h
        refine J_iload (q := 20) 4 d_Mo_delta_18 rfl rfl ?_
        refine J_sipush (q := 23) (v := (-2000 : Int32)) d_Mo_delta_20 (by decide) rfl ?_
        refine J_icmp_lt (q := 26) (tgt := 50) d_Mo_delta_23 (by decide) rfl (fun hc => ?_) (fun hc => ?_)
        · rw [if_pos hc] at h
          refine J_iconst (q := 51) (v := (0 : Int32)) d_Mo_delta_50 (by decide) rfl ?_
          obtain rfl := Option.some.inj h
          exact J_zret (Or.inl rfl) rfl ⟨rfl, rfl⟩ d_Mo_delta_51
        · rw [if_neg hc] at h
          refine J_iload (q := 28) 4 d_Mo_delta_26 rfl rfl ?_
          refine J_sipush (q := 31) (v := (2000 : Int32)) d_Mo_delta_28 (by decide) rfl ?_
          refine J_icmp_gt (q := 34) (tgt := 50) d_Mo_delta_31 (by decide) rfl (fun hc => ?_) (fun hc => ?_)
          · rw [if_pos hc] at h
            refine J_iconst (q := 51) (v := (0 : Int32)) d_Mo_delta_50 (by decide) rfl ?_
            obtain rfl := Option.some.inj h
            exact J_zret (Or.inl rfl) rfl ⟨rfl, rfl⟩ d_Mo_delta_51
          · rw [if_neg hc] at h
            refine J_iload (q := 36) 5 d_Mo_delta_34 rfl rfl ?_
            refine J_sipush (q := 39) (v := (-2000 : Int32)) d_Mo_delta_36 (by decide) rfl ?_
            refine J_icmp_lt (q := 42) (tgt := 50) d_Mo_delta_39 (by decide) rfl (fun hc => ?_) (fun hc => ?_)
            · rw [if_pos hc] at h
              refine J_iconst (q := 51) (v := (0 : Int32)) d_Mo_delta_50 (by decide) rfl ?_
              obtain rfl := Option.some.inj h
              exact J_zret (Or.inl rfl) rfl ⟨rfl, rfl⟩ d_Mo_delta_51
            · rw [if_neg hc] at h
              refine J_iload (q := 44) 5 d_Mo_delta_42 rfl rfl ?_
              refine J_sipush (q := 47) (v := (2000 : Int32)) d_Mo_delta_44 (by decide) rfl ?_
              refine J_icmp_le (q := 50) (tgt := 52) d_Mo_delta_47 (by decide) rfl (fun hc => ?_) (fun hc => ?_)
              · rw [if_pos hc] at h
                refine J_aload_n (q := 53) 0 d_Mo_delta_52 rfl rfl rfl ?_
                refine J_getF (q := 56) cd_12 (by decide) ft_12_10 rfl g_1061 rfl d_Mo_delta_53 rfl ?_
                refine J_iconst (q := 57) (v := (3 : Int32)) d_Mo_delta_56 (by decide) rfl ?_
                refine J_bipush (q := 59) (v := (100 : Int32)) d_Mo_delta_57 (by decide) rfl ?_
                refine J_iload_n (q := 60) 1 d_Mo_delta_59 rfl rfl rfl ?_
                refine J_imul (q := 61) d_Mo_delta_60 rfl ?_
                refine J_iload_n (q := 62) 3 d_Mo_delta_61 rfl rfl rfl ?_
                refine J_iadd (q := 63) d_Mo_delta_62 rfl ?_
                refine J_imul (q := 64) d_Mo_delta_63 rfl ?_
                refine J_iload_n (q := 65) 2 d_Mo_delta_64 rfl rfl rfl ?_
                refine J_iadd (q := 66) d_Mo_delta_65 rfl ?_
                refine J_iload (q := 68) 4 d_Mo_delta_66 rfl rfl ?_
                obtain ⟨hi2, h⟩ := gu_some h
                refine J_iast (q := 69) rk_350 (by decide) hi2 d_Mo_delta_68 rfl ?_
                obtain ⟨μ3, hμ3, h⟩ := ap_eq h
                refine J_nmM hμ3 ?_
                refine J_aload_n (q := 70) 0 d_Mo_delta_69 rfl rfl rfl ?_
                refine J_getF (q := 73) cd_12 (by decide) ft_12_11 rfl g_1062 rfl d_Mo_delta_70 rfl ?_
                refine J_iconst (q := 74) (v := (3 : Int32)) d_Mo_delta_73 (by decide) rfl ?_
                refine J_bipush (q := 76) (v := (100 : Int32)) d_Mo_delta_74 (by decide) rfl ?_
                refine J_iload_n (q := 77) 1 d_Mo_delta_76 rfl rfl rfl ?_
                refine J_imul (q := 78) d_Mo_delta_77 rfl ?_
                refine J_iload_n (q := 79) 3 d_Mo_delta_78 rfl rfl rfl ?_
                refine J_iadd (q := 80) d_Mo_delta_79 rfl ?_
                refine J_imul (q := 81) d_Mo_delta_80 rfl ?_
                refine J_iload_n (q := 82) 2 d_Mo_delta_81 rfl rfl rfl ?_
                refine J_iadd (q := 83) d_Mo_delta_82 rfl ?_
                refine J_iload (q := 85) 5 d_Mo_delta_83 rfl rfl ?_
                obtain ⟨hi4, h⟩ := gu_some h
                refine J_iast (q := 86) rk_351 (by decide) hi4 d_Mo_delta_85 rfl ?_
                obtain ⟨μ5, hμ5, h⟩ := ap_eq h
                refine J_nmM hμ5 ?_
                refine J_iconst (q := 87) (v := (1 : Int32)) d_Mo_delta_86 (by decide) rfl ?_
                obtain rfl := Option.some.inj h
                exact J_zret (Or.inr rfl) rfl ⟨rfl, rfl⟩ d_Mo_delta_87
              · rw [if_neg hc] at h
                refine J_iconst (q := 51) (v := (0 : Int32)) d_Mo_delta_50 (by decide) rfl ?_
                obtain rfl := Option.some.inj h
                exact J_zret (Or.inl rfl) rfl ⟨rfl, rfl⟩ d_Mo_delta_51
def m_Mo_weight (a1 : Int32) (a2 : Int32) (μ : Mem) : Option (Bool × Mem) :=
  if a1 < 0 then
 (some ((false, μ)))
 else
 (if (2 : Int32) < a1 then
 (some ((false, μ)))
 else
 (if (m_Mo_isShort (a2) μ) then
 (gu (a1) 3 <|
  ap (sI μ 398 (0) a1.toNatClampNeg (a2)) fun μ2 =>
  some ((true, μ2)))
 else
 (some ((false, μ)))))
theorem t_Mo_weight {a1 : Int32} {a2 : Int32} {μ : Mem} {q : Bool × Mem} (h : m_Mo_weight a1 a2 μ = some q) : JM true (1) y_Mo_weight b_Mo_weight 3 (some (.boolean)) 0 0 [vr 12 (0), vi (a1), vi (a2)] μ (QQ (some (vi (b2i q.1))) q.2) := by
  unfold m_Mo_weight at h
  refine JM.of pl_Mo_weight (fun ρ => Nat.le_of_ble_eq_true rfl) ?_
  show J (GM true (QQ (some (vi (b2i q.1))) q.2) (some (.boolean)) y_Mo_weight.name) true b_Mo_weight R_12 3 (1) 0 0 0 [(0, vr 12 (0)), (1, vi (a1)), (2, vi (a2))] [] μ
  refine J_iload_n (q := 1) 1 d_Mo_weight_0 rfl rfl rfl ?_
  refine J_if_lt (q := 4) (tgt := 16) d_Mo_weight_1 (by decide) rfl (fun hc => ?_) (fun hc => ?_)
  · rw [if_pos hc] at h
    refine J_iconst (q := 17) (v := (0 : Int32)) d_Mo_weight_16 (by decide) rfl ?_
    obtain rfl := Option.some.inj h
    exact J_zret (Or.inl rfl) rfl ⟨rfl, rfl⟩ d_Mo_weight_17
  · rw [if_neg hc] at h
    refine J_iload_n (q := 5) 1 d_Mo_weight_4 rfl rfl rfl ?_
    refine J_iconst (q := 6) (v := (2 : Int32)) d_Mo_weight_5 (by decide) rfl ?_
    refine J_icmp_gt (q := 9) (tgt := 16) d_Mo_weight_6 (by decide) rfl (fun hc => ?_) (fun hc => ?_)
    · rw [if_pos hc] at h
      refine J_iconst (q := 17) (v := (0 : Int32)) d_Mo_weight_16 (by decide) rfl ?_
      obtain rfl := Option.some.inj h
      exact J_zret (Or.inl rfl) rfl ⟨rfl, rfl⟩ d_Mo_weight_17
    · rw [if_neg hc] at h
      refine J_iload_n (q := 10) 2 d_Mo_weight_9 rfl rfl rfl ?_
      refine J_callSq (rc := 0) (rs := 0) (q := 13) (as := [vi (a2)]) (st := []) g_1345 (t_Mo_isShort rfl) (by decide) (by decide) g_1344 g_1346 g_10 hy_Mo_isShort rfl (Nat.le_of_ble_eq_true rfl) d_Mo_weight_10 rfl ?_
      refine J_ifB_ne (q := 16) (tgt := 18) d_Mo_weight_13 (by decide) rfl (fun hb => ?_) (fun hb => ?_)
      · rw [iB_t hb] at h
        refine J_aload_n (q := 19) 0 d_Mo_weight_18 rfl rfl rfl ?_
        refine J_getF (q := 22) cd_12 (by decide) ft_12_58 rfl g_1109 rfl d_Mo_weight_19 rfl ?_
        refine J_iload_n (q := 23) 1 d_Mo_weight_22 rfl rfl rfl ?_
        refine J_iload_n (q := 24) 2 d_Mo_weight_23 rfl rfl rfl ?_
        obtain ⟨hi1, h⟩ := gu_some h
        refine J_iast (q := 25) rk_398 (by decide) hi1 d_Mo_weight_24 rfl ?_
        obtain ⟨μ2, hμ2, h⟩ := ap_eq h
        refine J_nmM hμ2 ?_
        refine J_iconst (q := 26) (v := (1 : Int32)) d_Mo_weight_25 (by decide) rfl ?_
        obtain rfl := Option.some.inj h
        exact J_zret (Or.inr rfl) rfl ⟨rfl, rfl⟩ d_Mo_weight_26
      · rw [iB_f hb] at h
        refine J_iconst (q := 17) (v := (0 : Int32)) d_Mo_weight_16 (by decide) rfl ?_
        obtain rfl := Option.some.inj h
        exact J_zret (Or.inl rfl) rfl ⟨rfl, rfl⟩ d_Mo_weight_17
def mj_Mo_mixed_82 (a1 : Int32) (a2 : Int32) (a3 : Int32) (μ : Mem) (c_35 : Int32 → Int64 → Int32 → Option (Int32)) (y4 : Int32) (y7 : Int32) (z0 : Int32) (z1 : Int64) (z2 : Int64) : Option (Int32) :=
  ap ((z2) + ((z1) * ((z0).toInt64))) fun x5 =>
  ap (y7 + (1 : Int32)) fun x6 =>
  c_35 (y4) (x5) (x6)
theorem tj_Mo_mixed_82 (a1 : Int32) (a2 : Int32) (a3 : Int32) (μ : Mem) {q : Int32} {c_35 : Int32 → Int64 → Int32 → Option (Int32)} (hc_35 : ∀ (y4 : Int32) (y5 : Int64) (y7 : Int32), c_35 y4 y5 y7 = some q → J (GM true (QQ (some (vi q)) μ) (some (.int)) y_Mo_mixed.name) true b_Mo_mixed R_12 8 (2) 0 0 35 [(0, vr 12 (0)), (3, vi (a3)), (4, vi (y4)), (5, vl (y5)), (7, vi (y7))] [] μ) (y4 : Int32) (y7 : Int32) (z0 : Int32) (z1 : Int64) (z2 : Int64) (h : mj_Mo_mixed_82 a1 a2 a3 μ c_35 y4 y7 z0 z1 z2 = some q) : J (GM true (QQ (some (vi q)) μ) (some (.int)) y_Mo_mixed.name) true b_Mo_mixed R_12 8 (2) 0 0 82 [(0, vr 12 (0)), (3, vi (a3)), (4, vi (y4)), (7, vi (y7))] [vi (z0), vl (z1), vl (z2)] μ := by
  unfold mj_Mo_mixed_82 at h
  refine J_i2l (q := 83) d_Mo_mixed_82 rfl ?_
  refine J_lmul (q := 84) d_Mo_mixed_83 rfl ?_
  refine J_ladd (q := 85) d_Mo_mixed_84 rfl ?_
  obtain ⟨x5, hx5, h⟩ := ap_eq h
  refine J_nmL hx5 ?_
  refine J_lstore (q := 87) (lv' := [(5, vl (x5)), (0, vr 12 (0)), (3, vi (a3)), (4, vi (y4)), (7, vi (y7))]) d_Mo_mixed_85 (by decide) rfl rfl ?_
  obtain ⟨x6, hx6, h⟩ := ap_eq h
  refine J_iinc (q := 90) (v := x6) (lv' := [(7, vi (x6)), (5, vl (x5)), (0, vr 12 (0)), (3, vi (a3)), (4, vi (y4))]) 4 d_Mo_mixed_87 rfl (by rw [hx6]; rfl) (by decide) rfl rfl ?_
  refine J_goto (q := 35) d_Mo_mixed_90 (by decide) ?_
  refine J_pick [2, 3, 4, 1, 0] rfl ?_
  exact hc_35 _ _ _ h
def lp_Mo_mixed_35 (a1 : Int32) (a2 : Int32) (a3 : Int32) (μ : Mem) (c_93 : Int32 → Int64 → Option (Int32)) : Nat → Int32 → Int64 → Int32 → Option (Int32)
  | 0, _, _, _ => none
  | n + 1, y4, y5, y7 =>
  if (3 : Int32) ≤ y7 then
 (c_93 (y4) (y5))
 else
 (gu (y7) 3 <|
  if a3 = 0 then
 (gu (((3 : Int32) * y4) + (y7)) 9600 <|
  mj_Mo_mixed_82 a1 a2 a3 μ (lp_Mo_mixed_35 a1 a2 a3 μ c_93 n) (y4) (y7) (gI μ 350 (0) (((3 : Int32) * y4) + (y7)).toNatClampNeg) ((gI μ 398 (0) y7.toNatClampNeg).toInt64) (y5))
 else
 (gu (((3 : Int32) * y4) + (y7)) 9600 <|
  mj_Mo_mixed_82 a1 a2 a3 μ (lp_Mo_mixed_35 a1 a2 a3 μ c_93 n) (y4) (y7) (gI μ 351 (0) (((3 : Int32) * y4) + (y7)).toNatClampNeg) ((gI μ 398 (0) y7.toNatClampNeg).toInt64) (y5)))
theorem tl_Mo_mixed_35 (a1 : Int32) (a2 : Int32) (a3 : Int32) (μ : Mem) {q : Int32} {c_93 : Int32 → Int64 → Option (Int32)} (hc_93 : ∀ (y4 : Int32) (y5 : Int64), c_93 y4 y5 = some q → J (GM true (QQ (some (vi q)) μ) (some (.int)) y_Mo_mixed.name) true b_Mo_mixed R_12 8 (2) 0 0 93 [(0, vr 12 (0)), (3, vi (a3)), (4, vi (y4)), (5, vl (y5))] [] μ) : ∀ (n : Nat) (y4 : Int32) (y5 : Int64) (y7 : Int32), lp_Mo_mixed_35 a1 a2 a3 μ c_93 n y4 y5 y7 = some q → J (GM true (QQ (some (vi q)) μ) (some (.int)) y_Mo_mixed.name) true b_Mo_mixed R_12 8 (2) 0 0 35 [(0, vr 12 (0)), (3, vi (a3)), (4, vi (y4)), (5, vl (y5)), (7, vi (y7))] [] μ := by
  intro n
  induction n with
  | zero => intro _ _ _ h; cases h
  | succ n ih =>
    intro y4 y5 y7 h
    unfold lp_Mo_mixed_35 at h
    refine J_iload (q := 37) 4 d_Mo_mixed_35 rfl rfl ?_
    refine J_iconst (q := 38) (v := (3 : Int32)) d_Mo_mixed_37 (by decide) rfl ?_
    refine J_icmp_ge (q := 41) (tgt := 93) d_Mo_mixed_38 (by decide) rfl (fun hc => ?_) (fun hc => ?_)
    · rw [if_pos hc] at h
      refine J_pick [0, 1, 2, 3] rfl ?_
      exact hc_93 _ _ h
    · rw [if_neg hc] at h
      refine J_lload (q := 43) 3 d_Mo_mixed_41 rfl rfl ?_
      refine J_aload_n (q := 44) 0 d_Mo_mixed_43 rfl rfl rfl ?_
      refine J_getF (q := 47) cd_12 (by decide) ft_12_58 rfl g_1109 rfl d_Mo_mixed_44 rfl ?_
      refine J_iload (q := 49) 4 d_Mo_mixed_47 rfl rfl ?_
      obtain ⟨hi8, h⟩ := gu_some h
      refine J_iald (q := 50) rk_398 (by decide) hi8 d_Mo_mixed_49 rfl ?_
      refine J_i2l (q := 51) d_Mo_mixed_50 rfl ?_
      refine J_iload_n (q := 52) 1 d_Mo_mixed_51 rfl rfl rfl ?_
      refine J_if_ne (q := 55) (tgt := 70) d_Mo_mixed_52 (by decide) rfl (fun hc => ?_) (fun hc => ?_)
      · rw [if_neg hc] at h
        refine J_aload_n (q := 71) 0 d_Mo_mixed_70 rfl rfl rfl ?_
        refine J_getF (q := 74) cd_12 (by decide) ft_12_11 rfl g_1062 rfl d_Mo_mixed_71 rfl ?_
        refine J_iconst (q := 75) (v := (3 : Int32)) d_Mo_mixed_74 (by decide) rfl ?_
        refine J_iload (q := 77) 2 d_Mo_mixed_75 rfl rfl ?_
        refine J_imul (q := 78) d_Mo_mixed_77 rfl ?_
        refine J_iload (q := 80) 4 d_Mo_mixed_78 rfl rfl ?_
        refine J_iadd (q := 81) d_Mo_mixed_80 rfl ?_
        obtain ⟨hi9, h⟩ := gu_some h
        refine J_iald (q := 82) rk_351 (by decide) hi9 d_Mo_mixed_81 rfl ?_
        refine J_pick [0, 1, 2, 4] rfl ?_
        exact tj_Mo_mixed_82 a1 a2 a3 μ ih _ _ _ _ _ h
      · rw [if_pos hc] at h
        refine J_aload_n (q := 56) 0 d_Mo_mixed_55 rfl rfl rfl ?_
        refine J_getF (q := 59) cd_12 (by decide) ft_12_10 rfl g_1061 rfl d_Mo_mixed_56 rfl ?_
        refine J_iconst (q := 60) (v := (3 : Int32)) d_Mo_mixed_59 (by decide) rfl ?_
        refine J_iload (q := 62) 2 d_Mo_mixed_60 rfl rfl ?_
        refine J_imul (q := 63) d_Mo_mixed_62 rfl ?_
        refine J_iload (q := 65) 4 d_Mo_mixed_63 rfl rfl ?_
        refine J_iadd (q := 66) d_Mo_mixed_65 rfl ?_
        obtain ⟨hi10, h⟩ := gu_some h
        refine J_iald (q := 67) rk_350 (by decide) hi10 d_Mo_mixed_66 rfl ?_
        refine J_goto (q := 82) d_Mo_mixed_67 (by decide) ?_
        refine J_pick [0, 1, 2, 4] rfl ?_
        exact tj_Mo_mixed_82 a1 a2 a3 μ ih _ _ _ _ _ h
def mj_Mo_mixed_114 (a1 : Int32) (a2 : Int32) (a3 : Int32) (μ : Mem) (y5 : Int64) (z0 : Int32) : Option (Int32) :=
  Option.bind (m_Mo_rounded (y5) ((16384 : Int64)) μ) fun r12 =>
  some ((z0) + ((r12).toInt32))
theorem tj_Mo_mixed_114 (a1 : Int32) (a2 : Int32) (a3 : Int32) (μ : Mem) {q : Int32}  (y5 : Int64) (z0 : Int32) (h : mj_Mo_mixed_114 a1 a2 a3 μ y5 z0 = some q) : J (GM true (QQ (some (vi q)) μ) (some (.int)) y_Mo_mixed.name) true b_Mo_mixed R_12 8 (2) 0 0 114 [(5, vl (y5))] [vi (z0)] μ := by
  unfold mj_Mo_mixed_114 at h
  refine J_lload (q := 116) 0 d_Mo_mixed_114 rfl rfl ?_
  refine J_ldc2 (q := 119) d_Mo_mixed_116 g_1368 rfl ?_
  obtain ⟨r12, hr12, h⟩ := bd_some h
  refine J_callSq (rc := 0) (rs := 0) (q := 122) (as := [vl (y5), vl ((16384 : Int64))]) (st := [vi (z0)]) g_1370 (t_Mo_rounded hr12) (by decide) (by decide) g_1369 g_1371 g_10 hy_Mo_rounded rfl (Nat.le_of_ble_eq_true rfl) d_Mo_mixed_119 rfl ?_
  refine J_l2i (q := 123) d_Mo_mixed_122 rfl ?_
  refine J_iadd (q := 124) d_Mo_mixed_123 rfl ?_
  obtain rfl := Option.some.inj h
  exact J_iret rfl ⟨rfl, rfl⟩ d_Mo_mixed_124
def mj_Mo_mixed_93 (a1 : Int32) (a2 : Int32) (a3 : Int32) (μ : Mem) (y4 : Int32) (y5 : Int64) : Option (Int32) :=
  if a3 = 0 then
 (gu (y4) 3200 <|
  mj_Mo_mixed_114 a1 a2 a3 μ (y5) (gI μ 347 (0) y4.toNatClampNeg))
 else
 (gu (y4) 3200 <|
  mj_Mo_mixed_114 a1 a2 a3 μ (y5) (gI μ 348 (0) y4.toNatClampNeg))
theorem tj_Mo_mixed_93 (a1 : Int32) (a2 : Int32) (a3 : Int32) (μ : Mem) {q : Int32}  (y4 : Int32) (y5 : Int64) (h : mj_Mo_mixed_93 a1 a2 a3 μ y4 y5 = some q) : J (GM true (QQ (some (vi q)) μ) (some (.int)) y_Mo_mixed.name) true b_Mo_mixed R_12 8 (2) 0 0 93 [(0, vr 12 (0)), (3, vi (a3)), (4, vi (y4)), (5, vl (y5))] [] μ := by
  unfold mj_Mo_mixed_93 at h
  refine J_iload_n (q := 94) 1 d_Mo_mixed_93 rfl rfl rfl ?_
  refine J_if_ne (q := 97) (tgt := 107) d_Mo_mixed_94 (by decide) rfl (fun hc => ?_) (fun hc => ?_)
  · rw [if_neg hc] at h
    refine J_aload_n (q := 108) 0 d_Mo_mixed_107 rfl rfl rfl ?_
    refine J_getF (q := 111) cd_12 (by decide) ft_12_8 rfl g_1059 rfl d_Mo_mixed_108 rfl ?_
    refine J_iload (q := 113) 2 d_Mo_mixed_111 rfl rfl ?_
    obtain ⟨hi11, h⟩ := gu_some h
    refine J_iald (q := 114) rk_348 (by decide) hi11 d_Mo_mixed_113 rfl ?_
    refine J_pick [3] rfl ?_
    exact tj_Mo_mixed_114 a1 a2 a3 μ _ _ h
  · rw [if_pos hc] at h
    refine J_aload_n (q := 98) 0 d_Mo_mixed_97 rfl rfl rfl ?_
    refine J_getF (q := 101) cd_12 (by decide) ft_12_7 rfl g_1058 rfl d_Mo_mixed_98 rfl ?_
    refine J_iload (q := 103) 2 d_Mo_mixed_101 rfl rfl ?_
    obtain ⟨hi13, h⟩ := gu_some h
    refine J_iald (q := 104) rk_347 (by decide) hi13 d_Mo_mixed_103 rfl ?_
    refine J_goto (q := 114) d_Mo_mixed_104 (by decide) ?_
    refine J_pick [3] rfl ?_
    exact tj_Mo_mixed_114 a1 a2 a3 μ _ _ h
def mj_Mo_mixed_21 (a1 : Int32) (a2 : Int32) (a3 : Int32) (μ : Mem) : Option (Int32) :=
  ap (((100 : Int32) * a1) + (a2)) fun x2 =>
  lp_Mo_mixed_35 a1 a2 a3 μ (mj_Mo_mixed_93 a1 a2 a3 μ) FU (x2) ((0 : Int64)) ((0 : Int32))
theorem tj_Mo_mixed_21 (a1 : Int32) (a2 : Int32) (a3 : Int32) (μ : Mem) {q : Int32}  (h : mj_Mo_mixed_21 a1 a2 a3 μ  = some q) : J (GM true (QQ (some (vi q)) μ) (some (.int)) y_Mo_mixed.name) true b_Mo_mixed R_12 8 (2) 0 0 21 [(0, vr 12 (0)), (1, vi (a1)), (2, vi (a2)), (3, vi (a3))] [] μ := by
  unfold mj_Mo_mixed_21 at h
  refine J_bipush (q := 23) (v := (100 : Int32)) d_Mo_mixed_21 (by decide) rfl ?_
  refine J_iload_n (q := 24) 1 d_Mo_mixed_23 rfl rfl rfl ?_
  refine J_imul (q := 25) d_Mo_mixed_24 rfl ?_
  refine J_iload_n (q := 26) 2 d_Mo_mixed_25 rfl rfl rfl ?_
  refine J_iadd (q := 27) d_Mo_mixed_26 rfl ?_
  obtain ⟨x2, hx2, h⟩ := ap_eq h
  refine J_nmI hx2 ?_
  refine J_istore (q := 29) (lv' := [(4, vi (x2)), (0, vr 12 (0)), (1, vi (a1)), (2, vi (a2)), (3, vi (a3))]) d_Mo_mixed_27 (by decide) rfl rfl ?_
  refine J_lconst (q := 30) (v := (0 : Int64)) d_Mo_mixed_29 (by decide) rfl ?_
  refine J_lstore (q := 32) (lv' := [(5, vl ((0 : Int64))), (4, vi (x2)), (0, vr 12 (0)), (1, vi (a1)), (2, vi (a2)), (3, vi (a3))]) d_Mo_mixed_30 (by decide) rfl rfl ?_
  refine J_iconst (q := 33) (v := (0 : Int32)) d_Mo_mixed_32 (by decide) rfl ?_
  refine J_istore (q := 35) (lv' := [(7, vi ((0 : Int32))), (5, vl ((0 : Int64))), (4, vi (x2)), (0, vr 12 (0)), (1, vi (a1)), (2, vi (a2)), (3, vi (a3))]) d_Mo_mixed_33 (by decide) rfl rfl ?_
  refine J_pick [3, 6, 2, 1, 0] rfl ?_
  exact tl_Mo_mixed_35 a1 a2 a3 μ (fun _ _ h => tj_Mo_mixed_93 a1 a2 a3 μ _ _ h) FU _ _ _ h
def m_Mo_mixed (a1 : Int32) (a2 : Int32) (a3 : Int32) (μ : Mem) : Option (Int32) :=
  Option.bind (m_Mo_isPoint (a1) (a2) μ) fun r1 =>
  if r1 then
 (if a3 = 0 then
 (mj_Mo_mixed_21 a1 a2 a3 μ )
 else
 (if a3 = (1 : Int32) then
 (mj_Mo_mixed_21 a1 a2 a3 μ )
 else
 (some ((-100000 : Int32)))))
 else
 (some ((-100000 : Int32)))
theorem t_Mo_mixed {a1 : Int32} {a2 : Int32} {a3 : Int32} {μ : Mem} {q : Int32} (h : m_Mo_mixed a1 a2 a3 μ = some q) : JM true (2) y_Mo_mixed b_Mo_mixed 8 (some (.int)) 0 0 [vr 12 (0), vi (a1), vi (a2), vi (a3)] μ (QQ (some (vi q)) μ) := by
  unfold m_Mo_mixed at h
  refine JM.of pl_Mo_mixed (fun ρ => Nat.le_of_ble_eq_true rfl) ?_
  show J (GM true (QQ (some (vi q)) μ) (some (.int)) y_Mo_mixed.name) true b_Mo_mixed R_12 8 (2) 0 0 0 [(0, vr 12 (0)), (1, vi (a1)), (2, vi (a2)), (3, vi (a3))] [] μ
  refine J_aload_n (q := 1) 0 d_Mo_mixed_0 rfl rfl rfl ?_
  refine J_iload_n (q := 2) 1 d_Mo_mixed_1 rfl rfl rfl ?_
  refine J_iload_n (q := 3) 2 d_Mo_mixed_2 rfl rfl rfl ?_
  obtain ⟨r1, hr1, h⟩ := bd_some h
  refine J_callVq (rc := 0) (rs := 0) (q := 6) (as := [vi (a1), vi (a2)]) (st := []) (by decide) rfl g_1318 sel_Mo_isPoint (t_Mo_isPoint hr1) (by decide) (by decide) g_1316 g_1319 g_10 hy_Mo_isPoint rfl (Nat.le_of_ble_eq_true rfl) d_Mo_mixed_3 rfl ?_
  refine J_ifB_eq (q := 9) (tgt := 18) d_Mo_mixed_6 (by decide) rfl (fun hb => ?_) (fun hb => ?_)
  · rw [iB_f hb] at h
    refine J_ldc (q := 20) d_Mo_mixed_18 g_1355 rfl ?_
    obtain rfl := Option.some.inj h
    exact J_iret rfl ⟨rfl, rfl⟩ d_Mo_mixed_20
  · rw [iB_t hb] at h
    refine J_iload_n (q := 10) 3 d_Mo_mixed_9 rfl rfl rfl ?_
    refine J_if_eq (q := 13) (tgt := 21) d_Mo_mixed_10 (by decide) rfl (fun hc => ?_) (fun hc => ?_)
    · rw [if_pos hc] at h
      refine J_pick [0, 1, 2, 3] rfl ?_
      exact tj_Mo_mixed_21 a1 a2 a3 μ h
    · rw [if_neg hc] at h
      refine J_iload_n (q := 14) 3 d_Mo_mixed_13 rfl rfl rfl ?_
      refine J_iconst (q := 15) (v := (1 : Int32)) d_Mo_mixed_14 (by decide) rfl ?_
      refine J_icmp_eq (q := 18) (tgt := 21) d_Mo_mixed_15 (by decide) rfl (fun hc => ?_) (fun hc => ?_)
      · rw [if_pos hc] at h
        refine J_pick [0, 1, 2, 3] rfl ?_
        exact tj_Mo_mixed_21 a1 a2 a3 μ h
      · rw [if_neg hc] at h
        refine J_ldc (q := 20) d_Mo_mixed_18 g_1355 rfl ?_
        obtain rfl := Option.some.inj h
        exact J_iret rfl ⟨rfl, rfl⟩ d_Mo_mixed_20
def mj_Mo_classOf_17 (a1 : Int32) (a2 : Int32) (a3 : Int32) (μ : Mem) : Option (Bool × Mem) :=
  if a3 < 0 then
 (some ((false, μ)))
 else
 (if a3 ≤ (15 : Int32) then
 (if a2 = 0 then
 (gu (a1) 32 <|
  ap (sI μ 399 (0) a1.toNatClampNeg (a3)) fun μ4 =>
  some ((true, μ4)))
 else
 (gu (a1) 32 <|
  ap (sI μ 400 (0) a1.toNatClampNeg (a3)) fun μ2 =>
  some ((true, μ2))))
 else
 (some ((false, μ))))
theorem tj_Mo_classOf_17 (a1 : Int32) (a2 : Int32) (a3 : Int32) {q : Bool × Mem}  (μ : Mem) (h : mj_Mo_classOf_17 a1 a2 a3  μ = some q) : J (GM true (QQ (some (vi (b2i q.1))) q.2) (some (.boolean)) y_Mo_classOf.name) true b_Mo_classOf R_12 4 (1) 0 0 17 [(0, vr 12 (0)), (1, vi (a1)), (2, vi (a2)), (3, vi (a3))] [] μ := by
  unfold mj_Mo_classOf_17 at h
  refine J_iload_n (q := 18) 3 d_Mo_classOf_17 rfl rfl rfl ?_
  refine J_if_lt (q := 21) (tgt := 27) d_Mo_classOf_18 (by decide) rfl (fun hc => ?_) (fun hc => ?_)
  · rw [if_pos hc] at h
    refine J_iconst (q := 28) (v := (0 : Int32)) d_Mo_classOf_27 (by decide) rfl ?_
    obtain rfl := Option.some.inj h
    exact J_zret (Or.inl rfl) rfl ⟨rfl, rfl⟩ d_Mo_classOf_28
  · rw [if_neg hc] at h
    refine J_iload_n (q := 22) 3 d_Mo_classOf_21 rfl rfl rfl ?_
    refine J_bipush (q := 24) (v := (15 : Int32)) d_Mo_classOf_22 (by decide) rfl ?_
    refine J_icmp_le (q := 27) (tgt := 29) d_Mo_classOf_24 (by decide) rfl (fun hc => ?_) (fun hc => ?_)
    · rw [if_pos hc] at h
      refine J_iload_n (q := 30) 2 d_Mo_classOf_29 rfl rfl rfl ?_
      refine J_if_ne (q := 33) (tgt := 43) d_Mo_classOf_30 (by decide) rfl (fun hc => ?_) (fun hc => ?_)
      · rw [if_neg hc] at h
        refine J_aload_n (q := 44) 0 d_Mo_classOf_43 rfl rfl rfl ?_
        refine J_getF (q := 47) cd_12 (by decide) ft_12_60 rfl g_1111 rfl d_Mo_classOf_44 rfl ?_
        refine J_iload_n (q := 48) 1 d_Mo_classOf_47 rfl rfl rfl ?_
        refine J_iload_n (q := 49) 3 d_Mo_classOf_48 rfl rfl rfl ?_
        obtain ⟨hi1, h⟩ := gu_some h
        refine J_iast (q := 50) rk_400 (by decide) hi1 d_Mo_classOf_49 rfl ?_
        obtain ⟨μ2, hμ2, h⟩ := ap_eq h
        refine J_nmM hμ2 ?_
        refine J_iconst (q := 51) (v := (1 : Int32)) d_Mo_classOf_50 (by decide) rfl ?_
        obtain rfl := Option.some.inj h
        exact J_zret (Or.inr rfl) rfl ⟨rfl, rfl⟩ d_Mo_classOf_51
      · rw [if_pos hc] at h
        refine J_aload_n (q := 34) 0 d_Mo_classOf_33 rfl rfl rfl ?_
        refine J_getF (q := 37) cd_12 (by decide) ft_12_59 rfl g_1110 rfl d_Mo_classOf_34 rfl ?_
        refine J_iload_n (q := 38) 1 d_Mo_classOf_37 rfl rfl rfl ?_
        refine J_iload_n (q := 39) 3 d_Mo_classOf_38 rfl rfl rfl ?_
        obtain ⟨hi3, h⟩ := gu_some h
        refine J_iast (q := 40) rk_399 (by decide) hi3 d_Mo_classOf_39 rfl ?_
        obtain ⟨μ4, hμ4, h⟩ := ap_eq h
        refine J_nmM hμ4 ?_
        refine J_goto (q := 50) d_Mo_classOf_40 (by decide) ?_
        refine J_iconst (q := 51) (v := (1 : Int32)) d_Mo_classOf_50 (by decide) rfl ?_
        obtain rfl := Option.some.inj h
        exact J_zret (Or.inr rfl) rfl ⟨rfl, rfl⟩ d_Mo_classOf_51
    · rw [if_neg hc] at h
      refine J_iconst (q := 28) (v := (0 : Int32)) d_Mo_classOf_27 (by decide) rfl ?_
      obtain rfl := Option.some.inj h
      exact J_zret (Or.inl rfl) rfl ⟨rfl, rfl⟩ d_Mo_classOf_28
def m_Mo_classOf (a1 : Int32) (a2 : Int32) (a3 : Int32) (μ : Mem) : Option (Bool × Mem) :=
  if (m_Mo_isLetter (a1) μ) then
 (if a2 = 0 then
 (mj_Mo_classOf_17 a1 a2 a3 μ)
 else
 (if a2 = (1 : Int32) then
 (mj_Mo_classOf_17 a1 a2 a3 μ)
 else
 (some ((false, μ)))))
 else
 (some ((false, μ)))
theorem t_Mo_classOf {a1 : Int32} {a2 : Int32} {a3 : Int32} {μ : Mem} {q : Bool × Mem} (h : m_Mo_classOf a1 a2 a3 μ = some q) : JM true (1) y_Mo_classOf b_Mo_classOf 4 (some (.boolean)) 0 0 [vr 12 (0), vi (a1), vi (a2), vi (a3)] μ (QQ (some (vi (b2i q.1))) q.2) := by
  unfold m_Mo_classOf at h
  refine JM.of pl_Mo_classOf (fun ρ => Nat.le_of_ble_eq_true rfl) ?_
  show J (GM true (QQ (some (vi (b2i q.1))) q.2) (some (.boolean)) y_Mo_classOf.name) true b_Mo_classOf R_12 4 (1) 0 0 0 [(0, vr 12 (0)), (1, vi (a1)), (2, vi (a2)), (3, vi (a3))] [] μ
  refine J_aload_n (q := 1) 0 d_Mo_classOf_0 rfl rfl rfl ?_
  refine J_iload_n (q := 2) 1 d_Mo_classOf_1 rfl rfl rfl ?_
  refine J_callVq (rc := 0) (rs := 0) (q := 5) (as := [vi (a1)]) (st := []) (by decide) rfl g_1287 sel_Mo_isLetter (t_Mo_isLetter rfl) (by decide) (by decide) g_1285 g_1288 g_10 hy_Mo_isLetter rfl (Nat.le_of_ble_eq_true rfl) d_Mo_classOf_2 rfl ?_
  refine J_ifB_eq (q := 8) (tgt := 27) d_Mo_classOf_5 (by decide) rfl (fun hb => ?_) (fun hb => ?_)
  · rw [iB_f hb] at h
    refine J_iconst (q := 28) (v := (0 : Int32)) d_Mo_classOf_27 (by decide) rfl ?_
    obtain rfl := Option.some.inj h
    exact J_zret (Or.inl rfl) rfl ⟨rfl, rfl⟩ d_Mo_classOf_28
  · rw [iB_t hb] at h
    refine J_iload_n (q := 9) 2 d_Mo_classOf_8 rfl rfl rfl ?_
    refine J_if_eq (q := 12) (tgt := 17) d_Mo_classOf_9 (by decide) rfl (fun hc => ?_) (fun hc => ?_)
    · rw [if_pos hc] at h
      refine J_pick [0, 1, 2, 3] rfl ?_
      exact tj_Mo_classOf_17 a1 a2 a3 _ h
    · rw [if_neg hc] at h
      refine J_iload_n (q := 13) 2 d_Mo_classOf_12 rfl rfl rfl ?_
      refine J_iconst (q := 14) (v := (1 : Int32)) d_Mo_classOf_13 (by decide) rfl ?_
      refine J_icmp_ne (q := 17) (tgt := 27) d_Mo_classOf_14 (by decide) rfl (fun hc => ?_) (fun hc => ?_)
      · rw [if_neg hc] at h
        refine J_iconst (q := 28) (v := (0 : Int32)) d_Mo_classOf_27 (by decide) rfl ?_
        obtain rfl := Option.some.inj h
        exact J_zret (Or.inl rfl) rfl ⟨rfl, rfl⟩ d_Mo_classOf_28
      · rw [if_pos hc] at h
        refine J_pick [0, 1, 2, 3] rfl ?_
        exact tj_Mo_classOf_17 a1 a2 a3 _ h
def m_Mo_isKern (a1 : Int32) (μ : Mem) : Bool :=
  if a1 < (-2000 : Int32) then
 (false)
 else
 (if (2000 : Int32) < a1 then
 (false)
 else
 (true))
theorem t_Mo_isKern {a1 : Int32} {μ : Mem} {q : Bool} (h : m_Mo_isKern a1 μ = q) : JM true (0) y_Mo_isKern b_Mo_isKern 1 (some (.boolean)) 0 0 [vi (a1)] μ (QQ (some (vi (b2i q))) μ) := by
  unfold m_Mo_isKern at h
  refine JM.of pl_Mo_isKern (fun ρ => Nat.le_of_ble_eq_true rfl) ?_
  show J (GM true (QQ (some (vi (b2i q))) μ) (some (.boolean)) y_Mo_isKern.name) true b_Mo_isKern R_12 1 (0) 0 0 0 [(0, vi (a1))] [] μ
  refine J_iload_n (q := 1) 0 d_Mo_isKern_0 rfl rfl rfl ?_
  refine J_sipush (q := 4) (v := (-2000 : Int32)) d_Mo_isKern_1 (by decide) rfl ?_
  refine J_icmp_lt (q := 7) (tgt := 18) d_Mo_isKern_4 (by decide) rfl (fun hc => ?_) (fun hc => ?_)
  · rw [if_pos hc] at h
    refine J_iconst (q := 19) (v := (0 : Int32)) d_Mo_isKern_18 (by decide) rfl ?_
    subst h
    exact J_zret (Or.inl rfl) rfl ⟨rfl, rfl⟩ d_Mo_isKern_19
  · rw [if_neg hc] at h
    refine J_iload_n (q := 8) 0 d_Mo_isKern_7 rfl rfl rfl ?_
    refine J_sipush (q := 11) (v := (2000 : Int32)) d_Mo_isKern_8 (by decide) rfl ?_
    refine J_icmp_gt (q := 14) (tgt := 18) d_Mo_isKern_11 (by decide) rfl (fun hc => ?_) (fun hc => ?_)
    · rw [if_pos hc] at h
      refine J_iconst (q := 19) (v := (0 : Int32)) d_Mo_isKern_18 (by decide) rfl ?_
      subst h
      exact J_zret (Or.inl rfl) rfl ⟨rfl, rfl⟩ d_Mo_isKern_19
    · rw [if_neg hc] at h
      refine J_iconst (q := 15) (v := (1 : Int32)) d_Mo_isKern_14 (by decide) rfl ?_
      refine J_goto (q := 19) d_Mo_isKern_15 (by decide) ?_
      subst h
      exact J_zret (Or.inr rfl) rfl ⟨rfl, rfl⟩ d_Mo_isKern_19
def m_Mo_kern (a1 : Int32) (a2 : Int32) (a3 : Int32) (μ : Mem) : Option (Bool × Mem) :=
  if a1 < 0 then
 (some ((false, μ)))
 else
 (if (15 : Int32) < a1 then
 (some ((false, μ)))
 else
 (if a2 < 0 then
 (some ((false, μ)))
 else
 (if (15 : Int32) < a2 then
 (some ((false, μ)))
 else
 (if (m_Mo_isKern (a3) μ) then
 (gu (((16 : Int32) * a1) + (a2)) 256 <|
  ap (sI μ 401 (0) (((16 : Int32) * a1) + (a2)).toNatClampNeg (a3)) fun μ2 =>
  some ((true, μ2)))
 else
 (some ((false, μ)))))))
theorem t_Mo_kern {a1 : Int32} {a2 : Int32} {a3 : Int32} {μ : Mem} {q : Bool × Mem} (h : m_Mo_kern a1 a2 a3 μ = some q) : JM true (1) y_Mo_kern b_Mo_kern 4 (some (.boolean)) 0 0 [vr 12 (0), vi (a1), vi (a2), vi (a3)] μ (QQ (some (vi (b2i q.1))) q.2) := by
  unfold m_Mo_kern at h
  refine JM.of pl_Mo_kern (fun ρ => Nat.le_of_ble_eq_true rfl) ?_
  show J (GM true (QQ (some (vi (b2i q.1))) q.2) (some (.boolean)) y_Mo_kern.name) true b_Mo_kern R_12 4 (1) 0 0 0 [(0, vr 12 (0)), (1, vi (a1)), (2, vi (a2)), (3, vi (a3))] [] μ
  refine J_iload_n (q := 1) 1 d_Mo_kern_0 rfl rfl rfl ?_
  refine J_if_lt (q := 4) (tgt := 27) d_Mo_kern_1 (by decide) rfl (fun hc => ?_) (fun hc => ?_)
  · rw [if_pos hc] at h
    refine J_iconst (q := 28) (v := (0 : Int32)) d_Mo_kern_27 (by decide) rfl ?_
    obtain rfl := Option.some.inj h
    exact J_zret (Or.inl rfl) rfl ⟨rfl, rfl⟩ d_Mo_kern_28
  · rw [if_neg hc] at h
    refine J_iload_n (q := 5) 1 d_Mo_kern_4 rfl rfl rfl ?_
    refine J_bipush (q := 7) (v := (15 : Int32)) d_Mo_kern_5 (by decide) rfl ?_
    refine J_icmp_gt (q := 10) (tgt := 27) d_Mo_kern_7 (by decide) rfl (fun hc => ?_) (fun hc => ?_)
    · rw [if_pos hc] at h
      refine J_iconst (q := 28) (v := (0 : Int32)) d_Mo_kern_27 (by decide) rfl ?_
      obtain rfl := Option.some.inj h
      exact J_zret (Or.inl rfl) rfl ⟨rfl, rfl⟩ d_Mo_kern_28
    · rw [if_neg hc] at h
      refine J_iload_n (q := 11) 2 d_Mo_kern_10 rfl rfl rfl ?_
      refine J_if_lt (q := 14) (tgt := 27) d_Mo_kern_11 (by decide) rfl (fun hc => ?_) (fun hc => ?_)
      · rw [if_pos hc] at h
        refine J_iconst (q := 28) (v := (0 : Int32)) d_Mo_kern_27 (by decide) rfl ?_
        obtain rfl := Option.some.inj h
        exact J_zret (Or.inl rfl) rfl ⟨rfl, rfl⟩ d_Mo_kern_28
      · rw [if_neg hc] at h
        refine J_iload_n (q := 15) 2 d_Mo_kern_14 rfl rfl rfl ?_
        refine J_bipush (q := 17) (v := (15 : Int32)) d_Mo_kern_15 (by decide) rfl ?_
        refine J_icmp_gt (q := 20) (tgt := 27) d_Mo_kern_17 (by decide) rfl (fun hc => ?_) (fun hc => ?_)
        · rw [if_pos hc] at h
          refine J_iconst (q := 28) (v := (0 : Int32)) d_Mo_kern_27 (by decide) rfl ?_
          obtain rfl := Option.some.inj h
          exact J_zret (Or.inl rfl) rfl ⟨rfl, rfl⟩ d_Mo_kern_28
        · rw [if_neg hc] at h
          refine J_iload_n (q := 21) 3 d_Mo_kern_20 rfl rfl rfl ?_
          refine J_callSq (rc := 0) (rs := 0) (q := 24) (as := [vi (a3)]) (st := []) g_1542 (t_Mo_isKern rfl) (by decide) (by decide) g_1541 g_1543 g_10 hy_Mo_isKern rfl (Nat.le_of_ble_eq_true rfl) d_Mo_kern_21 rfl ?_
          refine J_ifB_ne (q := 27) (tgt := 29) d_Mo_kern_24 (by decide) rfl (fun hb => ?_) (fun hb => ?_)
          · rw [iB_t hb] at h
            refine J_aload_n (q := 30) 0 d_Mo_kern_29 rfl rfl rfl ?_
            refine J_getF (q := 33) cd_12 (by decide) ft_12_61 rfl g_1112 rfl d_Mo_kern_30 rfl ?_
            refine J_bipush (q := 35) (v := (16 : Int32)) d_Mo_kern_33 (by decide) rfl ?_
            refine J_iload_n (q := 36) 1 d_Mo_kern_35 rfl rfl rfl ?_
            refine J_imul (q := 37) d_Mo_kern_36 rfl ?_
            refine J_iload_n (q := 38) 2 d_Mo_kern_37 rfl rfl rfl ?_
            refine J_iadd (q := 39) d_Mo_kern_38 rfl ?_
            refine J_iload_n (q := 40) 3 d_Mo_kern_39 rfl rfl rfl ?_
            obtain ⟨hi1, h⟩ := gu_some h
            refine J_iast (q := 41) rk_401 (by decide) hi1 d_Mo_kern_40 rfl ?_
            obtain ⟨μ2, hμ2, h⟩ := ap_eq h
            refine J_nmM hμ2 ?_
            refine J_iconst (q := 42) (v := (1 : Int32)) d_Mo_kern_41 (by decide) rfl ?_
            obtain rfl := Option.some.inj h
            exact J_zret (Or.inr rfl) rfl ⟨rfl, rfl⟩ d_Mo_kern_42
          · rw [iB_f hb] at h
            refine J_iconst (q := 28) (v := (0 : Int32)) d_Mo_kern_27 (by decide) rfl ?_
            obtain rfl := Option.some.inj h
            exact J_zret (Or.inl rfl) rfl ⟨rfl, rfl⟩ d_Mo_kern_28
def mj_Mo_exception_54 (a1 : Int32) (a2 : Int32) (a3 : Int32) (z0 : Int32) (z1 : Int32) (μ : Mem) : Option (Bool × Mem) :=
  gu (z1) 1024 <|
  z01 (z0) <|
  ap (sI μ 403 (0) z1.toNatClampNeg (z0)) fun μ3 =>
  gu (((32 : Int32) * a1) + (a2)) 1024 <|
  ap (sI μ3 402 (0) (((32 : Int32) * a1) + (a2)).toNatClampNeg (a3)) fun μ5 =>
  some ((true, μ5))
theorem tj_Mo_exception_54 (a1 : Int32) (a2 : Int32) (a3 : Int32) {q : Bool × Mem}  (z0 : Int32) (z1 : Int32) (μ : Mem) (h : mj_Mo_exception_54 a1 a2 a3 z0 z1 μ = some q) : J (GM true (QQ (some (vi (b2i q.1))) q.2) (some (.boolean)) y_Mo_exception.name) true b_Mo_exception R_12 4 (1) 0 0 54 [(0, vr 12 (0)), (1, vi (a1)), (2, vi (a2)), (3, vi (a3))] [vi (z0), vi (z1), vr 403 (0)] μ := by
  unfold mj_Mo_exception_54 at h
  obtain ⟨hi1, h⟩ := gu_some h
  obtain ⟨hg2, h⟩ := z01_some h
  refine J_zast (q := 55) hg2 rk_403 (by decide) hi1 d_Mo_exception_54 rfl ?_
  obtain ⟨μ3, hμ3, h⟩ := ap_eq h
  refine J_nmM hμ3 ?_
  refine J_aload_n (q := 56) 0 d_Mo_exception_55 rfl rfl rfl ?_
  refine J_getF (q := 59) cd_12 (by decide) ft_12_62 rfl g_1113 rfl d_Mo_exception_56 rfl ?_
  refine J_bipush (q := 61) (v := (32 : Int32)) d_Mo_exception_59 (by decide) rfl ?_
  refine J_iload_n (q := 62) 1 d_Mo_exception_61 rfl rfl rfl ?_
  refine J_imul (q := 63) d_Mo_exception_62 rfl ?_
  refine J_iload_n (q := 64) 2 d_Mo_exception_63 rfl rfl rfl ?_
  refine J_iadd (q := 65) d_Mo_exception_64 rfl ?_
  refine J_iload_n (q := 66) 3 d_Mo_exception_65 rfl rfl rfl ?_
  obtain ⟨hi4, h⟩ := gu_some h
  refine J_iast (q := 67) rk_402 (by decide) hi4 d_Mo_exception_66 rfl ?_
  obtain ⟨μ5, hμ5, h⟩ := ap_eq h
  refine J_nmM hμ5 ?_
  refine J_iconst (q := 68) (v := (1 : Int32)) d_Mo_exception_67 (by decide) rfl ?_
  obtain rfl := Option.some.inj h
  exact J_zret (Or.inr rfl) rfl ⟨rfl, rfl⟩ d_Mo_exception_68
def mj_Mo_exception_32 (a1 : Int32) (a2 : Int32) (a3 : Int32) (μ : Mem) : Option (Bool × Mem) :=
  if a3 = (10000 : Int32) then
 (mj_Mo_exception_54 a1 a2 a3 ((0 : Int32)) (((32 : Int32) * a1) + (a2)) μ)
 else
 (mj_Mo_exception_54 a1 a2 a3 ((1 : Int32)) (((32 : Int32) * a1) + (a2)) μ)
theorem tj_Mo_exception_32 (a1 : Int32) (a2 : Int32) (a3 : Int32) {q : Bool × Mem}  (μ : Mem) (h : mj_Mo_exception_32 a1 a2 a3  μ = some q) : J (GM true (QQ (some (vi (b2i q.1))) q.2) (some (.boolean)) y_Mo_exception.name) true b_Mo_exception R_12 4 (1) 0 0 32 [(0, vr 12 (0)), (1, vi (a1)), (2, vi (a2)), (3, vi (a3))] [] μ := by
  unfold mj_Mo_exception_32 at h
  refine J_aload_n (q := 33) 0 d_Mo_exception_32 rfl rfl rfl ?_
  refine J_getF (q := 36) cd_12 (by decide) ft_12_63 rfl g_1114 rfl d_Mo_exception_33 rfl ?_
  refine J_bipush (q := 38) (v := (32 : Int32)) d_Mo_exception_36 (by decide) rfl ?_
  refine J_iload_n (q := 39) 1 d_Mo_exception_38 rfl rfl rfl ?_
  refine J_imul (q := 40) d_Mo_exception_39 rfl ?_
  refine J_iload_n (q := 41) 2 d_Mo_exception_40 rfl rfl rfl ?_
  refine J_iadd (q := 42) d_Mo_exception_41 rfl ?_
  refine J_iload_n (q := 43) 3 d_Mo_exception_42 rfl rfl rfl ?_
  refine J_sipush (q := 46) (v := (10000 : Int32)) d_Mo_exception_43 (by decide) rfl ?_
  refine J_icmp_eq (q := 49) (tgt := 53) d_Mo_exception_46 (by decide) rfl (fun hc => ?_) (fun hc => ?_)
  · rw [if_pos hc] at h
    refine J_iconst (q := 54) (v := (0 : Int32)) d_Mo_exception_53 (by decide) rfl ?_
    refine J_pick [0, 1, 2, 3] rfl ?_
    exact tj_Mo_exception_54 a1 a2 a3 _ _ _ h
  · rw [if_neg hc] at h
    refine J_iconst (q := 50) (v := (1 : Int32)) d_Mo_exception_49 (by decide) rfl ?_
    refine J_goto (q := 54) d_Mo_exception_50 (by decide) ?_
    refine J_pick [0, 1, 2, 3] rfl ?_
    exact tj_Mo_exception_54 a1 a2 a3 _ _ _ h
def m_Mo_exception (a1 : Int32) (a2 : Int32) (a3 : Int32) (μ : Mem) : Option (Bool × Mem) :=
  if (m_Mo_isLetter (a1) μ) then
 (if (m_Mo_isLetter (a2) μ) then
 (if (m_Mo_isKern (a3) μ) then
 (mj_Mo_exception_32 a1 a2 a3 μ)
 else
 (if a3 = (10000 : Int32) then
 (mj_Mo_exception_32 a1 a2 a3 μ)
 else
 (some ((false, μ)))))
 else
 (some ((false, μ))))
 else
 (some ((false, μ)))
theorem t_Mo_exception {a1 : Int32} {a2 : Int32} {a3 : Int32} {μ : Mem} {q : Bool × Mem} (h : m_Mo_exception a1 a2 a3 μ = some q) : JM true (1) y_Mo_exception b_Mo_exception 4 (some (.boolean)) 0 0 [vr 12 (0), vi (a1), vi (a2), vi (a3)] μ (QQ (some (vi (b2i q.1))) q.2) := by
  unfold m_Mo_exception at h
  refine JM.of pl_Mo_exception (fun ρ => Nat.le_of_ble_eq_true rfl) ?_
  show J (GM true (QQ (some (vi (b2i q.1))) q.2) (some (.boolean)) y_Mo_exception.name) true b_Mo_exception R_12 4 (1) 0 0 0 [(0, vr 12 (0)), (1, vi (a1)), (2, vi (a2)), (3, vi (a3))] [] μ
  refine J_aload_n (q := 1) 0 d_Mo_exception_0 rfl rfl rfl ?_
  refine J_iload_n (q := 2) 1 d_Mo_exception_1 rfl rfl rfl ?_
  refine J_callVq (rc := 0) (rs := 0) (q := 5) (as := [vi (a1)]) (st := []) (by decide) rfl g_1287 sel_Mo_isLetter (t_Mo_isLetter rfl) (by decide) (by decide) g_1285 g_1288 g_10 hy_Mo_isLetter rfl (Nat.le_of_ble_eq_true rfl) d_Mo_exception_2 rfl ?_
  refine J_ifB_eq (q := 8) (tgt := 30) d_Mo_exception_5 (by decide) rfl (fun hb => ?_) (fun hb => ?_)
  · rw [iB_f hb] at h
    refine J_iconst (q := 31) (v := (0 : Int32)) d_Mo_exception_30 (by decide) rfl ?_
    obtain rfl := Option.some.inj h
    exact J_zret (Or.inl rfl) rfl ⟨rfl, rfl⟩ d_Mo_exception_31
  · rw [iB_t hb] at h
    refine J_aload_n (q := 9) 0 d_Mo_exception_8 rfl rfl rfl ?_
    refine J_iload_n (q := 10) 2 d_Mo_exception_9 rfl rfl rfl ?_
    refine J_callVq (rc := 0) (rs := 0) (q := 13) (as := [vi (a2)]) (st := []) (by decide) rfl g_1287 sel_Mo_isLetter (t_Mo_isLetter rfl) (by decide) (by decide) g_1285 g_1288 g_10 hy_Mo_isLetter rfl (Nat.le_of_ble_eq_true rfl) d_Mo_exception_10 rfl ?_
    refine J_ifB_eq (q := 16) (tgt := 30) d_Mo_exception_13 (by decide) rfl (fun hb => ?_) (fun hb => ?_)
    · rw [iB_f hb] at h
      refine J_iconst (q := 31) (v := (0 : Int32)) d_Mo_exception_30 (by decide) rfl ?_
      obtain rfl := Option.some.inj h
      exact J_zret (Or.inl rfl) rfl ⟨rfl, rfl⟩ d_Mo_exception_31
    · rw [iB_t hb] at h
      refine J_iload_n (q := 17) 3 d_Mo_exception_16 rfl rfl rfl ?_
      refine J_callSq (rc := 0) (rs := 0) (q := 20) (as := [vi (a3)]) (st := []) g_1542 (t_Mo_isKern rfl) (by decide) (by decide) g_1541 g_1543 g_10 hy_Mo_isKern rfl (Nat.le_of_ble_eq_true rfl) d_Mo_exception_17 rfl ?_
      refine J_ifB_ne (q := 23) (tgt := 32) d_Mo_exception_20 (by decide) rfl (fun hb => ?_) (fun hb => ?_)
      · rw [iB_t hb] at h
        refine J_pick [0, 1, 2, 3] rfl ?_
        exact tj_Mo_exception_32 a1 a2 a3 _ h
      · rw [iB_f hb] at h
        refine J_iload_n (q := 24) 3 d_Mo_exception_23 rfl rfl rfl ?_
        refine J_sipush (q := 27) (v := (10000 : Int32)) d_Mo_exception_24 (by decide) rfl ?_
        refine J_icmp_eq (q := 30) (tgt := 32) d_Mo_exception_27 (by decide) rfl (fun hc => ?_) (fun hc => ?_)
        · rw [if_pos hc] at h
          refine J_pick [0, 1, 2, 3] rfl ?_
          exact tj_Mo_exception_32 a1 a2 a3 _ h
        · rw [if_neg hc] at h
          refine J_iconst (q := 31) (v := (0 : Int32)) d_Mo_exception_30 (by decide) rfl ?_
          obtain rfl := Option.some.inj h
          exact J_zret (Or.inl rfl) rfl ⟨rfl, rfl⟩ d_Mo_exception_31
def m_Mo_kerning (a1 : Int32) (a2 : Int32) (μ : Mem) : Option (Int32) :=
  if (m_Mo_isLetter (a1) μ) then
 (if (m_Mo_isLetter (a2) μ) then
 (gu (((32 : Int32) * a1) + (a2)) 1024 <|
  if gI μ 403 (0) (((32 : Int32) * a1) + (a2)).toNatClampNeg = 0 then
 (gu (a1) 32 <|
  gu (a2) 32 <|
  gu ((((16 : Int32)) * (gI μ 400 (0) a1.toNatClampNeg)) + (gI μ 399 (0) a2.toNatClampNeg)) 256 <|
  some (gI μ 401 (0) ((((16 : Int32)) * (gI μ 400 (0) a1.toNatClampNeg)) + (gI μ 399 (0) a2.toNatClampNeg)).toNatClampNeg))
 else
 (gu (((32 : Int32) * a1) + (a2)) 1024 <|
  some (gI μ 402 (0) (((32 : Int32) * a1) + (a2)).toNatClampNeg)))
 else
 (some ((0 : Int32))))
 else
 (some ((0 : Int32)))
theorem t_Mo_kerning {a1 : Int32} {a2 : Int32} {μ : Mem} {q : Int32} (h : m_Mo_kerning a1 a2 μ = some q) : JM true (1) y_Mo_kerning b_Mo_kerning 3 (some (.int)) 0 0 [vr 12 (0), vi (a1), vi (a2)] μ (QQ (some (vi q)) μ) := by
  unfold m_Mo_kerning at h
  refine JM.of pl_Mo_kerning (fun ρ => Nat.le_of_ble_eq_true rfl) ?_
  show J (GM true (QQ (some (vi q)) μ) (some (.int)) y_Mo_kerning.name) true b_Mo_kerning R_12 3 (1) 0 0 0 [(0, vr 12 (0)), (1, vi (a1)), (2, vi (a2))] [] μ
  refine J_aload_n (q := 1) 0 d_Mo_kerning_0 rfl rfl rfl ?_
  refine J_iload_n (q := 2) 1 d_Mo_kerning_1 rfl rfl rfl ?_
  refine J_callVq (rc := 0) (rs := 0) (q := 5) (as := [vi (a1)]) (st := []) (by decide) rfl g_1287 sel_Mo_isLetter (t_Mo_isLetter rfl) (by decide) (by decide) g_1285 g_1288 g_10 hy_Mo_isLetter rfl (Nat.le_of_ble_eq_true rfl) d_Mo_kerning_2 rfl ?_
  refine J_ifB_eq (q := 8) (tgt := 16) d_Mo_kerning_5 (by decide) rfl (fun hb => ?_) (fun hb => ?_)
  · rw [iB_f hb] at h
    refine J_iconst (q := 17) (v := (0 : Int32)) d_Mo_kerning_16 (by decide) rfl ?_
    obtain rfl := Option.some.inj h
    exact J_iret rfl ⟨rfl, rfl⟩ d_Mo_kerning_17
  · rw [iB_t hb] at h
    refine J_aload_n (q := 9) 0 d_Mo_kerning_8 rfl rfl rfl ?_
    refine J_iload_n (q := 10) 2 d_Mo_kerning_9 rfl rfl rfl ?_
    refine J_callVq (rc := 0) (rs := 0) (q := 13) (as := [vi (a2)]) (st := []) (by decide) rfl g_1287 sel_Mo_isLetter (t_Mo_isLetter rfl) (by decide) (by decide) g_1285 g_1288 g_10 hy_Mo_isLetter rfl (Nat.le_of_ble_eq_true rfl) d_Mo_kerning_10 rfl ?_
    refine J_ifB_ne (q := 16) (tgt := 18) d_Mo_kerning_13 (by decide) rfl (fun hb => ?_) (fun hb => ?_)
    · rw [iB_t hb] at h
      refine J_aload_n (q := 19) 0 d_Mo_kerning_18 rfl rfl rfl ?_
      refine J_getF (q := 22) cd_12 (by decide) ft_12_63 rfl g_1114 rfl d_Mo_kerning_19 rfl ?_
      refine J_bipush (q := 24) (v := (32 : Int32)) d_Mo_kerning_22 (by decide) rfl ?_
      refine J_iload_n (q := 25) 1 d_Mo_kerning_24 rfl rfl rfl ?_
      refine J_imul (q := 26) d_Mo_kerning_25 rfl ?_
      refine J_iload_n (q := 27) 2 d_Mo_kerning_26 rfl rfl rfl ?_
      refine J_iadd (q := 28) d_Mo_kerning_27 rfl ?_
      obtain ⟨hi1, h⟩ := gu_some h
      refine J_zald (q := 29) rk_403 (by decide) hi1 d_Mo_kerning_28 rfl ?_
      refine J_if_eq (q := 32) (tgt := 46) d_Mo_kerning_29 (by decide) rfl (fun hc => ?_) (fun hc => ?_)
      · rw [if_pos hc] at h
        refine J_aload_n (q := 47) 0 d_Mo_kerning_46 rfl rfl rfl ?_
        refine J_getF (q := 50) cd_12 (by decide) ft_12_61 rfl g_1112 rfl d_Mo_kerning_47 rfl ?_
        refine J_bipush (q := 52) (v := (16 : Int32)) d_Mo_kerning_50 (by decide) rfl ?_
        refine J_aload_n (q := 53) 0 d_Mo_kerning_52 rfl rfl rfl ?_
        refine J_getF (q := 56) cd_12 (by decide) ft_12_60 rfl g_1111 rfl d_Mo_kerning_53 rfl ?_
        refine J_iload_n (q := 57) 1 d_Mo_kerning_56 rfl rfl rfl ?_
        obtain ⟨hi2, h⟩ := gu_some h
        refine J_iald (q := 58) rk_400 (by decide) hi2 d_Mo_kerning_57 rfl ?_
        refine J_imul (q := 59) d_Mo_kerning_58 rfl ?_
        refine J_aload_n (q := 60) 0 d_Mo_kerning_59 rfl rfl rfl ?_
        refine J_getF (q := 63) cd_12 (by decide) ft_12_59 rfl g_1110 rfl d_Mo_kerning_60 rfl ?_
        refine J_iload_n (q := 64) 2 d_Mo_kerning_63 rfl rfl rfl ?_
        obtain ⟨hi3, h⟩ := gu_some h
        refine J_iald (q := 65) rk_399 (by decide) hi3 d_Mo_kerning_64 rfl ?_
        refine J_iadd (q := 66) d_Mo_kerning_65 rfl ?_
        obtain ⟨hi4, h⟩ := gu_some h
        refine J_iald (q := 67) rk_401 (by decide) hi4 d_Mo_kerning_66 rfl ?_
        obtain rfl := Option.some.inj h
        exact J_iret rfl ⟨rfl, rfl⟩ d_Mo_kerning_67
      · rw [if_neg hc] at h
        refine J_aload_n (q := 33) 0 d_Mo_kerning_32 rfl rfl rfl ?_
        refine J_getF (q := 36) cd_12 (by decide) ft_12_62 rfl g_1113 rfl d_Mo_kerning_33 rfl ?_
        refine J_bipush (q := 38) (v := (32 : Int32)) d_Mo_kerning_36 (by decide) rfl ?_
        refine J_iload_n (q := 39) 1 d_Mo_kerning_38 rfl rfl rfl ?_
        refine J_imul (q := 40) d_Mo_kerning_39 rfl ?_
        refine J_iload_n (q := 41) 2 d_Mo_kerning_40 rfl rfl rfl ?_
        refine J_iadd (q := 42) d_Mo_kerning_41 rfl ?_
        obtain ⟨hi5, h⟩ := gu_some h
        refine J_iald (q := 43) rk_402 (by decide) hi5 d_Mo_kerning_42 rfl ?_
        refine J_goto (q := 67) d_Mo_kerning_43 (by decide) ?_
        obtain rfl := Option.some.inj h
        exact J_iret rfl ⟨rfl, rfl⟩ d_Mo_kerning_67
    · rw [iB_f hb] at h
      refine J_iconst (q := 17) (v := (0 : Int32)) d_Mo_kerning_16 (by decide) rfl ?_
      obtain rfl := Option.some.inj h
      exact J_iret rfl ⟨rfl, rfl⟩ d_Mo_kerning_17
def mj_Mo_join_26 (a1 : Int32) (a2 : Int32) (a3 : Int32) (a4 : Int32) (μ : Mem) : Option (Int32 × Mem) :=
  if (m_Mo_isCode (a4) μ) then
 (if gI μ 12 (0) 64 = (40 : Int32) then
 (some (((-1 : Int32), μ)))
 else
 (gu (((4 : Int32)) * (gI μ 12 (0) 64)) 160 <|
  ap (sI μ 405 (0) (((4 : Int32)) * (gI μ 12 (0) 64)).toNatClampNeg (a1)) fun μ2 =>
  gu ((((4 : Int32)) * (gI μ2 12 (0) 64)) + ((1 : Int32))) 160 <|
  ap (sI μ2 405 (0) ((((4 : Int32)) * (gI μ2 12 (0) 64)) + ((1 : Int32))).toNatClampNeg (a2)) fun μ4 =>
  gu ((((4 : Int32)) * (gI μ4 12 (0) 64)) + ((2 : Int32))) 160 <|
  ap (sI μ4 405 (0) ((((4 : Int32)) * (gI μ4 12 (0) 64)) + ((2 : Int32))).toNatClampNeg (a3)) fun μ6 =>
  gu ((((4 : Int32)) * (gI μ6 12 (0) 64)) + ((3 : Int32))) 160 <|
  ap (sI μ6 405 (0) ((((4 : Int32)) * (gI μ6 12 (0) 64)) + ((3 : Int32))).toNatClampNeg (a4)) fun μ8 =>
  ap (sI μ8 12 (0) 64 ((gI μ8 12 (0) 64) + ((1 : Int32)))) fun μ9 =>
  some ((gI μ9 12 (0) 64, μ9))))
 else
 (some (((-1 : Int32), μ)))
theorem tj_Mo_join_26 (a1 : Int32) (a2 : Int32) (a3 : Int32) (a4 : Int32) {q : Int32 × Mem}  (μ : Mem) (h : mj_Mo_join_26 a1 a2 a3 a4  μ = some q) : J (GM true (QQ (some (vi q.1)) q.2) (some (.int)) y_Mo_join.name) true b_Mo_join R_12 5 (1) 0 0 26 [(0, vr 12 (0)), (1, vi (a1)), (2, vi (a2)), (3, vi (a3)), (4, vi (a4))] [] μ := by
  unfold mj_Mo_join_26 at h
  refine J_iload (q := 28) 4 d_Mo_join_26 rfl rfl ?_
  refine J_callSq (rc := 0) (rs := 0) (q := 31) (as := [vi (a4)]) (st := []) g_1278 (t_Mo_isCode rfl) (by decide) (by decide) g_1277 g_1279 g_10 hy_Mo_isCode rfl (Nat.le_of_ble_eq_true rfl) d_Mo_join_28 rfl ?_
  refine J_ifB_eq (q := 34) (tgt := 43) d_Mo_join_31 (by decide) rfl (fun hb => ?_) (fun hb => ?_)
  · rw [iB_f hb] at h
    refine J_iconst (q := 44) (v := (-1 : Int32)) d_Mo_join_43 (by decide) rfl ?_
    obtain rfl := Option.some.inj h
    exact J_iret rfl ⟨rfl, rfl⟩ d_Mo_join_44
  · rw [iB_t hb] at h
    refine J_aload_n (q := 35) 0 d_Mo_join_34 rfl rfl rfl ?_
    refine J_getI (q := 38) (j := 64) cd_12 (by decide) (Or.inl rfl) g_1115 rfl d_Mo_join_35 rfl ?_
    refine J_bipush (q := 40) (v := (40 : Int32)) d_Mo_join_38 (by decide) rfl ?_
    refine J_icmp_ne (q := 43) (tgt := 45) d_Mo_join_40 (by decide) rfl (fun hc => ?_) (fun hc => ?_)
    · rw [if_neg hc] at h
      refine J_aload_n (q := 46) 0 d_Mo_join_45 rfl rfl rfl ?_
      refine J_getF (q := 49) cd_12 (by decide) ft_12_65 rfl g_1116 rfl d_Mo_join_46 rfl ?_
      refine J_iconst (q := 50) (v := (4 : Int32)) d_Mo_join_49 (by decide) rfl ?_
      refine J_aload_n (q := 51) 0 d_Mo_join_50 rfl rfl rfl ?_
      refine J_getI (q := 54) (j := 64) cd_12 (by decide) (Or.inl rfl) g_1115 rfl d_Mo_join_51 rfl ?_
      refine J_imul (q := 55) d_Mo_join_54 rfl ?_
      refine J_iload_n (q := 56) 1 d_Mo_join_55 rfl rfl rfl ?_
      obtain ⟨hi1, h⟩ := gu_some h
      refine J_iast (q := 57) rk_405 (by decide) hi1 d_Mo_join_56 rfl ?_
      obtain ⟨μ2, hμ2, h⟩ := ap_eq h
      refine J_nmM hμ2 ?_
      refine J_aload_n (q := 58) 0 d_Mo_join_57 rfl rfl rfl ?_
      refine J_getF (q := 61) cd_12 (by decide) ft_12_65 rfl g_1116 rfl d_Mo_join_58 rfl ?_
      refine J_iconst (q := 62) (v := (4 : Int32)) d_Mo_join_61 (by decide) rfl ?_
      refine J_aload_n (q := 63) 0 d_Mo_join_62 rfl rfl rfl ?_
      refine J_getI (q := 66) (j := 64) cd_12 (by decide) (Or.inl rfl) g_1115 rfl d_Mo_join_63 rfl ?_
      refine J_imul (q := 67) d_Mo_join_66 rfl ?_
      refine J_iconst (q := 68) (v := (1 : Int32)) d_Mo_join_67 (by decide) rfl ?_
      refine J_iadd (q := 69) d_Mo_join_68 rfl ?_
      refine J_iload_n (q := 70) 2 d_Mo_join_69 rfl rfl rfl ?_
      obtain ⟨hi3, h⟩ := gu_some h
      refine J_iast (q := 71) rk_405 (by decide) hi3 d_Mo_join_70 rfl ?_
      obtain ⟨μ4, hμ4, h⟩ := ap_eq h
      refine J_nmM hμ4 ?_
      refine J_aload_n (q := 72) 0 d_Mo_join_71 rfl rfl rfl ?_
      refine J_getF (q := 75) cd_12 (by decide) ft_12_65 rfl g_1116 rfl d_Mo_join_72 rfl ?_
      refine J_iconst (q := 76) (v := (4 : Int32)) d_Mo_join_75 (by decide) rfl ?_
      refine J_aload_n (q := 77) 0 d_Mo_join_76 rfl rfl rfl ?_
      refine J_getI (q := 80) (j := 64) cd_12 (by decide) (Or.inl rfl) g_1115 rfl d_Mo_join_77 rfl ?_
      refine J_imul (q := 81) d_Mo_join_80 rfl ?_
      refine J_iconst (q := 82) (v := (2 : Int32)) d_Mo_join_81 (by decide) rfl ?_
      refine J_iadd (q := 83) d_Mo_join_82 rfl ?_
      refine J_iload_n (q := 84) 3 d_Mo_join_83 rfl rfl rfl ?_
      obtain ⟨hi5, h⟩ := gu_some h
      refine J_iast (q := 85) rk_405 (by decide) hi5 d_Mo_join_84 rfl ?_
      obtain ⟨μ6, hμ6, h⟩ := ap_eq h
      refine J_nmM hμ6 ?_
      refine J_aload_n (q := 86) 0 d_Mo_join_85 rfl rfl rfl ?_
      refine J_getF (q := 89) cd_12 (by decide) ft_12_65 rfl g_1116 rfl d_Mo_join_86 rfl ?_
      refine J_iconst (q := 90) (v := (4 : Int32)) d_Mo_join_89 (by decide) rfl ?_
      refine J_aload_n (q := 91) 0 d_Mo_join_90 rfl rfl rfl ?_
      refine J_getI (q := 94) (j := 64) cd_12 (by decide) (Or.inl rfl) g_1115 rfl d_Mo_join_91 rfl ?_
      refine J_imul (q := 95) d_Mo_join_94 rfl ?_
      refine J_iconst (q := 96) (v := (3 : Int32)) d_Mo_join_95 (by decide) rfl ?_
      refine J_iadd (q := 97) d_Mo_join_96 rfl ?_
      refine J_iload (q := 99) 4 d_Mo_join_97 rfl rfl ?_
      obtain ⟨hi7, h⟩ := gu_some h
      refine J_iast (q := 100) rk_405 (by decide) hi7 d_Mo_join_99 rfl ?_
      obtain ⟨μ8, hμ8, h⟩ := ap_eq h
      refine J_nmM hμ8 ?_
      refine J_aload_n (q := 101) 0 d_Mo_join_100 rfl rfl rfl ?_
      refine J_dupR (q := 102) d_Mo_join_101 rfl ?_
      refine J_getI (q := 105) (j := 64) cd_12 (by decide) (Or.inl rfl) g_1115 rfl d_Mo_join_102 rfl ?_
      refine J_iconst (q := 106) (v := (1 : Int32)) d_Mo_join_105 (by decide) rfl ?_
      refine J_iadd (q := 107) d_Mo_join_106 rfl ?_
      refine J_putI (q := 110) (j := 64) cd_12 (by decide) rfl rfl rfl g_1115 rfl d_Mo_join_107 rfl ?_
      obtain ⟨μ9, hμ9, h⟩ := ap_eq h
      refine J_nmM hμ9 ?_
      refine J_aload_n (q := 111) 0 d_Mo_join_110 rfl rfl rfl ?_
      refine J_getI (q := 114) (j := 64) cd_12 (by decide) (Or.inl rfl) g_1115 rfl d_Mo_join_111 rfl ?_
      obtain rfl := Option.some.inj h
      exact J_iret rfl ⟨rfl, rfl⟩ d_Mo_join_114
    · rw [if_pos hc] at h
      refine J_iconst (q := 44) (v := (-1 : Int32)) d_Mo_join_43 (by decide) rfl ?_
      obtain rfl := Option.some.inj h
      exact J_iret rfl ⟨rfl, rfl⟩ d_Mo_join_44
def m_Mo_join (a1 : Int32) (a2 : Int32) (a3 : Int32) (a4 : Int32) (μ : Mem) : Option (Int32 × Mem) :=
  if (m_Mo_isCode (a1) μ) then
 (if (m_Mo_isCode (a2) μ) then
 (if a3 = (-1 : Int32) then
 (mj_Mo_join_26 a1 a2 a3 a4 μ)
 else
 (if (m_Mo_isCode (a3) μ) then
 (mj_Mo_join_26 a1 a2 a3 a4 μ)
 else
 (some (((-1 : Int32), μ)))))
 else
 (some (((-1 : Int32), μ))))
 else
 (some (((-1 : Int32), μ)))
theorem t_Mo_join {a1 : Int32} {a2 : Int32} {a3 : Int32} {a4 : Int32} {μ : Mem} {q : Int32 × Mem} (h : m_Mo_join a1 a2 a3 a4 μ = some q) : JM true (1) y_Mo_join b_Mo_join 5 (some (.int)) 0 0 [vr 12 (0), vi (a1), vi (a2), vi (a3), vi (a4)] μ (QQ (some (vi q.1)) q.2) := by
  unfold m_Mo_join at h
  refine JM.of pl_Mo_join (fun ρ => Nat.le_of_ble_eq_true rfl) ?_
  show J (GM true (QQ (some (vi q.1)) q.2) (some (.int)) y_Mo_join.name) true b_Mo_join R_12 5 (1) 0 0 0 [(0, vr 12 (0)), (1, vi (a1)), (2, vi (a2)), (3, vi (a3)), (4, vi (a4))] [] μ
  refine J_iload_n (q := 1) 1 d_Mo_join_0 rfl rfl rfl ?_
  refine J_callSq (rc := 0) (rs := 0) (q := 4) (as := [vi (a1)]) (st := []) g_1278 (t_Mo_isCode rfl) (by decide) (by decide) g_1277 g_1279 g_10 hy_Mo_isCode rfl (Nat.le_of_ble_eq_true rfl) d_Mo_join_1 rfl ?_
  refine J_ifB_eq (q := 7) (tgt := 43) d_Mo_join_4 (by decide) rfl (fun hb => ?_) (fun hb => ?_)
  · rw [iB_f hb] at h
    refine J_iconst (q := 44) (v := (-1 : Int32)) d_Mo_join_43 (by decide) rfl ?_
    obtain rfl := Option.some.inj h
    exact J_iret rfl ⟨rfl, rfl⟩ d_Mo_join_44
  · rw [iB_t hb] at h
    refine J_iload_n (q := 8) 2 d_Mo_join_7 rfl rfl rfl ?_
    refine J_callSq (rc := 0) (rs := 0) (q := 11) (as := [vi (a2)]) (st := []) g_1278 (t_Mo_isCode rfl) (by decide) (by decide) g_1277 g_1279 g_10 hy_Mo_isCode rfl (Nat.le_of_ble_eq_true rfl) d_Mo_join_8 rfl ?_
    refine J_ifB_eq (q := 14) (tgt := 43) d_Mo_join_11 (by decide) rfl (fun hb => ?_) (fun hb => ?_)
    · rw [iB_f hb] at h
      refine J_iconst (q := 44) (v := (-1 : Int32)) d_Mo_join_43 (by decide) rfl ?_
      obtain rfl := Option.some.inj h
      exact J_iret rfl ⟨rfl, rfl⟩ d_Mo_join_44
    · rw [iB_t hb] at h
      refine J_iload_n (q := 15) 3 d_Mo_join_14 rfl rfl rfl ?_
      refine J_iconst (q := 16) (v := (-1 : Int32)) d_Mo_join_15 (by decide) rfl ?_
      refine J_icmp_eq (q := 19) (tgt := 26) d_Mo_join_16 (by decide) rfl (fun hc => ?_) (fun hc => ?_)
      · rw [if_pos hc] at h
        refine J_pick [0, 1, 2, 3, 4] rfl ?_
        exact tj_Mo_join_26 a1 a2 a3 a4 _ h
      · rw [if_neg hc] at h
        refine J_iload_n (q := 20) 3 d_Mo_join_19 rfl rfl rfl ?_
        refine J_callSq (rc := 0) (rs := 0) (q := 23) (as := [vi (a3)]) (st := []) g_1278 (t_Mo_isCode rfl) (by decide) (by decide) g_1277 g_1279 g_10 hy_Mo_isCode rfl (Nat.le_of_ble_eq_true rfl) d_Mo_join_20 rfl ?_
        refine J_ifB_eq (q := 26) (tgt := 43) d_Mo_join_23 (by decide) rfl (fun hb => ?_) (fun hb => ?_)
        · rw [iB_f hb] at h
          refine J_iconst (q := 44) (v := (-1 : Int32)) d_Mo_join_43 (by decide) rfl ?_
          obtain rfl := Option.some.inj h
          exact J_iret rfl ⟨rfl, rfl⟩ d_Mo_join_44
        · rw [iB_t hb] at h
          refine J_pick [0, 1, 2, 3, 4] rfl ?_
          exact tj_Mo_join_26 a1 a2 a3 a4 _ h
