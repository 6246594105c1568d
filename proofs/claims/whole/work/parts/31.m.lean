def lp_Mo_image_68 (a1 : Int32) (a2 : Int32) (a3 : Int32) (a4 : Int32) (c_90 : Mem → Option (Int32 × Mem)) : Nat → Int32 → Mem → Option (Int32 × Mem)
  | 0, _, _ => none
  | n + 1, y5, μ =>
  if (4096 : Int32) ≤ y5 then
 (c_90 μ)
 else
 (gu (y5) 4096 <|
  ap (sI μ 379 (0) y5.toNatClampNeg ((0 : Int32))) fun μ9 =>
  ap (y5 + (1 : Int32)) fun x10 =>
  lp_Mo_image_68 a1 a2 a3 a4 c_90 n (x10) μ9)
theorem tl_Mo_image_68 (a1 : Int32) (a2 : Int32) (a3 : Int32) (a4 : Int32) {q : Int32 × Mem} {c_90 : Mem → Option (Int32 × Mem)} (hc_90 : ∀ (μ : Mem), c_90  μ = some q → J (GM true (QQ (some (vi q.1)) q.2) (some (.int)) y_Mo_image.name) true b_Mo_image R_12 9 (5) 0 0 90 [(0, vr 12 (0)), (3, vi (a3)), (4, vi (a4))] [] μ) : ∀ (n : Nat) (y5 : Int32) (μ : Mem), lp_Mo_image_68 a1 a2 a3 a4 c_90 n y5 μ = some q → J (GM true (QQ (some (vi q.1)) q.2) (some (.int)) y_Mo_image.name) true b_Mo_image R_12 9 (5) 0 0 68 [(0, vr 12 (0)), (3, vi (a3)), (4, vi (a4)), (5, vi (y5))] [] μ := by
  intro n
  induction n with
  | zero => intro _ _ h; cases h
  | succ n ih =>
    intro y5 μ h
    unfold lp_Mo_image_68 at h
    refine J_iload (q := 70) 3 d_Mo_image_68 rfl rfl ?_
    refine J_sipush (q := 73) (v := (4096 : Int32)) d_Mo_image_70 (by decide) rfl ?_
    refine J_icmp_ge (q := 76) (tgt := 90) d_Mo_image_73 (by decide) rfl (fun hc => ?_) (fun hc => ?_)
    · rw [if_pos hc] at h
      refine J_pick [0, 1, 2] rfl ?_
      exact hc_90 _ h
    · rw [if_neg hc] at h
      refine J_aload_n (q := 77) 0 d_Mo_image_76 rfl rfl rfl ?_
      refine J_getF (q := 80) cd_12 (by decide) ft_12_39 rfl g_1090 rfl d_Mo_image_77 rfl ?_
      refine J_iload (q := 82) 3 d_Mo_image_80 rfl rfl ?_
      refine J_iconst (q := 83) (v := (0 : Int32)) d_Mo_image_82 (by decide) rfl ?_
      obtain ⟨hi8, h⟩ := gu_some h
      refine J_iast (q := 84) rk_379 (by decide) hi8 d_Mo_image_83 rfl ?_
      obtain ⟨μ9, hμ9, h⟩ := ap_eq h
      refine J_nmM hμ9 ?_
      obtain ⟨x10, hx10, h⟩ := ap_eq h
      refine J_iinc (q := 87) (v := x10) (lv' := [(5, vi (x10)), (0, vr 12 (0)), (3, vi (a3)), (4, vi (a4))]) 3 d_Mo_image_84 rfl (by rw [hx10]; rfl) (by decide) rfl rfl ?_
      refine J_goto (q := 68) d_Mo_image_87 (by decide) ?_
      refine J_pick [1, 2, 3, 0] rfl ?_
      exact ih _ _ h
def mj_Mo_image_200 (a1 : Int32) (a2 : Int32) (a3 : Int32) (a4 : Int32) (c_115 : Int32 → Int32 → Int32 → Mem → Option (Int32 × Mem)) (y5 : Int32) (y6 : Int32) (y7 : Int32) (μ : Mem) : Option (Int32 × Mem) :=
  ap (y7 + (1 : Int32)) fun x14 =>
  c_115 (y5) (y6) (x14) μ
theorem tj_Mo_image_200 (a1 : Int32) (a2 : Int32) (a3 : Int32) (a4 : Int32) {q : Int32 × Mem} {c_115 : Int32 → Int32 → Int32 → Mem → Option (Int32 × Mem)} (hc_115 : ∀ (y5 : Int32) (y6 : Int32) (y7 : Int32) (μ : Mem), c_115 y5 y6 y7 μ = some q → J (GM true (QQ (some (vi q.1)) q.2) (some (.int)) y_Mo_image.name) true b_Mo_image R_12 9 (5) 0 0 115 [(0, vr 12 (0)), (3, vi (a3)), (4, vi (a4)), (5, vi (y5)), (6, vi (y6)), (7, vi (y7))] [] μ) (y5 : Int32) (y6 : Int32) (y7 : Int32) (μ : Mem) (h : mj_Mo_image_200 a1 a2 a3 a4 c_115 y5 y6 y7 μ = some q) : J (GM true (QQ (some (vi q.1)) q.2) (some (.int)) y_Mo_image.name) true b_Mo_image R_12 9 (5) 0 0 200 [(0, vr 12 (0)), (3, vi (a3)), (4, vi (a4)), (5, vi (y5)), (6, vi (y6)), (7, vi (y7))] [] μ := by
  unfold mj_Mo_image_200 at h
  obtain ⟨x14, hx14, h⟩ := ap_eq h
  refine J_iinc (q := 203) (v := x14) (lv' := [(7, vi (x14)), (0, vr 12 (0)), (3, vi (a3)), (4, vi (a4)), (5, vi (y5)), (6, vi (y6))]) 5 d_Mo_image_200 rfl (by rw [hx14]; rfl) (by decide) rfl rfl ?_
  refine J_goto (q := 115) d_Mo_image_203 (by decide) ?_
  refine J_pick [1, 2, 3, 4, 5, 0] rfl ?_
  exact hc_115 _ _ _ _ h
def mj_Mo_image_166 (a1 : Int32) (a2 : Int32) (a3 : Int32) (a4 : Int32) (c_115 : Int32 → Int32 → Int32 → Mem → Option (Int32 × Mem)) (y5 : Int32) (y6 : Int32) (y7 : Int32) (z0 : Int32) (μ : Mem) : Option (Int32 × Mem) :=
  if z0 = 0 then
 (mj_Mo_image_200 a1 a2 a3 a4 c_115 (y5) (y6) (y7) μ)
 else
 (gu ((((64 : Int32)) * ((y5 + (128 : Int32)) / (8 : Int32))) + (y7 / (8 : Int32))) 4096 <|
  gu ((((64 : Int32)) * ((y5 + (128 : Int32)) / (8 : Int32))) + (y7 / (8 : Int32))) 4096 <|
  ap (sI μ 379 (0) ((((64 : Int32)) * ((y5 + (128 : Int32)) / (8 : Int32))) + (y7 / (8 : Int32))).toNatClampNeg ((gI μ 379 (0) ((((64 : Int32)) * ((y5 + (128 : Int32)) / (8 : Int32))) + (y7 / (8 : Int32))).toNatClampNeg) + ((1 : Int32)))) fun μ17 =>
  mj_Mo_image_200 a1 a2 a3 a4 c_115 (y5) (y6) (y7) μ17)
theorem tj_Mo_image_166 (a1 : Int32) (a2 : Int32) (a3 : Int32) (a4 : Int32) {q : Int32 × Mem} {c_115 : Int32 → Int32 → Int32 → Mem → Option (Int32 × Mem)} (hc_115 : ∀ (y5 : Int32) (y6 : Int32) (y7 : Int32) (μ : Mem), c_115 y5 y6 y7 μ = some q → J (GM true (QQ (some (vi q.1)) q.2) (some (.int)) y_Mo_image.name) true b_Mo_image R_12 9 (5) 0 0 115 [(0, vr 12 (0)), (3, vi (a3)), (4, vi (a4)), (5, vi (y5)), (6, vi (y6)), (7, vi (y7))] [] μ) (y5 : Int32) (y6 : Int32) (y7 : Int32) (z0 : Int32) (μ : Mem) (h : mj_Mo_image_166 a1 a2 a3 a4 c_115 y5 y6 y7 z0 μ = some q) : J (GM true (QQ (some (vi q.1)) q.2) (some (.int)) y_Mo_image.name) true b_Mo_image R_12 9 (5) 0 0 166 [(0, vr 12 (0)), (3, vi (a3)), (4, vi (a4)), (5, vi (y5)), (6, vi (y6)), (7, vi (y7))] [vi (z0)] μ := by
  unfold mj_Mo_image_166 at h
  refine J_istore (q := 168) (lv' := [(8, vi (z0)), (0, vr 12 (0)), (3, vi (a3)), (4, vi (a4)), (5, vi (y5)), (6, vi (y6)), (7, vi (y7))]) d_Mo_image_166 (by decide) rfl rfl ?_
  refine J_iload (q := 170) 0 d_Mo_image_168 rfl rfl ?_
  refine J_if_eq (q := 173) (tgt := 200) d_Mo_image_170 (by decide) rfl (fun hc => ?_) (fun hc => ?_)
  · rw [if_pos hc] at h
    refine J_pick [1, 2, 3, 4, 5, 6] rfl ?_
    exact tj_Mo_image_200 a1 a2 a3 a4 hc_115 _ _ _ _ h
  · rw [if_neg hc] at h
    refine J_aload_n (q := 174) 1 d_Mo_image_173 rfl rfl rfl ?_
    refine J_getF (q := 177) cd_12 (by decide) ft_12_39 rfl g_1090 rfl d_Mo_image_174 rfl ?_
    refine J_bipush (q := 179) (v := (64 : Int32)) d_Mo_image_177 (by decide) rfl ?_
    refine J_iload (q := 181) 4 d_Mo_image_179 rfl rfl ?_
    refine J_sipush (q := 184) (v := (128 : Int32)) d_Mo_image_181 (by decide) rfl ?_
    refine J_iadd (q := 185) d_Mo_image_184 rfl ?_
    refine J_bipush (q := 187) (v := (8 : Int32)) d_Mo_image_185 (by decide) rfl ?_
    refine J_idiv (q := 188) d_Mo_image_187 (by decide) rfl ?_
    refine J_imul (q := 189) d_Mo_image_188 rfl ?_
    refine J_iload (q := 191) 6 d_Mo_image_189 rfl rfl ?_
    refine J_bipush (q := 193) (v := (8 : Int32)) d_Mo_image_191 (by decide) rfl ?_
    refine J_idiv (q := 194) d_Mo_image_193 (by decide) rfl ?_
    refine J_iadd (q := 195) d_Mo_image_194 rfl ?_
    refine J_dup2IR (q := 196) d_Mo_image_195 rfl ?_
    obtain ⟨hi15, h⟩ := gu_some h
    refine J_iald (q := 197) rk_379 (by decide) hi15 d_Mo_image_196 rfl ?_
    refine J_iconst (q := 198) (v := (1 : Int32)) d_Mo_image_197 (by decide) rfl ?_
    refine J_iadd (q := 199) d_Mo_image_198 rfl ?_
    obtain ⟨hi16, h⟩ := gu_some h
    refine J_iast (q := 200) rk_379 (by decide) hi16 d_Mo_image_199 rfl ?_
    obtain ⟨μ17, hμ17, h⟩ := ap_eq h
    refine J_nmM hμ17 ?_
    refine J_pick [1, 2, 3, 4, 5, 6] rfl ?_
    exact tj_Mo_image_200 a1 a2 a3 a4 hc_115 _ _ _ _ h
def lp_Mo_image_115 (a1 : Int32) (a2 : Int32) (a3 : Int32) (a4 : Int32) (c_206 : Int32 → Mem → Option (Int32 × Mem)) : Nat → Int32 → Int32 → Int32 → Mem → Option (Int32 × Mem)
  | 0, _, _, _, _ => none
  | n + 1, y5, y6, y7, μ =>
  if (512 : Int32) ≤ y7 then
 (c_206 (y5) μ)
 else
 (gu (y7) 514 <|
  ap ((y6) + (gI μ 380 (0) y7.toNatClampNeg)) fun x19 =>
  if a4 = 0 then
 (if x19 = 0 then
 (mj_Mo_image_166 a1 a2 a3 a4 (lp_Mo_image_115 a1 a2 a3 a4 c_206 n) (y5) (x19) (y7) ((0 : Int32)) μ)
 else
 (mj_Mo_image_166 a1 a2 a3 a4 (lp_Mo_image_115 a1 a2 a3 a4 c_206 n) (y5) (x19) (y7) ((1 : Int32)) μ))
 else
 (if x19 &&& (1 : Int32) = (1 : Int32) then
 (mj_Mo_image_166 a1 a2 a3 a4 (lp_Mo_image_115 a1 a2 a3 a4 c_206 n) (y5) (x19) (y7) ((1 : Int32)) μ)
 else
 (mj_Mo_image_166 a1 a2 a3 a4 (lp_Mo_image_115 a1 a2 a3 a4 c_206 n) (y5) (x19) (y7) ((0 : Int32)) μ)))
theorem tl_Mo_image_115 (a1 : Int32) (a2 : Int32) (a3 : Int32) (a4 : Int32) {q : Int32 × Mem} {c_206 : Int32 → Mem → Option (Int32 × Mem)} (hc_206 : ∀ (y5 : Int32) (μ : Mem), c_206 y5 μ = some q → J (GM true (QQ (some (vi q.1)) q.2) (some (.int)) y_Mo_image.name) true b_Mo_image R_12 9 (5) 0 0 206 [(0, vr 12 (0)), (3, vi (a3)), (4, vi (a4)), (5, vi (y5))] [] μ) : ∀ (n : Nat) (y5 : Int32) (y6 : Int32) (y7 : Int32) (μ : Mem), lp_Mo_image_115 a1 a2 a3 a4 c_206 n y5 y6 y7 μ = some q → J (GM true (QQ (some (vi q.1)) q.2) (some (.int)) y_Mo_image.name) true b_Mo_image R_12 9 (5) 0 0 115 [(0, vr 12 (0)), (3, vi (a3)), (4, vi (a4)), (5, vi (y5)), (6, vi (y6)), (7, vi (y7))] [] μ := by
  intro n
  induction n with
  | zero => intro _ _ _ _ h; cases h
  | succ n ih =>
    intro y5 y6 y7 μ h
    unfold lp_Mo_image_115 at h
    refine J_iload (q := 117) 5 d_Mo_image_115 rfl rfl ?_
    refine J_sipush (q := 120) (v := (512 : Int32)) d_Mo_image_117 (by decide) rfl ?_
    refine J_icmp_ge (q := 123) (tgt := 206) d_Mo_image_120 (by decide) rfl (fun hc => ?_) (fun hc => ?_)
    · rw [if_pos hc] at h
      refine J_pick [0, 1, 2, 3] rfl ?_
      exact hc_206 _ _ h
    · rw [if_neg hc] at h
      refine J_iload (q := 125) 4 d_Mo_image_123 rfl rfl ?_
      refine J_aload_n (q := 126) 0 d_Mo_image_125 rfl rfl rfl ?_
      refine J_getF (q := 129) cd_12 (by decide) ft_12_40 rfl g_1091 rfl d_Mo_image_126 rfl ?_
      refine J_iload (q := 131) 5 d_Mo_image_129 rfl rfl ?_
      obtain ⟨hi18, h⟩ := gu_some h
      refine J_iald (q := 132) rk_380 (by decide) hi18 d_Mo_image_131 rfl ?_
      refine J_iadd (q := 133) d_Mo_image_132 rfl ?_
      obtain ⟨x19, hx19, h⟩ := ap_eq h
      refine J_nmI hx19 ?_
      refine J_istore (q := 135) (lv' := [(6, vi (x19)), (0, vr 12 (0)), (3, vi (a3)), (4, vi (a4)), (5, vi (y5)), (7, vi (y7))]) d_Mo_image_133 (by decide) rfl rfl ?_
      refine J_iload (q := 137) 3 d_Mo_image_135 rfl rfl ?_
      refine J_if_ne (q := 140) (tgt := 153) d_Mo_image_137 (by decide) rfl (fun hc => ?_) (fun hc => ?_)
      · rw [if_neg hc] at h
        refine J_iload (q := 155) 0 d_Mo_image_153 rfl rfl ?_
        refine J_iconst (q := 156) (v := (1 : Int32)) d_Mo_image_155 (by decide) rfl ?_
        refine J_iand (q := 157) d_Mo_image_156 rfl ?_
        refine J_iconst (q := 158) (v := (1 : Int32)) d_Mo_image_157 (by decide) rfl ?_
        refine J_icmp_ne (q := 161) (tgt := 165) d_Mo_image_158 (by decide) rfl (fun hc => ?_) (fun hc => ?_)
        · rw [if_neg hc] at h
          refine J_iconst (q := 166) (v := (0 : Int32)) d_Mo_image_165 (by decide) rfl ?_
          refine J_pick [1, 2, 3, 4, 0, 5] rfl ?_
          exact tj_Mo_image_166 a1 a2 a3 a4 ih _ _ _ _ _ h
        · rw [if_pos hc] at h
          refine J_iconst (q := 162) (v := (1 : Int32)) d_Mo_image_161 (by decide) rfl ?_
          refine J_goto (q := 166) d_Mo_image_162 (by decide) ?_
          refine J_pick [1, 2, 3, 4, 0, 5] rfl ?_
          exact tj_Mo_image_166 a1 a2 a3 a4 ih _ _ _ _ _ h
      · rw [if_pos hc] at h
        refine J_iload (q := 142) 0 d_Mo_image_140 rfl rfl ?_
        refine J_if_eq (q := 145) (tgt := 149) d_Mo_image_142 (by decide) rfl (fun hc => ?_) (fun hc => ?_)
        · rw [if_pos hc] at h
          refine J_iconst (q := 150) (v := (0 : Int32)) d_Mo_image_149 (by decide) rfl ?_
          refine J_goto (q := 166) d_Mo_image_150 (by decide) ?_
          refine J_pick [1, 2, 3, 4, 0, 5] rfl ?_
          exact tj_Mo_image_166 a1 a2 a3 a4 ih _ _ _ _ _ h
        · rw [if_neg hc] at h
          refine J_iconst (q := 146) (v := (1 : Int32)) d_Mo_image_145 (by decide) rfl ?_
          refine J_goto (q := 166) d_Mo_image_146 (by decide) ?_
          refine J_pick [1, 2, 3, 4, 0, 5] rfl ?_
          exact tj_Mo_image_166 a1 a2 a3 a4 ih _ _ _ _ _ h
def mj_Mo_image_206 (a1 : Int32) (a2 : Int32) (a3 : Int32) (a4 : Int32) (c_94 : Int32 → Mem → Option (Int32 × Mem)) (y5 : Int32) (μ : Mem) : Option (Int32 × Mem) :=
  ap (y5 + (1 : Int32)) fun x20 =>
  c_94 (x20) μ
theorem tj_Mo_image_206 (a1 : Int32) (a2 : Int32) (a3 : Int32) (a4 : Int32) {q : Int32 × Mem} {c_94 : Int32 → Mem → Option (Int32 × Mem)} (hc_94 : ∀ (y5 : Int32) (μ : Mem), c_94 y5 μ = some q → J (GM true (QQ (some (vi q.1)) q.2) (some (.int)) y_Mo_image.name) true b_Mo_image R_12 9 (5) 0 0 94 [(0, vr 12 (0)), (3, vi (a3)), (4, vi (a4)), (5, vi (y5))] [] μ) (y5 : Int32) (μ : Mem) (h : mj_Mo_image_206 a1 a2 a3 a4 c_94 y5 μ = some q) : J (GM true (QQ (some (vi q.1)) q.2) (some (.int)) y_Mo_image.name) true b_Mo_image R_12 9 (5) 0 0 206 [(0, vr 12 (0)), (3, vi (a3)), (4, vi (a4)), (5, vi (y5))] [] μ := by
  unfold mj_Mo_image_206 at h
  obtain ⟨x20, hx20, h⟩ := ap_eq h
  refine J_iinc (q := 209) (v := x20) (lv' := [(5, vi (x20)), (0, vr 12 (0)), (3, vi (a3)), (4, vi (a4))]) 3 d_Mo_image_206 rfl (by rw [hx20]; rfl) (by decide) rfl rfl ?_
  refine J_goto (q := 94) d_Mo_image_209 (by decide) ?_
  refine J_pick [1, 2, 3, 0] rfl ?_
  exact hc_94 _ _ h
def lp_Mo_image_94 (a1 : Int32) (a2 : Int32) (a3 : Int32) (a4 : Int32) (c_212 : Mem → Option (Int32 × Mem)) : Nat → Int32 → Mem → Option (Int32 × Mem)
  | 0, _, _ => none
  | n + 1, y5, μ =>
  if (384 : Int32) ≤ y5 then
 (c_212 μ)
 else
 (Option.bind (m_Mo_steps (y5) (a3) μ) fun r21 =>
  lp_Mo_image_115 a1 a2 a3 a4 (mj_Mo_image_206 a1 a2 a3 a4 (lp_Mo_image_94 a1 a2 a3 a4 c_212 n)) FU (y5) ((0 : Int32)) ((0 : Int32)) r21)
theorem tl_Mo_image_94 (a1 : Int32) (a2 : Int32) (a3 : Int32) (a4 : Int32) {q : Int32 × Mem} {c_212 : Mem → Option (Int32 × Mem)} (hc_212 : ∀ (μ : Mem), c_212  μ = some q → J (GM true (QQ (some (vi q.1)) q.2) (some (.int)) y_Mo_image.name) true b_Mo_image R_12 9 (5) 0 0 212 [(0, vr 12 (0))] [] μ) : ∀ (n : Nat) (y5 : Int32) (μ : Mem), lp_Mo_image_94 a1 a2 a3 a4 c_212 n y5 μ = some q → J (GM true (QQ (some (vi q.1)) q.2) (some (.int)) y_Mo_image.name) true b_Mo_image R_12 9 (5) 0 0 94 [(0, vr 12 (0)), (3, vi (a3)), (4, vi (a4)), (5, vi (y5))] [] μ := by
  intro n
  induction n with
  | zero => intro _ _ h; cases h
  | succ n ih =>
    intro y5 μ h
    unfold lp_Mo_image_94 at h
    refine J_iload (q := 96) 3 d_Mo_image_94 rfl rfl ?_
    refine J_sipush (q := 99) (v := (384 : Int32)) d_Mo_image_96 (by decide) rfl ?_
    refine J_icmp_ge (q := 102) (tgt := 212) d_Mo_image_99 (by decide) rfl (fun hc => ?_) (fun hc => ?_)
    · rw [if_pos hc] at h
      refine J_pick [0] rfl ?_
      exact hc_212 _ h
    · rw [if_neg hc] at h
      refine J_aload_n (q := 103) 0 d_Mo_image_102 rfl rfl rfl ?_
      refine J_iload (q := 105) 3 d_Mo_image_103 rfl rfl ?_
      refine J_iload_n (q := 106) 1 d_Mo_image_105 rfl rfl rfl ?_
      obtain ⟨r21, hr21, h⟩ := bd_some h
      refine J_callVv (rc := 0) (rs := 0) (q := 109) (as := [vi (y5), vi (a3)]) (st := []) (by decide) rfl g_1442 sel_Mo_steps (t_Mo_steps hr21) (by decide) (by decide) g_1440 g_1443 g_10 hy_Mo_steps rfl (Nat.le_of_ble_eq_true rfl) d_Mo_image_106 rfl ?_
      refine J_iconst (q := 110) (v := (0 : Int32)) d_Mo_image_109 (by decide) rfl ?_
      refine J_istore (q := 112) (lv' := [(6, vi ((0 : Int32))), (0, vr 12 (0)), (3, vi (a3)), (4, vi (a4)), (5, vi (y5))]) d_Mo_image_110 (by decide) rfl rfl ?_
      refine J_iconst (q := 113) (v := (0 : Int32)) d_Mo_image_112 (by decide) rfl ?_
      refine J_istore (q := 115) (lv' := [(7, vi ((0 : Int32))), (6, vi ((0 : Int32))), (0, vr 12 (0)), (3, vi (a3)), (4, vi (a4)), (5, vi (y5))]) d_Mo_image_113 (by decide) rfl rfl ?_
      refine J_pick [2, 3, 4, 5, 1, 0] rfl ?_
      exact tl_Mo_image_115 a1 a2 a3 a4 (fun _ _ h => tj_Mo_image_206 a1 a2 a3 a4 ih _ _ h) FU _ _ _ _ h
def mj_Mo_image_239 (a1 : Int32) (a2 : Int32) (a3 : Int32) (a4 : Int32) (c_218 : Int32 → Int32 → Mem → Option (Int32 × Mem)) (y5 : Int32) (y6 : Int32) (μ : Mem) : Option (Int32 × Mem) :=
  ap (y6 + (1 : Int32)) fun x23 =>
  c_218 (y5) (x23) μ
theorem tj_Mo_image_239 (a1 : Int32) (a2 : Int32) (a3 : Int32) (a4 : Int32) {q : Int32 × Mem} {c_218 : Int32 → Int32 → Mem → Option (Int32 × Mem)} (hc_218 : ∀ (y5 : Int32) (y6 : Int32) (μ : Mem), c_218 y5 y6 μ = some q → J (GM true (QQ (some (vi q.1)) q.2) (some (.int)) y_Mo_image.name) true b_Mo_image R_12 9 (5) 0 0 218 [(0, vr 12 (0)), (5, vi (y5)), (6, vi (y6))] [] μ) (y5 : Int32) (y6 : Int32) (μ : Mem) (h : mj_Mo_image_239 a1 a2 a3 a4 c_218 y5 y6 μ = some q) : J (GM true (QQ (some (vi q.1)) q.2) (some (.int)) y_Mo_image.name) true b_Mo_image R_12 9 (5) 0 0 239 [(0, vr 12 (0)), (5, vi (y5)), (6, vi (y6))] [] μ := by
  unfold mj_Mo_image_239 at h
  obtain ⟨x23, hx23, h⟩ := ap_eq h
  refine J_iinc (q := 242) (v := x23) (lv' := [(6, vi (x23)), (0, vr 12 (0)), (5, vi (y5))]) 2 d_Mo_image_239 rfl (by rw [hx23]; rfl) (by decide) rfl rfl ?_
  refine J_goto (q := 218) d_Mo_image_242 (by decide) ?_
  refine J_pick [1, 2, 0] rfl ?_
  exact hc_218 _ _ _ h
def lp_Mo_image_218 (a1 : Int32) (a2 : Int32) (a3 : Int32) (a4 : Int32) : Nat → Int32 → Int32 → Mem → Option (Int32 × Mem)
  | 0, _, _, _ => none
  | n + 1, y5, y6, μ =>
  if (4096 : Int32) ≤ y6 then
 (some ((y5, μ)))
 else
 (gu (y6) 4096 <|
  if gI μ 379 (0) y6.toNatClampNeg ≤ 0 then
 (mj_Mo_image_239 a1 a2 a3 a4 (lp_Mo_image_218 a1 a2 a3 a4 n) (y5) (y6) μ)
 else
 (ap (y5 + (1 : Int32)) fun x26 =>
  mj_Mo_image_239 a1 a2 a3 a4 (lp_Mo_image_218 a1 a2 a3 a4 n) (x26) (y6) μ))
theorem tl_Mo_image_218 (a1 : Int32) (a2 : Int32) (a3 : Int32) (a4 : Int32) {q : Int32 × Mem}  : ∀ (n : Nat) (y5 : Int32) (y6 : Int32) (μ : Mem), lp_Mo_image_218 a1 a2 a3 a4 n y5 y6 μ = some q → J (GM true (QQ (some (vi q.1)) q.2) (some (.int)) y_Mo_image.name) true b_Mo_image R_12 9 (5) 0 0 218 [(0, vr 12 (0)), (5, vi (y5)), (6, vi (y6))] [] μ := by
  intro n
  induction n with
  | zero => intro _ _ _ h; cases h
  | succ n ih =>
    intro y5 y6 μ h
    unfold lp_Mo_image_218 at h
    refine J_iload (q := 220) 2 d_Mo_image_218 rfl rfl ?_
    refine J_sipush (q := 223) (v := (4096 : Int32)) d_Mo_image_220 (by decide) rfl ?_
    refine J_icmp_ge (q := 226) (tgt := 245) d_Mo_image_223 (by decide) rfl (fun hc => ?_) (fun hc => ?_)
    · rw [if_pos hc] at h
      refine J_iload (q := 247) 1 d_Mo_image_245 rfl rfl ?_
      obtain rfl := Option.some.inj h
      exact J_iret rfl ⟨rfl, rfl⟩ d_Mo_image_247
    · rw [if_neg hc] at h
      refine J_aload_n (q := 227) 0 d_Mo_image_226 rfl rfl rfl ?_
      refine J_getF (q := 230) cd_12 (by decide) ft_12_39 rfl g_1090 rfl d_Mo_image_227 rfl ?_
      refine J_iload (q := 232) 2 d_Mo_image_230 rfl rfl ?_
      obtain ⟨hi25, h⟩ := gu_some h
      refine J_iald (q := 233) rk_379 (by decide) hi25 d_Mo_image_232 rfl ?_
      refine J_if_le (q := 236) (tgt := 239) d_Mo_image_233 (by decide) rfl (fun hc => ?_) (fun hc => ?_)
      · rw [if_pos hc] at h
        refine J_pick [0, 1, 2] rfl ?_
        exact tj_Mo_image_239 a1 a2 a3 a4 ih _ _ _ h
      · rw [if_neg hc] at h
        obtain ⟨x26, hx26, h⟩ := ap_eq h
        refine J_iinc (q := 239) (v := x26) (lv' := [(5, vi (x26)), (0, vr 12 (0)), (6, vi (y6))]) 1 d_Mo_image_236 rfl (by rw [hx26]; rfl) (by decide) rfl rfl ?_
        refine J_pick [1, 0, 2] rfl ?_
        exact tj_Mo_image_239 a1 a2 a3 a4 ih _ _ _ h
def mj_Mo_image_212 (a1 : Int32) (a2 : Int32) (a3 : Int32) (a4 : Int32) (μ : Mem) : Option (Int32 × Mem) :=
  lp_Mo_image_218 a1 a2 a3 a4 FU ((0 : Int32)) ((0 : Int32)) μ
theorem tj_Mo_image_212 (a1 : Int32) (a2 : Int32) (a3 : Int32) (a4 : Int32) {q : Int32 × Mem}  (μ : Mem) (h : mj_Mo_image_212 a1 a2 a3 a4  μ = some q) : J (GM true (QQ (some (vi q.1)) q.2) (some (.int)) y_Mo_image.name) true b_Mo_image R_12 9 (5) 0 0 212 [(0, vr 12 (0))] [] μ := by
  unfold mj_Mo_image_212 at h
  refine J_iconst (q := 213) (v := (0 : Int32)) d_Mo_image_212 (by decide) rfl ?_
  refine J_istore (q := 215) (lv' := [(5, vi ((0 : Int32))), (0, vr 12 (0))]) d_Mo_image_213 (by decide) rfl rfl ?_
  refine J_iconst (q := 216) (v := (0 : Int32)) d_Mo_image_215 (by decide) rfl ?_
  refine J_istore (q := 218) (lv' := [(6, vi ((0 : Int32))), (5, vi ((0 : Int32))), (0, vr 12 (0))]) d_Mo_image_216 (by decide) rfl rfl ?_
  refine J_pick [2, 1, 0] rfl ?_
  exact tl_Mo_image_218 a1 a2 a3 a4 FU _ _ _ h
def mj_Mo_image_90 (a1 : Int32) (a2 : Int32) (a3 : Int32) (a4 : Int32) (μ : Mem) : Option (Int32 × Mem) :=
  lp_Mo_image_94 a1 a2 a3 a4 (mj_Mo_image_212 a1 a2 a3 a4) FU ((-128 : Int32)) μ
theorem tj_Mo_image_90 (a1 : Int32) (a2 : Int32) (a3 : Int32) (a4 : Int32) {q : Int32 × Mem}  (μ : Mem) (h : mj_Mo_image_90 a1 a2 a3 a4  μ = some q) : J (GM true (QQ (some (vi q.1)) q.2) (some (.int)) y_Mo_image.name) true b_Mo_image R_12 9 (5) 0 0 90 [(0, vr 12 (0)), (3, vi (a3)), (4, vi (a4))] [] μ := by
  unfold mj_Mo_image_90 at h
  refine J_bipush (q := 92) (v := (-128 : Int32)) d_Mo_image_90 (by decide) rfl ?_
  refine J_istore (q := 94) (lv' := [(5, vi ((-128 : Int32))), (0, vr 12 (0)), (3, vi (a3)), (4, vi (a4))]) d_Mo_image_92 (by decide) rfl rfl ?_
  refine J_pick [1, 2, 3, 0] rfl ?_
  exact tl_Mo_image_94 a1 a2 a3 a4 (fun _ h => tj_Mo_image_212 a1 a2 a3 a4 _ h) FU _ _ h
def m_Mo_image (a1 : Int32) (a2 : Int32) (a3 : Int32) (a4 : Int32) (μ : Mem) : Option (Int32 × Mem) :=
  if (m_Mo_isLetter (a1) μ) then
 (if a2 < (1 : Int32) then
 (some (((-1 : Int32), μ)))
 else
 (if (256 : Int32) < a2 then
 (some (((-1 : Int32), μ)))
 else
 (if a3 < (4 : Int32) then
 (some (((-1 : Int32), μ)))
 else
 (if (32 : Int32) < a3 then
 (some (((-1 : Int32), μ)))
 else
 (if a4 < 0 then
 (some (((-1 : Int32), μ)))
 else
 (if (1 : Int32) < a4 then
 (some (((-1 : Int32), μ)))
 else
 (Option.bind (m_Mo_flattens (a1) (a2) μ) fun r1 =>
  ap (r1.2) fun μ2 =>
  if r1.1 then
 (Option.bind (m_Mo_isImage (a3) μ2) fun r3 =>
  if r3 then
 (Option.bind (m_Mo_told  μ2) fun r4 =>
  lp_Mo_image_68 a1 a2 a3 a4 (mj_Mo_image_90 a1 a2 a3 a4) FU ((0 : Int32)) r4)
 else
 (some (((-1 : Int32), μ2))))
 else
 (some (((-1 : Int32), μ2))))))))))
 else
 (some (((-1 : Int32), μ)))
theorem t_Mo_image {a1 : Int32} {a2 : Int32} {a3 : Int32} {a4 : Int32} {μ : Mem} {q : Int32 × Mem} (h : m_Mo_image a1 a2 a3 a4 μ = some q) : JM true (5) y_Mo_image b_Mo_image 9 (some (.int)) 0 0 [vr 12 (0), vi (a1), vi (a2), vi (a3), vi (a4)] μ (QQ (some (vi q.1)) q.2) := by
  unfold m_Mo_image at h
  refine JM.of pl_Mo_image (fun ρ => Nat.le_of_ble_eq_true rfl) ?_
  show J (GM true (QQ (some (vi q.1)) q.2) (some (.int)) y_Mo_image.name) true b_Mo_image R_12 9 (5) 0 0 0 [(0, vr 12 (0)), (1, vi (a1)), (2, vi (a2)), (3, vi (a3)), (4, vi (a4))] [] μ
  refine J_aload_n (q := 1) 0 d_Mo_image_0 rfl rfl rfl ?_
  refine J_iload_n (q := 2) 1 d_Mo_image_1 rfl rfl rfl ?_
  refine J_callVq (rc := 0) (rs := 0) (q := 5) (as := [vi (a1)]) (st := []) (by decide) rfl g_1287 sel_Mo_isLetter (t_Mo_isLetter rfl) (by decide) (by decide) g_1285 g_1288 g_10 hy_Mo_isLetter rfl (Nat.le_of_ble_eq_true rfl) d_Mo_image_2 rfl ?_
  refine J_ifB_eq (q := 8) (tgt := 59) d_Mo_image_5 (by decide) rfl (fun hb => ?_) (fun hb => ?_)
  · rw [iB_f hb] at h
    refine J_iconst (q := 60) (v := (-1 : Int32)) d_Mo_image_59 (by decide) rfl ?_
    obtain rfl := Option.some.inj h
    exact J_iret rfl ⟨rfl, rfl⟩ d_Mo_image_60
  · rw [iB_t hb] at h
    refine J_iload_n (q := 9) 2 d_Mo_image_8 rfl rfl rfl ?_
    refine J_iconst (q := 10) (v := (1 : Int32)) d_Mo_image_9 (by decide) rfl ?_
    refine J_icmp_lt (q := 13) (tgt := 59) d_Mo_image_10 (by decide) rfl (fun hc => ?_) (fun hc => ?_)
    · rw [if_pos hc] at h
      refine J_iconst (q := 60) (v := (-1 : Int32)) d_Mo_image_59 (by decide) rfl ?_
      obtain rfl := Option.some.inj h
      exact J_iret rfl ⟨rfl, rfl⟩ d_Mo_image_60
    · rw [if_neg hc] at h
      refine J_iload_n (q := 14) 2 d_Mo_image_13 rfl rfl rfl ?_
      refine J_sipush (q := 17) (v := (256 : Int32)) d_Mo_image_14 (by decide) rfl ?_
      refine J_icmp_gt (q := 20) (tgt := 59) d_Mo_image_17 (by decide) rfl (fun hc => ?_) (fun hc => ?_)
      · rw [if_pos hc] at h
        refine J_iconst (q := 60) (v := (-1 : Int32)) d_Mo_image_59 (by decide) rfl ?_
        obtain rfl := Option.some.inj h
        exact J_iret rfl ⟨rfl, rfl⟩ d_Mo_image_60
      · rw [if_neg hc] at h
        refine J_iload_n (q := 21) 3 d_Mo_image_20 rfl rfl rfl ?_
        refine J_iconst (q := 22) (v := (4 : Int32)) d_Mo_image_21 (by decide) rfl ?_
        refine J_icmp_lt (q := 25) (tgt := 59) d_Mo_image_22 (by decide) rfl (fun hc => ?_) (fun hc => ?_)
        · rw [if_pos hc] at h
          refine J_iconst (q := 60) (v := (-1 : Int32)) d_Mo_image_59 (by decide) rfl ?_
          obtain rfl := Option.some.inj h
          exact J_iret rfl ⟨rfl, rfl⟩ d_Mo_image_60
        · rw [if_neg hc] at h
          refine J_iload_n (q := 26) 3 d_Mo_image_25 rfl rfl rfl ?_
          refine J_bipush (q := 28) (v := (32 : Int32)) d_Mo_image_26 (by decide) rfl ?_
          refine J_icmp_gt (q := 31) (tgt := 59) d_Mo_image_28 (by decide) rfl (fun hc => ?_) (fun hc => ?_)
          · rw [if_pos hc] at h
            refine J_iconst (q := 60) (v := (-1 : Int32)) d_Mo_image_59 (by decide) rfl ?_
            obtain rfl := Option.some.inj h
            exact J_iret rfl ⟨rfl, rfl⟩ d_Mo_image_60
          · rw [if_neg hc] at h
            refine J_iload (q := 33) 4 d_Mo_image_31 rfl rfl ?_
            refine J_if_lt (q := 36) (tgt := 59) d_Mo_image_33 (by decide) rfl (fun hc => ?_) (fun hc => ?_)
            · rw [if_pos hc] at h
              refine J_iconst (q := 60) (v := (-1 : Int32)) d_Mo_image_59 (by decide) rfl ?_
              obtain rfl := Option.some.inj h
              exact J_iret rfl ⟨rfl, rfl⟩ d_Mo_image_60
            · rw [if_neg hc] at h
              refine J_iload (q := 38) 4 d_Mo_image_36 rfl rfl ?_
              refine J_iconst (q := 39) (v := (1 : Int32)) d_Mo_image_38 (by decide) rfl ?_
              refine J_icmp_gt (q := 42) (tgt := 59) d_Mo_image_39 (by decide) rfl (fun hc => ?_) (fun hc => ?_)
              · rw [if_pos hc] at h
                refine J_iconst (q := 60) (v := (-1 : Int32)) d_Mo_image_59 (by decide) rfl ?_
                obtain rfl := Option.some.inj h
                exact J_iret rfl ⟨rfl, rfl⟩ d_Mo_image_60
              · rw [if_neg hc] at h
                refine J_aload_n (q := 43) 0 d_Mo_image_42 rfl rfl rfl ?_
                refine J_iload_n (q := 44) 1 d_Mo_image_43 rfl rfl rfl ?_
                refine J_iload_n (q := 45) 2 d_Mo_image_44 rfl rfl rfl ?_
                obtain ⟨r1, hr1, h⟩ := bd_some h
                refine J_callVq (rc := 0) (rs := 0) (q := 48) (as := [vi (a1), vi (a2)]) (st := []) (by decide) rfl g_1362 sel_Mo_flattens (t_Mo_flattens hr1) (by decide) (by decide) g_1360 g_1363 g_10 hy_Mo_flattens rfl (Nat.le_of_ble_eq_true rfl) d_Mo_image_45 rfl ?_
                obtain ⟨μ2, hμ2, h⟩ := ap_eq h
                refine J_nmM hμ2 ?_
                refine J_ifB_eq (q := 51) (tgt := 59) d_Mo_image_48 (by decide) rfl (fun hb => ?_) (fun hb => ?_)
                · rw [iB_f hb] at h
                  refine J_iconst (q := 60) (v := (-1 : Int32)) d_Mo_image_59 (by decide) rfl ?_
                  obtain rfl := Option.some.inj h
                  exact J_iret rfl ⟨rfl, rfl⟩ d_Mo_image_60
                · rw [iB_t hb] at h
                  refine J_aload_n (q := 52) 0 d_Mo_image_51 rfl rfl rfl ?_
                  refine J_iload_n (q := 53) 3 d_Mo_image_52 rfl rfl rfl ?_
                  obtain ⟨r3, hr3, h⟩ := bd_some h
                  refine J_callVq (rc := 0) (rs := 0) (q := 56) (as := [vi (a3)]) (st := []) (by decide) rfl g_1437 sel_Mo_isImage (t_Mo_isImage hr3) (by decide) (by decide) g_1435 g_1438 g_10 hy_Mo_isImage rfl (Nat.le_of_ble_eq_true rfl) d_Mo_image_53 rfl ?_
                  refine J_ifB_ne (q := 59) (tgt := 61) d_Mo_image_56 (by decide) rfl (fun hb => ?_) (fun hb => ?_)
                  · rw [iB_t hb] at h
                    refine J_aload_n (q := 62) 0 d_Mo_image_61 rfl rfl rfl ?_
                    obtain ⟨r4, hr4, h⟩ := bd_some h
                    refine J_callVv (rc := 0) (rs := 0) (q := 65) (as := []) (st := []) (by decide) rfl g_1398 sel_Mo_told (t_Mo_told hr4) (by decide) (by decide) g_1396 g_1399 g_10 hy_Mo_told rfl (Nat.le_of_ble_eq_true rfl) d_Mo_image_62 rfl ?_
                    refine J_iconst (q := 66) (v := (0 : Int32)) d_Mo_image_65 (by decide) rfl ?_
                    refine J_istore (q := 68) (lv' := [(5, vi ((0 : Int32))), (0, vr 12 (0)), (1, vi (a1)), (2, vi (a2)), (3, vi (a3)), (4, vi (a4))]) d_Mo_image_66 (by decide) rfl rfl ?_
                    refine J_pick [1, 4, 5, 0] rfl ?_
                    exact tl_Mo_image_68 a1 a2 a3 a4 (fun _ h => tj_Mo_image_90 a1 a2 a3 a4 _ h) FU _ _ h
                  · rw [iB_f hb] at h
                    refine J_iconst (q := 60) (v := (-1 : Int32)) d_Mo_image_59 (by decide) rfl ?_
                    obtain rfl := Option.some.inj h
                    exact J_iret rfl ⟨rfl, rfl⟩ d_Mo_image_60
def mj_Mo_dot_24 (a1 : Int32) (a2 : Int32) (μ : Mem) : Option (Int32) :=
  some ((0 : Int32))
theorem tj_Mo_dot_24 (a1 : Int32) (a2 : Int32) (μ : Mem) {q : Int32}  (h : mj_Mo_dot_24 a1 a2 μ  = some q) : J (GM true (QQ (some (vi q)) μ) (some (.int)) y_Mo_dot.name) true b_Mo_dot R_12 3 (0) 0 0 24 [] [] μ := by
  unfold mj_Mo_dot_24 at h
  refine J_iconst (q := 25) (v := (0 : Int32)) d_Mo_dot_24 (by decide) rfl ?_
  refine J_goto (q := 45) d_Mo_dot_25 (by decide) ?_
  obtain rfl := Option.some.inj h
  exact J_iret rfl ⟨rfl, rfl⟩ d_Mo_dot_45
def m_Mo_dot (a1 : Int32) (a2 : Int32) (μ : Mem) : Option (Int32) :=
  if a1 < (-16 : Int32) then
 (mj_Mo_dot_24 a1 a2 μ )
 else
 (if (47 : Int32) < a1 then
 (mj_Mo_dot_24 a1 a2 μ )
 else
 (if a2 < (-16 : Int32) then
 (mj_Mo_dot_24 a1 a2 μ )
 else
 (if a2 ≤ (47 : Int32) then
 (gu (((((64 : Int32)) * (a2 + (16 : Int32))) + (a1)) + ((16 : Int32))) 4096 <|
  some (gI μ 379 (0) (((((64 : Int32)) * (a2 + (16 : Int32))) + (a1)) + ((16 : Int32))).toNatClampNeg))
 else
 (mj_Mo_dot_24 a1 a2 μ ))))
theorem t_Mo_dot {a1 : Int32} {a2 : Int32} {μ : Mem} {q : Int32} (h : m_Mo_dot a1 a2 μ = some q) : JM true (0) y_Mo_dot b_Mo_dot 3 (some (.int)) 0 0 [vr 12 (0), vi (a1), vi (a2)] μ (QQ (some (vi q)) μ) := by
  unfold m_Mo_dot at h
  refine JM.of pl_Mo_dot (fun ρ => Nat.le_of_ble_eq_true rfl) ?_
  show J (GM true (QQ (some (vi q)) μ) (some (.int)) y_Mo_dot.name) true b_Mo_dot R_12 3 (0) 0 0 0 [(0, vr 12 (0)), (1, vi (a1)), (2, vi (a2))] [] μ
  refine J_iload_n (q := 1) 1 d_Mo_dot_0 rfl rfl rfl ?_
  refine J_bipush (q := 3) (v := (-16 : Int32)) d_Mo_dot_1 (by decide) rfl ?_
  refine J_icmp_lt (q := 6) (tgt := 24) d_Mo_dot_3 (by decide) rfl (fun hc => ?_) (fun hc => ?_)
  · rw [if_pos hc] at h
    refine J_pick [] rfl ?_
    exact tj_Mo_dot_24 a1 a2 μ h
  · rw [if_neg hc] at h
    refine J_iload_n (q := 7) 1 d_Mo_dot_6 rfl rfl rfl ?_
    refine J_bipush (q := 9) (v := (47 : Int32)) d_Mo_dot_7 (by decide) rfl ?_
    refine J_icmp_gt (q := 12) (tgt := 24) d_Mo_dot_9 (by decide) rfl (fun hc => ?_) (fun hc => ?_)
    · rw [if_pos hc] at h
      refine J_pick [] rfl ?_
      exact tj_Mo_dot_24 a1 a2 μ h
    · rw [if_neg hc] at h
      refine J_iload_n (q := 13) 2 d_Mo_dot_12 rfl rfl rfl ?_
      refine J_bipush (q := 15) (v := (-16 : Int32)) d_Mo_dot_13 (by decide) rfl ?_
      refine J_icmp_lt (q := 18) (tgt := 24) d_Mo_dot_15 (by decide) rfl (fun hc => ?_) (fun hc => ?_)
      · rw [if_pos hc] at h
        refine J_pick [] rfl ?_
        exact tj_Mo_dot_24 a1 a2 μ h
      · rw [if_neg hc] at h
        refine J_iload_n (q := 19) 2 d_Mo_dot_18 rfl rfl rfl ?_
        refine J_bipush (q := 21) (v := (47 : Int32)) d_Mo_dot_19 (by decide) rfl ?_
        refine J_icmp_le (q := 24) (tgt := 28) d_Mo_dot_21 (by decide) rfl (fun hc => ?_) (fun hc => ?_)
        · rw [if_pos hc] at h
          refine J_aload_n (q := 29) 0 d_Mo_dot_28 rfl rfl rfl ?_
          refine J_getF (q := 32) cd_12 (by decide) ft_12_39 rfl g_1090 rfl d_Mo_dot_29 rfl ?_
          refine J_bipush (q := 34) (v := (64 : Int32)) d_Mo_dot_32 (by decide) rfl ?_
          refine J_iload_n (q := 35) 2 d_Mo_dot_34 rfl rfl rfl ?_
          refine J_bipush (q := 37) (v := (16 : Int32)) d_Mo_dot_35 (by decide) rfl ?_
          refine J_iadd (q := 38) d_Mo_dot_37 rfl ?_
          refine J_imul (q := 39) d_Mo_dot_38 rfl ?_
          refine J_iload_n (q := 40) 1 d_Mo_dot_39 rfl rfl rfl ?_
          refine J_iadd (q := 41) d_Mo_dot_40 rfl ?_
          refine J_bipush (q := 43) (v := (16 : Int32)) d_Mo_dot_41 (by decide) rfl ?_
          refine J_iadd (q := 44) d_Mo_dot_43 rfl ?_
          obtain ⟨hi1, h⟩ := gu_some h
          refine J_iald (q := 45) rk_379 (by decide) hi1 d_Mo_dot_44 rfl ?_
          obtain rfl := Option.some.inj h
          exact J_iret rfl ⟨rfl, rfl⟩ d_Mo_dot_45
        · rw [if_neg hc] at h
          refine J_pick [] rfl ?_
          exact tj_Mo_dot_24 a1 a2 μ h
def mj_Mo_box_68 (a1 : Int32) (μ : Mem) (c_8 : Int32 → Int32 → Int32 → Option (Int32)) (y2 : Int32) (y3 : Int32) (y4 : Int32) : Option (Int32) :=
  ap (y4 + (1 : Int32)) fun x3 =>
  c_8 (y2) (y3) (x3)
theorem tj_Mo_box_68 (a1 : Int32) (μ : Mem) {q : Int32} {c_8 : Int32 → Int32 → Int32 → Option (Int32)} (hc_8 : ∀ (y2 : Int32) (y3 : Int32) (y4 : Int32), c_8 y2 y3 y4 = some q → J (GM true (QQ (some (vi q)) μ) (some (.int)) y_Mo_box.name) true b_Mo_box R_12 6 (0) 0 0 8 [(0, vr 12 (0)), (1, vi (a1)), (2, vi (y2)), (3, vi (y3)), (4, vi (y4))] [] μ) (y2 : Int32) (y3 : Int32) (y4 : Int32) (h : mj_Mo_box_68 a1 μ c_8 y2 y3 y4 = some q) : J (GM true (QQ (some (vi q)) μ) (some (.int)) y_Mo_box.name) true b_Mo_box R_12 6 (0) 0 0 68 [(0, vr 12 (0)), (1, vi (a1)), (2, vi (y2)), (3, vi (y3)), (4, vi (y4))] [] μ := by
  unfold mj_Mo_box_68 at h
  obtain ⟨x3, hx3, h⟩ := ap_eq h
  refine J_iinc (q := 71) (v := x3) (lv' := [(4, vi (x3)), (0, vr 12 (0)), (1, vi (a1)), (2, vi (y2)), (3, vi (y3))]) 4 d_Mo_box_68 rfl (by rw [hx3]; rfl) (by decide) rfl rfl ?_
  refine J_goto (q := 8) d_Mo_box_71 (by decide) ?_
  refine J_pick [1, 2, 3, 4, 0] rfl ?_
  exact hc_8 _ _ _ h
def mj_Mo_box_59 (a1 : Int32) (μ : Mem) (c_8 : Int32 → Int32 → Int32 → Option (Int32)) (y2 : Int32) (y3 : Int32) (y4 : Int32) (y5 : Int32) : Option (Int32) :=
  if y5 ≤ y3 then
 (mj_Mo_box_68 a1 μ c_8 (y2) (y3) (y4))
 else
 (mj_Mo_box_68 a1 μ c_8 (y2) (y5) (y4))
theorem tj_Mo_box_59 (a1 : Int32) (μ : Mem) {q : Int32} {c_8 : Int32 → Int32 → Int32 → Option (Int32)} (hc_8 : ∀ (y2 : Int32) (y3 : Int32) (y4 : Int32), c_8 y2 y3 y4 = some q → J (GM true (QQ (some (vi q)) μ) (some (.int)) y_Mo_box.name) true b_Mo_box R_12 6 (0) 0 0 8 [(0, vr 12 (0)), (1, vi (a1)), (2, vi (y2)), (3, vi (y3)), (4, vi (y4))] [] μ) (y2 : Int32) (y3 : Int32) (y4 : Int32) (y5 : Int32) (h : mj_Mo_box_59 a1 μ c_8 y2 y3 y4 y5 = some q) : J (GM true (QQ (some (vi q)) μ) (some (.int)) y_Mo_box.name) true b_Mo_box R_12 6 (0) 0 0 59 [(0, vr 12 (0)), (1, vi (a1)), (2, vi (y2)), (3, vi (y3)), (4, vi (y4)), (5, vi (y5))] [] μ := by
  unfold mj_Mo_box_59 at h
  refine J_iload (q := 61) 5 d_Mo_box_59 rfl rfl ?_
  refine J_iload_n (q := 62) 3 d_Mo_box_61 rfl rfl rfl ?_
  refine J_icmp_le (q := 65) (tgt := 68) d_Mo_box_62 (by decide) rfl (fun hc => ?_) (fun hc => ?_)
  · rw [if_pos hc] at h
    refine J_pick [0, 1, 2, 3, 4] rfl ?_
    exact tj_Mo_box_68 a1 μ hc_8 _ _ _ h
  · rw [if_neg hc] at h
    refine J_iload (q := 67) 5 d_Mo_box_65 rfl rfl ?_
    refine J_istore_n (q := 68) (lv' := [(3, vi (y5)), (0, vr 12 (0)), (1, vi (a1)), (2, vi (y2)), (4, vi (y4)), (5, vi (y5))]) d_Mo_box_67 rfl (by decide) rfl rfl ?_
    refine J_pick [1, 2, 3, 0, 4] rfl ?_
    exact tj_Mo_box_68 a1 μ hc_8 _ _ _ h
def mj_Mo_box_48 (a1 : Int32) (μ : Mem) (c_8 : Int32 → Int32 → Int32 → Option (Int32)) (y2 : Int32) (y3 : Int32) (y4 : Int32) (z0 : Int32) : Option (Int32) :=
  if y2 ≤ z0 then
 (mj_Mo_box_59 a1 μ c_8 (y2) (y3) (y4) (z0))
 else
 (mj_Mo_box_59 a1 μ c_8 (z0) (y3) (y4) (z0))
theorem tj_Mo_box_48 (a1 : Int32) (μ : Mem) {q : Int32} {c_8 : Int32 → Int32 → Int32 → Option (Int32)} (hc_8 : ∀ (y2 : Int32) (y3 : Int32) (y4 : Int32), c_8 y2 y3 y4 = some q → J (GM true (QQ (some (vi q)) μ) (some (.int)) y_Mo_box.name) true b_Mo_box R_12 6 (0) 0 0 8 [(0, vr 12 (0)), (1, vi (a1)), (2, vi (y2)), (3, vi (y3)), (4, vi (y4))] [] μ) (y2 : Int32) (y3 : Int32) (y4 : Int32) (z0 : Int32) (h : mj_Mo_box_48 a1 μ c_8 y2 y3 y4 z0 = some q) : J (GM true (QQ (some (vi q)) μ) (some (.int)) y_Mo_box.name) true b_Mo_box R_12 6 (0) 0 0 48 [(0, vr 12 (0)), (1, vi (a1)), (2, vi (y2)), (3, vi (y3)), (4, vi (y4))] [vi (z0)] μ := by
  unfold mj_Mo_box_48 at h
  refine J_istore (q := 50) (lv' := [(5, vi (z0)), (0, vr 12 (0)), (1, vi (a1)), (2, vi (y2)), (3, vi (y3)), (4, vi (y4))]) d_Mo_box_48 (by decide) rfl rfl ?_
  refine J_iload (q := 52) 0 d_Mo_box_50 rfl rfl ?_
  refine J_iload_n (q := 53) 3 d_Mo_box_52 rfl rfl rfl ?_
  refine J_icmp_ge (q := 56) (tgt := 59) d_Mo_box_53 (by decide) rfl (fun hc => ?_) (fun hc => ?_)
  · rw [if_pos hc] at h
    refine J_pick [1, 2, 3, 4, 5, 0] rfl ?_
    exact tj_Mo_box_59 a1 μ hc_8 _ _ _ _ h
  · rw [if_neg hc] at h
    refine J_iload (q := 58) 0 d_Mo_box_56 rfl rfl ?_
    refine J_istore_n (q := 59) (lv' := [(2, vi (z0)), (5, vi (z0)), (0, vr 12 (0)), (1, vi (a1)), (3, vi (y3)), (4, vi (y4))]) d_Mo_box_58 rfl (by decide) rfl rfl ?_
    refine J_pick [2, 3, 0, 4, 5, 1] rfl ?_
    exact tj_Mo_box_59 a1 μ hc_8 _ _ _ _ h
def lp_Mo_box_8 (a1 : Int32) (μ : Mem) (c_74 : Int32 → Int32 → Option (Int32)) : Nat → Int32 → Int32 → Int32 → Option (Int32)
  | 0, _, _, _ => none
  | n + 1, y2, y3, y4 =>
  if (4096 : Int32) ≤ y4 then
 (c_74 (y2) (y3))
 else
 (gu (y4) 4096 <|
  if gI μ 379 (0) y4.toNatClampNeg = 0 then
 (mj_Mo_box_68 a1 μ (lp_Mo_box_8 a1 μ c_74 n) (y2) (y3) (y4))
 else
 (ap (a1 - a1 / (2 : Int32) * (2 : Int32)) fun x6 =>
  if x6 = 0 then
 (ap (y4 - y4 / (64 : Int32) * (64 : Int32)) fun x7 =>
  mj_Mo_box_48 a1 μ (lp_Mo_box_8 a1 μ c_74 n) (y2) (y3) (y4) (x7))
 else
 (mj_Mo_box_48 a1 μ (lp_Mo_box_8 a1 μ c_74 n) (y2) (y3) (y4) (y4 / (64 : Int32)))))
theorem tl_Mo_box_8 (a1 : Int32) (μ : Mem) {q : Int32} {c_74 : Int32 → Int32 → Option (Int32)} (hc_74 : ∀ (y2 : Int32) (y3 : Int32), c_74 y2 y3 = some q → J (GM true (QQ (some (vi q)) μ) (some (.int)) y_Mo_box.name) true b_Mo_box R_12 6 (0) 0 0 74 [(1, vi (a1)), (2, vi (y2)), (3, vi (y3))] [] μ) : ∀ (n : Nat) (y2 : Int32) (y3 : Int32) (y4 : Int32), lp_Mo_box_8 a1 μ c_74 n y2 y3 y4 = some q → J (GM true (QQ (some (vi q)) μ) (some (.int)) y_Mo_box.name) true b_Mo_box R_12 6 (0) 0 0 8 [(0, vr 12 (0)), (1, vi (a1)), (2, vi (y2)), (3, vi (y3)), (4, vi (y4))] [] μ := by
  intro n
  induction n with
  | zero => intro _ _ _ h; cases h
  | succ n ih =>
    intro y2 y3 y4 h
    unfold lp_Mo_box_8 at h
    refine J_iload (q := 10) 4 d_Mo_box_8 rfl rfl ?_
    refine J_sipush (q := 13) (v := (4096 : Int32)) d_Mo_box_10 (by decide) rfl ?_
    refine J_icmp_ge (q := 16) (tgt := 74) d_Mo_box_13 (by decide) rfl (fun hc => ?_) (fun hc => ?_)
    · rw [if_pos hc] at h
      refine J_pick [1, 2, 3] rfl ?_
      exact hc_74 _ _ h
    · rw [if_neg hc] at h
      refine J_aload_n (q := 17) 0 d_Mo_box_16 rfl rfl rfl ?_
      refine J_getF (q := 20) cd_12 (by decide) ft_12_39 rfl g_1090 rfl d_Mo_box_17 rfl ?_
      refine J_iload (q := 22) 4 d_Mo_box_20 rfl rfl ?_
      obtain ⟨hi5, h⟩ := gu_some h
      refine J_iald (q := 23) rk_379 (by decide) hi5 d_Mo_box_22 rfl ?_
      refine J_if_ne (q := 26) (tgt := 29) d_Mo_box_23 (by decide) rfl (fun hc => ?_) (fun hc => ?_)
      · rw [if_neg hc] at h
        refine J_iload_n (q := 30) 1 d_Mo_box_29 rfl rfl rfl ?_
        refine J_iconst (q := 31) (v := (2 : Int32)) d_Mo_box_30 (by decide) rfl ?_
        refine J_irem (q := 32) d_Mo_box_31 (by decide) rfl ?_
        obtain ⟨x6, hx6, h⟩ := ap_eq h
        refine J_nmI hx6 ?_
        refine J_if_ne (q := 35) (tgt := 43) d_Mo_box_32 (by decide) rfl (fun hc => ?_) (fun hc => ?_)
        · rw [if_neg hc] at h
          refine J_iload (q := 45) 4 d_Mo_box_43 rfl rfl ?_
          refine J_bipush (q := 47) (v := (64 : Int32)) d_Mo_box_45 (by decide) rfl ?_
          refine J_idiv (q := 48) d_Mo_box_47 (by decide) rfl ?_
          refine J_pick [0, 1, 2, 3, 4] rfl ?_
          exact tj_Mo_box_48 a1 μ ih _ _ _ _ h
        · rw [if_pos hc] at h
          refine J_iload (q := 37) 4 d_Mo_box_35 rfl rfl ?_
          refine J_bipush (q := 39) (v := (64 : Int32)) d_Mo_box_37 (by decide) rfl ?_
          refine J_irem (q := 40) d_Mo_box_39 (by decide) rfl ?_
          obtain ⟨x7, hx7, h⟩ := ap_eq h
          refine J_nmI hx7 ?_
          refine J_goto (q := 48) d_Mo_box_40 (by decide) ?_
          refine J_pick [0, 1, 2, 3, 4] rfl ?_
          exact tj_Mo_box_48 a1 μ ih _ _ _ _ h
      · rw [if_pos hc] at h
        refine J_goto (q := 68) d_Mo_box_26 (by decide) ?_
        refine J_pick [0, 1, 2, 3, 4] rfl ?_
        exact tj_Mo_box_68 a1 μ ih _ _ _ h
def mj_Mo_box_102 (a1 : Int32) (μ : Mem) (z0 : Int32) : Option (Int32) :=
  some (z0 - (16 : Int32))
theorem tj_Mo_box_102 (a1 : Int32) (μ : Mem) {q : Int32}  (z0 : Int32) (h : mj_Mo_box_102 a1 μ z0 = some q) : J (GM true (QQ (some (vi q)) μ) (some (.int)) y_Mo_box.name) true b_Mo_box R_12 6 (0) 0 0 102 [] [vi (z0)] μ := by
  unfold mj_Mo_box_102 at h
  refine J_bipush (q := 104) (v := (16 : Int32)) d_Mo_box_102 (by decide) rfl ?_
  refine J_isub (q := 105) d_Mo_box_104 rfl ?_
  obtain rfl := Option.some.inj h
  exact J_iret rfl ⟨rfl, rfl⟩ d_Mo_box_105
def mj_Mo_box_74 (a1 : Int32) (μ : Mem) (y2 : Int32) (y3 : Int32) : Option (Int32) :=
  if y3 = (-1 : Int32) then
 (some ((-1000 : Int32)))
 else
 (if a1 < 0 then
 (some ((-1000 : Int32)))
 else
 (if a1 ≤ (3 : Int32) then
 (if (2 : Int32) ≤ a1 then
 (mj_Mo_box_102 a1 μ (y3))
 else
 (mj_Mo_box_102 a1 μ (y2)))
 else
 (some ((-1000 : Int32)))))
theorem tj_Mo_box_74 (a1 : Int32) (μ : Mem) {q : Int32}  (y2 : Int32) (y3 : Int32) (h : mj_Mo_box_74 a1 μ y2 y3 = some q) : J (GM true (QQ (some (vi q)) μ) (some (.int)) y_Mo_box.name) true b_Mo_box R_12 6 (0) 0 0 74 [(1, vi (a1)), (2, vi (y2)), (3, vi (y3))] [] μ := by
  unfold mj_Mo_box_74 at h
  refine J_iload_n (q := 75) 2 d_Mo_box_74 rfl rfl rfl ?_
  refine J_iconst (q := 76) (v := (-1 : Int32)) d_Mo_box_75 (by decide) rfl ?_
  refine J_icmp_eq (q := 79) (tgt := 88) d_Mo_box_76 (by decide) rfl (fun hc => ?_) (fun hc => ?_)
  · rw [if_pos hc] at h
    refine J_sipush (q := 91) (v := (-1000 : Int32)) d_Mo_box_88 (by decide) rfl ?_
    obtain rfl := Option.some.inj h
    exact J_iret rfl ⟨rfl, rfl⟩ d_Mo_box_91
  · rw [if_neg hc] at h
    refine J_iload_n (q := 80) 0 d_Mo_box_79 rfl rfl rfl ?_
    refine J_if_lt (q := 83) (tgt := 88) d_Mo_box_80 (by decide) rfl (fun hc => ?_) (fun hc => ?_)
    · rw [if_pos hc] at h
      refine J_sipush (q := 91) (v := (-1000 : Int32)) d_Mo_box_88 (by decide) rfl ?_
      obtain rfl := Option.some.inj h
      exact J_iret rfl ⟨rfl, rfl⟩ d_Mo_box_91
    · rw [if_neg hc] at h
      refine J_iload_n (q := 84) 0 d_Mo_box_83 rfl rfl rfl ?_
      refine J_iconst (q := 85) (v := (3 : Int32)) d_Mo_box_84 (by decide) rfl ?_
      refine J_icmp_le (q := 88) (tgt := 92) d_Mo_box_85 (by decide) rfl (fun hc => ?_) (fun hc => ?_)
      · rw [if_pos hc] at h
        refine J_iload_n (q := 93) 0 d_Mo_box_92 rfl rfl rfl ?_
        refine J_iconst (q := 94) (v := (2 : Int32)) d_Mo_box_93 (by decide) rfl ?_
        refine J_icmp_ge (q := 97) (tgt := 101) d_Mo_box_94 (by decide) rfl (fun hc => ?_) (fun hc => ?_)
        · rw [if_pos hc] at h
          refine J_iload_n (q := 102) 2 d_Mo_box_101 rfl rfl rfl ?_
          refine J_pick [] rfl ?_
          exact tj_Mo_box_102 a1 μ _ h
        · rw [if_neg hc] at h
          refine J_iload_n (q := 98) 1 d_Mo_box_97 rfl rfl rfl ?_
          refine J_goto (q := 102) d_Mo_box_98 (by decide) ?_
          refine J_pick [] rfl ?_
          exact tj_Mo_box_102 a1 μ _ h
      · rw [if_neg hc] at h
        refine J_sipush (q := 91) (v := (-1000 : Int32)) d_Mo_box_88 (by decide) rfl ?_
        obtain rfl := Option.some.inj h
        exact J_iret rfl ⟨rfl, rfl⟩ d_Mo_box_91
def m_Mo_box (a1 : Int32) (μ : Mem) : Option (Int32) :=
  lp_Mo_box_8 a1 μ (mj_Mo_box_74 a1 μ) FU ((64 : Int32)) ((-1 : Int32)) ((0 : Int32))
theorem t_Mo_box {a1 : Int32} {μ : Mem} {q : Int32} (h : m_Mo_box a1 μ = some q) : JM true (0) y_Mo_box b_Mo_box 6 (some (.int)) 0 0 [vr 12 (0), vi (a1)] μ (QQ (some (vi q)) μ) := by
  unfold m_Mo_box at h
  refine JM.of pl_Mo_box (fun ρ => Nat.le_of_ble_eq_true rfl) ?_
  show J (GM true (QQ (some (vi q)) μ) (some (.int)) y_Mo_box.name) true b_Mo_box R_12 6 (0) 0 0 0 [(0, vr 12 (0)), (1, vi (a1))] [] μ
  refine J_bipush (q := 2) (v := (64 : Int32)) d_Mo_box_0 (by decide) rfl ?_
  refine J_istore_n (q := 3) (lv' := [(2, vi ((64 : Int32))), (0, vr 12 (0)), (1, vi (a1))]) d_Mo_box_2 rfl (by decide) rfl rfl ?_
  refine J_iconst (q := 4) (v := (-1 : Int32)) d_Mo_box_3 (by decide) rfl ?_
  refine J_istore_n (q := 5) (lv' := [(3, vi ((-1 : Int32))), (2, vi ((64 : Int32))), (0, vr 12 (0)), (1, vi (a1))]) d_Mo_box_4 rfl (by decide) rfl rfl ?_
  refine J_iconst (q := 6) (v := (0 : Int32)) d_Mo_box_5 (by decide) rfl ?_
  refine J_istore (q := 8) (lv' := [(4, vi ((0 : Int32))), (3, vi ((-1 : Int32))), (2, vi ((64 : Int32))), (0, vr 12 (0)), (1, vi (a1))]) d_Mo_box_6 (by decide) rfl rfl ?_
  refine J_pick [3, 4, 2, 1, 0] rfl ?_
  exact tl_Mo_box_8 a1 μ (fun _ _ h => tj_Mo_box_74 a1 μ _ _ h) FU _ _ _ h
def m_Mo_act (a1 : Int32) (a2 : Int32) (a3 : Int32) (μ : Mem) : Option (Int32 × Mem) :=
  if (m_Mo_isLetter (a1) μ) then
 (gu (a1) 32 <|
  if 0 < gI μ 352 (0) a1.toNatClampNeg then
 (some (((-1 : Int32), μ)))
 else
 (if a2 < 0 then
 (some (((-1 : Int32), μ)))
 else
 (if (30 : Int32) < a2 then
 (some (((-1 : Int32), μ)))
 else
 (if a3 < (-100000 : Int32) then
 (some (((-1 : Int32), μ)))
 else
 (if (100000 : Int32) < a3 then
 (some (((-1 : Int32), μ)))
 else
 (gu (a1) 32 <|
  if gI μ 357 (0) a1.toNatClampNeg = (100 : Int32) then
 (some (((-1 : Int32), μ)))
 else
 (gu (a1) 32 <|
  gu (((100 : Int32) * a1) + (gI μ 357 (0) a1.toNatClampNeg)) 3200 <|
  ap (sI μ 358 (0) (((100 : Int32) * a1) + (gI μ 357 (0) a1.toNatClampNeg)).toNatClampNeg (a2)) fun μ5 =>
  gu (a1) 32 <|
  gu (((100 : Int32) * a1) + (gI μ5 357 (0) a1.toNatClampNeg)) 3200 <|
  ap (sI μ5 359 (0) (((100 : Int32) * a1) + (gI μ5 357 (0) a1.toNatClampNeg)).toNatClampNeg (a3)) fun μ8 =>
  gu (a1) 32 <|
  gu (a1) 32 <|
  ap (sI μ8 357 (0) a1.toNatClampNeg ((gI μ8 357 (0) a1.toNatClampNeg) + ((1 : Int32)))) fun μ11 =>
  gu (a1) 32 <|
  some ((gI μ11 357 (0) a1.toNatClampNeg, μ11)))))))))
 else
 (some (((-1 : Int32), μ)))
theorem t_Mo_act {a1 : Int32} {a2 : Int32} {a3 : Int32} {μ : Mem} {q : Int32 × Mem} (h : m_Mo_act a1 a2 a3 μ = some q) : JM true (1) y_Mo_act b_Mo_act 4 (some (.int)) 0 0 [vr 12 (0), vi (a1), vi (a2), vi (a3)] μ (QQ (some (vi q.1)) q.2) := by
  unfold m_Mo_act at h
  refine JM.of pl_Mo_act (fun ρ => Nat.le_of_ble_eq_true rfl) ?_
  show J (GM true (QQ (some (vi q.1)) q.2) (some (.int)) y_Mo_act.name) true b_Mo_act R_12 4 (1) 0 0 0 [(0, vr 12 (0)), (1, vi (a1)), (2, vi (a2)), (3, vi (a3))] [] μ
  refine J_aload_n (q := 1) 0 d_Mo_act_0 rfl rfl rfl ?_
  refine J_iload_n (q := 2) 1 d_Mo_act_1 rfl rfl rfl ?_
  refine J_callVq (rc := 0) (rs := 0) (q := 5) (as := [vi (a1)]) (st := []) (by decide) rfl g_1287 sel_Mo_isLetter (t_Mo_isLetter rfl) (by decide) (by decide) g_1285 g_1288 g_10 hy_Mo_isLetter rfl (Nat.le_of_ble_eq_true rfl) d_Mo_act_2 rfl ?_
  refine J_ifB_eq (q := 8) (tgt := 51) d_Mo_act_5 (by decide) rfl (fun hb => ?_) (fun hb => ?_)
  · rw [iB_f hb] at h
    refine J_iconst (q := 52) (v := (-1 : Int32)) d_Mo_act_51 (by decide) rfl ?_
    obtain rfl := Option.some.inj h
    exact J_iret rfl ⟨rfl, rfl⟩ d_Mo_act_52
  · rw [iB_t hb] at h
    refine J_aload_n (q := 9) 0 d_Mo_act_8 rfl rfl rfl ?_
    refine J_getF (q := 12) cd_12 (by decide) ft_12_12 rfl g_1063 rfl d_Mo_act_9 rfl ?_
    refine J_iload_n (q := 13) 1 d_Mo_act_12 rfl rfl rfl ?_
    obtain ⟨hi1, h⟩ := gu_some h
    refine J_iald (q := 14) rk_352 (by decide) hi1 d_Mo_act_13 rfl ?_
    refine J_if_gt (q := 17) (tgt := 51) d_Mo_act_14 (by decide) rfl (fun hc => ?_) (fun hc => ?_)
    · rw [if_pos hc] at h
      refine J_iconst (q := 52) (v := (-1 : Int32)) d_Mo_act_51 (by decide) rfl ?_
      obtain rfl := Option.some.inj h
      exact J_iret rfl ⟨rfl, rfl⟩ d_Mo_act_52
    · rw [if_neg hc] at h
      refine J_iload_n (q := 18) 2 d_Mo_act_17 rfl rfl rfl ?_
      refine J_if_lt (q := 21) (tgt := 51) d_Mo_act_18 (by decide) rfl (fun hc => ?_) (fun hc => ?_)
      · rw [if_pos hc] at h
        refine J_iconst (q := 52) (v := (-1 : Int32)) d_Mo_act_51 (by decide) rfl ?_
        obtain rfl := Option.some.inj h
        exact J_iret rfl ⟨rfl, rfl⟩ d_Mo_act_52
      · rw [if_neg hc] at h
        refine J_iload_n (q := 22) 2 d_Mo_act_21 rfl rfl rfl ?_
        refine J_bipush (q := 24) (v := (30 : Int32)) d_Mo_act_22 (by decide) rfl ?_
        refine J_icmp_gt (q := 27) (tgt := 51) d_Mo_act_24 (by decide) rfl (fun hc => ?_) (fun hc => ?_)
        · rw [if_pos hc] at h
          refine J_iconst (q := 52) (v := (-1 : Int32)) d_Mo_act_51 (by decide) rfl ?_
          obtain rfl := Option.some.inj h
          exact J_iret rfl ⟨rfl, rfl⟩ d_Mo_act_52
        · rw [if_neg hc] at h
          refine J_iload_n (q := 28) 3 d_Mo_act_27 rfl rfl rfl ?_
          refine J_ldc (q := 30) d_Mo_act_28 g_1355 rfl ?_
          refine J_icmp_lt (q := 33) (tgt := 51) d_Mo_act_30 (by decide) rfl (fun hc => ?_) (fun hc => ?_)
          · rw [if_pos hc] at h
            refine J_iconst (q := 52) (v := (-1 : Int32)) d_Mo_act_51 (by decide) rfl ?_
            obtain rfl := Option.some.inj h
            exact J_iret rfl ⟨rfl, rfl⟩ d_Mo_act_52
          · rw [if_neg hc] at h
            refine J_iload_n (q := 34) 3 d_Mo_act_33 rfl rfl rfl ?_
            refine J_ldcw (q := 37) d_Mo_act_34 g_1462 rfl ?_
            refine J_icmp_gt (q := 40) (tgt := 51) d_Mo_act_37 (by decide) rfl (fun hc => ?_) (fun hc => ?_)
            · rw [if_pos hc] at h
              refine J_iconst (q := 52) (v := (-1 : Int32)) d_Mo_act_51 (by decide) rfl ?_
              obtain rfl := Option.some.inj h
              exact J_iret rfl ⟨rfl, rfl⟩ d_Mo_act_52
            · rw [if_neg hc] at h
              refine J_aload_n (q := 41) 0 d_Mo_act_40 rfl rfl rfl ?_
              refine J_getF (q := 44) cd_12 (by decide) ft_12_17 rfl g_1068 rfl d_Mo_act_41 rfl ?_
              refine J_iload_n (q := 45) 1 d_Mo_act_44 rfl rfl rfl ?_
              obtain ⟨hi2, h⟩ := gu_some h
              refine J_iald (q := 46) rk_357 (by decide) hi2 d_Mo_act_45 rfl ?_
              refine J_bipush (q := 48) (v := (100 : Int32)) d_Mo_act_46 (by decide) rfl ?_
              refine J_icmp_ne (q := 51) (tgt := 53) d_Mo_act_48 (by decide) rfl (fun hc => ?_) (fun hc => ?_)
              · rw [if_neg hc] at h
                refine J_aload_n (q := 54) 0 d_Mo_act_53 rfl rfl rfl ?_
                refine J_getF (q := 57) cd_12 (by decide) ft_12_18 rfl g_1069 rfl d_Mo_act_54 rfl ?_
                refine J_bipush (q := 59) (v := (100 : Int32)) d_Mo_act_57 (by decide) rfl ?_
                refine J_iload_n (q := 60) 1 d_Mo_act_59 rfl rfl rfl ?_
                refine J_imul (q := 61) d_Mo_act_60 rfl ?_
                refine J_aload_n (q := 62) 0 d_Mo_act_61 rfl rfl rfl ?_
                refine J_getF (q := 65) cd_12 (by decide) ft_12_17 rfl g_1068 rfl d_Mo_act_62 rfl ?_
                refine J_iload_n (q := 66) 1 d_Mo_act_65 rfl rfl rfl ?_
                obtain ⟨hi3, h⟩ := gu_some h
                refine J_iald (q := 67) rk_357 (by decide) hi3 d_Mo_act_66 rfl ?_
                refine J_iadd (q := 68) d_Mo_act_67 rfl ?_
                refine J_iload_n (q := 69) 2 d_Mo_act_68 rfl rfl rfl ?_
                obtain ⟨hi4, h⟩ := gu_some h
                refine J_iast (q := 70) rk_358 (by decide) hi4 d_Mo_act_69 rfl ?_
                obtain ⟨μ5, hμ5, h⟩ := ap_eq h
                refine J_nmM hμ5 ?_
                refine J_aload_n (q := 71) 0 d_Mo_act_70 rfl rfl rfl ?_
                refine J_getF (q := 74) cd_12 (by decide) ft_12_19 rfl g_1070 rfl d_Mo_act_71 rfl ?_
                refine J_bipush (q := 76) (v := (100 : Int32)) d_Mo_act_74 (by decide) rfl ?_
                refine J_iload_n (q := 77) 1 d_Mo_act_76 rfl rfl rfl ?_
                refine J_imul (q := 78) d_Mo_act_77 rfl ?_
                refine J_aload_n (q := 79) 0 d_Mo_act_78 rfl rfl rfl ?_
                refine J_getF (q := 82) cd_12 (by decide) ft_12_17 rfl g_1068 rfl d_Mo_act_79 rfl ?_
                refine J_iload_n (q := 83) 1 d_Mo_act_82 rfl rfl rfl ?_
                obtain ⟨hi6, h⟩ := gu_some h
                refine J_iald (q := 84) rk_357 (by decide) hi6 d_Mo_act_83 rfl ?_
                refine J_iadd (q := 85) d_Mo_act_84 rfl ?_
                refine J_iload_n (q := 86) 3 d_Mo_act_85 rfl rfl rfl ?_
                obtain ⟨hi7, h⟩ := gu_some h
                refine J_iast (q := 87) rk_359 (by decide) hi7 d_Mo_act_86 rfl ?_
                obtain ⟨μ8, hμ8, h⟩ := ap_eq h
                refine J_nmM hμ8 ?_
                refine J_aload_n (q := 88) 0 d_Mo_act_87 rfl rfl rfl ?_
                refine J_getF (q := 91) cd_12 (by decide) ft_12_17 rfl g_1068 rfl d_Mo_act_88 rfl ?_
                refine J_iload_n (q := 92) 1 d_Mo_act_91 rfl rfl rfl ?_
                refine J_dup2IR (q := 93) d_Mo_act_92 rfl ?_
                obtain ⟨hi9, h⟩ := gu_some h
                refine J_iald (q := 94) rk_357 (by decide) hi9 d_Mo_act_93 rfl ?_
                refine J_iconst (q := 95) (v := (1 : Int32)) d_Mo_act_94 (by decide) rfl ?_
                refine J_iadd (q := 96) d_Mo_act_95 rfl ?_
                obtain ⟨hi10, h⟩ := gu_some h
                refine J_iast (q := 97) rk_357 (by decide) hi10 d_Mo_act_96 rfl ?_
                obtain ⟨μ11, hμ11, h⟩ := ap_eq h
                refine J_nmM hμ11 ?_
                refine J_aload_n (q := 98) 0 d_Mo_act_97 rfl rfl rfl ?_
                refine J_getF (q := 101) cd_12 (by decide) ft_12_17 rfl g_1068 rfl d_Mo_act_98 rfl ?_
                refine J_iload_n (q := 102) 1 d_Mo_act_101 rfl rfl rfl ?_
                obtain ⟨hi12, h⟩ := gu_some h
                refine J_iald (q := 103) rk_357 (by decide) hi12 d_Mo_act_102 rfl ?_
                obtain rfl := Option.some.inj h
                exact J_iret rfl ⟨rfl, rfl⟩ d_Mo_act_103
              · rw [if_pos hc] at h
                refine J_iconst (q := 52) (v := (-1 : Int32)) d_Mo_act_51 (by decide) rfl ?_
                obtain rfl := Option.some.inj h
                exact J_iret rfl ⟨rfl, rfl⟩ d_Mo_act_52
def m_Mo_wipe (a1 : Int32) (μ : Mem) : Option (Int32 × Mem) :=
  if (m_Mo_isLetter (a1) μ) then
 (gu (a1) 32 <|
  ap (gI μ 357 (0) a1.toNatClampNeg) fun x2 =>
  gu (a1) 32 <|
  ap (sI μ 357 (0) a1.toNatClampNeg ((0 : Int32))) fun μ4 =>
  some ((x2, μ4)))
 else
 (some (((-1 : Int32), μ)))
theorem t_Mo_wipe {a1 : Int32} {μ : Mem} {q : Int32 × Mem} (h : m_Mo_wipe a1 μ = some q) : JM true (1) y_Mo_wipe b_Mo_wipe 3 (some (.int)) 0 0 [vr 12 (0), vi (a1)] μ (QQ (some (vi q.1)) q.2) := by
  unfold m_Mo_wipe at h
  refine JM.of pl_Mo_wipe (fun ρ => Nat.le_of_ble_eq_true rfl) ?_
  show J (GM true (QQ (some (vi q.1)) q.2) (some (.int)) y_Mo_wipe.name) true b_Mo_wipe R_12 3 (1) 0 0 0 [(0, vr 12 (0)), (1, vi (a1))] [] μ
  refine J_aload_n (q := 1) 0 d_Mo_wipe_0 rfl rfl rfl ?_
  refine J_iload_n (q := 2) 1 d_Mo_wipe_1 rfl rfl rfl ?_
  refine J_callVq (rc := 0) (rs := 0) (q := 5) (as := [vi (a1)]) (st := []) (by decide) rfl g_1287 sel_Mo_isLetter (t_Mo_isLetter rfl) (by decide) (by decide) g_1285 g_1288 g_10 hy_Mo_isLetter rfl (Nat.le_of_ble_eq_true rfl) d_Mo_wipe_2 rfl ?_
  refine J_ifB_ne (q := 8) (tgt := 10) d_Mo_wipe_5 (by decide) rfl (fun hb => ?_) (fun hb => ?_)
  · rw [iB_t hb] at h
    refine J_aload_n (q := 11) 0 d_Mo_wipe_10 rfl rfl rfl ?_
    refine J_getF (q := 14) cd_12 (by decide) ft_12_17 rfl g_1068 rfl d_Mo_wipe_11 rfl ?_
    refine J_iload_n (q := 15) 1 d_Mo_wipe_14 rfl rfl rfl ?_
    obtain ⟨hi1, h⟩ := gu_some h
    refine J_iald (q := 16) rk_357 (by decide) hi1 d_Mo_wipe_15 rfl ?_
    obtain ⟨x2, hx2, h⟩ := ap_eq h
    refine J_nmI hx2 ?_
    refine J_istore_n (q := 17) (lv' := [(2, vi (x2)), (0, vr 12 (0)), (1, vi (a1))]) d_Mo_wipe_16 rfl (by decide) rfl rfl ?_
    refine J_aload_n (q := 18) 1 d_Mo_wipe_17 rfl rfl rfl ?_
    refine J_getF (q := 21) cd_12 (by decide) ft_12_17 rfl g_1068 rfl d_Mo_wipe_18 rfl ?_
    refine J_iload_n (q := 22) 2 d_Mo_wipe_21 rfl rfl rfl ?_
    refine J_iconst (q := 23) (v := (0 : Int32)) d_Mo_wipe_22 (by decide) rfl ?_
    obtain ⟨hi3, h⟩ := gu_some h
    refine J_iast (q := 24) rk_357 (by decide) hi3 d_Mo_wipe_23 rfl ?_
    obtain ⟨μ4, hμ4, h⟩ := ap_eq h
    refine J_nmM hμ4 ?_
    refine J_iload_n (q := 25) 0 d_Mo_wipe_24 rfl rfl rfl ?_
    obtain rfl := Option.some.inj h
    exact J_iret rfl ⟨rfl, rfl⟩ d_Mo_wipe_25
  · rw [iB_f hb] at h
    refine J_iconst (q := 9) (v := (-1 : Int32)) d_Mo_wipe_8 (by decide) rfl ?_
    obtain rfl := Option.some.inj h
    exact J_iret rfl ⟨rfl, rfl⟩ d_Mo_wipe_9
def m_Mo_onPoint (a1 : Int32) (μ : Mem) : Bool :=
  if a1 < (22 : Int32) then
 (false)
 else
 (if (27 : Int32) < a1 then
 (false)
 else
 (true))
theorem t_Mo_onPoint {a1 : Int32} {μ : Mem} {q : Bool} (h : m_Mo_onPoint a1 μ = q) : JM true (0) y_Mo_onPoint b_Mo_onPoint 1 (some (.boolean)) 0 0 [vi (a1)] μ (QQ (some (vi (b2i q))) μ) := by
  unfold m_Mo_onPoint at h
  refine JM.of pl_Mo_onPoint (fun ρ => Nat.le_of_ble_eq_true rfl) ?_
  show J (GM true (QQ (some (vi (b2i q))) μ) (some (.boolean)) y_Mo_onPoint.name) true b_Mo_onPoint R_12 1 (0) 0 0 0 [(0, vi (a1))] [] μ
  refine J_iload_n (q := 1) 0 d_Mo_onPoint_0 rfl rfl rfl ?_
  refine J_bipush (q := 3) (v := (22 : Int32)) d_Mo_onPoint_1 (by decide) rfl ?_
  refine J_icmp_lt (q := 6) (tgt := 16) d_Mo_onPoint_3 (by decide) rfl (fun hc => ?_) (fun hc => ?_)
  · rw [if_pos hc] at h
    refine J_iconst (q := 17) (v := (0 : Int32)) d_Mo_onPoint_16 (by decide) rfl ?_
    subst h
    exact J_zret (Or.inl rfl) rfl ⟨rfl, rfl⟩ d_Mo_onPoint_17
  · rw [if_neg hc] at h
    refine J_iload_n (q := 7) 0 d_Mo_onPoint_6 rfl rfl rfl ?_
    refine J_bipush (q := 9) (v := (27 : Int32)) d_Mo_onPoint_7 (by decide) rfl ?_
    refine J_icmp_gt (q := 12) (tgt := 16) d_Mo_onPoint_9 (by decide) rfl (fun hc => ?_) (fun hc => ?_)
    · rw [if_pos hc] at h
      refine J_iconst (q := 17) (v := (0 : Int32)) d_Mo_onPoint_16 (by decide) rfl ?_
      subst h
      exact J_zret (Or.inl rfl) rfl ⟨rfl, rfl⟩ d_Mo_onPoint_17
    · rw [if_neg hc] at h
      refine J_iconst (q := 13) (v := (1 : Int32)) d_Mo_onPoint_12 (by decide) rfl ?_
      refine J_goto (q := 17) d_Mo_onPoint_13 (by decide) ?_
      subst h
      exact J_zret (Or.inr rfl) rfl ⟨rfl, rfl⟩ d_Mo_onPoint_17
def mj_Mo_pushes_27 (a1 : Int32) (μ : Mem) : Bool :=
  true
theorem tj_Mo_pushes_27 (a1 : Int32) (μ : Mem) {q : Bool}  (h : mj_Mo_pushes_27 a1 μ  = q) : J (GM true (QQ (some (vi (b2i q))) μ) (some (.boolean)) y_Mo_pushes.name) true b_Mo_pushes R_12 1 (0) 0 0 27 [] [] μ := by
  unfold mj_Mo_pushes_27 at h
  refine J_iconst (q := 28) (v := (1 : Int32)) d_Mo_pushes_27 (by decide) rfl ?_
  refine J_goto (q := 32) d_Mo_pushes_28 (by decide) ?_
  subst h
  exact J_zret (Or.inr rfl) rfl ⟨rfl, rfl⟩ d_Mo_pushes_32
def m_Mo_pushes (a1 : Int32) (μ : Mem) : Bool :=
  if a1 = 0 then
 (mj_Mo_pushes_27 a1 μ )
 else
 (if a1 = (1 : Int32) then
 (mj_Mo_pushes_27 a1 μ )
 else
 (if a1 = (21 : Int32) then
 (mj_Mo_pushes_27 a1 μ )
 else
 (if a1 = (22 : Int32) then
 (mj_Mo_pushes_27 a1 μ )
 else
 (if a1 = (24 : Int32) then
 (mj_Mo_pushes_27 a1 μ )
 else
 (false)))))
theorem t_Mo_pushes {a1 : Int32} {μ : Mem} {q : Bool} (h : m_Mo_pushes a1 μ = q) : JM true (0) y_Mo_pushes b_Mo_pushes 1 (some (.boolean)) 0 0 [vi (a1)] μ (QQ (some (vi (b2i q))) μ) := by
  unfold m_Mo_pushes at h
  refine JM.of pl_Mo_pushes (fun ρ => Nat.le_of_ble_eq_true rfl) ?_
  show J (GM true (QQ (some (vi (b2i q))) μ) (some (.boolean)) y_Mo_pushes.name) true b_Mo_pushes R_12 1 (0) 0 0 0 [(0, vi (a1))] [] μ
  refine J_iload_n (q := 1) 0 d_Mo_pushes_0 rfl rfl rfl ?_
  refine J_if_eq (q := 4) (tgt := 27) d_Mo_pushes_1 (by decide) rfl (fun hc => ?_) (fun hc => ?_)
  · rw [if_pos hc] at h
    refine J_pick [] rfl ?_
    exact tj_Mo_pushes_27 a1 μ h
  · rw [if_neg hc] at h
    refine J_iload_n (q := 5) 0 d_Mo_pushes_4 rfl rfl rfl ?_
    refine J_iconst (q := 6) (v := (1 : Int32)) d_Mo_pushes_5 (by decide) rfl ?_
    refine J_icmp_eq (q := 9) (tgt := 27) d_Mo_pushes_6 (by decide) rfl (fun hc => ?_) (fun hc => ?_)
    · rw [if_pos hc] at h
      refine J_pick [] rfl ?_
      exact tj_Mo_pushes_27 a1 μ h
    · rw [if_neg hc] at h
      refine J_iload_n (q := 10) 0 d_Mo_pushes_9 rfl rfl rfl ?_
      refine J_bipush (q := 12) (v := (21 : Int32)) d_Mo_pushes_10 (by decide) rfl ?_
      refine J_icmp_eq (q := 15) (tgt := 27) d_Mo_pushes_12 (by decide) rfl (fun hc => ?_) (fun hc => ?_)
      · rw [if_pos hc] at h
        refine J_pick [] rfl ?_
        exact tj_Mo_pushes_27 a1 μ h
      · rw [if_neg hc] at h
        refine J_iload_n (q := 16) 0 d_Mo_pushes_15 rfl rfl rfl ?_
        refine J_bipush (q := 18) (v := (22 : Int32)) d_Mo_pushes_16 (by decide) rfl ?_
        refine J_icmp_eq (q := 21) (tgt := 27) d_Mo_pushes_18 (by decide) rfl (fun hc => ?_) (fun hc => ?_)
        · rw [if_pos hc] at h
          refine J_pick [] rfl ?_
          exact tj_Mo_pushes_27 a1 μ h
        · rw [if_neg hc] at h
          refine J_iload_n (q := 22) 0 d_Mo_pushes_21 rfl rfl rfl ?_
          refine J_bipush (q := 24) (v := (24 : Int32)) d_Mo_pushes_22 (by decide) rfl ?_
          refine J_icmp_ne (q := 27) (tgt := 31) d_Mo_pushes_24 (by decide) rfl (fun hc => ?_) (fun hc => ?_)
          · rw [if_neg hc] at h
            refine J_iconst (q := 32) (v := (0 : Int32)) d_Mo_pushes_31 (by decide) rfl ?_
            subst h
            exact J_zret (Or.inl rfl) rfl ⟨rfl, rfl⟩ d_Mo_pushes_32
          · rw [if_pos hc] at h
            refine J_pick [] rfl ?_
            exact tj_Mo_pushes_27 a1 μ h
def m_Mo_wants (a1 : Int32) (μ : Mem) : Int32 :=
  if a1 = (1 : Int32) then
 ((1 : Int32))
 else if a1 = (2 : Int32) then
 ((1 : Int32))
 else if a1 = (3 : Int32) then
 ((2 : Int32))
 else if a1 = (4 : Int32) then
 ((2 : Int32))
 else if a1 = (5 : Int32) then
 ((2 : Int32))
 else if a1 = (6 : Int32) then
 ((2 : Int32))
 else if a1 = (7 : Int32) then
 ((2 : Int32))
 else if a1 = (8 : Int32) then
 ((1 : Int32))
 else if a1 = (9 : Int32) then
 ((1 : Int32))
 else if a1 = (10 : Int32) then
 ((1 : Int32))
 else if a1 = (11 : Int32) then
 ((1 : Int32))
 else if a1 = (12 : Int32) then
 ((2 : Int32))
 else if a1 = (13 : Int32) then
 ((2 : Int32))
 else if a1 = (14 : Int32) then
 ((2 : Int32))
 else if a1 = (15 : Int32) then
 ((2 : Int32))
 else if a1 = (16 : Int32) then
 ((0 : Int32))
 else if a1 = (17 : Int32) then
 ((1 : Int32))
 else if a1 = (18 : Int32) then
 ((0 : Int32))
 else if a1 = (19 : Int32) then
 ((0 : Int32))
 else if a1 = (20 : Int32) then
 ((1 : Int32))
 else if a1 = (21 : Int32) then
 ((0 : Int32))
 else if a1 = (22 : Int32) then
 ((0 : Int32))
 else if a1 = (23 : Int32) then
 ((1 : Int32))
 else if a1 = (24 : Int32) then
 ((0 : Int32))
 else if a1 = (25 : Int32) then
 ((1 : Int32))
 else ((0 : Int32))
theorem t_Mo_wants {a1 : Int32} {μ : Mem} {q : Int32} (h : m_Mo_wants a1 μ = q) : JM true (0) y_Mo_wants b_Mo_wants 1 (some (.int)) 0 0 [vi (a1)] μ (QQ (some (vi q)) μ) := by
  unfold m_Mo_wants at h
  refine JM.of pl_Mo_wants (fun ρ => Nat.le_of_ble_eq_true rfl) ?_
  show J (GM true (QQ (some (vi q)) μ) (some (.int)) y_Mo_wants.name) true b_Mo_wants R_12 1 (0) 0 0 0 [(0, vi (a1))] [] μ
  refine J_iload_n (q := 1) 0 d_Mo_wants_0 rfl rfl rfl ?_
  by_cases hk0 : a1 = (1 : Int32)
  · rw [if_pos hk0] at h
    refine J_swIn (tgt := 116) d_Mo_wants_1 (by rw [hk0]; decide) (by rw [hk0]; decide) (by rw [hk0]; rfl) (by decide) ?_
    refine J_iconst (q := 117) (v := (1 : Int32)) d_Mo_wants_116 (by decide) rfl ?_
    subst h
    exact J_iret rfl ⟨rfl, rfl⟩ d_Mo_wants_117
  rw [if_neg hk0] at h
  by_cases hk1 : a1 = (2 : Int32)
  · rw [if_pos hk1] at h
    refine J_swIn (tgt := 116) d_Mo_wants_1 (by rw [hk1]; decide) (by rw [hk1]; decide) (by rw [hk1]; rfl) (by decide) ?_
    refine J_iconst (q := 117) (v := (1 : Int32)) d_Mo_wants_116 (by decide) rfl ?_
    subst h
    exact J_iret rfl ⟨rfl, rfl⟩ d_Mo_wants_117
  rw [if_neg hk1] at h
  by_cases hk2 : a1 = (3 : Int32)
  · rw [if_pos hk2] at h
    refine J_swIn (tgt := 118) d_Mo_wants_1 (by rw [hk2]; decide) (by rw [hk2]; decide) (by rw [hk2]; rfl) (by decide) ?_
    refine J_iconst (q := 119) (v := (2 : Int32)) d_Mo_wants_118 (by decide) rfl ?_
    subst h
    exact J_iret rfl ⟨rfl, rfl⟩ d_Mo_wants_119
  rw [if_neg hk2] at h
  by_cases hk3 : a1 = (4 : Int32)
  · rw [if_pos hk3] at h
    refine J_swIn (tgt := 118) d_Mo_wants_1 (by rw [hk3]; decide) (by rw [hk3]; decide) (by rw [hk3]; rfl) (by decide) ?_
    refine J_iconst (q := 119) (v := (2 : Int32)) d_Mo_wants_118 (by decide) rfl ?_
    subst h
    exact J_iret rfl ⟨rfl, rfl⟩ d_Mo_wants_119
  rw [if_neg hk3] at h
  by_cases hk4 : a1 = (5 : Int32)
  · rw [if_pos hk4] at h
    refine J_swIn (tgt := 118) d_Mo_wants_1 (by rw [hk4]; decide) (by rw [hk4]; decide) (by rw [hk4]; rfl) (by decide) ?_
    refine J_iconst (q := 119) (v := (2 : Int32)) d_Mo_wants_118 (by decide) rfl ?_
    subst h
    exact J_iret rfl ⟨rfl, rfl⟩ d_Mo_wants_119
  rw [if_neg hk4] at h
  by_cases hk5 : a1 = (6 : Int32)
  · rw [if_pos hk5] at h
    refine J_swIn (tgt := 118) d_Mo_wants_1 (by rw [hk5]; decide) (by rw [hk5]; decide) (by rw [hk5]; rfl) (by decide) ?_
    refine J_iconst (q := 119) (v := (2 : Int32)) d_Mo_wants_118 (by decide) rfl ?_
    subst h
    exact J_iret rfl ⟨rfl, rfl⟩ d_Mo_wants_119
  rw [if_neg hk5] at h
  by_cases hk6 : a1 = (7 : Int32)
  · rw [if_pos hk6] at h
    refine J_swIn (tgt := 118) d_Mo_wants_1 (by rw [hk6]; decide) (by rw [hk6]; decide) (by rw [hk6]; rfl) (by decide) ?_
    refine J_iconst (q := 119) (v := (2 : Int32)) d_Mo_wants_118 (by decide) rfl ?_
    subst h
    exact J_iret rfl ⟨rfl, rfl⟩ d_Mo_wants_119
  rw [if_neg hk6] at h
  by_cases hk7 : a1 = (8 : Int32)
  · rw [if_pos hk7] at h
    refine J_swIn (tgt := 116) d_Mo_wants_1 (by rw [hk7]; decide) (by rw [hk7]; decide) (by rw [hk7]; rfl) (by decide) ?_
    refine J_iconst (q := 117) (v := (1 : Int32)) d_Mo_wants_116 (by decide) rfl ?_
    subst h
    exact J_iret rfl ⟨rfl, rfl⟩ d_Mo_wants_117
  rw [if_neg hk7] at h
  by_cases hk8 : a1 = (9 : Int32)
  · rw [if_pos hk8] at h
    refine J_swIn (tgt := 116) d_Mo_wants_1 (by rw [hk8]; decide) (by rw [hk8]; decide) (by rw [hk8]; rfl) (by decide) ?_
    refine J_iconst (q := 117) (v := (1 : Int32)) d_Mo_wants_116 (by decide) rfl ?_
    subst h
    exact J_iret rfl ⟨rfl, rfl⟩ d_Mo_wants_117
  rw [if_neg hk8] at h
  by_cases hk9 : a1 = (10 : Int32)
  · rw [if_pos hk9] at h
    refine J_swIn (tgt := 116) d_Mo_wants_1 (by rw [hk9]; decide) (by rw [hk9]; decide) (by rw [hk9]; rfl) (by decide) ?_
    refine J_iconst (q := 117) (v := (1 : Int32)) d_Mo_wants_116 (by decide) rfl ?_
    subst h
    exact J_iret rfl ⟨rfl, rfl⟩ d_Mo_wants_117
  rw [if_neg hk9] at h
  by_cases hk10 : a1 = (11 : Int32)
  · rw [if_pos hk10] at h
    refine J_swIn (tgt := 116) d_Mo_wants_1 (by rw [hk10]; decide) (by rw [hk10]; decide) (by rw [hk10]; rfl) (by decide) ?_
    refine J_iconst (q := 117) (v := (1 : Int32)) d_Mo_wants_116 (by decide) rfl ?_
    subst h
    exact J_iret rfl ⟨rfl, rfl⟩ d_Mo_wants_117
  rw [if_neg hk10] at h
  by_cases hk11 : a1 = (12 : Int32)
  · rw [if_pos hk11] at h
    refine J_swIn (tgt := 118) d_Mo_wants_1 (by rw [hk11]; decide) (by rw [hk11]; decide) (by rw [hk11]; rfl) (by decide) ?_
    refine J_iconst (q := 119) (v := (2 : Int32)) d_Mo_wants_118 (by decide) rfl ?_
    subst h
    exact J_iret rfl ⟨rfl, rfl⟩ d_Mo_wants_119
  rw [if_neg hk11] at h
  by_cases hk12 : a1 = (13 : Int32)
  · rw [if_pos hk12] at h
    refine J_swIn (tgt := 118) d_Mo_wants_1 (by rw [hk12]; decide) (by rw [hk12]; decide) (by rw [hk12]; rfl) (by decide) ?_
    refine J_iconst (q := 119) (v := (2 : Int32)) d_Mo_wants_118 (by decide) rfl ?_
    subst h
    exact J_iret rfl ⟨rfl, rfl⟩ d_Mo_wants_119
  rw [if_neg hk12] at h
  by_cases hk13 : a1 = (14 : Int32)
  · rw [if_pos hk13] at h
    refine J_swIn (tgt := 118) d_Mo_wants_1 (by rw [hk13]; decide) (by rw [hk13]; decide) (by rw [hk13]; rfl) (by decide) ?_
    refine J_iconst (q := 119) (v := (2 : Int32)) d_Mo_wants_118 (by decide) rfl ?_
    subst h
    exact J_iret rfl ⟨rfl, rfl⟩ d_Mo_wants_119
  rw [if_neg hk13] at h
  by_cases hk14 : a1 = (15 : Int32)
  · rw [if_pos hk14] at h
    refine J_swIn (tgt := 118) d_Mo_wants_1 (by rw [hk14]; decide) (by rw [hk14]; decide) (by rw [hk14]; rfl) (by decide) ?_
    refine J_iconst (q := 119) (v := (2 : Int32)) d_Mo_wants_118 (by decide) rfl ?_
    subst h
    exact J_iret rfl ⟨rfl, rfl⟩ d_Mo_wants_119
  rw [if_neg hk14] at h
  by_cases hk15 : a1 = (16 : Int32)
  · rw [if_pos hk15] at h
    refine J_swIn (tgt := 120) d_Mo_wants_1 (by rw [hk15]; decide) (by rw [hk15]; decide) (by rw [hk15]; rfl) (by decide) ?_
    refine J_iconst (q := 121) (v := (0 : Int32)) d_Mo_wants_120 (by decide) rfl ?_
    subst h
    exact J_iret rfl ⟨rfl, rfl⟩ d_Mo_wants_121
  rw [if_neg hk15] at h
  by_cases hk16 : a1 = (17 : Int32)
  · rw [if_pos hk16] at h
    refine J_swIn (tgt := 116) d_Mo_wants_1 (by rw [hk16]; decide) (by rw [hk16]; decide) (by rw [hk16]; rfl) (by decide) ?_
    refine J_iconst (q := 117) (v := (1 : Int32)) d_Mo_wants_116 (by decide) rfl ?_
    subst h
    exact J_iret rfl ⟨rfl, rfl⟩ d_Mo_wants_117
  rw [if_neg hk16] at h
  by_cases hk17 : a1 = (18 : Int32)
  · rw [if_pos hk17] at h
    refine J_swIn (tgt := 120) d_Mo_wants_1 (by rw [hk17]; decide) (by rw [hk17]; decide) (by rw [hk17]; rfl) (by decide) ?_
    refine J_iconst (q := 121) (v := (0 : Int32)) d_Mo_wants_120 (by decide) rfl ?_
    subst h
    exact J_iret rfl ⟨rfl, rfl⟩ d_Mo_wants_121
  rw [if_neg hk17] at h
  by_cases hk18 : a1 = (19 : Int32)
  · rw [if_pos hk18] at h
    refine J_swIn (tgt := 120) d_Mo_wants_1 (by rw [hk18]; decide) (by rw [hk18]; decide) (by rw [hk18]; rfl) (by decide) ?_
    refine J_iconst (q := 121) (v := (0 : Int32)) d_Mo_wants_120 (by decide) rfl ?_
    subst h
    exact J_iret rfl ⟨rfl, rfl⟩ d_Mo_wants_121
  rw [if_neg hk18] at h
  by_cases hk19 : a1 = (20 : Int32)
  · rw [if_pos hk19] at h
    refine J_swIn (tgt := 116) d_Mo_wants_1 (by rw [hk19]; decide) (by rw [hk19]; decide) (by rw [hk19]; rfl) (by decide) ?_
    refine J_iconst (q := 117) (v := (1 : Int32)) d_Mo_wants_116 (by decide) rfl ?_
    subst h
    exact J_iret rfl ⟨rfl, rfl⟩ d_Mo_wants_117
  rw [if_neg hk19] at h
  by_cases hk20 : a1 = (21 : Int32)
  · rw [if_pos hk20] at h
    refine J_swIn (tgt := 120) d_Mo_wants_1 (by rw [hk20]; decide) (by rw [hk20]; decide) (by rw [hk20]; rfl) (by decide) ?_
    refine J_iconst (q := 121) (v := (0 : Int32)) d_Mo_wants_120 (by decide) rfl ?_
    subst h
    exact J_iret rfl ⟨rfl, rfl⟩ d_Mo_wants_121
  rw [if_neg hk20] at h
  by_cases hk21 : a1 = (22 : Int32)
  · rw [if_pos hk21] at h
    refine J_swIn (tgt := 120) d_Mo_wants_1 (by rw [hk21]; decide) (by rw [hk21]; decide) (by rw [hk21]; rfl) (by decide) ?_
    refine J_iconst (q := 121) (v := (0 : Int32)) d_Mo_wants_120 (by decide) rfl ?_
    subst h
    exact J_iret rfl ⟨rfl, rfl⟩ d_Mo_wants_121
  rw [if_neg hk21] at h
  by_cases hk22 : a1 = (23 : Int32)
  · rw [if_pos hk22] at h
    refine J_swIn (tgt := 116) d_Mo_wants_1 (by rw [hk22]; decide) (by rw [hk22]; decide) (by rw [hk22]; rfl) (by decide) ?_
    refine J_iconst (q := 117) (v := (1 : Int32)) d_Mo_wants_116 (by decide) rfl ?_
    subst h
    exact J_iret rfl ⟨rfl, rfl⟩ d_Mo_wants_117
  rw [if_neg hk22] at h
  by_cases hk23 : a1 = (24 : Int32)
  · rw [if_pos hk23] at h
    refine J_swIn (tgt := 120) d_Mo_wants_1 (by rw [hk23]; decide) (by rw [hk23]; decide) (by rw [hk23]; rfl) (by decide) ?_
    refine J_iconst (q := 121) (v := (0 : Int32)) d_Mo_wants_120 (by decide) rfl ?_
    subst h
    exact J_iret rfl ⟨rfl, rfl⟩ d_Mo_wants_121
  rw [if_neg hk23] at h
  by_cases hk24 : a1 = (25 : Int32)
  · rw [if_pos hk24] at h
    refine J_swIn (tgt := 116) d_Mo_wants_1 (by rw [hk24]; decide) (by rw [hk24]; decide) (by rw [hk24]; rfl) (by decide) ?_
    refine J_iconst (q := 117) (v := (1 : Int32)) d_Mo_wants_116 (by decide) rfl ?_
    subst h
    exact J_iret rfl ⟨rfl, rfl⟩ d_Mo_wants_117
  rw [if_neg hk24] at h
  refine J_swOut (tgt := 120) d_Mo_wants_1 (by have e0 := lv_neT hk0 (a := 1) (by decide); have e1 := lv_neT hk1 (a := 2) (by decide); have e2 := lv_neT hk2 (a := 3) (by decide); have e3 := lv_neT hk3 (a := 4) (by decide); have e4 := lv_neT hk4 (a := 5) (by decide); have e5 := lv_neT hk5 (a := 6) (by decide); have e6 := lv_neT hk6 (a := 7) (by decide); have e7 := lv_neT hk7 (a := 8) (by decide); have e8 := lv_neT hk8 (a := 9) (by decide); have e9 := lv_neT hk9 (a := 10) (by decide); have e10 := lv_neT hk10 (a := 11) (by decide); have e11 := lv_neT hk11 (a := 12) (by decide); have e12 := lv_neT hk12 (a := 13) (by decide); have e13 := lv_neT hk13 (a := 14) (by decide); have e14 := lv_neT hk14 (a := 15) (by decide); have e15 := lv_neT hk15 (a := 16) (by decide); have e16 := lv_neT hk16 (a := 17) (by decide); have e17 := lv_neT hk17 (a := 18) (by decide); have e18 := lv_neT hk18 (a := 19) (by decide); have e19 := lv_neT hk19 (a := 20) (by decide); have e20 := lv_neT hk20 (a := 21) (by decide); have e21 := lv_neT hk21 (a := 22) (by decide); have e22 := lv_neT hk22 (a := 23) (by decide); have e23 := lv_neT hk23 (a := 24) (by decide); have e24 := lv_neT hk24 (a := 25) (by decide); omega) (by decide) ?_
  refine J_iconst (q := 121) (v := (0 : Int32)) d_Mo_wants_120 (by decide) rfl ?_
  subst h
  exact J_iret rfl ⟨rfl, rfl⟩ d_Mo_wants_121
def mj_Mo_faultOf_142 (a1 : Int32) (a2 : Int32) (a3 : Int32) (μ : Mem) : Option (Int32) :=
  some ((7 : Int32))
theorem tj_Mo_faultOf_142 (a1 : Int32) (a2 : Int32) (a3 : Int32) (μ : Mem) {q : Int32}  (h : mj_Mo_faultOf_142 a1 a2 a3 μ  = some q) : J (GM true (QQ (some (vi q)) μ) (some (.int)) y_Mo_faultOf.name) true b_Mo_faultOf R_12 4 (1) 0 0 142 [] [] μ := by
  unfold mj_Mo_faultOf_142 at h
  refine J_bipush (q := 144) (v := (7 : Int32)) d_Mo_faultOf_142 (by decide) rfl ?_
  refine J_goto (q := 148) d_Mo_faultOf_144 (by decide) ?_
  obtain rfl := Option.some.inj h
  exact J_iret rfl ⟨rfl, rfl⟩ d_Mo_faultOf_148
def mj_Mo_faultOf_132 (a1 : Int32) (a2 : Int32) (a3 : Int32) (μ : Mem) : Option (Int32) :=
  if a3 < 0 then
 (mj_Mo_faultOf_142 a1 a2 a3 μ )
 else
 (if a3 ≤ (15 : Int32) then
 (some ((0 : Int32)))
 else
 (mj_Mo_faultOf_142 a1 a2 a3 μ ))
theorem tj_Mo_faultOf_132 (a1 : Int32) (a2 : Int32) (a3 : Int32) (μ : Mem) {q : Int32}  (h : mj_Mo_faultOf_132 a1 a2 a3 μ  = some q) : J (GM true (QQ (some (vi q)) μ) (some (.int)) y_Mo_faultOf.name) true b_Mo_faultOf R_12 4 (1) 0 0 132 [(3, vi (a3))] [] μ := by
  unfold mj_Mo_faultOf_132 at h
  refine J_iload_n (q := 133) 0 d_Mo_faultOf_132 rfl rfl rfl ?_
  refine J_if_lt (q := 136) (tgt := 142) d_Mo_faultOf_133 (by decide) rfl (fun hc => ?_) (fun hc => ?_)
  · rw [if_pos hc] at h
    refine J_pick [] rfl ?_
    exact tj_Mo_faultOf_142 a1 a2 a3 μ h
  · rw [if_neg hc] at h
    refine J_iload_n (q := 137) 0 d_Mo_faultOf_136 rfl rfl rfl ?_
    refine J_bipush (q := 139) (v := (15 : Int32)) d_Mo_faultOf_137 (by decide) rfl ?_
    refine J_icmp_le (q := 142) (tgt := 147) d_Mo_faultOf_139 (by decide) rfl (fun hc => ?_) (fun hc => ?_)
    · rw [if_pos hc] at h
      refine J_iconst (q := 148) (v := (0 : Int32)) d_Mo_faultOf_147 (by decide) rfl ?_
      obtain rfl := Option.some.inj h
      exact J_iret rfl ⟨rfl, rfl⟩ d_Mo_faultOf_148
    · rw [if_neg hc] at h
      refine J_pick [] rfl ?_
      exact tj_Mo_faultOf_142 a1 a2 a3 μ h
def mj_Mo_faultOf_120 (a1 : Int32) (a2 : Int32) (a3 : Int32) (μ : Mem) : Option (Int32) :=
  if a2 = (20 : Int32) then
 (mj_Mo_faultOf_132 a1 a2 a3 μ )
 else
 (if a2 = (21 : Int32) then
 (mj_Mo_faultOf_132 a1 a2 a3 μ )
 else
 (some ((0 : Int32))))
theorem tj_Mo_faultOf_120 (a1 : Int32) (a2 : Int32) (a3 : Int32) (μ : Mem) {q : Int32}  (h : mj_Mo_faultOf_120 a1 a2 a3 μ  = some q) : J (GM true (QQ (some (vi q)) μ) (some (.int)) y_Mo_faultOf.name) true b_Mo_faultOf R_12 4 (1) 0 0 120 [(2, vi (a2)), (3, vi (a3))] [] μ := by
  unfold mj_Mo_faultOf_120 at h
  refine J_iload_n (q := 121) 0 d_Mo_faultOf_120 rfl rfl rfl ?_
  refine J_bipush (q := 123) (v := (20 : Int32)) d_Mo_faultOf_121 (by decide) rfl ?_
  refine J_icmp_eq (q := 126) (tgt := 132) d_Mo_faultOf_123 (by decide) rfl (fun hc => ?_) (fun hc => ?_)
  · rw [if_pos hc] at h
    refine J_pick [1] rfl ?_
    exact tj_Mo_faultOf_132 a1 a2 a3 μ h
  · rw [if_neg hc] at h
    refine J_iload_n (q := 127) 0 d_Mo_faultOf_126 rfl rfl rfl ?_
    refine J_bipush (q := 129) (v := (21 : Int32)) d_Mo_faultOf_127 (by decide) rfl ?_
    refine J_icmp_ne (q := 132) (tgt := 147) d_Mo_faultOf_129 (by decide) rfl (fun hc => ?_) (fun hc => ?_)
    · rw [if_neg hc] at h
      refine J_iconst (q := 148) (v := (0 : Int32)) d_Mo_faultOf_147 (by decide) rfl ?_
      obtain rfl := Option.some.inj h
      exact J_iret rfl ⟨rfl, rfl⟩ d_Mo_faultOf_148
    · rw [if_pos hc] at h
      refine J_pick [1] rfl ?_
      exact tj_Mo_faultOf_132 a1 a2 a3 μ h
def mj_Mo_faultOf_96 (a1 : Int32) (a2 : Int32) (a3 : Int32) (μ : Mem) : Option (Int32) :=
  if a2 = (7 : Int32) then
 (gu ((gI μ 12 (0) 42) - ((1 : Int32))) 33 <|
  if gL μ 381 (0) ((gI μ 12 (0) 42) - ((1 : Int32))).toNatClampNeg = (0 : Int64) then
 (some ((5 : Int32)))
 else
 (mj_Mo_faultOf_120 a1 a2 a3 μ ))
 else
 (mj_Mo_faultOf_120 a1 a2 a3 μ )
theorem tj_Mo_faultOf_96 (a1 : Int32) (a2 : Int32) (a3 : Int32) (μ : Mem) {q : Int32}  (h : mj_Mo_faultOf_96 a1 a2 a3 μ  = some q) : J (GM true (QQ (some (vi q)) μ) (some (.int)) y_Mo_faultOf.name) true b_Mo_faultOf R_12 4 (1) 0 0 96 [(0, vr 12 (0)), (2, vi (a2)), (3, vi (a3))] [] μ := by
  unfold mj_Mo_faultOf_96 at h
  refine J_iload_n (q := 97) 1 d_Mo_faultOf_96 rfl rfl rfl ?_
  refine J_bipush (q := 99) (v := (7 : Int32)) d_Mo_faultOf_97 (by decide) rfl ?_
  refine J_icmp_ne (q := 102) (tgt := 120) d_Mo_faultOf_99 (by decide) rfl (fun hc => ?_) (fun hc => ?_)
  · rw [if_neg hc] at h
    refine J_pick [1, 2] rfl ?_
    exact tj_Mo_faultOf_120 a1 a2 a3 μ h
  · rw [if_pos hc] at h
    refine J_aload_n (q := 103) 0 d_Mo_faultOf_102 rfl rfl rfl ?_
    refine J_getF (q := 106) cd_12 (by decide) ft_12_41 rfl g_1092 rfl d_Mo_faultOf_103 rfl ?_
    refine J_aload_n (q := 107) 0 d_Mo_faultOf_106 rfl rfl rfl ?_
    refine J_getI (q := 110) (j := 42) cd_12 (by decide) (Or.inl rfl) g_1093 rfl d_Mo_faultOf_107 rfl ?_
    refine J_iconst (q := 111) (v := (1 : Int32)) d_Mo_faultOf_110 (by decide) rfl ?_
    refine J_isub (q := 112) d_Mo_faultOf_111 rfl ?_
    obtain ⟨hi1, h⟩ := gu_some h
    refine J_lald (q := 113) rk_381 (by decide) hi1 d_Mo_faultOf_112 rfl ?_
    refine J_lconst (q := 114) (v := (0 : Int64)) d_Mo_faultOf_113 (by decide) rfl ?_
    refine J_lif_ne (q := 118) (tgt := 120) d_Mo_faultOf_114 d_Mo_faultOf_115 (by decide) rfl (fun hc => ?_) (fun hc => ?_)
    · rw [if_neg hc] at h
      refine J_pick [1, 2] rfl ?_
      exact tj_Mo_faultOf_120 a1 a2 a3 μ h
    · rw [if_pos hc] at h
      refine J_iconst (q := 119) (v := (5 : Int32)) d_Mo_faultOf_118 (by decide) rfl ?_
      obtain rfl := Option.some.inj h
      exact J_iret rfl ⟨rfl, rfl⟩ d_Mo_faultOf_119
def mj_Mo_faultOf_79 (a1 : Int32) (a2 : Int32) (a3 : Int32) (μ : Mem) : Option (Int32) :=
  if a2 = (18 : Int32) then
 (if gI μ 12 (0) 45 = (8 : Int32) then
 (some ((4 : Int32)))
 else
 (mj_Mo_faultOf_96 a1 a2 a3 μ ))
 else
 (mj_Mo_faultOf_96 a1 a2 a3 μ )
theorem tj_Mo_faultOf_79 (a1 : Int32) (a2 : Int32) (a3 : Int32) (μ : Mem) {q : Int32}  (h : mj_Mo_faultOf_79 a1 a2 a3 μ  = some q) : J (GM true (QQ (some (vi q)) μ) (some (.int)) y_Mo_faultOf.name) true b_Mo_faultOf R_12 4 (1) 0 0 79 [(0, vr 12 (0)), (2, vi (a2)), (3, vi (a3))] [] μ := by
  unfold mj_Mo_faultOf_79 at h
  refine J_iload_n (q := 80) 1 d_Mo_faultOf_79 rfl rfl rfl ?_
  refine J_bipush (q := 82) (v := (18 : Int32)) d_Mo_faultOf_80 (by decide) rfl ?_
  refine J_icmp_ne (q := 85) (tgt := 96) d_Mo_faultOf_82 (by decide) rfl (fun hc => ?_) (fun hc => ?_)
  · rw [if_neg hc] at h
    refine J_pick [0, 1, 2] rfl ?_
    exact tj_Mo_faultOf_96 a1 a2 a3 μ h
  · rw [if_pos hc] at h
    refine J_aload_n (q := 86) 0 d_Mo_faultOf_85 rfl rfl rfl ?_
    refine J_getI (q := 89) (j := 45) cd_12 (by decide) (Or.inl rfl) g_1096 rfl d_Mo_faultOf_86 rfl ?_
    refine J_bipush (q := 91) (v := (8 : Int32)) d_Mo_faultOf_89 (by decide) rfl ?_
    refine J_icmp_ne (q := 94) (tgt := 96) d_Mo_faultOf_91 (by decide) rfl (fun hc => ?_) (fun hc => ?_)
    · rw [if_neg hc] at h
      refine J_pick [0, 1, 2] rfl ?_
      exact tj_Mo_faultOf_96 a1 a2 a3 μ h
    · rw [if_pos hc] at h
      refine J_iconst (q := 95) (v := (4 : Int32)) d_Mo_faultOf_94 (by decide) rfl ?_
      obtain rfl := Option.some.inj h
      exact J_iret rfl ⟨rfl, rfl⟩ d_Mo_faultOf_95
def mj_Mo_faultOf_51 (a1 : Int32) (a2 : Int32) (a3 : Int32) (μ : Mem) : Option (Int32) :=
  if a2 < (16 : Int32) then
 (mj_Mo_faultOf_79 a1 a2 a3 μ )
 else
 (if (18 : Int32) < a2 then
 (mj_Mo_faultOf_79 a1 a2 a3 μ )
 else
 (if a3 < 0 then
 (some ((3 : Int32)))
 else
 (gu (a1) 32 <|
  if a3 ≤ gI μ 357 (0) a1.toNatClampNeg then
 (mj_Mo_faultOf_79 a1 a2 a3 μ )
 else
 (some ((3 : Int32))))))
theorem tj_Mo_faultOf_51 (a1 : Int32) (a2 : Int32) (a3 : Int32) (μ : Mem) {q : Int32}  (h : mj_Mo_faultOf_51 a1 a2 a3 μ  = some q) : J (GM true (QQ (some (vi q)) μ) (some (.int)) y_Mo_faultOf.name) true b_Mo_faultOf R_12 4 (1) 0 0 51 [(0, vr 12 (0)), (1, vi (a1)), (2, vi (a2)), (3, vi (a3))] [] μ := by
  unfold mj_Mo_faultOf_51 at h
  refine J_iload_n (q := 52) 2 d_Mo_faultOf_51 rfl rfl rfl ?_
  refine J_bipush (q := 54) (v := (16 : Int32)) d_Mo_faultOf_52 (by decide) rfl ?_
  refine J_icmp_lt (q := 57) (tgt := 79) d_Mo_faultOf_54 (by decide) rfl (fun hc => ?_) (fun hc => ?_)
  · rw [if_pos hc] at h
    refine J_pick [0, 2, 3] rfl ?_
    exact tj_Mo_faultOf_79 a1 a2 a3 μ h
  · rw [if_neg hc] at h
    refine J_iload_n (q := 58) 2 d_Mo_faultOf_57 rfl rfl rfl ?_
    refine J_bipush (q := 60) (v := (18 : Int32)) d_Mo_faultOf_58 (by decide) rfl ?_
    refine J_icmp_gt (q := 63) (tgt := 79) d_Mo_faultOf_60 (by decide) rfl (fun hc => ?_) (fun hc => ?_)
    · rw [if_pos hc] at h
      refine J_pick [0, 2, 3] rfl ?_
      exact tj_Mo_faultOf_79 a1 a2 a3 μ h
    · rw [if_neg hc] at h
      refine J_iload_n (q := 64) 3 d_Mo_faultOf_63 rfl rfl rfl ?_
      refine J_if_lt (q := 67) (tgt := 77) d_Mo_faultOf_64 (by decide) rfl (fun hc => ?_) (fun hc => ?_)
      · rw [if_pos hc] at h
        refine J_iconst (q := 78) (v := (3 : Int32)) d_Mo_faultOf_77 (by decide) rfl ?_
        obtain rfl := Option.some.inj h
        exact J_iret rfl ⟨rfl, rfl⟩ d_Mo_faultOf_78
      · rw [if_neg hc] at h
        refine J_iload_n (q := 68) 3 d_Mo_faultOf_67 rfl rfl rfl ?_
        refine J_aload_n (q := 69) 0 d_Mo_faultOf_68 rfl rfl rfl ?_
        refine J_getF (q := 72) cd_12 (by decide) ft_12_17 rfl g_1068 rfl d_Mo_faultOf_69 rfl ?_
        refine J_iload_n (q := 73) 1 d_Mo_faultOf_72 rfl rfl rfl ?_
        obtain ⟨hi2, h⟩ := gu_some h
        refine J_iald (q := 74) rk_357 (by decide) hi2 d_Mo_faultOf_73 rfl ?_
        refine J_icmp_le (q := 77) (tgt := 79) d_Mo_faultOf_74 (by decide) rfl (fun hc => ?_) (fun hc => ?_)
        · rw [if_pos hc] at h
          refine J_pick [0, 2, 3] rfl ?_
          exact tj_Mo_faultOf_79 a1 a2 a3 μ h
        · rw [if_neg hc] at h
          refine J_iconst (q := 78) (v := (3 : Int32)) d_Mo_faultOf_77 (by decide) rfl ?_
          obtain rfl := Option.some.inj h
          exact J_iret rfl ⟨rfl, rfl⟩ d_Mo_faultOf_78
def mj_Mo_faultOf_29 (a1 : Int32) (a2 : Int32) (a3 : Int32) (μ : Mem) : Option (Int32) :=
  if (m_Mo_onPoint (a2) μ) then
 (if a3 < 0 then
 (some ((2 : Int32)))
 else
 (Option.bind (m_Mo_closed (a1) μ) fun r3 =>
  if a3 < r3 then
 (mj_Mo_faultOf_51 a1 a2 a3 μ )
 else
 (some ((2 : Int32)))))
 else
 (mj_Mo_faultOf_51 a1 a2 a3 μ )
theorem tj_Mo_faultOf_29 (a1 : Int32) (a2 : Int32) (a3 : Int32) (μ : Mem) {q : Int32}  (h : mj_Mo_faultOf_29 a1 a2 a3 μ  = some q) : J (GM true (QQ (some (vi q)) μ) (some (.int)) y_Mo_faultOf.name) true b_Mo_faultOf R_12 4 (1) 0 0 29 [(0, vr 12 (0)), (1, vi (a1)), (2, vi (a2)), (3, vi (a3))] [] μ := by
  unfold mj_Mo_faultOf_29 at h
  refine J_iload_n (q := 30) 2 d_Mo_faultOf_29 rfl rfl rfl ?_
  refine J_callSq (rc := 0) (rs := 0) (q := 33) (as := [vi (a2)]) (st := []) g_1487 (t_Mo_onPoint rfl) (by decide) (by decide) g_1486 g_1488 g_10 hy_Mo_onPoint rfl (Nat.le_of_ble_eq_true rfl) d_Mo_faultOf_30 rfl ?_
  refine J_ifB_eq (q := 36) (tgt := 51) d_Mo_faultOf_33 (by decide) rfl (fun hb => ?_) (fun hb => ?_)
  · rw [iB_f hb] at h
    refine J_pick [0, 1, 2, 3] rfl ?_
    exact tj_Mo_faultOf_51 a1 a2 a3 μ h
  · rw [iB_t hb] at h
    refine J_iload_n (q := 37) 3 d_Mo_faultOf_36 rfl rfl rfl ?_
    refine J_if_lt (q := 40) (tgt := 49) d_Mo_faultOf_37 (by decide) rfl (fun hc => ?_) (fun hc => ?_)
    · rw [if_pos hc] at h
      refine J_iconst (q := 50) (v := (2 : Int32)) d_Mo_faultOf_49 (by decide) rfl ?_
      obtain rfl := Option.some.inj h
      exact J_iret rfl ⟨rfl, rfl⟩ d_Mo_faultOf_50
    · rw [if_neg hc] at h
      refine J_iload_n (q := 41) 3 d_Mo_faultOf_40 rfl rfl rfl ?_
      refine J_aload_n (q := 42) 0 d_Mo_faultOf_41 rfl rfl rfl ?_
      refine J_iload_n (q := 43) 1 d_Mo_faultOf_42 rfl rfl rfl ?_
      obtain ⟨r3, hr3, h⟩ := bd_some h
      refine J_callVq (rc := 0) (rs := 0) (q := 46) (as := [vi (a1)]) (st := [vi (a3)]) (by decide) rfl g_1298 sel_Mo_closed (t_Mo_closed hr3) (by decide) (by decide) g_1296 g_1299 g_10 hy_Mo_closed rfl (Nat.le_of_ble_eq_true rfl) d_Mo_faultOf_43 rfl ?_
      refine J_icmp_lt (q := 49) (tgt := 51) d_Mo_faultOf_46 (by decide) rfl (fun hc => ?_) (fun hc => ?_)
      · rw [if_pos hc] at h
        refine J_pick [0, 1, 2, 3] rfl ?_
        exact tj_Mo_faultOf_51 a1 a2 a3 μ h
      · rw [if_neg hc] at h
        refine J_iconst (q := 50) (v := (2 : Int32)) d_Mo_faultOf_49 (by decide) rfl ?_
        obtain rfl := Option.some.inj h
        exact J_iret rfl ⟨rfl, rfl⟩ d_Mo_faultOf_50
def m_Mo_faultOf (a1 : Int32) (a2 : Int32) (a3 : Int32) (μ : Mem) : Option (Int32) :=
  if gI μ 12 (0) 42 < (m_Mo_wants (a2) μ) then
 (some ((1 : Int32)))
 else
 (if (m_Mo_pushes (a2) μ) then
 (if gI μ 12 (0) 42 = (32 : Int32) then
 (some ((1 : Int32)))
 else
 (mj_Mo_faultOf_29 a1 a2 a3 μ ))
 else
 (mj_Mo_faultOf_29 a1 a2 a3 μ ))
theorem t_Mo_faultOf {a1 : Int32} {a2 : Int32} {a3 : Int32} {μ : Mem} {q : Int32} (h : m_Mo_faultOf a1 a2 a3 μ = some q) : JM true (1) y_Mo_faultOf b_Mo_faultOf 4 (some (.int)) 0 0 [vr 12 (0), vi (a1), vi (a2), vi (a3)] μ (QQ (some (vi q)) μ) := by
  unfold m_Mo_faultOf at h
  refine JM.of pl_Mo_faultOf (fun ρ => Nat.le_of_ble_eq_true rfl) ?_
  show J (GM true (QQ (some (vi q)) μ) (some (.int)) y_Mo_faultOf.name) true b_Mo_faultOf R_12 4 (1) 0 0 0 [(0, vr 12 (0)), (1, vi (a1)), (2, vi (a2)), (3, vi (a3))] [] μ
  refine J_aload_n (q := 1) 0 d_Mo_faultOf_0 rfl rfl rfl ?_
  refine J_getI (q := 4) (j := 42) cd_12 (by decide) (Or.inl rfl) g_1093 rfl d_Mo_faultOf_1 rfl ?_
  refine J_iload_n (q := 5) 2 d_Mo_faultOf_4 rfl rfl rfl ?_
  refine J_callSq (rc := 0) (rs := 0) (q := 8) (as := [vi (a2)]) (st := [vi (gI μ 12 (0) 42)]) g_1481 (t_Mo_wants rfl) (by decide) (by decide) g_1480 g_1482 g_10 hy_Mo_wants rfl (Nat.le_of_ble_eq_true rfl) d_Mo_faultOf_5 rfl ?_
  refine J_icmp_lt (q := 11) (tgt := 27) d_Mo_faultOf_8 (by decide) rfl (fun hc => ?_) (fun hc => ?_)
  · rw [if_pos hc] at h
    refine J_iconst (q := 28) (v := (1 : Int32)) d_Mo_faultOf_27 (by decide) rfl ?_
    obtain rfl := Option.some.inj h
    exact J_iret rfl ⟨rfl, rfl⟩ d_Mo_faultOf_28
  · rw [if_neg hc] at h
    refine J_iload_n (q := 12) 2 d_Mo_faultOf_11 rfl rfl rfl ?_
    refine J_callSq (rc := 0) (rs := 0) (q := 15) (as := [vi (a2)]) (st := []) g_1484 (t_Mo_pushes rfl) (by decide) (by decide) g_1483 g_1485 g_10 hy_Mo_pushes rfl (Nat.le_of_ble_eq_true rfl) d_Mo_faultOf_12 rfl ?_
    refine J_ifB_eq (q := 18) (tgt := 29) d_Mo_faultOf_15 (by decide) rfl (fun hb => ?_) (fun hb => ?_)
    · rw [iB_f hb] at h
      refine J_pick [0, 1, 2, 3] rfl ?_
      exact tj_Mo_faultOf_29 a1 a2 a3 μ h
    · rw [iB_t hb] at h
      refine J_aload_n (q := 19) 0 d_Mo_faultOf_18 rfl rfl rfl ?_
      refine J_getI (q := 22) (j := 42) cd_12 (by decide) (Or.inl rfl) g_1093 rfl d_Mo_faultOf_19 rfl ?_
      refine J_bipush (q := 24) (v := (32 : Int32)) d_Mo_faultOf_22 (by decide) rfl ?_
      refine J_icmp_ne (q := 27) (tgt := 29) d_Mo_faultOf_24 (by decide) rfl (fun hc => ?_) (fun hc => ?_)
      · rw [if_neg hc] at h
        refine J_pick [0, 1, 2, 3] rfl ?_
        exact tj_Mo_faultOf_29 a1 a2 a3 μ h
      · rw [if_pos hc] at h
        refine J_iconst (q := 28) (v := (1 : Int32)) d_Mo_faultOf_27 (by decide) rfl ?_
        obtain rfl := Option.some.inj h
        exact J_iret rfl ⟨rfl, rfl⟩ d_Mo_faultOf_28
def mj_Mo_fitted_88 (a1 : Int64) (a2 : Int64) (a3 : Int64) (a4 : Int64) (a5 : Int64) (μ : Mem) : Option (Int64) :=
  some ((a1 + a3) - (a2))
theorem tj_Mo_fitted_88 (a1 : Int64) (a2 : Int64) (a3 : Int64) (a4 : Int64) (a5 : Int64) (μ : Mem) {q : Int64}  (h : mj_Mo_fitted_88 a1 a2 a3 a4 a5 μ  = some q) : J (GM true (QQ (some (vl q)) μ) (some (.long)) y_Mo_fitted.name) true b_Mo_fitted R_12 15 (1) 0 0 88 [(0, vl (a1)), (2, vl (a2)), (4, vl (a3))] [] μ := by
  unfold mj_Mo_fitted_88 at h
  refine J_lload_n (q := 89) 0 d_Mo_fitted_88 rfl rfl rfl ?_
  refine J_lload (q := 91) 2 d_Mo_fitted_89 rfl rfl ?_
  refine J_ladd (q := 92) d_Mo_fitted_91 rfl ?_
  refine J_lload_n (q := 93) 1 d_Mo_fitted_92 rfl rfl rfl ?_
  refine J_lsub (q := 94) d_Mo_fitted_93 rfl ?_
  refine J_goto (q := 104) d_Mo_fitted_94 (by decide) ?_
  obtain rfl := Option.some.inj h
  exact J_lret rfl ⟨rfl, rfl⟩ d_Mo_fitted_104
def mj_Mo_fitted_38 (a1 : Int64) (a2 : Int64) (a3 : Int64) (a4 : Int64) (a5 : Int64) (μ : Mem) (y10 : Int32) (y11 : Int64) (z0 : Int64) : Option (Int64) :=
  if y11 < a1 then
 (if a1 < z0 then
 (Option.bind (m_Mo_rounded ((a1 - a2) * (a5 - a3)) (a4 - a2) μ) fun r1 =>
  some (a3 + r1))
 else
 (if y10 = 0 then
 (mj_Mo_fitted_88 a1 a2 a3 a4 a5 μ )
 else
 (if a2 = a4 then
 (mj_Mo_fitted_88 a1 a2 a3 a4 a5 μ )
 else
 (some ((a1 + a5) - (a4))))))
 else
 (if y10 = 0 then
 (some ((a1 + a5) - (a4)))
 else
 (some ((a1 + a3) - (a2))))
theorem tj_Mo_fitted_38 (a1 : Int64) (a2 : Int64) (a3 : Int64) (a4 : Int64) (a5 : Int64) (μ : Mem) {q : Int64}  (y10 : Int32) (y11 : Int64) (z0 : Int64) (h : mj_Mo_fitted_38 a1 a2 a3 a4 a5 μ y10 y11 z0 = some q) : J (GM true (QQ (some (vl q)) μ) (some (.long)) y_Mo_fitted.name) true b_Mo_fitted R_12 15 (1) 0 0 38 [(0, vl (a1)), (2, vl (a2)), (4, vl (a3)), (6, vl (a4)), (8, vl (a5)), (10, vi (y10)), (11, vl (y11))] [vl (z0)] μ := by
  unfold mj_Mo_fitted_38 at h
  refine J_lstore (q := 40) (lv' := [(13, vl (z0)), (0, vl (a1)), (2, vl (a2)), (4, vl (a3)), (6, vl (a4)), (8, vl (a5)), (10, vi (y10)), (11, vl (y11))]) d_Mo_fitted_38 (by decide) rfl rfl ?_
  refine J_lload_n (q := 41) 1 d_Mo_fitted_40 rfl rfl rfl ?_
  refine J_lload (q := 43) 7 d_Mo_fitted_41 rfl rfl ?_
  refine J_lif_gt (q := 47) (tgt := 69) d_Mo_fitted_43 d_Mo_fitted_44 (by decide) rfl (fun hc => ?_) (fun hc => ?_)
  · rw [if_pos hc] at h
    refine J_lload_n (q := 70) 1 d_Mo_fitted_69 rfl rfl rfl ?_
    refine J_lload (q := 72) 0 d_Mo_fitted_70 rfl rfl ?_
    refine J_lif_lt (q := 76) (tgt := 105) d_Mo_fitted_72 d_Mo_fitted_73 (by decide) rfl (fun hc => ?_) (fun hc => ?_)
    · rw [if_pos hc] at h
      refine J_lload (q := 107) 3 d_Mo_fitted_105 rfl rfl ?_
      refine J_lload_n (q := 108) 1 d_Mo_fitted_107 rfl rfl rfl ?_
      refine J_lload_n (q := 109) 2 d_Mo_fitted_108 rfl rfl rfl ?_
      refine J_lsub (q := 110) d_Mo_fitted_109 rfl ?_
      refine J_lload (q := 112) 5 d_Mo_fitted_110 rfl rfl ?_
      refine J_lload (q := 114) 3 d_Mo_fitted_112 rfl rfl ?_
      refine J_lsub (q := 115) d_Mo_fitted_114 rfl ?_
      refine J_lmul (q := 116) d_Mo_fitted_115 rfl ?_
      refine J_lload (q := 118) 4 d_Mo_fitted_116 rfl rfl ?_
      refine J_lload_n (q := 119) 2 d_Mo_fitted_118 rfl rfl rfl ?_
      refine J_lsub (q := 120) d_Mo_fitted_119 rfl ?_
      obtain ⟨r1, hr1, h⟩ := bd_some h
      refine J_callSq (rc := 0) (rs := 0) (q := 123) (as := [vl ((a1 - a2) * (a5 - a3)), vl (a4 - a2)]) (st := [vl (a3)]) g_1370 (t_Mo_rounded hr1) (by decide) (by decide) g_1369 g_1371 g_10 hy_Mo_rounded rfl (Nat.le_of_ble_eq_true rfl) d_Mo_fitted_120 rfl ?_
      refine J_ladd (q := 124) d_Mo_fitted_123 rfl ?_
      obtain rfl := Option.some.inj h
      exact J_lret rfl ⟨rfl, rfl⟩ d_Mo_fitted_124
    · rw [if_neg hc] at h
      refine J_iload (q := 78) 6 d_Mo_fitted_76 rfl rfl ?_
      refine J_if_eq (q := 81) (tgt := 88) d_Mo_fitted_78 (by decide) rfl (fun hc => ?_) (fun hc => ?_)
      · rw [if_pos hc] at h
        refine J_pick [1, 2, 3] rfl ?_
        exact tj_Mo_fitted_88 a1 a2 a3 a4 a5 μ h
      · rw [if_neg hc] at h
        refine J_lload_n (q := 82) 2 d_Mo_fitted_81 rfl rfl rfl ?_
        refine J_lload (q := 84) 4 d_Mo_fitted_82 rfl rfl ?_
        refine J_lif_ne (q := 88) (tgt := 97) d_Mo_fitted_84 d_Mo_fitted_85 (by decide) rfl (fun hc => ?_) (fun hc => ?_)
        · rw [if_neg hc] at h
          refine J_lload_n (q := 98) 1 d_Mo_fitted_97 rfl rfl rfl ?_
          refine J_lload (q := 100) 5 d_Mo_fitted_98 rfl rfl ?_
          refine J_ladd (q := 101) d_Mo_fitted_100 rfl ?_
          refine J_lload (q := 103) 4 d_Mo_fitted_101 rfl rfl ?_
          refine J_lsub (q := 104) d_Mo_fitted_103 rfl ?_
          obtain rfl := Option.some.inj h
          exact J_lret rfl ⟨rfl, rfl⟩ d_Mo_fitted_104
        · rw [if_pos hc] at h
          refine J_pick [1, 2, 3] rfl ?_
          exact tj_Mo_fitted_88 a1 a2 a3 a4 a5 μ h
  · rw [if_neg hc] at h
    refine J_iload (q := 49) 6 d_Mo_fitted_47 rfl rfl ?_
    refine J_if_eq (q := 52) (tgt := 61) d_Mo_fitted_49 (by decide) rfl (fun hc => ?_) (fun hc => ?_)
    · rw [if_pos hc] at h
      refine J_lload_n (q := 62) 1 d_Mo_fitted_61 rfl rfl rfl ?_
      refine J_lload (q := 64) 5 d_Mo_fitted_62 rfl rfl ?_
      refine J_ladd (q := 65) d_Mo_fitted_64 rfl ?_
      refine J_lload (q := 67) 4 d_Mo_fitted_65 rfl rfl ?_
      refine J_lsub (q := 68) d_Mo_fitted_67 rfl ?_
      obtain rfl := Option.some.inj h
      exact J_lret rfl ⟨rfl, rfl⟩ d_Mo_fitted_68
    · rw [if_neg hc] at h
      refine J_lload_n (q := 53) 1 d_Mo_fitted_52 rfl rfl rfl ?_
      refine J_lload (q := 55) 3 d_Mo_fitted_53 rfl rfl ?_
      refine J_ladd (q := 56) d_Mo_fitted_55 rfl ?_
      refine J_lload_n (q := 57) 2 d_Mo_fitted_56 rfl rfl rfl ?_
      refine J_lsub (q := 58) d_Mo_fitted_57 rfl ?_
      refine J_goto (q := 68) d_Mo_fitted_58 (by decide) ?_
      obtain rfl := Option.some.inj h
      exact J_lret rfl ⟨rfl, rfl⟩ d_Mo_fitted_68
def mj_Mo_fitted_25 (a1 : Int64) (a2 : Int64) (a3 : Int64) (a4 : Int64) (a5 : Int64) (μ : Mem) (y10 : Int32) (z0 : Int64) : Option (Int64) :=
  if y10 = 0 then
 (mj_Mo_fitted_38 a1 a2 a3 a4 a5 μ (y10) (z0) (a2))
 else
 (mj_Mo_fitted_38 a1 a2 a3 a4 a5 μ (y10) (z0) (a4))
theorem tj_Mo_fitted_25 (a1 : Int64) (a2 : Int64) (a3 : Int64) (a4 : Int64) (a5 : Int64) (μ : Mem) {q : Int64}  (y10 : Int32) (z0 : Int64) (h : mj_Mo_fitted_25 a1 a2 a3 a4 a5 μ y10 z0 = some q) : J (GM true (QQ (some (vl q)) μ) (some (.long)) y_Mo_fitted.name) true b_Mo_fitted R_12 15 (1) 0 0 25 [(0, vl (a1)), (2, vl (a2)), (4, vl (a3)), (6, vl (a4)), (8, vl (a5)), (10, vi (y10))] [vl (z0)] μ := by
  unfold mj_Mo_fitted_25 at h
  refine J_lstore (q := 27) (lv' := [(11, vl (z0)), (0, vl (a1)), (2, vl (a2)), (4, vl (a3)), (6, vl (a4)), (8, vl (a5)), (10, vi (y10))]) d_Mo_fitted_25 (by decide) rfl rfl ?_
  refine J_iload (q := 29) 6 d_Mo_fitted_27 rfl rfl ?_
  refine J_if_eq (q := 32) (tgt := 37) d_Mo_fitted_29 (by decide) rfl (fun hc => ?_) (fun hc => ?_)
  · rw [if_pos hc] at h
    refine J_lload_n (q := 38) 2 d_Mo_fitted_37 rfl rfl rfl ?_
    refine J_pick [1, 2, 3, 4, 5, 6, 0] rfl ?_
    exact tj_Mo_fitted_38 a1 a2 a3 a4 a5 μ _ _ _ h
  · rw [if_neg hc] at h
    refine J_lload (q := 34) 4 d_Mo_fitted_32 rfl rfl ?_
    refine J_goto (q := 38) d_Mo_fitted_34 (by decide) ?_
    refine J_pick [1, 2, 3, 4, 5, 6, 0] rfl ?_
    exact tj_Mo_fitted_38 a1 a2 a3 a4 a5 μ _ _ _ h
def mj_Mo_fitted_12 (a1 : Int64) (a2 : Int64) (a3 : Int64) (a4 : Int64) (a5 : Int64) (μ : Mem) (z0 : Int32) : Option (Int64) :=
  if z0 = 0 then
 (mj_Mo_fitted_25 a1 a2 a3 a4 a5 μ (z0) (a4))
 else
 (mj_Mo_fitted_25 a1 a2 a3 a4 a5 μ (z0) (a2))
theorem tj_Mo_fitted_12 (a1 : Int64) (a2 : Int64) (a3 : Int64) (a4 : Int64) (a5 : Int64) (μ : Mem) {q : Int64}  (z0 : Int32) (h : mj_Mo_fitted_12 a1 a2 a3 a4 a5 μ z0 = some q) : J (GM true (QQ (some (vl q)) μ) (some (.long)) y_Mo_fitted.name) true b_Mo_fitted R_12 15 (1) 0 0 12 [(0, vl (a1)), (2, vl (a2)), (4, vl (a3)), (6, vl (a4)), (8, vl (a5))] [vi (z0)] μ := by
  unfold mj_Mo_fitted_12 at h
  refine J_istore (q := 14) (lv' := [(10, vi (z0)), (0, vl (a1)), (2, vl (a2)), (4, vl (a3)), (6, vl (a4)), (8, vl (a5))]) d_Mo_fitted_12 (by decide) rfl rfl ?_
  refine J_iload (q := 16) 0 d_Mo_fitted_14 rfl rfl ?_
  refine J_if_eq (q := 19) (tgt := 23) d_Mo_fitted_16 (by decide) rfl (fun hc => ?_) (fun hc => ?_)
  · rw [if_pos hc] at h
    refine J_lload (q := 25) 4 d_Mo_fitted_23 rfl rfl ?_
    refine J_pick [1, 2, 3, 4, 5, 0] rfl ?_
    exact tj_Mo_fitted_25 a1 a2 a3 a4 a5 μ _ _ h
  · rw [if_neg hc] at h
    refine J_lload_n (q := 20) 2 d_Mo_fitted_19 rfl rfl rfl ?_
    refine J_goto (q := 25) d_Mo_fitted_20 (by decide) ?_
    refine J_pick [1, 2, 3, 4, 5, 0] rfl ?_
    exact tj_Mo_fitted_25 a1 a2 a3 a4 a5 μ _ _ h
def m_Mo_fitted (a1 : Int64) (a2 : Int64) (a3 : Int64) (a4 : Int64) (a5 : Int64) (μ : Mem) : Option (Int64) :=
  if a4 < a2 then
 (mj_Mo_fitted_12 a1 a2 a3 a4 a5 μ ((0 : Int32)))
 else
 (mj_Mo_fitted_12 a1 a2 a3 a4 a5 μ ((1 : Int32)))
theorem t_Mo_fitted {a1 : Int64} {a2 : Int64} {a3 : Int64} {a4 : Int64} {a5 : Int64} {μ : Mem} {q : Int64} (h : m_Mo_fitted a1 a2 a3 a4 a5 μ = some q) : JM true (1) y_Mo_fitted b_Mo_fitted 15 (some (.long)) 0 0 [vl (a1), vl (a2), vl (a3), vl (a4), vl (a5)] μ (QQ (some (vl q)) μ) := by
  unfold m_Mo_fitted at h
  refine JM.of pl_Mo_fitted (fun ρ => Nat.le_of_ble_eq_true rfl) ?_
  show J (GM true (QQ (some (vl q)) μ) (some (.long)) y_Mo_fitted.name) true b_Mo_fitted R_12 15 (1) 0 0 0 [(0, vl (a1)), (2, vl (a2)), (4, vl (a3)), (6, vl (a4)), (8, vl (a5))] [] μ
  refine J_lload_n (q := 1) 1 d_Mo_fitted_0 rfl rfl rfl ?_
  refine J_lload (q := 3) 3 d_Mo_fitted_1 rfl rfl ?_
  refine J_lif_gt (q := 7) (tgt := 11) d_Mo_fitted_3 d_Mo_fitted_4 (by decide) rfl (fun hc => ?_) (fun hc => ?_)
  · rw [if_pos hc] at h
    refine J_iconst (q := 12) (v := (0 : Int32)) d_Mo_fitted_11 (by decide) rfl ?_
    refine J_pick [0, 1, 2, 3, 4] rfl ?_
    exact tj_Mo_fitted_12 a1 a2 a3 a4 a5 μ _ h
  · rw [if_neg hc] at h
    refine J_iconst (q := 8) (v := (1 : Int32)) d_Mo_fitted_7 (by decide) rfl ?_
    refine J_goto (q := 12) d_Mo_fitted_8 (by decide) ?_
    refine J_pick [0, 1, 2, 3, 4] rfl ?_
    exact tj_Mo_fitted_12 a1 a2 a3 a4 a5 μ _ h
