def mj_Mo_adds_111 (a1 : Int64) (a2 : Int64) (μ : Mem) : Option (Mem) :=
  gu (gI μ 12 (0) 22) 500 <|
  ap (sI μ 364 (0) (gI μ 12 (0) 22).toNatClampNeg ((a1).toInt32)) fun μ4 =>
  gu (gI μ4 12 (0) 22) 500 <|
  ap (sI μ4 365 (0) (gI μ4 12 (0) 22).toNatClampNeg ((a2).toInt32)) fun μ6 =>
  gu (gI μ6 12 (0) 22) 500 <|
  ap (sI μ6 366 (0) (gI μ6 12 (0) 22).toNatClampNeg (gI μ6 12 (0) 23)) fun μ8 =>
  ap (sI μ8 12 (0) 22 ((gI μ8 12 (0) 22) + ((1 : Int32)))) fun μ9 =>
  some μ9
theorem tj_Mo_adds_111 (a1 : Int64) (a2 : Int64) {q : Mem}  (μ : Mem) (h : mj_Mo_adds_111 a1 a2  μ = some q) : J (GM true (QQ none q) none y_Mo_adds.name) true b_Mo_adds R_12 5 (0) 0 0 111 [(0, vr 12 (0)), (1, vl (a1)), (3, vl (a2))] [] μ := by
  unfold mj_Mo_adds_111 at h
  refine J_aload_n (q := 112) 0 d_Mo_adds_111 rfl rfl rfl ?_
  refine J_getF (q := 115) cd_12 (by decide) ft_12_24 rfl g_1075 rfl d_Mo_adds_112 rfl ?_
  refine J_aload_n (q := 116) 0 d_Mo_adds_115 rfl rfl rfl ?_
  refine J_getI (q := 119) (j := 22) cd_12 (by decide) (Or.inl rfl) g_1073 rfl d_Mo_adds_116 rfl ?_
  refine J_lload_n (q := 120) 1 d_Mo_adds_119 rfl rfl rfl ?_
  refine J_l2i (q := 121) d_Mo_adds_120 rfl ?_
  obtain ⟨hi3, h⟩ := gu_some h
  refine J_iast (q := 122) rk_364 (by decide) hi3 d_Mo_adds_121 rfl ?_
  obtain ⟨μ4, hμ4, h⟩ := ap_eq h
  refine J_nmM hμ4 ?_
  refine J_aload_n (q := 123) 0 d_Mo_adds_122 rfl rfl rfl ?_
  refine J_getF (q := 126) cd_12 (by decide) ft_12_25 rfl g_1076 rfl d_Mo_adds_123 rfl ?_
  refine J_aload_n (q := 127) 0 d_Mo_adds_126 rfl rfl rfl ?_
  refine J_getI (q := 130) (j := 22) cd_12 (by decide) (Or.inl rfl) g_1073 rfl d_Mo_adds_127 rfl ?_
  refine J_lload_n (q := 131) 2 d_Mo_adds_130 rfl rfl rfl ?_
  refine J_l2i (q := 132) d_Mo_adds_131 rfl ?_
  obtain ⟨hi5, h⟩ := gu_some h
  refine J_iast (q := 133) rk_365 (by decide) hi5 d_Mo_adds_132 rfl ?_
  obtain ⟨μ6, hμ6, h⟩ := ap_eq h
  refine J_nmM hμ6 ?_
  refine J_aload_n (q := 134) 0 d_Mo_adds_133 rfl rfl rfl ?_
  refine J_getF (q := 137) cd_12 (by decide) ft_12_26 rfl g_1077 rfl d_Mo_adds_134 rfl ?_
  refine J_aload_n (q := 138) 0 d_Mo_adds_137 rfl rfl rfl ?_
  refine J_getI (q := 141) (j := 22) cd_12 (by decide) (Or.inl rfl) g_1073 rfl d_Mo_adds_138 rfl ?_
  refine J_aload_n (q := 142) 0 d_Mo_adds_141 rfl rfl rfl ?_
  refine J_getI (q := 145) (j := 23) cd_12 (by decide) (Or.inl rfl) g_1074 rfl d_Mo_adds_142 rfl ?_
  obtain ⟨hi7, h⟩ := gu_some h
  refine J_iast (q := 146) rk_366 (by decide) hi7 d_Mo_adds_145 rfl ?_
  obtain ⟨μ8, hμ8, h⟩ := ap_eq h
  refine J_nmM hμ8 ?_
  refine J_aload_n (q := 147) 0 d_Mo_adds_146 rfl rfl rfl ?_
  refine J_dupR (q := 148) d_Mo_adds_147 rfl ?_
  refine J_getI (q := 151) (j := 22) cd_12 (by decide) (Or.inl rfl) g_1073 rfl d_Mo_adds_148 rfl ?_
  refine J_iconst (q := 152) (v := (1 : Int32)) d_Mo_adds_151 (by decide) rfl ?_
  refine J_iadd (q := 153) d_Mo_adds_152 rfl ?_
  refine J_putI (q := 156) (j := 22) cd_12 (by decide) rfl rfl rfl g_1073 rfl d_Mo_adds_153 rfl ?_
  obtain ⟨μ9, hμ9, h⟩ := ap_eq h
  refine J_nmM hμ9 ?_
  obtain rfl := Option.some.inj h
  exact J_vret rfl ⟨rfl, rfl⟩ d_Mo_adds_156
def mj_Mo_adds_57 (a1 : Int64) (a2 : Int64) (μ : Mem) : Option (Mem) :=
  if gI μ 12 (0) 32 = 0 then
 (some μ)
 else
 (if gI μ 12 (0) 22 ≤ gI μ 12 (0) 38 then
 (mj_Mo_adds_111 a1 a2 μ)
 else
 (gu ((gI μ 12 (0) 22) - ((1 : Int32))) 500 <|
  if (gI μ 364 (0) ((gI μ 12 (0) 22) - ((1 : Int32))).toNatClampNeg).toInt64 = a1 then
 (gu ((gI μ 12 (0) 22) - ((1 : Int32))) 500 <|
  if (gI μ 365 (0) ((gI μ 12 (0) 22) - ((1 : Int32))).toNatClampNeg).toInt64 = a2 then
 (some μ)
 else
 (mj_Mo_adds_111 a1 a2 μ))
 else
 (mj_Mo_adds_111 a1 a2 μ)))
theorem tj_Mo_adds_57 (a1 : Int64) (a2 : Int64) {q : Mem}  (μ : Mem) (h : mj_Mo_adds_57 a1 a2  μ = some q) : J (GM true (QQ none q) none y_Mo_adds.name) true b_Mo_adds R_12 5 (0) 0 0 57 [(0, vr 12 (0)), (1, vl (a1)), (3, vl (a2))] [] μ := by
  unfold mj_Mo_adds_57 at h
  refine J_aload_n (q := 58) 0 d_Mo_adds_57 rfl rfl rfl ?_
  refine J_getI (q := 61) (j := 32) cd_12 (by decide) (Or.inr rfl) g_1083 rfl d_Mo_adds_58 rfl ?_
  refine J_if_ne (q := 64) (tgt := 65) d_Mo_adds_61 (by decide) rfl (fun hc => ?_) (fun hc => ?_)
  · rw [if_neg hc] at h
    refine J_aload_n (q := 66) 0 d_Mo_adds_65 rfl rfl rfl ?_
    refine J_getI (q := 69) (j := 22) cd_12 (by decide) (Or.inl rfl) g_1073 rfl d_Mo_adds_66 rfl ?_
    refine J_aload_n (q := 70) 0 d_Mo_adds_69 rfl rfl rfl ?_
    refine J_getI (q := 73) (j := 38) cd_12 (by decide) (Or.inl rfl) g_1089 rfl d_Mo_adds_70 rfl ?_
    refine J_icmp_le (q := 76) (tgt := 111) d_Mo_adds_73 (by decide) rfl (fun hc => ?_) (fun hc => ?_)
    · rw [if_pos hc] at h
      refine J_pick [0, 1, 2] rfl ?_
      exact tj_Mo_adds_111 a1 a2 _ h
    · rw [if_neg hc] at h
      refine J_aload_n (q := 77) 0 d_Mo_adds_76 rfl rfl rfl ?_
      refine J_getF (q := 80) cd_12 (by decide) ft_12_24 rfl g_1075 rfl d_Mo_adds_77 rfl ?_
      refine J_aload_n (q := 81) 0 d_Mo_adds_80 rfl rfl rfl ?_
      refine J_getI (q := 84) (j := 22) cd_12 (by decide) (Or.inl rfl) g_1073 rfl d_Mo_adds_81 rfl ?_
      refine J_iconst (q := 85) (v := (1 : Int32)) d_Mo_adds_84 (by decide) rfl ?_
      refine J_isub (q := 86) d_Mo_adds_85 rfl ?_
      obtain ⟨hi10, h⟩ := gu_some h
      refine J_iald (q := 87) rk_364 (by decide) hi10 d_Mo_adds_86 rfl ?_
      refine J_i2l (q := 88) d_Mo_adds_87 rfl ?_
      refine J_lload_n (q := 89) 1 d_Mo_adds_88 rfl rfl rfl ?_
      refine J_lif_ne (q := 93) (tgt := 111) d_Mo_adds_89 d_Mo_adds_90 (by decide) rfl (fun hc => ?_) (fun hc => ?_)
      · rw [if_neg hc] at h
        refine J_pick [0, 1, 2] rfl ?_
        exact tj_Mo_adds_111 a1 a2 _ h
      · rw [if_pos hc] at h
        refine J_aload_n (q := 94) 0 d_Mo_adds_93 rfl rfl rfl ?_
        refine J_getF (q := 97) cd_12 (by decide) ft_12_25 rfl g_1076 rfl d_Mo_adds_94 rfl ?_
        refine J_aload_n (q := 98) 0 d_Mo_adds_97 rfl rfl rfl ?_
        refine J_getI (q := 101) (j := 22) cd_12 (by decide) (Or.inl rfl) g_1073 rfl d_Mo_adds_98 rfl ?_
        refine J_iconst (q := 102) (v := (1 : Int32)) d_Mo_adds_101 (by decide) rfl ?_
        refine J_isub (q := 103) d_Mo_adds_102 rfl ?_
        obtain ⟨hi11, h⟩ := gu_some h
        refine J_iald (q := 104) rk_365 (by decide) hi11 d_Mo_adds_103 rfl ?_
        refine J_i2l (q := 105) d_Mo_adds_104 rfl ?_
        refine J_lload_n (q := 106) 2 d_Mo_adds_105 rfl rfl rfl ?_
        refine J_lif_ne (q := 110) (tgt := 111) d_Mo_adds_106 d_Mo_adds_107 (by decide) rfl (fun hc => ?_) (fun hc => ?_)
        · rw [if_neg hc] at h
          refine J_pick [0, 1, 2] rfl ?_
          exact tj_Mo_adds_111 a1 a2 _ h
        · rw [if_pos hc] at h
          obtain rfl := Option.some.inj h
          exact J_vret rfl ⟨rfl, rfl⟩ d_Mo_adds_110
  · rw [if_pos hc] at h
    obtain rfl := Option.some.inj h
    exact J_vret rfl ⟨rfl, rfl⟩ d_Mo_adds_64
def mj_Mo_adds_52 (a1 : Int64) (a2 : Int64) (μ : Mem) : Option (Mem) :=
  ap (sI μ 12 (0) 32 ((0 : Int32))) fun μ2 =>
  mj_Mo_adds_57 a1 a2 μ2
theorem tj_Mo_adds_52 (a1 : Int64) (a2 : Int64) {q : Mem}  (μ : Mem) (h : mj_Mo_adds_52 a1 a2  μ = some q) : J (GM true (QQ none q) none y_Mo_adds.name) true b_Mo_adds R_12 5 (0) 0 0 52 [(0, vr 12 (0)), (1, vl (a1)), (3, vl (a2))] [] μ := by
  unfold mj_Mo_adds_52 at h
  refine J_aload_n (q := 53) 0 d_Mo_adds_52 rfl rfl rfl ?_
  refine J_iconst (q := 54) (v := (0 : Int32)) d_Mo_adds_53 (by decide) rfl ?_
  refine J_putZ (q := 57) (j := 32) cd_12 (by decide) rfl rfl (Or.inl rfl) rfl g_1083 rfl d_Mo_adds_54 rfl ?_
  obtain ⟨μ2, hμ2, h⟩ := ap_eq h
  refine J_nmM hμ2 ?_
  refine J_pick [0, 1, 2] rfl ?_
  exact tj_Mo_adds_57 a1 a2 _ h
def m_Mo_adds (a1 : Int64) (a2 : Int64) (μ : Mem) : Option (Mem) :=
  ap (sI μ 12 (0) 31 ((gI μ 12 (0) 31) + ((1 : Int32)))) fun μ1 =>
  if (500 : Int32) < gI μ1 12 (0) 31 then
 (mj_Mo_adds_52 a1 a2 μ1)
 else
 (if a1 < (-100000 : Int64) then
 (mj_Mo_adds_52 a1 a2 μ1)
 else
 (if (100000 : Int64) < a1 then
 (mj_Mo_adds_52 a1 a2 μ1)
 else
 (if a2 < (-100000 : Int64) then
 (mj_Mo_adds_52 a1 a2 μ1)
 else
 (if a2 ≤ (100000 : Int64) then
 (mj_Mo_adds_57 a1 a2 μ1)
 else
 (mj_Mo_adds_52 a1 a2 μ1)))))
theorem t_Mo_adds {a1 : Int64} {a2 : Int64} {μ : Mem} {q : Mem} (h : m_Mo_adds a1 a2 μ = some q) : JM true (0) y_Mo_adds b_Mo_adds 5 none 0 0 [vr 12 (0), vl (a1), vl (a2)] μ (QQ none q) := by
  unfold m_Mo_adds at h
  refine JM.of pl_Mo_adds (fun ρ => Nat.le_of_ble_eq_true rfl) ?_
  show J (GM true (QQ none q) none y_Mo_adds.name) true b_Mo_adds R_12 5 (0) 0 0 0 [(0, vr 12 (0)), (1, vl (a1)), (3, vl (a2))] [] μ
  refine J_aload_n (q := 1) 0 d_Mo_adds_0 rfl rfl rfl ?_
  refine J_dupR (q := 2) d_Mo_adds_1 rfl ?_
  refine J_getI (q := 5) (j := 31) cd_12 (by decide) (Or.inl rfl) g_1082 rfl d_Mo_adds_2 rfl ?_
  refine J_iconst (q := 6) (v := (1 : Int32)) d_Mo_adds_5 (by decide) rfl ?_
  refine J_iadd (q := 7) d_Mo_adds_6 rfl ?_
  refine J_putI (q := 10) (j := 31) cd_12 (by decide) rfl rfl rfl g_1082 rfl d_Mo_adds_7 rfl ?_
  obtain ⟨μ1, hμ1, h⟩ := ap_eq h
  refine J_nmM hμ1 ?_
  refine J_aload_n (q := 11) 0 d_Mo_adds_10 rfl rfl rfl ?_
  refine J_getI (q := 14) (j := 31) cd_12 (by decide) (Or.inl rfl) g_1082 rfl d_Mo_adds_11 rfl ?_
  refine J_sipush (q := 17) (v := (500 : Int32)) d_Mo_adds_14 (by decide) rfl ?_
  refine J_icmp_gt (q := 20) (tgt := 52) d_Mo_adds_17 (by decide) rfl (fun hc => ?_) (fun hc => ?_)
  · rw [if_pos hc] at h
    refine J_pick [0, 1, 2] rfl ?_
    exact tj_Mo_adds_52 a1 a2 _ h
  · rw [if_neg hc] at h
    refine J_lload_n (q := 21) 1 d_Mo_adds_20 rfl rfl rfl ?_
    refine J_ldc2 (q := 24) d_Mo_adds_21 g_1377 rfl ?_
    refine J_lif_lt (q := 28) (tgt := 52) d_Mo_adds_24 d_Mo_adds_25 (by decide) rfl (fun hc => ?_) (fun hc => ?_)
    · rw [if_pos hc] at h
      refine J_pick [0, 1, 2] rfl ?_
      exact tj_Mo_adds_52 a1 a2 _ h
    · rw [if_neg hc] at h
      refine J_lload_n (q := 29) 1 d_Mo_adds_28 rfl rfl rfl ?_
      refine J_ldc2 (q := 32) d_Mo_adds_29 g_1378 rfl ?_
      refine J_lif_gt (q := 36) (tgt := 52) d_Mo_adds_32 d_Mo_adds_33 (by decide) rfl (fun hc => ?_) (fun hc => ?_)
      · rw [if_pos hc] at h
        refine J_pick [0, 1, 2] rfl ?_
        exact tj_Mo_adds_52 a1 a2 _ h
      · rw [if_neg hc] at h
        refine J_lload_n (q := 37) 2 d_Mo_adds_36 rfl rfl rfl ?_
        refine J_ldc2 (q := 40) d_Mo_adds_37 g_1377 rfl ?_
        refine J_lif_lt (q := 44) (tgt := 52) d_Mo_adds_40 d_Mo_adds_41 (by decide) rfl (fun hc => ?_) (fun hc => ?_)
        · rw [if_pos hc] at h
          refine J_pick [0, 1, 2] rfl ?_
          exact tj_Mo_adds_52 a1 a2 _ h
        · rw [if_neg hc] at h
          refine J_lload_n (q := 45) 2 d_Mo_adds_44 rfl rfl rfl ?_
          refine J_ldc2 (q := 48) d_Mo_adds_45 g_1378 rfl ?_
          refine J_lif_le (q := 52) (tgt := 57) d_Mo_adds_48 d_Mo_adds_49 (by decide) rfl (fun hc => ?_) (fun hc => ?_)
          · rw [if_pos hc] at h
            refine J_pick [0, 1, 2] rfl ?_
            exact tj_Mo_adds_57 a1 a2 _ h
          · rw [if_neg hc] at h
            refine J_pick [0, 1, 2] rfl ?_
            exact tj_Mo_adds_52 a1 a2 _ h
def mj_Mo_halves_356 (a1 : Int32) (c_56 : Int32 → Int32 → Int32 → Mem → Option (Mem)) (y2 : Int32) (y3 : Int32) (y4 : Int32) (μ : Mem) : Option (Mem) :=
  ap (y4 + (1 : Int32)) fun x35 =>
  c_56 (y2) (y3) (x35) μ
theorem tj_Mo_halves_356 (a1 : Int32) {q : Mem} {c_56 : Int32 → Int32 → Int32 → Mem → Option (Mem)} (hc_56 : ∀ (y2 : Int32) (y3 : Int32) (y4 : Int32) (μ : Mem), c_56 y2 y3 y4 μ = some q → J (GM true (QQ none q) none y_Mo_halves.name) true b_Mo_halves R_12 25 (0) 0 0 56 [(0, vr 12 (0)), (1, vi (a1)), (2, vi (y2)), (3, vi (y3)), (4, vi (y4))] [] μ) (y2 : Int32) (y3 : Int32) (y4 : Int32) (μ : Mem) (h : mj_Mo_halves_356 a1 c_56 y2 y3 y4 μ = some q) : J (GM true (QQ none q) none y_Mo_halves.name) true b_Mo_halves R_12 25 (0) 0 0 356 [(0, vr 12 (0)), (1, vi (a1)), (2, vi (y2)), (3, vi (y3)), (4, vi (y4))] [] μ := by
  unfold mj_Mo_halves_356 at h
  obtain ⟨x35, hx35, h⟩ := ap_eq h
  refine J_iinc (q := 359) (v := x35) (lv' := [(4, vi (x35)), (0, vr 12 (0)), (1, vi (a1)), (2, vi (y2)), (3, vi (y3))]) 4 d_Mo_halves_356 rfl (by rw [hx35]; rfl) (by decide) rfl rfl ?_
  refine J_goto (q := 56) d_Mo_halves_359 (by decide) ?_
  refine J_pick [1, 2, 3, 4, 0] rfl ?_
  exact hc_56 _ _ _ _ h
def mj_Mo_halves_120 (a1 : Int32) (c_56 : Int32 → Int32 → Int32 → Mem → Option (Mem)) (y2 : Int32) (y3 : Int32) (y4 : Int32) (y5 : Int64) (y7 : Int64) (y9 : Int64) (z0 : Int64) (μ : Mem) : Option (Mem) :=
  ap ((y5 + y7) / (2 : Int64)) fun x15 =>
  ap ((y7 + y9) / (2 : Int64)) fun x16 =>
  if a1 = (3 : Int32) then
 (ap ((x15 + x16) / (2 : Int64)) fun x36 =>
  gu (y3 + y4) 128 <|
  ap (sL μ 375 (0) (y3 + y4).toNatClampNeg (y5)) fun μ38 =>
  gu ((y3 + (2 : Int32)) + (y4)) 128 <|
  ap (sL μ38 375 (0) ((y3 + (2 : Int32)) + (y4)).toNatClampNeg (x15)) fun μ40 =>
  gu ((y3 + (4 : Int32)) + (y4)) 128 <|
  ap (sL μ40 375 (0) ((y3 + (4 : Int32)) + (y4)).toNatClampNeg (x36)) fun μ42 =>
  gu (y2 + y4) 128 <|
  ap (sL μ42 375 (0) (y2 + y4).toNatClampNeg (x36)) fun μ44 =>
  gu ((y2 + (2 : Int32)) + (y4)) 128 <|
  ap (sL μ44 375 (0) ((y2 + (2 : Int32)) + (y4)).toNatClampNeg (x16)) fun μ46 =>
  mj_Mo_halves_356 a1 c_56 (y2) (y3) (y4) μ46)
 else
 (ap ((y9 + z0) / (2 : Int64)) fun x17 =>
  ap ((x15 + x16) / (2 : Int64)) fun x18 =>
  ap ((x16 + x17) / (2 : Int64)) fun x19 =>
  ap ((x18 + x19) / (2 : Int64)) fun x20 =>
  gu (y3 + y4) 128 <|
  ap (sL μ 375 (0) (y3 + y4).toNatClampNeg (y5)) fun μ22 =>
  gu ((y3 + (2 : Int32)) + (y4)) 128 <|
  ap (sL μ22 375 (0) ((y3 + (2 : Int32)) + (y4)).toNatClampNeg (x15)) fun μ24 =>
  gu ((y3 + (4 : Int32)) + (y4)) 128 <|
  ap (sL μ24 375 (0) ((y3 + (4 : Int32)) + (y4)).toNatClampNeg (x18)) fun μ26 =>
  gu ((y3 + (6 : Int32)) + (y4)) 128 <|
  ap (sL μ26 375 (0) ((y3 + (6 : Int32)) + (y4)).toNatClampNeg (x20)) fun μ28 =>
  gu (y2 + y4) 128 <|
  ap (sL μ28 375 (0) (y2 + y4).toNatClampNeg (x20)) fun μ30 =>
  gu ((y2 + (2 : Int32)) + (y4)) 128 <|
  ap (sL μ30 375 (0) ((y2 + (2 : Int32)) + (y4)).toNatClampNeg (x19)) fun μ32 =>
  gu ((y2 + (4 : Int32)) + (y4)) 128 <|
  ap (sL μ32 375 (0) ((y2 + (4 : Int32)) + (y4)).toNatClampNeg (x17)) fun μ34 =>
  mj_Mo_halves_356 a1 c_56 (y2) (y3) (y4) μ34)
theorem tj_Mo_halves_120 (a1 : Int32) {q : Mem} {c_56 : Int32 → Int32 → Int32 → Mem → Option (Mem)} (hc_56 : ∀ (y2 : Int32) (y3 : Int32) (y4 : Int32) (μ : Mem), c_56 y2 y3 y4 μ = some q → J (GM true (QQ none q) none y_Mo_halves.name) true b_Mo_halves R_12 25 (0) 0 0 56 [(0, vr 12 (0)), (1, vi (a1)), (2, vi (y2)), (3, vi (y3)), (4, vi (y4))] [] μ) (y2 : Int32) (y3 : Int32) (y4 : Int32) (y5 : Int64) (y7 : Int64) (y9 : Int64) (z0 : Int64) (μ : Mem) (h : mj_Mo_halves_120 a1 c_56 y2 y3 y4 y5 y7 y9 z0 μ = some q) : J (GM true (QQ none q) none y_Mo_halves.name) true b_Mo_halves R_12 25 (0) 0 0 120 [(0, vr 12 (0)), (1, vi (a1)), (2, vi (y2)), (3, vi (y3)), (4, vi (y4)), (5, vl (y5)), (7, vl (y7)), (9, vl (y9))] [vl (z0)] μ := by
  unfold mj_Mo_halves_120 at h
  refine J_lstore (q := 122) (lv' := [(11, vl (z0)), (0, vr 12 (0)), (1, vi (a1)), (2, vi (y2)), (3, vi (y3)), (4, vi (y4)), (5, vl (y5)), (7, vl (y7)), (9, vl (y9))]) d_Mo_halves_120 (by decide) rfl rfl ?_
  refine J_lload (q := 124) 6 d_Mo_halves_122 rfl rfl ?_
  refine J_lload (q := 126) 7 d_Mo_halves_124 rfl rfl ?_
  refine J_ladd (q := 127) d_Mo_halves_126 rfl ?_
  refine J_ldc2 (q := 130) d_Mo_halves_127 g_1372 rfl ?_
  refine J_ldiv (q := 131) d_Mo_halves_130 (by decide) rfl ?_
  obtain ⟨x15, hx15, h⟩ := ap_eq h
  refine J_nmL hx15 ?_
  refine J_lstore (q := 133) (lv' := [(13, vl (x15)), (11, vl (z0)), (0, vr 12 (0)), (1, vi (a1)), (2, vi (y2)), (3, vi (y3)), (4, vi (y4)), (5, vl (y5)), (7, vl (y7)), (9, vl (y9))]) d_Mo_halves_131 (by decide) rfl rfl ?_
  refine J_lload (q := 135) 8 d_Mo_halves_133 rfl rfl ?_
  refine J_lload (q := 137) 9 d_Mo_halves_135 rfl rfl ?_
  refine J_ladd (q := 138) d_Mo_halves_137 rfl ?_
  refine J_ldc2 (q := 141) d_Mo_halves_138 g_1372 rfl ?_
  refine J_ldiv (q := 142) d_Mo_halves_141 (by decide) rfl ?_
  obtain ⟨x16, hx16, h⟩ := ap_eq h
  refine J_nmL hx16 ?_
  refine J_lstore (q := 144) (lv' := [(15, vl (x16)), (13, vl (x15)), (11, vl (z0)), (0, vr 12 (0)), (1, vi (a1)), (2, vi (y2)), (3, vi (y3)), (4, vi (y4)), (5, vl (y5)), (7, vl (y7)), (9, vl (y9))]) d_Mo_halves_142 (by decide) rfl rfl ?_
  refine J_iload_n (q := 145) 4 d_Mo_halves_144 rfl rfl rfl ?_
  refine J_iconst (q := 146) (v := (3 : Int32)) d_Mo_halves_145 (by decide) rfl ?_
  refine J_icmp_ne (q := 149) (tgt := 224) d_Mo_halves_146 (by decide) rfl (fun hc => ?_) (fun hc => ?_)
  · rw [if_neg hc] at h
    refine J_lload (q := 226) 10 d_Mo_halves_224 rfl rfl ?_
    refine J_lload (q := 228) 2 d_Mo_halves_226 rfl rfl ?_
    refine J_ladd (q := 229) d_Mo_halves_228 rfl ?_
    refine J_ldc2 (q := 232) d_Mo_halves_229 g_1372 rfl ?_
    refine J_ldiv (q := 233) d_Mo_halves_232 (by decide) rfl ?_
    obtain ⟨x17, hx17, h⟩ := ap_eq h
    refine J_nmL hx17 ?_
    refine J_lstore (q := 235) (lv' := [(17, vl (x17)), (15, vl (x16)), (13, vl (x15)), (11, vl (z0)), (0, vr 12 (0)), (1, vi (a1)), (2, vi (y2)), (3, vi (y3)), (4, vi (y4)), (5, vl (y5)), (7, vl (y7)), (9, vl (y9))]) d_Mo_halves_233 (by decide) rfl rfl ?_
    refine J_lload (q := 237) 2 d_Mo_halves_235 rfl rfl ?_
    refine J_lload (q := 239) 1 d_Mo_halves_237 rfl rfl ?_
    refine J_ladd (q := 240) d_Mo_halves_239 rfl ?_
    refine J_ldc2 (q := 243) d_Mo_halves_240 g_1372 rfl ?_
    refine J_ldiv (q := 244) d_Mo_halves_243 (by decide) rfl ?_
    obtain ⟨x18, hx18, h⟩ := ap_eq h
    refine J_nmL hx18 ?_
    refine J_lstore (q := 246) (lv' := [(19, vl (x18)), (17, vl (x17)), (15, vl (x16)), (13, vl (x15)), (11, vl (z0)), (0, vr 12 (0)), (1, vi (a1)), (2, vi (y2)), (3, vi (y3)), (4, vi (y4)), (5, vl (y5)), (7, vl (y7)), (9, vl (y9))]) d_Mo_halves_244 (by decide) rfl rfl ?_
    refine J_lload (q := 248) 2 d_Mo_halves_246 rfl rfl ?_
    refine J_lload (q := 250) 1 d_Mo_halves_248 rfl rfl ?_
    refine J_ladd (q := 251) d_Mo_halves_250 rfl ?_
    refine J_ldc2 (q := 254) d_Mo_halves_251 g_1372 rfl ?_
    refine J_ldiv (q := 255) d_Mo_halves_254 (by decide) rfl ?_
    obtain ⟨x19, hx19, h⟩ := ap_eq h
    refine J_nmL hx19 ?_
    refine J_lstore (q := 257) (lv' := [(21, vl (x19)), (19, vl (x18)), (17, vl (x17)), (15, vl (x16)), (13, vl (x15)), (11, vl (z0)), (0, vr 12 (0)), (1, vi (a1)), (2, vi (y2)), (3, vi (y3)), (4, vi (y4)), (5, vl (y5)), (7, vl (y7)), (9, vl (y9))]) d_Mo_halves_255 (by decide) rfl rfl ?_
    refine J_lload (q := 259) 1 d_Mo_halves_257 rfl rfl ?_
    refine J_lload (q := 261) 0 d_Mo_halves_259 rfl rfl ?_
    refine J_ladd (q := 262) d_Mo_halves_261 rfl ?_
    refine J_ldc2 (q := 265) d_Mo_halves_262 g_1372 rfl ?_
    refine J_ldiv (q := 266) d_Mo_halves_265 (by decide) rfl ?_
    obtain ⟨x20, hx20, h⟩ := ap_eq h
    refine J_nmL hx20 ?_
    refine J_lstore (q := 268) (lv' := [(23, vl (x20)), (21, vl (x19)), (19, vl (x18)), (17, vl (x17)), (15, vl (x16)), (13, vl (x15)), (11, vl (z0)), (0, vr 12 (0)), (1, vi (a1)), (2, vi (y2)), (3, vi (y3)), (4, vi (y4)), (5, vl (y5)), (7, vl (y7)), (9, vl (y9))]) d_Mo_halves_266 (by decide) rfl rfl ?_
    refine J_aload_n (q := 269) 7 d_Mo_halves_268 rfl rfl rfl ?_
    refine J_getF (q := 272) cd_12 (by decide) ft_12_35 rfl g_1086 rfl d_Mo_halves_269 rfl ?_
    refine J_iload_n (q := 273) 10 d_Mo_halves_272 rfl rfl rfl ?_
    refine J_iload (q := 275) 11 d_Mo_halves_273 rfl rfl ?_
    refine J_iadd (q := 276) d_Mo_halves_275 rfl ?_
    refine J_lload (q := 278) 12 d_Mo_halves_276 rfl rfl ?_
    obtain ⟨hi21, h⟩ := gu_some h
    refine J_last (q := 279) rk_375 (by decide) hi21 d_Mo_halves_278 rfl ?_
    obtain ⟨μ22, hμ22, h⟩ := ap_eq h
    refine J_nmM hμ22 ?_
    refine J_aload_n (q := 280) 7 d_Mo_halves_279 rfl rfl rfl ?_
    refine J_getF (q := 283) cd_12 (by decide) ft_12_35 rfl g_1086 rfl d_Mo_halves_280 rfl ?_
    refine J_iload_n (q := 284) 10 d_Mo_halves_283 rfl rfl rfl ?_
    refine J_iconst (q := 285) (v := (2 : Int32)) d_Mo_halves_284 (by decide) rfl ?_
    refine J_iadd (q := 286) d_Mo_halves_285 rfl ?_
    refine J_iload (q := 288) 11 d_Mo_halves_286 rfl rfl ?_
    refine J_iadd (q := 289) d_Mo_halves_288 rfl ?_
    refine J_lload (q := 291) 5 d_Mo_halves_289 rfl rfl ?_
    obtain ⟨hi23, h⟩ := gu_some h
    refine J_last (q := 292) rk_375 (by decide) hi23 d_Mo_halves_291 rfl ?_
    obtain ⟨μ24, hμ24, h⟩ := ap_eq h
    refine J_nmM hμ24 ?_
    refine J_aload_n (q := 293) 7 d_Mo_halves_292 rfl rfl rfl ?_
    refine J_getF (q := 296) cd_12 (by decide) ft_12_35 rfl g_1086 rfl d_Mo_halves_293 rfl ?_
    refine J_iload_n (q := 297) 10 d_Mo_halves_296 rfl rfl rfl ?_
    refine J_iconst (q := 298) (v := (4 : Int32)) d_Mo_halves_297 (by decide) rfl ?_
    refine J_iadd (q := 299) d_Mo_halves_298 rfl ?_
    refine J_iload (q := 301) 11 d_Mo_halves_299 rfl rfl ?_
    refine J_iadd (q := 302) d_Mo_halves_301 rfl ?_
    refine J_lload (q := 304) 2 d_Mo_halves_302 rfl rfl ?_
    obtain ⟨hi25, h⟩ := gu_some h
    refine J_last (q := 305) rk_375 (by decide) hi25 d_Mo_halves_304 rfl ?_
    obtain ⟨μ26, hμ26, h⟩ := ap_eq h
    refine J_nmM hμ26 ?_
    refine J_aload_n (q := 306) 7 d_Mo_halves_305 rfl rfl rfl ?_
    refine J_getF (q := 309) cd_12 (by decide) ft_12_35 rfl g_1086 rfl d_Mo_halves_306 rfl ?_
    refine J_iload_n (q := 310) 10 d_Mo_halves_309 rfl rfl rfl ?_
    refine J_bipush (q := 312) (v := (6 : Int32)) d_Mo_halves_310 (by decide) rfl ?_
    refine J_iadd (q := 313) d_Mo_halves_312 rfl ?_
    refine J_iload (q := 315) 11 d_Mo_halves_313 rfl rfl ?_
    refine J_iadd (q := 316) d_Mo_halves_315 rfl ?_
    refine J_lload (q := 318) 0 d_Mo_halves_316 rfl rfl ?_
    obtain ⟨hi27, h⟩ := gu_some h
    refine J_last (q := 319) rk_375 (by decide) hi27 d_Mo_halves_318 rfl ?_
    obtain ⟨μ28, hμ28, h⟩ := ap_eq h
    refine J_nmM hμ28 ?_
    refine J_aload_n (q := 320) 7 d_Mo_halves_319 rfl rfl rfl ?_
    refine J_getF (q := 323) cd_12 (by decide) ft_12_35 rfl g_1086 rfl d_Mo_halves_320 rfl ?_
    refine J_iload_n (q := 324) 9 d_Mo_halves_323 rfl rfl rfl ?_
    refine J_iload (q := 326) 11 d_Mo_halves_324 rfl rfl ?_
    refine J_iadd (q := 327) d_Mo_halves_326 rfl ?_
    refine J_lload (q := 329) 0 d_Mo_halves_327 rfl rfl ?_
    obtain ⟨hi29, h⟩ := gu_some h
    refine J_last (q := 330) rk_375 (by decide) hi29 d_Mo_halves_329 rfl ?_
    obtain ⟨μ30, hμ30, h⟩ := ap_eq h
    refine J_nmM hμ30 ?_
    refine J_aload_n (q := 331) 7 d_Mo_halves_330 rfl rfl rfl ?_
    refine J_getF (q := 334) cd_12 (by decide) ft_12_35 rfl g_1086 rfl d_Mo_halves_331 rfl ?_
    refine J_iload_n (q := 335) 9 d_Mo_halves_334 rfl rfl rfl ?_
    refine J_iconst (q := 336) (v := (2 : Int32)) d_Mo_halves_335 (by decide) rfl ?_
    refine J_iadd (q := 337) d_Mo_halves_336 rfl ?_
    refine J_iload (q := 339) 11 d_Mo_halves_337 rfl rfl ?_
    refine J_iadd (q := 340) d_Mo_halves_339 rfl ?_
    refine J_lload (q := 342) 1 d_Mo_halves_340 rfl rfl ?_
    obtain ⟨hi31, h⟩ := gu_some h
    refine J_last (q := 343) rk_375 (by decide) hi31 d_Mo_halves_342 rfl ?_
    obtain ⟨μ32, hμ32, h⟩ := ap_eq h
    refine J_nmM hμ32 ?_
    refine J_aload_n (q := 344) 7 d_Mo_halves_343 rfl rfl rfl ?_
    refine J_getF (q := 347) cd_12 (by decide) ft_12_35 rfl g_1086 rfl d_Mo_halves_344 rfl ?_
    refine J_iload_n (q := 348) 9 d_Mo_halves_347 rfl rfl rfl ?_
    refine J_iconst (q := 349) (v := (4 : Int32)) d_Mo_halves_348 (by decide) rfl ?_
    refine J_iadd (q := 350) d_Mo_halves_349 rfl ?_
    refine J_iload (q := 352) 11 d_Mo_halves_350 rfl rfl ?_
    refine J_iadd (q := 353) d_Mo_halves_352 rfl ?_
    refine J_lload (q := 355) 3 d_Mo_halves_353 rfl rfl ?_
    obtain ⟨hi33, h⟩ := gu_some h
    refine J_last (q := 356) rk_375 (by decide) hi33 d_Mo_halves_355 rfl ?_
    obtain ⟨μ34, hμ34, h⟩ := ap_eq h
    refine J_nmM hμ34 ?_
    refine J_pick [7, 8, 9, 10, 11] rfl ?_
    exact tj_Mo_halves_356 a1 hc_56 _ _ _ _ h
  · rw [if_pos hc] at h
    refine J_lload (q := 151) 1 d_Mo_halves_149 rfl rfl ?_
    refine J_lload (q := 153) 0 d_Mo_halves_151 rfl rfl ?_
    refine J_ladd (q := 154) d_Mo_halves_153 rfl ?_
    refine J_ldc2 (q := 157) d_Mo_halves_154 g_1372 rfl ?_
    refine J_ldiv (q := 158) d_Mo_halves_157 (by decide) rfl ?_
    obtain ⟨x36, hx36, h⟩ := ap_eq h
    refine J_nmL hx36 ?_
    refine J_lstore (q := 160) (lv' := [(17, vl (x36)), (15, vl (x16)), (13, vl (x15)), (11, vl (z0)), (0, vr 12 (0)), (1, vi (a1)), (2, vi (y2)), (3, vi (y3)), (4, vi (y4)), (5, vl (y5)), (7, vl (y7)), (9, vl (y9))]) d_Mo_halves_158 (by decide) rfl rfl ?_
    refine J_aload_n (q := 161) 4 d_Mo_halves_160 rfl rfl rfl ?_
    refine J_getF (q := 164) cd_12 (by decide) ft_12_35 rfl g_1086 rfl d_Mo_halves_161 rfl ?_
    refine J_iload_n (q := 165) 7 d_Mo_halves_164 rfl rfl rfl ?_
    refine J_iload (q := 167) 8 d_Mo_halves_165 rfl rfl ?_
    refine J_iadd (q := 168) d_Mo_halves_167 rfl ?_
    refine J_lload (q := 170) 9 d_Mo_halves_168 rfl rfl ?_
    obtain ⟨hi37, h⟩ := gu_some h
    refine J_last (q := 171) rk_375 (by decide) hi37 d_Mo_halves_170 rfl ?_
    obtain ⟨μ38, hμ38, h⟩ := ap_eq h
    refine J_nmM hμ38 ?_
    refine J_aload_n (q := 172) 4 d_Mo_halves_171 rfl rfl rfl ?_
    refine J_getF (q := 175) cd_12 (by decide) ft_12_35 rfl g_1086 rfl d_Mo_halves_172 rfl ?_
    refine J_iload_n (q := 176) 7 d_Mo_halves_175 rfl rfl rfl ?_
    refine J_iconst (q := 177) (v := (2 : Int32)) d_Mo_halves_176 (by decide) rfl ?_
    refine J_iadd (q := 178) d_Mo_halves_177 rfl ?_
    refine J_iload (q := 180) 8 d_Mo_halves_178 rfl rfl ?_
    refine J_iadd (q := 181) d_Mo_halves_180 rfl ?_
    refine J_lload (q := 183) 2 d_Mo_halves_181 rfl rfl ?_
    obtain ⟨hi39, h⟩ := gu_some h
    refine J_last (q := 184) rk_375 (by decide) hi39 d_Mo_halves_183 rfl ?_
    obtain ⟨μ40, hμ40, h⟩ := ap_eq h
    refine J_nmM hμ40 ?_
    refine J_aload_n (q := 185) 4 d_Mo_halves_184 rfl rfl rfl ?_
    refine J_getF (q := 188) cd_12 (by decide) ft_12_35 rfl g_1086 rfl d_Mo_halves_185 rfl ?_
    refine J_iload_n (q := 189) 7 d_Mo_halves_188 rfl rfl rfl ?_
    refine J_iconst (q := 190) (v := (4 : Int32)) d_Mo_halves_189 (by decide) rfl ?_
    refine J_iadd (q := 191) d_Mo_halves_190 rfl ?_
    refine J_iload (q := 193) 8 d_Mo_halves_191 rfl rfl ?_
    refine J_iadd (q := 194) d_Mo_halves_193 rfl ?_
    refine J_lload (q := 196) 0 d_Mo_halves_194 rfl rfl ?_
    obtain ⟨hi41, h⟩ := gu_some h
    refine J_last (q := 197) rk_375 (by decide) hi41 d_Mo_halves_196 rfl ?_
    obtain ⟨μ42, hμ42, h⟩ := ap_eq h
    refine J_nmM hμ42 ?_
    refine J_aload_n (q := 198) 4 d_Mo_halves_197 rfl rfl rfl ?_
    refine J_getF (q := 201) cd_12 (by decide) ft_12_35 rfl g_1086 rfl d_Mo_halves_198 rfl ?_
    refine J_iload_n (q := 202) 6 d_Mo_halves_201 rfl rfl rfl ?_
    refine J_iload (q := 204) 8 d_Mo_halves_202 rfl rfl ?_
    refine J_iadd (q := 205) d_Mo_halves_204 rfl ?_
    refine J_lload (q := 207) 0 d_Mo_halves_205 rfl rfl ?_
    obtain ⟨hi43, h⟩ := gu_some h
    refine J_last (q := 208) rk_375 (by decide) hi43 d_Mo_halves_207 rfl ?_
    obtain ⟨μ44, hμ44, h⟩ := ap_eq h
    refine J_nmM hμ44 ?_
    refine J_aload_n (q := 209) 4 d_Mo_halves_208 rfl rfl rfl ?_
    refine J_getF (q := 212) cd_12 (by decide) ft_12_35 rfl g_1086 rfl d_Mo_halves_209 rfl ?_
    refine J_iload_n (q := 213) 6 d_Mo_halves_212 rfl rfl rfl ?_
    refine J_iconst (q := 214) (v := (2 : Int32)) d_Mo_halves_213 (by decide) rfl ?_
    refine J_iadd (q := 215) d_Mo_halves_214 rfl ?_
    refine J_iload (q := 217) 8 d_Mo_halves_215 rfl rfl ?_
    refine J_iadd (q := 218) d_Mo_halves_217 rfl ?_
    refine J_lload (q := 220) 1 d_Mo_halves_218 rfl rfl ?_
    obtain ⟨hi45, h⟩ := gu_some h
    refine J_last (q := 221) rk_375 (by decide) hi45 d_Mo_halves_220 rfl ?_
    obtain ⟨μ46, hμ46, h⟩ := ap_eq h
    refine J_nmM hμ46 ?_
    refine J_goto (q := 356) d_Mo_halves_221 (by decide) ?_
    refine J_pick [4, 5, 6, 7, 8] rfl ?_
    exact tj_Mo_halves_356 a1 hc_56 _ _ _ _ h
def lp_Mo_halves_56 (a1 : Int32) (c_362 : Mem → Option (Mem)) : Nat → Int32 → Int32 → Int32 → Mem → Option (Mem)
  | 0, _, _, _, _ => none
  | n + 1, y2, y3, y4, μ =>
  if (2 : Int32) ≤ y4 then
 (c_362 μ)
 else
 (gu (y2 + y4) 128 <|
  ap (gL μ 375 (0) (y2 + y4).toNatClampNeg) fun x49 =>
  gu ((y2 + (2 : Int32)) + (y4)) 128 <|
  ap (gL μ 375 (0) ((y2 + (2 : Int32)) + (y4)).toNatClampNeg) fun x51 =>
  gu ((y2 + (4 : Int32)) + (y4)) 128 <|
  ap (gL μ 375 (0) ((y2 + (4 : Int32)) + (y4)).toNatClampNeg) fun x53 =>
  if a1 = (4 : Int32) then
 (gu ((y2 + (6 : Int32)) + (y4)) 128 <|
  mj_Mo_halves_120 a1 (lp_Mo_halves_56 a1 c_362 n) (y2) (y3) (y4) (x49) (x51) (x53) (gL μ 375 (0) ((y2 + (6 : Int32)) + (y4)).toNatClampNeg) μ)
 else
 (mj_Mo_halves_120 a1 (lp_Mo_halves_56 a1 c_362 n) (y2) (y3) (y4) (x49) (x51) (x53) ((0 : Int64)) μ))
theorem tl_Mo_halves_56 (a1 : Int32) {q : Mem} {c_362 : Mem → Option (Mem)} (hc_362 : ∀ (μ : Mem), c_362  μ = some q → J (GM true (QQ none q) none y_Mo_halves.name) true b_Mo_halves R_12 25 (0) 0 0 362 [(0, vr 12 (0))] [] μ) : ∀ (n : Nat) (y2 : Int32) (y3 : Int32) (y4 : Int32) (μ : Mem), lp_Mo_halves_56 a1 c_362 n y2 y3 y4 μ = some q → J (GM true (QQ none q) none y_Mo_halves.name) true b_Mo_halves R_12 25 (0) 0 0 56 [(0, vr 12 (0)), (1, vi (a1)), (2, vi (y2)), (3, vi (y3)), (4, vi (y4))] [] μ := by
  intro n
  induction n with
  | zero => intro _ _ _ _ h; cases h
  | succ n ih =>
    intro y2 y3 y4 μ h
    unfold lp_Mo_halves_56 at h
    refine J_iload (q := 58) 4 d_Mo_halves_56 rfl rfl ?_
    refine J_iconst (q := 59) (v := (2 : Int32)) d_Mo_halves_58 (by decide) rfl ?_
    refine J_icmp_ge (q := 62) (tgt := 362) d_Mo_halves_59 (by decide) rfl (fun hc => ?_) (fun hc => ?_)
    · rw [if_pos hc] at h
      refine J_pick [0] rfl ?_
      exact hc_362 _ h
    · rw [if_neg hc] at h
      refine J_aload_n (q := 63) 0 d_Mo_halves_62 rfl rfl rfl ?_
      refine J_getF (q := 66) cd_12 (by decide) ft_12_35 rfl g_1086 rfl d_Mo_halves_63 rfl ?_
      refine J_iload_n (q := 67) 2 d_Mo_halves_66 rfl rfl rfl ?_
      refine J_iload (q := 69) 4 d_Mo_halves_67 rfl rfl ?_
      refine J_iadd (q := 70) d_Mo_halves_69 rfl ?_
      obtain ⟨hi48, h⟩ := gu_some h
      refine J_lald (q := 71) rk_375 (by decide) hi48 d_Mo_halves_70 rfl ?_
      obtain ⟨x49, hx49, h⟩ := ap_eq h
      refine J_nmL hx49 ?_
      refine J_lstore (q := 73) (lv' := [(5, vl (x49)), (0, vr 12 (0)), (1, vi (a1)), (2, vi (y2)), (3, vi (y3)), (4, vi (y4))]) d_Mo_halves_71 (by decide) rfl rfl ?_
      refine J_aload_n (q := 74) 1 d_Mo_halves_73 rfl rfl rfl ?_
      refine J_getF (q := 77) cd_12 (by decide) ft_12_35 rfl g_1086 rfl d_Mo_halves_74 rfl ?_
      refine J_iload_n (q := 78) 3 d_Mo_halves_77 rfl rfl rfl ?_
      refine J_iconst (q := 79) (v := (2 : Int32)) d_Mo_halves_78 (by decide) rfl ?_
      refine J_iadd (q := 80) d_Mo_halves_79 rfl ?_
      refine J_iload (q := 82) 5 d_Mo_halves_80 rfl rfl ?_
      refine J_iadd (q := 83) d_Mo_halves_82 rfl ?_
      obtain ⟨hi50, h⟩ := gu_some h
      refine J_lald (q := 84) rk_375 (by decide) hi50 d_Mo_halves_83 rfl ?_
      obtain ⟨x51, hx51, h⟩ := ap_eq h
      refine J_nmL hx51 ?_
      refine J_lstore (q := 86) (lv' := [(7, vl (x51)), (5, vl (x49)), (0, vr 12 (0)), (1, vi (a1)), (2, vi (y2)), (3, vi (y3)), (4, vi (y4))]) d_Mo_halves_84 (by decide) rfl rfl ?_
      refine J_aload_n (q := 87) 2 d_Mo_halves_86 rfl rfl rfl ?_
      refine J_getF (q := 90) cd_12 (by decide) ft_12_35 rfl g_1086 rfl d_Mo_halves_87 rfl ?_
      refine J_iload_n (q := 91) 4 d_Mo_halves_90 rfl rfl rfl ?_
      refine J_iconst (q := 92) (v := (4 : Int32)) d_Mo_halves_91 (by decide) rfl ?_
      refine J_iadd (q := 93) d_Mo_halves_92 rfl ?_
      refine J_iload (q := 95) 6 d_Mo_halves_93 rfl rfl ?_
      refine J_iadd (q := 96) d_Mo_halves_95 rfl ?_
      obtain ⟨hi52, h⟩ := gu_some h
      refine J_lald (q := 97) rk_375 (by decide) hi52 d_Mo_halves_96 rfl ?_
      obtain ⟨x53, hx53, h⟩ := ap_eq h
      refine J_nmL hx53 ?_
      refine J_lstore (q := 99) (lv' := [(9, vl (x53)), (7, vl (x51)), (5, vl (x49)), (0, vr 12 (0)), (1, vi (a1)), (2, vi (y2)), (3, vi (y3)), (4, vi (y4))]) d_Mo_halves_97 (by decide) rfl rfl ?_
      refine J_iload_n (q := 100) 4 d_Mo_halves_99 rfl rfl rfl ?_
      refine J_iconst (q := 101) (v := (4 : Int32)) d_Mo_halves_100 (by decide) rfl ?_
      refine J_icmp_ne (q := 104) (tgt := 119) d_Mo_halves_101 (by decide) rfl (fun hc => ?_) (fun hc => ?_)
      · rw [if_neg hc] at h
        refine J_lconst (q := 120) (v := (0 : Int64)) d_Mo_halves_119 (by decide) rfl ?_
        refine J_pick [3, 4, 5, 6, 7, 2, 1, 0] rfl ?_
        exact tj_Mo_halves_120 a1 ih _ _ _ _ _ _ _ _ h
      · rw [if_pos hc] at h
        refine J_aload_n (q := 105) 3 d_Mo_halves_104 rfl rfl rfl ?_
        refine J_getF (q := 108) cd_12 (by decide) ft_12_35 rfl g_1086 rfl d_Mo_halves_105 rfl ?_
        refine J_iload_n (q := 109) 5 d_Mo_halves_108 rfl rfl rfl ?_
        refine J_bipush (q := 111) (v := (6 : Int32)) d_Mo_halves_109 (by decide) rfl ?_
        refine J_iadd (q := 112) d_Mo_halves_111 rfl ?_
        refine J_iload (q := 114) 7 d_Mo_halves_112 rfl rfl ?_
        refine J_iadd (q := 115) d_Mo_halves_114 rfl ?_
        obtain ⟨hi54, h⟩ := gu_some h
        refine J_lald (q := 116) rk_375 (by decide) hi54 d_Mo_halves_115 rfl ?_
        refine J_goto (q := 120) d_Mo_halves_116 (by decide) ?_
        refine J_pick [3, 4, 5, 6, 7, 2, 1, 0] rfl ?_
        exact tj_Mo_halves_120 a1 ih _ _ _ _ _ _ _ _ h
def mj_Mo_halves_362 (a1 : Int32) (μ : Mem) : Option (Mem) :=
  ap (sI μ 12 (0) 37 ((gI μ 12 (0) 37) + ((1 : Int32)))) fun μ55 =>
  some μ55
theorem tj_Mo_halves_362 (a1 : Int32) {q : Mem}  (μ : Mem) (h : mj_Mo_halves_362 a1  μ = some q) : J (GM true (QQ none q) none y_Mo_halves.name) true b_Mo_halves R_12 25 (0) 0 0 362 [(0, vr 12 (0))] [] μ := by
  unfold mj_Mo_halves_362 at h
  refine J_aload_n (q := 363) 0 d_Mo_halves_362 rfl rfl rfl ?_
  refine J_dupR (q := 364) d_Mo_halves_363 rfl ?_
  refine J_getI (q := 367) (j := 37) cd_12 (by decide) (Or.inl rfl) g_1088 rfl d_Mo_halves_364 rfl ?_
  refine J_iconst (q := 368) (v := (1 : Int32)) d_Mo_halves_367 (by decide) rfl ?_
  refine J_iadd (q := 369) d_Mo_halves_368 rfl ?_
  refine J_putI (q := 372) (j := 37) cd_12 (by decide) rfl rfl rfl g_1088 rfl d_Mo_halves_369 rfl ?_
  obtain ⟨μ55, hμ55, h⟩ := ap_eq h
  refine J_nmM hμ55 ?_
  obtain rfl := Option.some.inj h
  exact J_vret rfl ⟨rfl, rfl⟩ d_Mo_halves_372
def m_Mo_halves (a1 : Int32) (μ : Mem) : Option (Mem) :=
  ap (((8 : Int32)) * ((gI μ 12 (0) 37) - ((1 : Int32)))) fun x1 =>
  ap (((8 : Int32)) * (gI μ 12 (0) 37)) fun x2 =>
  gu ((gI μ 12 (0) 37) - ((1 : Int32))) 16 <|
  gu ((gI μ 12 (0) 37) - ((1 : Int32))) 16 <|
  ap (sI μ 376 (0) ((gI μ 12 (0) 37) - ((1 : Int32))).toNatClampNeg ((gI μ 376 (0) ((gI μ 12 (0) 37) - ((1 : Int32))).toNatClampNeg) + ((1 : Int32)))) fun μ5 =>
  gu ((gI μ5 12 (0) 37) - ((1 : Int32))) 16 <|
  gu (gI μ5 12 (0) 37) 16 <|
  ap (sI μ5 376 (0) (gI μ5 12 (0) 37).toNatClampNeg (gI μ5 376 (0) ((gI μ5 12 (0) 37) - ((1 : Int32))).toNatClampNeg)) fun μ8 =>
  lp_Mo_halves_56 a1 (mj_Mo_halves_362 a1) FU (x1) (x2) ((0 : Int32)) μ8
theorem t_Mo_halves {a1 : Int32} {μ : Mem} {q : Mem} (h : m_Mo_halves a1 μ = some q) : JM true (0) y_Mo_halves b_Mo_halves 25 none 0 0 [vr 12 (0), vi (a1)] μ (QQ none q) := by
  unfold m_Mo_halves at h
  refine JM.of pl_Mo_halves (fun ρ => Nat.le_of_ble_eq_true rfl) ?_
  show J (GM true (QQ none q) none y_Mo_halves.name) true b_Mo_halves R_12 25 (0) 0 0 0 [(0, vr 12 (0)), (1, vi (a1))] [] μ
  refine J_bipush (q := 2) (v := (8 : Int32)) d_Mo_halves_0 (by decide) rfl ?_
  refine J_aload_n (q := 3) 0 d_Mo_halves_2 rfl rfl rfl ?_
  refine J_getI (q := 6) (j := 37) cd_12 (by decide) (Or.inl rfl) g_1088 rfl d_Mo_halves_3 rfl ?_
  refine J_iconst (q := 7) (v := (1 : Int32)) d_Mo_halves_6 (by decide) rfl ?_
  refine J_isub (q := 8) d_Mo_halves_7 rfl ?_
  refine J_imul (q := 9) d_Mo_halves_8 rfl ?_
  obtain ⟨x1, hx1, h⟩ := ap_eq h
  refine J_nmI hx1 ?_
  refine J_istore_n (q := 10) (lv' := [(2, vi (x1)), (0, vr 12 (0)), (1, vi (a1))]) d_Mo_halves_9 rfl (by decide) rfl rfl ?_
  refine J_bipush (q := 12) (v := (8 : Int32)) d_Mo_halves_10 (by decide) rfl ?_
  refine J_aload_n (q := 13) 1 d_Mo_halves_12 rfl rfl rfl ?_
  refine J_getI (q := 16) (j := 37) cd_12 (by decide) (Or.inl rfl) g_1088 rfl d_Mo_halves_13 rfl ?_
  refine J_imul (q := 17) d_Mo_halves_16 rfl ?_
  obtain ⟨x2, hx2, h⟩ := ap_eq h
  refine J_nmI hx2 ?_
  refine J_istore_n (q := 18) (lv' := [(3, vi (x2)), (2, vi (x1)), (0, vr 12 (0)), (1, vi (a1))]) d_Mo_halves_17 rfl (by decide) rfl rfl ?_
  refine J_aload_n (q := 19) 2 d_Mo_halves_18 rfl rfl rfl ?_
  refine J_getF (q := 22) cd_12 (by decide) ft_12_36 rfl g_1087 rfl d_Mo_halves_19 rfl ?_
  refine J_aload_n (q := 23) 2 d_Mo_halves_22 rfl rfl rfl ?_
  refine J_getI (q := 26) (j := 37) cd_12 (by decide) (Or.inl rfl) g_1088 rfl d_Mo_halves_23 rfl ?_
  refine J_iconst (q := 27) (v := (1 : Int32)) d_Mo_halves_26 (by decide) rfl ?_
  refine J_isub (q := 28) d_Mo_halves_27 rfl ?_
  refine J_dup2IR (q := 29) d_Mo_halves_28 rfl ?_
  obtain ⟨hi3, h⟩ := gu_some h
  refine J_iald (q := 30) rk_376 (by decide) hi3 d_Mo_halves_29 rfl ?_
  refine J_iconst (q := 31) (v := (1 : Int32)) d_Mo_halves_30 (by decide) rfl ?_
  refine J_iadd (q := 32) d_Mo_halves_31 rfl ?_
  obtain ⟨hi4, h⟩ := gu_some h
  refine J_iast (q := 33) rk_376 (by decide) hi4 d_Mo_halves_32 rfl ?_
  obtain ⟨μ5, hμ5, h⟩ := ap_eq h
  refine J_nmM hμ5 ?_
  refine J_aload_n (q := 34) 2 d_Mo_halves_33 rfl rfl rfl ?_
  refine J_getF (q := 37) cd_12 (by decide) ft_12_36 rfl g_1087 rfl d_Mo_halves_34 rfl ?_
  refine J_aload_n (q := 38) 2 d_Mo_halves_37 rfl rfl rfl ?_
  refine J_getI (q := 41) (j := 37) cd_12 (by decide) (Or.inl rfl) g_1088 rfl d_Mo_halves_38 rfl ?_
  refine J_aload_n (q := 42) 2 d_Mo_halves_41 rfl rfl rfl ?_
  refine J_getF (q := 45) cd_12 (by decide) ft_12_36 rfl g_1087 rfl d_Mo_halves_42 rfl ?_
  refine J_aload_n (q := 46) 2 d_Mo_halves_45 rfl rfl rfl ?_
  refine J_getI (q := 49) (j := 37) cd_12 (by decide) (Or.inl rfl) g_1088 rfl d_Mo_halves_46 rfl ?_
  refine J_iconst (q := 50) (v := (1 : Int32)) d_Mo_halves_49 (by decide) rfl ?_
  refine J_isub (q := 51) d_Mo_halves_50 rfl ?_
  obtain ⟨hi6, h⟩ := gu_some h
  refine J_iald (q := 52) rk_376 (by decide) hi6 d_Mo_halves_51 rfl ?_
  obtain ⟨hi7, h⟩ := gu_some h
  refine J_iast (q := 53) rk_376 (by decide) hi7 d_Mo_halves_52 rfl ?_
  obtain ⟨μ8, hμ8, h⟩ := ap_eq h
  refine J_nmM hμ8 ?_
  refine J_iconst (q := 54) (v := (0 : Int32)) d_Mo_halves_53 (by decide) rfl ?_
  refine J_istore (q := 56) (lv' := [(4, vi ((0 : Int32))), (3, vi (x2)), (2, vi (x1)), (0, vr 12 (0)), (1, vi (a1))]) d_Mo_halves_54 (by decide) rfl rfl ?_
  refine J_pick [3, 4, 2, 1, 0] rfl ?_
  exact tl_Mo_halves_56 a1 (fun _ h => tj_Mo_halves_362 a1 _ h) FU _ _ _ _ h
def m_Mo_size (a1 : Int64) (μ : Mem) : Int64 :=
  if (0 : Int64) ≤ a1 then
 (a1)
 else
 (-(a1))
theorem t_Mo_size {a1 : Int64} {μ : Mem} {q : Int64} (h : m_Mo_size a1 μ = q) : JM true (0) y_Mo_size b_Mo_size 2 (some (.long)) 0 0 [vl (a1)] μ (QQ (some (vl q)) μ) := by
  unfold m_Mo_size at h
  refine JM.of pl_Mo_size (fun ρ => Nat.le_of_ble_eq_true rfl) ?_
  show J (GM true (QQ (some (vl q)) μ) (some (.long)) y_Mo_size.name) true b_Mo_size R_12 2 (0) 0 0 0 [(0, vl (a1))] [] μ
  refine J_lload_n (q := 1) 0 d_Mo_size_0 rfl rfl rfl ?_
  refine J_lconst (q := 2) (v := (0 : Int64)) d_Mo_size_1 (by decide) rfl ?_
  refine J_lif_ge (q := 6) (tgt := 11) d_Mo_size_2 d_Mo_size_3 (by decide) rfl (fun hc => ?_) (fun hc => ?_)
  · rw [if_pos hc] at h
    refine J_lload_n (q := 12) 0 d_Mo_size_11 rfl rfl rfl ?_
    subst h
    exact J_lret rfl ⟨rfl, rfl⟩ d_Mo_size_12
  · rw [if_neg hc] at h
    refine J_lload_n (q := 7) 0 d_Mo_size_6 rfl rfl rfl ?_
    refine J_lneg (q := 8) d_Mo_size_7 rfl ?_
    refine J_goto (q := 12) d_Mo_size_8 (by decide) ?_
    subst h
    exact J_lret rfl ⟨rfl, rfl⟩ d_Mo_size_12
def mj_Mo_isFlat_112 (a1 : Int32) (a2 : Int32) (a3 : Int64) (μ : Mem) (c_6 : Int32 → Int32 → Option (Bool)) (y6 : Int32) (z0 : Int32) : Option (Bool) :=
  ap (y6 + (1 : Int32)) fun x3 =>
  c_6 (z0) (x3)
theorem tj_Mo_isFlat_112 (a1 : Int32) (a2 : Int32) (a3 : Int64) (μ : Mem) {q : Bool} {c_6 : Int32 → Int32 → Option (Bool)} (hc_6 : ∀ (y5 : Int32) (y6 : Int32), c_6 y5 y6 = some q → J (GM true (QQ (some (vi (b2i q))) μ) (some (.boolean)) y_Mo_isFlat.name) true b_Mo_isFlat R_12 8 (1) 0 0 6 [(0, vr 12 (0)), (1, vi (a1)), (2, vi (a2)), (3, vl (a3)), (5, vi (y5)), (6, vi (y6))] [] μ) (y6 : Int32) (z0 : Int32) (h : mj_Mo_isFlat_112 a1 a2 a3 μ c_6 y6 z0 = some q) : J (GM true (QQ (some (vi (b2i q))) μ) (some (.boolean)) y_Mo_isFlat.name) true b_Mo_isFlat R_12 8 (1) 0 0 112 [(0, vr 12 (0)), (1, vi (a1)), (2, vi (a2)), (3, vl (a3)), (6, vi (y6))] [vi (z0)] μ := by
  unfold mj_Mo_isFlat_112 at h
  refine J_istore (q := 114) (lv' := [(5, vi (z0)), (0, vr 12 (0)), (1, vi (a1)), (2, vi (a2)), (3, vl (a3)), (6, vi (y6))]) d_Mo_isFlat_112 (by decide) rfl rfl ?_
  obtain ⟨x3, hx3, h⟩ := ap_eq h
  refine J_iinc (q := 117) (v := x3) (lv' := [(6, vi (x3)), (5, vi (z0)), (0, vr 12 (0)), (1, vi (a1)), (2, vi (a2)), (3, vl (a3))]) 5 d_Mo_isFlat_114 rfl (by rw [hx3]; rfl) (by decide) rfl rfl ?_
  refine J_goto (q := 6) d_Mo_isFlat_117 (by decide) ?_
  refine J_pick [2, 3, 4, 5, 1, 0] rfl ?_
  exact hc_6 _ _ h
def mj_Mo_isFlat_111 (a1 : Int32) (a2 : Int32) (a3 : Int64) (μ : Mem) (c_6 : Int32 → Int32 → Option (Bool)) (y6 : Int32) : Option (Bool) :=
  mj_Mo_isFlat_112 a1 a2 a3 μ c_6 (y6) ((0 : Int32))
theorem tj_Mo_isFlat_111 (a1 : Int32) (a2 : Int32) (a3 : Int64) (μ : Mem) {q : Bool} {c_6 : Int32 → Int32 → Option (Bool)} (hc_6 : ∀ (y5 : Int32) (y6 : Int32), c_6 y5 y6 = some q → J (GM true (QQ (some (vi (b2i q))) μ) (some (.boolean)) y_Mo_isFlat.name) true b_Mo_isFlat R_12 8 (1) 0 0 6 [(0, vr 12 (0)), (1, vi (a1)), (2, vi (a2)), (3, vl (a3)), (5, vi (y5)), (6, vi (y6))] [] μ) (y6 : Int32) (h : mj_Mo_isFlat_111 a1 a2 a3 μ c_6 y6 = some q) : J (GM true (QQ (some (vi (b2i q))) μ) (some (.boolean)) y_Mo_isFlat.name) true b_Mo_isFlat R_12 8 (1) 0 0 111 [(0, vr 12 (0)), (1, vi (a1)), (2, vi (a2)), (3, vl (a3)), (6, vi (y6))] [] μ := by
  unfold mj_Mo_isFlat_111 at h
  refine J_iconst (q := 112) (v := (0 : Int32)) d_Mo_isFlat_111 (by decide) rfl ?_
  refine J_pick [0, 1, 2, 3, 4] rfl ?_
  exact tj_Mo_isFlat_112 a1 a2 a3 μ hc_6 _ _ h
def lp_Mo_isFlat_6 (a1 : Int32) (a2 : Int32) (a3 : Int64) (μ : Mem) : Nat → Int32 → Int32 → Option (Bool)
  | 0, _, _ => none
  | n + 1, y5, y6 =>
  if a2 ≤ y6 + (2 : Int32) then
 (Option.bind (zb (y5)) fun B10 => some (B10))
 else
 (ap ((a1) + ((2 : Int32) * y6)) fun x11 =>
  if y5 = 0 then
 (mj_Mo_isFlat_111 a1 a2 a3 μ (lp_Mo_isFlat_6 a1 a2 a3 μ n) (y6))
 else
 (gu (x11) 128 <|
  gu (x11 + (2 : Int32)) 128 <|
  gu (x11 + (4 : Int32)) 128 <|
  if a3 < (m_Mo_size (((gL μ 375 (0) x11.toNatClampNeg) - (((2 : Int64)) * (gL μ 375 (0) (x11 + (2 : Int32)).toNatClampNeg))) + (gL μ 375 (0) (x11 + (4 : Int32)).toNatClampNeg)) μ) then
 (mj_Mo_isFlat_111 a1 a2 a3 μ (lp_Mo_isFlat_6 a1 a2 a3 μ n) (y6))
 else
 (gu (x11 + (1 : Int32)) 128 <|
  gu (x11 + (3 : Int32)) 128 <|
  gu (x11 + (5 : Int32)) 128 <|
  if a3 < (m_Mo_size (((gL μ 375 (0) (x11 + (1 : Int32)).toNatClampNeg) - (((2 : Int64)) * (gL μ 375 (0) (x11 + (3 : Int32)).toNatClampNeg))) + (gL μ 375 (0) (x11 + (5 : Int32)).toNatClampNeg)) μ) then
 (mj_Mo_isFlat_111 a1 a2 a3 μ (lp_Mo_isFlat_6 a1 a2 a3 μ n) (y6))
 else
 (mj_Mo_isFlat_112 a1 a2 a3 μ (lp_Mo_isFlat_6 a1 a2 a3 μ n) (y6) ((1 : Int32))))))
theorem tl_Mo_isFlat_6 (a1 : Int32) (a2 : Int32) (a3 : Int64) (μ : Mem) {q : Bool}  : ∀ (n : Nat) (y5 : Int32) (y6 : Int32), lp_Mo_isFlat_6 a1 a2 a3 μ n y5 y6 = some q → J (GM true (QQ (some (vi (b2i q))) μ) (some (.boolean)) y_Mo_isFlat.name) true b_Mo_isFlat R_12 8 (1) 0 0 6 [(0, vr 12 (0)), (1, vi (a1)), (2, vi (a2)), (3, vl (a3)), (5, vi (y5)), (6, vi (y6))] [] μ := by
  intro n
  induction n with
  | zero => intro _ _ h; cases h
  | succ n ih =>
    intro y5 y6 h
    unfold lp_Mo_isFlat_6 at h
    refine J_iload (q := 8) 5 d_Mo_isFlat_6 rfl rfl ?_
    refine J_iconst (q := 9) (v := (2 : Int32)) d_Mo_isFlat_8 (by decide) rfl ?_
    refine J_iadd (q := 10) d_Mo_isFlat_9 rfl ?_
    refine J_iload_n (q := 11) 2 d_Mo_isFlat_10 rfl rfl rfl ?_
    refine J_icmp_ge (q := 14) (tgt := 120) d_Mo_isFlat_11 (by decide) rfl (fun hc => ?_) (fun hc => ?_)
    · rw [if_pos hc] at h
      refine J_iload (q := 122) 4 d_Mo_isFlat_120 rfl rfl ?_
      obtain ⟨B10, hB10, h⟩ := zb_some h
      obtain rfl := Option.some.inj h
      refine J_nmI hB10.symm ?_
      exact J_zret (b2i01 _) rfl ⟨rfl, rfl⟩ d_Mo_isFlat_122
    · rw [if_neg hc] at h
      refine J_iload_n (q := 15) 1 d_Mo_isFlat_14 rfl rfl rfl ?_
      refine J_iconst (q := 16) (v := (2 : Int32)) d_Mo_isFlat_15 (by decide) rfl ?_
      refine J_iload (q := 18) 5 d_Mo_isFlat_16 rfl rfl ?_
      refine J_imul (q := 19) d_Mo_isFlat_18 rfl ?_
      refine J_iadd (q := 20) d_Mo_isFlat_19 rfl ?_
      obtain ⟨x11, hx11, h⟩ := ap_eq h
      refine J_nmI hx11 ?_
      refine J_istore (q := 22) (lv' := [(7, vi (x11)), (0, vr 12 (0)), (1, vi (a1)), (2, vi (a2)), (3, vl (a3)), (5, vi (y5)), (6, vi (y6))]) d_Mo_isFlat_20 (by decide) rfl rfl ?_
      refine J_iload (q := 24) 5 d_Mo_isFlat_22 rfl rfl ?_
      refine J_if_eq (q := 27) (tgt := 111) d_Mo_isFlat_24 (by decide) rfl (fun hc => ?_) (fun hc => ?_)
      · rw [if_pos hc] at h
        refine J_pick [1, 2, 3, 4, 6] rfl ?_
        exact tj_Mo_isFlat_111 a1 a2 a3 μ ih _ h
      · rw [if_neg hc] at h
        refine J_aload_n (q := 28) 1 d_Mo_isFlat_27 rfl rfl rfl ?_
        refine J_getF (q := 31) cd_12 (by decide) ft_12_35 rfl g_1086 rfl d_Mo_isFlat_28 rfl ?_
        refine J_iload (q := 33) 0 d_Mo_isFlat_31 rfl rfl ?_
        obtain ⟨hi12, h⟩ := gu_some h
        refine J_lald (q := 34) rk_375 (by decide) hi12 d_Mo_isFlat_33 rfl ?_
        refine J_ldc2 (q := 37) d_Mo_isFlat_34 g_1372 rfl ?_
        refine J_aload_n (q := 38) 1 d_Mo_isFlat_37 rfl rfl rfl ?_
        refine J_getF (q := 41) cd_12 (by decide) ft_12_35 rfl g_1086 rfl d_Mo_isFlat_38 rfl ?_
        refine J_iload (q := 43) 0 d_Mo_isFlat_41 rfl rfl ?_
        refine J_iconst (q := 44) (v := (2 : Int32)) d_Mo_isFlat_43 (by decide) rfl ?_
        refine J_iadd (q := 45) d_Mo_isFlat_44 rfl ?_
        obtain ⟨hi13, h⟩ := gu_some h
        refine J_lald (q := 46) rk_375 (by decide) hi13 d_Mo_isFlat_45 rfl ?_
        refine J_lmul (q := 47) d_Mo_isFlat_46 rfl ?_
        refine J_lsub (q := 48) d_Mo_isFlat_47 rfl ?_
        refine J_aload_n (q := 49) 1 d_Mo_isFlat_48 rfl rfl rfl ?_
        refine J_getF (q := 52) cd_12 (by decide) ft_12_35 rfl g_1086 rfl d_Mo_isFlat_49 rfl ?_
        refine J_iload (q := 54) 0 d_Mo_isFlat_52 rfl rfl ?_
        refine J_iconst (q := 55) (v := (4 : Int32)) d_Mo_isFlat_54 (by decide) rfl ?_
        refine J_iadd (q := 56) d_Mo_isFlat_55 rfl ?_
        obtain ⟨hi14, h⟩ := gu_some h
        refine J_lald (q := 57) rk_375 (by decide) hi14 d_Mo_isFlat_56 rfl ?_
        refine J_ladd (q := 58) d_Mo_isFlat_57 rfl ?_
        refine J_callSq (rc := 0) (rs := 0) (q := 61) (as := [vl (((gL μ 375 (0) x11.toNatClampNeg) - (((2 : Int64)) * (gL μ 375 (0) (x11 + (2 : Int32)).toNatClampNeg))) + (gL μ 375 (0) (x11 + (4 : Int32)).toNatClampNeg))]) (st := []) g_1390 (t_Mo_size rfl) (by decide) (by decide) g_1389 g_1391 g_10 hy_Mo_size rfl (Nat.le_of_ble_eq_true rfl) d_Mo_isFlat_58 rfl ?_
        refine J_lload_n (q := 62) 4 d_Mo_isFlat_61 rfl rfl rfl ?_
        refine J_lif_gt (q := 66) (tgt := 111) d_Mo_isFlat_62 d_Mo_isFlat_63 (by decide) rfl (fun hc => ?_) (fun hc => ?_)
        · rw [if_pos hc] at h
          refine J_pick [1, 2, 3, 4, 6] rfl ?_
          exact tj_Mo_isFlat_111 a1 a2 a3 μ ih _ h
        · rw [if_neg hc] at h
          refine J_aload_n (q := 67) 1 d_Mo_isFlat_66 rfl rfl rfl ?_
          refine J_getF (q := 70) cd_12 (by decide) ft_12_35 rfl g_1086 rfl d_Mo_isFlat_67 rfl ?_
          refine J_iload (q := 72) 0 d_Mo_isFlat_70 rfl rfl ?_
          refine J_iconst (q := 73) (v := (1 : Int32)) d_Mo_isFlat_72 (by decide) rfl ?_
          refine J_iadd (q := 74) d_Mo_isFlat_73 rfl ?_
          obtain ⟨hi15, h⟩ := gu_some h
          refine J_lald (q := 75) rk_375 (by decide) hi15 d_Mo_isFlat_74 rfl ?_
          refine J_ldc2 (q := 78) d_Mo_isFlat_75 g_1372 rfl ?_
          refine J_aload_n (q := 79) 1 d_Mo_isFlat_78 rfl rfl rfl ?_
          refine J_getF (q := 82) cd_12 (by decide) ft_12_35 rfl g_1086 rfl d_Mo_isFlat_79 rfl ?_
          refine J_iload (q := 84) 0 d_Mo_isFlat_82 rfl rfl ?_
          refine J_iconst (q := 85) (v := (3 : Int32)) d_Mo_isFlat_84 (by decide) rfl ?_
          refine J_iadd (q := 86) d_Mo_isFlat_85 rfl ?_
          obtain ⟨hi16, h⟩ := gu_some h
          refine J_lald (q := 87) rk_375 (by decide) hi16 d_Mo_isFlat_86 rfl ?_
          refine J_lmul (q := 88) d_Mo_isFlat_87 rfl ?_
          refine J_lsub (q := 89) d_Mo_isFlat_88 rfl ?_
          refine J_aload_n (q := 90) 1 d_Mo_isFlat_89 rfl rfl rfl ?_
          refine J_getF (q := 93) cd_12 (by decide) ft_12_35 rfl g_1086 rfl d_Mo_isFlat_90 rfl ?_
          refine J_iload (q := 95) 0 d_Mo_isFlat_93 rfl rfl ?_
          refine J_iconst (q := 96) (v := (5 : Int32)) d_Mo_isFlat_95 (by decide) rfl ?_
          refine J_iadd (q := 97) d_Mo_isFlat_96 rfl ?_
          obtain ⟨hi17, h⟩ := gu_some h
          refine J_lald (q := 98) rk_375 (by decide) hi17 d_Mo_isFlat_97 rfl ?_
          refine J_ladd (q := 99) d_Mo_isFlat_98 rfl ?_
          refine J_callSq (rc := 0) (rs := 0) (q := 102) (as := [vl (((gL μ 375 (0) (x11 + (1 : Int32)).toNatClampNeg) - (((2 : Int64)) * (gL μ 375 (0) (x11 + (3 : Int32)).toNatClampNeg))) + (gL μ 375 (0) (x11 + (5 : Int32)).toNatClampNeg))]) (st := []) g_1390 (t_Mo_size rfl) (by decide) (by decide) g_1389 g_1391 g_10 hy_Mo_size rfl (Nat.le_of_ble_eq_true rfl) d_Mo_isFlat_99 rfl ?_
          refine J_lload_n (q := 103) 4 d_Mo_isFlat_102 rfl rfl rfl ?_
          refine J_lif_gt (q := 107) (tgt := 111) d_Mo_isFlat_103 d_Mo_isFlat_104 (by decide) rfl (fun hc => ?_) (fun hc => ?_)
          · rw [if_pos hc] at h
            refine J_pick [1, 2, 3, 4, 6] rfl ?_
            exact tj_Mo_isFlat_111 a1 a2 a3 μ ih _ h
          · rw [if_neg hc] at h
            refine J_iconst (q := 108) (v := (1 : Int32)) d_Mo_isFlat_107 (by decide) rfl ?_
            refine J_goto (q := 112) d_Mo_isFlat_108 (by decide) ?_
            refine J_pick [1, 2, 3, 4, 6] rfl ?_
            exact tj_Mo_isFlat_112 a1 a2 a3 μ ih _ _ h
def m_Mo_isFlat (a1 : Int32) (a2 : Int32) (a3 : Int64) (μ : Mem) : Option (Bool) :=
  lp_Mo_isFlat_6 a1 a2 a3 μ FU ((1 : Int32)) ((0 : Int32))
theorem t_Mo_isFlat {a1 : Int32} {a2 : Int32} {a3 : Int64} {μ : Mem} {q : Bool} (h : m_Mo_isFlat a1 a2 a3 μ = some q) : JM true (1) y_Mo_isFlat b_Mo_isFlat 8 (some (.boolean)) 0 0 [vr 12 (0), vi (a1), vi (a2), vl (a3)] μ (QQ (some (vi (b2i q))) μ) := by
  unfold m_Mo_isFlat at h
  refine JM.of pl_Mo_isFlat (fun ρ => Nat.le_of_ble_eq_true rfl) ?_
  show J (GM true (QQ (some (vi (b2i q))) μ) (some (.boolean)) y_Mo_isFlat.name) true b_Mo_isFlat R_12 8 (1) 0 0 0 [(0, vr 12 (0)), (1, vi (a1)), (2, vi (a2)), (3, vl (a3))] [] μ
  refine J_iconst (q := 1) (v := (1 : Int32)) d_Mo_isFlat_0 (by decide) rfl ?_
  refine J_istore (q := 3) (lv' := [(5, vi ((1 : Int32))), (0, vr 12 (0)), (1, vi (a1)), (2, vi (a2)), (3, vl (a3))]) d_Mo_isFlat_1 (by decide) rfl rfl ?_
  refine J_iconst (q := 4) (v := (0 : Int32)) d_Mo_isFlat_3 (by decide) rfl ?_
  refine J_istore (q := 6) (lv' := [(6, vi ((0 : Int32))), (5, vi ((1 : Int32))), (0, vr 12 (0)), (1, vi (a1)), (2, vi (a2)), (3, vl (a3))]) d_Mo_isFlat_4 (by decide) rfl rfl ?_
  refine J_pick [2, 3, 4, 5, 1, 0] rfl ?_
  exact tl_Mo_isFlat_6 a1 a2 a3 μ FU _ _ h
def mj_Mo_rounded_95 (a1 : Int64) (a2 : Int64) (μ : Mem) (y8 : Int64) : Option (Int64) :=
  some (y8 + (1 : Int64))
theorem tj_Mo_rounded_95 (a1 : Int64) (a2 : Int64) (μ : Mem) {q : Int64}  (y8 : Int64) (h : mj_Mo_rounded_95 a1 a2 μ y8 = some q) : J (GM true (QQ (some (vl q)) μ) (some (.long)) y_Mo_rounded.name) true b_Mo_rounded R_12 12 (0) 0 0 95 [(8, vl (y8))] [] μ := by
  unfold mj_Mo_rounded_95 at h
  refine J_lload (q := 97) 0 d_Mo_rounded_95 rfl rfl ?_
  refine J_lconst (q := 98) (v := (1 : Int64)) d_Mo_rounded_97 (by decide) rfl ?_
  refine J_ladd (q := 99) d_Mo_rounded_98 rfl ?_
  refine J_goto (q := 104) d_Mo_rounded_99 (by decide) ?_
  obtain rfl := Option.some.inj h
  exact J_lret rfl ⟨rfl, rfl⟩ d_Mo_rounded_104
def mj_Mo_rounded_62 (a1 : Int64) (a2 : Int64) (μ : Mem) (y6 : Int64) (y8 : Int64) (y10 : Int64) : Option (Int64) :=
  if y6 < (2 : Int64) * y10 then
 (mj_Mo_rounded_95 a1 a2 μ (y8))
 else
 (if (2 : Int64) * y10 = y6 then
 (if y8 &&& (1 : Int64) = (1 : Int64) then
 (mj_Mo_rounded_95 a1 a2 μ (y8))
 else
 (some (y8)))
 else
 (some (y8)))
theorem tj_Mo_rounded_62 (a1 : Int64) (a2 : Int64) (μ : Mem) {q : Int64}  (y6 : Int64) (y8 : Int64) (y10 : Int64) (h : mj_Mo_rounded_62 a1 a2 μ y6 y8 y10 = some q) : J (GM true (QQ (some (vl q)) μ) (some (.long)) y_Mo_rounded.name) true b_Mo_rounded R_12 12 (0) 0 0 62 [(6, vl (y6)), (8, vl (y8)), (10, vl (y10))] [] μ := by
  unfold mj_Mo_rounded_62 at h
  refine J_ldc2 (q := 65) d_Mo_rounded_62 g_1372 rfl ?_
  refine J_lload (q := 67) 2 d_Mo_rounded_65 rfl rfl ?_
  refine J_lmul (q := 68) d_Mo_rounded_67 rfl ?_
  refine J_lload (q := 70) 0 d_Mo_rounded_68 rfl rfl ?_
  refine J_lif_gt (q := 74) (tgt := 95) d_Mo_rounded_70 d_Mo_rounded_71 (by decide) rfl (fun hc => ?_) (fun hc => ?_)
  · rw [if_pos hc] at h
    refine J_pick [1] rfl ?_
    exact tj_Mo_rounded_95 a1 a2 μ _ h
  · rw [if_neg hc] at h
    refine J_ldc2 (q := 77) d_Mo_rounded_74 g_1372 rfl ?_
    refine J_lload (q := 79) 2 d_Mo_rounded_77 rfl rfl ?_
    refine J_lmul (q := 80) d_Mo_rounded_79 rfl ?_
    refine J_lload (q := 82) 0 d_Mo_rounded_80 rfl rfl ?_
    refine J_lif_ne (q := 86) (tgt := 102) d_Mo_rounded_82 d_Mo_rounded_83 (by decide) rfl (fun hc => ?_) (fun hc => ?_)
    · rw [if_neg hc] at h
      refine J_lload (q := 104) 1 d_Mo_rounded_102 rfl rfl ?_
      obtain rfl := Option.some.inj h
      exact J_lret rfl ⟨rfl, rfl⟩ d_Mo_rounded_104
    · rw [if_pos hc] at h
      refine J_lload (q := 88) 1 d_Mo_rounded_86 rfl rfl ?_
      refine J_lconst (q := 89) (v := (1 : Int64)) d_Mo_rounded_88 (by decide) rfl ?_
      refine J_land (q := 90) d_Mo_rounded_89 rfl ?_
      refine J_lconst (q := 91) (v := (1 : Int64)) d_Mo_rounded_90 (by decide) rfl ?_
      refine J_lif_ne (q := 95) (tgt := 102) d_Mo_rounded_91 d_Mo_rounded_92 (by decide) rfl (fun hc => ?_) (fun hc => ?_)
      · rw [if_neg hc] at h
        refine J_lload (q := 104) 1 d_Mo_rounded_102 rfl rfl ?_
        obtain rfl := Option.some.inj h
        exact J_lret rfl ⟨rfl, rfl⟩ d_Mo_rounded_104
      · rw [if_pos hc] at h
        refine J_pick [1] rfl ?_
        exact tj_Mo_rounded_95 a1 a2 μ _ h
def mj_Mo_rounded_26 (a1 : Int64) (a2 : Int64) (μ : Mem) (y4 : Int64) (z0 : Int64) : Option (Int64) :=
  gzl (z0) <|
  ap (y4 / z0) fun x2 =>
  gzl (z0) <|
  ap (y4 - y4 / z0 * z0) fun x4 =>
  if (0 : Int64) ≤ x4 then
 (mj_Mo_rounded_62 a1 a2 μ (z0) (x2) (x4))
 else
 (ap (x2 - (1 : Int64)) fun x5 =>
  ap (x4 + z0) fun x6 =>
  mj_Mo_rounded_62 a1 a2 μ (z0) (x5) (x6))
theorem tj_Mo_rounded_26 (a1 : Int64) (a2 : Int64) (μ : Mem) {q : Int64}  (y4 : Int64) (z0 : Int64) (h : mj_Mo_rounded_26 a1 a2 μ y4 z0 = some q) : J (GM true (QQ (some (vl q)) μ) (some (.long)) y_Mo_rounded.name) true b_Mo_rounded R_12 12 (0) 0 0 26 [(4, vl (y4))] [vl (z0)] μ := by
  unfold mj_Mo_rounded_26 at h
  refine J_lstore (q := 28) (lv' := [(6, vl (z0)), (4, vl (y4))]) d_Mo_rounded_26 (by decide) rfl rfl ?_
  refine J_lload (q := 30) 1 d_Mo_rounded_28 rfl rfl ?_
  refine J_lload (q := 32) 0 d_Mo_rounded_30 rfl rfl ?_
  obtain ⟨hg1, h⟩ := gzl_some h
  refine J_ldiv (q := 33) d_Mo_rounded_32 hg1 rfl ?_
  obtain ⟨x2, hx2, h⟩ := ap_eq h
  refine J_nmL hx2 ?_
  refine J_lstore (q := 35) (lv' := [(8, vl (x2)), (6, vl (z0)), (4, vl (y4))]) d_Mo_rounded_33 (by decide) rfl rfl ?_
  refine J_lload (q := 37) 2 d_Mo_rounded_35 rfl rfl ?_
  refine J_lload (q := 39) 1 d_Mo_rounded_37 rfl rfl ?_
  obtain ⟨hg3, h⟩ := gzl_some h
  refine J_lrem (q := 40) d_Mo_rounded_39 hg3 rfl ?_
  obtain ⟨x4, hx4, h⟩ := ap_eq h
  refine J_nmL hx4 ?_
  refine J_lstore (q := 42) (lv' := [(10, vl (x4)), (8, vl (x2)), (6, vl (z0)), (4, vl (y4))]) d_Mo_rounded_40 (by decide) rfl rfl ?_
  refine J_lload (q := 44) 0 d_Mo_rounded_42 rfl rfl ?_
  refine J_lconst (q := 45) (v := (0 : Int64)) d_Mo_rounded_44 (by decide) rfl ?_
  refine J_lif_ge (q := 49) (tgt := 62) d_Mo_rounded_45 d_Mo_rounded_46 (by decide) rfl (fun hc => ?_) (fun hc => ?_)
  · rw [if_pos hc] at h
    refine J_pick [2, 1, 0] rfl ?_
    exact tj_Mo_rounded_62 a1 a2 μ _ _ _ h
  · rw [if_neg hc] at h
    refine J_lload (q := 51) 1 d_Mo_rounded_49 rfl rfl ?_
    refine J_lconst (q := 52) (v := (1 : Int64)) d_Mo_rounded_51 (by decide) rfl ?_
    refine J_lsub (q := 53) d_Mo_rounded_52 rfl ?_
    obtain ⟨x5, hx5, h⟩ := ap_eq h
    refine J_nmL hx5 ?_
    refine J_lstore (q := 55) (lv' := [(8, vl (x5)), (10, vl (x4)), (6, vl (z0)), (4, vl (y4))]) d_Mo_rounded_53 (by decide) rfl rfl ?_
    refine J_lload (q := 57) 1 d_Mo_rounded_55 rfl rfl ?_
    refine J_lload (q := 59) 2 d_Mo_rounded_57 rfl rfl ?_
    refine J_ladd (q := 60) d_Mo_rounded_59 rfl ?_
    obtain ⟨x6, hx6, h⟩ := ap_eq h
    refine J_nmL hx6 ?_
    refine J_lstore (q := 62) (lv' := [(10, vl (x6)), (8, vl (x5)), (6, vl (z0)), (4, vl (y4))]) d_Mo_rounded_60 (by decide) rfl rfl ?_
    refine J_pick [2, 1, 0] rfl ?_
    exact tj_Mo_rounded_62 a1 a2 μ _ _ _ h
def mj_Mo_rounded_12 (a1 : Int64) (a2 : Int64) (μ : Mem) (z0 : Int64) : Option (Int64) :=
  if (0 : Int64) ≤ a2 then
 (mj_Mo_rounded_26 a1 a2 μ (z0) (a2))
 else
 (mj_Mo_rounded_26 a1 a2 μ (z0) (-(a2)))
theorem tj_Mo_rounded_12 (a1 : Int64) (a2 : Int64) (μ : Mem) {q : Int64}  (z0 : Int64) (h : mj_Mo_rounded_12 a1 a2 μ z0 = some q) : J (GM true (QQ (some (vl q)) μ) (some (.long)) y_Mo_rounded.name) true b_Mo_rounded R_12 12 (0) 0 0 12 [(2, vl (a2))] [vl (z0)] μ := by
  unfold mj_Mo_rounded_12 at h
  refine J_lstore (q := 14) (lv' := [(4, vl (z0)), (2, vl (a2))]) d_Mo_rounded_12 (by decide) rfl rfl ?_
  refine J_lload_n (q := 15) 1 d_Mo_rounded_14 rfl rfl rfl ?_
  refine J_lconst (q := 16) (v := (0 : Int64)) d_Mo_rounded_15 (by decide) rfl ?_
  refine J_lif_ge (q := 20) (tgt := 25) d_Mo_rounded_16 d_Mo_rounded_17 (by decide) rfl (fun hc => ?_) (fun hc => ?_)
  · rw [if_pos hc] at h
    refine J_lload_n (q := 26) 1 d_Mo_rounded_25 rfl rfl rfl ?_
    refine J_pick [0] rfl ?_
    exact tj_Mo_rounded_26 a1 a2 μ _ _ h
  · rw [if_neg hc] at h
    refine J_lload_n (q := 21) 1 d_Mo_rounded_20 rfl rfl rfl ?_
    refine J_lneg (q := 22) d_Mo_rounded_21 rfl ?_
    refine J_goto (q := 26) d_Mo_rounded_22 (by decide) ?_
    refine J_pick [0] rfl ?_
    exact tj_Mo_rounded_26 a1 a2 μ _ _ h
def m_Mo_rounded (a1 : Int64) (a2 : Int64) (μ : Mem) : Option (Int64) :=
  if (0 : Int64) ≤ a2 then
 (mj_Mo_rounded_12 a1 a2 μ (a1))
 else
 (mj_Mo_rounded_12 a1 a2 μ (-(a1)))
theorem t_Mo_rounded {a1 : Int64} {a2 : Int64} {μ : Mem} {q : Int64} (h : m_Mo_rounded a1 a2 μ = some q) : JM true (0) y_Mo_rounded b_Mo_rounded 12 (some (.long)) 0 0 [vl (a1), vl (a2)] μ (QQ (some (vl q)) μ) := by
  unfold m_Mo_rounded at h
  refine JM.of pl_Mo_rounded (fun ρ => Nat.le_of_ble_eq_true rfl) ?_
  show J (GM true (QQ (some (vl q)) μ) (some (.long)) y_Mo_rounded.name) true b_Mo_rounded R_12 12 (0) 0 0 0 [(0, vl (a1)), (2, vl (a2))] [] μ
  refine J_lload_n (q := 1) 1 d_Mo_rounded_0 rfl rfl rfl ?_
  refine J_lconst (q := 2) (v := (0 : Int64)) d_Mo_rounded_1 (by decide) rfl ?_
  refine J_lif_ge (q := 6) (tgt := 11) d_Mo_rounded_2 d_Mo_rounded_3 (by decide) rfl (fun hc => ?_) (fun hc => ?_)
  · rw [if_pos hc] at h
    refine J_lload_n (q := 12) 0 d_Mo_rounded_11 rfl rfl rfl ?_
    refine J_pick [1] rfl ?_
    exact tj_Mo_rounded_12 a1 a2 μ _ h
  · rw [if_neg hc] at h
    refine J_lload_n (q := 7) 0 d_Mo_rounded_6 rfl rfl rfl ?_
    refine J_lneg (q := 8) d_Mo_rounded_7 rfl ?_
    refine J_goto (q := 12) d_Mo_rounded_8 (by decide) ?_
    refine J_pick [1] rfl ?_
    exact tj_Mo_rounded_12 a1 a2 μ _ h
def lp_Mo_curve_31 (a1 : Int32) (a2 : Int32) (a3 : Int32) (a4 : Int32) (c_91 : Int64 → Mem → Option (Mem)) : Nat → Int64 → Int32 → Mem → Option (Mem)
  | 0, _, _, _ => none
  | n + 1, y5, y7, μ =>
  if a3 ≤ y7 then
 (c_91 (y5) μ)
 else
 (gz (a2) <|
  ap ((a1 + y7) - (a1 + y7) / a2 * a2) fun x16 =>
  gu (x16) 100 <|
  gu ((2 : Int32) * y7) 128 <|
  ap (sL μ 375 (0) ((2 : Int32) * y7).toNatClampNeg ((gL μ 373 (0) x16.toNatClampNeg) * (y5))) fun μ19 =>
  gz (a2) <|
  ap ((a1 + y7) - (a1 + y7) / a2 * a2) fun x21 =>
  gu (x21) 100 <|
  gu (((2 : Int32) * y7) + ((1 : Int32))) 128 <|
  ap (sL μ19 375 (0) (((2 : Int32) * y7) + ((1 : Int32))).toNatClampNeg ((gL μ19 374 (0) x21.toNatClampNeg) * (y5))) fun μ24 =>
  ap (y7 + (1 : Int32)) fun x25 =>
  lp_Mo_curve_31 a1 a2 a3 a4 c_91 n (y5) (x25) μ24)
theorem tl_Mo_curve_31 (a1 : Int32) (a2 : Int32) (a3 : Int32) (a4 : Int32) {q : Mem} {c_91 : Int64 → Mem → Option (Mem)} (hc_91 : ∀ (y5 : Int64) (μ : Mem), c_91 y5 μ = some q → J (GM true (QQ none q) none y_Mo_curve.name) true b_Mo_curve R_12 8 (2) 0 0 91 [(0, vr 12 (0)), (3, vi (a3)), (4, vi (a4)), (5, vl (y5))] [] μ) : ∀ (n : Nat) (y5 : Int64) (y7 : Int32) (μ : Mem), lp_Mo_curve_31 a1 a2 a3 a4 c_91 n y5 y7 μ = some q → J (GM true (QQ none q) none y_Mo_curve.name) true b_Mo_curve R_12 8 (2) 0 0 31 [(0, vr 12 (0)), (1, vi (a1)), (2, vi (a2)), (3, vi (a3)), (4, vi (a4)), (5, vl (y5)), (7, vi (y7))] [] μ := by
  intro n
  induction n with
  | zero => intro _ _ _ h; cases h
  | succ n ih =>
    intro y5 y7 μ h
    unfold lp_Mo_curve_31 at h
    refine J_iload (q := 33) 6 d_Mo_curve_31 rfl rfl ?_
    refine J_iload_n (q := 34) 3 d_Mo_curve_33 rfl rfl rfl ?_
    refine J_icmp_ge (q := 37) (tgt := 91) d_Mo_curve_34 (by decide) rfl (fun hc => ?_) (fun hc => ?_)
    · rw [if_pos hc] at h
      refine J_pick [0, 3, 4, 5] rfl ?_
      exact hc_91 _ _ h
    · rw [if_neg hc] at h
      refine J_aload_n (q := 38) 0 d_Mo_curve_37 rfl rfl rfl ?_
      refine J_getF (q := 41) cd_12 (by decide) ft_12_35 rfl g_1086 rfl d_Mo_curve_38 rfl ?_
      refine J_iconst (q := 42) (v := (2 : Int32)) d_Mo_curve_41 (by decide) rfl ?_
      refine J_iload (q := 44) 6 d_Mo_curve_42 rfl rfl ?_
      refine J_imul (q := 45) d_Mo_curve_44 rfl ?_
      refine J_aload_n (q := 46) 0 d_Mo_curve_45 rfl rfl rfl ?_
      refine J_getF (q := 49) cd_12 (by decide) ft_12_33 rfl g_1084 rfl d_Mo_curve_46 rfl ?_
      refine J_iload_n (q := 50) 1 d_Mo_curve_49 rfl rfl rfl ?_
      refine J_iload (q := 52) 6 d_Mo_curve_50 rfl rfl ?_
      refine J_iadd (q := 53) d_Mo_curve_52 rfl ?_
      refine J_iload_n (q := 54) 2 d_Mo_curve_53 rfl rfl rfl ?_
      obtain ⟨hg15, h⟩ := gz_some h
      refine J_irem (q := 55) d_Mo_curve_54 hg15 rfl ?_
      obtain ⟨x16, hx16, h⟩ := ap_eq h
      refine J_nmI hx16 ?_
      obtain ⟨hi17, h⟩ := gu_some h
      refine J_lald (q := 56) rk_373 (by decide) hi17 d_Mo_curve_55 rfl ?_
      refine J_lload (q := 58) 5 d_Mo_curve_56 rfl rfl ?_
      refine J_lmul (q := 59) d_Mo_curve_58 rfl ?_
      obtain ⟨hi18, h⟩ := gu_some h
      refine J_last (q := 60) rk_375 (by decide) hi18 d_Mo_curve_59 rfl ?_
      obtain ⟨μ19, hμ19, h⟩ := ap_eq h
      refine J_nmM hμ19 ?_
      refine J_aload_n (q := 61) 0 d_Mo_curve_60 rfl rfl rfl ?_
      refine J_getF (q := 64) cd_12 (by decide) ft_12_35 rfl g_1086 rfl d_Mo_curve_61 rfl ?_
      refine J_iconst (q := 65) (v := (2 : Int32)) d_Mo_curve_64 (by decide) rfl ?_
      refine J_iload (q := 67) 6 d_Mo_curve_65 rfl rfl ?_
      refine J_imul (q := 68) d_Mo_curve_67 rfl ?_
      refine J_iconst (q := 69) (v := (1 : Int32)) d_Mo_curve_68 (by decide) rfl ?_
      refine J_iadd (q := 70) d_Mo_curve_69 rfl ?_
      refine J_aload_n (q := 71) 0 d_Mo_curve_70 rfl rfl rfl ?_
      refine J_getF (q := 74) cd_12 (by decide) ft_12_34 rfl g_1085 rfl d_Mo_curve_71 rfl ?_
      refine J_iload_n (q := 75) 1 d_Mo_curve_74 rfl rfl rfl ?_
      refine J_iload (q := 77) 6 d_Mo_curve_75 rfl rfl ?_
      refine J_iadd (q := 78) d_Mo_curve_77 rfl ?_
      refine J_iload_n (q := 79) 2 d_Mo_curve_78 rfl rfl rfl ?_
      obtain ⟨hg20, h⟩ := gz_some h
      refine J_irem (q := 80) d_Mo_curve_79 hg20 rfl ?_
      obtain ⟨x21, hx21, h⟩ := ap_eq h
      refine J_nmI hx21 ?_
      obtain ⟨hi22, h⟩ := gu_some h
      refine J_lald (q := 81) rk_374 (by decide) hi22 d_Mo_curve_80 rfl ?_
      refine J_lload (q := 83) 5 d_Mo_curve_81 rfl rfl ?_
      refine J_lmul (q := 84) d_Mo_curve_83 rfl ?_
      obtain ⟨hi23, h⟩ := gu_some h
      refine J_last (q := 85) rk_375 (by decide) hi23 d_Mo_curve_84 rfl ?_
      obtain ⟨μ24, hμ24, h⟩ := ap_eq h
      refine J_nmM hμ24 ?_
      obtain ⟨x25, hx25, h⟩ := ap_eq h
      refine J_iinc (q := 88) (v := x25) (lv' := [(7, vi (x25)), (0, vr 12 (0)), (1, vi (a1)), (2, vi (a2)), (3, vi (a3)), (4, vi (a4)), (5, vl (y5))]) 6 d_Mo_curve_85 rfl (by rw [hx25]; rfl) (by decide) rfl rfl ?_
      refine J_goto (q := 31) d_Mo_curve_88 (by decide) ?_
      refine J_pick [1, 2, 3, 4, 5, 6, 0] rfl ?_
      exact ih _ _ _ h
def mj_Mo_curve_156 (a1 : Int32) (a2 : Int32) (a3 : Int32) (a4 : Int32) (c_91 : Int64 → Mem → Option (Mem)) (y5 : Int64) (y7 : Int32) (μ : Mem) : Option (Mem) :=
  ap (sI μ 12 (0) 37 ((gI μ 12 (0) 37) - ((1 : Int32)))) fun μ28 =>
  gu (((y7) + ((2 : Int32) * a3)) - ((2 : Int32))) 128 <|
  Option.bind (m_Mo_rounded (gL μ28 375 (0) (((y7) + ((2 : Int32) * a3)) - ((2 : Int32))).toNatClampNeg) (y5) μ28) fun r30 =>
  gu (((y7) + ((2 : Int32) * a3)) - ((1 : Int32))) 128 <|
  Option.bind (m_Mo_rounded (gL μ28 375 (0) (((y7) + ((2 : Int32) * a3)) - ((1 : Int32))).toNatClampNeg) (y5) μ28) fun r32 =>
  Option.bind (m_Mo_adds (r30) (r32) μ28) fun r33 =>
  c_91 (y5) r33
theorem tj_Mo_curve_156 (a1 : Int32) (a2 : Int32) (a3 : Int32) (a4 : Int32) {q : Mem} {c_91 : Int64 → Mem → Option (Mem)} (hc_91 : ∀ (y5 : Int64) (μ : Mem), c_91 y5 μ = some q → J (GM true (QQ none q) none y_Mo_curve.name) true b_Mo_curve R_12 8 (2) 0 0 91 [(0, vr 12 (0)), (3, vi (a3)), (4, vi (a4)), (5, vl (y5))] [] μ) (y5 : Int64) (y7 : Int32) (μ : Mem) (h : mj_Mo_curve_156 a1 a2 a3 a4 c_91 y5 y7 μ = some q) : J (GM true (QQ none q) none y_Mo_curve.name) true b_Mo_curve R_12 8 (2) 0 0 156 [(0, vr 12 (0)), (3, vi (a3)), (4, vi (a4)), (5, vl (y5)), (7, vi (y7))] [] μ := by
  unfold mj_Mo_curve_156 at h
  refine J_aload_n (q := 157) 0 d_Mo_curve_156 rfl rfl rfl ?_
  refine J_dupR (q := 158) d_Mo_curve_157 rfl ?_
  refine J_getI (q := 161) (j := 37) cd_12 (by decide) (Or.inl rfl) g_1088 rfl d_Mo_curve_158 rfl ?_
  refine J_iconst (q := 162) (v := (1 : Int32)) d_Mo_curve_161 (by decide) rfl ?_
  refine J_isub (q := 163) d_Mo_curve_162 rfl ?_
  refine J_putI (q := 166) (j := 37) cd_12 (by decide) rfl rfl rfl g_1088 rfl d_Mo_curve_163 rfl ?_
  obtain ⟨μ28, hμ28, h⟩ := ap_eq h
  refine J_nmM hμ28 ?_
  refine J_aload_n (q := 167) 0 d_Mo_curve_166 rfl rfl rfl ?_
  refine J_aload_n (q := 168) 0 d_Mo_curve_167 rfl rfl rfl ?_
  refine J_getF (q := 171) cd_12 (by decide) ft_12_35 rfl g_1086 rfl d_Mo_curve_168 rfl ?_
  refine J_iload (q := 173) 4 d_Mo_curve_171 rfl rfl ?_
  refine J_iconst (q := 174) (v := (2 : Int32)) d_Mo_curve_173 (by decide) rfl ?_
  refine J_iload_n (q := 175) 1 d_Mo_curve_174 rfl rfl rfl ?_
  refine J_imul (q := 176) d_Mo_curve_175 rfl ?_
  refine J_iadd (q := 177) d_Mo_curve_176 rfl ?_
  refine J_iconst (q := 178) (v := (2 : Int32)) d_Mo_curve_177 (by decide) rfl ?_
  refine J_isub (q := 179) d_Mo_curve_178 rfl ?_
  obtain ⟨hi29, h⟩ := gu_some h
  refine J_lald (q := 180) rk_375 (by decide) hi29 d_Mo_curve_179 rfl ?_
  refine J_lload (q := 182) 3 d_Mo_curve_180 rfl rfl ?_
  obtain ⟨r30, hr30, h⟩ := bd_some h
  refine J_callSq (rc := 0) (rs := 0) (q := 185) (as := [vl (gL μ28 375 (0) (((y7) + ((2 : Int32) * a3)) - ((2 : Int32))).toNatClampNeg), vl (y5)]) (st := [vr 12 (0)]) g_1370 (t_Mo_rounded hr30) (by decide) (by decide) g_1369 g_1371 g_10 hy_Mo_rounded rfl (Nat.le_of_ble_eq_true rfl) d_Mo_curve_182 rfl ?_
  refine J_aload_n (q := 186) 0 d_Mo_curve_185 rfl rfl rfl ?_
  refine J_getF (q := 189) cd_12 (by decide) ft_12_35 rfl g_1086 rfl d_Mo_curve_186 rfl ?_
  refine J_iload (q := 191) 4 d_Mo_curve_189 rfl rfl ?_
  refine J_iconst (q := 192) (v := (2 : Int32)) d_Mo_curve_191 (by decide) rfl ?_
  refine J_iload_n (q := 193) 1 d_Mo_curve_192 rfl rfl rfl ?_
  refine J_imul (q := 194) d_Mo_curve_193 rfl ?_
  refine J_iadd (q := 195) d_Mo_curve_194 rfl ?_
  refine J_iconst (q := 196) (v := (1 : Int32)) d_Mo_curve_195 (by decide) rfl ?_
  refine J_isub (q := 197) d_Mo_curve_196 rfl ?_
  obtain ⟨hi31, h⟩ := gu_some h
  refine J_lald (q := 198) rk_375 (by decide) hi31 d_Mo_curve_197 rfl ?_
  refine J_lload (q := 200) 3 d_Mo_curve_198 rfl rfl ?_
  obtain ⟨r32, hr32, h⟩ := bd_some h
  refine J_callSq (rc := 0) (rs := 0) (q := 203) (as := [vl (gL μ28 375 (0) (((y7) + ((2 : Int32) * a3)) - ((1 : Int32))).toNatClampNeg), vl (y5)]) (st := [vl (r30), vr 12 (0)]) g_1370 (t_Mo_rounded hr32) (by decide) (by decide) g_1369 g_1371 g_10 hy_Mo_rounded rfl (Nat.le_of_ble_eq_true rfl) d_Mo_curve_200 rfl ?_
  obtain ⟨r33, hr33, h⟩ := bd_some h
  refine J_callVv (rc := 0) (rs := 0) (q := 206) (as := [vl (r30), vl (r32)]) (st := []) (by decide) rfl g_1375 sel_Mo_adds (t_Mo_adds hr33) (by decide) (by decide) g_1373 g_1376 g_10 hy_Mo_adds rfl (Nat.le_of_ble_eq_true rfl) d_Mo_curve_203 rfl ?_
  refine J_goto (q := 91) d_Mo_curve_206 (by decide) ?_
  refine J_pick [0, 1, 2, 3] rfl ?_
  exact hc_91 _ _ h
def lp_Mo_curve_91 (a1 : Int32) (a2 : Int32) (a3 : Int32) (a4 : Int32) : Nat → Int64 → Mem → Option (Mem)
  | 0, _, _ => none
  | n + 1, y5, μ =>
  if gI μ 12 (0) 37 ≤ 0 then
 (some μ)
 else
 (if gI μ 12 (0) 32 = 0 then
 (some μ)
 else
 (ap (((8 : Int32)) * ((gI μ 12 (0) 37) - ((1 : Int32)))) fun x36 =>
  gu ((gI μ 12 (0) 37) - ((1 : Int32))) 16 <|
  if (10 : Int32) ≤ gI μ 376 (0) ((gI μ 12 (0) 37) - ((1 : Int32))).toNatClampNeg then
 (mj_Mo_curve_156 a1 a2 a3 a4 (lp_Mo_curve_91 a1 a2 a3 a4 n) (y5) (x36) μ)
 else
 (Option.bind (m_Mo_isFlat (x36) (a3) (((a4).toInt64) * (y5)) μ) fun r38 =>
  if r38 then
 (mj_Mo_curve_156 a1 a2 a3 a4 (lp_Mo_curve_91 a1 a2 a3 a4 n) (y5) (x36) μ)
 else
 (Option.bind (m_Mo_halves (a3) μ) fun r39 =>
  lp_Mo_curve_91 a1 a2 a3 a4 n (y5) r39))))
theorem tl_Mo_curve_91 (a1 : Int32) (a2 : Int32) (a3 : Int32) (a4 : Int32) {q : Mem}  : ∀ (n : Nat) (y5 : Int64) (μ : Mem), lp_Mo_curve_91 a1 a2 a3 a4 n y5 μ = some q → J (GM true (QQ none q) none y_Mo_curve.name) true b_Mo_curve R_12 8 (2) 0 0 91 [(0, vr 12 (0)), (3, vi (a3)), (4, vi (a4)), (5, vl (y5))] [] μ := by
  intro n
  induction n with
  | zero => intro _ _ h; cases h
  | succ n ih =>
    intro y5 μ h
    unfold lp_Mo_curve_91 at h
    refine J_aload_n (q := 92) 0 d_Mo_curve_91 rfl rfl rfl ?_
    refine J_getI (q := 95) (j := 37) cd_12 (by decide) (Or.inl rfl) g_1088 rfl d_Mo_curve_92 rfl ?_
    refine J_if_le (q := 98) (tgt := 209) d_Mo_curve_95 (by decide) rfl (fun hc => ?_) (fun hc => ?_)
    · rw [if_pos hc] at h
      obtain rfl := Option.some.inj h
      exact J_vret rfl ⟨rfl, rfl⟩ d_Mo_curve_209
    · rw [if_neg hc] at h
      refine J_aload_n (q := 99) 0 d_Mo_curve_98 rfl rfl rfl ?_
      refine J_getI (q := 102) (j := 32) cd_12 (by decide) (Or.inr rfl) g_1083 rfl d_Mo_curve_99 rfl ?_
      refine J_if_eq (q := 105) (tgt := 209) d_Mo_curve_102 (by decide) rfl (fun hc => ?_) (fun hc => ?_)
      · rw [if_pos hc] at h
        obtain rfl := Option.some.inj h
        exact J_vret rfl ⟨rfl, rfl⟩ d_Mo_curve_209
      · rw [if_neg hc] at h
        refine J_bipush (q := 107) (v := (8 : Int32)) d_Mo_curve_105 (by decide) rfl ?_
        refine J_aload_n (q := 108) 0 d_Mo_curve_107 rfl rfl rfl ?_
        refine J_getI (q := 111) (j := 37) cd_12 (by decide) (Or.inl rfl) g_1088 rfl d_Mo_curve_108 rfl ?_
        refine J_iconst (q := 112) (v := (1 : Int32)) d_Mo_curve_111 (by decide) rfl ?_
        refine J_isub (q := 113) d_Mo_curve_112 rfl ?_
        refine J_imul (q := 114) d_Mo_curve_113 rfl ?_
        obtain ⟨x36, hx36, h⟩ := ap_eq h
        refine J_nmI hx36 ?_
        refine J_istore (q := 116) (lv' := [(7, vi (x36)), (0, vr 12 (0)), (3, vi (a3)), (4, vi (a4)), (5, vl (y5))]) d_Mo_curve_114 (by decide) rfl rfl ?_
        refine J_aload_n (q := 117) 1 d_Mo_curve_116 rfl rfl rfl ?_
        refine J_getF (q := 120) cd_12 (by decide) ft_12_36 rfl g_1087 rfl d_Mo_curve_117 rfl ?_
        refine J_aload_n (q := 121) 1 d_Mo_curve_120 rfl rfl rfl ?_
        refine J_getI (q := 124) (j := 37) cd_12 (by decide) (Or.inl rfl) g_1088 rfl d_Mo_curve_121 rfl ?_
        refine J_iconst (q := 125) (v := (1 : Int32)) d_Mo_curve_124 (by decide) rfl ?_
        refine J_isub (q := 126) d_Mo_curve_125 rfl ?_
        obtain ⟨hi37, h⟩ := gu_some h
        refine J_iald (q := 127) rk_376 (by decide) hi37 d_Mo_curve_126 rfl ?_
        refine J_bipush (q := 129) (v := (10 : Int32)) d_Mo_curve_127 (by decide) rfl ?_
        refine J_icmp_ge (q := 132) (tgt := 156) d_Mo_curve_129 (by decide) rfl (fun hc => ?_) (fun hc => ?_)
        · rw [if_pos hc] at h
          refine J_pick [1, 2, 3, 4, 0] rfl ?_
          exact tj_Mo_curve_156 a1 a2 a3 a4 ih _ _ _ h
        · rw [if_neg hc] at h
          refine J_aload_n (q := 133) 1 d_Mo_curve_132 rfl rfl rfl ?_
          refine J_iload (q := 135) 0 d_Mo_curve_133 rfl rfl ?_
          refine J_iload_n (q := 136) 2 d_Mo_curve_135 rfl rfl rfl ?_
          refine J_iload (q := 138) 3 d_Mo_curve_136 rfl rfl ?_
          refine J_i2l (q := 139) d_Mo_curve_138 rfl ?_
          refine J_lload (q := 141) 4 d_Mo_curve_139 rfl rfl ?_
          refine J_lmul (q := 142) d_Mo_curve_141 rfl ?_
          obtain ⟨r38, hr38, h⟩ := bd_some h
          refine J_callVq (rc := 0) (rs := 0) (q := 145) (as := [vi (x36), vi (a3), vl (((a4).toInt64) * (y5))]) (st := []) (by decide) rfl g_1387 sel_Mo_isFlat (t_Mo_isFlat hr38) (by decide) (by decide) g_1385 g_1388 g_10 hy_Mo_isFlat rfl (Nat.le_of_ble_eq_true rfl) d_Mo_curve_142 rfl ?_
          refine J_ifB_ne (q := 148) (tgt := 156) d_Mo_curve_145 (by decide) rfl (fun hb => ?_) (fun hb => ?_)
          · rw [iB_t hb] at h
            refine J_pick [1, 2, 3, 4, 0] rfl ?_
            exact tj_Mo_curve_156 a1 a2 a3 a4 ih _ _ _ h
          · rw [iB_f hb] at h
            refine J_aload_n (q := 149) 1 d_Mo_curve_148 rfl rfl rfl ?_
            refine J_iload_n (q := 150) 2 d_Mo_curve_149 rfl rfl rfl ?_
            obtain ⟨r39, hr39, h⟩ := bd_some h
            refine J_callVv (rc := 0) (rs := 0) (q := 153) (as := [vi (a3)]) (st := []) (by decide) rfl g_1394 sel_Mo_halves (t_Mo_halves hr39) (by decide) (by decide) g_1392 g_1395 g_10 hy_Mo_halves rfl (Nat.le_of_ble_eq_true rfl) d_Mo_curve_150 rfl ?_
            refine J_goto (q := 91) d_Mo_curve_153 (by decide) ?_
            refine J_pick [1, 2, 3, 4] rfl ?_
            exact ih _ _ h
def mj_Mo_curve_14 (a1 : Int32) (a2 : Int32) (a3 : Int32) (a4 : Int32) (z0 : Int64) (μ : Mem) : Option (Mem) :=
  ap (sI μ 12 (0) 37 ((1 : Int32))) fun μ1 =>
  gu ((0 : Int32)) 16 <|
  ap (sI μ1 376 (0) ((0 : Int32)).toNatClampNeg ((0 : Int32))) fun μ3 =>
  lp_Mo_curve_31 a1 a2 a3 a4 (lp_Mo_curve_91 a1 a2 a3 a4 FU) FU (z0) ((0 : Int32)) μ3
theorem tj_Mo_curve_14 (a1 : Int32) (a2 : Int32) (a3 : Int32) (a4 : Int32) {q : Mem}  (z0 : Int64) (μ : Mem) (h : mj_Mo_curve_14 a1 a2 a3 a4 z0 μ = some q) : J (GM true (QQ none q) none y_Mo_curve.name) true b_Mo_curve R_12 8 (2) 0 0 14 [(0, vr 12 (0)), (1, vi (a1)), (2, vi (a2)), (3, vi (a3)), (4, vi (a4))] [vl (z0)] μ := by
  unfold mj_Mo_curve_14 at h
  refine J_lstore (q := 16) (lv' := [(5, vl (z0)), (0, vr 12 (0)), (1, vi (a1)), (2, vi (a2)), (3, vi (a3)), (4, vi (a4))]) d_Mo_curve_14 (by decide) rfl rfl ?_
  refine J_aload_n (q := 17) 1 d_Mo_curve_16 rfl rfl rfl ?_
  refine J_iconst (q := 18) (v := (1 : Int32)) d_Mo_curve_17 (by decide) rfl ?_
  refine J_putI (q := 21) (j := 37) cd_12 (by decide) rfl rfl rfl g_1088 rfl d_Mo_curve_18 rfl ?_
  obtain ⟨μ1, hμ1, h⟩ := ap_eq h
  refine J_nmM hμ1 ?_
  refine J_aload_n (q := 22) 1 d_Mo_curve_21 rfl rfl rfl ?_
  refine J_getF (q := 25) cd_12 (by decide) ft_12_36 rfl g_1087 rfl d_Mo_curve_22 rfl ?_
  refine J_iconst (q := 26) (v := (0 : Int32)) d_Mo_curve_25 (by decide) rfl ?_
  refine J_iconst (q := 27) (v := (0 : Int32)) d_Mo_curve_26 (by decide) rfl ?_
  obtain ⟨hi2, h⟩ := gu_some h
  refine J_iast (q := 28) rk_376 (by decide) hi2 d_Mo_curve_27 rfl ?_
  obtain ⟨μ3, hμ3, h⟩ := ap_eq h
  refine J_nmM hμ3 ?_
  refine J_iconst (q := 29) (v := (0 : Int32)) d_Mo_curve_28 (by decide) rfl ?_
  refine J_istore (q := 31) (lv' := [(7, vi ((0 : Int32))), (5, vl (z0)), (0, vr 12 (0)), (1, vi (a1)), (2, vi (a2)), (3, vi (a3)), (4, vi (a4))]) d_Mo_curve_29 (by decide) rfl rfl ?_
  refine J_pick [2, 3, 4, 5, 6, 1, 0] rfl ?_
  exact tl_Mo_curve_31 a1 a2 a3 a4 (fun _ _ h => tl_Mo_curve_91 a1 a2 a3 a4 FU _ _ h) FU _ _ _ h
def m_Mo_curve (a1 : Int32) (a2 : Int32) (a3 : Int32) (a4 : Int32) (μ : Mem) : Option (Mem) :=
  if a3 = (3 : Int32) then
 (mj_Mo_curve_14 a1 a2 a3 a4 ((1048576 : Int64)) μ)
 else
 (mj_Mo_curve_14 a1 a2 a3 a4 ((1073741824 : Int64)) μ)
theorem t_Mo_curve {a1 : Int32} {a2 : Int32} {a3 : Int32} {a4 : Int32} {μ : Mem} {q : Mem} (h : m_Mo_curve a1 a2 a3 a4 μ = some q) : JM true (2) y_Mo_curve b_Mo_curve 8 none 0 0 [vr 12 (0), vi (a1), vi (a2), vi (a3), vi (a4)] μ (QQ none q) := by
  unfold m_Mo_curve at h
  refine JM.of pl_Mo_curve (fun ρ => Nat.le_of_ble_eq_true rfl) ?_
  show J (GM true (QQ none q) none y_Mo_curve.name) true b_Mo_curve R_12 8 (2) 0 0 0 [(0, vr 12 (0)), (1, vi (a1)), (2, vi (a2)), (3, vi (a3)), (4, vi (a4))] [] μ
  refine J_iload_n (q := 1) 3 d_Mo_curve_0 rfl rfl rfl ?_
  refine J_iconst (q := 2) (v := (3 : Int32)) d_Mo_curve_1 (by decide) rfl ?_
  refine J_icmp_ne (q := 5) (tgt := 11) d_Mo_curve_2 (by decide) rfl (fun hc => ?_) (fun hc => ?_)
  · rw [if_neg hc] at h
    refine J_ldc2 (q := 14) d_Mo_curve_11 g_1384 rfl ?_
    refine J_pick [0, 1, 2, 3, 4] rfl ?_
    exact tj_Mo_curve_14 a1 a2 a3 a4 _ _ h
  · rw [if_pos hc] at h
    refine J_ldc2 (q := 8) d_Mo_curve_5 g_1383 rfl ?_
    refine J_goto (q := 14) d_Mo_curve_8 (by decide) ?_
    refine J_pick [0, 1, 2, 3, 4] rfl ?_
    exact tj_Mo_curve_14 a1 a2 a3 a4 _ _ h
def lp_Mo_outlineOf_75 (a1 : Int32) (a2 : Int32) (a3 : Int32) (a4 : Int32) (c_206 : Int32 → Int32 → Int32 → Int64 → Int64 → Mem → Option (Mem)) : Nat → Int32 → Int32 → Int32 → Int64 → Int64 → Int32 → Mem → Option (Mem)
  | 0, _, _, _, _, _, _, _ => none
  | n + 1, y5, y6, y7, y8, y10, y12, μ =>
  if y12 < 0 then
 (c_206 (y5) (y6) (y7) (y8) (y10) μ)
 else
 (gu (y12) 8 <|
  gu (y12) 8 <|
  ap (((((6 : Int32)) * (gI μ 360 (0) y12.toNatClampNeg)) + (gI μ 361 (0) y12.toNatClampNeg)) - ((1 : Int32))) fun x25 =>
  gu ((4 : Int32) * x25) 768 <|
  gu (((4 : Int32) * x25) + ((1 : Int32))) 768 <|
  Option.bind (m_Mo_rounded ((((gI μ 354 (0) ((4 : Int32) * x25).toNatClampNeg).toInt64) * (y8)) + (((gI μ 354 (0) (((4 : Int32) * x25) + ((1 : Int32))).toNatClampNeg).toInt64) * (y10))) ((16384 : Int64)) μ) fun r28 =>
  gu (x25) 192 <|
  ap ((r28) + ((gI μ 355 (0) x25.toNatClampNeg).toInt64)) fun x30 =>
  gu (((4 : Int32) * x25) + ((2 : Int32))) 768 <|
  gu (((4 : Int32) * x25) + ((3 : Int32))) 768 <|
  Option.bind (m_Mo_rounded ((((gI μ 354 (0) (((4 : Int32) * x25) + ((2 : Int32))).toNatClampNeg).toInt64) * (y8)) + (((gI μ 354 (0) (((4 : Int32) * x25) + ((3 : Int32))).toNatClampNeg).toInt64) * (y10))) ((16384 : Int64)) μ) fun r33 =>
  gu (x25) 192 <|
  ap ((r33) + ((gI μ 356 (0) x25.toNatClampNeg).toInt64)) fun x35 =>
  ap (y12 + (-1 : Int32)) fun x36 =>
  lp_Mo_outlineOf_75 a1 a2 a3 a4 c_206 n (y5) (y6) (y7) (x30) (x35) (x36) μ)
theorem tl_Mo_outlineOf_75 (a1 : Int32) (a2 : Int32) (a3 : Int32) (a4 : Int32) {q : Mem} {c_206 : Int32 → Int32 → Int32 → Int64 → Int64 → Mem → Option (Mem)} (hc_206 : ∀ (y5 : Int32) (y6 : Int32) (y7 : Int32) (y8 : Int64) (y10 : Int64) (μ : Mem), c_206 y5 y6 y7 y8 y10 μ = some q → J (GM true (QQ none q) none y_Mo_outlineOf.name) true b_Mo_outlineOf R_12 16 (3) 0 0 206 [(0, vr 12 (0)), (1, vi (a1)), (3, vi (a3)), (4, vi (a4)), (5, vi (y5)), (6, vi (y6)), (7, vi (y7)), (8, vl (y8)), (10, vl (y10))] [] μ) : ∀ (n : Nat) (y5 : Int32) (y6 : Int32) (y7 : Int32) (y8 : Int64) (y10 : Int64) (y12 : Int32) (μ : Mem), lp_Mo_outlineOf_75 a1 a2 a3 a4 c_206 n y5 y6 y7 y8 y10 y12 μ = some q → J (GM true (QQ none q) none y_Mo_outlineOf.name) true b_Mo_outlineOf R_12 16 (3) 0 0 75 [(0, vr 12 (0)), (1, vi (a1)), (3, vi (a3)), (4, vi (a4)), (5, vi (y5)), (6, vi (y6)), (7, vi (y7)), (8, vl (y8)), (10, vl (y10)), (12, vi (y12))] [] μ := by
  intro n
  induction n with
  | zero => intro _ _ _ _ _ _ _ h; cases h
  | succ n ih =>
    intro y5 y6 y7 y8 y10 y12 μ h
    unfold lp_Mo_outlineOf_75 at h
    refine J_iload (q := 77) 9 d_Mo_outlineOf_75 rfl rfl ?_
    refine J_if_lt (q := 80) (tgt := 206) d_Mo_outlineOf_77 (by decide) rfl (fun hc => ?_) (fun hc => ?_)
    · rw [if_pos hc] at h
      refine J_pick [0, 1, 2, 3, 4, 5, 6, 7, 8] rfl ?_
      exact hc_206 _ _ _ _ _ _ h
    · rw [if_neg hc] at h
      refine J_bipush (q := 82) (v := (6 : Int32)) d_Mo_outlineOf_80 (by decide) rfl ?_
      refine J_aload_n (q := 83) 0 d_Mo_outlineOf_82 rfl rfl rfl ?_
      refine J_getF (q := 86) cd_12 (by decide) ft_12_20 rfl g_1071 rfl d_Mo_outlineOf_83 rfl ?_
      refine J_iload (q := 88) 9 d_Mo_outlineOf_86 rfl rfl ?_
      obtain ⟨hi23, h⟩ := gu_some h
      refine J_iald (q := 89) rk_360 (by decide) hi23 d_Mo_outlineOf_88 rfl ?_
      refine J_imul (q := 90) d_Mo_outlineOf_89 rfl ?_
      refine J_aload_n (q := 91) 0 d_Mo_outlineOf_90 rfl rfl rfl ?_
      refine J_getF (q := 94) cd_12 (by decide) ft_12_21 rfl g_1072 rfl d_Mo_outlineOf_91 rfl ?_
      refine J_iload (q := 96) 9 d_Mo_outlineOf_94 rfl rfl ?_
      obtain ⟨hi24, h⟩ := gu_some h
      refine J_iald (q := 97) rk_361 (by decide) hi24 d_Mo_outlineOf_96 rfl ?_
      refine J_iadd (q := 98) d_Mo_outlineOf_97 rfl ?_
      refine J_iconst (q := 99) (v := (1 : Int32)) d_Mo_outlineOf_98 (by decide) rfl ?_
      refine J_isub (q := 100) d_Mo_outlineOf_99 rfl ?_
      obtain ⟨x25, hx25, h⟩ := ap_eq h
      refine J_nmI hx25 ?_
      refine J_istore (q := 102) (lv' := [(13, vi (x25)), (0, vr 12 (0)), (1, vi (a1)), (3, vi (a3)), (4, vi (a4)), (5, vi (y5)), (6, vi (y6)), (7, vi (y7)), (8, vl (y8)), (10, vl (y10)), (12, vi (y12))]) d_Mo_outlineOf_100 (by decide) rfl rfl ?_
      refine J_aload_n (q := 103) 1 d_Mo_outlineOf_102 rfl rfl rfl ?_
      refine J_getF (q := 106) cd_12 (by decide) ft_12_14 rfl g_1065 rfl d_Mo_outlineOf_103 rfl ?_
      refine J_iconst (q := 107) (v := (4 : Int32)) d_Mo_outlineOf_106 (by decide) rfl ?_
      refine J_iload (q := 109) 0 d_Mo_outlineOf_107 rfl rfl ?_
      refine J_imul (q := 110) d_Mo_outlineOf_109 rfl ?_
      obtain ⟨hi26, h⟩ := gu_some h
      refine J_iald (q := 111) rk_354 (by decide) hi26 d_Mo_outlineOf_110 rfl ?_
      refine J_i2l (q := 112) d_Mo_outlineOf_111 rfl ?_
      refine J_lload (q := 114) 8 d_Mo_outlineOf_112 rfl rfl ?_
      refine J_lmul (q := 115) d_Mo_outlineOf_114 rfl ?_
      refine J_aload_n (q := 116) 1 d_Mo_outlineOf_115 rfl rfl rfl ?_
      refine J_getF (q := 119) cd_12 (by decide) ft_12_14 rfl g_1065 rfl d_Mo_outlineOf_116 rfl ?_
      refine J_iconst (q := 120) (v := (4 : Int32)) d_Mo_outlineOf_119 (by decide) rfl ?_
      refine J_iload (q := 122) 0 d_Mo_outlineOf_120 rfl rfl ?_
      refine J_imul (q := 123) d_Mo_outlineOf_122 rfl ?_
      refine J_iconst (q := 124) (v := (1 : Int32)) d_Mo_outlineOf_123 (by decide) rfl ?_
      refine J_iadd (q := 125) d_Mo_outlineOf_124 rfl ?_
      obtain ⟨hi27, h⟩ := gu_some h
      refine J_iald (q := 126) rk_354 (by decide) hi27 d_Mo_outlineOf_125 rfl ?_
      refine J_i2l (q := 127) d_Mo_outlineOf_126 rfl ?_
      refine J_lload (q := 129) 9 d_Mo_outlineOf_127 rfl rfl ?_
      refine J_lmul (q := 130) d_Mo_outlineOf_129 rfl ?_
      refine J_ladd (q := 131) d_Mo_outlineOf_130 rfl ?_
      refine J_ldc2 (q := 134) d_Mo_outlineOf_131 g_1368 rfl ?_
      obtain ⟨r28, hr28, h⟩ := bd_some h
      refine J_callSq (rc := 0) (rs := 0) (q := 137) (as := [vl ((((gI μ 354 (0) ((4 : Int32) * x25).toNatClampNeg).toInt64) * (y8)) + (((gI μ 354 (0) (((4 : Int32) * x25) + ((1 : Int32))).toNatClampNeg).toInt64) * (y10))), vl ((16384 : Int64))]) (st := []) g_1370 (t_Mo_rounded hr28) (by decide) (by decide) g_1369 g_1371 g_10 hy_Mo_rounded rfl (Nat.le_of_ble_eq_true rfl) d_Mo_outlineOf_134 rfl ?_
      refine J_aload_n (q := 138) 1 d_Mo_outlineOf_137 rfl rfl rfl ?_
      refine J_getF (q := 141) cd_12 (by decide) ft_12_15 rfl g_1066 rfl d_Mo_outlineOf_138 rfl ?_
      refine J_iload (q := 143) 0 d_Mo_outlineOf_141 rfl rfl ?_
      obtain ⟨hi29, h⟩ := gu_some h
      refine J_iald (q := 144) rk_355 (by decide) hi29 d_Mo_outlineOf_143 rfl ?_
      refine J_i2l (q := 145) d_Mo_outlineOf_144 rfl ?_
      refine J_ladd (q := 146) d_Mo_outlineOf_145 rfl ?_
      obtain ⟨x30, hx30, h⟩ := ap_eq h
      refine J_nmL hx30 ?_
      refine J_lstore (q := 148) (lv' := [(14, vl (x30)), (13, vi (x25)), (0, vr 12 (0)), (1, vi (a1)), (3, vi (a3)), (4, vi (a4)), (5, vi (y5)), (6, vi (y6)), (7, vi (y7)), (8, vl (y8)), (10, vl (y10)), (12, vi (y12))]) d_Mo_outlineOf_146 (by decide) rfl rfl ?_
      refine J_aload_n (q := 149) 2 d_Mo_outlineOf_148 rfl rfl rfl ?_
      refine J_getF (q := 152) cd_12 (by decide) ft_12_14 rfl g_1065 rfl d_Mo_outlineOf_149 rfl ?_
      refine J_iconst (q := 153) (v := (4 : Int32)) d_Mo_outlineOf_152 (by decide) rfl ?_
      refine J_iload (q := 155) 1 d_Mo_outlineOf_153 rfl rfl ?_
      refine J_imul (q := 156) d_Mo_outlineOf_155 rfl ?_
      refine J_iconst (q := 157) (v := (2 : Int32)) d_Mo_outlineOf_156 (by decide) rfl ?_
      refine J_iadd (q := 158) d_Mo_outlineOf_157 rfl ?_
      obtain ⟨hi31, h⟩ := gu_some h
      refine J_iald (q := 159) rk_354 (by decide) hi31 d_Mo_outlineOf_158 rfl ?_
      refine J_i2l (q := 160) d_Mo_outlineOf_159 rfl ?_
      refine J_lload (q := 162) 9 d_Mo_outlineOf_160 rfl rfl ?_
      refine J_lmul (q := 163) d_Mo_outlineOf_162 rfl ?_
      refine J_aload_n (q := 164) 2 d_Mo_outlineOf_163 rfl rfl rfl ?_
      refine J_getF (q := 167) cd_12 (by decide) ft_12_14 rfl g_1065 rfl d_Mo_outlineOf_164 rfl ?_
      refine J_iconst (q := 168) (v := (4 : Int32)) d_Mo_outlineOf_167 (by decide) rfl ?_
      refine J_iload (q := 170) 1 d_Mo_outlineOf_168 rfl rfl ?_
      refine J_imul (q := 171) d_Mo_outlineOf_170 rfl ?_
      refine J_iconst (q := 172) (v := (3 : Int32)) d_Mo_outlineOf_171 (by decide) rfl ?_
      refine J_iadd (q := 173) d_Mo_outlineOf_172 rfl ?_
      obtain ⟨hi32, h⟩ := gu_some h
      refine J_iald (q := 174) rk_354 (by decide) hi32 d_Mo_outlineOf_173 rfl ?_
      refine J_i2l (q := 175) d_Mo_outlineOf_174 rfl ?_
      refine J_lload (q := 177) 10 d_Mo_outlineOf_175 rfl rfl ?_
      refine J_lmul (q := 178) d_Mo_outlineOf_177 rfl ?_
      refine J_ladd (q := 179) d_Mo_outlineOf_178 rfl ?_
      refine J_ldc2 (q := 182) d_Mo_outlineOf_179 g_1368 rfl ?_
      obtain ⟨r33, hr33, h⟩ := bd_some h
      refine J_callSq (rc := 0) (rs := 0) (q := 185) (as := [vl ((((gI μ 354 (0) (((4 : Int32) * x25) + ((2 : Int32))).toNatClampNeg).toInt64) * (y8)) + (((gI μ 354 (0) (((4 : Int32) * x25) + ((3 : Int32))).toNatClampNeg).toInt64) * (y10))), vl ((16384 : Int64))]) (st := []) g_1370 (t_Mo_rounded hr33) (by decide) (by decide) g_1369 g_1371 g_10 hy_Mo_rounded rfl (Nat.le_of_ble_eq_true rfl) d_Mo_outlineOf_182 rfl ?_
      refine J_aload_n (q := 186) 2 d_Mo_outlineOf_185 rfl rfl rfl ?_
      refine J_getF (q := 189) cd_12 (by decide) ft_12_16 rfl g_1067 rfl d_Mo_outlineOf_186 rfl ?_
      refine J_iload (q := 191) 1 d_Mo_outlineOf_189 rfl rfl ?_
      obtain ⟨hi34, h⟩ := gu_some h
      refine J_iald (q := 192) rk_356 (by decide) hi34 d_Mo_outlineOf_191 rfl ?_
      refine J_i2l (q := 193) d_Mo_outlineOf_192 rfl ?_
      refine J_ladd (q := 194) d_Mo_outlineOf_193 rfl ?_
      obtain ⟨x35, hx35, h⟩ := ap_eq h
      refine J_nmL hx35 ?_
      refine J_lstore (q := 196) (lv' := [(10, vl (x35)), (14, vl (x30)), (13, vi (x25)), (0, vr 12 (0)), (1, vi (a1)), (3, vi (a3)), (4, vi (a4)), (5, vi (y5)), (6, vi (y6)), (7, vi (y7)), (8, vl (y8)), (12, vi (y12))]) d_Mo_outlineOf_194 (by decide) rfl rfl ?_
      refine J_lload (q := 198) 1 d_Mo_outlineOf_196 rfl rfl ?_
      refine J_lstore (q := 200) (lv' := [(8, vl (x30)), (10, vl (x35)), (14, vl (x30)), (13, vi (x25)), (0, vr 12 (0)), (1, vi (a1)), (3, vi (a3)), (4, vi (a4)), (5, vi (y5)), (6, vi (y6)), (7, vi (y7)), (12, vi (y12))]) d_Mo_outlineOf_198 (by decide) rfl rfl ?_
      obtain ⟨x36, hx36, h⟩ := ap_eq h
      refine J_iinc (q := 203) (v := x36) (lv' := [(12, vi (x36)), (8, vl (x30)), (10, vl (x35)), (14, vl (x30)), (13, vi (x25)), (0, vr 12 (0)), (1, vi (a1)), (3, vi (a3)), (4, vi (a4)), (5, vi (y5)), (6, vi (y6)), (7, vi (y7))]) 11 d_Mo_outlineOf_200 rfl (by rw [hx36]; rfl) (by decide) rfl rfl ?_
      refine J_goto (q := 75) d_Mo_outlineOf_203 (by decide) ?_
      refine J_pick [5, 6, 7, 8, 9, 10, 11, 1, 2, 0] rfl ?_
      exact ih _ _ _ _ _ _ _ h
def mj_Mo_outlineOf_206 (a1 : Int32) (a2 : Int32) (a3 : Int32) (a4 : Int32) (c_27 : Int32 → Int32 → Int32 → Mem → Option (Mem)) (y5 : Int32) (y6 : Int32) (y7 : Int32) (y8 : Int64) (y10 : Int64) (μ : Mem) : Option (Mem) :=
  gu (y7) 100 <|
  ap (sL μ 373 (0) y7.toNatClampNeg (y8)) fun μ38 =>
  gu (y7) 100 <|
  ap (sL μ38 374 (0) y7.toNatClampNeg (y10)) fun μ40 =>
  ap (y7 + (1 : Int32)) fun x41 =>
  c_27 (y5) (y6) (x41) μ40
theorem tj_Mo_outlineOf_206 (a1 : Int32) (a2 : Int32) (a3 : Int32) (a4 : Int32) {q : Mem} {c_27 : Int32 → Int32 → Int32 → Mem → Option (Mem)} (hc_27 : ∀ (y5 : Int32) (y6 : Int32) (y7 : Int32) (μ : Mem), c_27 y5 y6 y7 μ = some q → J (GM true (QQ none q) none y_Mo_outlineOf.name) true b_Mo_outlineOf R_12 16 (3) 0 0 27 [(0, vr 12 (0)), (1, vi (a1)), (3, vi (a3)), (4, vi (a4)), (5, vi (y5)), (6, vi (y6)), (7, vi (y7))] [] μ) (y5 : Int32) (y6 : Int32) (y7 : Int32) (y8 : Int64) (y10 : Int64) (μ : Mem) (h : mj_Mo_outlineOf_206 a1 a2 a3 a4 c_27 y5 y6 y7 y8 y10 μ = some q) : J (GM true (QQ none q) none y_Mo_outlineOf.name) true b_Mo_outlineOf R_12 16 (3) 0 0 206 [(0, vr 12 (0)), (1, vi (a1)), (3, vi (a3)), (4, vi (a4)), (5, vi (y5)), (6, vi (y6)), (7, vi (y7)), (8, vl (y8)), (10, vl (y10))] [] μ := by
  unfold mj_Mo_outlineOf_206 at h
  refine J_aload_n (q := 207) 0 d_Mo_outlineOf_206 rfl rfl rfl ?_
  refine J_getF (q := 210) cd_12 (by decide) ft_12_33 rfl g_1084 rfl d_Mo_outlineOf_207 rfl ?_
  refine J_iload (q := 212) 6 d_Mo_outlineOf_210 rfl rfl ?_
  refine J_lload (q := 214) 7 d_Mo_outlineOf_212 rfl rfl ?_
  obtain ⟨hi37, h⟩ := gu_some h
  refine J_last (q := 215) rk_373 (by decide) hi37 d_Mo_outlineOf_214 rfl ?_
  obtain ⟨μ38, hμ38, h⟩ := ap_eq h
  refine J_nmM hμ38 ?_
  refine J_aload_n (q := 216) 0 d_Mo_outlineOf_215 rfl rfl rfl ?_
  refine J_getF (q := 219) cd_12 (by decide) ft_12_34 rfl g_1085 rfl d_Mo_outlineOf_216 rfl ?_
  refine J_iload (q := 221) 6 d_Mo_outlineOf_219 rfl rfl ?_
  refine J_lload (q := 223) 8 d_Mo_outlineOf_221 rfl rfl ?_
  obtain ⟨hi39, h⟩ := gu_some h
  refine J_last (q := 224) rk_374 (by decide) hi39 d_Mo_outlineOf_223 rfl ?_
  obtain ⟨μ40, hμ40, h⟩ := ap_eq h
  refine J_nmM hμ40 ?_
  obtain ⟨x41, hx41, h⟩ := ap_eq h
  refine J_iinc (q := 227) (v := x41) (lv' := [(7, vi (x41)), (0, vr 12 (0)), (1, vi (a1)), (3, vi (a3)), (4, vi (a4)), (5, vi (y5)), (6, vi (y6)), (8, vl (y8)), (10, vl (y10))]) 6 d_Mo_outlineOf_224 rfl (by rw [hx41]; rfl) (by decide) rfl rfl ?_
  refine J_goto (q := 27) d_Mo_outlineOf_227 (by decide) ?_
  refine J_pick [1, 2, 3, 4, 5, 6, 0] rfl ?_
  exact hc_27 _ _ _ _ h
def lp_Mo_outlineOf_27 (a1 : Int32) (a2 : Int32) (a3 : Int32) (a4 : Int32) (c_230 : Int32 → Int32 → Mem → Option (Mem)) : Nat → Int32 → Int32 → Int32 → Mem → Option (Mem)
  | 0, _, _, _, _ => none
  | n + 1, y5, y6, y7, μ =>
  if y6 ≤ y7 then
 (c_230 (y5) (y6) μ)
 else
 (gu ((((100 : Int32) * a1) + (y5)) + (y7)) 3200 <|
  ap ((gI μ 347 (0) ((((100 : Int32) * a1) + (y5)) + (y7)).toNatClampNeg).toInt64) fun x43 =>
  gu ((((100 : Int32) * a1) + (y5)) + (y7)) 3200 <|
  ap ((gI μ 348 (0) ((((100 : Int32) * a1) + (y5)) + (y7)).toNatClampNeg).toInt64) fun x45 =>
  ap (a3 - (1 : Int32)) fun x46 =>
  lp_Mo_outlineOf_75 a1 a2 a3 a4 (mj_Mo_outlineOf_206 a1 a2 a3 a4 (lp_Mo_outlineOf_27 a1 a2 a3 a4 c_230 n)) FU (y5) (y6) (y7) (x43) (x45) (x46) μ)
theorem tl_Mo_outlineOf_27 (a1 : Int32) (a2 : Int32) (a3 : Int32) (a4 : Int32) {q : Mem} {c_230 : Int32 → Int32 → Mem → Option (Mem)} (hc_230 : ∀ (y5 : Int32) (y6 : Int32) (μ : Mem), c_230 y5 y6 μ = some q → J (GM true (QQ none q) none y_Mo_outlineOf.name) true b_Mo_outlineOf R_12 16 (3) 0 0 230 [(0, vr 12 (0)), (1, vi (a1)), (4, vi (a4)), (5, vi (y5)), (6, vi (y6))] [] μ) : ∀ (n : Nat) (y5 : Int32) (y6 : Int32) (y7 : Int32) (μ : Mem), lp_Mo_outlineOf_27 a1 a2 a3 a4 c_230 n y5 y6 y7 μ = some q → J (GM true (QQ none q) none y_Mo_outlineOf.name) true b_Mo_outlineOf R_12 16 (3) 0 0 27 [(0, vr 12 (0)), (1, vi (a1)), (3, vi (a3)), (4, vi (a4)), (5, vi (y5)), (6, vi (y6)), (7, vi (y7))] [] μ := by
  intro n
  induction n with
  | zero => intro _ _ _ _ h; cases h
  | succ n ih =>
    intro y5 y6 y7 μ h
    unfold lp_Mo_outlineOf_27 at h
    refine J_iload (q := 29) 6 d_Mo_outlineOf_27 rfl rfl ?_
    refine J_iload (q := 31) 5 d_Mo_outlineOf_29 rfl rfl ?_
    refine J_icmp_ge (q := 34) (tgt := 230) d_Mo_outlineOf_31 (by decide) rfl (fun hc => ?_) (fun hc => ?_)
    · rw [if_pos hc] at h
      refine J_pick [0, 1, 3, 4, 5] rfl ?_
      exact hc_230 _ _ _ h
    · rw [if_neg hc] at h
      refine J_aload_n (q := 35) 0 d_Mo_outlineOf_34 rfl rfl rfl ?_
      refine J_getF (q := 38) cd_12 (by decide) ft_12_7 rfl g_1058 rfl d_Mo_outlineOf_35 rfl ?_
      refine J_bipush (q := 40) (v := (100 : Int32)) d_Mo_outlineOf_38 (by decide) rfl ?_
      refine J_iload_n (q := 41) 1 d_Mo_outlineOf_40 rfl rfl rfl ?_
      refine J_imul (q := 42) d_Mo_outlineOf_41 rfl ?_
      refine J_iload (q := 44) 4 d_Mo_outlineOf_42 rfl rfl ?_
      refine J_iadd (q := 45) d_Mo_outlineOf_44 rfl ?_
      refine J_iload (q := 47) 6 d_Mo_outlineOf_45 rfl rfl ?_
      refine J_iadd (q := 48) d_Mo_outlineOf_47 rfl ?_
      obtain ⟨hi42, h⟩ := gu_some h
      refine J_iald (q := 49) rk_347 (by decide) hi42 d_Mo_outlineOf_48 rfl ?_
      refine J_i2l (q := 50) d_Mo_outlineOf_49 rfl ?_
      obtain ⟨x43, hx43, h⟩ := ap_eq h
      refine J_nmL hx43 ?_
      refine J_lstore (q := 52) (lv' := [(8, vl (x43)), (0, vr 12 (0)), (1, vi (a1)), (3, vi (a3)), (4, vi (a4)), (5, vi (y5)), (6, vi (y6)), (7, vi (y7))]) d_Mo_outlineOf_50 (by decide) rfl rfl ?_
      refine J_aload_n (q := 53) 1 d_Mo_outlineOf_52 rfl rfl rfl ?_
      refine J_getF (q := 56) cd_12 (by decide) ft_12_8 rfl g_1059 rfl d_Mo_outlineOf_53 rfl ?_
      refine J_bipush (q := 58) (v := (100 : Int32)) d_Mo_outlineOf_56 (by decide) rfl ?_
      refine J_iload_n (q := 59) 2 d_Mo_outlineOf_58 rfl rfl rfl ?_
      refine J_imul (q := 60) d_Mo_outlineOf_59 rfl ?_
      refine J_iload (q := 62) 5 d_Mo_outlineOf_60 rfl rfl ?_
      refine J_iadd (q := 63) d_Mo_outlineOf_62 rfl ?_
      refine J_iload (q := 65) 7 d_Mo_outlineOf_63 rfl rfl ?_
      refine J_iadd (q := 66) d_Mo_outlineOf_65 rfl ?_
      obtain ⟨hi44, h⟩ := gu_some h
      refine J_iald (q := 67) rk_348 (by decide) hi44 d_Mo_outlineOf_66 rfl ?_
      refine J_i2l (q := 68) d_Mo_outlineOf_67 rfl ?_
      obtain ⟨x45, hx45, h⟩ := ap_eq h
      refine J_nmL hx45 ?_
      refine J_lstore (q := 70) (lv' := [(10, vl (x45)), (8, vl (x43)), (0, vr 12 (0)), (1, vi (a1)), (3, vi (a3)), (4, vi (a4)), (5, vi (y5)), (6, vi (y6)), (7, vi (y7))]) d_Mo_outlineOf_68 (by decide) rfl rfl ?_
      refine J_iload_n (q := 71) 4 d_Mo_outlineOf_70 rfl rfl rfl ?_
      refine J_iconst (q := 72) (v := (1 : Int32)) d_Mo_outlineOf_71 (by decide) rfl ?_
      refine J_isub (q := 73) d_Mo_outlineOf_72 rfl ?_
      obtain ⟨x46, hx46, h⟩ := ap_eq h
      refine J_nmI hx46 ?_
      refine J_istore (q := 75) (lv' := [(12, vi (x46)), (10, vl (x45)), (8, vl (x43)), (0, vr 12 (0)), (1, vi (a1)), (3, vi (a3)), (4, vi (a4)), (5, vi (y5)), (6, vi (y6)), (7, vi (y7))]) d_Mo_outlineOf_73 (by decide) rfl rfl ?_
      refine J_pick [3, 4, 5, 6, 7, 8, 9, 2, 1, 0] rfl ?_
      exact tl_Mo_outlineOf_75 a1 a2 a3 a4 (fun _ _ _ _ _ _ h => tj_Mo_outlineOf_206 a1 a2 a3 a4 ih _ _ _ _ _ _ h) FU _ _ _ _ _ _ _ h
def mj_Mo_outlineOf_365 (a1 : Int32) (a2 : Int32) (a3 : Int32) (a4 : Int32) (c_257 : Int32 → Int32 → Int32 → Mem → Option (Mem)) (y5 : Int32) (y6 : Int32) (y7 : Int32) (μ : Mem) : Option (Mem) :=
  c_257 (y5) (y6) (y7) μ
theorem tj_Mo_outlineOf_365 (a1 : Int32) (a2 : Int32) (a3 : Int32) (a4 : Int32) {q : Mem} {c_257 : Int32 → Int32 → Int32 → Mem → Option (Mem)} (hc_257 : ∀ (y5 : Int32) (y6 : Int32) (y7 : Int32) (μ : Mem), c_257 y5 y6 y7 μ = some q → J (GM true (QQ none q) none y_Mo_outlineOf.name) true b_Mo_outlineOf R_12 16 (3) 0 0 257 [(0, vr 12 (0)), (1, vi (a1)), (4, vi (a4)), (5, vi (y5)), (6, vi (y6)), (7, vi (y7))] [] μ) (y5 : Int32) (y6 : Int32) (y7 : Int32) (μ : Mem) (h : mj_Mo_outlineOf_365 a1 a2 a3 a4 c_257 y5 y6 y7 μ = some q) : J (GM true (QQ none q) none y_Mo_outlineOf.name) true b_Mo_outlineOf R_12 16 (3) 0 0 365 [(0, vr 12 (0)), (1, vi (a1)), (4, vi (a4)), (5, vi (y5)), (6, vi (y6)), (7, vi (y7))] [] μ := by
  unfold mj_Mo_outlineOf_365 at h
  refine J_goto (q := 257) d_Mo_outlineOf_365 (by decide) ?_
  refine J_pick [0, 1, 2, 3, 4, 5] rfl ?_
  exact hc_257 _ _ _ _ h
def mj_Mo_outlineOf_301 (a1 : Int32) (a2 : Int32) (a3 : Int32) (a4 : Int32) (c_257 : Int32 → Int32 → Int32 → Mem → Option (Mem)) (y5 : Int32) (y6 : Int32) (y7 : Int32) (z0 : Int32) (μ : Mem) : Option (Mem) :=
  if z0 = 0 then
 (gz (y6) <|
  ap ((y7 + (1 : Int32)) - (y7 + (1 : Int32)) / y6 * y6) fun x54 =>
  gu (x54) 100 <|
  gz (y6) <|
  ap ((y7 + (1 : Int32)) - (y7 + (1 : Int32)) / y6 * y6) fun x57 =>
  gu (x57) 100 <|
  Option.bind (m_Mo_adds (gL μ 373 (0) x54.toNatClampNeg) (gL μ 374 (0) x57.toNatClampNeg) μ) fun r59 =>
  ap (y7 + (1 : Int32)) fun x60 =>
  mj_Mo_outlineOf_365 a1 a2 a3 a4 c_257 (y5) (y6) (x60) r59)
 else
 (Option.bind (m_Mo_curve (y7) (y6) ((2 : Int32) + z0) (a4) μ) fun r51 =>
  ap ((y7) + ((1 : Int32) + z0)) fun x52 =>
  mj_Mo_outlineOf_365 a1 a2 a3 a4 c_257 (y5) (y6) (x52) r51)
theorem tj_Mo_outlineOf_301 (a1 : Int32) (a2 : Int32) (a3 : Int32) (a4 : Int32) {q : Mem} {c_257 : Int32 → Int32 → Int32 → Mem → Option (Mem)} (hc_257 : ∀ (y5 : Int32) (y6 : Int32) (y7 : Int32) (μ : Mem), c_257 y5 y6 y7 μ = some q → J (GM true (QQ none q) none y_Mo_outlineOf.name) true b_Mo_outlineOf R_12 16 (3) 0 0 257 [(0, vr 12 (0)), (1, vi (a1)), (4, vi (a4)), (5, vi (y5)), (6, vi (y6)), (7, vi (y7))] [] μ) (y5 : Int32) (y6 : Int32) (y7 : Int32) (z0 : Int32) (μ : Mem) (h : mj_Mo_outlineOf_301 a1 a2 a3 a4 c_257 y5 y6 y7 z0 μ = some q) : J (GM true (QQ none q) none y_Mo_outlineOf.name) true b_Mo_outlineOf R_12 16 (3) 0 0 301 [(0, vr 12 (0)), (1, vi (a1)), (4, vi (a4)), (5, vi (y5)), (6, vi (y6)), (7, vi (y7))] [vi (z0)] μ := by
  unfold mj_Mo_outlineOf_301 at h
  refine J_istore (q := 303) (lv' := [(8, vi (z0)), (0, vr 12 (0)), (1, vi (a1)), (4, vi (a4)), (5, vi (y5)), (6, vi (y6)), (7, vi (y7))]) d_Mo_outlineOf_301 (by decide) rfl rfl ?_
  refine J_iload (q := 305) 0 d_Mo_outlineOf_303 rfl rfl ?_
  refine J_if_ne (q := 308) (tgt := 342) d_Mo_outlineOf_305 (by decide) rfl (fun hc => ?_) (fun hc => ?_)
  · rw [if_neg hc] at h
    refine J_aload_n (q := 343) 1 d_Mo_outlineOf_342 rfl rfl rfl ?_
    refine J_iload (q := 345) 6 d_Mo_outlineOf_343 rfl rfl ?_
    refine J_iload (q := 347) 5 d_Mo_outlineOf_345 rfl rfl ?_
    refine J_iconst (q := 348) (v := (2 : Int32)) d_Mo_outlineOf_347 (by decide) rfl ?_
    refine J_iload (q := 350) 0 d_Mo_outlineOf_348 rfl rfl ?_
    refine J_iadd (q := 351) d_Mo_outlineOf_350 rfl ?_
    refine J_iload (q := 353) 3 d_Mo_outlineOf_351 rfl rfl ?_
    obtain ⟨r51, hr51, h⟩ := bd_some h
    refine J_callVv (rc := 0) (rs := 0) (q := 356) (as := [vi (y7), vi (y6), vi ((2 : Int32) + z0), vi (a4)]) (st := []) (by decide) rfl g_1381 sel_Mo_curve (t_Mo_curve hr51) (by decide) (by decide) g_1379 g_1382 g_10 hy_Mo_curve rfl (Nat.le_of_ble_eq_true rfl) d_Mo_outlineOf_353 rfl ?_
    refine J_iload (q := 358) 6 d_Mo_outlineOf_356 rfl rfl ?_
    refine J_iconst (q := 359) (v := (1 : Int32)) d_Mo_outlineOf_358 (by decide) rfl ?_
    refine J_iload (q := 361) 0 d_Mo_outlineOf_359 rfl rfl ?_
    refine J_iadd (q := 362) d_Mo_outlineOf_361 rfl ?_
    refine J_iadd (q := 363) d_Mo_outlineOf_362 rfl ?_
    obtain ⟨x52, hx52, h⟩ := ap_eq h
    refine J_nmI hx52 ?_
    refine J_istore (q := 365) (lv' := [(7, vi (x52)), (8, vi (z0)), (0, vr 12 (0)), (1, vi (a1)), (4, vi (a4)), (5, vi (y5)), (6, vi (y6))]) d_Mo_outlineOf_363 (by decide) rfl rfl ?_
    refine J_pick [2, 3, 4, 5, 6, 0] rfl ?_
    exact tj_Mo_outlineOf_365 a1 a2 a3 a4 hc_257 _ _ _ _ h
  · rw [if_pos hc] at h
    refine J_aload_n (q := 309) 1 d_Mo_outlineOf_308 rfl rfl rfl ?_
    refine J_aload_n (q := 310) 1 d_Mo_outlineOf_309 rfl rfl rfl ?_
    refine J_getF (q := 313) cd_12 (by decide) ft_12_33 rfl g_1084 rfl d_Mo_outlineOf_310 rfl ?_
    refine J_iload (q := 315) 6 d_Mo_outlineOf_313 rfl rfl ?_
    refine J_iconst (q := 316) (v := (1 : Int32)) d_Mo_outlineOf_315 (by decide) rfl ?_
    refine J_iadd (q := 317) d_Mo_outlineOf_316 rfl ?_
    refine J_iload (q := 319) 5 d_Mo_outlineOf_317 rfl rfl ?_
    obtain ⟨hg53, h⟩ := gz_some h
    refine J_irem (q := 320) d_Mo_outlineOf_319 hg53 rfl ?_
    obtain ⟨x54, hx54, h⟩ := ap_eq h
    refine J_nmI hx54 ?_
    obtain ⟨hi55, h⟩ := gu_some h
    refine J_lald (q := 321) rk_373 (by decide) hi55 d_Mo_outlineOf_320 rfl ?_
    refine J_aload_n (q := 322) 1 d_Mo_outlineOf_321 rfl rfl rfl ?_
    refine J_getF (q := 325) cd_12 (by decide) ft_12_34 rfl g_1085 rfl d_Mo_outlineOf_322 rfl ?_
    refine J_iload (q := 327) 6 d_Mo_outlineOf_325 rfl rfl ?_
    refine J_iconst (q := 328) (v := (1 : Int32)) d_Mo_outlineOf_327 (by decide) rfl ?_
    refine J_iadd (q := 329) d_Mo_outlineOf_328 rfl ?_
    refine J_iload (q := 331) 5 d_Mo_outlineOf_329 rfl rfl ?_
    obtain ⟨hg56, h⟩ := gz_some h
    refine J_irem (q := 332) d_Mo_outlineOf_331 hg56 rfl ?_
    obtain ⟨x57, hx57, h⟩ := ap_eq h
    refine J_nmI hx57 ?_
    obtain ⟨hi58, h⟩ := gu_some h
    refine J_lald (q := 333) rk_374 (by decide) hi58 d_Mo_outlineOf_332 rfl ?_
    obtain ⟨r59, hr59, h⟩ := bd_some h
    refine J_callVv (rc := 0) (rs := 0) (q := 336) (as := [vl (gL μ 373 (0) x54.toNatClampNeg), vl (gL μ 374 (0) x57.toNatClampNeg)]) (st := []) (by decide) rfl g_1375 sel_Mo_adds (t_Mo_adds hr59) (by decide) (by decide) g_1373 g_1376 g_10 hy_Mo_adds rfl (Nat.le_of_ble_eq_true rfl) d_Mo_outlineOf_333 rfl ?_
    obtain ⟨x60, hx60, h⟩ := ap_eq h
    refine J_iinc (q := 339) (v := x60) (lv' := [(7, vi (x60)), (8, vi (z0)), (0, vr 12 (0)), (1, vi (a1)), (4, vi (a4)), (5, vi (y5)), (6, vi (y6))]) 6 d_Mo_outlineOf_336 rfl (by rw [hx60]; rfl) (by decide) rfl rfl ?_
    refine J_goto (q := 365) d_Mo_outlineOf_339 (by decide) ?_
    refine J_pick [2, 3, 4, 5, 6, 0] rfl ?_
    exact tj_Mo_outlineOf_365 a1 a2 a3 a4 hc_257 _ _ _ _ h
def lp_Mo_outlineOf_257 (a1 : Int32) (a2 : Int32) (a3 : Int32) (a4 : Int32) (c_368 : Mem → Option (Mem)) : Nat → Int32 → Int32 → Int32 → Mem → Option (Mem)
  | 0, _, _, _, _ => none
  | n + 1, y5, y6, y7, μ =>
  if y6 ≤ y7 then
 (c_368 μ)
 else
 (if gI μ 12 (0) 32 = 0 then
 (c_368 μ)
 else
 (if y6 ≤ y7 + (1 : Int32) then
 (mj_Mo_outlineOf_301 a1 a2 a3 a4 (lp_Mo_outlineOf_257 a1 a2 a3 a4 c_368 n) (y5) (y6) (y7) ((0 : Int32)) μ)
 else
 (gu (((((100 : Int32) * a1) + (y5)) + (y7)) + ((1 : Int32))) 3200 <|
  mj_Mo_outlineOf_301 a1 a2 a3 a4 (lp_Mo_outlineOf_257 a1 a2 a3 a4 c_368 n) (y5) (y6) (y7) (gI μ 349 (0) (((((100 : Int32) * a1) + (y5)) + (y7)) + ((1 : Int32))).toNatClampNeg) μ)))
theorem tl_Mo_outlineOf_257 (a1 : Int32) (a2 : Int32) (a3 : Int32) (a4 : Int32) {q : Mem} {c_368 : Mem → Option (Mem)} (hc_368 : ∀ (μ : Mem), c_368  μ = some q → J (GM true (QQ none q) none y_Mo_outlineOf.name) true b_Mo_outlineOf R_12 16 (3) 0 0 368 [(0, vr 12 (0))] [] μ) : ∀ (n : Nat) (y5 : Int32) (y6 : Int32) (y7 : Int32) (μ : Mem), lp_Mo_outlineOf_257 a1 a2 a3 a4 c_368 n y5 y6 y7 μ = some q → J (GM true (QQ none q) none y_Mo_outlineOf.name) true b_Mo_outlineOf R_12 16 (3) 0 0 257 [(0, vr 12 (0)), (1, vi (a1)), (4, vi (a4)), (5, vi (y5)), (6, vi (y6)), (7, vi (y7))] [] μ := by
  intro n
  induction n with
  | zero => intro _ _ _ _ h; cases h
  | succ n ih =>
    intro y5 y6 y7 μ h
    unfold lp_Mo_outlineOf_257 at h
    refine J_iload (q := 259) 5 d_Mo_outlineOf_257 rfl rfl ?_
    refine J_iload (q := 261) 4 d_Mo_outlineOf_259 rfl rfl ?_
    refine J_icmp_ge (q := 264) (tgt := 368) d_Mo_outlineOf_261 (by decide) rfl (fun hc => ?_) (fun hc => ?_)
    · rw [if_pos hc] at h
      refine J_pick [0] rfl ?_
      exact hc_368 _ h
    · rw [if_neg hc] at h
      refine J_aload_n (q := 265) 0 d_Mo_outlineOf_264 rfl rfl rfl ?_
      refine J_getI (q := 268) (j := 32) cd_12 (by decide) (Or.inr rfl) g_1083 rfl d_Mo_outlineOf_265 rfl ?_
      refine J_if_eq (q := 271) (tgt := 368) d_Mo_outlineOf_268 (by decide) rfl (fun hc => ?_) (fun hc => ?_)
      · rw [if_pos hc] at h
        refine J_pick [0] rfl ?_
        exact hc_368 _ h
      · rw [if_neg hc] at h
        refine J_iload (q := 273) 5 d_Mo_outlineOf_271 rfl rfl ?_
        refine J_iconst (q := 274) (v := (1 : Int32)) d_Mo_outlineOf_273 (by decide) rfl ?_
        refine J_iadd (q := 275) d_Mo_outlineOf_274 rfl ?_
        refine J_iload (q := 277) 4 d_Mo_outlineOf_275 rfl rfl ?_
        refine J_icmp_ge (q := 280) (tgt := 300) d_Mo_outlineOf_277 (by decide) rfl (fun hc => ?_) (fun hc => ?_)
        · rw [if_pos hc] at h
          refine J_iconst (q := 301) (v := (0 : Int32)) d_Mo_outlineOf_300 (by decide) rfl ?_
          refine J_pick [0, 1, 2, 3, 4, 5] rfl ?_
          exact tj_Mo_outlineOf_301 a1 a2 a3 a4 ih _ _ _ _ _ h
        · rw [if_neg hc] at h
          refine J_aload_n (q := 281) 0 d_Mo_outlineOf_280 rfl rfl rfl ?_
          refine J_getF (q := 284) cd_12 (by decide) ft_12_9 rfl g_1060 rfl d_Mo_outlineOf_281 rfl ?_
          refine J_bipush (q := 286) (v := (100 : Int32)) d_Mo_outlineOf_284 (by decide) rfl ?_
          refine J_iload_n (q := 287) 1 d_Mo_outlineOf_286 rfl rfl rfl ?_
          refine J_imul (q := 288) d_Mo_outlineOf_287 rfl ?_
          refine J_iload (q := 290) 3 d_Mo_outlineOf_288 rfl rfl ?_
          refine J_iadd (q := 291) d_Mo_outlineOf_290 rfl ?_
          refine J_iload (q := 293) 5 d_Mo_outlineOf_291 rfl rfl ?_
          refine J_iadd (q := 294) d_Mo_outlineOf_293 rfl ?_
          refine J_iconst (q := 295) (v := (1 : Int32)) d_Mo_outlineOf_294 (by decide) rfl ?_
          refine J_iadd (q := 296) d_Mo_outlineOf_295 rfl ?_
          obtain ⟨hi62, h⟩ := gu_some h
          refine J_iald (q := 297) rk_349 (by decide) hi62 d_Mo_outlineOf_296 rfl ?_
          refine J_goto (q := 301) d_Mo_outlineOf_297 (by decide) ?_
          refine J_pick [0, 1, 2, 3, 4, 5] rfl ?_
          exact tj_Mo_outlineOf_301 a1 a2 a3 a4 ih _ _ _ _ _ h
def lp_Mo_outlineOf_368 (a1 : Int32) (a2 : Int32) (a3 : Int32) (a4 : Int32) (c_440 : Mem → Option (Mem)) : Nat → Mem → Option (Mem)
  | 0, _ => none
  | n + 1, μ =>
  if gI μ 12 (0) 22 ≤ (gI μ 12 (0) 38) + ((1 : Int32)) then
 (c_440 μ)
 else
 (gu ((gI μ 12 (0) 22) - ((1 : Int32))) 500 <|
  gu (gI μ 12 (0) 38) 500 <|
  if gI μ 364 (0) ((gI μ 12 (0) 22) - ((1 : Int32))).toNatClampNeg = gI μ 364 (0) (gI μ 12 (0) 38).toNatClampNeg then
 (gu ((gI μ 12 (0) 22) - ((1 : Int32))) 500 <|
  gu (gI μ 12 (0) 38) 500 <|
  if gI μ 365 (0) ((gI μ 12 (0) 22) - ((1 : Int32))).toNatClampNeg = gI μ 365 (0) (gI μ 12 (0) 38).toNatClampNeg then
 (ap (sI μ 12 (0) 22 ((gI μ 12 (0) 22) - ((1 : Int32)))) fun μ72 =>
  lp_Mo_outlineOf_368 a1 a2 a3 a4 c_440 n μ72)
 else
 (c_440 μ))
 else
 (c_440 μ))
theorem tl_Mo_outlineOf_368 (a1 : Int32) (a2 : Int32) (a3 : Int32) (a4 : Int32) {q : Mem} {c_440 : Mem → Option (Mem)} (hc_440 : ∀ (μ : Mem), c_440  μ = some q → J (GM true (QQ none q) none y_Mo_outlineOf.name) true b_Mo_outlineOf R_12 16 (3) 0 0 440 [(0, vr 12 (0))] [] μ) : ∀ (n : Nat) (μ : Mem), lp_Mo_outlineOf_368 a1 a2 a3 a4 c_440 n μ = some q → J (GM true (QQ none q) none y_Mo_outlineOf.name) true b_Mo_outlineOf R_12 16 (3) 0 0 368 [(0, vr 12 (0))] [] μ := by
  intro n
  induction n with
  | zero => intro _ h; cases h
  | succ n ih =>
    intro μ h
    unfold lp_Mo_outlineOf_368 at h
    refine J_aload_n (q := 369) 0 d_Mo_outlineOf_368 rfl rfl rfl ?_
    refine J_getI (q := 372) (j := 22) cd_12 (by decide) (Or.inl rfl) g_1073 rfl d_Mo_outlineOf_369 rfl ?_
    refine J_aload_n (q := 373) 0 d_Mo_outlineOf_372 rfl rfl rfl ?_
    refine J_getI (q := 376) (j := 38) cd_12 (by decide) (Or.inl rfl) g_1089 rfl d_Mo_outlineOf_373 rfl ?_
    refine J_iconst (q := 377) (v := (1 : Int32)) d_Mo_outlineOf_376 (by decide) rfl ?_
    refine J_iadd (q := 378) d_Mo_outlineOf_377 rfl ?_
    refine J_icmp_le (q := 381) (tgt := 440) d_Mo_outlineOf_378 (by decide) rfl (fun hc => ?_) (fun hc => ?_)
    · rw [if_pos hc] at h
      refine J_pick [0] rfl ?_
      exact hc_440 _ h
    · rw [if_neg hc] at h
      refine J_aload_n (q := 382) 0 d_Mo_outlineOf_381 rfl rfl rfl ?_
      refine J_getF (q := 385) cd_12 (by decide) ft_12_24 rfl g_1075 rfl d_Mo_outlineOf_382 rfl ?_
      refine J_aload_n (q := 386) 0 d_Mo_outlineOf_385 rfl rfl rfl ?_
      refine J_getI (q := 389) (j := 22) cd_12 (by decide) (Or.inl rfl) g_1073 rfl d_Mo_outlineOf_386 rfl ?_
      refine J_iconst (q := 390) (v := (1 : Int32)) d_Mo_outlineOf_389 (by decide) rfl ?_
      refine J_isub (q := 391) d_Mo_outlineOf_390 rfl ?_
      obtain ⟨hi68, h⟩ := gu_some h
      refine J_iald (q := 392) rk_364 (by decide) hi68 d_Mo_outlineOf_391 rfl ?_
      refine J_aload_n (q := 393) 0 d_Mo_outlineOf_392 rfl rfl rfl ?_
      refine J_getF (q := 396) cd_12 (by decide) ft_12_24 rfl g_1075 rfl d_Mo_outlineOf_393 rfl ?_
      refine J_aload_n (q := 397) 0 d_Mo_outlineOf_396 rfl rfl rfl ?_
      refine J_getI (q := 400) (j := 38) cd_12 (by decide) (Or.inl rfl) g_1089 rfl d_Mo_outlineOf_397 rfl ?_
      obtain ⟨hi69, h⟩ := gu_some h
      refine J_iald (q := 401) rk_364 (by decide) hi69 d_Mo_outlineOf_400 rfl ?_
      refine J_icmp_ne (q := 404) (tgt := 440) d_Mo_outlineOf_401 (by decide) rfl (fun hc => ?_) (fun hc => ?_)
      · rw [if_neg hc] at h
        refine J_pick [0] rfl ?_
        exact hc_440 _ h
      · rw [if_pos hc] at h
        refine J_aload_n (q := 405) 0 d_Mo_outlineOf_404 rfl rfl rfl ?_
        refine J_getF (q := 408) cd_12 (by decide) ft_12_25 rfl g_1076 rfl d_Mo_outlineOf_405 rfl ?_
        refine J_aload_n (q := 409) 0 d_Mo_outlineOf_408 rfl rfl rfl ?_
        refine J_getI (q := 412) (j := 22) cd_12 (by decide) (Or.inl rfl) g_1073 rfl d_Mo_outlineOf_409 rfl ?_
        refine J_iconst (q := 413) (v := (1 : Int32)) d_Mo_outlineOf_412 (by decide) rfl ?_
        refine J_isub (q := 414) d_Mo_outlineOf_413 rfl ?_
        obtain ⟨hi70, h⟩ := gu_some h
        refine J_iald (q := 415) rk_365 (by decide) hi70 d_Mo_outlineOf_414 rfl ?_
        refine J_aload_n (q := 416) 0 d_Mo_outlineOf_415 rfl rfl rfl ?_
        refine J_getF (q := 419) cd_12 (by decide) ft_12_25 rfl g_1076 rfl d_Mo_outlineOf_416 rfl ?_
        refine J_aload_n (q := 420) 0 d_Mo_outlineOf_419 rfl rfl rfl ?_
        refine J_getI (q := 423) (j := 38) cd_12 (by decide) (Or.inl rfl) g_1089 rfl d_Mo_outlineOf_420 rfl ?_
        obtain ⟨hi71, h⟩ := gu_some h
        refine J_iald (q := 424) rk_365 (by decide) hi71 d_Mo_outlineOf_423 rfl ?_
        refine J_icmp_ne (q := 427) (tgt := 440) d_Mo_outlineOf_424 (by decide) rfl (fun hc => ?_) (fun hc => ?_)
        · rw [if_neg hc] at h
          refine J_pick [0] rfl ?_
          exact hc_440 _ h
        · rw [if_pos hc] at h
          refine J_aload_n (q := 428) 0 d_Mo_outlineOf_427 rfl rfl rfl ?_
          refine J_dupR (q := 429) d_Mo_outlineOf_428 rfl ?_
          refine J_getI (q := 432) (j := 22) cd_12 (by decide) (Or.inl rfl) g_1073 rfl d_Mo_outlineOf_429 rfl ?_
          refine J_iconst (q := 433) (v := (1 : Int32)) d_Mo_outlineOf_432 (by decide) rfl ?_
          refine J_isub (q := 434) d_Mo_outlineOf_433 rfl ?_
          refine J_putI (q := 437) (j := 22) cd_12 (by decide) rfl rfl rfl g_1073 rfl d_Mo_outlineOf_434 rfl ?_
          obtain ⟨μ72, hμ72, h⟩ := ap_eq h
          refine J_nmM hμ72 ?_
          refine J_goto (q := 368) d_Mo_outlineOf_437 (by decide) ?_
          refine J_pick [0] rfl ?_
          exact ih _ h
def mj_Mo_outlineOf_440 (a1 : Int32) (a2 : Int32) (a3 : Int32) (a4 : Int32) (μ : Mem) : Option (Mem) :=
  if (gI μ 12 (0) 38) + ((1 : Int32)) < gI μ 12 (0) 22 then
 (ap (sI μ 12 (0) 23 ((gI μ 12 (0) 23) + ((1 : Int32)))) fun μ73 =>
  some μ73)
 else
 (ap (sI μ 12 (0) 22 (gI μ 12 (0) 38)) fun μ74 =>
  some μ74)
theorem tj_Mo_outlineOf_440 (a1 : Int32) (a2 : Int32) (a3 : Int32) (a4 : Int32) {q : Mem}  (μ : Mem) (h : mj_Mo_outlineOf_440 a1 a2 a3 a4  μ = some q) : J (GM true (QQ none q) none y_Mo_outlineOf.name) true b_Mo_outlineOf R_12 16 (3) 0 0 440 [(0, vr 12 (0))] [] μ := by
  unfold mj_Mo_outlineOf_440 at h
  refine J_aload_n (q := 441) 0 d_Mo_outlineOf_440 rfl rfl rfl ?_
  refine J_getI (q := 444) (j := 22) cd_12 (by decide) (Or.inl rfl) g_1073 rfl d_Mo_outlineOf_441 rfl ?_
  refine J_aload_n (q := 445) 0 d_Mo_outlineOf_444 rfl rfl rfl ?_
  refine J_getI (q := 448) (j := 38) cd_12 (by decide) (Or.inl rfl) g_1089 rfl d_Mo_outlineOf_445 rfl ?_
  refine J_iconst (q := 449) (v := (1 : Int32)) d_Mo_outlineOf_448 (by decide) rfl ?_
  refine J_iadd (q := 450) d_Mo_outlineOf_449 rfl ?_
  refine J_icmp_gt (q := 453) (tgt := 464) d_Mo_outlineOf_450 (by decide) rfl (fun hc => ?_) (fun hc => ?_)
  · rw [if_pos hc] at h
    refine J_aload_n (q := 465) 0 d_Mo_outlineOf_464 rfl rfl rfl ?_
    refine J_dupR (q := 466) d_Mo_outlineOf_465 rfl ?_
    refine J_getI (q := 469) (j := 23) cd_12 (by decide) (Or.inl rfl) g_1074 rfl d_Mo_outlineOf_466 rfl ?_
    refine J_iconst (q := 470) (v := (1 : Int32)) d_Mo_outlineOf_469 (by decide) rfl ?_
    refine J_iadd (q := 471) d_Mo_outlineOf_470 rfl ?_
    refine J_putI (q := 474) (j := 23) cd_12 (by decide) rfl rfl rfl g_1074 rfl d_Mo_outlineOf_471 rfl ?_
    obtain ⟨μ73, hμ73, h⟩ := ap_eq h
    refine J_nmM hμ73 ?_
    obtain rfl := Option.some.inj h
    exact J_vret rfl ⟨rfl, rfl⟩ d_Mo_outlineOf_474
  · rw [if_neg hc] at h
    refine J_aload_n (q := 454) 0 d_Mo_outlineOf_453 rfl rfl rfl ?_
    refine J_aload_n (q := 455) 0 d_Mo_outlineOf_454 rfl rfl rfl ?_
    refine J_getI (q := 458) (j := 38) cd_12 (by decide) (Or.inl rfl) g_1089 rfl d_Mo_outlineOf_455 rfl ?_
    refine J_putI (q := 461) (j := 22) cd_12 (by decide) rfl rfl rfl g_1073 rfl d_Mo_outlineOf_458 rfl ?_
    obtain ⟨μ74, hμ74, h⟩ := ap_eq h
    refine J_nmM hμ74 ?_
    refine J_goto (q := 474) d_Mo_outlineOf_461 (by decide) ?_
    obtain rfl := Option.some.inj h
    exact J_vret rfl ⟨rfl, rfl⟩ d_Mo_outlineOf_474
def mj_Mo_outlineOf_230 (a1 : Int32) (a2 : Int32) (a3 : Int32) (a4 : Int32) (y5 : Int32) (y6 : Int32) (μ : Mem) : Option (Mem) :=
  ap (sI μ 12 (0) 38 (gI μ 12 (0) 22)) fun μ47 =>
  gu ((0 : Int32)) 100 <|
  gu ((0 : Int32)) 100 <|
  Option.bind (m_Mo_adds (gL μ47 373 (0) ((0 : Int32)).toNatClampNeg) (gL μ47 374 (0) ((0 : Int32)).toNatClampNeg) μ47) fun r50 =>
  lp_Mo_outlineOf_257 a1 a2 a3 a4 (lp_Mo_outlineOf_368 a1 a2 a3 a4 (mj_Mo_outlineOf_440 a1 a2 a3 a4) FU) FU (y5) (y6) ((0 : Int32)) r50
theorem tj_Mo_outlineOf_230 (a1 : Int32) (a2 : Int32) (a3 : Int32) (a4 : Int32) {q : Mem}  (y5 : Int32) (y6 : Int32) (μ : Mem) (h : mj_Mo_outlineOf_230 a1 a2 a3 a4 y5 y6 μ = some q) : J (GM true (QQ none q) none y_Mo_outlineOf.name) true b_Mo_outlineOf R_12 16 (3) 0 0 230 [(0, vr 12 (0)), (1, vi (a1)), (4, vi (a4)), (5, vi (y5)), (6, vi (y6))] [] μ := by
  unfold mj_Mo_outlineOf_230 at h
  refine J_aload_n (q := 231) 0 d_Mo_outlineOf_230 rfl rfl rfl ?_
  refine J_aload_n (q := 232) 0 d_Mo_outlineOf_231 rfl rfl rfl ?_
  refine J_getI (q := 235) (j := 22) cd_12 (by decide) (Or.inl rfl) g_1073 rfl d_Mo_outlineOf_232 rfl ?_
  refine J_putI (q := 238) (j := 38) cd_12 (by decide) rfl rfl rfl g_1089 rfl d_Mo_outlineOf_235 rfl ?_
  obtain ⟨μ47, hμ47, h⟩ := ap_eq h
  refine J_nmM hμ47 ?_
  refine J_aload_n (q := 239) 0 d_Mo_outlineOf_238 rfl rfl rfl ?_
  refine J_aload_n (q := 240) 0 d_Mo_outlineOf_239 rfl rfl rfl ?_
  refine J_getF (q := 243) cd_12 (by decide) ft_12_33 rfl g_1084 rfl d_Mo_outlineOf_240 rfl ?_
  refine J_iconst (q := 244) (v := (0 : Int32)) d_Mo_outlineOf_243 (by decide) rfl ?_
  obtain ⟨hi48, h⟩ := gu_some h
  refine J_lald (q := 245) rk_373 (by decide) hi48 d_Mo_outlineOf_244 rfl ?_
  refine J_aload_n (q := 246) 0 d_Mo_outlineOf_245 rfl rfl rfl ?_
  refine J_getF (q := 249) cd_12 (by decide) ft_12_34 rfl g_1085 rfl d_Mo_outlineOf_246 rfl ?_
  refine J_iconst (q := 250) (v := (0 : Int32)) d_Mo_outlineOf_249 (by decide) rfl ?_
  obtain ⟨hi49, h⟩ := gu_some h
  refine J_lald (q := 251) rk_374 (by decide) hi49 d_Mo_outlineOf_250 rfl ?_
  obtain ⟨r50, hr50, h⟩ := bd_some h
  refine J_callVv (rc := 0) (rs := 0) (q := 254) (as := [vl (gL μ47 373 (0) ((0 : Int32)).toNatClampNeg), vl (gL μ47 374 (0) ((0 : Int32)).toNatClampNeg)]) (st := []) (by decide) rfl g_1375 sel_Mo_adds (t_Mo_adds hr50) (by decide) (by decide) g_1373 g_1376 g_10 hy_Mo_adds rfl (Nat.le_of_ble_eq_true rfl) d_Mo_outlineOf_251 rfl ?_
  refine J_iconst (q := 255) (v := (0 : Int32)) d_Mo_outlineOf_254 (by decide) rfl ?_
  refine J_istore (q := 257) (lv' := [(7, vi ((0 : Int32))), (0, vr 12 (0)), (1, vi (a1)), (4, vi (a4)), (5, vi (y5)), (6, vi (y6))]) d_Mo_outlineOf_255 (by decide) rfl rfl ?_
  refine J_pick [1, 2, 3, 4, 5, 0] rfl ?_
  exact tl_Mo_outlineOf_257 a1 a2 a3 a4 (fun _ h => tl_Mo_outlineOf_368 a1 a2 a3 a4 (fun _ h => tj_Mo_outlineOf_440 a1 a2 a3 a4 _ h) FU _ h) FU _ _ _ _ h
def m_Mo_outlineOf (a1 : Int32) (a2 : Int32) (a3 : Int32) (a4 : Int32) (μ : Mem) : Option (Mem) :=
  Option.bind (m_Mo_beginOf (a1) (a2) μ) fun r1 =>
  gu (((8 : Int32) * a1) + (a2)) 256 <|
  ap ((gI μ 346 (0) (((8 : Int32) * a1) + (a2)).toNatClampNeg) - (r1)) fun x3 =>
  lp_Mo_outlineOf_27 a1 a2 a3 a4 (mj_Mo_outlineOf_230 a1 a2 a3 a4) FU (r1) (x3) ((0 : Int32)) μ
theorem t_Mo_outlineOf {a1 : Int32} {a2 : Int32} {a3 : Int32} {a4 : Int32} {μ : Mem} {q : Mem} (h : m_Mo_outlineOf a1 a2 a3 a4 μ = some q) : JM true (3) y_Mo_outlineOf b_Mo_outlineOf 16 none 0 0 [vr 12 (0), vi (a1), vi (a2), vi (a3), vi (a4)] μ (QQ none q) := by
  unfold m_Mo_outlineOf at h
  refine JM.of pl_Mo_outlineOf (fun ρ => Nat.le_of_ble_eq_true rfl) ?_
  show J (GM true (QQ none q) none y_Mo_outlineOf.name) true b_Mo_outlineOf R_12 16 (3) 0 0 0 [(0, vr 12 (0)), (1, vi (a1)), (2, vi (a2)), (3, vi (a3)), (4, vi (a4))] [] μ
  refine J_aload_n (q := 1) 0 d_Mo_outlineOf_0 rfl rfl rfl ?_
  refine J_iload_n (q := 2) 1 d_Mo_outlineOf_1 rfl rfl rfl ?_
  refine J_iload_n (q := 3) 2 d_Mo_outlineOf_2 rfl rfl rfl ?_
  obtain ⟨r1, hr1, h⟩ := bd_some h
  refine J_callVq (rc := 0) (rs := 0) (q := 6) (as := [vi (a1), vi (a2)]) (st := []) (by decide) rfl g_1326 sel_Mo_beginOf (t_Mo_beginOf hr1) (by decide) (by decide) g_1324 g_1327 g_10 hy_Mo_beginOf rfl (Nat.le_of_ble_eq_true rfl) d_Mo_outlineOf_3 rfl ?_
  refine J_istore (q := 8) (lv' := [(5, vi (r1)), (0, vr 12 (0)), (1, vi (a1)), (2, vi (a2)), (3, vi (a3)), (4, vi (a4))]) d_Mo_outlineOf_6 (by decide) rfl rfl ?_
  refine J_aload_n (q := 9) 1 d_Mo_outlineOf_8 rfl rfl rfl ?_
  refine J_getF (q := 12) cd_12 (by decide) ft_12_6 rfl g_1057 rfl d_Mo_outlineOf_9 rfl ?_
  refine J_bipush (q := 14) (v := (8 : Int32)) d_Mo_outlineOf_12 (by decide) rfl ?_
  refine J_iload_n (q := 15) 2 d_Mo_outlineOf_14 rfl rfl rfl ?_
  refine J_imul (q := 16) d_Mo_outlineOf_15 rfl ?_
  refine J_iload_n (q := 17) 3 d_Mo_outlineOf_16 rfl rfl rfl ?_
  refine J_iadd (q := 18) d_Mo_outlineOf_17 rfl ?_
  obtain ⟨hi2, h⟩ := gu_some h
  refine J_iald (q := 19) rk_346 (by decide) hi2 d_Mo_outlineOf_18 rfl ?_
  refine J_iload (q := 21) 0 d_Mo_outlineOf_19 rfl rfl ?_
  refine J_isub (q := 22) d_Mo_outlineOf_21 rfl ?_
  obtain ⟨x3, hx3, h⟩ := ap_eq h
  refine J_nmI hx3 ?_
  refine J_istore (q := 24) (lv' := [(6, vi (x3)), (5, vi (r1)), (0, vr 12 (0)), (1, vi (a1)), (2, vi (a2)), (3, vi (a3)), (4, vi (a4))]) d_Mo_outlineOf_22 (by decide) rfl rfl ?_
  refine J_iconst (q := 25) (v := (0 : Int32)) d_Mo_outlineOf_24 (by decide) rfl ?_
  refine J_istore (q := 27) (lv' := [(7, vi ((0 : Int32))), (6, vi (x3)), (5, vi (r1)), (0, vr 12 (0)), (1, vi (a1)), (2, vi (a2)), (3, vi (a3)), (4, vi (a4))]) d_Mo_outlineOf_25 (by decide) rfl rfl ?_
  refine J_pick [3, 4, 6, 7, 2, 1, 0] rfl ?_
  exact tl_Mo_outlineOf_27 a1 a2 a3 a4 (fun _ _ _ h => tj_Mo_outlineOf_230 a1 a2 a3 a4 _ _ _ h) FU _ _ _ _ h
