def mj_Mo_isFar_16 (a1 : Int64) (μ : Mem) : Bool :=
  true
theorem tj_Mo_isFar_16 (a1 : Int64) (μ : Mem) {q : Bool}  (h : mj_Mo_isFar_16 a1 μ  = q) : J (GM true (QQ (some (vi (b2i q))) μ) (some (.boolean)) y_Mo_isFar.name) true b_Mo_isFar R_12 2 (0) 0 0 16 [] [] μ := by
  unfold mj_Mo_isFar_16 at h
  refine J_iconst (q := 17) (v := (1 : Int32)) d_Mo_isFar_16 (by decide) rfl ?_
  refine J_goto (q := 21) d_Mo_isFar_17 (by decide) ?_
  subst h
  exact J_zret (Or.inr rfl) rfl ⟨rfl, rfl⟩ d_Mo_isFar_21
def m_Mo_isFar (a1 : Int64) (μ : Mem) : Bool :=
  if (1000000000 : Int64) < a1 then
 (mj_Mo_isFar_16 a1 μ )
 else
 (if (-1000000000 : Int64) ≤ a1 then
 (false)
 else
 (mj_Mo_isFar_16 a1 μ ))
theorem t_Mo_isFar {a1 : Int64} {μ : Mem} {q : Bool} (h : m_Mo_isFar a1 μ = q) : JM true (0) y_Mo_isFar b_Mo_isFar 2 (some (.boolean)) 0 0 [vl (a1)] μ (QQ (some (vi (b2i q))) μ) := by
  unfold m_Mo_isFar at h
  refine JM.of pl_Mo_isFar (fun ρ => Nat.le_of_ble_eq_true rfl) ?_
  show J (GM true (QQ (some (vi (b2i q))) μ) (some (.boolean)) y_Mo_isFar.name) true b_Mo_isFar R_12 2 (0) 0 0 0 [(0, vl (a1))] [] μ
  refine J_lload_n (q := 1) 0 d_Mo_isFar_0 rfl rfl rfl ?_
  refine J_ldc2 (q := 4) d_Mo_isFar_1 g_1503 rfl ?_
  refine J_lif_gt (q := 8) (tgt := 16) d_Mo_isFar_4 d_Mo_isFar_5 (by decide) rfl (fun hc => ?_) (fun hc => ?_)
  · rw [if_pos hc] at h
    refine J_pick [] rfl ?_
    exact tj_Mo_isFar_16 a1 μ h
  · rw [if_neg hc] at h
    refine J_lload_n (q := 9) 0 d_Mo_isFar_8 rfl rfl rfl ?_
    refine J_ldc2 (q := 12) d_Mo_isFar_9 g_1504 rfl ?_
    refine J_lif_ge (q := 16) (tgt := 20) d_Mo_isFar_12 d_Mo_isFar_13 (by decide) rfl (fun hc => ?_) (fun hc => ?_)
    · rw [if_pos hc] at h
      refine J_iconst (q := 21) (v := (0 : Int32)) d_Mo_isFar_20 (by decide) rfl ?_
      subst h
      exact J_zret (Or.inl rfl) rfl ⟨rfl, rfl⟩ d_Mo_isFar_21
    · rw [if_neg hc] at h
      refine J_pick [] rfl ?_
      exact tj_Mo_isFar_16 a1 μ h
def lp_Mo_fits_75 (a2k : Nat) (a2l : Nat) (a2n : Nat) (a2z : Nat) (a3k : Nat) (a3l : Nat) (a3n : Nat) (a3z : Nat) (a4k : Nat) (a4l : Nat) (a4n : Nat) (a4z : Nat) (a1 : Int32) (c_112 : Int32 → Int32 → Int32 → Int32 → Int32 → Int32 → Mem → Option (Mem)) : Nat → Int32 → Int32 → Int32 → Int32 → Int32 → Int32 → Int32 → Mem → Option (Mem)
  | 0, _, _, _, _, _, _, _, _ => none
  | n + 1, y5, y6, y7, y8, y9, y10, y11, μ =>
  if y7 ≤ y11 then
 (c_112 (y5) (y6) (y7) (y8) (y9) (y10) μ)
 else
 (gu (y6 + y9) a4n <|
  if gI μ a4k (a4l) (y6 + y9).toNatClampNeg = 0 then
 (gz (y7) <|
  ap (((y8 + y7) - (y11)) - ((y8 + y7) - (y11)) / y7 * y7) fun x12 =>
  ap (y11 + (1 : Int32)) fun x13 =>
  lp_Mo_fits_75 a2k a2l a2n a2z a3k a3l a3n a3z a4k a4l a4n a4z a1 c_112 n (y5) (y6) (y7) (y8) (x12) (y10) (x13) μ)
 else
 (c_112 (y5) (y6) (y7) (y8) (y9) (y10) μ))
theorem tl_Mo_fits_75 (a2k : Nat) (a2l : Nat) (a2n : Nat) (a2z : Nat) (a3k : Nat) (a3l : Nat) (a3n : Nat) (a3z : Nat) (a4k : Nat) (a4l : Nat) (a4n : Nat) (a4z : Nat) (a1 : Int32) (ha2 : RK a2k = (4, a2n, a2z)) (ha29 : a2k < 900) (ha3 : RK a3k = (4, a3n, a3z)) (ha39 : a3k < 900) (ha4 : RK a4k = (3, a4n, a4z)) (ha49 : a4k < 900) {q : Mem} {c_112 : Int32 → Int32 → Int32 → Int32 → Int32 → Int32 → Mem → Option (Mem)} (hc_112 : ∀ (y5 : Int32) (y6 : Int32) (y7 : Int32) (y8 : Int32) (y9 : Int32) (y10 : Int32) (μ : Mem), c_112 y5 y6 y7 y8 y9 y10 μ = some q → J (GM true (QQ none q) none y_Mo_fits.name) true b_Mo_fits R_12 13 (2) 0 0 112 [(0, vr 12 (0)), (1, vi (a1)), (2, vr a2k (a2l)), (3, vr a3k (a3l)), (4, vr a4k (a4l)), (5, vi (y5)), (6, vi (y6)), (7, vi (y7)), (8, vi (y8)), (9, vi (y9)), (10, vi (y10))] [] μ) : ∀ (n : Nat) (y5 : Int32) (y6 : Int32) (y7 : Int32) (y8 : Int32) (y9 : Int32) (y10 : Int32) (y11 : Int32) (μ : Mem), lp_Mo_fits_75 a2k a2l a2n a2z a3k a3l a3n a3z a4k a4l a4n a4z a1 c_112 n y5 y6 y7 y8 y9 y10 y11 μ = some q → J (GM true (QQ none q) none y_Mo_fits.name) true b_Mo_fits R_12 13 (2) 0 0 75 [(0, vr 12 (0)), (1, vi (a1)), (2, vr a2k (a2l)), (3, vr a3k (a3l)), (4, vr a4k (a4l)), (5, vi (y5)), (6, vi (y6)), (7, vi (y7)), (8, vi (y8)), (9, vi (y9)), (10, vi (y10)), (11, vi (y11))] [] μ := by
  intro n
  induction n with
  | zero => intro _ _ _ _ _ _ _ _ h; cases h
  | succ n ih =>
    intro y5 y6 y7 y8 y9 y10 y11 μ h
    unfold lp_Mo_fits_75 at h
    refine J_iload (q := 77) 11 d_Mo_fits_75 rfl rfl ?_
    refine J_iload (q := 79) 7 d_Mo_fits_77 rfl rfl ?_
    refine J_icmp_ge (q := 82) (tgt := 112) d_Mo_fits_79 (by decide) rfl (fun hc => ?_) (fun hc => ?_)
    · rw [if_pos hc] at h
      refine J_pick [0, 1, 2, 3, 4, 5, 6, 7, 8, 9, 10] rfl ?_
      exact hc_112 _ _ _ _ _ _ _ h
    · rw [if_neg hc] at h
      refine J_aload (q := 84) 4 d_Mo_fits_82 rfl rfl ?_
      refine J_iload (q := 86) 6 d_Mo_fits_84 rfl rfl ?_
      refine J_iload (q := 88) 9 d_Mo_fits_86 rfl rfl ?_
      refine J_iadd (q := 89) d_Mo_fits_88 rfl ?_
      obtain ⟨hi10, h⟩ := gu_some h
      refine J_zald (q := 90) ha4 ha49 hi10 d_Mo_fits_89 rfl ?_
      refine J_if_ne (q := 93) (tgt := 112) d_Mo_fits_90 (by decide) rfl (fun hc => ?_) (fun hc => ?_)
      · rw [if_neg hc] at h
        refine J_pick [0, 1, 2, 3, 4, 5, 6, 7, 8, 9, 10] rfl ?_
        exact hc_112 _ _ _ _ _ _ _ h
      · rw [if_pos hc] at h
        refine J_iload (q := 95) 8 d_Mo_fits_93 rfl rfl ?_
        refine J_iload (q := 97) 7 d_Mo_fits_95 rfl rfl ?_
        refine J_iadd (q := 98) d_Mo_fits_97 rfl ?_
        refine J_iload (q := 100) 11 d_Mo_fits_98 rfl rfl ?_
        refine J_isub (q := 101) d_Mo_fits_100 rfl ?_
        refine J_iload (q := 103) 7 d_Mo_fits_101 rfl rfl ?_
        obtain ⟨hg11, h⟩ := gz_some h
        refine J_irem (q := 104) d_Mo_fits_103 hg11 rfl ?_
        obtain ⟨x12, hx12, h⟩ := ap_eq h
        refine J_nmI hx12 ?_
        refine J_istore (q := 106) (lv' := [(9, vi (x12)), (0, vr 12 (0)), (1, vi (a1)), (2, vr a2k (a2l)), (3, vr a3k (a3l)), (4, vr a4k (a4l)), (5, vi (y5)), (6, vi (y6)), (7, vi (y7)), (8, vi (y8)), (10, vi (y10)), (11, vi (y11))]) d_Mo_fits_104 (by decide) rfl rfl ?_
        obtain ⟨x13, hx13, h⟩ := ap_eq h
        refine J_iinc (q := 109) (v := x13) (lv' := [(11, vi (x13)), (9, vi (x12)), (0, vr 12 (0)), (1, vi (a1)), (2, vr a2k (a2l)), (3, vr a3k (a3l)), (4, vr a4k (a4l)), (5, vi (y5)), (6, vi (y6)), (7, vi (y7)), (8, vi (y8)), (10, vi (y10))]) 11 d_Mo_fits_106 rfl (by rw [hx13]; rfl) (by decide) rfl rfl ?_
        refine J_goto (q := 75) d_Mo_fits_109 (by decide) ?_
        refine J_pick [2, 3, 4, 5, 6, 7, 8, 9, 10, 1, 11, 0] rfl ?_
        exact ih _ _ _ _ _ _ _ _ h
def lp_Mo_fits_115 (a2k : Nat) (a2l : Nat) (a2n : Nat) (a2z : Nat) (a3k : Nat) (a3l : Nat) (a3n : Nat) (a3z : Nat) (a4k : Nat) (a4l : Nat) (a4n : Nat) (a4z : Nat) (a1 : Int32) (c_149 : Int32 → Int32 → Int32 → Int32 → Int32 → Int32 → Mem → Option (Mem)) : Nat → Int32 → Int32 → Int32 → Int32 → Int32 → Int32 → Int32 → Mem → Option (Mem)
  | 0, _, _, _, _, _, _, _, _ => none
  | n + 1, y5, y6, y7, y8, y9, y10, y11, μ =>
  if y7 ≤ y11 then
 (c_149 (y5) (y6) (y7) (y8) (y9) (y10) μ)
 else
 (gu (y6 + y10) a4n <|
  if gI μ a4k (a4l) (y6 + y10).toNatClampNeg = 0 then
 (gz (y7) <|
  ap ((y8 + y11) - (y8 + y11) / y7 * y7) fun x20 =>
  ap (y11 + (1 : Int32)) fun x21 =>
  lp_Mo_fits_115 a2k a2l a2n a2z a3k a3l a3n a3z a4k a4l a4n a4z a1 c_149 n (y5) (y6) (y7) (y8) (y9) (x20) (x21) μ)
 else
 (c_149 (y5) (y6) (y7) (y8) (y9) (y10) μ))
theorem tl_Mo_fits_115 (a2k : Nat) (a2l : Nat) (a2n : Nat) (a2z : Nat) (a3k : Nat) (a3l : Nat) (a3n : Nat) (a3z : Nat) (a4k : Nat) (a4l : Nat) (a4n : Nat) (a4z : Nat) (a1 : Int32) (ha2 : RK a2k = (4, a2n, a2z)) (ha29 : a2k < 900) (ha3 : RK a3k = (4, a3n, a3z)) (ha39 : a3k < 900) (ha4 : RK a4k = (3, a4n, a4z)) (ha49 : a4k < 900) {q : Mem} {c_149 : Int32 → Int32 → Int32 → Int32 → Int32 → Int32 → Mem → Option (Mem)} (hc_149 : ∀ (y5 : Int32) (y6 : Int32) (y7 : Int32) (y8 : Int32) (y9 : Int32) (y10 : Int32) (μ : Mem), c_149 y5 y6 y7 y8 y9 y10 μ = some q → J (GM true (QQ none q) none y_Mo_fits.name) true b_Mo_fits R_12 13 (2) 0 0 149 [(0, vr 12 (0)), (1, vi (a1)), (2, vr a2k (a2l)), (3, vr a3k (a3l)), (4, vr a4k (a4l)), (5, vi (y5)), (6, vi (y6)), (7, vi (y7)), (8, vi (y8)), (9, vi (y9)), (10, vi (y10))] [] μ) : ∀ (n : Nat) (y5 : Int32) (y6 : Int32) (y7 : Int32) (y8 : Int32) (y9 : Int32) (y10 : Int32) (y11 : Int32) (μ : Mem), lp_Mo_fits_115 a2k a2l a2n a2z a3k a3l a3n a3z a4k a4l a4n a4z a1 c_149 n y5 y6 y7 y8 y9 y10 y11 μ = some q → J (GM true (QQ none q) none y_Mo_fits.name) true b_Mo_fits R_12 13 (2) 0 0 115 [(0, vr 12 (0)), (1, vi (a1)), (2, vr a2k (a2l)), (3, vr a3k (a3l)), (4, vr a4k (a4l)), (5, vi (y5)), (6, vi (y6)), (7, vi (y7)), (8, vi (y8)), (9, vi (y9)), (10, vi (y10)), (11, vi (y11))] [] μ := by
  intro n
  induction n with
  | zero => intro _ _ _ _ _ _ _ _ h; cases h
  | succ n ih =>
    intro y5 y6 y7 y8 y9 y10 y11 μ h
    unfold lp_Mo_fits_115 at h
    refine J_iload (q := 117) 11 d_Mo_fits_115 rfl rfl ?_
    refine J_iload (q := 119) 7 d_Mo_fits_117 rfl rfl ?_
    refine J_icmp_ge (q := 122) (tgt := 149) d_Mo_fits_119 (by decide) rfl (fun hc => ?_) (fun hc => ?_)
    · rw [if_pos hc] at h
      refine J_pick [0, 1, 2, 3, 4, 5, 6, 7, 8, 9, 10] rfl ?_
      exact hc_149 _ _ _ _ _ _ _ h
    · rw [if_neg hc] at h
      refine J_aload (q := 124) 4 d_Mo_fits_122 rfl rfl ?_
      refine J_iload (q := 126) 6 d_Mo_fits_124 rfl rfl ?_
      refine J_iload (q := 128) 10 d_Mo_fits_126 rfl rfl ?_
      refine J_iadd (q := 129) d_Mo_fits_128 rfl ?_
      obtain ⟨hi18, h⟩ := gu_some h
      refine J_zald (q := 130) ha4 ha49 hi18 d_Mo_fits_129 rfl ?_
      refine J_if_ne (q := 133) (tgt := 149) d_Mo_fits_130 (by decide) rfl (fun hc => ?_) (fun hc => ?_)
      · rw [if_neg hc] at h
        refine J_pick [0, 1, 2, 3, 4, 5, 6, 7, 8, 9, 10] rfl ?_
        exact hc_149 _ _ _ _ _ _ _ h
      · rw [if_pos hc] at h
        refine J_iload (q := 135) 8 d_Mo_fits_133 rfl rfl ?_
        refine J_iload (q := 137) 11 d_Mo_fits_135 rfl rfl ?_
        refine J_iadd (q := 138) d_Mo_fits_137 rfl ?_
        refine J_iload (q := 140) 7 d_Mo_fits_138 rfl rfl ?_
        obtain ⟨hg19, h⟩ := gz_some h
        refine J_irem (q := 141) d_Mo_fits_140 hg19 rfl ?_
        obtain ⟨x20, hx20, h⟩ := ap_eq h
        refine J_nmI hx20 ?_
        refine J_istore (q := 143) (lv' := [(10, vi (x20)), (0, vr 12 (0)), (1, vi (a1)), (2, vr a2k (a2l)), (3, vr a3k (a3l)), (4, vr a4k (a4l)), (5, vi (y5)), (6, vi (y6)), (7, vi (y7)), (8, vi (y8)), (9, vi (y9)), (11, vi (y11))]) d_Mo_fits_141 (by decide) rfl rfl ?_
        obtain ⟨x21, hx21, h⟩ := ap_eq h
        refine J_iinc (q := 146) (v := x21) (lv' := [(11, vi (x21)), (10, vi (x20)), (0, vr 12 (0)), (1, vi (a1)), (2, vr a2k (a2l)), (3, vr a3k (a3l)), (4, vr a4k (a4l)), (5, vi (y5)), (6, vi (y6)), (7, vi (y7)), (8, vi (y8)), (9, vi (y9))]) 11 d_Mo_fits_143 rfl (by rw [hx21]; rfl) (by decide) rfl rfl ?_
        refine J_goto (q := 115) d_Mo_fits_146 (by decide) ?_
        refine J_pick [2, 3, 4, 5, 6, 7, 8, 9, 10, 11, 1, 0] rfl ?_
        exact ih _ _ _ _ _ _ _ _ h
def mj_Mo_fits_226 (a2k : Nat) (a2l : Nat) (a2n : Nat) (a2z : Nat) (a3k : Nat) (a3l : Nat) (a3n : Nat) (a3z : Nat) (a4k : Nat) (a4l : Nat) (a4n : Nat) (a4z : Nat) (a1 : Int32) (c_43 : Int32 → Int32 → Int32 → Int32 → Mem → Option (Mem)) (y5 : Int32) (y6 : Int32) (y7 : Int32) (y8 : Int32) (μ : Mem) : Option (Mem) :=
  ap (y8 + (1 : Int32)) fun x31 =>
  c_43 (y5) (y6) (y7) (x31) μ
theorem tj_Mo_fits_226 (a2k : Nat) (a2l : Nat) (a2n : Nat) (a2z : Nat) (a3k : Nat) (a3l : Nat) (a3n : Nat) (a3z : Nat) (a4k : Nat) (a4l : Nat) (a4n : Nat) (a4z : Nat) (a1 : Int32) (ha2 : RK a2k = (4, a2n, a2z)) (ha29 : a2k < 900) (ha3 : RK a3k = (4, a3n, a3z)) (ha39 : a3k < 900) (ha4 : RK a4k = (3, a4n, a4z)) (ha49 : a4k < 900) {q : Mem} {c_43 : Int32 → Int32 → Int32 → Int32 → Mem → Option (Mem)} (hc_43 : ∀ (y5 : Int32) (y6 : Int32) (y7 : Int32) (y8 : Int32) (μ : Mem), c_43 y5 y6 y7 y8 μ = some q → J (GM true (QQ none q) none y_Mo_fits.name) true b_Mo_fits R_12 13 (2) 0 0 43 [(0, vr 12 (0)), (1, vi (a1)), (2, vr a2k (a2l)), (3, vr a3k (a3l)), (4, vr a4k (a4l)), (5, vi (y5)), (6, vi (y6)), (7, vi (y7)), (8, vi (y8))] [] μ) (y5 : Int32) (y6 : Int32) (y7 : Int32) (y8 : Int32) (μ : Mem) (h : mj_Mo_fits_226 a2k a2l a2n a2z a3k a3l a3n a3z a4k a4l a4n a4z a1 c_43 y5 y6 y7 y8 μ = some q) : J (GM true (QQ none q) none y_Mo_fits.name) true b_Mo_fits R_12 13 (2) 0 0 226 [(0, vr 12 (0)), (1, vi (a1)), (2, vr a2k (a2l)), (3, vr a3k (a3l)), (4, vr a4k (a4l)), (5, vi (y5)), (6, vi (y6)), (7, vi (y7)), (8, vi (y8))] [] μ := by
  unfold mj_Mo_fits_226 at h
  obtain ⟨x31, hx31, h⟩ := ap_eq h
  refine J_iinc (q := 229) (v := x31) (lv' := [(8, vi (x31)), (0, vr 12 (0)), (1, vi (a1)), (2, vr a2k (a2l)), (3, vr a3k (a3l)), (4, vr a4k (a4l)), (5, vi (y5)), (6, vi (y6)), (7, vi (y7))]) 8 d_Mo_fits_226 rfl (by rw [hx31]; rfl) (by decide) rfl rfl ?_
  refine J_goto (q := 43) d_Mo_fits_229 (by decide) ?_
  refine J_pick [1, 2, 3, 4, 5, 6, 7, 8, 0] rfl ?_
  exact hc_43 _ _ _ _ _ h
def mj_Mo_fits_217 (a2k : Nat) (a2l : Nat) (a2n : Nat) (a2z : Nat) (a3k : Nat) (a3l : Nat) (a3n : Nat) (a3z : Nat) (a4k : Nat) (a4l : Nat) (a4n : Nat) (a4z : Nat) (a1 : Int32) (c_43 : Int32 → Int32 → Int32 → Int32 → Mem → Option (Mem)) (y5 : Int32) (y6 : Int32) (y7 : Int32) (y8 : Int32) (y11 : Int64) (μ : Mem) : Option (Mem) :=
  gu (y6 + y8) a3n <|
  ap (sL μ a3k (a3l) (y6 + y8).toNatClampNeg (y11)) fun μ30 =>
  mj_Mo_fits_226 a2k a2l a2n a2z a3k a3l a3n a3z a4k a4l a4n a4z a1 c_43 (y5) (y6) (y7) (y8) μ30
theorem tj_Mo_fits_217 (a2k : Nat) (a2l : Nat) (a2n : Nat) (a2z : Nat) (a3k : Nat) (a3l : Nat) (a3n : Nat) (a3z : Nat) (a4k : Nat) (a4l : Nat) (a4n : Nat) (a4z : Nat) (a1 : Int32) (ha2 : RK a2k = (4, a2n, a2z)) (ha29 : a2k < 900) (ha3 : RK a3k = (4, a3n, a3z)) (ha39 : a3k < 900) (ha4 : RK a4k = (3, a4n, a4z)) (ha49 : a4k < 900) {q : Mem} {c_43 : Int32 → Int32 → Int32 → Int32 → Mem → Option (Mem)} (hc_43 : ∀ (y5 : Int32) (y6 : Int32) (y7 : Int32) (y8 : Int32) (μ : Mem), c_43 y5 y6 y7 y8 μ = some q → J (GM true (QQ none q) none y_Mo_fits.name) true b_Mo_fits R_12 13 (2) 0 0 43 [(0, vr 12 (0)), (1, vi (a1)), (2, vr a2k (a2l)), (3, vr a3k (a3l)), (4, vr a4k (a4l)), (5, vi (y5)), (6, vi (y6)), (7, vi (y7)), (8, vi (y8))] [] μ) (y5 : Int32) (y6 : Int32) (y7 : Int32) (y8 : Int32) (y11 : Int64) (μ : Mem) (h : mj_Mo_fits_217 a2k a2l a2n a2z a3k a3l a3n a3z a4k a4l a4n a4z a1 c_43 y5 y6 y7 y8 y11 μ = some q) : J (GM true (QQ none q) none y_Mo_fits.name) true b_Mo_fits R_12 13 (2) 0 0 217 [(0, vr 12 (0)), (1, vi (a1)), (2, vr a2k (a2l)), (3, vr a3k (a3l)), (4, vr a4k (a4l)), (5, vi (y5)), (6, vi (y6)), (7, vi (y7)), (8, vi (y8)), (11, vl (y11))] [] μ := by
  unfold mj_Mo_fits_217 at h
  refine J_aload_n (q := 218) 3 d_Mo_fits_217 rfl rfl rfl ?_
  refine J_iload (q := 220) 6 d_Mo_fits_218 rfl rfl ?_
  refine J_iload (q := 222) 8 d_Mo_fits_220 rfl rfl ?_
  refine J_iadd (q := 223) d_Mo_fits_222 rfl ?_
  refine J_lload (q := 225) 9 d_Mo_fits_223 rfl rfl ?_
  obtain ⟨hi29, h⟩ := gu_some h
  refine J_last (q := 226) ha3 ha39 hi29 d_Mo_fits_225 rfl ?_
  obtain ⟨μ30, hμ30, h⟩ := ap_eq h
  refine J_nmM hμ30 ?_
  refine J_pick [0, 1, 2, 3, 4, 5, 6, 7, 8] rfl ?_
  exact tj_Mo_fits_226 a2k a2l a2n a2z a3k a3l a3n a3z a4k a4l a4n a4z a1 ha2 ha29 ha3 ha39 ha4 ha49 hc_43 _ _ _ _ _ h
def mj_Mo_fits_149 (a2k : Nat) (a2l : Nat) (a2n : Nat) (a2z : Nat) (a3k : Nat) (a3l : Nat) (a3n : Nat) (a3z : Nat) (a4k : Nat) (a4l : Nat) (a4n : Nat) (a4z : Nat) (a1 : Int32) (c_43 : Int32 → Int32 → Int32 → Int32 → Mem → Option (Mem)) (y5 : Int32) (y6 : Int32) (y7 : Int32) (y8 : Int32) (y9 : Int32) (y10 : Int32) (μ : Mem) : Option (Mem) :=
  gu (y6 + y9) a4n <|
  if gI μ a4k (a4l) (y6 + y9).toNatClampNeg = 0 then
 (mj_Mo_fits_226 a2k a2l a2n a2z a3k a3l a3n a3z a4k a4l a4n a4z a1 c_43 (y5) (y6) (y7) (y8) μ)
 else
 (gu (y6 + y8) a2n <|
  gu (y6 + y9) a2n <|
  gu (y6 + y9) a3n <|
  gu (y6 + y10) a2n <|
  gu (y6 + y10) a3n <|
  Option.bind (m_Mo_fitted (gL μ a2k (a2l) (y6 + y8).toNatClampNeg) (gL μ a2k (a2l) (y6 + y9).toNatClampNeg) (gL μ a3k (a3l) (y6 + y9).toNatClampNeg) (gL μ a2k (a2l) (y6 + y10).toNatClampNeg) (gL μ a3k (a3l) (y6 + y10).toNatClampNeg) μ) fun r28 =>
  if (m_Mo_isFar (r28) μ) then
 (ap (sI μ 12 (0) 52 ((8 : Int32))) fun μ32 =>
  mj_Mo_fits_217 a2k a2l a2n a2z a3k a3l a3n a3z a4k a4l a4n a4z a1 c_43 (y5) (y6) (y7) (y8) (r28) μ32)
 else
 (mj_Mo_fits_217 a2k a2l a2n a2z a3k a3l a3n a3z a4k a4l a4n a4z a1 c_43 (y5) (y6) (y7) (y8) (r28) μ))
theorem tj_Mo_fits_149 (a2k : Nat) (a2l : Nat) (a2n : Nat) (a2z : Nat) (a3k : Nat) (a3l : Nat) (a3n : Nat) (a3z : Nat) (a4k : Nat) (a4l : Nat) (a4n : Nat) (a4z : Nat) (a1 : Int32) (ha2 : RK a2k = (4, a2n, a2z)) (ha29 : a2k < 900) (ha3 : RK a3k = (4, a3n, a3z)) (ha39 : a3k < 900) (ha4 : RK a4k = (3, a4n, a4z)) (ha49 : a4k < 900) {q : Mem} {c_43 : Int32 → Int32 → Int32 → Int32 → Mem → Option (Mem)} (hc_43 : ∀ (y5 : Int32) (y6 : Int32) (y7 : Int32) (y8 : Int32) (μ : Mem), c_43 y5 y6 y7 y8 μ = some q → J (GM true (QQ none q) none y_Mo_fits.name) true b_Mo_fits R_12 13 (2) 0 0 43 [(0, vr 12 (0)), (1, vi (a1)), (2, vr a2k (a2l)), (3, vr a3k (a3l)), (4, vr a4k (a4l)), (5, vi (y5)), (6, vi (y6)), (7, vi (y7)), (8, vi (y8))] [] μ) (y5 : Int32) (y6 : Int32) (y7 : Int32) (y8 : Int32) (y9 : Int32) (y10 : Int32) (μ : Mem) (h : mj_Mo_fits_149 a2k a2l a2n a2z a3k a3l a3n a3z a4k a4l a4n a4z a1 c_43 y5 y6 y7 y8 y9 y10 μ = some q) : J (GM true (QQ none q) none y_Mo_fits.name) true b_Mo_fits R_12 13 (2) 0 0 149 [(0, vr 12 (0)), (1, vi (a1)), (2, vr a2k (a2l)), (3, vr a3k (a3l)), (4, vr a4k (a4l)), (5, vi (y5)), (6, vi (y6)), (7, vi (y7)), (8, vi (y8)), (9, vi (y9)), (10, vi (y10))] [] μ := by
  unfold mj_Mo_fits_149 at h
  refine J_aload (q := 151) 4 d_Mo_fits_149 rfl rfl ?_
  refine J_iload (q := 153) 6 d_Mo_fits_151 rfl rfl ?_
  refine J_iload (q := 155) 9 d_Mo_fits_153 rfl rfl ?_
  refine J_iadd (q := 156) d_Mo_fits_155 rfl ?_
  obtain ⟨hi22, h⟩ := gu_some h
  refine J_zald (q := 157) ha4 ha49 hi22 d_Mo_fits_156 rfl ?_
  refine J_if_ne (q := 160) (tgt := 163) d_Mo_fits_157 (by decide) rfl (fun hc => ?_) (fun hc => ?_)
  · rw [if_neg hc] at h
    refine J_aload_n (q := 164) 2 d_Mo_fits_163 rfl rfl rfl ?_
    refine J_iload (q := 166) 6 d_Mo_fits_164 rfl rfl ?_
    refine J_iload (q := 168) 8 d_Mo_fits_166 rfl rfl ?_
    refine J_iadd (q := 169) d_Mo_fits_168 rfl ?_
    obtain ⟨hi23, h⟩ := gu_some h
    refine J_lald (q := 170) ha2 ha29 hi23 d_Mo_fits_169 rfl ?_
    refine J_aload_n (q := 171) 2 d_Mo_fits_170 rfl rfl rfl ?_
    refine J_iload (q := 173) 6 d_Mo_fits_171 rfl rfl ?_
    refine J_iload (q := 175) 9 d_Mo_fits_173 rfl rfl ?_
    refine J_iadd (q := 176) d_Mo_fits_175 rfl ?_
    obtain ⟨hi24, h⟩ := gu_some h
    refine J_lald (q := 177) ha2 ha29 hi24 d_Mo_fits_176 rfl ?_
    refine J_aload_n (q := 178) 3 d_Mo_fits_177 rfl rfl rfl ?_
    refine J_iload (q := 180) 6 d_Mo_fits_178 rfl rfl ?_
    refine J_iload (q := 182) 9 d_Mo_fits_180 rfl rfl ?_
    refine J_iadd (q := 183) d_Mo_fits_182 rfl ?_
    obtain ⟨hi25, h⟩ := gu_some h
    refine J_lald (q := 184) ha3 ha39 hi25 d_Mo_fits_183 rfl ?_
    refine J_aload_n (q := 185) 2 d_Mo_fits_184 rfl rfl rfl ?_
    refine J_iload (q := 187) 6 d_Mo_fits_185 rfl rfl ?_
    refine J_iload (q := 189) 10 d_Mo_fits_187 rfl rfl ?_
    refine J_iadd (q := 190) d_Mo_fits_189 rfl ?_
    obtain ⟨hi26, h⟩ := gu_some h
    refine J_lald (q := 191) ha2 ha29 hi26 d_Mo_fits_190 rfl ?_
    refine J_aload_n (q := 192) 3 d_Mo_fits_191 rfl rfl rfl ?_
    refine J_iload (q := 194) 6 d_Mo_fits_192 rfl rfl ?_
    refine J_iload (q := 196) 10 d_Mo_fits_194 rfl rfl ?_
    refine J_iadd (q := 197) d_Mo_fits_196 rfl ?_
    obtain ⟨hi27, h⟩ := gu_some h
    refine J_lald (q := 198) ha3 ha39 hi27 d_Mo_fits_197 rfl ?_
    obtain ⟨r28, hr28, h⟩ := bd_some h
    refine J_callSq (rc := 0) (rs := 0) (q := 201) (as := [vl (gL μ a2k (a2l) (y6 + y8).toNatClampNeg), vl (gL μ a2k (a2l) (y6 + y9).toNatClampNeg), vl (gL μ a3k (a3l) (y6 + y9).toNatClampNeg), vl (gL μ a2k (a2l) (y6 + y10).toNatClampNeg), vl (gL μ a3k (a3l) (y6 + y10).toNatClampNeg)]) (st := []) g_1514 (t_Mo_fitted hr28) (by decide) (by decide) g_1513 g_1515 g_10 hy_Mo_fitted rfl (Nat.le_of_ble_eq_true rfl) d_Mo_fits_198 rfl ?_
    refine J_lstore (q := 203) (lv' := [(11, vl (r28)), (0, vr 12 (0)), (1, vi (a1)), (2, vr a2k (a2l)), (3, vr a3k (a3l)), (4, vr a4k (a4l)), (5, vi (y5)), (6, vi (y6)), (7, vi (y7)), (8, vi (y8)), (9, vi (y9)), (10, vi (y10))]) d_Mo_fits_201 (by decide) rfl rfl ?_
    refine J_lload (q := 205) 0 d_Mo_fits_203 rfl rfl ?_
    refine J_callSq (rc := 0) (rs := 0) (q := 208) (as := [vl (r28)]) (st := []) g_1501 (t_Mo_isFar rfl) (by decide) (by decide) g_1500 g_1502 g_10 hy_Mo_isFar rfl (Nat.le_of_ble_eq_true rfl) d_Mo_fits_205 rfl ?_
    refine J_ifB_eq (q := 211) (tgt := 217) d_Mo_fits_208 (by decide) rfl (fun hb => ?_) (fun hb => ?_)
    · rw [iB_f hb] at h
      refine J_pick [1, 2, 3, 4, 5, 6, 7, 8, 9, 0] rfl ?_
      exact tj_Mo_fits_217 a2k a2l a2n a2z a3k a3l a3n a3z a4k a4l a4n a4z a1 ha2 ha29 ha3 ha39 ha4 ha49 hc_43 _ _ _ _ _ _ h
    · rw [iB_t hb] at h
      refine J_aload_n (q := 212) 1 d_Mo_fits_211 rfl rfl rfl ?_
      refine J_bipush (q := 214) (v := (8 : Int32)) d_Mo_fits_212 (by decide) rfl ?_
      refine J_putI (q := 217) (j := 52) cd_12 (by decide) rfl rfl rfl g_1103 rfl d_Mo_fits_214 rfl ?_
      obtain ⟨μ32, hμ32, h⟩ := ap_eq h
      refine J_nmM hμ32 ?_
      refine J_pick [1, 2, 3, 4, 5, 6, 7, 8, 9, 0] rfl ?_
      exact tj_Mo_fits_217 a2k a2l a2n a2z a3k a3l a3n a3z a4k a4l a4n a4z a1 ha2 ha29 ha3 ha39 ha4 ha49 hc_43 _ _ _ _ _ _ h
  · rw [if_pos hc] at h
    refine J_goto (q := 226) d_Mo_fits_160 (by decide) ?_
    refine J_pick [0, 1, 2, 3, 4, 5, 6, 7, 8] rfl ?_
    exact tj_Mo_fits_226 a2k a2l a2n a2z a3k a3l a3n a3z a4k a4l a4n a4z a1 ha2 ha29 ha3 ha39 ha4 ha49 hc_43 _ _ _ _ _ h
def mj_Mo_fits_112 (a2k : Nat) (a2l : Nat) (a2n : Nat) (a2z : Nat) (a3k : Nat) (a3l : Nat) (a3n : Nat) (a3z : Nat) (a4k : Nat) (a4l : Nat) (a4n : Nat) (a4z : Nat) (a1 : Int32) (c_43 : Int32 → Int32 → Int32 → Int32 → Mem → Option (Mem)) (y5 : Int32) (y6 : Int32) (y7 : Int32) (y8 : Int32) (y9 : Int32) (y10 : Int32) (μ : Mem) : Option (Mem) :=
  lp_Mo_fits_115 a2k a2l a2n a2z a3k a3l a3n a3z a4k a4l a4n a4z a1 (mj_Mo_fits_149 a2k a2l a2n a2z a3k a3l a3n a3z a4k a4l a4n a4z a1 c_43) FU (y5) (y6) (y7) (y8) (y9) (y10) ((1 : Int32)) μ
theorem tj_Mo_fits_112 (a2k : Nat) (a2l : Nat) (a2n : Nat) (a2z : Nat) (a3k : Nat) (a3l : Nat) (a3n : Nat) (a3z : Nat) (a4k : Nat) (a4l : Nat) (a4n : Nat) (a4z : Nat) (a1 : Int32) (ha2 : RK a2k = (4, a2n, a2z)) (ha29 : a2k < 900) (ha3 : RK a3k = (4, a3n, a3z)) (ha39 : a3k < 900) (ha4 : RK a4k = (3, a4n, a4z)) (ha49 : a4k < 900) {q : Mem} {c_43 : Int32 → Int32 → Int32 → Int32 → Mem → Option (Mem)} (hc_43 : ∀ (y5 : Int32) (y6 : Int32) (y7 : Int32) (y8 : Int32) (μ : Mem), c_43 y5 y6 y7 y8 μ = some q → J (GM true (QQ none q) none y_Mo_fits.name) true b_Mo_fits R_12 13 (2) 0 0 43 [(0, vr 12 (0)), (1, vi (a1)), (2, vr a2k (a2l)), (3, vr a3k (a3l)), (4, vr a4k (a4l)), (5, vi (y5)), (6, vi (y6)), (7, vi (y7)), (8, vi (y8))] [] μ) (y5 : Int32) (y6 : Int32) (y7 : Int32) (y8 : Int32) (y9 : Int32) (y10 : Int32) (μ : Mem) (h : mj_Mo_fits_112 a2k a2l a2n a2z a3k a3l a3n a3z a4k a4l a4n a4z a1 c_43 y5 y6 y7 y8 y9 y10 μ = some q) : J (GM true (QQ none q) none y_Mo_fits.name) true b_Mo_fits R_12 13 (2) 0 0 112 [(0, vr 12 (0)), (1, vi (a1)), (2, vr a2k (a2l)), (3, vr a3k (a3l)), (4, vr a4k (a4l)), (5, vi (y5)), (6, vi (y6)), (7, vi (y7)), (8, vi (y8)), (9, vi (y9)), (10, vi (y10))] [] μ := by
  unfold mj_Mo_fits_112 at h
  refine J_iconst (q := 113) (v := (1 : Int32)) d_Mo_fits_112 (by decide) rfl ?_
  refine J_istore (q := 115) (lv' := [(11, vi ((1 : Int32))), (0, vr 12 (0)), (1, vi (a1)), (2, vr a2k (a2l)), (3, vr a3k (a3l)), (4, vr a4k (a4l)), (5, vi (y5)), (6, vi (y6)), (7, vi (y7)), (8, vi (y8)), (9, vi (y9)), (10, vi (y10))]) d_Mo_fits_113 (by decide) rfl rfl ?_
  refine J_pick [1, 2, 3, 4, 5, 6, 7, 8, 9, 10, 11, 0] rfl ?_
  exact tl_Mo_fits_115 a2k a2l a2n a2z a3k a3l a3n a3z a4k a4l a4n a4z a1 ha2 ha29 ha3 ha39 ha4 ha49 (fun _ _ _ _ _ _ _ h => tj_Mo_fits_149 a2k a2l a2n a2z a3k a3l a3n a3z a4k a4l a4n a4z a1 ha2 ha29 ha3 ha39 ha4 ha49 hc_43 _ _ _ _ _ _ _ h) FU _ _ _ _ _ _ _ _ h
def lp_Mo_fits_43 (a2k : Nat) (a2l : Nat) (a2n : Nat) (a2z : Nat) (a3k : Nat) (a3l : Nat) (a3n : Nat) (a3z : Nat) (a4k : Nat) (a4l : Nat) (a4n : Nat) (a4z : Nat) (a1 : Int32) (c_232 : Int32 → Mem → Option (Mem)) : Nat → Int32 → Int32 → Int32 → Int32 → Mem → Option (Mem)
  | 0, _, _, _, _, _ => none
  | n + 1, y5, y6, y7, y8, μ =>
  if y7 ≤ y8 then
 (c_232 (y5) μ)
 else
 (gu (y6 + y8) a4n <|
  if gI μ a4k (a4l) (y6 + y8).toNatClampNeg = 0 then
 (lp_Mo_fits_75 a2k a2l a2n a2z a3k a3l a3n a3z a4k a4l a4n a4z a1 (mj_Mo_fits_112 a2k a2l a2n a2z a3k a3l a3n a3z a4k a4l a4n a4z a1 (lp_Mo_fits_43 a2k a2l a2n a2z a3k a3l a3n a3z a4k a4l a4n a4z a1 c_232 n)) FU (y5) (y6) (y7) (y8) (y8) (y8) ((1 : Int32)) μ)
 else
 (mj_Mo_fits_226 a2k a2l a2n a2z a3k a3l a3n a3z a4k a4l a4n a4z a1 (lp_Mo_fits_43 a2k a2l a2n a2z a3k a3l a3n a3z a4k a4l a4n a4z a1 c_232 n) (y5) (y6) (y7) (y8) μ))
theorem tl_Mo_fits_43 (a2k : Nat) (a2l : Nat) (a2n : Nat) (a2z : Nat) (a3k : Nat) (a3l : Nat) (a3n : Nat) (a3z : Nat) (a4k : Nat) (a4l : Nat) (a4n : Nat) (a4z : Nat) (a1 : Int32) (ha2 : RK a2k = (4, a2n, a2z)) (ha29 : a2k < 900) (ha3 : RK a3k = (4, a3n, a3z)) (ha39 : a3k < 900) (ha4 : RK a4k = (3, a4n, a4z)) (ha49 : a4k < 900) {q : Mem} {c_232 : Int32 → Mem → Option (Mem)} (hc_232 : ∀ (y5 : Int32) (μ : Mem), c_232 y5 μ = some q → J (GM true (QQ none q) none y_Mo_fits.name) true b_Mo_fits R_12 13 (2) 0 0 232 [(0, vr 12 (0)), (1, vi (a1)), (2, vr a2k (a2l)), (3, vr a3k (a3l)), (4, vr a4k (a4l)), (5, vi (y5))] [] μ) : ∀ (n : Nat) (y5 : Int32) (y6 : Int32) (y7 : Int32) (y8 : Int32) (μ : Mem), lp_Mo_fits_43 a2k a2l a2n a2z a3k a3l a3n a3z a4k a4l a4n a4z a1 c_232 n y5 y6 y7 y8 μ = some q → J (GM true (QQ none q) none y_Mo_fits.name) true b_Mo_fits R_12 13 (2) 0 0 43 [(0, vr 12 (0)), (1, vi (a1)), (2, vr a2k (a2l)), (3, vr a3k (a3l)), (4, vr a4k (a4l)), (5, vi (y5)), (6, vi (y6)), (7, vi (y7)), (8, vi (y8))] [] μ := by
  intro n
  induction n with
  | zero => intro _ _ _ _ _ h; cases h
  | succ n ih =>
    intro y5 y6 y7 y8 μ h
    unfold lp_Mo_fits_43 at h
    refine J_iload (q := 45) 8 d_Mo_fits_43 rfl rfl ?_
    refine J_iload (q := 47) 7 d_Mo_fits_45 rfl rfl ?_
    refine J_icmp_ge (q := 50) (tgt := 232) d_Mo_fits_47 (by decide) rfl (fun hc => ?_) (fun hc => ?_)
    · rw [if_pos hc] at h
      refine J_pick [0, 1, 2, 3, 4, 5] rfl ?_
      exact hc_232 _ _ h
    · rw [if_neg hc] at h
      refine J_aload (q := 52) 4 d_Mo_fits_50 rfl rfl ?_
      refine J_iload (q := 54) 6 d_Mo_fits_52 rfl rfl ?_
      refine J_iload (q := 56) 8 d_Mo_fits_54 rfl rfl ?_
      refine J_iadd (q := 57) d_Mo_fits_56 rfl ?_
      obtain ⟨hi33, h⟩ := gu_some h
      refine J_zald (q := 58) ha4 ha49 hi33 d_Mo_fits_57 rfl ?_
      refine J_if_eq (q := 61) (tgt := 64) d_Mo_fits_58 (by decide) rfl (fun hc => ?_) (fun hc => ?_)
      · rw [if_pos hc] at h
        refine J_iload (q := 66) 8 d_Mo_fits_64 rfl rfl ?_
        refine J_istore (q := 68) (lv' := [(9, vi (y8)), (0, vr 12 (0)), (1, vi (a1)), (2, vr a2k (a2l)), (3, vr a3k (a3l)), (4, vr a4k (a4l)), (5, vi (y5)), (6, vi (y6)), (7, vi (y7)), (8, vi (y8))]) d_Mo_fits_66 (by decide) rfl rfl ?_
        refine J_iload (q := 70) 9 d_Mo_fits_68 rfl rfl ?_
        refine J_istore (q := 72) (lv' := [(10, vi (y8)), (9, vi (y8)), (0, vr 12 (0)), (1, vi (a1)), (2, vr a2k (a2l)), (3, vr a3k (a3l)), (4, vr a4k (a4l)), (5, vi (y5)), (6, vi (y6)), (7, vi (y7)), (8, vi (y8))]) d_Mo_fits_70 (by decide) rfl rfl ?_
        refine J_iconst (q := 73) (v := (1 : Int32)) d_Mo_fits_72 (by decide) rfl ?_
        refine J_istore (q := 75) (lv' := [(11, vi ((1 : Int32))), (10, vi (y8)), (9, vi (y8)), (0, vr 12 (0)), (1, vi (a1)), (2, vr a2k (a2l)), (3, vr a3k (a3l)), (4, vr a4k (a4l)), (5, vi (y5)), (6, vi (y6)), (7, vi (y7)), (8, vi (y8))]) d_Mo_fits_73 (by decide) rfl rfl ?_
        refine J_pick [3, 4, 5, 6, 7, 8, 9, 10, 11, 2, 1, 0] rfl ?_
        exact tl_Mo_fits_75 a2k a2l a2n a2z a3k a3l a3n a3z a4k a4l a4n a4z a1 ha2 ha29 ha3 ha39 ha4 ha49 (fun _ _ _ _ _ _ _ h => tj_Mo_fits_112 a2k a2l a2n a2z a3k a3l a3n a3z a4k a4l a4n a4z a1 ha2 ha29 ha3 ha39 ha4 ha49 ih _ _ _ _ _ _ _ h) FU _ _ _ _ _ _ _ _ h
      · rw [if_neg hc] at h
        refine J_goto (q := 226) d_Mo_fits_61 (by decide) ?_
        refine J_pick [0, 1, 2, 3, 4, 5, 6, 7, 8] rfl ?_
        exact tj_Mo_fits_226 a2k a2l a2n a2z a3k a3l a3n a3z a4k a4l a4n a4z a1 ha2 ha29 ha3 ha39 ha4 ha49 ih _ _ _ _ _ h
def mj_Mo_fits_232 (a2k : Nat) (a2l : Nat) (a2n : Nat) (a2z : Nat) (a3k : Nat) (a3l : Nat) (a3n : Nat) (a3z : Nat) (a4k : Nat) (a4l : Nat) (a4n : Nat) (a4z : Nat) (a1 : Int32) (c_3 : Int32 → Mem → Option (Mem)) (y5 : Int32) (μ : Mem) : Option (Mem) :=
  ap (y5 + (1 : Int32)) fun x34 =>
  c_3 (x34) μ
theorem tj_Mo_fits_232 (a2k : Nat) (a2l : Nat) (a2n : Nat) (a2z : Nat) (a3k : Nat) (a3l : Nat) (a3n : Nat) (a3z : Nat) (a4k : Nat) (a4l : Nat) (a4n : Nat) (a4z : Nat) (a1 : Int32) (ha2 : RK a2k = (4, a2n, a2z)) (ha29 : a2k < 900) (ha3 : RK a3k = (4, a3n, a3z)) (ha39 : a3k < 900) (ha4 : RK a4k = (3, a4n, a4z)) (ha49 : a4k < 900) {q : Mem} {c_3 : Int32 → Mem → Option (Mem)} (hc_3 : ∀ (y5 : Int32) (μ : Mem), c_3 y5 μ = some q → J (GM true (QQ none q) none y_Mo_fits.name) true b_Mo_fits R_12 13 (2) 0 0 3 [(0, vr 12 (0)), (1, vi (a1)), (2, vr a2k (a2l)), (3, vr a3k (a3l)), (4, vr a4k (a4l)), (5, vi (y5))] [] μ) (y5 : Int32) (μ : Mem) (h : mj_Mo_fits_232 a2k a2l a2n a2z a3k a3l a3n a3z a4k a4l a4n a4z a1 c_3 y5 μ = some q) : J (GM true (QQ none q) none y_Mo_fits.name) true b_Mo_fits R_12 13 (2) 0 0 232 [(0, vr 12 (0)), (1, vi (a1)), (2, vr a2k (a2l)), (3, vr a3k (a3l)), (4, vr a4k (a4l)), (5, vi (y5))] [] μ := by
  unfold mj_Mo_fits_232 at h
  obtain ⟨x34, hx34, h⟩ := ap_eq h
  refine J_iinc (q := 235) (v := x34) (lv' := [(5, vi (x34)), (0, vr 12 (0)), (1, vi (a1)), (2, vr a2k (a2l)), (3, vr a3k (a3l)), (4, vr a4k (a4l))]) 5 d_Mo_fits_232 rfl (by rw [hx34]; rfl) (by decide) rfl rfl ?_
  refine J_goto (q := 3) d_Mo_fits_235 (by decide) ?_
  refine J_pick [1, 2, 3, 4, 5, 0] rfl ?_
  exact hc_3 _ _ h
def lp_Mo_fits_3 (a2k : Nat) (a2l : Nat) (a2n : Nat) (a2z : Nat) (a3k : Nat) (a3l : Nat) (a3n : Nat) (a3z : Nat) (a4k : Nat) (a4l : Nat) (a4n : Nat) (a4z : Nat) (a1 : Int32) : Nat → Int32 → Mem → Option (Mem)
  | 0, _, _ => none
  | n + 1, y5, μ =>
  gu (a1) 32 <|
  if gI μ 343 (0) a1.toNatClampNeg ≤ y5 then
 (some μ)
 else
 (Option.bind (m_Mo_beginOf (a1) (y5) μ) fun r36 =>
  gu (((8 : Int32) * a1) + (y5)) 256 <|
  ap ((gI μ 346 (0) (((8 : Int32) * a1) + (y5)).toNatClampNeg) - (r36)) fun x38 =>
  lp_Mo_fits_43 a2k a2l a2n a2z a3k a3l a3n a3z a4k a4l a4n a4z a1 (mj_Mo_fits_232 a2k a2l a2n a2z a3k a3l a3n a3z a4k a4l a4n a4z a1 (lp_Mo_fits_3 a2k a2l a2n a2z a3k a3l a3n a3z a4k a4l a4n a4z a1 n)) FU (y5) (r36) (x38) ((0 : Int32)) μ)
theorem tl_Mo_fits_3 (a2k : Nat) (a2l : Nat) (a2n : Nat) (a2z : Nat) (a3k : Nat) (a3l : Nat) (a3n : Nat) (a3z : Nat) (a4k : Nat) (a4l : Nat) (a4n : Nat) (a4z : Nat) (a1 : Int32) (ha2 : RK a2k = (4, a2n, a2z)) (ha29 : a2k < 900) (ha3 : RK a3k = (4, a3n, a3z)) (ha39 : a3k < 900) (ha4 : RK a4k = (3, a4n, a4z)) (ha49 : a4k < 900) {q : Mem}  : ∀ (n : Nat) (y5 : Int32) (μ : Mem), lp_Mo_fits_3 a2k a2l a2n a2z a3k a3l a3n a3z a4k a4l a4n a4z a1 n y5 μ = some q → J (GM true (QQ none q) none y_Mo_fits.name) true b_Mo_fits R_12 13 (2) 0 0 3 [(0, vr 12 (0)), (1, vi (a1)), (2, vr a2k (a2l)), (3, vr a3k (a3l)), (4, vr a4k (a4l)), (5, vi (y5))] [] μ := by
  intro n
  induction n with
  | zero => intro _ _ h; cases h
  | succ n ih =>
    intro y5 μ h
    unfold lp_Mo_fits_3 at h
    refine J_iload (q := 5) 5 d_Mo_fits_3 rfl rfl ?_
    refine J_aload_n (q := 6) 0 d_Mo_fits_5 rfl rfl rfl ?_
    refine J_getF (q := 9) cd_12 (by decide) ft_12_3 rfl g_1054 rfl d_Mo_fits_6 rfl ?_
    refine J_iload_n (q := 10) 1 d_Mo_fits_9 rfl rfl rfl ?_
    obtain ⟨hi35, h⟩ := gu_some h
    refine J_iald (q := 11) rk_343 (by decide) hi35 d_Mo_fits_10 rfl ?_
    refine J_icmp_ge (q := 14) (tgt := 238) d_Mo_fits_11 (by decide) rfl (fun hc => ?_) (fun hc => ?_)
    · rw [if_pos hc] at h
      obtain rfl := Option.some.inj h
      exact J_vret rfl ⟨rfl, rfl⟩ d_Mo_fits_238
    · rw [if_neg hc] at h
      refine J_aload_n (q := 15) 0 d_Mo_fits_14 rfl rfl rfl ?_
      refine J_iload_n (q := 16) 1 d_Mo_fits_15 rfl rfl rfl ?_
      refine J_iload (q := 18) 5 d_Mo_fits_16 rfl rfl ?_
      obtain ⟨r36, hr36, h⟩ := bd_some h
      refine J_callVq (rc := 0) (rs := 0) (q := 21) (as := [vi (a1), vi (y5)]) (st := []) (by decide) rfl g_1326 sel_Mo_beginOf (t_Mo_beginOf hr36) (by decide) (by decide) g_1324 g_1327 g_10 hy_Mo_beginOf rfl (Nat.le_of_ble_eq_true rfl) d_Mo_fits_18 rfl ?_
      refine J_istore (q := 23) (lv' := [(6, vi (r36)), (0, vr 12 (0)), (1, vi (a1)), (2, vr a2k (a2l)), (3, vr a3k (a3l)), (4, vr a4k (a4l)), (5, vi (y5))]) d_Mo_fits_21 (by decide) rfl rfl ?_
      refine J_aload_n (q := 24) 1 d_Mo_fits_23 rfl rfl rfl ?_
      refine J_getF (q := 27) cd_12 (by decide) ft_12_6 rfl g_1057 rfl d_Mo_fits_24 rfl ?_
      refine J_bipush (q := 29) (v := (8 : Int32)) d_Mo_fits_27 (by decide) rfl ?_
      refine J_iload_n (q := 30) 2 d_Mo_fits_29 rfl rfl rfl ?_
      refine J_imul (q := 31) d_Mo_fits_30 rfl ?_
      refine J_iload (q := 33) 6 d_Mo_fits_31 rfl rfl ?_
      refine J_iadd (q := 34) d_Mo_fits_33 rfl ?_
      obtain ⟨hi37, h⟩ := gu_some h
      refine J_iald (q := 35) rk_346 (by decide) hi37 d_Mo_fits_34 rfl ?_
      refine J_iload (q := 37) 0 d_Mo_fits_35 rfl rfl ?_
      refine J_isub (q := 38) d_Mo_fits_37 rfl ?_
      obtain ⟨x38, hx38, h⟩ := ap_eq h
      refine J_nmI hx38 ?_
      refine J_istore (q := 40) (lv' := [(7, vi (x38)), (6, vi (r36)), (0, vr 12 (0)), (1, vi (a1)), (2, vr a2k (a2l)), (3, vr a3k (a3l)), (4, vr a4k (a4l)), (5, vi (y5))]) d_Mo_fits_38 (by decide) rfl rfl ?_
      refine J_iconst (q := 41) (v := (0 : Int32)) d_Mo_fits_40 (by decide) rfl ?_
      refine J_istore (q := 43) (lv' := [(8, vi ((0 : Int32))), (7, vi (x38)), (6, vi (r36)), (0, vr 12 (0)), (1, vi (a1)), (2, vr a2k (a2l)), (3, vr a3k (a3l)), (4, vr a4k (a4l)), (5, vi (y5))]) d_Mo_fits_41 (by decide) rfl rfl ?_
      refine J_pick [3, 4, 5, 6, 7, 8, 2, 1, 0] rfl ?_
      exact tl_Mo_fits_43 a2k a2l a2n a2z a3k a3l a3n a3z a4k a4l a4n a4z a1 ha2 ha29 ha3 ha39 ha4 ha49 (fun _ _ h => tj_Mo_fits_232 a2k a2l a2n a2z a3k a3l a3n a3z a4k a4l a4n a4z a1 ha2 ha29 ha3 ha39 ha4 ha49 ih _ _ h) FU _ _ _ _ _ h
def m_Mo_fits (a1 : Int32) (a2k : Nat) (a2l : Nat) (a2n : Nat) (a2z : Nat) (a3k : Nat) (a3l : Nat) (a3n : Nat) (a3z : Nat) (a4k : Nat) (a4l : Nat) (a4n : Nat) (a4z : Nat) (μ : Mem) : Option (Mem) :=
  lp_Mo_fits_3 a2k a2l a2n a2z a3k a3l a3n a3z a4k a4l a4n a4z a1 FU ((0 : Int32)) μ
theorem t_Mo_fits {a1 : Int32} {a2k : Nat} {a2l : Nat} {a2n : Nat} {a2z : Nat} {a3k : Nat} {a3l : Nat} {a3n : Nat} {a3z : Nat} {a4k : Nat} {a4l : Nat} {a4n : Nat} {a4z : Nat} {μ : Mem} {q : Mem} (ha2 : RK a2k = (4, a2n, a2z)) (ha29 : a2k < 900) (ha3 : RK a3k = (4, a3n, a3z)) (ha39 : a3k < 900) (ha4 : RK a4k = (3, a4n, a4z)) (ha49 : a4k < 900) (h : m_Mo_fits a1 a2k a2l a2n a2z a3k a3l a3n a3z a4k a4l a4n a4z μ = some q) : JM true (2) y_Mo_fits b_Mo_fits 13 none 0 0 [vr 12 (0), vi (a1), vr a2k (a2l), vr a3k (a3l), vr a4k (a4l)] μ (QQ none q) := by
  unfold m_Mo_fits at h
  refine JM.of pl_Mo_fits (fun ρ => Nat.le_of_ble_eq_true rfl) ?_
  show J (GM true (QQ none q) none y_Mo_fits.name) true b_Mo_fits R_12 13 (2) 0 0 0 [(0, vr 12 (0)), (1, vi (a1)), (2, vr a2k (a2l)), (3, vr a3k (a3l)), (4, vr a4k (a4l))] [] μ
  refine J_iconst (q := 1) (v := (0 : Int32)) d_Mo_fits_0 (by decide) rfl ?_
  refine J_istore (q := 3) (lv' := [(5, vi ((0 : Int32))), (0, vr 12 (0)), (1, vi (a1)), (2, vr a2k (a2l)), (3, vr a3k (a3l)), (4, vr a4k (a4l))]) d_Mo_fits_1 (by decide) rfl rfl ?_
  refine J_pick [1, 2, 3, 4, 5, 0] rfl ?_
  exact tl_Mo_fits_3 a2k a2l a2n a2z a3k a3l a3n a3z a4k a4l a4n a4z a1 ha2 ha29 ha3 ha39 ha4 ha49 FU _ _ h
def m_Mo_made (a1 : Int32) (a2 : Int64) (a3 : Int64) (μ : Mem) : Option (Int64) :=
  if a1 = (4 : Int32) then
 (some (a2 + a3))
 else if a1 = (5 : Int32) then
 (some (a2 - a3))
 else if a1 = (6 : Int32) then
 (Option.bind (m_Mo_rounded (a2 * a3) ((64 : Int64)) μ) fun r1 =>
  some (r1))
 else if a1 = (7 : Int32) then
 (Option.bind (m_Mo_rounded ((64 : Int64) * a2) (a3) μ) fun r2 =>
  some (r2))
 else if a1 = (8 : Int32) then
 (some (-(a3)))
 else if a1 = (9 : Int32) then
 (if (0 : Int64) ≤ a3 then
 (some (a3))
 else
 (some (-(a3))))
 else if a1 = (10 : Int32) then
 (Option.bind (m_Mo_rounded (a3) ((64 : Int64)) μ) fun r3 =>
  some ((64 : Int64) * r3))
 else if a1 = (11 : Int32) then
 (Option.bind (m_Mo_floor (a3) ((64 : Int64)) μ) fun r4 =>
  some ((64 : Int64) * r4))
 else if a1 = (12 : Int32) then
 (if a3 ≤ a2 then
 (some (a3))
 else
 (some (a2)))
 else if a1 = (13 : Int32) then
 (if a2 ≤ a3 then
 (some (a3))
 else
 (some (a2)))
 else if a1 = (14 : Int32) then
 (if a3 ≤ a2 then
 (some ((0 : Int64)))
 else
 (some ((64 : Int64))))
 else (if a2 = a3 then
 (some ((64 : Int64)))
 else
 (some ((0 : Int64))))
theorem t_Mo_made {a1 : Int32} {a2 : Int64} {a3 : Int64} {μ : Mem} {q : Int64} (h : m_Mo_made a1 a2 a3 μ = some q) : JM true (1) y_Mo_made b_Mo_made 5 (some (.long)) 0 0 [vi (a1), vl (a2), vl (a3)] μ (QQ (some (vl q)) μ) := by
  unfold m_Mo_made at h
  refine JM.of pl_Mo_made (fun ρ => Nat.le_of_ble_eq_true rfl) ?_
  show J (GM true (QQ (some (vl q)) μ) (some (.long)) y_Mo_made.name) true b_Mo_made R_12 5 (1) 0 0 0 [(0, vi (a1)), (1, vl (a2)), (3, vl (a3))] [] μ
  refine J_iload_n (q := 1) 0 d_Mo_made_0 rfl rfl rfl ?_
  by_cases hk0 : a1 = (4 : Int32)
  · rw [if_pos hk0] at h
    refine J_swIn (tgt := 60) d_Mo_made_1 (by rw [hk0]; decide) (by rw [hk0]; decide) (by rw [hk0]; rfl) (by decide) ?_
    refine J_lload_n (q := 61) 1 d_Mo_made_60 rfl rfl rfl ?_
    refine J_lload_n (q := 62) 2 d_Mo_made_61 rfl rfl rfl ?_
    refine J_ladd (q := 63) d_Mo_made_62 rfl ?_
    obtain rfl := Option.some.inj h
    exact J_lret rfl ⟨rfl, rfl⟩ d_Mo_made_63
  rw [if_neg hk0] at h
  by_cases hk1 : a1 = (5 : Int32)
  · rw [if_pos hk1] at h
    refine J_swIn (tgt := 64) d_Mo_made_1 (by rw [hk1]; decide) (by rw [hk1]; decide) (by rw [hk1]; rfl) (by decide) ?_
    refine J_lload_n (q := 65) 1 d_Mo_made_64 rfl rfl rfl ?_
    refine J_lload_n (q := 66) 2 d_Mo_made_65 rfl rfl rfl ?_
    refine J_lsub (q := 67) d_Mo_made_66 rfl ?_
    obtain rfl := Option.some.inj h
    exact J_lret rfl ⟨rfl, rfl⟩ d_Mo_made_67
  rw [if_neg hk1] at h
  by_cases hk2 : a1 = (6 : Int32)
  · rw [if_pos hk2] at h
    refine J_swIn (tgt := 68) d_Mo_made_1 (by rw [hk2]; decide) (by rw [hk2]; decide) (by rw [hk2]; rfl) (by decide) ?_
    refine J_lload_n (q := 69) 1 d_Mo_made_68 rfl rfl rfl ?_
    refine J_lload_n (q := 70) 2 d_Mo_made_69 rfl rfl rfl ?_
    refine J_lmul (q := 71) d_Mo_made_70 rfl ?_
    refine J_ldc2 (q := 74) d_Mo_made_71 g_1444 rfl ?_
    obtain ⟨r1, hr1, h⟩ := bd_some h
    refine J_callSq (rc := 0) (rs := 0) (q := 77) (as := [vl (a2 * a3), vl ((64 : Int64))]) (st := []) g_1370 (t_Mo_rounded hr1) (by decide) (by decide) g_1369 g_1371 g_10 hy_Mo_rounded rfl (Nat.le_of_ble_eq_true rfl) d_Mo_made_74 rfl ?_
    obtain rfl := Option.some.inj h
    exact J_lret rfl ⟨rfl, rfl⟩ d_Mo_made_77
  rw [if_neg hk2] at h
  by_cases hk3 : a1 = (7 : Int32)
  · rw [if_pos hk3] at h
    refine J_swIn (tgt := 78) d_Mo_made_1 (by rw [hk3]; decide) (by rw [hk3]; decide) (by rw [hk3]; rfl) (by decide) ?_
    refine J_ldc2 (q := 81) d_Mo_made_78 g_1444 rfl ?_
    refine J_lload_n (q := 82) 1 d_Mo_made_81 rfl rfl rfl ?_
    refine J_lmul (q := 83) d_Mo_made_82 rfl ?_
    refine J_lload_n (q := 84) 2 d_Mo_made_83 rfl rfl rfl ?_
    obtain ⟨r2, hr2, h⟩ := bd_some h
    refine J_callSq (rc := 0) (rs := 0) (q := 87) (as := [vl ((64 : Int64) * a2), vl (a3)]) (st := []) g_1370 (t_Mo_rounded hr2) (by decide) (by decide) g_1369 g_1371 g_10 hy_Mo_rounded rfl (Nat.le_of_ble_eq_true rfl) d_Mo_made_84 rfl ?_
    obtain rfl := Option.some.inj h
    exact J_lret rfl ⟨rfl, rfl⟩ d_Mo_made_87
  rw [if_neg hk3] at h
  by_cases hk4 : a1 = (8 : Int32)
  · rw [if_pos hk4] at h
    refine J_swIn (tgt := 88) d_Mo_made_1 (by rw [hk4]; decide) (by rw [hk4]; decide) (by rw [hk4]; rfl) (by decide) ?_
    refine J_lload_n (q := 89) 2 d_Mo_made_88 rfl rfl rfl ?_
    refine J_lneg (q := 90) d_Mo_made_89 rfl ?_
    obtain rfl := Option.some.inj h
    exact J_lret rfl ⟨rfl, rfl⟩ d_Mo_made_90
  rw [if_neg hk4] at h
  by_cases hk5 : a1 = (9 : Int32)
  · rw [if_pos hk5] at h
    refine J_swIn (tgt := 91) d_Mo_made_1 (by rw [hk5]; decide) (by rw [hk5]; decide) (by rw [hk5]; rfl) (by decide) ?_
    refine J_lload_n (q := 92) 2 d_Mo_made_91 rfl rfl rfl ?_
    refine J_lconst (q := 93) (v := (0 : Int64)) d_Mo_made_92 (by decide) rfl ?_
    refine J_lif_ge (q := 97) (tgt := 102) d_Mo_made_93 d_Mo_made_94 (by decide) rfl (fun hc => ?_) (fun hc => ?_)
    · rw [if_pos hc] at h
      refine J_lload_n (q := 103) 2 d_Mo_made_102 rfl rfl rfl ?_
      obtain rfl := Option.some.inj h
      exact J_lret rfl ⟨rfl, rfl⟩ d_Mo_made_103
    · rw [if_neg hc] at h
      refine J_lload_n (q := 98) 2 d_Mo_made_97 rfl rfl rfl ?_
      refine J_lneg (q := 99) d_Mo_made_98 rfl ?_
      refine J_goto (q := 103) d_Mo_made_99 (by decide) ?_
      obtain rfl := Option.some.inj h
      exact J_lret rfl ⟨rfl, rfl⟩ d_Mo_made_103
  rw [if_neg hk5] at h
  by_cases hk6 : a1 = (10 : Int32)
  · rw [if_pos hk6] at h
    refine J_swIn (tgt := 104) d_Mo_made_1 (by rw [hk6]; decide) (by rw [hk6]; decide) (by rw [hk6]; rfl) (by decide) ?_
    refine J_ldc2 (q := 107) d_Mo_made_104 g_1444 rfl ?_
    refine J_lload_n (q := 108) 2 d_Mo_made_107 rfl rfl rfl ?_
    refine J_ldc2 (q := 111) d_Mo_made_108 g_1444 rfl ?_
    obtain ⟨r3, hr3, h⟩ := bd_some h
    refine J_callSq (rc := 0) (rs := 0) (q := 114) (as := [vl (a3), vl ((64 : Int64))]) (st := [vl ((64 : Int64))]) g_1370 (t_Mo_rounded hr3) (by decide) (by decide) g_1369 g_1371 g_10 hy_Mo_rounded rfl (Nat.le_of_ble_eq_true rfl) d_Mo_made_111 rfl ?_
    refine J_lmul (q := 115) d_Mo_made_114 rfl ?_
    obtain rfl := Option.some.inj h
    exact J_lret rfl ⟨rfl, rfl⟩ d_Mo_made_115
  rw [if_neg hk6] at h
  by_cases hk7 : a1 = (11 : Int32)
  · rw [if_pos hk7] at h
    refine J_swIn (tgt := 116) d_Mo_made_1 (by rw [hk7]; decide) (by rw [hk7]; decide) (by rw [hk7]; rfl) (by decide) ?_
    refine J_ldc2 (q := 119) d_Mo_made_116 g_1444 rfl ?_
    refine J_lload_n (q := 120) 2 d_Mo_made_119 rfl rfl rfl ?_
    refine J_ldc2 (q := 123) d_Mo_made_120 g_1444 rfl ?_
    obtain ⟨r4, hr4, h⟩ := bd_some h
    refine J_callSq (rc := 0) (rs := 0) (q := 126) (as := [vl (a3), vl ((64 : Int64))]) (st := [vl ((64 : Int64))]) g_1446 (t_Mo_floor hr4) (by decide) (by decide) g_1445 g_1447 g_10 hy_Mo_floor rfl (Nat.le_of_ble_eq_true rfl) d_Mo_made_123 rfl ?_
    refine J_lmul (q := 127) d_Mo_made_126 rfl ?_
    obtain rfl := Option.some.inj h
    exact J_lret rfl ⟨rfl, rfl⟩ d_Mo_made_127
  rw [if_neg hk7] at h
  by_cases hk8 : a1 = (12 : Int32)
  · rw [if_pos hk8] at h
    refine J_swIn (tgt := 128) d_Mo_made_1 (by rw [hk8]; decide) (by rw [hk8]; decide) (by rw [hk8]; rfl) (by decide) ?_
    refine J_lload_n (q := 129) 1 d_Mo_made_128 rfl rfl rfl ?_
    refine J_lload_n (q := 130) 2 d_Mo_made_129 rfl rfl rfl ?_
    refine J_lif_ge (q := 134) (tgt := 138) d_Mo_made_130 d_Mo_made_131 (by decide) rfl (fun hc => ?_) (fun hc => ?_)
    · rw [if_pos hc] at h
      refine J_lload_n (q := 139) 2 d_Mo_made_138 rfl rfl rfl ?_
      obtain rfl := Option.some.inj h
      exact J_lret rfl ⟨rfl, rfl⟩ d_Mo_made_139
    · rw [if_neg hc] at h
      refine J_lload_n (q := 135) 1 d_Mo_made_134 rfl rfl rfl ?_
      refine J_goto (q := 139) d_Mo_made_135 (by decide) ?_
      obtain rfl := Option.some.inj h
      exact J_lret rfl ⟨rfl, rfl⟩ d_Mo_made_139
  rw [if_neg hk8] at h
  by_cases hk9 : a1 = (13 : Int32)
  · rw [if_pos hk9] at h
    refine J_swIn (tgt := 140) d_Mo_made_1 (by rw [hk9]; decide) (by rw [hk9]; decide) (by rw [hk9]; rfl) (by decide) ?_
    refine J_lload_n (q := 141) 1 d_Mo_made_140 rfl rfl rfl ?_
    refine J_lload_n (q := 142) 2 d_Mo_made_141 rfl rfl rfl ?_
    refine J_lif_le (q := 146) (tgt := 150) d_Mo_made_142 d_Mo_made_143 (by decide) rfl (fun hc => ?_) (fun hc => ?_)
    · rw [if_pos hc] at h
      refine J_lload_n (q := 151) 2 d_Mo_made_150 rfl rfl rfl ?_
      obtain rfl := Option.some.inj h
      exact J_lret rfl ⟨rfl, rfl⟩ d_Mo_made_151
    · rw [if_neg hc] at h
      refine J_lload_n (q := 147) 1 d_Mo_made_146 rfl rfl rfl ?_
      refine J_goto (q := 151) d_Mo_made_147 (by decide) ?_
      obtain rfl := Option.some.inj h
      exact J_lret rfl ⟨rfl, rfl⟩ d_Mo_made_151
  rw [if_neg hk9] at h
  by_cases hk10 : a1 = (14 : Int32)
  · rw [if_pos hk10] at h
    refine J_swIn (tgt := 152) d_Mo_made_1 (by rw [hk10]; decide) (by rw [hk10]; decide) (by rw [hk10]; rfl) (by decide) ?_
    refine J_lload_n (q := 153) 1 d_Mo_made_152 rfl rfl rfl ?_
    refine J_lload_n (q := 154) 2 d_Mo_made_153 rfl rfl rfl ?_
    refine J_lif_ge (q := 158) (tgt := 164) d_Mo_made_154 d_Mo_made_155 (by decide) rfl (fun hc => ?_) (fun hc => ?_)
    · rw [if_pos hc] at h
      refine J_lconst (q := 165) (v := (0 : Int64)) d_Mo_made_164 (by decide) rfl ?_
      obtain rfl := Option.some.inj h
      exact J_lret rfl ⟨rfl, rfl⟩ d_Mo_made_165
    · rw [if_neg hc] at h
      refine J_ldc2 (q := 161) d_Mo_made_158 g_1444 rfl ?_
      refine J_goto (q := 165) d_Mo_made_161 (by decide) ?_
      obtain rfl := Option.some.inj h
      exact J_lret rfl ⟨rfl, rfl⟩ d_Mo_made_165
  rw [if_neg hk10] at h
  refine J_swOut (tgt := 166) d_Mo_made_1 (by have e0 := lv_neT hk0 (a := 4) (by decide); have e1 := lv_neT hk1 (a := 5) (by decide); have e2 := lv_neT hk2 (a := 6) (by decide); have e3 := lv_neT hk3 (a := 7) (by decide); have e4 := lv_neT hk4 (a := 8) (by decide); have e5 := lv_neT hk5 (a := 9) (by decide); have e6 := lv_neT hk6 (a := 10) (by decide); have e7 := lv_neT hk7 (a := 11) (by decide); have e8 := lv_neT hk8 (a := 12) (by decide); have e9 := lv_neT hk9 (a := 13) (by decide); have e10 := lv_neT hk10 (a := 14) (by decide); omega) (by decide) ?_
  refine J_lload_n (q := 167) 1 d_Mo_made_166 rfl rfl rfl ?_
  refine J_lload_n (q := 168) 2 d_Mo_made_167 rfl rfl rfl ?_
  refine J_lif_ne (q := 172) (tgt := 178) d_Mo_made_168 d_Mo_made_169 (by decide) rfl (fun hc => ?_) (fun hc => ?_)
  · rw [if_neg hc] at h
    refine J_lconst (q := 179) (v := (0 : Int64)) d_Mo_made_178 (by decide) rfl ?_
    obtain rfl := Option.some.inj h
    exact J_lret rfl ⟨rfl, rfl⟩ d_Mo_made_179
  · rw [if_pos hc] at h
    refine J_ldc2 (q := 175) d_Mo_made_172 g_1444 rfl ?_
    refine J_goto (q := 179) d_Mo_made_175 (by decide) ?_
    obtain rfl := Option.some.inj h
    exact J_lret rfl ⟨rfl, rfl⟩ d_Mo_made_179
def m_Mo_pop (μ : Mem) : Option (Int64 × Mem) :=
  ap (sI μ 12 (0) 42 ((gI μ 12 (0) 42) - ((1 : Int32)))) fun μ1 =>
  gu (gI μ1 12 (0) 42) 33 <|
  some ((gL μ1 381 (0) (gI μ1 12 (0) 42).toNatClampNeg, μ1))
theorem t_Mo_pop {μ : Mem} {q : Int64 × Mem} (h : m_Mo_pop  μ = some q) : JM true (0) y_Mo_pop b_Mo_pop 1 (some (.long)) 0 0 [vr 12 (0)] μ (QQ (some (vl q.1)) q.2) := by
  unfold m_Mo_pop at h
  refine JM.of pl_Mo_pop (fun ρ => Nat.le_of_ble_eq_true rfl) ?_
  show J (GM true (QQ (some (vl q.1)) q.2) (some (.long)) y_Mo_pop.name) true b_Mo_pop R_12 1 (0) 0 0 0 [(0, vr 12 (0))] [] μ
  refine J_aload_n (q := 1) 0 d_Mo_pop_0 rfl rfl rfl ?_
  refine J_dupR (q := 2) d_Mo_pop_1 rfl ?_
  refine J_getI (q := 5) (j := 42) cd_12 (by decide) (Or.inl rfl) g_1093 rfl d_Mo_pop_2 rfl ?_
  refine J_iconst (q := 6) (v := (1 : Int32)) d_Mo_pop_5 (by decide) rfl ?_
  refine J_isub (q := 7) d_Mo_pop_6 rfl ?_
  refine J_putI (q := 10) (j := 42) cd_12 (by decide) rfl rfl rfl g_1093 rfl d_Mo_pop_7 rfl ?_
  obtain ⟨μ1, hμ1, h⟩ := ap_eq h
  refine J_nmM hμ1 ?_
  refine J_aload_n (q := 11) 0 d_Mo_pop_10 rfl rfl rfl ?_
  refine J_getF (q := 14) cd_12 (by decide) ft_12_41 rfl g_1092 rfl d_Mo_pop_11 rfl ?_
  refine J_aload_n (q := 15) 0 d_Mo_pop_14 rfl rfl rfl ?_
  refine J_getI (q := 18) (j := 42) cd_12 (by decide) (Or.inl rfl) g_1093 rfl d_Mo_pop_15 rfl ?_
  obtain ⟨hi2, h⟩ := gu_some h
  refine J_lald (q := 19) rk_381 (by decide) hi2 d_Mo_pop_18 rfl ?_
  obtain rfl := Option.some.inj h
  exact J_lret rfl ⟨rfl, rfl⟩ d_Mo_pop_19
def mj_Mo_push_13 (a1 : Int64) (μ : Mem) : Option (Mem) :=
  gu (gI μ 12 (0) 42) 33 <|
  ap (sL μ 381 (0) (gI μ 12 (0) 42).toNatClampNeg (a1)) fun μ2 =>
  ap (sI μ2 12 (0) 42 ((gI μ2 12 (0) 42) + ((1 : Int32)))) fun μ3 =>
  some μ3
theorem tj_Mo_push_13 (a1 : Int64) {q : Mem}  (μ : Mem) (h : mj_Mo_push_13 a1  μ = some q) : J (GM true (QQ none q) none y_Mo_push.name) true b_Mo_push R_12 3 (1) 0 0 13 [(0, vr 12 (0)), (1, vl (a1))] [] μ := by
  unfold mj_Mo_push_13 at h
  refine J_aload_n (q := 14) 0 d_Mo_push_13 rfl rfl rfl ?_
  refine J_getF (q := 17) cd_12 (by decide) ft_12_41 rfl g_1092 rfl d_Mo_push_14 rfl ?_
  refine J_aload_n (q := 18) 0 d_Mo_push_17 rfl rfl rfl ?_
  refine J_getI (q := 21) (j := 42) cd_12 (by decide) (Or.inl rfl) g_1093 rfl d_Mo_push_18 rfl ?_
  refine J_lload_n (q := 22) 1 d_Mo_push_21 rfl rfl rfl ?_
  obtain ⟨hi1, h⟩ := gu_some h
  refine J_last (q := 23) rk_381 (by decide) hi1 d_Mo_push_22 rfl ?_
  obtain ⟨μ2, hμ2, h⟩ := ap_eq h
  refine J_nmM hμ2 ?_
  refine J_aload_n (q := 24) 0 d_Mo_push_23 rfl rfl rfl ?_
  refine J_dupR (q := 25) d_Mo_push_24 rfl ?_
  refine J_getI (q := 28) (j := 42) cd_12 (by decide) (Or.inl rfl) g_1093 rfl d_Mo_push_25 rfl ?_
  refine J_iconst (q := 29) (v := (1 : Int32)) d_Mo_push_28 (by decide) rfl ?_
  refine J_iadd (q := 30) d_Mo_push_29 rfl ?_
  refine J_putI (q := 33) (j := 42) cd_12 (by decide) rfl rfl rfl g_1093 rfl d_Mo_push_30 rfl ?_
  obtain ⟨μ3, hμ3, h⟩ := ap_eq h
  refine J_nmM hμ3 ?_
  obtain rfl := Option.some.inj h
  exact J_vret rfl ⟨rfl, rfl⟩ d_Mo_push_33
def m_Mo_push (a1 : Int64) (μ : Mem) : Option (Mem) :=
  if (m_Mo_isFar (a1) μ) then
 (ap (sI μ 12 (0) 52 ((8 : Int32))) fun μ4 =>
  mj_Mo_push_13 a1 μ4)
 else
 (mj_Mo_push_13 a1 μ)
theorem t_Mo_push {a1 : Int64} {μ : Mem} {q : Mem} (h : m_Mo_push a1 μ = some q) : JM true (1) y_Mo_push b_Mo_push 3 none 0 0 [vr 12 (0), vl (a1)] μ (QQ none q) := by
  unfold m_Mo_push at h
  refine JM.of pl_Mo_push (fun ρ => Nat.le_of_ble_eq_true rfl) ?_
  show J (GM true (QQ none q) none y_Mo_push.name) true b_Mo_push R_12 3 (1) 0 0 0 [(0, vr 12 (0)), (1, vl (a1))] [] μ
  refine J_lload_n (q := 1) 1 d_Mo_push_0 rfl rfl rfl ?_
  refine J_callSq (rc := 0) (rs := 0) (q := 4) (as := [vl (a1)]) (st := []) g_1501 (t_Mo_isFar rfl) (by decide) (by decide) g_1500 g_1502 g_10 hy_Mo_isFar rfl (Nat.le_of_ble_eq_true rfl) d_Mo_push_1 rfl ?_
  refine J_ifB_eq (q := 7) (tgt := 13) d_Mo_push_4 (by decide) rfl (fun hb => ?_) (fun hb => ?_)
  · rw [iB_f hb] at h
    refine J_pick [0, 1] rfl ?_
    exact tj_Mo_push_13 a1 _ h
  · rw [iB_t hb] at h
    refine J_aload_n (q := 8) 0 d_Mo_push_7 rfl rfl rfl ?_
    refine J_bipush (q := 10) (v := (8 : Int32)) d_Mo_push_8 (by decide) rfl ?_
    refine J_putI (q := 13) (j := 52) cd_12 (by decide) rfl rfl rfl g_1103 rfl d_Mo_push_10 rfl ?_
    obtain ⟨μ4, hμ4, h⟩ := ap_eq h
    refine J_nmM hμ4 ?_
    refine J_pick [0, 1] rfl ?_
    exact tj_Mo_push_13 a1 _ h
def mj_Mo_puts_14 (a1k : Nat) (a1l : Nat) (a1n : Nat) (a1z : Nat) (a2k : Nat) (a2l : Nat) (a2n : Nat) (a2z : Nat) (a3 : Int32) (a4 : Int64) (μ : Mem) : Option (Mem) :=
  gu (a3) a1n <|
  ap (sL μ a1k (a1l) a3.toNatClampNeg (a4)) fun μ2 =>
  gu (a3) a2n <|
  ap (sI μ2 a2k (a2l) a3.toNatClampNeg ((1 : Int32))) fun μ4 =>
  some μ4
theorem tj_Mo_puts_14 (a1k : Nat) (a1l : Nat) (a1n : Nat) (a1z : Nat) (a2k : Nat) (a2l : Nat) (a2n : Nat) (a2z : Nat) (a3 : Int32) (a4 : Int64) (ha1 : RK a1k = (4, a1n, a1z)) (ha19 : a1k < 900) (ha2 : RK a2k = (3, a2n, a2z)) (ha29 : a2k < 900) {q : Mem}  (μ : Mem) (h : mj_Mo_puts_14 a1k a1l a1n a1z a2k a2l a2n a2z a3 a4  μ = some q) : J (GM true (QQ none q) none y_Mo_puts.name) true b_Mo_puts R_12 6 (1) 0 0 14 [(1, vr a1k (a1l)), (2, vr a2k (a2l)), (3, vi (a3)), (4, vl (a4))] [] μ := by
  unfold mj_Mo_puts_14 at h
  refine J_aload_n (q := 15) 0 d_Mo_puts_14 rfl rfl rfl ?_
  refine J_iload_n (q := 16) 2 d_Mo_puts_15 rfl rfl rfl ?_
  refine J_lload (q := 18) 3 d_Mo_puts_16 rfl rfl ?_
  obtain ⟨hi1, h⟩ := gu_some h
  refine J_last (q := 19) ha1 ha19 hi1 d_Mo_puts_18 rfl ?_
  obtain ⟨μ2, hμ2, h⟩ := ap_eq h
  refine J_nmM hμ2 ?_
  refine J_aload_n (q := 20) 1 d_Mo_puts_19 rfl rfl rfl ?_
  refine J_iload_n (q := 21) 2 d_Mo_puts_20 rfl rfl rfl ?_
  refine J_iconst (q := 22) (v := (1 : Int32)) d_Mo_puts_21 (by decide) rfl ?_
  obtain ⟨hi3, h⟩ := gu_some h
  refine J_zast (q := 23) (Or.inr rfl) ha2 ha29 hi3 d_Mo_puts_22 rfl ?_
  obtain ⟨μ4, hμ4, h⟩ := ap_eq h
  refine J_nmM hμ4 ?_
  obtain rfl := Option.some.inj h
  exact J_vret rfl ⟨rfl, rfl⟩ d_Mo_puts_23
def m_Mo_puts (a1k : Nat) (a1l : Nat) (a1n : Nat) (a1z : Nat) (a2k : Nat) (a2l : Nat) (a2n : Nat) (a2z : Nat) (a3 : Int32) (a4 : Int64) (μ : Mem) : Option (Mem) :=
  if (m_Mo_isFar (a4) μ) then
 (ap (sI μ 12 (0) 52 ((8 : Int32))) fun μ5 =>
  mj_Mo_puts_14 a1k a1l a1n a1z a2k a2l a2n a2z a3 a4 μ5)
 else
 (mj_Mo_puts_14 a1k a1l a1n a1z a2k a2l a2n a2z a3 a4 μ)
theorem t_Mo_puts {a1k : Nat} {a1l : Nat} {a1n : Nat} {a1z : Nat} {a2k : Nat} {a2l : Nat} {a2n : Nat} {a2z : Nat} {a3 : Int32} {a4 : Int64} {μ : Mem} {q : Mem} (ha1 : RK a1k = (4, a1n, a1z)) (ha19 : a1k < 900) (ha2 : RK a2k = (3, a2n, a2z)) (ha29 : a2k < 900) (h : m_Mo_puts a1k a1l a1n a1z a2k a2l a2n a2z a3 a4 μ = some q) : JM true (1) y_Mo_puts b_Mo_puts 6 none 0 0 [vr 12 (0), vr a1k (a1l), vr a2k (a2l), vi (a3), vl (a4)] μ (QQ none q) := by
  unfold m_Mo_puts at h
  refine JM.of pl_Mo_puts (fun ρ => Nat.le_of_ble_eq_true rfl) ?_
  show J (GM true (QQ none q) none y_Mo_puts.name) true b_Mo_puts R_12 6 (1) 0 0 0 [(0, vr 12 (0)), (1, vr a1k (a1l)), (2, vr a2k (a2l)), (3, vi (a3)), (4, vl (a4))] [] μ
  refine J_lload (q := 2) 4 d_Mo_puts_0 rfl rfl ?_
  refine J_callSq (rc := 0) (rs := 0) (q := 5) (as := [vl (a4)]) (st := []) g_1501 (t_Mo_isFar rfl) (by decide) (by decide) g_1500 g_1502 g_10 hy_Mo_isFar rfl (Nat.le_of_ble_eq_true rfl) d_Mo_puts_2 rfl ?_
  refine J_ifB_eq (q := 8) (tgt := 14) d_Mo_puts_5 (by decide) rfl (fun hb => ?_) (fun hb => ?_)
  · rw [iB_f hb] at h
    refine J_pick [1, 2, 3, 4] rfl ?_
    exact tj_Mo_puts_14 a1k a1l a1n a1z a2k a2l a2n a2z a3 a4 ha1 ha19 ha2 ha29 _ h
  · rw [iB_t hb] at h
    refine J_aload_n (q := 9) 0 d_Mo_puts_8 rfl rfl rfl ?_
    refine J_bipush (q := 11) (v := (8 : Int32)) d_Mo_puts_9 (by decide) rfl ?_
    refine J_putI (q := 14) (j := 52) cd_12 (by decide) rfl rfl rfl g_1103 rfl d_Mo_puts_11 rfl ?_
    obtain ⟨μ5, hμ5, h⟩ := ap_eq h
    refine J_nmM hμ5 ?_
    refine J_pick [1, 2, 3, 4] rfl ?_
    exact tj_Mo_puts_14 a1k a1l a1n a1z a2k a2l a2n a2z a3 a4 ha1 ha19 ha2 ha29 _ h
def mj_Mo_does_613 (a1 : Int32) (a2 : Int32) (μ : Mem) : Option (Int32 × Mem) :=
  some ((a2 + (1 : Int32), μ))
theorem tj_Mo_does_613 (a1 : Int32) (a2 : Int32) {q : Int32 × Mem}  (μ : Mem) (h : mj_Mo_does_613 a1 a2  μ = some q) : J (GM true (QQ (some (vi q.1)) q.2) (some (.int)) y_Mo_does.name) true b_Mo_does R_12 7 (3) 0 0 613 [(2, vi (a2))] [] μ := by
  unfold mj_Mo_does_613 at h
  refine J_iload_n (q := 614) 0 d_Mo_does_613 rfl rfl rfl ?_
  refine J_iconst (q := 615) (v := (1 : Int32)) d_Mo_does_614 (by decide) rfl ?_
  refine J_iadd (q := 616) d_Mo_does_615 rfl ?_
  obtain rfl := Option.some.inj h
  exact J_iret rfl ⟨rfl, rfl⟩ d_Mo_does_616
def mj_Mo_does_606 (a1 : Int32) (a2 : Int32) (μ : Mem) : Option (Int32 × Mem) :=
  gu (a1) 32 <|
  some ((gI μ 357 (0) a1.toNatClampNeg, μ))
theorem tj_Mo_does_606 (a1 : Int32) (a2 : Int32) {q : Int32 × Mem}  (μ : Mem) (h : mj_Mo_does_606 a1 a2  μ = some q) : J (GM true (QQ (some (vi q.1)) q.2) (some (.int)) y_Mo_does.name) true b_Mo_does R_12 7 (3) 0 0 606 [(0, vr 12 (0)), (1, vi (a1))] [] μ := by
  unfold mj_Mo_does_606 at h
  refine J_aload_n (q := 607) 0 d_Mo_does_606 rfl rfl rfl ?_
  refine J_getF (q := 610) cd_12 (by decide) ft_12_17 rfl g_1068 rfl d_Mo_does_607 rfl ?_
  refine J_iload_n (q := 611) 1 d_Mo_does_610 rfl rfl rfl ?_
  obtain ⟨hi18, h⟩ := gu_some h
  refine J_iald (q := 612) rk_357 (by decide) hi18 d_Mo_does_611 rfl ?_
  obtain rfl := Option.some.inj h
  exact J_iret rfl ⟨rfl, rfl⟩ d_Mo_does_612
def mj_Mo_does_93 (a1 : Int32) (a2 : Int32) (y3 : Int32) (y4 : Int32) (μ : Mem) : Option (Int32 × Mem) :=
  if y3 = (0 : Int32) then
 (Option.bind (m_Mo_push ((y4).toInt64) μ) fun r7 =>
  mj_Mo_does_613 a1 a2 r7)
 else if y3 = (1 : Int32) then
 (gu ((gI μ 12 (0) 42) - ((1 : Int32))) 33 <|
  Option.bind (m_Mo_push (gL μ 381 (0) ((gI μ 12 (0) 42) - ((1 : Int32))).toNatClampNeg) μ) fun r9 =>
  mj_Mo_does_613 a1 a2 r9)
 else if y3 = (2 : Int32) then
 (ap (sI μ 12 (0) 42 ((gI μ 12 (0) 42) - ((1 : Int32)))) fun μ10 =>
  mj_Mo_does_613 a1 a2 μ10)
 else if y3 = (3 : Int32) then
 (gu ((gI μ 12 (0) 42) - ((1 : Int32))) 33 <|
  ap (gL μ 381 (0) ((gI μ 12 (0) 42) - ((1 : Int32))).toNatClampNeg) fun x12 =>
  gu ((gI μ 12 (0) 42) - ((2 : Int32))) 33 <|
  gu ((gI μ 12 (0) 42) - ((1 : Int32))) 33 <|
  ap (sL μ 381 (0) ((gI μ 12 (0) 42) - ((1 : Int32))).toNatClampNeg (gL μ 381 (0) ((gI μ 12 (0) 42) - ((2 : Int32))).toNatClampNeg)) fun μ15 =>
  gu ((gI μ15 12 (0) 42) - ((2 : Int32))) 33 <|
  ap (sL μ15 381 (0) ((gI μ15 12 (0) 42) - ((2 : Int32))).toNatClampNeg (x12)) fun μ17 =>
  mj_Mo_does_613 a1 a2 μ17)
 else if y3 = (4 : Int32) then
 (mj_Mo_does_606 a1 a2 μ)
 else if y3 = (5 : Int32) then
 (mj_Mo_does_606 a1 a2 μ)
 else if y3 = (6 : Int32) then
 (mj_Mo_does_606 a1 a2 μ)
 else if y3 = (7 : Int32) then
 (mj_Mo_does_606 a1 a2 μ)
 else if y3 = (8 : Int32) then
 (mj_Mo_does_606 a1 a2 μ)
 else if y3 = (9 : Int32) then
 (mj_Mo_does_606 a1 a2 μ)
 else if y3 = (10 : Int32) then
 (mj_Mo_does_606 a1 a2 μ)
 else if y3 = (11 : Int32) then
 (mj_Mo_does_606 a1 a2 μ)
 else if y3 = (12 : Int32) then
 (mj_Mo_does_606 a1 a2 μ)
 else if y3 = (13 : Int32) then
 (mj_Mo_does_606 a1 a2 μ)
 else if y3 = (14 : Int32) then
 (mj_Mo_does_606 a1 a2 μ)
 else if y3 = (15 : Int32) then
 (mj_Mo_does_606 a1 a2 μ)
 else if y3 = (16 : Int32) then
 (some ((y4, μ)))
 else if y3 = (17 : Int32) then
 (Option.bind (m_Mo_pop  μ) fun r19 =>
  ap (r19.2) fun μ20 =>
  ap (r19.1) fun x21 =>
  if x21 = (0 : Int64) then
 (some ((y4, μ20)))
 else
 (some ((a2 + (1 : Int32), μ20))))
 else if y3 = (18 : Int32) then
 (gu (gI μ 12 (0) 45) 8 <|
  ap (sI μ 384 (0) (gI μ 12 (0) 45).toNatClampNeg (a2 + (1 : Int32))) fun μ23 =>
  ap (sI μ23 12 (0) 45 ((gI μ23 12 (0) 45) + ((1 : Int32)))) fun μ24 =>
  some ((y4, μ24)))
 else if y3 = (19 : Int32) then
 (if gI μ 12 (0) 45 = 0 then
 (gu (a1) 32 <|
  some ((gI μ 357 (0) a1.toNatClampNeg, μ)))
 else
 (ap (sI μ 12 (0) 45 ((gI μ 12 (0) 45) - ((1 : Int32)))) fun μ25 =>
  gu (gI μ25 12 (0) 45) 8 <|
  some ((gI μ25 384 (0) (gI μ25 12 (0) 45).toNatClampNeg, μ25))))
 else if y3 = (20 : Int32) then
 (Option.bind (m_Mo_pop  μ) fun r28 =>
  ap (r28.2) fun μ29 =>
  ap (r28.1) fun x30 =>
  gu (y4) 16 <|
  ap (sL μ29 383 (0) y4.toNatClampNeg (x30)) fun μ32 =>
  mj_Mo_does_613 a1 a2 μ32)
 else if y3 = (21 : Int32) then
 (gu (y4) 16 <|
  Option.bind (m_Mo_push (gL μ 383 (0) y4.toNatClampNeg) μ) fun r34 =>
  mj_Mo_does_613 a1 a2 r34)
 else if y3 = (22 : Int32) then
 (gu (y4) 100 <|
  Option.bind (m_Mo_push (gL μ 388 (0) y4.toNatClampNeg) μ) fun r36 =>
  mj_Mo_does_613 a1 a2 r36)
 else if y3 = (23 : Int32) then
 (Option.bind (m_Mo_pop  μ) fun r37 =>
  ap (r37.2) fun μ38 =>
  ap (r37.1) fun x39 =>
  Option.bind (m_Mo_puts 388 (0) 100 0 390 (0) 100 0 (y4) (x39) μ38) fun r40 =>
  mj_Mo_does_613 a1 a2 r40)
 else if y3 = (24 : Int32) then
 (gu (y4) 100 <|
  Option.bind (m_Mo_push (gL μ 389 (0) y4.toNatClampNeg) μ) fun r42 =>
  mj_Mo_does_613 a1 a2 r42)
 else if y3 = (25 : Int32) then
 (Option.bind (m_Mo_pop  μ) fun r43 =>
  ap (r43.2) fun μ44 =>
  ap (r43.1) fun x45 =>
  Option.bind (m_Mo_puts 389 (0) 100 0 391 (0) 100 0 (y4) (x45) μ44) fun r46 =>
  mj_Mo_does_613 a1 a2 r46)
 else if y3 = (26 : Int32) then
 (gu (y4) 100 <|
  Option.bind (m_Mo_rounded (gL μ 388 (0) y4.toNatClampNeg) ((64 : Int64)) μ) fun r48 =>
  Option.bind (m_Mo_puts 388 (0) 100 0 390 (0) 100 0 (y4) ((64 : Int64) * r48) μ) fun r49 =>
  mj_Mo_does_613 a1 a2 r49)
 else if y3 = (27 : Int32) then
 (gu (y4) 100 <|
  Option.bind (m_Mo_rounded (gL μ 389 (0) y4.toNatClampNeg) ((64 : Int64)) μ) fun r51 =>
  Option.bind (m_Mo_puts 389 (0) 100 0 391 (0) 100 0 (y4) ((64 : Int64) * r51) μ) fun r52 =>
  mj_Mo_does_613 a1 a2 r52)
 else if y3 = (28 : Int32) then
 (Option.bind (m_Mo_fits (a1) 386 (0) 100 0 388 (0) 100 0 390 (0) 100 0 μ) fun r53 =>
  mj_Mo_does_613 a1 a2 r53)
 else if y3 = (29 : Int32) then
 (Option.bind (m_Mo_fits (a1) 387 (0) 100 0 389 (0) 100 0 391 (0) 100 0 μ) fun r54 =>
  mj_Mo_does_613 a1 a2 r54)
 else (mj_Mo_does_606 a1 a2 μ)
theorem tj_Mo_does_93 (a1 : Int32) (a2 : Int32) {q : Int32 × Mem}  (y3 : Int32) (y4 : Int32) (μ : Mem) (h : mj_Mo_does_93 a1 a2 y3 y4 μ = some q) : J (GM true (QQ (some (vi q.1)) q.2) (some (.int)) y_Mo_does.name) true b_Mo_does R_12 7 (3) 0 0 93 [(0, vr 12 (0)), (1, vi (a1)), (2, vi (a2)), (3, vi (y3)), (4, vi (y4))] [] μ := by
  unfold mj_Mo_does_93 at h
  refine J_iload_n (q := 94) 3 d_Mo_does_93 rfl rfl rfl ?_
  by_cases hk0 : y3 = (0 : Int32)
  · rw [if_pos hk0] at h
    refine J_swIn (tgt := 228) d_Mo_does_94 (by rw [hk0]; decide) (by rw [hk0]; decide) (by rw [hk0]; rfl) (by decide) ?_
    refine J_aload_n (q := 229) 0 d_Mo_does_228 rfl rfl rfl ?_
    refine J_iload (q := 231) 4 d_Mo_does_229 rfl rfl ?_
    refine J_i2l (q := 232) d_Mo_does_231 rfl ?_
    obtain ⟨r7, hr7, h⟩ := bd_some h
    refine J_callVv (rc := 0) (rs := 0) (q := 235) (as := [vl ((y4).toInt64)]) (st := []) (by decide) rfl g_1498 sel_Mo_push (t_Mo_push hr7) (by decide) (by decide) g_1496 g_1499 g_10 hy_Mo_push rfl (Nat.le_of_ble_eq_true rfl) d_Mo_does_232 rfl ?_
    refine J_goto (q := 613) d_Mo_does_235 (by decide) ?_
    refine J_pick [2] rfl ?_
    exact tj_Mo_does_613 a1 a2 _ h
  rw [if_neg hk0] at h
  by_cases hk1 : y3 = (1 : Int32)
  · rw [if_pos hk1] at h
    refine J_swIn (tgt := 238) d_Mo_does_94 (by rw [hk1]; decide) (by rw [hk1]; decide) (by rw [hk1]; rfl) (by decide) ?_
    refine J_aload_n (q := 239) 0 d_Mo_does_238 rfl rfl rfl ?_
    refine J_aload_n (q := 240) 0 d_Mo_does_239 rfl rfl rfl ?_
    refine J_getF (q := 243) cd_12 (by decide) ft_12_41 rfl g_1092 rfl d_Mo_does_240 rfl ?_
    refine J_aload_n (q := 244) 0 d_Mo_does_243 rfl rfl rfl ?_
    refine J_getI (q := 247) (j := 42) cd_12 (by decide) (Or.inl rfl) g_1093 rfl d_Mo_does_244 rfl ?_
    refine J_iconst (q := 248) (v := (1 : Int32)) d_Mo_does_247 (by decide) rfl ?_
    refine J_isub (q := 249) d_Mo_does_248 rfl ?_
    obtain ⟨hi8, h⟩ := gu_some h
    refine J_lald (q := 250) rk_381 (by decide) hi8 d_Mo_does_249 rfl ?_
    obtain ⟨r9, hr9, h⟩ := bd_some h
    refine J_callVv (rc := 0) (rs := 0) (q := 253) (as := [vl (gL μ 381 (0) ((gI μ 12 (0) 42) - ((1 : Int32))).toNatClampNeg)]) (st := []) (by decide) rfl g_1498 sel_Mo_push (t_Mo_push hr9) (by decide) (by decide) g_1496 g_1499 g_10 hy_Mo_push rfl (Nat.le_of_ble_eq_true rfl) d_Mo_does_250 rfl ?_
    refine J_goto (q := 613) d_Mo_does_253 (by decide) ?_
    refine J_pick [2] rfl ?_
    exact tj_Mo_does_613 a1 a2 _ h
  rw [if_neg hk1] at h
  by_cases hk2 : y3 = (2 : Int32)
  · rw [if_pos hk2] at h
    refine J_swIn (tgt := 256) d_Mo_does_94 (by rw [hk2]; decide) (by rw [hk2]; decide) (by rw [hk2]; rfl) (by decide) ?_
    refine J_aload_n (q := 257) 0 d_Mo_does_256 rfl rfl rfl ?_
    refine J_dupR (q := 258) d_Mo_does_257 rfl ?_
    refine J_getI (q := 261) (j := 42) cd_12 (by decide) (Or.inl rfl) g_1093 rfl d_Mo_does_258 rfl ?_
    refine J_iconst (q := 262) (v := (1 : Int32)) d_Mo_does_261 (by decide) rfl ?_
    refine J_isub (q := 263) d_Mo_does_262 rfl ?_
    refine J_putI (q := 266) (j := 42) cd_12 (by decide) rfl rfl rfl g_1093 rfl d_Mo_does_263 rfl ?_
    obtain ⟨μ10, hμ10, h⟩ := ap_eq h
    refine J_nmM hμ10 ?_
    refine J_goto (q := 613) d_Mo_does_266 (by decide) ?_
    refine J_pick [2] rfl ?_
    exact tj_Mo_does_613 a1 a2 _ h
  rw [if_neg hk2] at h
  by_cases hk3 : y3 = (3 : Int32)
  · rw [if_pos hk3] at h
    refine J_swIn (tgt := 269) d_Mo_does_94 (by rw [hk3]; decide) (by rw [hk3]; decide) (by rw [hk3]; rfl) (by decide) ?_
    refine J_aload_n (q := 270) 0 d_Mo_does_269 rfl rfl rfl ?_
    refine J_getF (q := 273) cd_12 (by decide) ft_12_41 rfl g_1092 rfl d_Mo_does_270 rfl ?_
    refine J_aload_n (q := 274) 0 d_Mo_does_273 rfl rfl rfl ?_
    refine J_getI (q := 277) (j := 42) cd_12 (by decide) (Or.inl rfl) g_1093 rfl d_Mo_does_274 rfl ?_
    refine J_iconst (q := 278) (v := (1 : Int32)) d_Mo_does_277 (by decide) rfl ?_
    refine J_isub (q := 279) d_Mo_does_278 rfl ?_
    obtain ⟨hi11, h⟩ := gu_some h
    refine J_lald (q := 280) rk_381 (by decide) hi11 d_Mo_does_279 rfl ?_
    obtain ⟨x12, hx12, h⟩ := ap_eq h
    refine J_nmL hx12 ?_
    refine J_lstore (q := 282) (lv' := [(5, vl (x12)), (0, vr 12 (0)), (1, vi (a1)), (2, vi (a2)), (3, vi (y3)), (4, vi (y4))]) d_Mo_does_280 (by decide) rfl rfl ?_
    refine J_aload_n (q := 283) 1 d_Mo_does_282 rfl rfl rfl ?_
    refine J_getF (q := 286) cd_12 (by decide) ft_12_41 rfl g_1092 rfl d_Mo_does_283 rfl ?_
    refine J_aload_n (q := 287) 1 d_Mo_does_286 rfl rfl rfl ?_
    refine J_getI (q := 290) (j := 42) cd_12 (by decide) (Or.inl rfl) g_1093 rfl d_Mo_does_287 rfl ?_
    refine J_iconst (q := 291) (v := (1 : Int32)) d_Mo_does_290 (by decide) rfl ?_
    refine J_isub (q := 292) d_Mo_does_291 rfl ?_
    refine J_aload_n (q := 293) 1 d_Mo_does_292 rfl rfl rfl ?_
    refine J_getF (q := 296) cd_12 (by decide) ft_12_41 rfl g_1092 rfl d_Mo_does_293 rfl ?_
    refine J_aload_n (q := 297) 1 d_Mo_does_296 rfl rfl rfl ?_
    refine J_getI (q := 300) (j := 42) cd_12 (by decide) (Or.inl rfl) g_1093 rfl d_Mo_does_297 rfl ?_
    refine J_iconst (q := 301) (v := (2 : Int32)) d_Mo_does_300 (by decide) rfl ?_
    refine J_isub (q := 302) d_Mo_does_301 rfl ?_
    obtain ⟨hi13, h⟩ := gu_some h
    refine J_lald (q := 303) rk_381 (by decide) hi13 d_Mo_does_302 rfl ?_
    obtain ⟨hi14, h⟩ := gu_some h
    refine J_last (q := 304) rk_381 (by decide) hi14 d_Mo_does_303 rfl ?_
    obtain ⟨μ15, hμ15, h⟩ := ap_eq h
    refine J_nmM hμ15 ?_
    refine J_aload_n (q := 305) 1 d_Mo_does_304 rfl rfl rfl ?_
    refine J_getF (q := 308) cd_12 (by decide) ft_12_41 rfl g_1092 rfl d_Mo_does_305 rfl ?_
    refine J_aload_n (q := 309) 1 d_Mo_does_308 rfl rfl rfl ?_
    refine J_getI (q := 312) (j := 42) cd_12 (by decide) (Or.inl rfl) g_1093 rfl d_Mo_does_309 rfl ?_
    refine J_iconst (q := 313) (v := (2 : Int32)) d_Mo_does_312 (by decide) rfl ?_
    refine J_isub (q := 314) d_Mo_does_313 rfl ?_
    refine J_lload (q := 316) 0 d_Mo_does_314 rfl rfl ?_
    obtain ⟨hi16, h⟩ := gu_some h
    refine J_last (q := 317) rk_381 (by decide) hi16 d_Mo_does_316 rfl ?_
    obtain ⟨μ17, hμ17, h⟩ := ap_eq h
    refine J_nmM hμ17 ?_
    refine J_goto (q := 613) d_Mo_does_317 (by decide) ?_
    refine J_pick [3] rfl ?_
    exact tj_Mo_does_613 a1 a2 _ h
  rw [if_neg hk3] at h
  by_cases hk4 : y3 = (4 : Int32)
  · rw [if_pos hk4] at h
    refine J_swIn (tgt := 606) d_Mo_does_94 (by rw [hk4]; decide) (by rw [hk4]; decide) (by rw [hk4]; rfl) (by decide) ?_
    refine J_pick [0, 1] rfl ?_
    exact tj_Mo_does_606 a1 a2 _ h
  rw [if_neg hk4] at h
  by_cases hk5 : y3 = (5 : Int32)
  · rw [if_pos hk5] at h
    refine J_swIn (tgt := 606) d_Mo_does_94 (by rw [hk5]; decide) (by rw [hk5]; decide) (by rw [hk5]; rfl) (by decide) ?_
    refine J_pick [0, 1] rfl ?_
    exact tj_Mo_does_606 a1 a2 _ h
  rw [if_neg hk5] at h
  by_cases hk6 : y3 = (6 : Int32)
  · rw [if_pos hk6] at h
    refine J_swIn (tgt := 606) d_Mo_does_94 (by rw [hk6]; decide) (by rw [hk6]; decide) (by rw [hk6]; rfl) (by decide) ?_
    refine J_pick [0, 1] rfl ?_
    exact tj_Mo_does_606 a1 a2 _ h
  rw [if_neg hk6] at h
  by_cases hk7 : y3 = (7 : Int32)
  · rw [if_pos hk7] at h
    refine J_swIn (tgt := 606) d_Mo_does_94 (by rw [hk7]; decide) (by rw [hk7]; decide) (by rw [hk7]; rfl) (by decide) ?_
    refine J_pick [0, 1] rfl ?_
    exact tj_Mo_does_606 a1 a2 _ h
  rw [if_neg hk7] at h
  by_cases hk8 : y3 = (8 : Int32)
  · rw [if_pos hk8] at h
    refine J_swIn (tgt := 606) d_Mo_does_94 (by rw [hk8]; decide) (by rw [hk8]; decide) (by rw [hk8]; rfl) (by decide) ?_
    refine J_pick [0, 1] rfl ?_
    exact tj_Mo_does_606 a1 a2 _ h
  rw [if_neg hk8] at h
  by_cases hk9 : y3 = (9 : Int32)
  · rw [if_pos hk9] at h
    refine J_swIn (tgt := 606) d_Mo_does_94 (by rw [hk9]; decide) (by rw [hk9]; decide) (by rw [hk9]; rfl) (by decide) ?_
    refine J_pick [0, 1] rfl ?_
    exact tj_Mo_does_606 a1 a2 _ h
  rw [if_neg hk9] at h
  by_cases hk10 : y3 = (10 : Int32)
  · rw [if_pos hk10] at h
    refine J_swIn (tgt := 606) d_Mo_does_94 (by rw [hk10]; decide) (by rw [hk10]; decide) (by rw [hk10]; rfl) (by decide) ?_
    refine J_pick [0, 1] rfl ?_
    exact tj_Mo_does_606 a1 a2 _ h
  rw [if_neg hk10] at h
  by_cases hk11 : y3 = (11 : Int32)
  · rw [if_pos hk11] at h
    refine J_swIn (tgt := 606) d_Mo_does_94 (by rw [hk11]; decide) (by rw [hk11]; decide) (by rw [hk11]; rfl) (by decide) ?_
    refine J_pick [0, 1] rfl ?_
    exact tj_Mo_does_606 a1 a2 _ h
  rw [if_neg hk11] at h
  by_cases hk12 : y3 = (12 : Int32)
  · rw [if_pos hk12] at h
    refine J_swIn (tgt := 606) d_Mo_does_94 (by rw [hk12]; decide) (by rw [hk12]; decide) (by rw [hk12]; rfl) (by decide) ?_
    refine J_pick [0, 1] rfl ?_
    exact tj_Mo_does_606 a1 a2 _ h
  rw [if_neg hk12] at h
  by_cases hk13 : y3 = (13 : Int32)
  · rw [if_pos hk13] at h
    refine J_swIn (tgt := 606) d_Mo_does_94 (by rw [hk13]; decide) (by rw [hk13]; decide) (by rw [hk13]; rfl) (by decide) ?_
    refine J_pick [0, 1] rfl ?_
    exact tj_Mo_does_606 a1 a2 _ h
  rw [if_neg hk13] at h
  by_cases hk14 : y3 = (14 : Int32)
  · rw [if_pos hk14] at h
    refine J_swIn (tgt := 606) d_Mo_does_94 (by rw [hk14]; decide) (by rw [hk14]; decide) (by rw [hk14]; rfl) (by decide) ?_
    refine J_pick [0, 1] rfl ?_
    exact tj_Mo_does_606 a1 a2 _ h
  rw [if_neg hk14] at h
  by_cases hk15 : y3 = (15 : Int32)
  · rw [if_pos hk15] at h
    refine J_swIn (tgt := 606) d_Mo_does_94 (by rw [hk15]; decide) (by rw [hk15]; decide) (by rw [hk15]; rfl) (by decide) ?_
    refine J_pick [0, 1] rfl ?_
    exact tj_Mo_does_606 a1 a2 _ h
  rw [if_neg hk15] at h
  by_cases hk16 : y3 = (16 : Int32)
  · rw [if_pos hk16] at h
    refine J_swIn (tgt := 320) d_Mo_does_94 (by rw [hk16]; decide) (by rw [hk16]; decide) (by rw [hk16]; rfl) (by decide) ?_
    refine J_iload (q := 322) 4 d_Mo_does_320 rfl rfl ?_
    obtain rfl := Option.some.inj h
    exact J_iret rfl ⟨rfl, rfl⟩ d_Mo_does_322
  rw [if_neg hk16] at h
  by_cases hk17 : y3 = (17 : Int32)
  · rw [if_pos hk17] at h
    refine J_swIn (tgt := 323) d_Mo_does_94 (by rw [hk17]; decide) (by rw [hk17]; decide) (by rw [hk17]; rfl) (by decide) ?_
    refine J_aload_n (q := 324) 0 d_Mo_does_323 rfl rfl rfl ?_
    obtain ⟨r19, hr19, h⟩ := bd_some h
    refine J_callVq (rc := 0) (rs := 0) (q := 327) (as := []) (st := []) (by decide) rfl g_1491 sel_Mo_pop (t_Mo_pop hr19) (by decide) (by decide) g_1489 g_1492 g_10 hy_Mo_pop rfl (Nat.le_of_ble_eq_true rfl) d_Mo_does_324 rfl ?_
    obtain ⟨μ20, hμ20, h⟩ := ap_eq h
    refine J_nmM hμ20 ?_
    obtain ⟨x21, hx21, h⟩ := ap_eq h
    refine J_nmL hx21 ?_
    refine J_lconst (q := 328) (v := (0 : Int64)) d_Mo_does_327 (by decide) rfl ?_
    refine J_lif_ne (q := 332) (tgt := 337) d_Mo_does_328 d_Mo_does_329 (by decide) rfl (fun hc => ?_) (fun hc => ?_)
    · rw [if_neg hc] at h
      refine J_iload_n (q := 338) 2 d_Mo_does_337 rfl rfl rfl ?_
      refine J_iconst (q := 339) (v := (1 : Int32)) d_Mo_does_338 (by decide) rfl ?_
      refine J_iadd (q := 340) d_Mo_does_339 rfl ?_
      obtain rfl := Option.some.inj h
      exact J_iret rfl ⟨rfl, rfl⟩ d_Mo_does_340
    · rw [if_pos hc] at h
      refine J_iload (q := 334) 4 d_Mo_does_332 rfl rfl ?_
      refine J_goto (q := 340) d_Mo_does_334 (by decide) ?_
      obtain rfl := Option.some.inj h
      exact J_iret rfl ⟨rfl, rfl⟩ d_Mo_does_340
  rw [if_neg hk17] at h
  by_cases hk18 : y3 = (18 : Int32)
  · rw [if_pos hk18] at h
    refine J_swIn (tgt := 341) d_Mo_does_94 (by rw [hk18]; decide) (by rw [hk18]; decide) (by rw [hk18]; rfl) (by decide) ?_
    refine J_aload_n (q := 342) 0 d_Mo_does_341 rfl rfl rfl ?_
    refine J_getF (q := 345) cd_12 (by decide) ft_12_44 rfl g_1095 rfl d_Mo_does_342 rfl ?_
    refine J_aload_n (q := 346) 0 d_Mo_does_345 rfl rfl rfl ?_
    refine J_getI (q := 349) (j := 45) cd_12 (by decide) (Or.inl rfl) g_1096 rfl d_Mo_does_346 rfl ?_
    refine J_iload_n (q := 350) 2 d_Mo_does_349 rfl rfl rfl ?_
    refine J_iconst (q := 351) (v := (1 : Int32)) d_Mo_does_350 (by decide) rfl ?_
    refine J_iadd (q := 352) d_Mo_does_351 rfl ?_
    obtain ⟨hi22, h⟩ := gu_some h
    refine J_iast (q := 353) rk_384 (by decide) hi22 d_Mo_does_352 rfl ?_
    obtain ⟨μ23, hμ23, h⟩ := ap_eq h
    refine J_nmM hμ23 ?_
    refine J_aload_n (q := 354) 0 d_Mo_does_353 rfl rfl rfl ?_
    refine J_dupR (q := 355) d_Mo_does_354 rfl ?_
    refine J_getI (q := 358) (j := 45) cd_12 (by decide) (Or.inl rfl) g_1096 rfl d_Mo_does_355 rfl ?_
    refine J_iconst (q := 359) (v := (1 : Int32)) d_Mo_does_358 (by decide) rfl ?_
    refine J_iadd (q := 360) d_Mo_does_359 rfl ?_
    refine J_putI (q := 363) (j := 45) cd_12 (by decide) rfl rfl rfl g_1096 rfl d_Mo_does_360 rfl ?_
    obtain ⟨μ24, hμ24, h⟩ := ap_eq h
    refine J_nmM hμ24 ?_
    refine J_iload (q := 365) 4 d_Mo_does_363 rfl rfl ?_
    obtain rfl := Option.some.inj h
    exact J_iret rfl ⟨rfl, rfl⟩ d_Mo_does_365
  rw [if_neg hk18] at h
  by_cases hk19 : y3 = (19 : Int32)
  · rw [if_pos hk19] at h
    refine J_swIn (tgt := 366) d_Mo_does_94 (by rw [hk19]; decide) (by rw [hk19]; decide) (by rw [hk19]; rfl) (by decide) ?_
    refine J_aload_n (q := 367) 0 d_Mo_does_366 rfl rfl rfl ?_
    refine J_getI (q := 370) (j := 45) cd_12 (by decide) (Or.inl rfl) g_1096 rfl d_Mo_does_367 rfl ?_
    refine J_if_ne (q := 373) (tgt := 380) d_Mo_does_370 (by decide) rfl (fun hc => ?_) (fun hc => ?_)
    · rw [if_neg hc] at h
      refine J_aload_n (q := 381) 0 d_Mo_does_380 rfl rfl rfl ?_
      refine J_dupR (q := 382) d_Mo_does_381 rfl ?_
      refine J_getI (q := 385) (j := 45) cd_12 (by decide) (Or.inl rfl) g_1096 rfl d_Mo_does_382 rfl ?_
      refine J_iconst (q := 386) (v := (1 : Int32)) d_Mo_does_385 (by decide) rfl ?_
      refine J_isub (q := 387) d_Mo_does_386 rfl ?_
      refine J_putI (q := 390) (j := 45) cd_12 (by decide) rfl rfl rfl g_1096 rfl d_Mo_does_387 rfl ?_
      obtain ⟨μ25, hμ25, h⟩ := ap_eq h
      refine J_nmM hμ25 ?_
      refine J_aload_n (q := 391) 0 d_Mo_does_390 rfl rfl rfl ?_
      refine J_getF (q := 394) cd_12 (by decide) ft_12_44 rfl g_1095 rfl d_Mo_does_391 rfl ?_
      refine J_aload_n (q := 395) 0 d_Mo_does_394 rfl rfl rfl ?_
      refine J_getI (q := 398) (j := 45) cd_12 (by decide) (Or.inl rfl) g_1096 rfl d_Mo_does_395 rfl ?_
      obtain ⟨hi26, h⟩ := gu_some h
      refine J_iald (q := 399) rk_384 (by decide) hi26 d_Mo_does_398 rfl ?_
      obtain rfl := Option.some.inj h
      exact J_iret rfl ⟨rfl, rfl⟩ d_Mo_does_399
    · rw [if_pos hc] at h
      refine J_aload_n (q := 374) 0 d_Mo_does_373 rfl rfl rfl ?_
      refine J_getF (q := 377) cd_12 (by decide) ft_12_17 rfl g_1068 rfl d_Mo_does_374 rfl ?_
      refine J_iload_n (q := 378) 1 d_Mo_does_377 rfl rfl rfl ?_
      obtain ⟨hi27, h⟩ := gu_some h
      refine J_iald (q := 379) rk_357 (by decide) hi27 d_Mo_does_378 rfl ?_
      obtain rfl := Option.some.inj h
      exact J_iret rfl ⟨rfl, rfl⟩ d_Mo_does_379
  rw [if_neg hk19] at h
  by_cases hk20 : y3 = (20 : Int32)
  · rw [if_pos hk20] at h
    refine J_swIn (tgt := 400) d_Mo_does_94 (by rw [hk20]; decide) (by rw [hk20]; decide) (by rw [hk20]; rfl) (by decide) ?_
    refine J_aload_n (q := 401) 0 d_Mo_does_400 rfl rfl rfl ?_
    refine J_getF (q := 404) cd_12 (by decide) ft_12_43 rfl g_1094 rfl d_Mo_does_401 rfl ?_
    refine J_iload (q := 406) 4 d_Mo_does_404 rfl rfl ?_
    refine J_aload_n (q := 407) 0 d_Mo_does_406 rfl rfl rfl ?_
    obtain ⟨r28, hr28, h⟩ := bd_some h
    refine J_callVq (rc := 0) (rs := 0) (q := 410) (as := []) (st := [vi (y4), vr 383 (0)]) (by decide) rfl g_1491 sel_Mo_pop (t_Mo_pop hr28) (by decide) (by decide) g_1489 g_1492 g_10 hy_Mo_pop rfl (Nat.le_of_ble_eq_true rfl) d_Mo_does_407 rfl ?_
    obtain ⟨μ29, hμ29, h⟩ := ap_eq h
    refine J_nmM hμ29 ?_
    obtain ⟨x30, hx30, h⟩ := ap_eq h
    refine J_nmL hx30 ?_
    obtain ⟨hi31, h⟩ := gu_some h
    refine J_last (q := 411) rk_383 (by decide) hi31 d_Mo_does_410 rfl ?_
    obtain ⟨μ32, hμ32, h⟩ := ap_eq h
    refine J_nmM hμ32 ?_
    refine J_goto (q := 613) d_Mo_does_411 (by decide) ?_
    refine J_pick [2] rfl ?_
    exact tj_Mo_does_613 a1 a2 _ h
  rw [if_neg hk20] at h
  by_cases hk21 : y3 = (21 : Int32)
  · rw [if_pos hk21] at h
    refine J_swIn (tgt := 414) d_Mo_does_94 (by rw [hk21]; decide) (by rw [hk21]; decide) (by rw [hk21]; rfl) (by decide) ?_
    refine J_aload_n (q := 415) 0 d_Mo_does_414 rfl rfl rfl ?_
    refine J_aload_n (q := 416) 0 d_Mo_does_415 rfl rfl rfl ?_
    refine J_getF (q := 419) cd_12 (by decide) ft_12_43 rfl g_1094 rfl d_Mo_does_416 rfl ?_
    refine J_iload (q := 421) 4 d_Mo_does_419 rfl rfl ?_
    obtain ⟨hi33, h⟩ := gu_some h
    refine J_lald (q := 422) rk_383 (by decide) hi33 d_Mo_does_421 rfl ?_
    obtain ⟨r34, hr34, h⟩ := bd_some h
    refine J_callVv (rc := 0) (rs := 0) (q := 425) (as := [vl (gL μ 383 (0) y4.toNatClampNeg)]) (st := []) (by decide) rfl g_1498 sel_Mo_push (t_Mo_push hr34) (by decide) (by decide) g_1496 g_1499 g_10 hy_Mo_push rfl (Nat.le_of_ble_eq_true rfl) d_Mo_does_422 rfl ?_
    refine J_goto (q := 613) d_Mo_does_425 (by decide) ?_
    refine J_pick [2] rfl ?_
    exact tj_Mo_does_613 a1 a2 _ h
  rw [if_neg hk21] at h
  by_cases hk22 : y3 = (22 : Int32)
  · rw [if_pos hk22] at h
    refine J_swIn (tgt := 428) d_Mo_does_94 (by rw [hk22]; decide) (by rw [hk22]; decide) (by rw [hk22]; rfl) (by decide) ?_
    refine J_aload_n (q := 429) 0 d_Mo_does_428 rfl rfl rfl ?_
    refine J_aload_n (q := 430) 0 d_Mo_does_429 rfl rfl rfl ?_
    refine J_getF (q := 433) cd_12 (by decide) ft_12_48 rfl g_1099 rfl d_Mo_does_430 rfl ?_
    refine J_iload (q := 435) 4 d_Mo_does_433 rfl rfl ?_
    obtain ⟨hi35, h⟩ := gu_some h
    refine J_lald (q := 436) rk_388 (by decide) hi35 d_Mo_does_435 rfl ?_
    obtain ⟨r36, hr36, h⟩ := bd_some h
    refine J_callVv (rc := 0) (rs := 0) (q := 439) (as := [vl (gL μ 388 (0) y4.toNatClampNeg)]) (st := []) (by decide) rfl g_1498 sel_Mo_push (t_Mo_push hr36) (by decide) (by decide) g_1496 g_1499 g_10 hy_Mo_push rfl (Nat.le_of_ble_eq_true rfl) d_Mo_does_436 rfl ?_
    refine J_goto (q := 613) d_Mo_does_439 (by decide) ?_
    refine J_pick [2] rfl ?_
    exact tj_Mo_does_613 a1 a2 _ h
  rw [if_neg hk22] at h
  by_cases hk23 : y3 = (23 : Int32)
  · rw [if_pos hk23] at h
    refine J_swIn (tgt := 442) d_Mo_does_94 (by rw [hk23]; decide) (by rw [hk23]; decide) (by rw [hk23]; rfl) (by decide) ?_
    refine J_aload_n (q := 443) 0 d_Mo_does_442 rfl rfl rfl ?_
    refine J_aload_n (q := 444) 0 d_Mo_does_443 rfl rfl rfl ?_
    refine J_getF (q := 447) cd_12 (by decide) ft_12_48 rfl g_1099 rfl d_Mo_does_444 rfl ?_
    refine J_aload_n (q := 448) 0 d_Mo_does_447 rfl rfl rfl ?_
    refine J_getF (q := 451) cd_12 (by decide) ft_12_50 rfl g_1101 rfl d_Mo_does_448 rfl ?_
    refine J_iload (q := 453) 4 d_Mo_does_451 rfl rfl ?_
    refine J_aload_n (q := 454) 0 d_Mo_does_453 rfl rfl rfl ?_
    obtain ⟨r37, hr37, h⟩ := bd_some h
    refine J_callVq (rc := 0) (rs := 0) (q := 457) (as := []) (st := [vi (y4), vr 390 (0), vr 388 (0), vr 12 (0)]) (by decide) rfl g_1491 sel_Mo_pop (t_Mo_pop hr37) (by decide) (by decide) g_1489 g_1492 g_10 hy_Mo_pop rfl (Nat.le_of_ble_eq_true rfl) d_Mo_does_454 rfl ?_
    obtain ⟨μ38, hμ38, h⟩ := ap_eq h
    refine J_nmM hμ38 ?_
    obtain ⟨x39, hx39, h⟩ := ap_eq h
    refine J_nmL hx39 ?_
    obtain ⟨r40, hr40, h⟩ := bd_some h
    refine J_callVv (rc := 0) (rs := 0) (q := 460) (as := [vr 388 (0), vr 390 (0), vi (y4), vl (x39)]) (st := []) (by decide) rfl g_1507 sel_Mo_puts (t_Mo_puts rk_388 (by decide) rk_390 (by decide) hr40) (by decide) (by decide) g_1505 g_1508 g_10 hy_Mo_puts rfl (Nat.le_of_ble_eq_true rfl) d_Mo_does_457 rfl ?_
    refine J_goto (q := 613) d_Mo_does_460 (by decide) ?_
    refine J_pick [2] rfl ?_
    exact tj_Mo_does_613 a1 a2 _ h
  rw [if_neg hk23] at h
  by_cases hk24 : y3 = (24 : Int32)
  · rw [if_pos hk24] at h
    refine J_swIn (tgt := 463) d_Mo_does_94 (by rw [hk24]; decide) (by rw [hk24]; decide) (by rw [hk24]; rfl) (by decide) ?_
    refine J_aload_n (q := 464) 0 d_Mo_does_463 rfl rfl rfl ?_
    refine J_aload_n (q := 465) 0 d_Mo_does_464 rfl rfl rfl ?_
    refine J_getF (q := 468) cd_12 (by decide) ft_12_49 rfl g_1100 rfl d_Mo_does_465 rfl ?_
    refine J_iload (q := 470) 4 d_Mo_does_468 rfl rfl ?_
    obtain ⟨hi41, h⟩ := gu_some h
    refine J_lald (q := 471) rk_389 (by decide) hi41 d_Mo_does_470 rfl ?_
    obtain ⟨r42, hr42, h⟩ := bd_some h
    refine J_callVv (rc := 0) (rs := 0) (q := 474) (as := [vl (gL μ 389 (0) y4.toNatClampNeg)]) (st := []) (by decide) rfl g_1498 sel_Mo_push (t_Mo_push hr42) (by decide) (by decide) g_1496 g_1499 g_10 hy_Mo_push rfl (Nat.le_of_ble_eq_true rfl) d_Mo_does_471 rfl ?_
    refine J_goto (q := 613) d_Mo_does_474 (by decide) ?_
    refine J_pick [2] rfl ?_
    exact tj_Mo_does_613 a1 a2 _ h
  rw [if_neg hk24] at h
  by_cases hk25 : y3 = (25 : Int32)
  · rw [if_pos hk25] at h
    refine J_swIn (tgt := 477) d_Mo_does_94 (by rw [hk25]; decide) (by rw [hk25]; decide) (by rw [hk25]; rfl) (by decide) ?_
    refine J_aload_n (q := 478) 0 d_Mo_does_477 rfl rfl rfl ?_
    refine J_aload_n (q := 479) 0 d_Mo_does_478 rfl rfl rfl ?_
    refine J_getF (q := 482) cd_12 (by decide) ft_12_49 rfl g_1100 rfl d_Mo_does_479 rfl ?_
    refine J_aload_n (q := 483) 0 d_Mo_does_482 rfl rfl rfl ?_
    refine J_getF (q := 486) cd_12 (by decide) ft_12_51 rfl g_1102 rfl d_Mo_does_483 rfl ?_
    refine J_iload (q := 488) 4 d_Mo_does_486 rfl rfl ?_
    refine J_aload_n (q := 489) 0 d_Mo_does_488 rfl rfl rfl ?_
    obtain ⟨r43, hr43, h⟩ := bd_some h
    refine J_callVq (rc := 0) (rs := 0) (q := 492) (as := []) (st := [vi (y4), vr 391 (0), vr 389 (0), vr 12 (0)]) (by decide) rfl g_1491 sel_Mo_pop (t_Mo_pop hr43) (by decide) (by decide) g_1489 g_1492 g_10 hy_Mo_pop rfl (Nat.le_of_ble_eq_true rfl) d_Mo_does_489 rfl ?_
    obtain ⟨μ44, hμ44, h⟩ := ap_eq h
    refine J_nmM hμ44 ?_
    obtain ⟨x45, hx45, h⟩ := ap_eq h
    refine J_nmL hx45 ?_
    obtain ⟨r46, hr46, h⟩ := bd_some h
    refine J_callVv (rc := 0) (rs := 0) (q := 495) (as := [vr 389 (0), vr 391 (0), vi (y4), vl (x45)]) (st := []) (by decide) rfl g_1507 sel_Mo_puts (t_Mo_puts rk_389 (by decide) rk_391 (by decide) hr46) (by decide) (by decide) g_1505 g_1508 g_10 hy_Mo_puts rfl (Nat.le_of_ble_eq_true rfl) d_Mo_does_492 rfl ?_
    refine J_goto (q := 613) d_Mo_does_495 (by decide) ?_
    refine J_pick [2] rfl ?_
    exact tj_Mo_does_613 a1 a2 _ h
  rw [if_neg hk25] at h
  by_cases hk26 : y3 = (26 : Int32)
  · rw [if_pos hk26] at h
    refine J_swIn (tgt := 498) d_Mo_does_94 (by rw [hk26]; decide) (by rw [hk26]; decide) (by rw [hk26]; rfl) (by decide) ?_
    refine J_aload_n (q := 499) 0 d_Mo_does_498 rfl rfl rfl ?_
    refine J_aload_n (q := 500) 0 d_Mo_does_499 rfl rfl rfl ?_
    refine J_getF (q := 503) cd_12 (by decide) ft_12_48 rfl g_1099 rfl d_Mo_does_500 rfl ?_
    refine J_aload_n (q := 504) 0 d_Mo_does_503 rfl rfl rfl ?_
    refine J_getF (q := 507) cd_12 (by decide) ft_12_50 rfl g_1101 rfl d_Mo_does_504 rfl ?_
    refine J_iload (q := 509) 4 d_Mo_does_507 rfl rfl ?_
    refine J_ldc2 (q := 512) d_Mo_does_509 g_1444 rfl ?_
    refine J_aload_n (q := 513) 0 d_Mo_does_512 rfl rfl rfl ?_
    refine J_getF (q := 516) cd_12 (by decide) ft_12_48 rfl g_1099 rfl d_Mo_does_513 rfl ?_
    refine J_iload (q := 518) 4 d_Mo_does_516 rfl rfl ?_
    obtain ⟨hi47, h⟩ := gu_some h
    refine J_lald (q := 519) rk_388 (by decide) hi47 d_Mo_does_518 rfl ?_
    refine J_ldc2 (q := 522) d_Mo_does_519 g_1444 rfl ?_
    obtain ⟨r48, hr48, h⟩ := bd_some h
    refine J_callSq (rc := 0) (rs := 0) (q := 525) (as := [vl (gL μ 388 (0) y4.toNatClampNeg), vl ((64 : Int64))]) (st := [vl ((64 : Int64)), vi (y4), vr 390 (0), vr 388 (0), vr 12 (0)]) g_1370 (t_Mo_rounded hr48) (by decide) (by decide) g_1369 g_1371 g_10 hy_Mo_rounded rfl (Nat.le_of_ble_eq_true rfl) d_Mo_does_522 rfl ?_
    refine J_lmul (q := 526) d_Mo_does_525 rfl ?_
    obtain ⟨r49, hr49, h⟩ := bd_some h
    refine J_callVv (rc := 0) (rs := 0) (q := 529) (as := [vr 388 (0), vr 390 (0), vi (y4), vl ((64 : Int64) * r48)]) (st := []) (by decide) rfl g_1507 sel_Mo_puts (t_Mo_puts rk_388 (by decide) rk_390 (by decide) hr49) (by decide) (by decide) g_1505 g_1508 g_10 hy_Mo_puts rfl (Nat.le_of_ble_eq_true rfl) d_Mo_does_526 rfl ?_
    refine J_goto (q := 613) d_Mo_does_529 (by decide) ?_
    refine J_pick [2] rfl ?_
    exact tj_Mo_does_613 a1 a2 _ h
  rw [if_neg hk26] at h
  by_cases hk27 : y3 = (27 : Int32)
  · rw [if_pos hk27] at h
    refine J_swIn (tgt := 532) d_Mo_does_94 (by rw [hk27]; decide) (by rw [hk27]; decide) (by rw [hk27]; rfl) (by decide) ?_
    refine J_aload_n (q := 533) 0 d_Mo_does_532 rfl rfl rfl ?_
    refine J_aload_n (q := 534) 0 d_Mo_does_533 rfl rfl rfl ?_
    refine J_getF (q := 537) cd_12 (by decide) ft_12_49 rfl g_1100 rfl d_Mo_does_534 rfl ?_
    refine J_aload_n (q := 538) 0 d_Mo_does_537 rfl rfl rfl ?_
    refine J_getF (q := 541) cd_12 (by decide) ft_12_51 rfl g_1102 rfl d_Mo_does_538 rfl ?_
    refine J_iload (q := 543) 4 d_Mo_does_541 rfl rfl ?_
    refine J_ldc2 (q := 546) d_Mo_does_543 g_1444 rfl ?_
    refine J_aload_n (q := 547) 0 d_Mo_does_546 rfl rfl rfl ?_
    refine J_getF (q := 550) cd_12 (by decide) ft_12_49 rfl g_1100 rfl d_Mo_does_547 rfl ?_
    refine J_iload (q := 552) 4 d_Mo_does_550 rfl rfl ?_
    obtain ⟨hi50, h⟩ := gu_some h
    refine J_lald (q := 553) rk_389 (by decide) hi50 d_Mo_does_552 rfl ?_
    refine J_ldc2 (q := 556) d_Mo_does_553 g_1444 rfl ?_
    obtain ⟨r51, hr51, h⟩ := bd_some h
    refine J_callSq (rc := 0) (rs := 0) (q := 559) (as := [vl (gL μ 389 (0) y4.toNatClampNeg), vl ((64 : Int64))]) (st := [vl ((64 : Int64)), vi (y4), vr 391 (0), vr 389 (0), vr 12 (0)]) g_1370 (t_Mo_rounded hr51) (by decide) (by decide) g_1369 g_1371 g_10 hy_Mo_rounded rfl (Nat.le_of_ble_eq_true rfl) d_Mo_does_556 rfl ?_
    refine J_lmul (q := 560) d_Mo_does_559 rfl ?_
    obtain ⟨r52, hr52, h⟩ := bd_some h
    refine J_callVv (rc := 0) (rs := 0) (q := 563) (as := [vr 389 (0), vr 391 (0), vi (y4), vl ((64 : Int64) * r51)]) (st := []) (by decide) rfl g_1507 sel_Mo_puts (t_Mo_puts rk_389 (by decide) rk_391 (by decide) hr52) (by decide) (by decide) g_1505 g_1508 g_10 hy_Mo_puts rfl (Nat.le_of_ble_eq_true rfl) d_Mo_does_560 rfl ?_
    refine J_goto (q := 613) d_Mo_does_563 (by decide) ?_
    refine J_pick [2] rfl ?_
    exact tj_Mo_does_613 a1 a2 _ h
  rw [if_neg hk27] at h
  by_cases hk28 : y3 = (28 : Int32)
  · rw [if_pos hk28] at h
    refine J_swIn (tgt := 566) d_Mo_does_94 (by rw [hk28]; decide) (by rw [hk28]; decide) (by rw [hk28]; rfl) (by decide) ?_
    refine J_aload_n (q := 567) 0 d_Mo_does_566 rfl rfl rfl ?_
    refine J_iload_n (q := 568) 1 d_Mo_does_567 rfl rfl rfl ?_
    refine J_aload_n (q := 569) 0 d_Mo_does_568 rfl rfl rfl ?_
    refine J_getF (q := 572) cd_12 (by decide) ft_12_46 rfl g_1097 rfl d_Mo_does_569 rfl ?_
    refine J_aload_n (q := 573) 0 d_Mo_does_572 rfl rfl rfl ?_
    refine J_getF (q := 576) cd_12 (by decide) ft_12_48 rfl g_1099 rfl d_Mo_does_573 rfl ?_
    refine J_aload_n (q := 577) 0 d_Mo_does_576 rfl rfl rfl ?_
    refine J_getF (q := 580) cd_12 (by decide) ft_12_50 rfl g_1101 rfl d_Mo_does_577 rfl ?_
    obtain ⟨r53, hr53, h⟩ := bd_some h
    refine J_callVv (rc := 0) (rs := 0) (q := 583) (as := [vi (a1), vr 386 (0), vr 388 (0), vr 390 (0)]) (st := []) (by decide) rfl g_1511 sel_Mo_fits (t_Mo_fits rk_386 (by decide) rk_388 (by decide) rk_390 (by decide) hr53) (by decide) (by decide) g_1509 g_1512 g_10 hy_Mo_fits rfl (Nat.le_of_ble_eq_true rfl) d_Mo_does_580 rfl ?_
    refine J_goto (q := 613) d_Mo_does_583 (by decide) ?_
    refine J_pick [2] rfl ?_
    exact tj_Mo_does_613 a1 a2 _ h
  rw [if_neg hk28] at h
  by_cases hk29 : y3 = (29 : Int32)
  · rw [if_pos hk29] at h
    refine J_swIn (tgt := 586) d_Mo_does_94 (by rw [hk29]; decide) (by rw [hk29]; decide) (by rw [hk29]; rfl) (by decide) ?_
    refine J_aload_n (q := 587) 0 d_Mo_does_586 rfl rfl rfl ?_
    refine J_iload_n (q := 588) 1 d_Mo_does_587 rfl rfl rfl ?_
    refine J_aload_n (q := 589) 0 d_Mo_does_588 rfl rfl rfl ?_
    refine J_getF (q := 592) cd_12 (by decide) ft_12_47 rfl g_1098 rfl d_Mo_does_589 rfl ?_
    refine J_aload_n (q := 593) 0 d_Mo_does_592 rfl rfl rfl ?_
    refine J_getF (q := 596) cd_12 (by decide) ft_12_49 rfl g_1100 rfl d_Mo_does_593 rfl ?_
    refine J_aload_n (q := 597) 0 d_Mo_does_596 rfl rfl rfl ?_
    refine J_getF (q := 600) cd_12 (by decide) ft_12_51 rfl g_1102 rfl d_Mo_does_597 rfl ?_
    obtain ⟨r54, hr54, h⟩ := bd_some h
    refine J_callVv (rc := 0) (rs := 0) (q := 603) (as := [vi (a1), vr 387 (0), vr 389 (0), vr 391 (0)]) (st := []) (by decide) rfl g_1511 sel_Mo_fits (t_Mo_fits rk_387 (by decide) rk_389 (by decide) rk_391 (by decide) hr54) (by decide) (by decide) g_1509 g_1512 g_10 hy_Mo_fits rfl (Nat.le_of_ble_eq_true rfl) d_Mo_does_600 rfl ?_
    refine J_goto (q := 613) d_Mo_does_603 (by decide) ?_
    refine J_pick [2] rfl ?_
    exact tj_Mo_does_613 a1 a2 _ h
  rw [if_neg hk29] at h
  refine J_swOut (tgt := 606) d_Mo_does_94 (by have e0 := lv_neT hk0 (a := 0) (by decide); have e1 := lv_neT hk1 (a := 1) (by decide); have e2 := lv_neT hk2 (a := 2) (by decide); have e3 := lv_neT hk3 (a := 3) (by decide); have e4 := lv_neT hk4 (a := 4) (by decide); have e5 := lv_neT hk5 (a := 5) (by decide); have e6 := lv_neT hk6 (a := 6) (by decide); have e7 := lv_neT hk7 (a := 7) (by decide); have e8 := lv_neT hk8 (a := 8) (by decide); have e9 := lv_neT hk9 (a := 9) (by decide); have e10 := lv_neT hk10 (a := 10) (by decide); have e11 := lv_neT hk11 (a := 11) (by decide); have e12 := lv_neT hk12 (a := 12) (by decide); have e13 := lv_neT hk13 (a := 13) (by decide); have e14 := lv_neT hk14 (a := 14) (by decide); have e15 := lv_neT hk15 (a := 15) (by decide); have e16 := lv_neT hk16 (a := 16) (by decide); have e17 := lv_neT hk17 (a := 17) (by decide); have e18 := lv_neT hk18 (a := 18) (by decide); have e19 := lv_neT hk19 (a := 19) (by decide); have e20 := lv_neT hk20 (a := 20) (by decide); have e21 := lv_neT hk21 (a := 21) (by decide); have e22 := lv_neT hk22 (a := 22) (by decide); have e23 := lv_neT hk23 (a := 23) (by decide); have e24 := lv_neT hk24 (a := 24) (by decide); have e25 := lv_neT hk25 (a := 25) (by decide); have e26 := lv_neT hk26 (a := 26) (by decide); have e27 := lv_neT hk27 (a := 27) (by decide); have e28 := lv_neT hk28 (a := 28) (by decide); have e29 := lv_neT hk29 (a := 29) (by decide); omega) (by decide) ?_
  refine J_pick [0, 1] rfl ?_
  exact tj_Mo_does_606 a1 a2 _ h
def mj_Mo_does_81 (a1 : Int32) (a2 : Int32) (y5 : Int64) (z0 : Int64) (z1 : Int32) (μ : Mem) : Option (Int32 × Mem) :=
  Option.bind (m_Mo_made (z1) (z0) (y5) μ) fun r58 =>
  Option.bind (m_Mo_push (r58) μ) fun r59 =>
  some ((a2 + (1 : Int32), r59))
theorem tj_Mo_does_81 (a1 : Int32) (a2 : Int32) {q : Int32 × Mem}  (y5 : Int64) (z0 : Int64) (z1 : Int32) (μ : Mem) (h : mj_Mo_does_81 a1 a2 y5 z0 z1 μ = some q) : J (GM true (QQ (some (vi q.1)) q.2) (some (.int)) y_Mo_does.name) true b_Mo_does R_12 7 (3) 0 0 81 [(2, vi (a2)), (5, vl (y5))] [vl (z0), vi (z1), vr 12 (0)] μ := by
  unfold mj_Mo_does_81 at h
  refine J_lload (q := 83) 1 d_Mo_does_81 rfl rfl ?_
  obtain ⟨r58, hr58, h⟩ := bd_some h
  refine J_callSq (rc := 0) (rs := 0) (q := 86) (as := [vi (z1), vl (z0), vl (y5)]) (st := [vr 12 (0)]) g_1494 (t_Mo_made hr58) (by decide) (by decide) g_1493 g_1495 g_10 hy_Mo_made rfl (Nat.le_of_ble_eq_true rfl) d_Mo_does_83 rfl ?_
  obtain ⟨r59, hr59, h⟩ := bd_some h
  refine J_callVv (rc := 0) (rs := 0) (q := 89) (as := [vl (r58)]) (st := []) (by decide) rfl g_1498 sel_Mo_push (t_Mo_push hr59) (by decide) (by decide) g_1496 g_1499 g_10 hy_Mo_push rfl (Nat.le_of_ble_eq_true rfl) d_Mo_does_86 rfl ?_
  refine J_iload_n (q := 90) 0 d_Mo_does_89 rfl rfl rfl ?_
  refine J_iconst (q := 91) (v := (1 : Int32)) d_Mo_does_90 (by decide) rfl ?_
  refine J_iadd (q := 92) d_Mo_does_91 rfl ?_
  obtain rfl := Option.some.inj h
  exact J_iret rfl ⟨rfl, rfl⟩ d_Mo_does_92
def m_Mo_does (a1 : Int32) (a2 : Int32) (μ : Mem) : Option (Int32 × Mem) :=
  gu (((100 : Int32) * a1) + (a2)) 3200 <|
  ap (gI μ 358 (0) (((100 : Int32) * a1) + (a2)).toNatClampNeg) fun x2 =>
  gu (((100 : Int32) * a1) + (a2)) 3200 <|
  ap (gI μ 359 (0) (((100 : Int32) * a1) + (a2)).toNatClampNeg) fun x4 =>
  Option.bind (m_Mo_faultOf (a1) (x2) (x4) μ) fun r5 =>
  ap (sI μ 12 (0) 52 (r5)) fun μ6 =>
  if gI μ6 12 (0) 52 ≤ 0 then
 (if x2 < (4 : Int32) then
 (mj_Mo_does_93 a1 a2 (x2) (x4) μ6)
 else
 (if (15 : Int32) < x2 then
 (mj_Mo_does_93 a1 a2 (x2) (x4) μ6)
 else
 (Option.bind (m_Mo_pop  μ6) fun r55 =>
  ap (r55.2) fun μ56 =>
  ap (r55.1) fun x57 =>
  if (m_Mo_wants (x2) μ56) = (2 : Int32) then
 (Option.bind (m_Mo_pop  μ56) fun r60 =>
  ap (r60.2) fun μ61 =>
  ap (r60.1) fun x62 =>
  mj_Mo_does_81 a1 a2 (x57) (x62) (x2) μ61)
 else
 (mj_Mo_does_81 a1 a2 (x57) ((0 : Int64)) (x2) μ56))))
 else
 (some ((a2, μ6)))
theorem t_Mo_does {a1 : Int32} {a2 : Int32} {μ : Mem} {q : Int32 × Mem} (h : m_Mo_does a1 a2 μ = some q) : JM true (3) y_Mo_does b_Mo_does 7 (some (.int)) 0 0 [vr 12 (0), vi (a1), vi (a2)] μ (QQ (some (vi q.1)) q.2) := by
  unfold m_Mo_does at h
  refine JM.of pl_Mo_does (fun ρ => Nat.le_of_ble_eq_true rfl) ?_
  show J (GM true (QQ (some (vi q.1)) q.2) (some (.int)) y_Mo_does.name) true b_Mo_does R_12 7 (3) 0 0 0 [(0, vr 12 (0)), (1, vi (a1)), (2, vi (a2))] [] μ
  refine J_aload_n (q := 1) 0 d_Mo_does_0 rfl rfl rfl ?_
  refine J_getF (q := 4) cd_12 (by decide) ft_12_18 rfl g_1069 rfl d_Mo_does_1 rfl ?_
  refine J_bipush (q := 6) (v := (100 : Int32)) d_Mo_does_4 (by decide) rfl ?_
  refine J_iload_n (q := 7) 1 d_Mo_does_6 rfl rfl rfl ?_
  refine J_imul (q := 8) d_Mo_does_7 rfl ?_
  refine J_iload_n (q := 9) 2 d_Mo_does_8 rfl rfl rfl ?_
  refine J_iadd (q := 10) d_Mo_does_9 rfl ?_
  obtain ⟨hi1, h⟩ := gu_some h
  refine J_iald (q := 11) rk_358 (by decide) hi1 d_Mo_does_10 rfl ?_
  obtain ⟨x2, hx2, h⟩ := ap_eq h
  refine J_nmI hx2 ?_
  refine J_istore_n (q := 12) (lv' := [(3, vi (x2)), (0, vr 12 (0)), (1, vi (a1)), (2, vi (a2))]) d_Mo_does_11 rfl (by decide) rfl rfl ?_
  refine J_aload_n (q := 13) 1 d_Mo_does_12 rfl rfl rfl ?_
  refine J_getF (q := 16) cd_12 (by decide) ft_12_19 rfl g_1070 rfl d_Mo_does_13 rfl ?_
  refine J_bipush (q := 18) (v := (100 : Int32)) d_Mo_does_16 (by decide) rfl ?_
  refine J_iload_n (q := 19) 2 d_Mo_does_18 rfl rfl rfl ?_
  refine J_imul (q := 20) d_Mo_does_19 rfl ?_
  refine J_iload_n (q := 21) 3 d_Mo_does_20 rfl rfl rfl ?_
  refine J_iadd (q := 22) d_Mo_does_21 rfl ?_
  obtain ⟨hi3, h⟩ := gu_some h
  refine J_iald (q := 23) rk_359 (by decide) hi3 d_Mo_does_22 rfl ?_
  obtain ⟨x4, hx4, h⟩ := ap_eq h
  refine J_nmI hx4 ?_
  refine J_istore (q := 25) (lv' := [(4, vi (x4)), (3, vi (x2)), (0, vr 12 (0)), (1, vi (a1)), (2, vi (a2))]) d_Mo_does_23 (by decide) rfl rfl ?_
  refine J_aload_n (q := 26) 2 d_Mo_does_25 rfl rfl rfl ?_
  refine J_aload_n (q := 27) 2 d_Mo_does_26 rfl rfl rfl ?_
  refine J_iload_n (q := 28) 3 d_Mo_does_27 rfl rfl rfl ?_
  refine J_iload_n (q := 29) 1 d_Mo_does_28 rfl rfl rfl ?_
  refine J_iload (q := 31) 0 d_Mo_does_29 rfl rfl ?_
  obtain ⟨r5, hr5, h⟩ := bd_some h
  refine J_callVq (rc := 0) (rs := 0) (q := 34) (as := [vi (a1), vi (x2), vi (x4)]) (st := [vr 12 (0)]) (by decide) rfl g_1478 sel_Mo_faultOf (t_Mo_faultOf hr5) (by decide) (by decide) g_1476 g_1479 g_10 hy_Mo_faultOf rfl (Nat.le_of_ble_eq_true rfl) d_Mo_does_31 rfl ?_
  refine J_putI (q := 37) (j := 52) cd_12 (by decide) rfl rfl rfl g_1103 rfl d_Mo_does_34 rfl ?_
  obtain ⟨μ6, hμ6, h⟩ := ap_eq h
  refine J_nmM hμ6 ?_
  refine J_aload_n (q := 38) 2 d_Mo_does_37 rfl rfl rfl ?_
  refine J_getI (q := 41) (j := 52) cd_12 (by decide) (Or.inl rfl) g_1103 rfl d_Mo_does_38 rfl ?_
  refine J_if_le (q := 44) (tgt := 46) d_Mo_does_41 (by decide) rfl (fun hc => ?_) (fun hc => ?_)
  · rw [if_pos hc] at h
    refine J_iload_n (q := 47) 1 d_Mo_does_46 rfl rfl rfl ?_
    refine J_iconst (q := 48) (v := (4 : Int32)) d_Mo_does_47 (by decide) rfl ?_
    refine J_icmp_lt (q := 51) (tgt := 93) d_Mo_does_48 (by decide) rfl (fun hc => ?_) (fun hc => ?_)
    · rw [if_pos hc] at h
      refine J_pick [2, 3, 4, 1, 0] rfl ?_
      exact tj_Mo_does_93 a1 a2 _ _ _ h
    · rw [if_neg hc] at h
      refine J_iload_n (q := 52) 1 d_Mo_does_51 rfl rfl rfl ?_
      refine J_bipush (q := 54) (v := (15 : Int32)) d_Mo_does_52 (by decide) rfl ?_
      refine J_icmp_gt (q := 57) (tgt := 93) d_Mo_does_54 (by decide) rfl (fun hc => ?_) (fun hc => ?_)
      · rw [if_pos hc] at h
        refine J_pick [2, 3, 4, 1, 0] rfl ?_
        exact tj_Mo_does_93 a1 a2 _ _ _ h
      · rw [if_neg hc] at h
        refine J_aload_n (q := 58) 2 d_Mo_does_57 rfl rfl rfl ?_
        obtain ⟨r55, hr55, h⟩ := bd_some h
        refine J_callVq (rc := 0) (rs := 0) (q := 61) (as := []) (st := []) (by decide) rfl g_1491 sel_Mo_pop (t_Mo_pop hr55) (by decide) (by decide) g_1489 g_1492 g_10 hy_Mo_pop rfl (Nat.le_of_ble_eq_true rfl) d_Mo_does_58 rfl ?_
        obtain ⟨μ56, hμ56, h⟩ := ap_eq h
        refine J_nmM hμ56 ?_
        obtain ⟨x57, hx57, h⟩ := ap_eq h
        refine J_nmL hx57 ?_
        refine J_lstore (q := 63) (lv' := [(5, vl (x57)), (4, vi (x4)), (3, vi (x2)), (0, vr 12 (0)), (1, vi (a1)), (2, vi (a2))]) d_Mo_does_61 (by decide) rfl rfl ?_
        refine J_aload_n (q := 64) 3 d_Mo_does_63 rfl rfl rfl ?_
        refine J_iload_n (q := 65) 2 d_Mo_does_64 rfl rfl rfl ?_
        refine J_iload_n (q := 66) 2 d_Mo_does_65 rfl rfl rfl ?_
        refine J_callSq (rc := 0) (rs := 0) (q := 69) (as := [vi (x2)]) (st := [vi (x2), vr 12 (0)]) g_1481 (t_Mo_wants rfl) (by decide) (by decide) g_1480 g_1482 g_10 hy_Mo_wants rfl (Nat.le_of_ble_eq_true rfl) d_Mo_does_66 rfl ?_
        refine J_iconst (q := 70) (v := (2 : Int32)) d_Mo_does_69 (by decide) rfl ?_
        refine J_icmp_ne (q := 73) (tgt := 80) d_Mo_does_70 (by decide) rfl (fun hc => ?_) (fun hc => ?_)
        · rw [if_neg hc] at h
          refine J_lconst (q := 81) (v := (0 : Int64)) d_Mo_does_80 (by decide) rfl ?_
          refine J_pick [5, 0] rfl ?_
          exact tj_Mo_does_81 a1 a2 _ _ _ _ h
        · rw [if_pos hc] at h
          refine J_aload_n (q := 74) 3 d_Mo_does_73 rfl rfl rfl ?_
          obtain ⟨r60, hr60, h⟩ := bd_some h
          refine J_callVq (rc := 0) (rs := 0) (q := 77) (as := []) (st := [vi (x2), vr 12 (0)]) (by decide) rfl g_1491 sel_Mo_pop (t_Mo_pop hr60) (by decide) (by decide) g_1489 g_1492 g_10 hy_Mo_pop rfl (Nat.le_of_ble_eq_true rfl) d_Mo_does_74 rfl ?_
          obtain ⟨μ61, hμ61, h⟩ := ap_eq h
          refine J_nmM hμ61 ?_
          obtain ⟨x62, hx62, h⟩ := ap_eq h
          refine J_nmL hx62 ?_
          refine J_goto (q := 81) d_Mo_does_77 (by decide) ?_
          refine J_pick [5, 0] rfl ?_
          exact tj_Mo_does_81 a1 a2 _ _ _ _ h
  · rw [if_neg hc] at h
    refine J_iload_n (q := 45) 4 d_Mo_does_44 rfl rfl rfl ?_
    obtain rfl := Option.some.inj h
    exact J_iret rfl ⟨rfl, rfl⟩ d_Mo_does_45
