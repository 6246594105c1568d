def gfr {α : Type} (μ : Mem) (k l : Nat) (x : Option α) : Option α := if gF μ k l = false then x else none
theorem gfr_some {α : Type} {μ : Mem} {k l : Nat} {x : Option α} {y : α} (h : gfr μ k l x = some y) : gF μ k l = false ∧ x = some y := by
  unfold gfr at h
  split at h
  · rename_i c; exact ⟨c, h⟩
  · cases h
def gfm {α : Type} (μ : Mem) (k l z n : Nat) (x : Option α) : Option α := if gF μ k l = false ∧ ∀ i, i < n → gF μ z (n * l + i) = false then x else none
theorem gfm_some {α : Type} {μ : Mem} {k l z n : Nat} {x : Option α} {y : α} (h : gfm μ k l z n x = some y) : (gF μ k l = false ∧ ∀ i, i < n → gF μ z (n * l + i) = false) ∧ x = some y := by
  unfold gfm at h
  split at h
  · rename_i c; exact ⟨c, h⟩
  · cases h
theorem dvok_0 : ∀ j, j < 6 → defaultValue (ty_0 j) = dv 0 j := by decide +kernel
theorem dvok_1 : ∀ j, j < 7 → defaultValue (ty_1 j) = dv 1 j := by decide +kernel
theorem dvok_2 : ∀ j, j < 9 → defaultValue (ty_2 j) = dv 2 j := by decide +kernel
theorem dvok_3 : ∀ j, j < 2 → defaultValue (ty_3 j) = dv 3 j := by decide +kernel
theorem dvok_4 : ∀ j, j < 10 → defaultValue (ty_4 j) = dv 4 j := by decide +kernel
theorem dvok_5 : ∀ j, j < 10 → defaultValue (ty_5 j) = dv 5 j := by decide +kernel
theorem dvok_6 : ∀ j, j < 7 → defaultValue (ty_6 j) = dv 6 j := by decide +kernel
theorem dvok_7 : ∀ j, j < 9 → defaultValue (ty_7 j) = dv 7 j := by decide +kernel
theorem dvok_8 : ∀ j, j < 3 → defaultValue (ty_8 j) = dv 8 j := by decide +kernel
theorem dvok_9 : ∀ j, j < 6 → defaultValue (ty_9 j) = dv 9 j := by decide +kernel
theorem dvok_10 : ∀ j, j < 9 → defaultValue (ty_10 j) = dv 10 j := by decide +kernel
theorem dvok_11 : ∀ j, j < 12 → defaultValue (ty_11 j) = dv 11 j := by decide +kernel
theorem dvok_12 : ∀ j, j < 72 → defaultValue (ty_12 j) = dv 12 j := by decide +kernel
abbrev b_Ar_fillF : ByteArray := b_Ar_fill
abbrev y_Ar_fillF : MethodName := y_Ar_fill
theorem pl_Ar_fillF : plainFor y_Ar_fillF = true := pl_Ar_fill
theorem hy_Ar_fillF : y_Ar_fill.cls ≠ "java/lang/invoke/MethodHandle" ∧ y_Ar_fill.cls ≠ "java/lang/invoke/VarHandle" ∧ (parseMethodDescriptor y_Ar_fill.desc).map (fun d => d.parameters.length) = some 2 := hy_Ar_fill
def lp_Ar_fillF_5 (a1k : Nat) (a1l : Nat) (a1n : Nat) (a1z : Nat) (a2 : Int32) : Nat → Int32 → Int32 → Mem → Option (Mem)
  | 0, _, _, _ => none
  | n + 1, y2, y3, μ =>
  if y3 ≤ y2 then
 (some μ)
 else
 (gu (y2) a1n <|
  ap (sI μ a1k (a1l) y2.toNatClampNeg (a2)) fun μ6 =>
  ap (y2 + (1 : Int32)) fun x7 =>
  lp_Ar_fillF_5 a1k a1l a1n a1z a2 n (x7) (y3) μ6)
theorem tl_Ar_fillF_5 (a1k : Nat) (a1l : Nat) (a1n : Nat) (a1z : Nat) (a2 : Int32) (ha1 : RK a1k = (2, a1n, a1z)) (ha19 : a1k < 900) {q : Mem}  : ∀ (n : Nat) (y2 : Int32) (y3 : Int32) (μ : Mem), lp_Ar_fillF_5 a1k a1l a1n a1z a2 n y2 y3 μ = some q → J (GM false (QQ none q) none y_Ar_fillF.name) false b_Ar_fillF R_Ar 4 (0) 0 0 5 [(0, vr a1k (a1l)), (1, vi (a2)), (2, vi (y2)), (3, vi (y3))] [] μ := by
  intro n
  induction n with
  | zero => intro _ _ _ h; cases h
  | succ n ih =>
    intro y2 y3 μ h
    unfold lp_Ar_fillF_5 at h
    refine J_iload_n (q := 6) 2 d_Ar_fill_5 rfl rfl rfl ?_
    refine J_iload_n (q := 7) 3 d_Ar_fill_6 rfl rfl rfl ?_
    refine J_icmp_ge (q := 10) (tgt := 20) d_Ar_fill_7 (by decide) rfl (fun hc => ?_) (fun hc => ?_)
    · rw [if_pos hc] at h
      obtain rfl := Option.some.inj h
      exact J_vret rfl ⟨rfl, rfl⟩ d_Ar_fill_20
    · rw [if_neg hc] at h
      refine J_aload_n (q := 11) 0 d_Ar_fill_10 rfl rfl rfl ?_
      refine J_iload_n (q := 12) 2 d_Ar_fill_11 rfl rfl rfl ?_
      refine J_iload_n (q := 13) 1 d_Ar_fill_12 rfl rfl rfl ?_
      obtain ⟨hi5, h⟩ := gu_some h
      refine J_iast (q := 14) ha1 ha19 hi5 d_Ar_fill_13 rfl ?_
      obtain ⟨μ6, hμ6, h⟩ := ap_eq h
      refine J_nmM hμ6 ?_
      obtain ⟨x7, hx7, h⟩ := ap_eq h
      refine J_iinc (q := 17) (v := x7) (lv' := [(2, vi (x7)), (0, vr a1k (a1l)), (1, vi (a2)), (3, vi (y3))]) 2 d_Ar_fill_14 rfl (by rw [hx7]; rfl) (by decide) rfl rfl ?_
      refine J_goto (q := 5) d_Ar_fill_17 (by decide) ?_
      refine J_pick [1, 2, 0, 3] rfl ?_
      exact ih _ _ _ h
def m_Ar_fillF (a1k : Nat) (a1l : Nat) (a1n : Nat) (a1z : Nat) (a2 : Int32) (μ : Mem) : Option (Mem) :=
  ap (Int32.ofNat a1n) fun x1 =>
  lp_Ar_fillF_5 a1k a1l a1n a1z a2 FU ((0 : Int32)) (x1) μ
theorem t_Ar_fillF {a1k : Nat} {a1l : Nat} {a1n : Nat} {a1z : Nat} {a2 : Int32} {μ : Mem} {q : Mem} (ha1 : RK a1k = (2, a1n, a1z)) (ha19 : a1k < 900) (h : m_Ar_fillF a1k a1l a1n a1z a2 μ = some q) : JM false (0) y_Ar_fillF b_Ar_fillF 4 none 0 0 [vr a1k (a1l), vi (a2)] μ (QQ none q) := by
  unfold m_Ar_fillF at h
  refine JM.of pl_Ar_fillF (fun ρ => Nat.le_of_ble_eq_true rfl) ?_
  show J (GM false (QQ none q) none y_Ar_fillF.name) false b_Ar_fillF R_Ar 4 (0) 0 0 0 [(0, vr a1k (a1l)), (1, vi (a2))] [] μ
  refine J_iconst (q := 1) (v := (0 : Int32)) d_Ar_fill_0 (by decide) rfl ?_
  refine J_istore_n (q := 2) (lv' := [(2, vi ((0 : Int32))), (0, vr a1k (a1l)), (1, vi (a2))]) d_Ar_fill_1 rfl (by decide) rfl rfl ?_
  refine J_aload_n (q := 3) 1 d_Ar_fill_2 rfl rfl rfl ?_
  refine J_alen (q := 4) (v := Int32.ofNat a1n) ha1 ha19 (Or.inl rfl) rfl d_Ar_fill_3 rfl ?_
  obtain ⟨x1, hx1, h⟩ := ap_eq h
  refine J_nmI hx1 ?_
  refine J_istore_n (q := 5) (lv' := [(3, vi (x1)), (2, vi ((0 : Int32))), (0, vr a1k (a1l)), (1, vi (a2))]) d_Ar_fill_4 rfl (by decide) rfl rfl ?_
  refine J_pick [2, 3, 1, 0] rfl ?_
  exact tl_Ar_fillF_5 a1k a1l a1n a1z a2 ha1 ha19 FU _ _ _ h
def m_Fit_init (o : Nat) (μ : Mem) : Option (Mem) :=
  gfm μ 100 (o) 500 2 <|
  ap (nwm μ 100 (o) 500 2) fun μ2 =>
  ap (sR μ2 0 (o) 0 (some (o))) fun μ3 =>
  gfm μ3 101 (o) 501 2 <|
  ap (nwm μ3 101 (o) 501 2) fun μ5 =>
  ap (sR μ5 0 (o) 1 (some (o))) fun μ6 =>
  gfm μ6 102 (o) 502 2 <|
  ap (nwm μ6 102 (o) 502 2) fun μ8 =>
  ap (sR μ8 0 (o) 2 (some (o))) fun μ9 =>
  gfr μ9 103 (o) <|
  ap (nw μ9 103 (o)) fun μ11 =>
  ap (sR μ11 0 (o) 3 (some (o))) fun μ12 =>
  some μ12
theorem t_Fit_init {o : Nat} {μ : Mem} {q : Mem} (h : m_Fit_init o μ = some q) : JM false (1) y_Fit_init b_Fit_init 1 none 10 614 [vr 0 (o)] μ (QQ none q) := by
  unfold m_Fit_init at h
  refine JM.of pl_Fit_init (fun ρ => Nat.le_of_ble_eq_true rfl) ?_
  show J (GM false (QQ none q) none y_Fit_init.name) false b_Fit_init R_0 1 (1) 10 614 0 [(0, vr 0 (o))] [] μ
  refine J_aload_n (q := 1) 0 d_Fit_init_0 rfl rfl rfl ?_
  refine J_objInit (q := 4) (by decide) (Nat.le_of_ble_eq_true rfl) g_167 g_23 g_24 d_Fit_init_1 rfl ?_
  refine J_aload_n (q := 5) 0 d_Fit_init_4 rfl rfl rfl ?_
  refine J_iconst (q := 6) (v := (2 : Int32)) d_Fit_init_5 (by decide) rfl ?_
  refine J_bipush (q := 8) (v := (100 : Int32)) d_Fit_init_6 (by decide) rfl ?_
  obtain ⟨⟨hf1, hf1r⟩, h⟩ := gfm_some h
  refine J_mna (n := 2) (K := 100) (rc := 7) (rs := 412) (q := 12) (l := o) rk_100 rk_500 (by decide) (by decide) rfl hf1 hf1r g_168 g_101 (by decide) (by decide) (by decide) (by decide) (by decide) (by decide) d_Fit_init_8 rfl ?_
  obtain ⟨μ2, hμ2, h⟩ := ap_eq h
  refine J_nmM hμ2 ?_
  refine J_putFR (q := 15) (r := 100) (x := some (o)) cd_0 (by decide) ft_0_0 (by decide) rfl rfl (Or.inr ⟨_, rfl⟩) rfl rfl g_170 rfl d_Fit_init_12 rfl ?_
  obtain ⟨μ3, hμ3, h⟩ := ap_eq h
  refine J_nmM hμ3 ?_
  refine J_aload_n (q := 16) 0 d_Fit_init_15 rfl rfl rfl ?_
  refine J_iconst (q := 17) (v := (2 : Int32)) d_Fit_init_16 (by decide) rfl ?_
  refine J_bipush (q := 19) (v := (100 : Int32)) d_Fit_init_17 (by decide) rfl ?_
  obtain ⟨⟨hf4, hf4r⟩, h⟩ := gfm_some h
  refine J_mna (n := 2) (K := 100) (rc := 4) (rs := 210) (q := 23) (l := o) rk_101 rk_501 (by decide) (by decide) rfl hf4 hf4r g_168 g_101 (by decide) (by decide) (by decide) (by decide) (by decide) (by decide) d_Fit_init_19 rfl ?_
  obtain ⟨μ5, hμ5, h⟩ := ap_eq h
  refine J_nmM hμ5 ?_
  refine J_putFR (q := 26) (r := 101) (x := some (o)) cd_0 (by decide) ft_0_1 (by decide) rfl rfl (Or.inr ⟨_, rfl⟩) rfl rfl g_171 rfl d_Fit_init_23 rfl ?_
  obtain ⟨μ6, hμ6, h⟩ := ap_eq h
  refine J_nmM hμ6 ?_
  refine J_aload_n (q := 27) 0 d_Fit_init_26 rfl rfl rfl ?_
  refine J_iconst (q := 28) (v := (2 : Int32)) d_Fit_init_27 (by decide) rfl ?_
  refine J_bipush (q := 30) (v := (100 : Int32)) d_Fit_init_28 (by decide) rfl ?_
  obtain ⟨⟨hf7, hf7r⟩, h⟩ := gfm_some h
  refine J_mna (n := 2) (K := 100) (rc := 1) (rs := 8) (q := 34) (l := o) rk_102 rk_502 (by decide) (by decide) rfl hf7 hf7r g_168 g_101 (by decide) (by decide) (by decide) (by decide) (by decide) (by decide) d_Fit_init_30 rfl ?_
  obtain ⟨μ8, hμ8, h⟩ := ap_eq h
  refine J_nmM hμ8 ?_
  refine J_putFR (q := 37) (r := 102) (x := some (o)) cd_0 (by decide) ft_0_2 (by decide) rfl rfl (Or.inr ⟨_, rfl⟩) rfl rfl g_174 rfl d_Fit_init_34 rfl ?_
  obtain ⟨μ9, hμ9, h⟩ := ap_eq h
  refine J_nmM hμ9 ?_
  refine J_aload_n (q := 38) 0 d_Fit_init_37 rfl rfl rfl ?_
  refine J_bipush (q := 40) (v := (8 : Int32)) d_Fit_init_38 (by decide) rfl ?_
  obtain ⟨hf10, h⟩ := gfr_some h
  refine J_newa2 (rc := 0) (rs := 0) (q := 42) (l := o) rk_103 (by decide) rfl hf10 g_101 (by decide) (by decide) (by decide) d_Fit_init_40 rfl ?_
  obtain ⟨μ11, hμ11, h⟩ := ap_eq h
  refine J_nmM hμ11 ?_
  refine J_putFR (q := 45) (r := 103) (x := some (o)) cd_0 (by decide) ft_0_3 (by decide) rfl rfl (Or.inr ⟨_, rfl⟩) rfl rfl g_176 rfl d_Fit_init_42 rfl ?_
  obtain ⟨μ12, hμ12, h⟩ := ap_eq h
  refine J_nmM hμ12 ?_
  obtain rfl := Option.some.inj h
  exact J_vret rfl ⟨rfl, rfl⟩ d_Fit_init_45
def m_Fl_init (μ : Mem) : Option (Mem) :=
  gfr μ 120 (0) <|
  ap (nw μ 120 (0)) fun μ2 =>
  ap (sR μ2 1 (0) 0 (some (0))) fun μ3 =>
  gfr μ3 121 (0) <|
  ap (nw μ3 121 (0)) fun μ5 =>
  ap (sR μ5 1 (0) 1 (some (0))) fun μ6 =>
  gfr μ6 122 (0) <|
  ap (nw μ6 122 (0)) fun μ8 =>
  ap (sR μ8 1 (0) 2 (some (0))) fun μ9 =>
  gfr μ9 123 (0) <|
  ap (nw μ9 123 (0)) fun μ11 =>
  ap (sR μ11 1 (0) 3 (some (0))) fun μ12 =>
  gfr μ12 124 (0) <|
  ap (nw μ12 124 (0)) fun μ14 =>
  ap (sR μ14 1 (0) 4 (some (0))) fun μ15 =>
  some μ15
theorem t_Fl_init {μ : Mem} {q : Mem} (h : m_Fl_init  μ = some q) : JM false (1) y_Fl_init b_Fl_init 1 none 5 292 [vr 1 (0)] μ (QQ none q) := by
  unfold m_Fl_init at h
  refine JM.of pl_Fl_init (fun ρ => Nat.le_of_ble_eq_true rfl) ?_
  show J (GM false (QQ none q) none y_Fl_init.name) false b_Fl_init R_1 1 (1) 5 292 0 [(0, vr 1 (0))] [] μ
  refine J_aload_n (q := 1) 0 d_Fl_init_0 rfl rfl rfl ?_
  refine J_objInit (q := 4) (by decide) (Nat.le_of_ble_eq_true rfl) g_32 g_23 g_24 d_Fl_init_1 rfl ?_
  refine J_aload_n (q := 5) 0 d_Fl_init_4 rfl rfl rfl ?_
  refine J_bipush (q := 7) (v := (44 : Int32)) d_Fl_init_5 (by decide) rfl ?_
  obtain ⟨hf1, h⟩ := gfr_some h
  refine J_newa4 (rc := 4) (rs := 248) (q := 9) (l := 0) rk_120 (by decide) rfl hf1 g_57 (by decide) (by decide) (by decide) d_Fl_init_7 rfl ?_
  obtain ⟨μ2, hμ2, h⟩ := ap_eq h
  refine J_nmM hμ2 ?_
  refine J_putFR (q := 12) (r := 120) (x := some (0)) cd_1 (by decide) ft_1_0 (by decide) rfl rfl (Or.inr ⟨_, rfl⟩) rfl rfl g_35 rfl d_Fl_init_9 rfl ?_
  obtain ⟨μ3, hμ3, h⟩ := ap_eq h
  refine J_nmM hμ3 ?_
  refine J_aload_n (q := 13) 0 d_Fl_init_12 rfl rfl rfl ?_
  refine J_bipush (q := 15) (v := (44 : Int32)) d_Fl_init_13 (by decide) rfl ?_
  obtain ⟨hf4, h⟩ := gfr_some h
  refine J_newa4 (rc := 3) (rs := 204) (q := 17) (l := 0) rk_121 (by decide) rfl hf4 g_57 (by decide) (by decide) (by decide) d_Fl_init_15 rfl ?_
  obtain ⟨μ5, hμ5, h⟩ := ap_eq h
  refine J_nmM hμ5 ?_
  refine J_putFR (q := 20) (r := 121) (x := some (0)) cd_1 (by decide) ft_1_1 (by decide) rfl rfl (Or.inr ⟨_, rfl⟩) rfl rfl g_36 rfl d_Fl_init_17 rfl ?_
  obtain ⟨μ6, hμ6, h⟩ := ap_eq h
  refine J_nmM hμ6 ?_
  refine J_aload_n (q := 21) 0 d_Fl_init_20 rfl rfl rfl ?_
  refine J_bipush (q := 23) (v := (100 : Int32)) d_Fl_init_21 (by decide) rfl ?_
  obtain ⟨hf7, h⟩ := gfr_some h
  refine J_newa4 (rc := 2) (rs := 104) (q := 25) (l := 0) rk_122 (by decide) rfl hf7 g_57 (by decide) (by decide) (by decide) d_Fl_init_23 rfl ?_
  obtain ⟨μ8, hμ8, h⟩ := ap_eq h
  refine J_nmM hμ8 ?_
  refine J_putFR (q := 28) (r := 122) (x := some (0)) cd_1 (by decide) ft_1_2 (by decide) rfl rfl (Or.inr ⟨_, rfl⟩) rfl rfl g_37 rfl d_Fl_init_25 rfl ?_
  obtain ⟨μ9, hμ9, h⟩ := ap_eq h
  refine J_nmM hμ9 ?_
  refine J_aload_n (q := 29) 0 d_Fl_init_28 rfl rfl rfl ?_
  refine J_bipush (q := 31) (v := (100 : Int32)) d_Fl_init_29 (by decide) rfl ?_
  obtain ⟨hf10, h⟩ := gfr_some h
  refine J_newa4 (rc := 1) (rs := 4) (q := 33) (l := 0) rk_123 (by decide) rfl hf10 g_57 (by decide) (by decide) (by decide) d_Fl_init_31 rfl ?_
  obtain ⟨μ11, hμ11, h⟩ := ap_eq h
  refine J_nmM hμ11 ?_
  refine J_putFR (q := 36) (r := 123) (x := some (0)) cd_1 (by decide) ft_1_3 (by decide) rfl rfl (Or.inr ⟨_, rfl⟩) rfl rfl g_38 rfl d_Fl_init_33 rfl ?_
  obtain ⟨μ12, hμ12, h⟩ := ap_eq h
  refine J_nmM hμ12 ?_
  refine J_aload_n (q := 37) 0 d_Fl_init_36 rfl rfl rfl ?_
  refine J_iconst (q := 38) (v := (4 : Int32)) d_Fl_init_37 (by decide) rfl ?_
  obtain ⟨hf13, h⟩ := gfr_some h
  refine J_newq (rc := 0) (rs := 0) (q := 41) (l := 0) rk_124 (by decide) rfl hf13 g_33 (fun _ h => h.2.2.1) (by decide) (by decide) (by decide) d_Fl_init_38 rfl ?_
  obtain ⟨μ14, hμ14, h⟩ := ap_eq h
  refine J_nmM hμ14 ?_
  refine J_putFR (q := 44) (r := 124) (x := some (0)) cd_1 (by decide) ft_1_4 (by decide) rfl rfl (Or.inr ⟨_, rfl⟩) rfl rfl g_39 rfl d_Fl_init_41 rfl ?_
  obtain ⟨μ15, hμ15, h⟩ := ap_eq h
  refine J_nmM hμ15 ?_
  obtain rfl := Option.some.inj h
  exact J_vret rfl ⟨rfl, rfl⟩ d_Fl_init_44
def m_Im_init (μ : Mem) : Option (Mem) :=
  gfr μ 140 (0) <|
  ap (nw μ 140 (0)) fun μ2 =>
  ap (sR μ2 2 (0) 0 (some (0))) fun μ3 =>
  gfr μ3 141 (0) <|
  ap (nw μ3 141 (0)) fun μ5 =>
  ap (sR μ5 2 (0) 1 (some (0))) fun μ6 =>
  some μ6
theorem t_Im_init {μ : Mem} {q : Mem} (h : m_Im_init  μ = some q) : JM false (1) y_Im_init b_Im_init 1 none 2 4609 [vr 2 (0)] μ (QQ none q) := by
  unfold m_Im_init at h
  refine JM.of pl_Im_init (fun ρ => Nat.le_of_ble_eq_true rfl) ?_
  show J (GM false (QQ none q) none y_Im_init.name) false b_Im_init R_2 1 (1) 2 4609 0 [(0, vr 2 (0))] [] μ
  refine J_aload_n (q := 1) 0 d_Im_init_0 rfl rfl rfl ?_
  refine J_objInit (q := 4) (by decide) (Nat.le_of_ble_eq_true rfl) g_107 g_23 g_24 d_Im_init_1 rfl ?_
  refine J_aload_n (q := 5) 0 d_Im_init_4 rfl rfl rfl ?_
  refine J_sipush (q := 8) (v := (4096 : Int32)) d_Im_init_5 (by decide) rfl ?_
  obtain ⟨hf1, h⟩ := gfr_some h
  refine J_newa2 (rc := 1) (rs := 513) (q := 10) (l := 0) rk_140 (by decide) rfl hf1 g_101 (by decide) (by decide) (by decide) d_Im_init_8 rfl ?_
  obtain ⟨μ2, hμ2, h⟩ := ap_eq h
  refine J_nmM hμ2 ?_
  refine J_putFR (q := 13) (r := 140) (x := some (0)) cd_2 (by decide) ft_2_0 (by decide) rfl rfl (Or.inr ⟨_, rfl⟩) rfl rfl g_108 rfl d_Im_init_10 rfl ?_
  obtain ⟨μ3, hμ3, h⟩ := ap_eq h
  refine J_nmM hμ3 ?_
  refine J_aload_n (q := 14) 0 d_Im_init_13 rfl rfl rfl ?_
  refine J_sipush (q := 17) (v := (513 : Int32)) d_Im_init_14 (by decide) rfl ?_
  obtain ⟨hf4, h⟩ := gfr_some h
  refine J_newa2 (rc := 0) (rs := 0) (q := 19) (l := 0) rk_141 (by decide) rfl hf4 g_101 (by decide) (by decide) (by decide) d_Im_init_17 rfl ?_
  obtain ⟨μ5, hμ5, h⟩ := ap_eq h
  refine J_nmM hμ5 ?_
  refine J_putFR (q := 22) (r := 141) (x := some (0)) cd_2 (by decide) ft_2_1 (by decide) rfl rfl (Or.inr ⟨_, rfl⟩) rfl rfl g_109 rfl d_Im_init_19 rfl ?_
  obtain ⟨μ6, hμ6, h⟩ := ap_eq h
  refine J_nmM hμ6 ?_
  obtain rfl := Option.some.inj h
  exact J_vret rfl ⟨rfl, rfl⟩ d_Im_init_22
def lp_Ke_init_30 : Nat → Int32 → Mem → Option (Mem)
  | 0, _, _ => none
  | n + 1, y1, μ =>
  if (32 : Int32) ≤ y1 then
 (some μ)
 else
 (ap (gR μ 3 (0) 1) fun o12 =>
  Option.bind o12 fun y13 =>
  gu (y1) 32 <|
  Option.bind (m_Ar_fillF 561 (32 * y13 + y1.toNatClampNeg) 32 0 ((10000 : Int32)) μ) fun r15 =>
  ap (y1 + (1 : Int32)) fun x16 =>
  lp_Ke_init_30 n (x16) r15)
theorem tl_Ke_init_30 {q : Mem}  : ∀ (n : Nat) (y1 : Int32) (μ : Mem), lp_Ke_init_30 n y1 μ = some q → J (GM false (QQ none q) none y_Ke_init.name) false b_Ke_init R_3 2 (1) 0 0 30 [(0, vr 3 (0)), (1, vi (y1))] [] μ := by
  intro n
  induction n with
  | zero => intro _ _ h; cases h
  | succ n ih =>
    intro y1 μ h
    unfold lp_Ke_init_30 at h
    refine J_iload_n (q := 31) 1 d_Ke_init_30 rfl rfl rfl ?_
    refine J_bipush (q := 33) (v := (32 : Int32)) d_Ke_init_31 (by decide) rfl ?_
    refine J_icmp_ge (q := 36) (tgt := 54) d_Ke_init_33 (by decide) rfl (fun hc => ?_) (fun hc => ?_)
    · rw [if_pos hc] at h
      obtain rfl := Option.some.inj h
      exact J_vret rfl ⟨rfl, rfl⟩ d_Ke_init_54
    · rw [if_neg hc] at h
      refine J_aload_n (q := 37) 0 d_Ke_init_36 rfl rfl rfl ?_
      refine J_getR (q := 40) cd_3 (by decide) ft_3_1 g_204 rfl d_Ke_init_37 rfl ?_
      obtain ⟨o12, ho12, h⟩ := ap_eq h
      refine J_nmO ho12 ?_
      refine J_iload_n (q := 41) 1 d_Ke_init_40 rfl rfl rfl ?_
      replace h := bd_some h
      obtain ⟨y13, hy13, h⟩ := h
      subst hy13
      obtain ⟨hi14, h⟩ := gu_some h
      refine J_ald6 (q := 42) rk_161 (by decide) hi14 d_Ke_init_41 rfl ?_
      refine J_sipush (q := 45) (v := (10000 : Int32)) d_Ke_init_42 (by decide) rfl ?_
      obtain ⟨r15, hr15, h⟩ := bd_some h
      refine J_callSv (rc := 0) (rs := 0) (q := 48) (as := [vr 561 (32 * y13 + y1.toNatClampNeg), vi ((10000 : Int32))]) (st := []) g_200 (t_Ar_fillF rk_561 (by decide) hr15) (by decide) (by decide) g_199 g_201 g_8 hy_Ar_fillF rfl (Nat.le_of_ble_eq_true rfl) d_Ke_init_45 rfl ?_
      obtain ⟨x16, hx16, h⟩ := ap_eq h
      refine J_iinc (q := 51) (v := x16) (lv' := [(1, vi (x16)), (0, vr 3 (0))]) 1 d_Ke_init_48 rfl (by rw [hx16]; rfl) (by decide) rfl rfl ?_
      refine J_goto (q := 30) d_Ke_init_51 (by decide) ?_
      refine J_pick [1, 0] rfl ?_
      exact ih _ _ h
def m_Ke_init (μ : Mem) : Option (Mem) :=
  gfm μ 160 (0) 560 16 <|
  ap (nwm μ 160 (0) 560 16) fun μ2 =>
  ap (sR μ2 3 (0) 0 (some (0))) fun μ3 =>
  gfm μ3 161 (0) 561 32 <|
  ap (nwm μ3 161 (0) 561 32) fun μ5 =>
  ap (sR μ5 3 (0) 1 (some (0))) fun μ6 =>
  lp_Ke_init_30 FU ((0 : Int32)) μ6
theorem t_Ke_init {μ : Mem} {q : Mem} (h : m_Ke_init  μ = some q) : JM false (1) y_Ke_init b_Ke_init 2 none 50 1328 [vr 3 (0)] μ (QQ none q) := by
  unfold m_Ke_init at h
  refine JM.of pl_Ke_init (fun ρ => Nat.le_of_ble_eq_true rfl) ?_
  show J (GM false (QQ none q) none y_Ke_init.name) false b_Ke_init R_3 2 (1) 50 1328 0 [(0, vr 3 (0))] [] μ
  refine J_aload_n (q := 1) 0 d_Ke_init_0 rfl rfl rfl ?_
  refine J_objInit (q := 4) (by decide) (Nat.le_of_ble_eq_true rfl) g_197 g_23 g_24 d_Ke_init_1 rfl ?_
  refine J_aload_n (q := 5) 0 d_Ke_init_4 rfl rfl rfl ?_
  refine J_bipush (q := 7) (v := (16 : Int32)) d_Ke_init_5 (by decide) rfl ?_
  refine J_bipush (q := 9) (v := (16 : Int32)) d_Ke_init_7 (by decide) rfl ?_
  obtain ⟨⟨hf1, hf1r⟩, h⟩ := gfm_some h
  refine J_mna (n := 16) (K := 16) (rc := 33) (rs := 1056) (q := 13) (l := 0) rk_160 rk_560 (by decide) (by decide) rfl hf1 hf1r g_198 g_101 (by decide) (by decide) (by decide) (by decide) (by decide) (by decide) d_Ke_init_9 rfl ?_
  obtain ⟨μ2, hμ2, h⟩ := ap_eq h
  refine J_nmM hμ2 ?_
  refine J_putFR (q := 16) (r := 160) (x := some (0)) cd_3 (by decide) ft_3_0 (by decide) rfl rfl (Or.inr ⟨_, rfl⟩) rfl rfl g_202 rfl d_Ke_init_13 rfl ?_
  obtain ⟨μ3, hμ3, h⟩ := ap_eq h
  refine J_nmM hμ3 ?_
  refine J_aload_n (q := 17) 0 d_Ke_init_16 rfl rfl rfl ?_
  refine J_bipush (q := 19) (v := (32 : Int32)) d_Ke_init_17 (by decide) rfl ?_
  refine J_bipush (q := 21) (v := (32 : Int32)) d_Ke_init_19 (by decide) rfl ?_
  obtain ⟨⟨hf4, hf4r⟩, h⟩ := gfm_some h
  refine J_mna (n := 32) (K := 32) (rc := 0) (rs := 0) (q := 25) (l := 0) rk_161 rk_561 (by decide) (by decide) rfl hf4 hf4r g_198 g_101 (by decide) (by decide) (by decide) (by decide) (by decide) (by decide) d_Ke_init_21 rfl ?_
  obtain ⟨μ5, hμ5, h⟩ := ap_eq h
  refine J_nmM hμ5 ?_
  refine J_putFR (q := 28) (r := 161) (x := some (0)) cd_3 (by decide) ft_3_1 (by decide) rfl rfl (Or.inr ⟨_, rfl⟩) rfl rfl g_204 rfl d_Ke_init_25 rfl ?_
  obtain ⟨μ6, hμ6, h⟩ := ap_eq h
  refine J_nmM hμ6 ?_
  refine J_iconst (q := 29) (v := (0 : Int32)) d_Ke_init_28 (by decide) rfl ?_
  refine J_istore_n (q := 30) (lv' := [(1, vi ((0 : Int32))), (0, vr 3 (0))]) d_Ke_init_29 rfl (by decide) rfl rfl ?_
  refine J_pick [1, 0] rfl ?_
  exact tl_Ke_init_30 FU _ _ h
def m_Li_init (μ : Mem) : Option (Mem) :=
  gfm μ 200 (0) 600 3 <|
  ap (nwm μ 200 (0) 600 3) fun μ2 =>
  ap (sR μ2 5 (0) 0 (some (0))) fun μ3 =>
  gfr μ3 201 (0) <|
  ap (nw μ3 201 (0)) fun μ5 =>
  ap (sR μ5 5 (0) 1 (some (0))) fun μ6 =>
  gfr μ6 203 (0) <|
  ap (nw μ6 203 (0)) fun μ8 =>
  ap (sR μ8 5 (0) 3 (some (0))) fun μ9 =>
  gfr μ9 205 (0) <|
  ap (nw μ9 205 (0)) fun μ11 =>
  ap (sR μ11 5 (0) 5 (some (0))) fun μ12 =>
  gfr μ12 206 (0) <|
  ap (nw μ12 206 (0)) fun μ14 =>
  ap (sR μ14 5 (0) 6 (some (0))) fun μ15 =>
  gfr μ15 207 (0) <|
  ap (nw μ15 207 (0)) fun μ17 =>
  ap (sR μ17 5 (0) 7 (some (0))) fun μ18 =>
  some μ18
theorem t_Li_init {μ : Mem} {q : Mem} (h : m_Li_init  μ = some q) : JM false (1) y_Li_init b_Li_init 1 none 9 403 [vr 5 (0)] μ (QQ none q) := by
  unfold m_Li_init at h
  refine JM.of pl_Li_init (fun ρ => Nat.le_of_ble_eq_true rfl) ?_
  show J (GM false (QQ none q) none y_Li_init.name) false b_Li_init R_5 1 (1) 9 403 0 [(0, vr 5 (0))] [] μ
  refine J_aload_n (q := 1) 0 d_Li_init_0 rfl rfl rfl ?_
  refine J_objInit (q := 4) (by decide) (Nat.le_of_ble_eq_true rfl) g_216 g_23 g_24 d_Li_init_1 rfl ?_
  refine J_aload_n (q := 5) 0 d_Li_init_4 rfl rfl rfl ?_
  refine J_iconst (q := 6) (v := (3 : Int32)) d_Li_init_5 (by decide) rfl ?_
  refine J_bipush (q := 8) (v := (40 : Int32)) d_Li_init_6 (by decide) rfl ?_
  obtain ⟨⟨hf1, hf1r⟩, h⟩ := gfm_some h
  refine J_mna (n := 3) (K := 40) (rc := 5) (rs := 280) (q := 12) (l := 0) rk_200 rk_600 (by decide) (by decide) rfl hf1 hf1r g_217 g_101 (by decide) (by decide) (by decide) (by decide) (by decide) (by decide) d_Li_init_8 rfl ?_
  obtain ⟨μ2, hμ2, h⟩ := ap_eq h
  refine J_nmM hμ2 ?_
  refine J_putFR (q := 15) (r := 200) (x := some (0)) cd_5 (by decide) ft_5_0 (by decide) rfl rfl (Or.inr ⟨_, rfl⟩) rfl rfl g_218 rfl d_Li_init_12 rfl ?_
  obtain ⟨μ3, hμ3, h⟩ := ap_eq h
  refine J_nmM hμ3 ?_
  refine J_aload_n (q := 16) 0 d_Li_init_15 rfl rfl rfl ?_
  refine J_bipush (q := 18) (v := (40 : Int32)) d_Li_init_16 (by decide) rfl ?_
  obtain ⟨hf4, h⟩ := gfr_some h
  refine J_newa2 (rc := 4) (rs := 240) (q := 20) (l := 0) rk_201 (by decide) rfl hf4 g_101 (by decide) (by decide) (by decide) d_Li_init_18 rfl ?_
  obtain ⟨μ5, hμ5, h⟩ := ap_eq h
  refine J_nmM hμ5 ?_
  refine J_putFR (q := 23) (r := 201) (x := some (0)) cd_5 (by decide) ft_5_1 (by decide) rfl rfl (Or.inr ⟨_, rfl⟩) rfl rfl g_219 rfl d_Li_init_20 rfl ?_
  obtain ⟨μ6, hμ6, h⟩ := ap_eq h
  refine J_nmM hμ6 ?_
  refine J_aload_n (q := 24) 0 d_Li_init_23 rfl rfl rfl ?_
  refine J_bipush (q := 26) (v := (60 : Int32)) d_Li_init_24 (by decide) rfl ?_
  obtain ⟨hf7, h⟩ := gfr_some h
  refine J_newa2 (rc := 3) (rs := 180) (q := 28) (l := 0) rk_203 (by decide) rfl hf7 g_101 (by decide) (by decide) (by decide) d_Li_init_26 rfl ?_
  obtain ⟨μ8, hμ8, h⟩ := ap_eq h
  refine J_nmM hμ8 ?_
  refine J_putFR (q := 31) (r := 203) (x := some (0)) cd_5 (by decide) ft_5_3 (by decide) rfl rfl (Or.inr ⟨_, rfl⟩) rfl rfl g_221 rfl d_Li_init_28 rfl ?_
  obtain ⟨μ9, hμ9, h⟩ := ap_eq h
  refine J_nmM hμ9 ?_
  refine J_aload_n (q := 32) 0 d_Li_init_31 rfl rfl rfl ?_
  refine J_bipush (q := 34) (v := (60 : Int32)) d_Li_init_32 (by decide) rfl ?_
  obtain ⟨hf10, h⟩ := gfr_some h
  refine J_newa2 (rc := 2) (rs := 120) (q := 36) (l := 0) rk_205 (by decide) rfl hf10 g_101 (by decide) (by decide) (by decide) d_Li_init_34 rfl ?_
  obtain ⟨μ11, hμ11, h⟩ := ap_eq h
  refine J_nmM hμ11 ?_
  refine J_putFR (q := 39) (r := 205) (x := some (0)) cd_5 (by decide) ft_5_5 (by decide) rfl rfl (Or.inr ⟨_, rfl⟩) rfl rfl g_223 rfl d_Li_init_36 rfl ?_
  obtain ⟨μ12, hμ12, h⟩ := ap_eq h
  refine J_nmM hμ12 ?_
  refine J_aload_n (q := 40) 0 d_Li_init_39 rfl rfl rfl ?_
  refine J_bipush (q := 42) (v := (60 : Int32)) d_Li_init_40 (by decide) rfl ?_
  obtain ⟨hf13, h⟩ := gfr_some h
  refine J_newa2 (rc := 1) (rs := 60) (q := 44) (l := 0) rk_206 (by decide) rfl hf13 g_101 (by decide) (by decide) (by decide) d_Li_init_42 rfl ?_
  obtain ⟨μ14, hμ14, h⟩ := ap_eq h
  refine J_nmM hμ14 ?_
  refine J_putFR (q := 47) (r := 206) (x := some (0)) cd_5 (by decide) ft_5_6 (by decide) rfl rfl (Or.inr ⟨_, rfl⟩) rfl rfl g_225 rfl d_Li_init_44 rfl ?_
  obtain ⟨μ15, hμ15, h⟩ := ap_eq h
  refine J_nmM hμ15 ?_
  refine J_aload_n (q := 48) 0 d_Li_init_47 rfl rfl rfl ?_
  refine J_bipush (q := 50) (v := (60 : Int32)) d_Li_init_48 (by decide) rfl ?_
  obtain ⟨hf16, h⟩ := gfr_some h
  refine J_newa2 (rc := 0) (rs := 0) (q := 52) (l := 0) rk_207 (by decide) rfl hf16 g_101 (by decide) (by decide) (by decide) d_Li_init_50 rfl ?_
  obtain ⟨μ17, hμ17, h⟩ := ap_eq h
  refine J_nmM hμ17 ?_
  refine J_putFR (q := 55) (r := 207) (x := some (0)) cd_5 (by decide) ft_5_7 (by decide) rfl rfl (Or.inr ⟨_, rfl⟩) rfl rfl g_227 rfl d_Li_init_52 rfl ?_
  obtain ⟨μ18, hμ18, h⟩ := ap_eq h
  refine J_nmM hμ18 ?_
  obtain rfl := Option.some.inj h
  exact J_vret rfl ⟨rfl, rfl⟩ d_Li_init_55
def m_Po_init (o : Nat) (μ : Mem) : Option (Mem) :=
  gfr μ 240 (o) <|
  ap (nw μ 240 (o)) fun μ2 =>
  ap (sR μ2 7 (o) 0 (some (o))) fun μ3 =>
  gfr μ3 241 (o) <|
  ap (nw μ3 241 (o)) fun μ5 =>
  ap (sR μ5 7 (o) 1 (some (o))) fun μ6 =>
  gfr μ6 242 (o) <|
  ap (nw μ6 242 (o)) fun μ8 =>
  ap (sR μ8 7 (o) 2 (some (o))) fun μ9 =>
  gfr μ9 243 (o) <|
  ap (nw μ9 243 (o)) fun μ11 =>
  ap (sR μ11 7 (o) 3 (some (o))) fun μ12 =>
  some μ12
theorem t_Po_init {o : Nat} {μ : Mem} {q : Mem} (h : m_Po_init o μ = some q) : JM false (1) y_Po_init b_Po_init 1 none 4 2000 [vr 7 (o)] μ (QQ none q) := by
  unfold m_Po_init at h
  refine JM.of pl_Po_init (fun ρ => Nat.le_of_ble_eq_true rfl) ?_
  show J (GM false (QQ none q) none y_Po_init.name) false b_Po_init R_7 1 (1) 4 2000 0 [(0, vr 7 (o))] [] μ
  refine J_aload_n (q := 1) 0 d_Po_init_0 rfl rfl rfl ?_
  refine J_objInit (q := 4) (by decide) (Nat.le_of_ble_eq_true rfl) g_63 g_23 g_24 d_Po_init_1 rfl ?_
  refine J_aload_n (q := 5) 0 d_Po_init_4 rfl rfl rfl ?_
  refine J_sipush (q := 8) (v := (500 : Int32)) d_Po_init_5 (by decide) rfl ?_
  obtain ⟨hf1, h⟩ := gfr_some h
  refine J_newa2 (rc := 3) (rs := 1500) (q := 10) (l := o) rk_240 (by decide) rfl hf1 g_101 (by decide) (by decide) (by decide) d_Po_init_8 rfl ?_
  obtain ⟨μ2, hμ2, h⟩ := ap_eq h
  refine J_nmM hμ2 ?_
  refine J_putFR (q := 13) (r := 240) (x := some (o)) cd_7 (by decide) ft_7_0 (by decide) rfl rfl (Or.inr ⟨_, rfl⟩) rfl rfl g_64 rfl d_Po_init_10 rfl ?_
  obtain ⟨μ3, hμ3, h⟩ := ap_eq h
  refine J_nmM hμ3 ?_
  refine J_aload_n (q := 14) 0 d_Po_init_13 rfl rfl rfl ?_
  refine J_sipush (q := 17) (v := (500 : Int32)) d_Po_init_14 (by decide) rfl ?_
  obtain ⟨hf4, h⟩ := gfr_some h
  refine J_newa2 (rc := 2) (rs := 1000) (q := 19) (l := o) rk_241 (by decide) rfl hf4 g_101 (by decide) (by decide) (by decide) d_Po_init_17 rfl ?_
  obtain ⟨μ5, hμ5, h⟩ := ap_eq h
  refine J_nmM hμ5 ?_
  refine J_putFR (q := 22) (r := 241) (x := some (o)) cd_7 (by decide) ft_7_1 (by decide) rfl rfl (Or.inr ⟨_, rfl⟩) rfl rfl g_67 rfl d_Po_init_19 rfl ?_
  obtain ⟨μ6, hμ6, h⟩ := ap_eq h
  refine J_nmM hμ6 ?_
  refine J_aload_n (q := 23) 0 d_Po_init_22 rfl rfl rfl ?_
  refine J_sipush (q := 26) (v := (500 : Int32)) d_Po_init_23 (by decide) rfl ?_
  obtain ⟨hf7, h⟩ := gfr_some h
  refine J_newa2 (rc := 1) (rs := 500) (q := 28) (l := o) rk_242 (by decide) rfl hf7 g_101 (by decide) (by decide) (by decide) d_Po_init_26 rfl ?_
  obtain ⟨μ8, hμ8, h⟩ := ap_eq h
  refine J_nmM hμ8 ?_
  refine J_putFR (q := 31) (r := 242) (x := some (o)) cd_7 (by decide) ft_7_2 (by decide) rfl rfl (Or.inr ⟨_, rfl⟩) rfl rfl g_70 rfl d_Po_init_28 rfl ?_
  obtain ⟨μ9, hμ9, h⟩ := ap_eq h
  refine J_nmM hμ9 ?_
  refine J_aload_n (q := 32) 0 d_Po_init_31 rfl rfl rfl ?_
  refine J_sipush (q := 35) (v := (500 : Int32)) d_Po_init_32 (by decide) rfl ?_
  obtain ⟨hf10, h⟩ := gfr_some h
  refine J_newa2 (rc := 0) (rs := 0) (q := 37) (l := o) rk_243 (by decide) rfl hf10 g_101 (by decide) (by decide) (by decide) d_Po_init_35 rfl ?_
  obtain ⟨μ11, hμ11, h⟩ := ap_eq h
  refine J_nmM hμ11 ?_
  refine J_putFR (q := 40) (r := 243) (x := some (o)) cd_7 (by decide) ft_7_3 (by decide) rfl rfl (Or.inr ⟨_, rfl⟩) rfl rfl g_72 rfl d_Po_init_37 rfl ?_
  obtain ⟨μ12, hμ12, h⟩ := ap_eq h
  refine J_nmM hμ12 ?_
  obtain rfl := Option.some.inj h
  exact J_vret rfl ⟨rfl, rfl⟩ d_Po_init_40
def m_Ru_init (μ : Mem) : Option (Mem) :=
  gfr μ 280 (0) <|
  ap (nw μ 280 (0)) fun μ2 =>
  ap (sR μ2 9 (0) 0 (some (0))) fun μ3 =>
  gfr μ3 281 (0) <|
  ap (nw μ3 281 (0)) fun μ5 =>
  ap (sR μ5 9 (0) 1 (some (0))) fun μ6 =>
  gfr μ6 282 (0) <|
  ap (nw μ6 282 (0)) fun μ8 =>
  ap (sR μ8 9 (0) 2 (some (0))) fun μ9 =>
  some μ9
theorem t_Ru_init {μ : Mem} {q : Mem} (h : m_Ru_init  μ = some q) : JM false (1) y_Ru_init b_Ru_init 1 none 3 56 [vr 9 (0)] μ (QQ none q) := by
  unfold m_Ru_init at h
  refine JM.of pl_Ru_init (fun ρ => Nat.le_of_ble_eq_true rfl) ?_
  show J (GM false (QQ none q) none y_Ru_init.name) false b_Ru_init R_9 1 (1) 3 56 0 [(0, vr 9 (0))] [] μ
  refine J_aload_n (q := 1) 0 d_Ru_init_0 rfl rfl rfl ?_
  refine J_objInit (q := 4) (by decide) (Nat.le_of_ble_eq_true rfl) g_142 g_23 g_24 d_Ru_init_1 rfl ?_
  refine J_aload_n (q := 5) 0 d_Ru_init_4 rfl rfl rfl ?_
  refine J_bipush (q := 7) (v := (32 : Int32)) d_Ru_init_5 (by decide) rfl ?_
  obtain ⟨hf1, h⟩ := gfr_some h
  refine J_newa2 (rc := 2) (rs := 24) (q := 9) (l := 0) rk_280 (by decide) rfl hf1 g_101 (by decide) (by decide) (by decide) d_Ru_init_7 rfl ?_
  obtain ⟨μ2, hμ2, h⟩ := ap_eq h
  refine J_nmM hμ2 ?_
  refine J_putFR (q := 12) (r := 280) (x := some (0)) cd_9 (by decide) ft_9_0 (by decide) rfl rfl (Or.inr ⟨_, rfl⟩) rfl rfl g_143 rfl d_Ru_init_9 rfl ?_
  obtain ⟨μ3, hμ3, h⟩ := ap_eq h
  refine J_nmM hμ3 ?_
  refine J_aload_n (q := 13) 0 d_Ru_init_12 rfl rfl rfl ?_
  refine J_bipush (q := 15) (v := (16 : Int32)) d_Ru_init_13 (by decide) rfl ?_
  obtain ⟨hf4, h⟩ := gfr_some h
  refine J_newa2 (rc := 1) (rs := 8) (q := 17) (l := 0) rk_281 (by decide) rfl hf4 g_101 (by decide) (by decide) (by decide) d_Ru_init_15 rfl ?_
  obtain ⟨μ5, hμ5, h⟩ := ap_eq h
  refine J_nmM hμ5 ?_
  refine J_putFR (q := 20) (r := 281) (x := some (0)) cd_9 (by decide) ft_9_1 (by decide) rfl rfl (Or.inr ⟨_, rfl⟩) rfl rfl g_144 rfl d_Ru_init_17 rfl ?_
  obtain ⟨μ6, hμ6, h⟩ := ap_eq h
  refine J_nmM hμ6 ?_
  refine J_aload_n (q := 21) 0 d_Ru_init_20 rfl rfl rfl ?_
  refine J_bipush (q := 23) (v := (8 : Int32)) d_Ru_init_21 (by decide) rfl ?_
  obtain ⟨hf7, h⟩ := gfr_some h
  refine J_newa2 (rc := 0) (rs := 0) (q := 25) (l := 0) rk_282 (by decide) rfl hf7 g_101 (by decide) (by decide) (by decide) d_Ru_init_23 rfl ?_
  obtain ⟨μ8, hμ8, h⟩ := ap_eq h
  refine J_nmM hμ8 ?_
  refine J_putFR (q := 28) (r := 282) (x := some (0)) cd_9 (by decide) ft_9_2 (by decide) rfl rfl (Or.inr ⟨_, rfl⟩) rfl rfl g_145 rfl d_Ru_init_25 rfl ?_
  obtain ⟨μ9, hμ9, h⟩ := ap_eq h
  refine J_nmM hμ9 ?_
  obtain rfl := Option.some.inj h
  exact J_vret rfl ⟨rfl, rfl⟩ d_Ru_init_28
def m_Fo_init (μ : Mem) : Option (Mem) :=
  gfr μ 320 (0) <|
  ap (nw μ 320 (0)) fun μ2 =>
  ap (sR μ2 11 (0) 0 (some (0))) fun μ3 =>
  ap (sI μ3 11 (0) 1 ((0 : Int32))) fun μ4 =>
  gfr μ4 1 (0) <|
  ap (nw μ4 1 (0)) fun μ6 =>
  Option.bind (m_Fl_init  μ6) fun r7 =>
  ap (sR r7 11 (0) 2 (some (0))) fun μ8 =>
  gfr μ8 7 (0) <|
  ap (nw μ8 7 (0)) fun μ10 =>
  Option.bind (m_Po_init (0) μ10) fun r11 =>
  ap (sR r11 11 (0) 3 (some (0))) fun μ12 =>
  gfr μ12 7 (1) <|
  ap (nw μ12 7 (1)) fun μ14 =>
  Option.bind (m_Po_init (1) μ14) fun r15 =>
  ap (sR r15 11 (0) 4 (some (1))) fun μ16 =>
  gfr μ16 2 (0) <|
  ap (nw μ16 2 (0)) fun μ18 =>
  Option.bind (m_Im_init  μ18) fun r19 =>
  ap (sR r19 11 (0) 5 (some (0))) fun μ20 =>
  gfr μ20 9 (0) <|
  ap (nw μ20 9 (0)) fun μ22 =>
  Option.bind (m_Ru_init  μ22) fun r23 =>
  ap (sR r23 11 (0) 6 (some (0))) fun μ24 =>
  gfr μ24 0 (0) <|
  ap (nw μ24 0 (0)) fun μ26 =>
  Option.bind (m_Fit_init (0) μ26) fun r27 =>
  ap (sR r27 11 (0) 7 (some (0))) fun μ28 =>
  gfr μ28 0 (1) <|
  ap (nw μ28 0 (1)) fun μ30 =>
  Option.bind (m_Fit_init (1) μ30) fun r31 =>
  ap (sR r31 11 (0) 8 (some (1))) fun μ32 =>
  gfr μ32 329 (0) <|
  ap (nw μ32 329 (0)) fun μ34 =>
  ap (sR μ34 11 (0) 9 (some (0))) fun μ35 =>
  gfr μ35 3 (0) <|
  ap (nw μ35 3 (0)) fun μ37 =>
  Option.bind (m_Ke_init  μ37) fun r38 =>
  ap (sR r38 11 (0) 10 (some (0))) fun μ39 =>
  gfr μ39 5 (0) <|
  ap (nw μ39 5 (0)) fun μ41 =>
  Option.bind (m_Li_init  μ41) fun r42 =>
  ap (sR r42 11 (0) 11 (some (0))) fun μ43 =>
  some μ43
theorem t_Fo_init {μ : Mem} {q : Mem} (h : m_Fo_init  μ = some q) : JM false (2) y_Fo_init b_Fo_init 1 none 108 12015 [vr 11 (0)] μ (QQ none q) := by
  unfold m_Fo_init at h
  refine JM.of pl_Fo_init (fun ρ => Nat.le_of_ble_eq_true rfl) ?_
  show J (GM false (QQ none q) none y_Fo_init.name) false b_Fo_init R_11 1 (2) 108 12015 0 [(0, vr 11 (0))] [] μ
  refine J_aload_n (q := 1) 0 d_Fo_init_0 rfl rfl rfl ?_
  refine J_objInit (q := 4) (by decide) (Nat.le_of_ble_eq_true rfl) g_22 g_23 g_24 d_Fo_init_1 rfl ?_
  refine J_aload_n (q := 5) 0 d_Fo_init_4 rfl rfl rfl ?_
  refine J_bipush (q := 7) (v := (32 : Int32)) d_Fo_init_5 (by decide) rfl ?_
  obtain ⟨hf1, h⟩ := gfr_some h
  refine J_newq (rc := 107) (rs := 11983) (q := 10) (l := 0) rk_320 (by decide) rfl hf1 g_25 (fun _ h => h.2.1) (by decide) (by decide) (by decide) d_Fo_init_7 rfl ?_
  obtain ⟨μ2, hμ2, h⟩ := ap_eq h
  refine J_nmM hμ2 ?_
  refine J_putFR (q := 13) (r := 320) (x := some (0)) cd_11 (by decide) ft_11_0 (by decide) rfl rfl (Or.inr ⟨_, rfl⟩) rfl rfl g_254 rfl d_Fo_init_10 rfl ?_
  obtain ⟨μ3, hμ3, h⟩ := ap_eq h
  refine J_nmM hμ3 ?_
  refine J_aload_n (q := 14) 0 d_Fo_init_13 rfl rfl rfl ?_
  refine J_iconst (q := 15) (v := (0 : Int32)) d_Fo_init_14 (by decide) rfl ?_
  refine J_putI (q := 18) (j := 1) cd_11 (by decide) rfl rfl rfl g_255 rfl d_Fo_init_15 rfl ?_
  obtain ⟨μ4, hμ4, h⟩ := ap_eq h
  refine J_nmM hμ4 ?_
  refine J_aload_n (q := 19) 0 d_Fo_init_18 rfl rfl rfl ?_
  obtain ⟨hf5, h⟩ := gfr_some h
  refine J_new (rc := 106) (rs := 11976) (q := 22) (l := 0) cd_1 rfl tyok_1 dvok_1 hf5 g_27 g_28 g_2 d_Fo_init_19 rfl ?_
  obtain ⟨μ6, hμ6, h⟩ := ap_eq h
  refine J_nmM hμ6 ?_
  refine J_dupR (q := 23) d_Fo_init_22 rfl ?_
  obtain ⟨r7, hr7, h⟩ := bd_some h
  refine J_callINv (rc := 101) (rs := 11684) (q := 26) (as := []) (st := [vr 1 (0), vr 11 (0)]) (by decide) g_30 rfl (t_Fl_init hr7) (by decide) (by decide) nn_0 g_31 g_2 hy_Fl_init rfl (Nat.le_of_ble_eq_true rfl) d_Fo_init_23 rfl ?_
  refine J_putFR (q := 29) (r := 1) (x := some (0)) cd_11 (by decide) ft_11_2 (by decide) rfl rfl (Or.inl ⟨_, rfl⟩) rfl rfl g_256 rfl d_Fo_init_26 rfl ?_
  obtain ⟨μ8, hμ8, h⟩ := ap_eq h
  refine J_nmM hμ8 ?_
  refine J_aload_n (q := 30) 0 d_Fo_init_29 rfl rfl rfl ?_
  obtain ⟨hf9, h⟩ := gfr_some h
  refine J_new (rc := 100) (rs := 11675) (q := 33) (l := 0) cd_7 rfl tyok_7 dvok_7 hf9 g_58 g_59 g_3 d_Fo_init_30 rfl ?_
  obtain ⟨μ10, hμ10, h⟩ := ap_eq h
  refine J_nmM hμ10 ?_
  refine J_dupR (q := 34) d_Fo_init_33 rfl ?_
  obtain ⟨r11, hr11, h⟩ := bd_some h
  refine J_callINv (rc := 96) (rs := 9675) (q := 37) (as := []) (st := [vr 7 (0), vr 11 (0)]) (by decide) g_61 rfl (t_Po_init hr11) (by decide) (by decide) nn_1 g_62 g_3 hy_Po_init rfl (Nat.le_of_ble_eq_true rfl) d_Fo_init_34 rfl ?_
  refine J_putR (q := 40) (r := 7) (x := some (0)) cd_11 (by decide) ft_11_3 (by decide) rfl rfl (Or.inl ⟨_, rfl⟩) rfl g_257 rfl d_Fo_init_37 rfl ?_
  obtain ⟨μ12, hμ12, h⟩ := ap_eq h
  refine J_nmM hμ12 ?_
  refine J_aload_n (q := 41) 0 d_Fo_init_40 rfl rfl rfl ?_
  obtain ⟨hf13, h⟩ := gfr_some h
  refine J_new (rc := 95) (rs := 9666) (q := 44) (l := 1) cd_7 rfl tyok_7 dvok_7 hf13 g_58 g_59 g_3 d_Fo_init_41 rfl ?_
  obtain ⟨μ14, hμ14, h⟩ := ap_eq h
  refine J_nmM hμ14 ?_
  refine J_dupR (q := 45) d_Fo_init_44 rfl ?_
  obtain ⟨r15, hr15, h⟩ := bd_some h
  refine J_callINv (rc := 91) (rs := 7666) (q := 48) (as := []) (st := [vr 7 (1), vr 11 (0)]) (by decide) g_61 rfl (t_Po_init hr15) (by decide) (by decide) nn_1 g_62 g_3 hy_Po_init rfl (Nat.le_of_ble_eq_true rfl) d_Fo_init_45 rfl ?_
  refine J_putR (q := 51) (r := 7) (x := some (1)) cd_11 (by decide) ft_11_4 (by decide) rfl rfl (Or.inl ⟨_, rfl⟩) rfl g_258 rfl d_Fo_init_48 rfl ?_
  obtain ⟨μ16, hμ16, h⟩ := ap_eq h
  refine J_nmM hμ16 ?_
  refine J_aload_n (q := 52) 0 d_Fo_init_51 rfl rfl rfl ?_
  obtain ⟨hf17, h⟩ := gfr_some h
  refine J_new (rc := 90) (rs := 7657) (q := 55) (l := 0) cd_2 rfl tyok_2 dvok_2 hf17 g_102 g_103 g_4 d_Fo_init_52 rfl ?_
  obtain ⟨μ18, hμ18, h⟩ := ap_eq h
  refine J_nmM hμ18 ?_
  refine J_dupR (q := 56) d_Fo_init_55 rfl ?_
  obtain ⟨r19, hr19, h⟩ := bd_some h
  refine J_callINv (rc := 88) (rs := 3048) (q := 59) (as := []) (st := [vr 2 (0), vr 11 (0)]) (by decide) g_105 rfl (t_Im_init hr19) (by decide) (by decide) nn_2 g_106 g_4 hy_Im_init rfl (Nat.le_of_ble_eq_true rfl) d_Fo_init_56 rfl ?_
  refine J_putFR (q := 62) (r := 2) (x := some (0)) cd_11 (by decide) ft_11_5 (by decide) rfl rfl (Or.inl ⟨_, rfl⟩) rfl rfl g_259 rfl d_Fo_init_59 rfl ?_
  obtain ⟨μ20, hμ20, h⟩ := ap_eq h
  refine J_nmM hμ20 ?_
  refine J_aload_n (q := 63) 0 d_Fo_init_62 rfl rfl rfl ?_
  obtain ⟨hf21, h⟩ := gfr_some h
  refine J_new (rc := 87) (rs := 3042) (q := 66) (l := 0) cd_9 rfl tyok_9 dvok_9 hf21 g_137 g_138 g_5 d_Fo_init_63 rfl ?_
  obtain ⟨μ22, hμ22, h⟩ := ap_eq h
  refine J_nmM hμ22 ?_
  refine J_dupR (q := 67) d_Fo_init_66 rfl ?_
  obtain ⟨r23, hr23, h⟩ := bd_some h
  refine J_callINv (rc := 84) (rs := 2986) (q := 70) (as := []) (st := [vr 9 (0), vr 11 (0)]) (by decide) g_140 rfl (t_Ru_init hr23) (by decide) (by decide) nn_3 g_141 g_5 hy_Ru_init rfl (Nat.le_of_ble_eq_true rfl) d_Fo_init_67 rfl ?_
  refine J_putFR (q := 73) (r := 9) (x := some (0)) cd_11 (by decide) ft_11_6 (by decide) rfl rfl (Or.inl ⟨_, rfl⟩) rfl rfl g_260 rfl d_Fo_init_70 rfl ?_
  obtain ⟨μ24, hμ24, h⟩ := ap_eq h
  refine J_nmM hμ24 ?_
  refine J_aload_n (q := 74) 0 d_Fo_init_73 rfl rfl rfl ?_
  obtain ⟨hf25, h⟩ := gfr_some h
  refine J_new (rc := 83) (rs := 2980) (q := 77) (l := 0) cd_0 rfl tyok_0 dvok_0 hf25 g_162 g_163 g_6 d_Fo_init_74 rfl ?_
  obtain ⟨μ26, hμ26, h⟩ := ap_eq h
  refine J_nmM hμ26 ?_
  refine J_dupR (q := 78) d_Fo_init_77 rfl ?_
  obtain ⟨r27, hr27, h⟩ := bd_some h
  refine J_callINv (rc := 73) (rs := 2366) (q := 81) (as := []) (st := [vr 0 (0), vr 11 (0)]) (by decide) g_165 rfl (t_Fit_init hr27) (by decide) (by decide) nn_4 g_166 g_6 hy_Fit_init rfl (Nat.le_of_ble_eq_true rfl) d_Fo_init_78 rfl ?_
  refine J_putR (q := 84) (r := 0) (x := some (0)) cd_11 (by decide) ft_11_7 (by decide) rfl rfl (Or.inl ⟨_, rfl⟩) rfl g_261 rfl d_Fo_init_81 rfl ?_
  obtain ⟨μ28, hμ28, h⟩ := ap_eq h
  refine J_nmM hμ28 ?_
  refine J_aload_n (q := 85) 0 d_Fo_init_84 rfl rfl rfl ?_
  obtain ⟨hf29, h⟩ := gfr_some h
  refine J_new (rc := 72) (rs := 2360) (q := 88) (l := 1) cd_0 rfl tyok_0 dvok_0 hf29 g_162 g_163 g_6 d_Fo_init_85 rfl ?_
  obtain ⟨μ30, hμ30, h⟩ := ap_eq h
  refine J_nmM hμ30 ?_
  refine J_dupR (q := 89) d_Fo_init_88 rfl ?_
  obtain ⟨r31, hr31, h⟩ := bd_some h
  refine J_callINv (rc := 62) (rs := 1746) (q := 92) (as := []) (st := [vr 0 (1), vr 11 (0)]) (by decide) g_165 rfl (t_Fit_init hr31) (by decide) (by decide) nn_4 g_166 g_6 hy_Fit_init rfl (Nat.le_of_ble_eq_true rfl) d_Fo_init_89 rfl ?_
  refine J_putR (q := 95) (r := 0) (x := some (1)) cd_11 (by decide) ft_11_8 (by decide) rfl rfl (Or.inl ⟨_, rfl⟩) rfl g_262 rfl d_Fo_init_92 rfl ?_
  obtain ⟨μ32, hμ32, h⟩ := ap_eq h
  refine J_nmM hμ32 ?_
  refine J_aload_n (q := 96) 0 d_Fo_init_95 rfl rfl rfl ?_
  refine J_iconst (q := 97) (v := (3 : Int32)) d_Fo_init_96 (by decide) rfl ?_
  obtain ⟨hf33, h⟩ := gfr_some h
  refine J_newa2 (rc := 61) (rs := 1743) (q := 99) (l := 0) rk_329 (by decide) rfl hf33 g_101 (by decide) (by decide) (by decide) d_Fo_init_97 rfl ?_
  obtain ⟨μ34, hμ34, h⟩ := ap_eq h
  refine J_nmM hμ34 ?_
  refine J_putFR (q := 102) (r := 329) (x := some (0)) cd_11 (by decide) ft_11_9 (by decide) rfl rfl (Or.inr ⟨_, rfl⟩) rfl rfl g_263 rfl d_Fo_init_99 rfl ?_
  obtain ⟨μ35, hμ35, h⟩ := ap_eq h
  refine J_nmM hμ35 ?_
  refine J_aload_n (q := 103) 0 d_Fo_init_102 rfl rfl rfl ?_
  obtain ⟨hf36, h⟩ := gfr_some h
  refine J_new (rc := 60) (rs := 1741) (q := 106) (l := 0) cd_3 rfl tyok_3 dvok_3 hf36 g_192 g_193 g_7 d_Fo_init_103 rfl ?_
  obtain ⟨μ37, hμ37, h⟩ := ap_eq h
  refine J_nmM hμ37 ?_
  refine J_dupR (q := 107) d_Fo_init_106 rfl ?_
  obtain ⟨r38, hr38, h⟩ := bd_some h
  refine J_callIv (rc := 10) (rs := 413) (q := 110) (as := []) (st := [vr 3 (0), vr 11 (0)]) (by decide) g_195 rfl (t_Ke_init hr38) (by decide) (by decide) g_194 g_196 g_7 hy_Ke_init rfl (Nat.le_of_ble_eq_true rfl) d_Fo_init_107 rfl ?_
  refine J_putFR (q := 113) (r := 3) (x := some (0)) cd_11 (by decide) ft_11_10 (by decide) rfl rfl (Or.inl ⟨_, rfl⟩) rfl rfl g_264 rfl d_Fo_init_110 rfl ?_
  obtain ⟨μ39, hμ39, h⟩ := ap_eq h
  refine J_nmM hμ39 ?_
  refine J_aload_n (q := 114) 0 d_Fo_init_113 rfl rfl rfl ?_
  obtain ⟨hf40, h⟩ := gfr_some h
  refine J_new (rc := 9) (rs := 403) (q := 117) (l := 0) cd_5 rfl tyok_5 dvok_5 hf40 g_211 g_212 g_9 d_Fo_init_114 rfl ?_
  obtain ⟨μ41, hμ41, h⟩ := ap_eq h
  refine J_nmM hμ41 ?_
  refine J_dupR (q := 118) d_Fo_init_117 rfl ?_
  obtain ⟨r42, hr42, h⟩ := bd_some h
  refine J_callINv (rc := 0) (rs := 0) (q := 121) (as := []) (st := [vr 5 (0), vr 11 (0)]) (by decide) g_214 rfl (t_Li_init hr42) (by decide) (by decide) nn_5 g_215 g_9 hy_Li_init rfl (Nat.le_of_ble_eq_true rfl) d_Fo_init_118 rfl ?_
  refine J_putFR (q := 124) (r := 5) (x := some (0)) cd_11 (by decide) ft_11_11 (by decide) rfl rfl (Or.inl ⟨_, rfl⟩) rfl rfl g_265 rfl d_Fo_init_121 rfl ?_
  obtain ⟨μ43, hμ43, h⟩ := ap_eq h
  refine J_nmM hμ43 ?_
  obtain rfl := Option.some.inj h
  exact J_vret rfl ⟨rfl, rfl⟩ d_Fo_init_124
def m_Pr_init (o : Nat) (μ : Mem) : Option (Mem) :=
  gfr μ 260 (o) <|
  ap (nw μ 260 (o)) fun μ2 =>
  ap (sR μ2 8 (o) 0 (some (o))) fun μ3 =>
  gfr μ3 261 (o) <|
  ap (nw μ3 261 (o)) fun μ5 =>
  ap (sR μ5 8 (o) 1 (some (o))) fun μ6 =>
  some μ6
theorem t_Pr_init {o : Nat} {μ : Mem} {q : Mem} (h : m_Pr_init o μ = some q) : JM false (1) y_Pr_init b_Pr_init 1 none 2 200 [vr 8 (o)] μ (QQ none q) := by
  unfold m_Pr_init at h
  refine JM.of pl_Pr_init (fun ρ => Nat.le_of_ble_eq_true rfl) ?_
  show J (GM false (QQ none q) none y_Pr_init.name) false b_Pr_init R_8 1 (1) 2 200 0 [(0, vr 8 (o))] [] μ
  refine J_aload_n (q := 1) 0 d_Pr_init_0 rfl rfl rfl ?_
  refine J_objInit (q := 4) (by decide) (Nat.le_of_ble_eq_true rfl) g_369 g_23 g_24 d_Pr_init_1 rfl ?_
  refine J_aload_n (q := 5) 0 d_Pr_init_4 rfl rfl rfl ?_
  refine J_bipush (q := 7) (v := (100 : Int32)) d_Pr_init_5 (by decide) rfl ?_
  obtain ⟨hf1, h⟩ := gfr_some h
  refine J_newa2 (rc := 1) (rs := 100) (q := 9) (l := o) rk_260 (by decide) rfl hf1 g_101 (by decide) (by decide) (by decide) d_Pr_init_7 rfl ?_
  obtain ⟨μ2, hμ2, h⟩ := ap_eq h
  refine J_nmM hμ2 ?_
  refine J_putFR (q := 12) (r := 260) (x := some (o)) cd_8 (by decide) ft_8_0 (by decide) rfl rfl (Or.inr ⟨_, rfl⟩) rfl rfl g_370 rfl d_Pr_init_9 rfl ?_
  obtain ⟨μ3, hμ3, h⟩ := ap_eq h
  refine J_nmM hμ3 ?_
  refine J_aload_n (q := 13) 0 d_Pr_init_12 rfl rfl rfl ?_
  refine J_bipush (q := 15) (v := (100 : Int32)) d_Pr_init_13 (by decide) rfl ?_
  obtain ⟨hf4, h⟩ := gfr_some h
  refine J_newa2 (rc := 0) (rs := 0) (q := 17) (l := o) rk_261 (by decide) rfl hf4 g_101 (by decide) (by decide) (by decide) d_Pr_init_15 rfl ?_
  obtain ⟨μ5, hμ5, h⟩ := ap_eq h
  refine J_nmM hμ5 ?_
  refine J_putFR (q := 20) (r := 261) (x := some (o)) cd_8 (by decide) ft_8_1 (by decide) rfl rfl (Or.inr ⟨_, rfl⟩) rfl rfl g_372 rfl d_Pr_init_17 rfl ?_
  obtain ⟨μ6, hμ6, h⟩ := ap_eq h
  refine J_nmM hμ6 ?_
  obtain rfl := Option.some.inj h
  exact J_vret rfl ⟨rfl, rfl⟩ d_Pr_init_20
def m_Sh_init (o : Nat) (μ : Mem) : Option (Mem) :=
  gfr μ 300 (o) <|
  ap (nw μ 300 (o)) fun μ2 =>
  ap (sR μ2 10 (o) 0 (some (o))) fun μ3 =>
  gfr μ3 301 (o) <|
  ap (nw μ3 301 (o)) fun μ5 =>
  ap (sR μ5 10 (o) 1 (some (o))) fun μ6 =>
  gfr μ6 302 (o) <|
  ap (nw μ6 302 (o)) fun μ8 =>
  ap (sR μ8 10 (o) 2 (some (o))) fun μ9 =>
  gfm μ9 303 (o) 703 3 <|
  ap (nwm μ9 303 (o) 703 3) fun μ11 =>
  ap (sR μ11 10 (o) 3 (some (o))) fun μ12 =>
  gfm μ12 304 (o) 704 3 <|
  ap (nwm μ12 304 (o) 704 3) fun μ14 =>
  ap (sR μ14 10 (o) 4 (some (o))) fun μ15 =>
  gfr μ15 305 (o) <|
  ap (nw μ15 305 (o)) fun μ17 =>
  ap (sR μ17 10 (o) 5 (some (o))) fun μ18 =>
  some μ18
theorem t_Sh_init {o : Nat} {μ : Mem} {q : Mem} (h : m_Sh_init o μ = some q) : JM false (1) y_Sh_init b_Sh_init 1 none 12 914 [vr 10 (o)] μ (QQ none q) := by
  unfold m_Sh_init at h
  refine JM.of pl_Sh_init (fun ρ => Nat.le_of_ble_eq_true rfl) ?_
  show J (GM false (QQ none q) none y_Sh_init.name) false b_Sh_init R_10 1 (1) 12 914 0 [(0, vr 10 (o))] [] μ
  refine J_aload_n (q := 1) 0 d_Sh_init_0 rfl rfl rfl ?_
  refine J_objInit (q := 4) (by decide) (Nat.le_of_ble_eq_true rfl) g_320 g_23 g_24 d_Sh_init_1 rfl ?_
  refine J_aload_n (q := 5) 0 d_Sh_init_4 rfl rfl rfl ?_
  refine J_bipush (q := 7) (v := (100 : Int32)) d_Sh_init_5 (by decide) rfl ?_
  obtain ⟨hf1, h⟩ := gfr_some h
  refine J_newa2 (rc := 11) (rs := 814) (q := 9) (l := o) rk_300 (by decide) rfl hf1 g_101 (by decide) (by decide) (by decide) d_Sh_init_7 rfl ?_
  obtain ⟨μ2, hμ2, h⟩ := ap_eq h
  refine J_nmM hμ2 ?_
  refine J_putFR (q := 12) (r := 300) (x := some (o)) cd_10 (by decide) ft_10_0 (by decide) rfl rfl (Or.inr ⟨_, rfl⟩) rfl rfl g_322 rfl d_Sh_init_9 rfl ?_
  obtain ⟨μ3, hμ3, h⟩ := ap_eq h
  refine J_nmM hμ3 ?_
  refine J_aload_n (q := 13) 0 d_Sh_init_12 rfl rfl rfl ?_
  refine J_bipush (q := 15) (v := (100 : Int32)) d_Sh_init_13 (by decide) rfl ?_
  obtain ⟨hf4, h⟩ := gfr_some h
  refine J_newa2 (rc := 10) (rs := 714) (q := 17) (l := o) rk_301 (by decide) rfl hf4 g_101 (by decide) (by decide) (by decide) d_Sh_init_15 rfl ?_
  obtain ⟨μ5, hμ5, h⟩ := ap_eq h
  refine J_nmM hμ5 ?_
  refine J_putFR (q := 20) (r := 301) (x := some (o)) cd_10 (by decide) ft_10_1 (by decide) rfl rfl (Or.inr ⟨_, rfl⟩) rfl rfl g_326 rfl d_Sh_init_17 rfl ?_
  obtain ⟨μ6, hμ6, h⟩ := ap_eq h
  refine J_nmM hμ6 ?_
  refine J_aload_n (q := 21) 0 d_Sh_init_20 rfl rfl rfl ?_
  refine J_bipush (q := 23) (v := (100 : Int32)) d_Sh_init_21 (by decide) rfl ?_
  obtain ⟨hf7, h⟩ := gfr_some h
  refine J_newa2 (rc := 9) (rs := 614) (q := 25) (l := o) rk_302 (by decide) rfl hf7 g_101 (by decide) (by decide) (by decide) d_Sh_init_23 rfl ?_
  obtain ⟨μ8, hμ8, h⟩ := ap_eq h
  refine J_nmM hμ8 ?_
  refine J_putFR (q := 28) (r := 302) (x := some (o)) cd_10 (by decide) ft_10_2 (by decide) rfl rfl (Or.inr ⟨_, rfl⟩) rfl rfl g_330 rfl d_Sh_init_25 rfl ?_
  obtain ⟨μ9, hμ9, h⟩ := ap_eq h
  refine J_nmM hμ9 ?_
  refine J_aload_n (q := 29) 0 d_Sh_init_28 rfl rfl rfl ?_
  refine J_iconst (q := 30) (v := (3 : Int32)) d_Sh_init_29 (by decide) rfl ?_
  refine J_bipush (q := 32) (v := (100 : Int32)) d_Sh_init_30 (by decide) rfl ?_
  obtain ⟨⟨hf10, hf10r⟩, h⟩ := gfm_some h
  refine J_mna (n := 3) (K := 100) (rc := 5) (rs := 311) (q := 36) (l := o) rk_303 rk_703 (by decide) (by decide) rfl hf10 hf10r g_321 g_101 (by decide) (by decide) (by decide) (by decide) (by decide) (by decide) d_Sh_init_32 rfl ?_
  obtain ⟨μ11, hμ11, h⟩ := ap_eq h
  refine J_nmM hμ11 ?_
  refine J_putFR (q := 39) (r := 303) (x := some (o)) cd_10 (by decide) ft_10_3 (by decide) rfl rfl (Or.inr ⟨_, rfl⟩) rfl rfl g_333 rfl d_Sh_init_36 rfl ?_
  obtain ⟨μ12, hμ12, h⟩ := ap_eq h
  refine J_nmM hμ12 ?_
  refine J_aload_n (q := 40) 0 d_Sh_init_39 rfl rfl rfl ?_
  refine J_iconst (q := 41) (v := (3 : Int32)) d_Sh_init_40 (by decide) rfl ?_
  refine J_bipush (q := 43) (v := (100 : Int32)) d_Sh_init_41 (by decide) rfl ?_
  obtain ⟨⟨hf13, hf13r⟩, h⟩ := gfm_some h
  refine J_mna (n := 3) (K := 100) (rc := 1) (rs := 8) (q := 47) (l := o) rk_304 rk_704 (by decide) (by decide) rfl hf13 hf13r g_321 g_101 (by decide) (by decide) (by decide) (by decide) (by decide) (by decide) d_Sh_init_43 rfl ?_
  obtain ⟨μ14, hμ14, h⟩ := ap_eq h
  refine J_nmM hμ14 ?_
  refine J_putFR (q := 50) (r := 304) (x := some (o)) cd_10 (by decide) ft_10_4 (by decide) rfl rfl (Or.inr ⟨_, rfl⟩) rfl rfl g_335 rfl d_Sh_init_47 rfl ?_
  obtain ⟨μ15, hμ15, h⟩ := ap_eq h
  refine J_nmM hμ15 ?_
  refine J_aload_n (q := 51) 0 d_Sh_init_50 rfl rfl rfl ?_
  refine J_bipush (q := 53) (v := (8 : Int32)) d_Sh_init_51 (by decide) rfl ?_
  obtain ⟨hf16, h⟩ := gfr_some h
  refine J_newa2 (rc := 0) (rs := 0) (q := 55) (l := o) rk_305 (by decide) rfl hf16 g_101 (by decide) (by decide) (by decide) d_Sh_init_53 rfl ?_
  obtain ⟨μ17, hμ17, h⟩ := ap_eq h
  refine J_nmM hμ17 ?_
  refine J_putFR (q := 58) (r := 305) (x := some (o)) cd_10 (by decide) ft_10_5 (by decide) rfl rfl (Or.inr ⟨_, rfl⟩) rfl rfl g_337 rfl d_Sh_init_55 rfl ?_
  obtain ⟨μ18, hμ18, h⟩ := ap_eq h
  refine J_nmM hμ18 ?_
  obtain rfl := Option.some.inj h
  exact J_vret rfl ⟨rfl, rfl⟩ d_Sh_init_58
def m_Le_init (o : Nat) (a1 : Int32) (a2 : Int32) (μ : Mem) : Option (Mem) :=
  gfr μ 10 (o) <|
  ap (nw μ 10 (o)) fun μ2 =>
  Option.bind (m_Sh_init (o) μ2) fun r3 =>
  ap (sR r3 4 (o) 2 (some (o))) fun μ4 =>
  gfr μ4 8 (o) <|
  ap (nw μ4 8 (o)) fun μ6 =>
  Option.bind (m_Pr_init (o) μ6) fun r7 =>
  ap (sR r7 4 (o) 3 (some (o))) fun μ8 =>
  gfr μ8 184 (o) <|
  ap (nw μ8 184 (o)) fun μ10 =>
  ap (sR μ10 4 (o) 4 (some (o))) fun μ11 =>
  ap (sI μ11 4 (o) 0 (a1)) fun μ12 =>
  ap (sI μ12 4 (o) 1 (a2)) fun μ13 =>
  some μ13
theorem t_Le_init {o : Nat} {a1 : Int32} {a2 : Int32} {μ : Mem} {q : Mem} (h : m_Le_init o a1 a2 μ = some q) : JM false (2) y_Le_init b_Le_init 3 none 17 1132 [vr 4 (o), vi (a1), vi (a2)] μ (QQ none q) := by
  unfold m_Le_init at h
  refine JM.of pl_Le_init (fun ρ => Nat.le_of_ble_eq_true rfl) ?_
  show J (GM false (QQ none q) none y_Le_init.name) false b_Le_init R_4 3 (2) 17 1132 0 [(0, vr 4 (o)), (1, vi (a1)), (2, vi (a2))] [] μ
  refine J_aload_n (q := 1) 0 d_Le_init_0 rfl rfl rfl ?_
  refine J_objInit (q := 4) (by decide) (Nat.le_of_ble_eq_true rfl) g_314 g_23 g_24 d_Le_init_1 rfl ?_
  refine J_aload_n (q := 5) 0 d_Le_init_4 rfl rfl rfl ?_
  obtain ⟨hf1, h⟩ := gfr_some h
  refine J_new (rc := 16) (rs := 1123) (q := 8) (l := o) cd_10 rfl tyok_10 dvok_10 hf1 g_315 g_316 g_12 d_Le_init_5 rfl ?_
  obtain ⟨μ2, hμ2, h⟩ := ap_eq h
  refine J_nmM hμ2 ?_
  refine J_dupR (q := 9) d_Le_init_8 rfl ?_
  obtain ⟨r3, hr3, h⟩ := bd_some h
  refine J_callINv (rc := 4) (rs := 209) (q := 12) (as := []) (st := [vr 10 (o), vr 4 (o)]) (by decide) g_318 rfl (t_Sh_init hr3) (by decide) (by decide) nn_6 g_319 g_12 hy_Sh_init rfl (Nat.le_of_ble_eq_true rfl) d_Le_init_9 rfl ?_
  refine J_putFR (q := 15) (r := 10) (x := some (o)) cd_4 (by decide) ft_4_2 (by decide) rfl rfl (Or.inl ⟨_, rfl⟩) rfl rfl g_390 rfl d_Le_init_12 rfl ?_
  obtain ⟨μ4, hμ4, h⟩ := ap_eq h
  refine J_nmM hμ4 ?_
  refine J_aload_n (q := 16) 0 d_Le_init_15 rfl rfl rfl ?_
  obtain ⟨hf5, h⟩ := gfr_some h
  refine J_new (rc := 3) (rs := 206) (q := 19) (l := o) cd_8 rfl tyok_8 dvok_8 hf5 g_364 g_365 g_13 d_Le_init_16 rfl ?_
  obtain ⟨μ6, hμ6, h⟩ := ap_eq h
  refine J_nmM hμ6 ?_
  refine J_dupR (q := 20) d_Le_init_19 rfl ?_
  obtain ⟨r7, hr7, h⟩ := bd_some h
  refine J_callINv (rc := 1) (rs := 6) (q := 23) (as := []) (st := [vr 8 (o), vr 4 (o)]) (by decide) g_367 rfl (t_Pr_init hr7) (by decide) (by decide) nn_7 g_368 g_13 hy_Pr_init rfl (Nat.le_of_ble_eq_true rfl) d_Le_init_20 rfl ?_
  refine J_putFR (q := 26) (r := 8) (x := some (o)) cd_4 (by decide) ft_4_3 (by decide) rfl rfl (Or.inl ⟨_, rfl⟩) rfl rfl g_393 rfl d_Le_init_23 rfl ?_
  obtain ⟨μ8, hμ8, h⟩ := ap_eq h
  refine J_nmM hμ8 ?_
  refine J_aload_n (q := 27) 0 d_Le_init_26 rfl rfl rfl ?_
  refine J_bipush (q := 29) (v := (6 : Int32)) d_Le_init_27 (by decide) rfl ?_
  obtain ⟨hf9, h⟩ := gfr_some h
  refine J_newq (rc := 0) (rs := 0) (q := 32) (l := o) rk_184 (by decide) rfl hf9 g_384 (fun _ h => h.2.2.1) (by decide) (by decide) (by decide) d_Le_init_29 rfl ?_
  obtain ⟨μ10, hμ10, h⟩ := ap_eq h
  refine J_nmM hμ10 ?_
  refine J_putFR (q := 35) (r := 184) (x := some (o)) cd_4 (by decide) ft_4_4 (by decide) rfl rfl (Or.inr ⟨_, rfl⟩) rfl rfl g_395 rfl d_Le_init_32 rfl ?_
  obtain ⟨μ11, hμ11, h⟩ := ap_eq h
  refine J_nmM hμ11 ?_
  refine J_aload_n (q := 36) 0 d_Le_init_35 rfl rfl rfl ?_
  refine J_iload_n (q := 37) 1 d_Le_init_36 rfl rfl rfl ?_
  refine J_putFI (q := 40) (j := 0) cd_4 (by decide) rfl rfl rfl rfl g_385 rfl d_Le_init_37 rfl ?_
  obtain ⟨μ12, hμ12, h⟩ := ap_eq h
  refine J_nmM hμ12 ?_
  refine J_aload_n (q := 41) 0 d_Le_init_40 rfl rfl rfl ?_
  refine J_iload_n (q := 42) 2 d_Le_init_41 rfl rfl rfl ?_
  refine J_putFI (q := 45) (j := 1) cd_4 (by decide) rfl rfl rfl rfl g_387 rfl d_Le_init_42 rfl ?_
  obtain ⟨μ13, hμ13, h⟩ := ap_eq h
  refine J_nmM hμ13 ?_
  obtain rfl := Option.some.inj h
  exact J_vret rfl ⟨rfl, rfl⟩ d_Le_init_45
def m_Pa_init (o : Nat) (a1 : Nat) (a2 : Int32) (a3 : Int32) (μ : Mem) : Mem :=
  ap (sI μ 6 (o) 3 ((16384 : Int32))) fun μ1 =>
  ap (sI μ1 6 (o) 4 ((0 : Int32))) fun μ2 =>
  ap (sI μ2 6 (o) 5 ((0 : Int32))) fun μ3 =>
  ap (sI μ3 6 (o) 6 ((16384 : Int32))) fun μ4 =>
  ap (sR μ4 6 (o) 0 (some (a1))) fun μ5 =>
  ap (sI μ5 6 (o) 1 (a2)) fun μ6 =>
  ap (sI μ6 6 (o) 2 (a3)) fun μ7 =>
  μ7
theorem t_Pa_init {o : Nat} {a1 : Nat} {a2 : Int32} {a3 : Int32} {μ : Mem} {q : Mem} (h : m_Pa_init o a1 a2 a3 μ = q) : JM false (1) y_Pa_init b_Pa_init 4 none 0 0 [vr 6 (o), vr 4 (a1), vi (a2), vi (a3)] μ (QQ none q) := by
  unfold m_Pa_init at h
  refine JM.of pl_Pa_init (fun ρ => Nat.le_of_ble_eq_true rfl) ?_
  show J (GM false (QQ none q) none y_Pa_init.name) false b_Pa_init R_6 4 (1) 0 0 0 [(0, vr 6 (o)), (1, vr 4 (a1)), (2, vi (a2)), (3, vi (a3))] [] μ
  refine J_aload_n (q := 1) 0 d_Pa_init_0 rfl rfl rfl ?_
  refine J_objInit (q := 4) (by decide) (Nat.le_of_ble_eq_true rfl) g_536 g_23 g_24 d_Pa_init_1 rfl ?_
  refine J_aload_n (q := 5) 0 d_Pa_init_4 rfl rfl rfl ?_
  refine J_sipush (q := 8) (v := (16384 : Int32)) d_Pa_init_5 (by decide) rfl ?_
  refine J_putI (q := 11) (j := 3) cd_6 (by decide) rfl rfl rfl g_541 rfl d_Pa_init_8 rfl ?_
  obtain ⟨μ1, hμ1, h⟩ := ap_eq h
  refine J_nmM hμ1 ?_
  refine J_aload_n (q := 12) 0 d_Pa_init_11 rfl rfl rfl ?_
  refine J_iconst (q := 13) (v := (0 : Int32)) d_Pa_init_12 (by decide) rfl ?_
  refine J_putI (q := 16) (j := 4) cd_6 (by decide) rfl rfl rfl g_542 rfl d_Pa_init_13 rfl ?_
  obtain ⟨μ2, hμ2, h⟩ := ap_eq h
  refine J_nmM hμ2 ?_
  refine J_aload_n (q := 17) 0 d_Pa_init_16 rfl rfl rfl ?_
  refine J_iconst (q := 18) (v := (0 : Int32)) d_Pa_init_17 (by decide) rfl ?_
  refine J_putI (q := 21) (j := 5) cd_6 (by decide) rfl rfl rfl g_543 rfl d_Pa_init_18 rfl ?_
  obtain ⟨μ3, hμ3, h⟩ := ap_eq h
  refine J_nmM hμ3 ?_
  refine J_aload_n (q := 22) 0 d_Pa_init_21 rfl rfl rfl ?_
  refine J_sipush (q := 25) (v := (16384 : Int32)) d_Pa_init_22 (by decide) rfl ?_
  refine J_putI (q := 28) (j := 6) cd_6 (by decide) rfl rfl rfl g_544 rfl d_Pa_init_25 rfl ?_
  obtain ⟨μ4, hμ4, h⟩ := ap_eq h
  refine J_nmM hμ4 ?_
  refine J_aload_n (q := 29) 0 d_Pa_init_28 rfl rfl rfl ?_
  refine J_aload_n (q := 30) 1 d_Pa_init_29 rfl rfl rfl ?_
  refine J_putFR (q := 33) (r := 4) (x := some (a1)) cd_6 (by decide) ft_6_0 (by decide) rfl rfl (Or.inl ⟨_, rfl⟩) rfl rfl g_537 rfl d_Pa_init_30 rfl ?_
  obtain ⟨μ5, hμ5, h⟩ := ap_eq h
  refine J_nmM hμ5 ?_
  refine J_aload_n (q := 34) 0 d_Pa_init_33 rfl rfl rfl ?_
  refine J_iload_n (q := 35) 2 d_Pa_init_34 rfl rfl rfl ?_
  refine J_putFI (q := 38) (j := 1) cd_6 (by decide) rfl rfl rfl rfl g_539 rfl d_Pa_init_35 rfl ?_
  obtain ⟨μ6, hμ6, h⟩ := ap_eq h
  refine J_nmM hμ6 ?_
  refine J_aload_n (q := 39) 0 d_Pa_init_38 rfl rfl rfl ?_
  refine J_iload_n (q := 40) 3 d_Pa_init_39 rfl rfl rfl ?_
  refine J_putFI (q := 43) (j := 2) cd_6 (by decide) rfl rfl rfl rfl g_540 rfl d_Pa_init_40 rfl ?_
  obtain ⟨μ7, hμ7, h⟩ := ap_eq h
  refine J_nmM hμ7 ?_
  subst h
  exact J_vret rfl ⟨rfl, rfl⟩ d_Pa_init_43
def m_Mo_init (μ : Mem) : Option (Mem) :=
  gfr μ 341 (0) <|
  ap (nw μ 341 (0)) fun μ2 =>
  ap (sR μ2 12 (0) 1 (some (0))) fun μ3 =>
  gfr μ3 342 (0) <|
  ap (nw μ3 342 (0)) fun μ5 =>
  ap (sR μ5 12 (0) 2 (some (0))) fun μ6 =>
  gfr μ6 343 (0) <|
  ap (nw μ6 343 (0)) fun μ8 =>
  ap (sR μ8 12 (0) 3 (some (0))) fun μ9 =>
  gfr μ9 344 (0) <|
  ap (nw μ9 344 (0)) fun μ11 =>
  ap (sR μ11 12 (0) 4 (some (0))) fun μ12 =>
  gfr μ12 345 (0) <|
  ap (nw μ12 345 (0)) fun μ14 =>
  ap (sR μ14 12 (0) 5 (some (0))) fun μ15 =>
  gfr μ15 346 (0) <|
  ap (nw μ15 346 (0)) fun μ17 =>
  ap (sR μ17 12 (0) 6 (some (0))) fun μ18 =>
  gfr μ18 347 (0) <|
  ap (nw μ18 347 (0)) fun μ20 =>
  ap (sR μ20 12 (0) 7 (some (0))) fun μ21 =>
  gfr μ21 348 (0) <|
  ap (nw μ21 348 (0)) fun μ23 =>
  ap (sR μ23 12 (0) 8 (some (0))) fun μ24 =>
  gfr μ24 349 (0) <|
  ap (nw μ24 349 (0)) fun μ26 =>
  ap (sR μ26 12 (0) 9 (some (0))) fun μ27 =>
  gfr μ27 350 (0) <|
  ap (nw μ27 350 (0)) fun μ29 =>
  ap (sR μ29 12 (0) 10 (some (0))) fun μ30 =>
  gfr μ30 351 (0) <|
  ap (nw μ30 351 (0)) fun μ32 =>
  ap (sR μ32 12 (0) 11 (some (0))) fun μ33 =>
  gfr μ33 352 (0) <|
  ap (nw μ33 352 (0)) fun μ35 =>
  ap (sR μ35 12 (0) 12 (some (0))) fun μ36 =>
  gfr μ36 353 (0) <|
  ap (nw μ36 353 (0)) fun μ38 =>
  ap (sR μ38 12 (0) 13 (some (0))) fun μ39 =>
  gfr μ39 354 (0) <|
  ap (nw μ39 354 (0)) fun μ41 =>
  ap (sR μ41 12 (0) 14 (some (0))) fun μ42 =>
  gfr μ42 355 (0) <|
  ap (nw μ42 355 (0)) fun μ44 =>
  ap (sR μ44 12 (0) 15 (some (0))) fun μ45 =>
  gfr μ45 356 (0) <|
  ap (nw μ45 356 (0)) fun μ47 =>
  ap (sR μ47 12 (0) 16 (some (0))) fun μ48 =>
  gfr μ48 357 (0) <|
  ap (nw μ48 357 (0)) fun μ50 =>
  ap (sR μ50 12 (0) 17 (some (0))) fun μ51 =>
  gfr μ51 358 (0) <|
  ap (nw μ51 358 (0)) fun μ53 =>
  ap (sR μ53 12 (0) 18 (some (0))) fun μ54 =>
  gfr μ54 359 (0) <|
  ap (nw μ54 359 (0)) fun μ56 =>
  ap (sR μ56 12 (0) 19 (some (0))) fun μ57 =>
  gfr μ57 360 (0) <|
  ap (nw μ57 360 (0)) fun μ59 =>
  ap (sR μ59 12 (0) 20 (some (0))) fun μ60 =>
  gfr μ60 361 (0) <|
  ap (nw μ60 361 (0)) fun μ62 =>
  ap (sR μ62 12 (0) 21 (some (0))) fun μ63 =>
  gfr μ63 364 (0) <|
  ap (nw μ63 364 (0)) fun μ65 =>
  ap (sR μ65 12 (0) 24 (some (0))) fun μ66 =>
  gfr μ66 365 (0) <|
  ap (nw μ66 365 (0)) fun μ68 =>
  ap (sR μ68 12 (0) 25 (some (0))) fun μ69 =>
  gfr μ69 366 (0) <|
  ap (nw μ69 366 (0)) fun μ71 =>
  ap (sR μ71 12 (0) 26 (some (0))) fun μ72 =>
  gfr μ72 368 (0) <|
  ap (nw μ72 368 (0)) fun μ74 =>
  ap (sR μ74 12 (0) 28 (some (0))) fun μ75 =>
  gfr μ75 369 (0) <|
  ap (nw μ75 369 (0)) fun μ77 =>
  ap (sR μ77 12 (0) 29 (some (0))) fun μ78 =>
  gfr μ78 370 (0) <|
  ap (nw μ78 370 (0)) fun μ80 =>
  ap (sR μ80 12 (0) 30 (some (0))) fun μ81 =>
  gfr μ81 373 (0) <|
  ap (nw μ81 373 (0)) fun μ83 =>
  ap (sR μ83 12 (0) 33 (some (0))) fun μ84 =>
  gfr μ84 374 (0) <|
  ap (nw μ84 374 (0)) fun μ86 =>
  ap (sR μ86 12 (0) 34 (some (0))) fun μ87 =>
  gfr μ87 375 (0) <|
  ap (nw μ87 375 (0)) fun μ89 =>
  ap (sR μ89 12 (0) 35 (some (0))) fun μ90 =>
  gfr μ90 376 (0) <|
  ap (nw μ90 376 (0)) fun μ92 =>
  ap (sR μ92 12 (0) 36 (some (0))) fun μ93 =>
  gfr μ93 379 (0) <|
  ap (nw μ93 379 (0)) fun μ95 =>
  ap (sR μ95 12 (0) 39 (some (0))) fun μ96 =>
  gfr μ96 380 (0) <|
  ap (nw μ96 380 (0)) fun μ98 =>
  ap (sR μ98 12 (0) 40 (some (0))) fun μ99 =>
  gfr μ99 381 (0) <|
  ap (nw μ99 381 (0)) fun μ101 =>
  ap (sR μ101 12 (0) 41 (some (0))) fun μ102 =>
  gfr μ102 383 (0) <|
  ap (nw μ102 383 (0)) fun μ104 =>
  ap (sR μ104 12 (0) 43 (some (0))) fun μ105 =>
  gfr μ105 384 (0) <|
  ap (nw μ105 384 (0)) fun μ107 =>
  ap (sR μ107 12 (0) 44 (some (0))) fun μ108 =>
  gfr μ108 386 (0) <|
  ap (nw μ108 386 (0)) fun μ110 =>
  ap (sR μ110 12 (0) 46 (some (0))) fun μ111 =>
  gfr μ111 387 (0) <|
  ap (nw μ111 387 (0)) fun μ113 =>
  ap (sR μ113 12 (0) 47 (some (0))) fun μ114 =>
  gfr μ114 388 (0) <|
  ap (nw μ114 388 (0)) fun μ116 =>
  ap (sR μ116 12 (0) 48 (some (0))) fun μ117 =>
  gfr μ117 389 (0) <|
  ap (nw μ117 389 (0)) fun μ119 =>
  ap (sR μ119 12 (0) 49 (some (0))) fun μ120 =>
  gfr μ120 390 (0) <|
  ap (nw μ120 390 (0)) fun μ122 =>
  ap (sR μ122 12 (0) 50 (some (0))) fun μ123 =>
  gfr μ123 391 (0) <|
  ap (nw μ123 391 (0)) fun μ125 =>
  ap (sR μ125 12 (0) 51 (some (0))) fun μ126 =>
  gfr μ126 394 (0) <|
  ap (nw μ126 394 (0)) fun μ128 =>
  ap (sR μ128 12 (0) 54 (some (0))) fun μ129 =>
  gfr μ129 395 (0) <|
  ap (nw μ129 395 (0)) fun μ131 =>
  ap (sR μ131 12 (0) 55 (some (0))) fun μ132 =>
  gfr μ132 396 (0) <|
  ap (nw μ132 396 (0)) fun μ134 =>
  ap (sR μ134 12 (0) 56 (some (0))) fun μ135 =>
  gfr μ135 397 (0) <|
  ap (nw μ135 397 (0)) fun μ137 =>
  ap (sR μ137 12 (0) 57 (some (0))) fun μ138 =>
  gfr μ138 398 (0) <|
  ap (nw μ138 398 (0)) fun μ140 =>
  ap (sR μ140 12 (0) 58 (some (0))) fun μ141 =>
  gfr μ141 399 (0) <|
  ap (nw μ141 399 (0)) fun μ143 =>
  ap (sR μ143 12 (0) 59 (some (0))) fun μ144 =>
  gfr μ144 400 (0) <|
  ap (nw μ144 400 (0)) fun μ146 =>
  ap (sR μ146 12 (0) 60 (some (0))) fun μ147 =>
  gfr μ147 401 (0) <|
  ap (nw μ147 401 (0)) fun μ149 =>
  ap (sR μ149 12 (0) 61 (some (0))) fun μ150 =>
  gfr μ150 402 (0) <|
  ap (nw μ150 402 (0)) fun μ152 =>
  ap (sR μ152 12 (0) 62 (some (0))) fun μ153 =>
  gfr μ153 403 (0) <|
  ap (nw μ153 403 (0)) fun μ155 =>
  ap (sR μ155 12 (0) 63 (some (0))) fun μ156 =>
  gfr μ156 405 (0) <|
  ap (nw μ156 405 (0)) fun μ158 =>
  ap (sR μ158 12 (0) 65 (some (0))) fun μ159 =>
  gfr μ159 407 (0) <|
  ap (nw μ159 407 (0)) fun μ161 =>
  ap (sR μ161 12 (0) 67 (some (0))) fun μ162 =>
  gfr μ162 409 (0) <|
  ap (nw μ162 409 (0)) fun μ164 =>
  ap (sR μ164 12 (0) 69 (some (0))) fun μ165 =>
  gfr μ165 410 (0) <|
  ap (nw μ165 410 (0)) fun μ167 =>
  ap (sR μ167 12 (0) 70 (some (0))) fun μ168 =>
  gfr μ168 411 (0) <|
  ap (nw μ168 411 (0)) fun μ170 =>
  ap (sR μ170 12 (0) 71 (some (0))) fun μ171 =>
  some μ171
theorem t_Mo_init {μ : Mem} {q : Mem} (h : m_Mo_init  μ = some q) : JM false (1) y_Mo_init b_Mo_init 1 none 57 48822 [vr 12 (0)] μ (QQ none q) := by
  unfold m_Mo_init at h
  refine JM.of pl_Mo_init (fun ρ => Nat.le_of_ble_eq_true rfl) ?_
  show J (GM false (QQ none q) none y_Mo_init.name) false b_Mo_init R_12 1 (1) 57 48822 0 [(0, vr 12 (0))] [] μ
  refine J_aload_n (q := 1) 0 d_Mo_init_0 rfl rfl rfl ?_
  refine J_objInit (q := 4) (by decide) (Nat.le_of_ble_eq_true rfl) g_1050 g_23 g_24 d_Mo_init_1 rfl ?_
  refine J_aload_n (q := 5) 0 d_Mo_init_4 rfl rfl rfl ?_
  refine J_bipush (q := 7) (v := (32 : Int32)) d_Mo_init_5 (by decide) rfl ?_
  obtain ⟨hf1, h⟩ := gfr_some h
  refine J_newa2 (rc := 56) (rs := 48790) (q := 9) (l := 0) rk_341 (by decide) rfl hf1 g_101 (by decide) (by decide) (by decide) d_Mo_init_7 rfl ?_
  obtain ⟨μ2, hμ2, h⟩ := ap_eq h
  refine J_nmM hμ2 ?_
  refine J_putFR (q := 12) (r := 341) (x := some (0)) cd_12 (by decide) ft_12_1 (by decide) rfl rfl (Or.inr ⟨_, rfl⟩) rfl rfl g_1052 rfl d_Mo_init_9 rfl ?_
  obtain ⟨μ3, hμ3, h⟩ := ap_eq h
  refine J_nmM hμ3 ?_
  refine J_aload_n (q := 13) 0 d_Mo_init_12 rfl rfl rfl ?_
  refine J_bipush (q := 15) (v := (32 : Int32)) d_Mo_init_13 (by decide) rfl ?_
  obtain ⟨hf4, h⟩ := gfr_some h
  refine J_newa2 (rc := 55) (rs := 48758) (q := 17) (l := 0) rk_342 (by decide) rfl hf4 g_101 (by decide) (by decide) (by decide) d_Mo_init_15 rfl ?_
  obtain ⟨μ5, hμ5, h⟩ := ap_eq h
  refine J_nmM hμ5 ?_
  refine J_putFR (q := 20) (r := 342) (x := some (0)) cd_12 (by decide) ft_12_2 (by decide) rfl rfl (Or.inr ⟨_, rfl⟩) rfl rfl g_1053 rfl d_Mo_init_17 rfl ?_
  obtain ⟨μ6, hμ6, h⟩ := ap_eq h
  refine J_nmM hμ6 ?_
  refine J_aload_n (q := 21) 0 d_Mo_init_20 rfl rfl rfl ?_
  refine J_bipush (q := 23) (v := (32 : Int32)) d_Mo_init_21 (by decide) rfl ?_
  obtain ⟨hf7, h⟩ := gfr_some h
  refine J_newa2 (rc := 54) (rs := 48726) (q := 25) (l := 0) rk_343 (by decide) rfl hf7 g_101 (by decide) (by decide) (by decide) d_Mo_init_23 rfl ?_
  obtain ⟨μ8, hμ8, h⟩ := ap_eq h
  refine J_nmM hμ8 ?_
  refine J_putFR (q := 28) (r := 343) (x := some (0)) cd_12 (by decide) ft_12_3 (by decide) rfl rfl (Or.inr ⟨_, rfl⟩) rfl rfl g_1054 rfl d_Mo_init_25 rfl ?_
  obtain ⟨μ9, hμ9, h⟩ := ap_eq h
  refine J_nmM hμ9 ?_
  refine J_aload_n (q := 29) 0 d_Mo_init_28 rfl rfl rfl ?_
  refine J_bipush (q := 31) (v := (32 : Int32)) d_Mo_init_29 (by decide) rfl ?_
  obtain ⟨hf10, h⟩ := gfr_some h
  refine J_newa3 (rc := 53) (rs := 48694) (q := 33) (l := 0) rk_344 (by decide) rfl hf10 g_1268 (by decide) (by decide) (by decide) d_Mo_init_31 rfl ?_
  obtain ⟨μ11, hμ11, h⟩ := ap_eq h
  refine J_nmM hμ11 ?_
  refine J_putFR (q := 36) (r := 344) (x := some (0)) cd_12 (by decide) ft_12_4 (by decide) rfl rfl (Or.inr ⟨_, rfl⟩) rfl rfl g_1055 rfl d_Mo_init_33 rfl ?_
  obtain ⟨μ12, hμ12, h⟩ := ap_eq h
  refine J_nmM hμ12 ?_
  refine J_aload_n (q := 37) 0 d_Mo_init_36 rfl rfl rfl ?_
  refine J_bipush (q := 39) (v := (32 : Int32)) d_Mo_init_37 (by decide) rfl ?_
  obtain ⟨hf13, h⟩ := gfr_some h
  refine J_newa2 (rc := 52) (rs := 48662) (q := 41) (l := 0) rk_345 (by decide) rfl hf13 g_101 (by decide) (by decide) (by decide) d_Mo_init_39 rfl ?_
  obtain ⟨μ14, hμ14, h⟩ := ap_eq h
  refine J_nmM hμ14 ?_
  refine J_putFR (q := 44) (r := 345) (x := some (0)) cd_12 (by decide) ft_12_5 (by decide) rfl rfl (Or.inr ⟨_, rfl⟩) rfl rfl g_1056 rfl d_Mo_init_41 rfl ?_
  obtain ⟨μ15, hμ15, h⟩ := ap_eq h
  refine J_nmM hμ15 ?_
  refine J_aload_n (q := 45) 0 d_Mo_init_44 rfl rfl rfl ?_
  refine J_sipush (q := 48) (v := (256 : Int32)) d_Mo_init_45 (by decide) rfl ?_
  obtain ⟨hf16, h⟩ := gfr_some h
  refine J_newa2 (rc := 51) (rs := 48406) (q := 50) (l := 0) rk_346 (by decide) rfl hf16 g_101 (by decide) (by decide) (by decide) d_Mo_init_48 rfl ?_
  obtain ⟨μ17, hμ17, h⟩ := ap_eq h
  refine J_nmM hμ17 ?_
  refine J_putFR (q := 53) (r := 346) (x := some (0)) cd_12 (by decide) ft_12_6 (by decide) rfl rfl (Or.inr ⟨_, rfl⟩) rfl rfl g_1057 rfl d_Mo_init_50 rfl ?_
  obtain ⟨μ18, hμ18, h⟩ := ap_eq h
  refine J_nmM hμ18 ?_
  refine J_aload_n (q := 54) 0 d_Mo_init_53 rfl rfl rfl ?_
  refine J_sipush (q := 57) (v := (3200 : Int32)) d_Mo_init_54 (by decide) rfl ?_
  obtain ⟨hf19, h⟩ := gfr_some h
  refine J_newa2 (rc := 50) (rs := 45206) (q := 59) (l := 0) rk_347 (by decide) rfl hf19 g_101 (by decide) (by decide) (by decide) d_Mo_init_57 rfl ?_
  obtain ⟨μ20, hμ20, h⟩ := ap_eq h
  refine J_nmM hμ20 ?_
  refine J_putFR (q := 62) (r := 347) (x := some (0)) cd_12 (by decide) ft_12_7 (by decide) rfl rfl (Or.inr ⟨_, rfl⟩) rfl rfl g_1058 rfl d_Mo_init_59 rfl ?_
  obtain ⟨μ21, hμ21, h⟩ := ap_eq h
  refine J_nmM hμ21 ?_
  refine J_aload_n (q := 63) 0 d_Mo_init_62 rfl rfl rfl ?_
  refine J_sipush (q := 66) (v := (3200 : Int32)) d_Mo_init_63 (by decide) rfl ?_
  obtain ⟨hf22, h⟩ := gfr_some h
  refine J_newa2 (rc := 49) (rs := 42006) (q := 68) (l := 0) rk_348 (by decide) rfl hf22 g_101 (by decide) (by decide) (by decide) d_Mo_init_66 rfl ?_
  obtain ⟨μ23, hμ23, h⟩ := ap_eq h
  refine J_nmM hμ23 ?_
  refine J_putFR (q := 71) (r := 348) (x := some (0)) cd_12 (by decide) ft_12_8 (by decide) rfl rfl (Or.inr ⟨_, rfl⟩) rfl rfl g_1059 rfl d_Mo_init_68 rfl ?_
  obtain ⟨μ24, hμ24, h⟩ := ap_eq h
  refine J_nmM hμ24 ?_
  refine J_aload_n (q := 72) 0 d_Mo_init_71 rfl rfl rfl ?_
  refine J_sipush (q := 75) (v := (3200 : Int32)) d_Mo_init_72 (by decide) rfl ?_
  obtain ⟨hf25, h⟩ := gfr_some h
  refine J_newa2 (rc := 48) (rs := 38806) (q := 77) (l := 0) rk_349 (by decide) rfl hf25 g_101 (by decide) (by decide) (by decide) d_Mo_init_75 rfl ?_
  obtain ⟨μ26, hμ26, h⟩ := ap_eq h
  refine J_nmM hμ26 ?_
  refine J_putFR (q := 80) (r := 349) (x := some (0)) cd_12 (by decide) ft_12_9 (by decide) rfl rfl (Or.inr ⟨_, rfl⟩) rfl rfl g_1060 rfl d_Mo_init_77 rfl ?_
  obtain ⟨μ27, hμ27, h⟩ := ap_eq h
  refine J_nmM hμ27 ?_
  refine J_aload_n (q := 81) 0 d_Mo_init_80 rfl rfl rfl ?_
  refine J_sipush (q := 84) (v := (9600 : Int32)) d_Mo_init_81 (by decide) rfl ?_
  obtain ⟨hf28, h⟩ := gfr_some h
  refine J_newa2 (rc := 47) (rs := 29206) (q := 86) (l := 0) rk_350 (by decide) rfl hf28 g_101 (by decide) (by decide) (by decide) d_Mo_init_84 rfl ?_
  obtain ⟨μ29, hμ29, h⟩ := ap_eq h
  refine J_nmM hμ29 ?_
  refine J_putFR (q := 89) (r := 350) (x := some (0)) cd_12 (by decide) ft_12_10 (by decide) rfl rfl (Or.inr ⟨_, rfl⟩) rfl rfl g_1061 rfl d_Mo_init_86 rfl ?_
  obtain ⟨μ30, hμ30, h⟩ := ap_eq h
  refine J_nmM hμ30 ?_
  refine J_aload_n (q := 90) 0 d_Mo_init_89 rfl rfl rfl ?_
  refine J_sipush (q := 93) (v := (9600 : Int32)) d_Mo_init_90 (by decide) rfl ?_
  obtain ⟨hf31, h⟩ := gfr_some h
  refine J_newa2 (rc := 46) (rs := 19606) (q := 95) (l := 0) rk_351 (by decide) rfl hf31 g_101 (by decide) (by decide) (by decide) d_Mo_init_93 rfl ?_
  obtain ⟨μ32, hμ32, h⟩ := ap_eq h
  refine J_nmM hμ32 ?_
  refine J_putFR (q := 98) (r := 351) (x := some (0)) cd_12 (by decide) ft_12_11 (by decide) rfl rfl (Or.inr ⟨_, rfl⟩) rfl rfl g_1062 rfl d_Mo_init_95 rfl ?_
  obtain ⟨μ33, hμ33, h⟩ := ap_eq h
  refine J_nmM hμ33 ?_
  refine J_aload_n (q := 99) 0 d_Mo_init_98 rfl rfl rfl ?_
  refine J_bipush (q := 101) (v := (32 : Int32)) d_Mo_init_99 (by decide) rfl ?_
  obtain ⟨hf34, h⟩ := gfr_some h
  refine J_newa2 (rc := 45) (rs := 19574) (q := 103) (l := 0) rk_352 (by decide) rfl hf34 g_101 (by decide) (by decide) (by decide) d_Mo_init_101 rfl ?_
  obtain ⟨μ35, hμ35, h⟩ := ap_eq h
  refine J_nmM hμ35 ?_
  refine J_putFR (q := 106) (r := 352) (x := some (0)) cd_12 (by decide) ft_12_12 (by decide) rfl rfl (Or.inr ⟨_, rfl⟩) rfl rfl g_1063 rfl d_Mo_init_103 rfl ?_
  obtain ⟨μ36, hμ36, h⟩ := ap_eq h
  refine J_nmM hμ36 ?_
  refine J_aload_n (q := 107) 0 d_Mo_init_106 rfl rfl rfl ?_
  refine J_sipush (q := 110) (v := (192 : Int32)) d_Mo_init_107 (by decide) rfl ?_
  obtain ⟨hf37, h⟩ := gfr_some h
  refine J_newa2 (rc := 44) (rs := 19382) (q := 112) (l := 0) rk_353 (by decide) rfl hf37 g_101 (by decide) (by decide) (by decide) d_Mo_init_110 rfl ?_
  obtain ⟨μ38, hμ38, h⟩ := ap_eq h
  refine J_nmM hμ38 ?_
  refine J_putFR (q := 115) (r := 353) (x := some (0)) cd_12 (by decide) ft_12_13 (by decide) rfl rfl (Or.inr ⟨_, rfl⟩) rfl rfl g_1064 rfl d_Mo_init_112 rfl ?_
  obtain ⟨μ39, hμ39, h⟩ := ap_eq h
  refine J_nmM hμ39 ?_
  refine J_aload_n (q := 116) 0 d_Mo_init_115 rfl rfl rfl ?_
  refine J_sipush (q := 119) (v := (768 : Int32)) d_Mo_init_116 (by decide) rfl ?_
  obtain ⟨hf40, h⟩ := gfr_some h
  refine J_newa2 (rc := 43) (rs := 18614) (q := 121) (l := 0) rk_354 (by decide) rfl hf40 g_101 (by decide) (by decide) (by decide) d_Mo_init_119 rfl ?_
  obtain ⟨μ41, hμ41, h⟩ := ap_eq h
  refine J_nmM hμ41 ?_
  refine J_putFR (q := 124) (r := 354) (x := some (0)) cd_12 (by decide) ft_12_14 (by decide) rfl rfl (Or.inr ⟨_, rfl⟩) rfl rfl g_1065 rfl d_Mo_init_121 rfl ?_
  obtain ⟨μ42, hμ42, h⟩ := ap_eq h
  refine J_nmM hμ42 ?_
  refine J_aload_n (q := 125) 0 d_Mo_init_124 rfl rfl rfl ?_
  refine J_sipush (q := 128) (v := (192 : Int32)) d_Mo_init_125 (by decide) rfl ?_
  obtain ⟨hf43, h⟩ := gfr_some h
  refine J_newa2 (rc := 42) (rs := 18422) (q := 130) (l := 0) rk_355 (by decide) rfl hf43 g_101 (by decide) (by decide) (by decide) d_Mo_init_128 rfl ?_
  obtain ⟨μ44, hμ44, h⟩ := ap_eq h
  refine J_nmM hμ44 ?_
  refine J_putFR (q := 133) (r := 355) (x := some (0)) cd_12 (by decide) ft_12_15 (by decide) rfl rfl (Or.inr ⟨_, rfl⟩) rfl rfl g_1066 rfl d_Mo_init_130 rfl ?_
  obtain ⟨μ45, hμ45, h⟩ := ap_eq h
  refine J_nmM hμ45 ?_
  refine J_aload_n (q := 134) 0 d_Mo_init_133 rfl rfl rfl ?_
  refine J_sipush (q := 137) (v := (192 : Int32)) d_Mo_init_134 (by decide) rfl ?_
  obtain ⟨hf46, h⟩ := gfr_some h
  refine J_newa2 (rc := 41) (rs := 18230) (q := 139) (l := 0) rk_356 (by decide) rfl hf46 g_101 (by decide) (by decide) (by decide) d_Mo_init_137 rfl ?_
  obtain ⟨μ47, hμ47, h⟩ := ap_eq h
  refine J_nmM hμ47 ?_
  refine J_putFR (q := 142) (r := 356) (x := some (0)) cd_12 (by decide) ft_12_16 (by decide) rfl rfl (Or.inr ⟨_, rfl⟩) rfl rfl g_1067 rfl d_Mo_init_139 rfl ?_
  obtain ⟨μ48, hμ48, h⟩ := ap_eq h
  refine J_nmM hμ48 ?_
  refine J_aload_n (q := 143) 0 d_Mo_init_142 rfl rfl rfl ?_
  refine J_bipush (q := 145) (v := (32 : Int32)) d_Mo_init_143 (by decide) rfl ?_
  obtain ⟨hf49, h⟩ := gfr_some h
  refine J_newa2 (rc := 40) (rs := 18198) (q := 147) (l := 0) rk_357 (by decide) rfl hf49 g_101 (by decide) (by decide) (by decide) d_Mo_init_145 rfl ?_
  obtain ⟨μ50, hμ50, h⟩ := ap_eq h
  refine J_nmM hμ50 ?_
  refine J_putFR (q := 150) (r := 357) (x := some (0)) cd_12 (by decide) ft_12_17 (by decide) rfl rfl (Or.inr ⟨_, rfl⟩) rfl rfl g_1068 rfl d_Mo_init_147 rfl ?_
  obtain ⟨μ51, hμ51, h⟩ := ap_eq h
  refine J_nmM hμ51 ?_
  refine J_aload_n (q := 151) 0 d_Mo_init_150 rfl rfl rfl ?_
  refine J_sipush (q := 154) (v := (3200 : Int32)) d_Mo_init_151 (by decide) rfl ?_
  obtain ⟨hf52, h⟩ := gfr_some h
  refine J_newa2 (rc := 39) (rs := 14998) (q := 156) (l := 0) rk_358 (by decide) rfl hf52 g_101 (by decide) (by decide) (by decide) d_Mo_init_154 rfl ?_
  obtain ⟨μ53, hμ53, h⟩ := ap_eq h
  refine J_nmM hμ53 ?_
  refine J_putFR (q := 159) (r := 358) (x := some (0)) cd_12 (by decide) ft_12_18 (by decide) rfl rfl (Or.inr ⟨_, rfl⟩) rfl rfl g_1069 rfl d_Mo_init_156 rfl ?_
  obtain ⟨μ54, hμ54, h⟩ := ap_eq h
  refine J_nmM hμ54 ?_
  refine J_aload_n (q := 160) 0 d_Mo_init_159 rfl rfl rfl ?_
  refine J_sipush (q := 163) (v := (3200 : Int32)) d_Mo_init_160 (by decide) rfl ?_
  obtain ⟨hf55, h⟩ := gfr_some h
  refine J_newa2 (rc := 38) (rs := 11798) (q := 165) (l := 0) rk_359 (by decide) rfl hf55 g_101 (by decide) (by decide) (by decide) d_Mo_init_163 rfl ?_
  obtain ⟨μ56, hμ56, h⟩ := ap_eq h
  refine J_nmM hμ56 ?_
  refine J_putFR (q := 168) (r := 359) (x := some (0)) cd_12 (by decide) ft_12_19 (by decide) rfl rfl (Or.inr ⟨_, rfl⟩) rfl rfl g_1070 rfl d_Mo_init_165 rfl ?_
  obtain ⟨μ57, hμ57, h⟩ := ap_eq h
  refine J_nmM hμ57 ?_
  refine J_aload_n (q := 169) 0 d_Mo_init_168 rfl rfl rfl ?_
  refine J_bipush (q := 171) (v := (8 : Int32)) d_Mo_init_169 (by decide) rfl ?_
  obtain ⟨hf58, h⟩ := gfr_some h
  refine J_newa2 (rc := 37) (rs := 11790) (q := 173) (l := 0) rk_360 (by decide) rfl hf58 g_101 (by decide) (by decide) (by decide) d_Mo_init_171 rfl ?_
  obtain ⟨μ59, hμ59, h⟩ := ap_eq h
  refine J_nmM hμ59 ?_
  refine J_putFR (q := 176) (r := 360) (x := some (0)) cd_12 (by decide) ft_12_20 (by decide) rfl rfl (Or.inr ⟨_, rfl⟩) rfl rfl g_1071 rfl d_Mo_init_173 rfl ?_
  obtain ⟨μ60, hμ60, h⟩ := ap_eq h
  refine J_nmM hμ60 ?_
  refine J_aload_n (q := 177) 0 d_Mo_init_176 rfl rfl rfl ?_
  refine J_bipush (q := 179) (v := (8 : Int32)) d_Mo_init_177 (by decide) rfl ?_
  obtain ⟨hf61, h⟩ := gfr_some h
  refine J_newa2 (rc := 36) (rs := 11782) (q := 181) (l := 0) rk_361 (by decide) rfl hf61 g_101 (by decide) (by decide) (by decide) d_Mo_init_179 rfl ?_
  obtain ⟨μ62, hμ62, h⟩ := ap_eq h
  refine J_nmM hμ62 ?_
  refine J_putFR (q := 184) (r := 361) (x := some (0)) cd_12 (by decide) ft_12_21 (by decide) rfl rfl (Or.inr ⟨_, rfl⟩) rfl rfl g_1072 rfl d_Mo_init_181 rfl ?_
  obtain ⟨μ63, hμ63, h⟩ := ap_eq h
  refine J_nmM hμ63 ?_
  refine J_aload_n (q := 185) 0 d_Mo_init_184 rfl rfl rfl ?_
  refine J_sipush (q := 188) (v := (500 : Int32)) d_Mo_init_185 (by decide) rfl ?_
  obtain ⟨hf64, h⟩ := gfr_some h
  refine J_newa2 (rc := 35) (rs := 11282) (q := 190) (l := 0) rk_364 (by decide) rfl hf64 g_101 (by decide) (by decide) (by decide) d_Mo_init_188 rfl ?_
  obtain ⟨μ65, hμ65, h⟩ := ap_eq h
  refine J_nmM hμ65 ?_
  refine J_putFR (q := 193) (r := 364) (x := some (0)) cd_12 (by decide) ft_12_24 (by decide) rfl rfl (Or.inr ⟨_, rfl⟩) rfl rfl g_1075 rfl d_Mo_init_190 rfl ?_
  obtain ⟨μ66, hμ66, h⟩ := ap_eq h
  refine J_nmM hμ66 ?_
  refine J_aload_n (q := 194) 0 d_Mo_init_193 rfl rfl rfl ?_
  refine J_sipush (q := 197) (v := (500 : Int32)) d_Mo_init_194 (by decide) rfl ?_
  obtain ⟨hf67, h⟩ := gfr_some h
  refine J_newa2 (rc := 34) (rs := 10782) (q := 199) (l := 0) rk_365 (by decide) rfl hf67 g_101 (by decide) (by decide) (by decide) d_Mo_init_197 rfl ?_
  obtain ⟨μ68, hμ68, h⟩ := ap_eq h
  refine J_nmM hμ68 ?_
  refine J_putFR (q := 202) (r := 365) (x := some (0)) cd_12 (by decide) ft_12_25 (by decide) rfl rfl (Or.inr ⟨_, rfl⟩) rfl rfl g_1076 rfl d_Mo_init_199 rfl ?_
  obtain ⟨μ69, hμ69, h⟩ := ap_eq h
  refine J_nmM hμ69 ?_
  refine J_aload_n (q := 203) 0 d_Mo_init_202 rfl rfl rfl ?_
  refine J_sipush (q := 206) (v := (500 : Int32)) d_Mo_init_203 (by decide) rfl ?_
  obtain ⟨hf70, h⟩ := gfr_some h
  refine J_newa2 (rc := 33) (rs := 10282) (q := 208) (l := 0) rk_366 (by decide) rfl hf70 g_101 (by decide) (by decide) (by decide) d_Mo_init_206 rfl ?_
  obtain ⟨μ71, hμ71, h⟩ := ap_eq h
  refine J_nmM hμ71 ?_
  refine J_putFR (q := 211) (r := 366) (x := some (0)) cd_12 (by decide) ft_12_26 (by decide) rfl rfl (Or.inr ⟨_, rfl⟩) rfl rfl g_1077 rfl d_Mo_init_208 rfl ?_
  obtain ⟨μ72, hμ72, h⟩ := ap_eq h
  refine J_nmM hμ72 ?_
  refine J_aload_n (q := 212) 0 d_Mo_init_211 rfl rfl rfl ?_
  refine J_sipush (q := 215) (v := (500 : Int32)) d_Mo_init_212 (by decide) rfl ?_
  obtain ⟨hf73, h⟩ := gfr_some h
  refine J_newa2 (rc := 32) (rs := 9782) (q := 217) (l := 0) rk_368 (by decide) rfl hf73 g_101 (by decide) (by decide) (by decide) d_Mo_init_215 rfl ?_
  obtain ⟨μ74, hμ74, h⟩ := ap_eq h
  refine J_nmM hμ74 ?_
  refine J_putFR (q := 220) (r := 368) (x := some (0)) cd_12 (by decide) ft_12_28 (by decide) rfl rfl (Or.inr ⟨_, rfl⟩) rfl rfl g_1079 rfl d_Mo_init_217 rfl ?_
  obtain ⟨μ75, hμ75, h⟩ := ap_eq h
  refine J_nmM hμ75 ?_
  refine J_aload_n (q := 221) 0 d_Mo_init_220 rfl rfl rfl ?_
  refine J_sipush (q := 224) (v := (500 : Int32)) d_Mo_init_221 (by decide) rfl ?_
  obtain ⟨hf76, h⟩ := gfr_some h
  refine J_newa2 (rc := 31) (rs := 9282) (q := 226) (l := 0) rk_369 (by decide) rfl hf76 g_101 (by decide) (by decide) (by decide) d_Mo_init_224 rfl ?_
  obtain ⟨μ77, hμ77, h⟩ := ap_eq h
  refine J_nmM hμ77 ?_
  refine J_putFR (q := 229) (r := 369) (x := some (0)) cd_12 (by decide) ft_12_29 (by decide) rfl rfl (Or.inr ⟨_, rfl⟩) rfl rfl g_1080 rfl d_Mo_init_226 rfl ?_
  obtain ⟨μ78, hμ78, h⟩ := ap_eq h
  refine J_nmM hμ78 ?_
  refine J_aload_n (q := 230) 0 d_Mo_init_229 rfl rfl rfl ?_
  refine J_sipush (q := 233) (v := (500 : Int32)) d_Mo_init_230 (by decide) rfl ?_
  obtain ⟨hf79, h⟩ := gfr_some h
  refine J_newa2 (rc := 30) (rs := 8782) (q := 235) (l := 0) rk_370 (by decide) rfl hf79 g_101 (by decide) (by decide) (by decide) d_Mo_init_233 rfl ?_
  obtain ⟨μ80, hμ80, h⟩ := ap_eq h
  refine J_nmM hμ80 ?_
  refine J_putFR (q := 238) (r := 370) (x := some (0)) cd_12 (by decide) ft_12_30 (by decide) rfl rfl (Or.inr ⟨_, rfl⟩) rfl rfl g_1081 rfl d_Mo_init_235 rfl ?_
  obtain ⟨μ81, hμ81, h⟩ := ap_eq h
  refine J_nmM hμ81 ?_
  refine J_aload_n (q := 239) 0 d_Mo_init_238 rfl rfl rfl ?_
  refine J_bipush (q := 241) (v := (100 : Int32)) d_Mo_init_239 (by decide) rfl ?_
  obtain ⟨hf82, h⟩ := gfr_some h
  refine J_newa4 (rc := 29) (rs := 8682) (q := 243) (l := 0) rk_373 (by decide) rfl hf82 g_57 (by decide) (by decide) (by decide) d_Mo_init_241 rfl ?_
  obtain ⟨μ83, hμ83, h⟩ := ap_eq h
  refine J_nmM hμ83 ?_
  refine J_putFR (q := 246) (r := 373) (x := some (0)) cd_12 (by decide) ft_12_33 (by decide) rfl rfl (Or.inr ⟨_, rfl⟩) rfl rfl g_1084 rfl d_Mo_init_243 rfl ?_
  obtain ⟨μ84, hμ84, h⟩ := ap_eq h
  refine J_nmM hμ84 ?_
  refine J_aload_n (q := 247) 0 d_Mo_init_246 rfl rfl rfl ?_
  refine J_bipush (q := 249) (v := (100 : Int32)) d_Mo_init_247 (by decide) rfl ?_
  obtain ⟨hf85, h⟩ := gfr_some h
  refine J_newa4 (rc := 28) (rs := 8582) (q := 251) (l := 0) rk_374 (by decide) rfl hf85 g_57 (by decide) (by decide) (by decide) d_Mo_init_249 rfl ?_
  obtain ⟨μ86, hμ86, h⟩ := ap_eq h
  refine J_nmM hμ86 ?_
  refine J_putFR (q := 254) (r := 374) (x := some (0)) cd_12 (by decide) ft_12_34 (by decide) rfl rfl (Or.inr ⟨_, rfl⟩) rfl rfl g_1085 rfl d_Mo_init_251 rfl ?_
  obtain ⟨μ87, hμ87, h⟩ := ap_eq h
  refine J_nmM hμ87 ?_
  refine J_aload_n (q := 255) 0 d_Mo_init_254 rfl rfl rfl ?_
  refine J_sipush (q := 258) (v := (128 : Int32)) d_Mo_init_255 (by decide) rfl ?_
  obtain ⟨hf88, h⟩ := gfr_some h
  refine J_newa4 (rc := 27) (rs := 8454) (q := 260) (l := 0) rk_375 (by decide) rfl hf88 g_57 (by decide) (by decide) (by decide) d_Mo_init_258 rfl ?_
  obtain ⟨μ89, hμ89, h⟩ := ap_eq h
  refine J_nmM hμ89 ?_
  refine J_putFR (q := 263) (r := 375) (x := some (0)) cd_12 (by decide) ft_12_35 (by decide) rfl rfl (Or.inr ⟨_, rfl⟩) rfl rfl g_1086 rfl d_Mo_init_260 rfl ?_
  obtain ⟨μ90, hμ90, h⟩ := ap_eq h
  refine J_nmM hμ90 ?_
  refine J_aload_n (q := 264) 0 d_Mo_init_263 rfl rfl rfl ?_
  refine J_bipush (q := 266) (v := (16 : Int32)) d_Mo_init_264 (by decide) rfl ?_
  obtain ⟨hf91, h⟩ := gfr_some h
  refine J_newa2 (rc := 26) (rs := 8438) (q := 268) (l := 0) rk_376 (by decide) rfl hf91 g_101 (by decide) (by decide) (by decide) d_Mo_init_266 rfl ?_
  obtain ⟨μ92, hμ92, h⟩ := ap_eq h
  refine J_nmM hμ92 ?_
  refine J_putFR (q := 271) (r := 376) (x := some (0)) cd_12 (by decide) ft_12_36 (by decide) rfl rfl (Or.inr ⟨_, rfl⟩) rfl rfl g_1087 rfl d_Mo_init_268 rfl ?_
  obtain ⟨μ93, hμ93, h⟩ := ap_eq h
  refine J_nmM hμ93 ?_
  refine J_aload_n (q := 272) 0 d_Mo_init_271 rfl rfl rfl ?_
  refine J_sipush (q := 275) (v := (4096 : Int32)) d_Mo_init_272 (by decide) rfl ?_
  obtain ⟨hf94, h⟩ := gfr_some h
  refine J_newa2 (rc := 25) (rs := 4342) (q := 277) (l := 0) rk_379 (by decide) rfl hf94 g_101 (by decide) (by decide) (by decide) d_Mo_init_275 rfl ?_
  obtain ⟨μ95, hμ95, h⟩ := ap_eq h
  refine J_nmM hμ95 ?_
  refine J_putFR (q := 280) (r := 379) (x := some (0)) cd_12 (by decide) ft_12_39 (by decide) rfl rfl (Or.inr ⟨_, rfl⟩) rfl rfl g_1090 rfl d_Mo_init_277 rfl ?_
  obtain ⟨μ96, hμ96, h⟩ := ap_eq h
  refine J_nmM hμ96 ?_
  refine J_aload_n (q := 281) 0 d_Mo_init_280 rfl rfl rfl ?_
  refine J_sipush (q := 284) (v := (514 : Int32)) d_Mo_init_281 (by decide) rfl ?_
  obtain ⟨hf97, h⟩ := gfr_some h
  refine J_newa2 (rc := 24) (rs := 3828) (q := 286) (l := 0) rk_380 (by decide) rfl hf97 g_101 (by decide) (by decide) (by decide) d_Mo_init_284 rfl ?_
  obtain ⟨μ98, hμ98, h⟩ := ap_eq h
  refine J_nmM hμ98 ?_
  refine J_putFR (q := 289) (r := 380) (x := some (0)) cd_12 (by decide) ft_12_40 (by decide) rfl rfl (Or.inr ⟨_, rfl⟩) rfl rfl g_1091 rfl d_Mo_init_286 rfl ?_
  obtain ⟨μ99, hμ99, h⟩ := ap_eq h
  refine J_nmM hμ99 ?_
  refine J_aload_n (q := 290) 0 d_Mo_init_289 rfl rfl rfl ?_
  refine J_bipush (q := 292) (v := (33 : Int32)) d_Mo_init_290 (by decide) rfl ?_
  obtain ⟨hf100, h⟩ := gfr_some h
  refine J_newa4 (rc := 23) (rs := 3795) (q := 294) (l := 0) rk_381 (by decide) rfl hf100 g_57 (by decide) (by decide) (by decide) d_Mo_init_292 rfl ?_
  obtain ⟨μ101, hμ101, h⟩ := ap_eq h
  refine J_nmM hμ101 ?_
  refine J_putFR (q := 297) (r := 381) (x := some (0)) cd_12 (by decide) ft_12_41 (by decide) rfl rfl (Or.inr ⟨_, rfl⟩) rfl rfl g_1092 rfl d_Mo_init_294 rfl ?_
  obtain ⟨μ102, hμ102, h⟩ := ap_eq h
  refine J_nmM hμ102 ?_
  refine J_aload_n (q := 298) 0 d_Mo_init_297 rfl rfl rfl ?_
  refine J_bipush (q := 300) (v := (16 : Int32)) d_Mo_init_298 (by decide) rfl ?_
  obtain ⟨hf103, h⟩ := gfr_some h
  refine J_newa4 (rc := 22) (rs := 3779) (q := 302) (l := 0) rk_383 (by decide) rfl hf103 g_57 (by decide) (by decide) (by decide) d_Mo_init_300 rfl ?_
  obtain ⟨μ104, hμ104, h⟩ := ap_eq h
  refine J_nmM hμ104 ?_
  refine J_putFR (q := 305) (r := 383) (x := some (0)) cd_12 (by decide) ft_12_43 (by decide) rfl rfl (Or.inr ⟨_, rfl⟩) rfl rfl g_1094 rfl d_Mo_init_302 rfl ?_
  obtain ⟨μ105, hμ105, h⟩ := ap_eq h
  refine J_nmM hμ105 ?_
  refine J_aload_n (q := 306) 0 d_Mo_init_305 rfl rfl rfl ?_
  refine J_bipush (q := 308) (v := (8 : Int32)) d_Mo_init_306 (by decide) rfl ?_
  obtain ⟨hf106, h⟩ := gfr_some h
  refine J_newa2 (rc := 21) (rs := 3771) (q := 310) (l := 0) rk_384 (by decide) rfl hf106 g_101 (by decide) (by decide) (by decide) d_Mo_init_308 rfl ?_
  obtain ⟨μ107, hμ107, h⟩ := ap_eq h
  refine J_nmM hμ107 ?_
  refine J_putFR (q := 313) (r := 384) (x := some (0)) cd_12 (by decide) ft_12_44 (by decide) rfl rfl (Or.inr ⟨_, rfl⟩) rfl rfl g_1095 rfl d_Mo_init_310 rfl ?_
  obtain ⟨μ108, hμ108, h⟩ := ap_eq h
  refine J_nmM hμ108 ?_
  refine J_aload_n (q := 314) 0 d_Mo_init_313 rfl rfl rfl ?_
  refine J_bipush (q := 316) (v := (100 : Int32)) d_Mo_init_314 (by decide) rfl ?_
  obtain ⟨hf109, h⟩ := gfr_some h
  refine J_newa4 (rc := 20) (rs := 3671) (q := 318) (l := 0) rk_386 (by decide) rfl hf109 g_57 (by decide) (by decide) (by decide) d_Mo_init_316 rfl ?_
  obtain ⟨μ110, hμ110, h⟩ := ap_eq h
  refine J_nmM hμ110 ?_
  refine J_putFR (q := 321) (r := 386) (x := some (0)) cd_12 (by decide) ft_12_46 (by decide) rfl rfl (Or.inr ⟨_, rfl⟩) rfl rfl g_1097 rfl d_Mo_init_318 rfl ?_
  obtain ⟨μ111, hμ111, h⟩ := ap_eq h
  refine J_nmM hμ111 ?_
  refine J_aload_n (q := 322) 0 d_Mo_init_321 rfl rfl rfl ?_
  refine J_bipush (q := 324) (v := (100 : Int32)) d_Mo_init_322 (by decide) rfl ?_
  obtain ⟨hf112, h⟩ := gfr_some h
  refine J_newa4 (rc := 19) (rs := 3571) (q := 326) (l := 0) rk_387 (by decide) rfl hf112 g_57 (by decide) (by decide) (by decide) d_Mo_init_324 rfl ?_
  obtain ⟨μ113, hμ113, h⟩ := ap_eq h
  refine J_nmM hμ113 ?_
  refine J_putFR (q := 329) (r := 387) (x := some (0)) cd_12 (by decide) ft_12_47 (by decide) rfl rfl (Or.inr ⟨_, rfl⟩) rfl rfl g_1098 rfl d_Mo_init_326 rfl ?_
  obtain ⟨μ114, hμ114, h⟩ := ap_eq h
  refine J_nmM hμ114 ?_
  refine J_aload_n (q := 330) 0 d_Mo_init_329 rfl rfl rfl ?_
  refine J_bipush (q := 332) (v := (100 : Int32)) d_Mo_init_330 (by decide) rfl ?_
  obtain ⟨hf115, h⟩ := gfr_some h
  refine J_newa4 (rc := 18) (rs := 3471) (q := 334) (l := 0) rk_388 (by decide) rfl hf115 g_57 (by decide) (by decide) (by decide) d_Mo_init_332 rfl ?_
  obtain ⟨μ116, hμ116, h⟩ := ap_eq h
  refine J_nmM hμ116 ?_
  refine J_putFR (q := 337) (r := 388) (x := some (0)) cd_12 (by decide) ft_12_48 (by decide) rfl rfl (Or.inr ⟨_, rfl⟩) rfl rfl g_1099 rfl d_Mo_init_334 rfl ?_
  obtain ⟨μ117, hμ117, h⟩ := ap_eq h
  refine J_nmM hμ117 ?_
  refine J_aload_n (q := 338) 0 d_Mo_init_337 rfl rfl rfl ?_
  refine J_bipush (q := 340) (v := (100 : Int32)) d_Mo_init_338 (by decide) rfl ?_
  obtain ⟨hf118, h⟩ := gfr_some h
  refine J_newa4 (rc := 17) (rs := 3371) (q := 342) (l := 0) rk_389 (by decide) rfl hf118 g_57 (by decide) (by decide) (by decide) d_Mo_init_340 rfl ?_
  obtain ⟨μ119, hμ119, h⟩ := ap_eq h
  refine J_nmM hμ119 ?_
  refine J_putFR (q := 345) (r := 389) (x := some (0)) cd_12 (by decide) ft_12_49 (by decide) rfl rfl (Or.inr ⟨_, rfl⟩) rfl rfl g_1100 rfl d_Mo_init_342 rfl ?_
  obtain ⟨μ120, hμ120, h⟩ := ap_eq h
  refine J_nmM hμ120 ?_
  refine J_aload_n (q := 346) 0 d_Mo_init_345 rfl rfl rfl ?_
  refine J_bipush (q := 348) (v := (100 : Int32)) d_Mo_init_346 (by decide) rfl ?_
  obtain ⟨hf121, h⟩ := gfr_some h
  refine J_newa3 (rc := 16) (rs := 3271) (q := 350) (l := 0) rk_390 (by decide) rfl hf121 g_1268 (by decide) (by decide) (by decide) d_Mo_init_348 rfl ?_
  obtain ⟨μ122, hμ122, h⟩ := ap_eq h
  refine J_nmM hμ122 ?_
  refine J_putFR (q := 353) (r := 390) (x := some (0)) cd_12 (by decide) ft_12_50 (by decide) rfl rfl (Or.inr ⟨_, rfl⟩) rfl rfl g_1101 rfl d_Mo_init_350 rfl ?_
  obtain ⟨μ123, hμ123, h⟩ := ap_eq h
  refine J_nmM hμ123 ?_
  refine J_aload_n (q := 354) 0 d_Mo_init_353 rfl rfl rfl ?_
  refine J_bipush (q := 356) (v := (100 : Int32)) d_Mo_init_354 (by decide) rfl ?_
  obtain ⟨hf124, h⟩ := gfr_some h
  refine J_newa3 (rc := 15) (rs := 3171) (q := 358) (l := 0) rk_391 (by decide) rfl hf124 g_1268 (by decide) (by decide) (by decide) d_Mo_init_356 rfl ?_
  obtain ⟨μ125, hμ125, h⟩ := ap_eq h
  refine J_nmM hμ125 ?_
  refine J_putFR (q := 361) (r := 391) (x := some (0)) cd_12 (by decide) ft_12_51 (by decide) rfl rfl (Or.inr ⟨_, rfl⟩) rfl rfl g_1102 rfl d_Mo_init_358 rfl ?_
  obtain ⟨μ126, hμ126, h⟩ := ap_eq h
  refine J_nmM hμ126 ?_
  refine J_aload_n (q := 362) 0 d_Mo_init_361 rfl rfl rfl ?_
  refine J_bipush (q := 364) (v := (100 : Int32)) d_Mo_init_362 (by decide) rfl ?_
  obtain ⟨hf127, h⟩ := gfr_some h
  refine J_newa2 (rc := 14) (rs := 3071) (q := 366) (l := 0) rk_394 (by decide) rfl hf127 g_101 (by decide) (by decide) (by decide) d_Mo_init_364 rfl ?_
  obtain ⟨μ128, hμ128, h⟩ := ap_eq h
  refine J_nmM hμ128 ?_
  refine J_putFR (q := 369) (r := 394) (x := some (0)) cd_12 (by decide) ft_12_54 (by decide) rfl rfl (Or.inr ⟨_, rfl⟩) rfl rfl g_1105 rfl d_Mo_init_366 rfl ?_
  obtain ⟨μ129, hμ129, h⟩ := ap_eq h
  refine J_nmM hμ129 ?_
  refine J_aload_n (q := 370) 0 d_Mo_init_369 rfl rfl rfl ?_
  refine J_bipush (q := 372) (v := (100 : Int32)) d_Mo_init_370 (by decide) rfl ?_
  obtain ⟨hf130, h⟩ := gfr_some h
  refine J_newa2 (rc := 13) (rs := 2971) (q := 374) (l := 0) rk_395 (by decide) rfl hf130 g_101 (by decide) (by decide) (by decide) d_Mo_init_372 rfl ?_
  obtain ⟨μ131, hμ131, h⟩ := ap_eq h
  refine J_nmM hμ131 ?_
  refine J_putFR (q := 377) (r := 395) (x := some (0)) cd_12 (by decide) ft_12_55 (by decide) rfl rfl (Or.inr ⟨_, rfl⟩) rfl rfl g_1106 rfl d_Mo_init_374 rfl ?_
  obtain ⟨μ132, hμ132, h⟩ := ap_eq h
  refine J_nmM hμ132 ?_
  refine J_aload_n (q := 378) 0 d_Mo_init_377 rfl rfl rfl ?_
  refine J_bipush (q := 380) (v := (100 : Int32)) d_Mo_init_378 (by decide) rfl ?_
  obtain ⟨hf133, h⟩ := gfr_some h
  refine J_newa3 (rc := 12) (rs := 2871) (q := 382) (l := 0) rk_396 (by decide) rfl hf133 g_1268 (by decide) (by decide) (by decide) d_Mo_init_380 rfl ?_
  obtain ⟨μ134, hμ134, h⟩ := ap_eq h
  refine J_nmM hμ134 ?_
  refine J_putFR (q := 385) (r := 396) (x := some (0)) cd_12 (by decide) ft_12_56 (by decide) rfl rfl (Or.inr ⟨_, rfl⟩) rfl rfl g_1107 rfl d_Mo_init_382 rfl ?_
  obtain ⟨μ135, hμ135, h⟩ := ap_eq h
  refine J_nmM hμ135 ?_
  refine J_aload_n (q := 386) 0 d_Mo_init_385 rfl rfl rfl ?_
  refine J_bipush (q := 388) (v := (100 : Int32)) d_Mo_init_386 (by decide) rfl ?_
  obtain ⟨hf136, h⟩ := gfr_some h
  refine J_newa3 (rc := 11) (rs := 2771) (q := 390) (l := 0) rk_397 (by decide) rfl hf136 g_1268 (by decide) (by decide) (by decide) d_Mo_init_388 rfl ?_
  obtain ⟨μ137, hμ137, h⟩ := ap_eq h
  refine J_nmM hμ137 ?_
  refine J_putFR (q := 393) (r := 397) (x := some (0)) cd_12 (by decide) ft_12_57 (by decide) rfl rfl (Or.inr ⟨_, rfl⟩) rfl rfl g_1108 rfl d_Mo_init_390 rfl ?_
  obtain ⟨μ138, hμ138, h⟩ := ap_eq h
  refine J_nmM hμ138 ?_
  refine J_aload_n (q := 394) 0 d_Mo_init_393 rfl rfl rfl ?_
  refine J_iconst (q := 395) (v := (3 : Int32)) d_Mo_init_394 (by decide) rfl ?_
  obtain ⟨hf139, h⟩ := gfr_some h
  refine J_newa2 (rc := 10) (rs := 2768) (q := 397) (l := 0) rk_398 (by decide) rfl hf139 g_101 (by decide) (by decide) (by decide) d_Mo_init_395 rfl ?_
  obtain ⟨μ140, hμ140, h⟩ := ap_eq h
  refine J_nmM hμ140 ?_
  refine J_putFR (q := 400) (r := 398) (x := some (0)) cd_12 (by decide) ft_12_58 (by decide) rfl rfl (Or.inr ⟨_, rfl⟩) rfl rfl g_1109 rfl d_Mo_init_397 rfl ?_
  obtain ⟨μ141, hμ141, h⟩ := ap_eq h
  refine J_nmM hμ141 ?_
  refine J_aload_n (q := 401) 0 d_Mo_init_400 rfl rfl rfl ?_
  refine J_bipush (q := 403) (v := (32 : Int32)) d_Mo_init_401 (by decide) rfl ?_
  obtain ⟨hf142, h⟩ := gfr_some h
  refine J_newa2 (rc := 9) (rs := 2736) (q := 405) (l := 0) rk_399 (by decide) rfl hf142 g_101 (by decide) (by decide) (by decide) d_Mo_init_403 rfl ?_
  obtain ⟨μ143, hμ143, h⟩ := ap_eq h
  refine J_nmM hμ143 ?_
  refine J_putFR (q := 408) (r := 399) (x := some (0)) cd_12 (by decide) ft_12_59 (by decide) rfl rfl (Or.inr ⟨_, rfl⟩) rfl rfl g_1110 rfl d_Mo_init_405 rfl ?_
  obtain ⟨μ144, hμ144, h⟩ := ap_eq h
  refine J_nmM hμ144 ?_
  refine J_aload_n (q := 409) 0 d_Mo_init_408 rfl rfl rfl ?_
  refine J_bipush (q := 411) (v := (32 : Int32)) d_Mo_init_409 (by decide) rfl ?_
  obtain ⟨hf145, h⟩ := gfr_some h
  refine J_newa2 (rc := 8) (rs := 2704) (q := 413) (l := 0) rk_400 (by decide) rfl hf145 g_101 (by decide) (by decide) (by decide) d_Mo_init_411 rfl ?_
  obtain ⟨μ146, hμ146, h⟩ := ap_eq h
  refine J_nmM hμ146 ?_
  refine J_putFR (q := 416) (r := 400) (x := some (0)) cd_12 (by decide) ft_12_60 (by decide) rfl rfl (Or.inr ⟨_, rfl⟩) rfl rfl g_1111 rfl d_Mo_init_413 rfl ?_
  obtain ⟨μ147, hμ147, h⟩ := ap_eq h
  refine J_nmM hμ147 ?_
  refine J_aload_n (q := 417) 0 d_Mo_init_416 rfl rfl rfl ?_
  refine J_sipush (q := 420) (v := (256 : Int32)) d_Mo_init_417 (by decide) rfl ?_
  obtain ⟨hf148, h⟩ := gfr_some h
  refine J_newa2 (rc := 7) (rs := 2448) (q := 422) (l := 0) rk_401 (by decide) rfl hf148 g_101 (by decide) (by decide) (by decide) d_Mo_init_420 rfl ?_
  obtain ⟨μ149, hμ149, h⟩ := ap_eq h
  refine J_nmM hμ149 ?_
  refine J_putFR (q := 425) (r := 401) (x := some (0)) cd_12 (by decide) ft_12_61 (by decide) rfl rfl (Or.inr ⟨_, rfl⟩) rfl rfl g_1112 rfl d_Mo_init_422 rfl ?_
  obtain ⟨μ150, hμ150, h⟩ := ap_eq h
  refine J_nmM hμ150 ?_
  refine J_aload_n (q := 426) 0 d_Mo_init_425 rfl rfl rfl ?_
  refine J_sipush (q := 429) (v := (1024 : Int32)) d_Mo_init_426 (by decide) rfl ?_
  obtain ⟨hf151, h⟩ := gfr_some h
  refine J_newa2 (rc := 6) (rs := 1424) (q := 431) (l := 0) rk_402 (by decide) rfl hf151 g_101 (by decide) (by decide) (by decide) d_Mo_init_429 rfl ?_
  obtain ⟨μ152, hμ152, h⟩ := ap_eq h
  refine J_nmM hμ152 ?_
  refine J_putFR (q := 434) (r := 402) (x := some (0)) cd_12 (by decide) ft_12_62 (by decide) rfl rfl (Or.inr ⟨_, rfl⟩) rfl rfl g_1113 rfl d_Mo_init_431 rfl ?_
  obtain ⟨μ153, hμ153, h⟩ := ap_eq h
  refine J_nmM hμ153 ?_
  refine J_aload_n (q := 435) 0 d_Mo_init_434 rfl rfl rfl ?_
  refine J_sipush (q := 438) (v := (1024 : Int32)) d_Mo_init_435 (by decide) rfl ?_
  obtain ⟨hf154, h⟩ := gfr_some h
  refine J_newa3 (rc := 5) (rs := 400) (q := 440) (l := 0) rk_403 (by decide) rfl hf154 g_1268 (by decide) (by decide) (by decide) d_Mo_init_438 rfl ?_
  obtain ⟨μ155, hμ155, h⟩ := ap_eq h
  refine J_nmM hμ155 ?_
  refine J_putFR (q := 443) (r := 403) (x := some (0)) cd_12 (by decide) ft_12_63 (by decide) rfl rfl (Or.inr ⟨_, rfl⟩) rfl rfl g_1114 rfl d_Mo_init_440 rfl ?_
  obtain ⟨μ156, hμ156, h⟩ := ap_eq h
  refine J_nmM hμ156 ?_
  refine J_aload_n (q := 444) 0 d_Mo_init_443 rfl rfl rfl ?_
  refine J_sipush (q := 447) (v := (160 : Int32)) d_Mo_init_444 (by decide) rfl ?_
  obtain ⟨hf157, h⟩ := gfr_some h
  refine J_newa2 (rc := 4) (rs := 240) (q := 449) (l := 0) rk_405 (by decide) rfl hf157 g_101 (by decide) (by decide) (by decide) d_Mo_init_447 rfl ?_
  obtain ⟨μ158, hμ158, h⟩ := ap_eq h
  refine J_nmM hμ158 ?_
  refine J_putFR (q := 452) (r := 405) (x := some (0)) cd_12 (by decide) ft_12_65 (by decide) rfl rfl (Or.inr ⟨_, rfl⟩) rfl rfl g_1116 rfl d_Mo_init_449 rfl ?_
  obtain ⟨μ159, hμ159, h⟩ := ap_eq h
  refine J_nmM hμ159 ?_
  refine J_aload_n (q := 453) 0 d_Mo_init_452 rfl rfl rfl ?_
  refine J_bipush (q := 455) (v := (60 : Int32)) d_Mo_init_453 (by decide) rfl ?_
  obtain ⟨hf160, h⟩ := gfr_some h
  refine J_newa2 (rc := 3) (rs := 180) (q := 457) (l := 0) rk_407 (by decide) rfl hf160 g_101 (by decide) (by decide) (by decide) d_Mo_init_455 rfl ?_
  obtain ⟨μ161, hμ161, h⟩ := ap_eq h
  refine J_nmM hμ161 ?_
  refine J_putFR (q := 460) (r := 407) (x := some (0)) cd_12 (by decide) ft_12_67 (by decide) rfl rfl (Or.inr ⟨_, rfl⟩) rfl rfl g_1118 rfl d_Mo_init_457 rfl ?_
  obtain ⟨μ162, hμ162, h⟩ := ap_eq h
  refine J_nmM hμ162 ?_
  refine J_aload_n (q := 461) 0 d_Mo_init_460 rfl rfl rfl ?_
  refine J_bipush (q := 463) (v := (60 : Int32)) d_Mo_init_461 (by decide) rfl ?_
  obtain ⟨hf163, h⟩ := gfr_some h
  refine J_newa2 (rc := 2) (rs := 120) (q := 465) (l := 0) rk_409 (by decide) rfl hf163 g_101 (by decide) (by decide) (by decide) d_Mo_init_463 rfl ?_
  obtain ⟨μ164, hμ164, h⟩ := ap_eq h
  refine J_nmM hμ164 ?_
  refine J_putFR (q := 468) (r := 409) (x := some (0)) cd_12 (by decide) ft_12_69 (by decide) rfl rfl (Or.inr ⟨_, rfl⟩) rfl rfl g_1120 rfl d_Mo_init_465 rfl ?_
  obtain ⟨μ165, hμ165, h⟩ := ap_eq h
  refine J_nmM hμ165 ?_
  refine J_aload_n (q := 469) 0 d_Mo_init_468 rfl rfl rfl ?_
  refine J_bipush (q := 471) (v := (60 : Int32)) d_Mo_init_469 (by decide) rfl ?_
  obtain ⟨hf166, h⟩ := gfr_some h
  refine J_newa2 (rc := 1) (rs := 60) (q := 473) (l := 0) rk_410 (by decide) rfl hf166 g_101 (by decide) (by decide) (by decide) d_Mo_init_471 rfl ?_
  obtain ⟨μ167, hμ167, h⟩ := ap_eq h
  refine J_nmM hμ167 ?_
  refine J_putFR (q := 476) (r := 410) (x := some (0)) cd_12 (by decide) ft_12_70 (by decide) rfl rfl (Or.inr ⟨_, rfl⟩) rfl rfl g_1121 rfl d_Mo_init_473 rfl ?_
  obtain ⟨μ168, hμ168, h⟩ := ap_eq h
  refine J_nmM hμ168 ?_
  refine J_aload_n (q := 477) 0 d_Mo_init_476 rfl rfl rfl ?_
  refine J_bipush (q := 479) (v := (60 : Int32)) d_Mo_init_477 (by decide) rfl ?_
  obtain ⟨hf169, h⟩ := gfr_some h
  refine J_newa2 (rc := 0) (rs := 0) (q := 481) (l := 0) rk_411 (by decide) rfl hf169 g_101 (by decide) (by decide) (by decide) d_Mo_init_479 rfl ?_
  obtain ⟨μ170, hμ170, h⟩ := ap_eq h
  refine J_nmM hμ170 ?_
  refine J_putFR (q := 484) (r := 411) (x := some (0)) cd_12 (by decide) ft_12_71 (by decide) rfl rfl (Or.inr ⟨_, rfl⟩) rfl rfl g_1122 rfl d_Mo_init_481 rfl ?_
  obtain ⟨μ171, hμ171, h⟩ := ap_eq h
  refine J_nmM hμ171 ?_
  obtain rfl := Option.some.inj h
  exact J_vret rfl ⟨rfl, rfl⟩ d_Mo_init_484
