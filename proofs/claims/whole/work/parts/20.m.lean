def lp_Ar_fill_5 (a1k : Nat) (a1l : Nat) (a1n : Nat) (a1z : Nat) (a2 : Int32) : Nat → Int32 → Int32 → Mem → Option (Mem)
  | 0, _, _, _ => none
  | n + 1, y2, y3, μ =>
  if y3 ≤ y2 then
 (some μ)
 else
 (gu (y2) a1n <|
  ap (sI μ a1k (a1l) y2.toNatClampNeg (a2)) fun μ6 =>
  ap (y2 + (1 : Int32)) fun x7 =>
  lp_Ar_fill_5 a1k a1l a1n a1z a2 n (x7) (y3) μ6)
theorem tl_Ar_fill_5 (a1k : Nat) (a1l : Nat) (a1n : Nat) (a1z : Nat) (a2 : Int32) (ha1 : RK a1k = (2, a1n, a1z)) (ha19 : a1k < 900) {q : Mem}  : ∀ (n : Nat) (y2 : Int32) (y3 : Int32) (μ : Mem), lp_Ar_fill_5 a1k a1l a1n a1z a2 n y2 y3 μ = some q → J (GM true (QQ none q) none y_Ar_fill.name) true b_Ar_fill R_Ar 4 (0) 0 0 5 [(0, vr a1k (a1l)), (1, vi (a2)), (2, vi (y2)), (3, vi (y3))] [] μ := by
  intro n
  induction n with
  | zero => intro _ _ _ h; cases h
  | succ n ih =>
    intro y2 y3 μ h
    unfold lp_Ar_fill_5 at h
    refine J_iload_n (q := 6) 2 d_Ar_fill_5 rfl rfl rfl ?_
    refine J_iload_n (q := 7) 3 d_Ar_fill_6 rfl rfl rfl ?_
    refine J_icmp_ge (q := 10) (tgt := 20) d_Ar_fill_7 (by decide) rfl (fun hc => ?_) (fun hc => ?_)
    · rw [if_pos hc] at h
      obtain rfl := Option.some.inj h
      exact J_vret rfl ⟨rfl, rfl⟩ d_Ar_fill_20
    · rw [if_neg hc] at h
      refine J_aload_n (q := 11) 0 d_Ar_fill_10 rfl rfl rfl ?_
      refine J_iload_n (q := 12) 2 d_Ar_fill_11 rfl rfl rfl ?_
      refine J_iload_n (q := 13) 1 d_Ar_fill_12 rfl rfl rfl ?_
      obtain ⟨hi5, h⟩ := gu_some h
      refine J_iast (q := 14) ha1 ha19 hi5 d_Ar_fill_13 rfl ?_
      obtain ⟨μ6, hμ6, h⟩ := ap_eq h
      refine J_nmM hμ6 ?_
      obtain ⟨x7, hx7, h⟩ := ap_eq h
      refine J_iinc (q := 17) (v := x7) (lv' := [(2, vi (x7)), (0, vr a1k (a1l)), (1, vi (a2)), (3, vi (y3))]) 2 d_Ar_fill_14 rfl (by rw [hx7]; rfl) (by decide) rfl rfl ?_
      refine J_goto (q := 5) d_Ar_fill_17 (by decide) ?_
      refine J_pick [1, 2, 0, 3] rfl ?_
      exact ih _ _ _ h
def m_Ar_fill (a1k : Nat) (a1l : Nat) (a1n : Nat) (a1z : Nat) (a2 : Int32) (μ : Mem) : Option (Mem) :=
  ap (Int32.ofNat a1n) fun x1 =>
  lp_Ar_fill_5 a1k a1l a1n a1z a2 FU ((0 : Int32)) (x1) μ
theorem t_Ar_fill {a1k : Nat} {a1l : Nat} {a1n : Nat} {a1z : Nat} {a2 : Int32} {μ : Mem} {q : Mem} (ha1 : RK a1k = (2, a1n, a1z)) (ha19 : a1k < 900) (h : m_Ar_fill a1k a1l a1n a1z a2 μ = some q) : JM true (0) y_Ar_fill b_Ar_fill 4 none 0 0 [vr a1k (a1l), vi (a2)] μ (QQ none q) := by
  unfold m_Ar_fill at h
  refine JM.of pl_Ar_fill (fun ρ => Nat.le_of_ble_eq_true rfl) ?_
  show J (GM true (QQ none q) none y_Ar_fill.name) true b_Ar_fill R_Ar 4 (0) 0 0 0 [(0, vr a1k (a1l)), (1, vi (a2))] [] μ
  refine J_iconst (q := 1) (v := (0 : Int32)) d_Ar_fill_0 (by decide) rfl ?_
  refine J_istore_n (q := 2) (lv' := [(2, vi ((0 : Int32))), (0, vr a1k (a1l)), (1, vi (a2))]) d_Ar_fill_1 rfl (by decide) rfl rfl ?_
  refine J_aload_n (q := 3) 1 d_Ar_fill_2 rfl rfl rfl ?_
  refine J_alen (q := 4) (v := Int32.ofNat a1n) ha1 ha19 (Or.inl rfl) rfl d_Ar_fill_3 rfl ?_
  obtain ⟨x1, hx1, h⟩ := ap_eq h
  refine J_nmI hx1 ?_
  refine J_istore_n (q := 5) (lv' := [(3, vi (x1)), (2, vi ((0 : Int32))), (0, vr a1k (a1l)), (1, vi (a2))]) d_Ar_fill_4 rfl (by decide) rfl rfl ?_
  refine J_pick [2, 3, 1, 0] rfl ?_
  exact tl_Ar_fill_5 a1k a1l a1n a1z a2 ha1 ha19 FU _ _ _ h
def mj_Fo_indexOfCode_31 (a2 : Int32) (a3 : Int32) (μ : Mem) (c_2 : Int32 → Option (Int32)) (y3 : Int32) : Option (Int32) :=
  ap (y3 + (1 : Int32)) fun x4 =>
  c_2 (x4)
theorem tj_Fo_indexOfCode_31 (a2 : Int32) (a3 : Int32) (μ : Mem) {q : Int32} {c_2 : Int32 → Option (Int32)} (hc_2 : ∀ (y3 : Int32), c_2 y3 = some q → J (GM true (QQ (some (vi q)) μ) (some (.int)) y_Fo_indexOfCode.name) true b_Fo_indexOfCode R_11 4 (0) 0 0 2 [(0, vr 320 (0)), (1, vi (a2)), (2, vi (a3)), (3, vi (y3))] [] μ) (y3 : Int32) (h : mj_Fo_indexOfCode_31 a2 a3 μ c_2 y3 = some q) : J (GM true (QQ (some (vi q)) μ) (some (.int)) y_Fo_indexOfCode.name) true b_Fo_indexOfCode R_11 4 (0) 0 0 31 [(0, vr 320 (0)), (1, vi (a2)), (2, vi (a3)), (3, vi (y3))] [] μ := by
  unfold mj_Fo_indexOfCode_31 at h
  obtain ⟨x4, hx4, h⟩ := ap_eq h
  refine J_iinc (q := 34) (v := x4) (lv' := [(3, vi (x4)), (0, vr 320 (0)), (1, vi (a2)), (2, vi (a3))]) 3 d_Fo_indexOfCode_31 rfl (by rw [hx4]; rfl) (by decide) rfl rfl ?_
  refine J_goto (q := 2) d_Fo_indexOfCode_34 (by decide) ?_
  refine J_pick [1, 2, 3, 0] rfl ?_
  exact hc_2 _ h
def lp_Fo_indexOfCode_2 (a2 : Int32) (a3 : Int32) (μ : Mem) : Nat → Int32 → Option (Int32)
  | 0, _ => none
  | n + 1, y3 =>
  if a2 ≤ y3 then
 (some ((-1 : Int32)))
 else
 (if (32 : Int32) ≤ y3 then
 (some ((-1 : Int32)))
 else
 (gu (y3) 32 <|
  ap (gR μ 320 (0) y3.toNatClampNeg) fun o9 =>
  oc o9
 (mj_Fo_indexOfCode_31 a2 a3 μ (lp_Fo_indexOfCode_2 a2 a3 μ n) (y3))
 fun y10 => gu (y3) 32 <|
  ap (gR μ 320 (0) y3.toNatClampNeg) fun o12 =>
  Option.bind o12 fun y13 =>
  if gI μ 4 (y13) 0 = a3 then
 (some (y3))
 else
 (mj_Fo_indexOfCode_31 a2 a3 μ (lp_Fo_indexOfCode_2 a2 a3 μ n) (y3))))
theorem tl_Fo_indexOfCode_2 (a2 : Int32) (a3 : Int32) (μ : Mem) {q : Int32}  : ∀ (n : Nat) (y3 : Int32), lp_Fo_indexOfCode_2 a2 a3 μ n y3 = some q → J (GM true (QQ (some (vi q)) μ) (some (.int)) y_Fo_indexOfCode.name) true b_Fo_indexOfCode R_11 4 (0) 0 0 2 [(0, vr 320 (0)), (1, vi (a2)), (2, vi (a3)), (3, vi (y3))] [] μ := by
  intro n
  induction n with
  | zero => intro _ h; cases h
  | succ n ih =>
    intro y3 h
    unfold lp_Fo_indexOfCode_2 at h
    refine J_iload_n (q := 3) 3 d_Fo_indexOfCode_2 rfl rfl rfl ?_
    refine J_iload_n (q := 4) 1 d_Fo_indexOfCode_3 rfl rfl rfl ?_
    refine J_icmp_ge (q := 7) (tgt := 37) d_Fo_indexOfCode_4 (by decide) rfl (fun hc => ?_) (fun hc => ?_)
    · rw [if_pos hc] at h
      refine J_iconst (q := 38) (v := (-1 : Int32)) d_Fo_indexOfCode_37 (by decide) rfl ?_
      obtain rfl := Option.some.inj h
      exact J_iret rfl ⟨rfl, rfl⟩ d_Fo_indexOfCode_38
    · rw [if_neg hc] at h
      refine J_iload_n (q := 8) 3 d_Fo_indexOfCode_7 rfl rfl rfl ?_
      refine J_aload_n (q := 9) 0 d_Fo_indexOfCode_8 rfl rfl rfl ?_
      refine J_alen (q := 10) (v := (32 : Int32)) rk_320 (by decide) (Or.inr (Or.inr rfl)) rfl d_Fo_indexOfCode_9 rfl ?_
      refine J_icmp_ge (q := 13) (tgt := 37) d_Fo_indexOfCode_10 (by decide) rfl (fun hc => ?_) (fun hc => ?_)
      · rw [if_pos hc] at h
        refine J_iconst (q := 38) (v := (-1 : Int32)) d_Fo_indexOfCode_37 (by decide) rfl ?_
        obtain rfl := Option.some.inj h
        exact J_iret rfl ⟨rfl, rfl⟩ d_Fo_indexOfCode_38
      · rw [if_neg hc] at h
        refine J_aload_n (q := 14) 0 d_Fo_indexOfCode_13 rfl rfl rfl ?_
        refine J_iload_n (q := 15) 3 d_Fo_indexOfCode_14 rfl rfl rfl ?_
        obtain ⟨hi8, h⟩ := gu_some h
        refine J_ald5 (q := 16) rk_320 (by decide) hi8 d_Fo_indexOfCode_15 rfl ?_
        obtain ⟨o9, ho9, h⟩ := ap_eq h
        refine J_nmO ho9 ?_
        refine J_nullO (q := 19) (tgt := 31) d_Fo_indexOfCode_16 (by decide) rfl (fun ho => ?_) (fun y10 ho => ?_)
        · subst ho
          rw [oc_none] at h
          refine J_pick [0, 1, 2, 3] rfl ?_
          exact tj_Fo_indexOfCode_31 a2 a3 μ ih _ h
        · subst ho
          rw [oc_some] at h
          refine J_aload_n (q := 20) 0 d_Fo_indexOfCode_19 rfl rfl rfl ?_
          refine J_iload_n (q := 21) 3 d_Fo_indexOfCode_20 rfl rfl rfl ?_
          obtain ⟨hi11, h⟩ := gu_some h
          refine J_ald5 (q := 22) rk_320 (by decide) hi11 d_Fo_indexOfCode_21 rfl ?_
          obtain ⟨o12, ho12, h⟩ := ap_eq h
          refine J_nmO ho12 ?_
          replace h := bd_some h
          obtain ⟨y13, hy13, h⟩ := h
          subst hy13
          refine J_getI (q := 25) (j := 0) cd_4 (by decide) (Or.inl rfl) g_386 rfl d_Fo_indexOfCode_22 rfl ?_
          refine J_iload_n (q := 26) 2 d_Fo_indexOfCode_25 rfl rfl rfl ?_
          refine J_icmp_ne (q := 29) (tgt := 31) d_Fo_indexOfCode_26 (by decide) rfl (fun hc => ?_) (fun hc => ?_)
          · rw [if_neg hc] at h
            refine J_pick [0, 1, 2, 3] rfl ?_
            exact tj_Fo_indexOfCode_31 a2 a3 μ ih _ h
          · rw [if_pos hc] at h
            refine J_iload_n (q := 30) 3 d_Fo_indexOfCode_29 rfl rfl rfl ?_
            obtain rfl := Option.some.inj h
            exact J_iret rfl ⟨rfl, rfl⟩ d_Fo_indexOfCode_30
def m_Fo_indexOfCode (a2 : Int32) (a3 : Int32) (μ : Mem) : Option (Int32) :=
  lp_Fo_indexOfCode_2 a2 a3 μ FU ((0 : Int32))
theorem t_Fo_indexOfCode {a2 : Int32} {a3 : Int32} {μ : Mem} {q : Int32} (h : m_Fo_indexOfCode a2 a3 μ = some q) : JM true (0) y_Fo_indexOfCode b_Fo_indexOfCode 4 (some (.int)) 0 0 [vr 320 (0), vi (a2), vi (a3)] μ (QQ (some (vi q)) μ) := by
  unfold m_Fo_indexOfCode at h
  refine JM.of pl_Fo_indexOfCode (fun ρ => Nat.le_of_ble_eq_true rfl) ?_
  show J (GM true (QQ (some (vi q)) μ) (some (.int)) y_Fo_indexOfCode.name) true b_Fo_indexOfCode R_11 4 (0) 0 0 0 [(0, vr 320 (0)), (1, vi (a2)), (2, vi (a3))] [] μ
  refine J_iconst (q := 1) (v := (0 : Int32)) d_Fo_indexOfCode_0 (by decide) rfl ?_
  refine J_istore_n (q := 2) (lv' := [(3, vi ((0 : Int32))), (0, vr 320 (0)), (1, vi (a2)), (2, vi (a3))]) d_Fo_indexOfCode_1 rfl (by decide) rfl rfl ?_
  refine J_pick [1, 2, 3, 0] rfl ?_
  exact tl_Fo_indexOfCode_2 a2 a3 μ FU _ h
def m_Fo_find (a1 : Int32) (μ : Mem) : Option (Int32) :=
  Option.bind (m_Fo_indexOfCode (gI μ 11 (0) 1) (a1) μ) fun r1 =>
  some (r1)
theorem t_Fo_find {a1 : Int32} {μ : Mem} {q : Int32} (h : m_Fo_find a1 μ = some q) : JM true (1) y_Fo_find b_Fo_find 2 (some (.int)) 0 0 [vr 11 (0), vi (a1)] μ (QQ (some (vi q)) μ) := by
  unfold m_Fo_find at h
  refine JM.of pl_Fo_find (fun ρ => Nat.le_of_ble_eq_true rfl) ?_
  show J (GM true (QQ (some (vi q)) μ) (some (.int)) y_Fo_find.name) true b_Fo_find R_11 2 (1) 0 0 0 [(0, vr 11 (0)), (1, vi (a1))] [] μ
  refine J_aload_n (q := 1) 0 d_Fo_find_0 rfl rfl rfl ?_
  refine J_getF (q := 4) cd_11 (by decide) ft_11_0 rfl g_254 rfl d_Fo_find_1 rfl ?_
  refine J_aload_n (q := 5) 0 d_Fo_find_4 rfl rfl rfl ?_
  refine J_getI (q := 8) (j := 1) cd_11 (by decide) (Or.inl rfl) g_255 rfl d_Fo_find_5 rfl ?_
  refine J_iload_n (q := 9) 1 d_Fo_find_8 rfl rfl rfl ?_
  obtain ⟨r1, hr1, h⟩ := bd_some h
  refine J_callSq (rc := 0) (rs := 0) (q := 12) (as := [vr 320 (0), vi (gI μ 11 (0) 1), vi (a1)]) (st := []) g_308 (t_Fo_indexOfCode hr1) (by decide) (by decide) g_307 g_309 g_1 hy_Fo_indexOfCode rfl (Nat.le_of_ble_eq_true rfl) d_Fo_find_9 rfl ?_
  obtain rfl := Option.some.inj h
  exact J_iret rfl ⟨rfl, rfl⟩ d_Fo_find_12
def m_Fo_within (a1 : Int64) (a2 : Int64) (a3 : Int64) (μ : Mem) : Bool :=
  if a1 < a2 then
 (false)
 else
 (if a3 < a1 then
 (false)
 else
 (true))
theorem t_Fo_within {a1 : Int64} {a2 : Int64} {a3 : Int64} {μ : Mem} {q : Bool} (h : m_Fo_within a1 a2 a3 μ = q) : JM true (0) y_Fo_within b_Fo_within 6 (some (.boolean)) 0 0 [vl (a1), vl (a2), vl (a3)] μ (QQ (some (vi (b2i q))) μ) := by
  unfold m_Fo_within at h
  refine JM.of pl_Fo_within (fun ρ => Nat.le_of_ble_eq_true rfl) ?_
  show J (GM true (QQ (some (vi (b2i q))) μ) (some (.boolean)) y_Fo_within.name) true b_Fo_within R_11 6 (0) 0 0 0 [(0, vl (a1)), (2, vl (a2)), (4, vl (a3))] [] μ
  refine J_lload_n (q := 1) 0 d_Fo_within_0 rfl rfl rfl ?_
  refine J_lload_n (q := 2) 1 d_Fo_within_1 rfl rfl rfl ?_
  refine J_lif_lt (q := 6) (tgt := 17) d_Fo_within_2 d_Fo_within_3 (by decide) rfl (fun hc => ?_) (fun hc => ?_)
  · rw [if_pos hc] at h
    refine J_iconst (q := 18) (v := (0 : Int32)) d_Fo_within_17 (by decide) rfl ?_
    subst h
    exact J_zret (Or.inl rfl) rfl ⟨rfl, rfl⟩ d_Fo_within_18
  · rw [if_neg hc] at h
    refine J_lload_n (q := 7) 0 d_Fo_within_6 rfl rfl rfl ?_
    refine J_lload (q := 9) 2 d_Fo_within_7 rfl rfl ?_
    refine J_lif_gt (q := 13) (tgt := 17) d_Fo_within_9 d_Fo_within_10 (by decide) rfl (fun hc => ?_) (fun hc => ?_)
    · rw [if_pos hc] at h
      refine J_iconst (q := 18) (v := (0 : Int32)) d_Fo_within_17 (by decide) rfl ?_
      subst h
      exact J_zret (Or.inl rfl) rfl ⟨rfl, rfl⟩ d_Fo_within_18
    · rw [if_neg hc] at h
      refine J_iconst (q := 14) (v := (1 : Int32)) d_Fo_within_13 (by decide) rfl ?_
      refine J_goto (q := 18) d_Fo_within_14 (by decide) ?_
      subst h
      exact J_zret (Or.inr rfl) rfl ⟨rfl, rfl⟩ d_Fo_within_18
def m_Fo_isCode (a1 : Int32) (μ : Mem) : Bool :=
  (m_Fo_within ((a1).toInt64) ((0 : Int64)) ((65535 : Int64)) μ)
theorem t_Fo_isCode {a1 : Int32} {μ : Mem} {q : Bool} (h : m_Fo_isCode a1 μ = q) : JM true (1) y_Fo_isCode b_Fo_isCode 1 (some (.boolean)) 0 0 [vi (a1)] μ (QQ (some (vi (b2i q))) μ) := by
  unfold m_Fo_isCode at h
  refine JM.of pl_Fo_isCode (fun ρ => Nat.le_of_ble_eq_true rfl) ?_
  show J (GM true (QQ (some (vi (b2i q))) μ) (some (.boolean)) y_Fo_isCode.name) true b_Fo_isCode R_11 1 (1) 0 0 0 [(0, vi (a1))] [] μ
  refine J_iload_n (q := 1) 0 d_Fo_isCode_0 rfl rfl rfl ?_
  refine J_i2l (q := 2) d_Fo_isCode_1 rfl ?_
  refine J_lconst (q := 3) (v := (0 : Int64)) d_Fo_isCode_2 (by decide) rfl ?_
  refine J_ldc2 (q := 6) d_Fo_isCode_3 g_298 rfl ?_
  refine J_callSq (rc := 0) (rs := 0) (q := 9) (as := [vl ((a1).toInt64), vl ((0 : Int64)), vl ((65535 : Int64))]) (st := []) g_300 (t_Fo_within rfl) (by decide) (by decide) g_299 g_301 g_1 hy_Fo_within rfl (Nat.le_of_ble_eq_true rfl) d_Fo_isCode_6 rfl ?_
  subst h
  exact J_zret (b2i01 _) rfl ⟨rfl, rfl⟩ d_Fo_isCode_9
def m_Fo_letterOf (a1 : Int32) (μ : Mem) : Option (Option Nat) :=
  if (m_Fo_within ((a1).toInt64) ((0 : Int64)) (((gI μ 11 (0) 1) - ((1 : Int32))).toInt64) μ) then
 (gu (a1) 32 <|
  ap (gR μ 320 (0) a1.toNatClampNeg) fun o2 =>
  some (o2))
 else
 (some (none))
theorem t_Fo_letterOf {a1 : Int32} {μ : Mem} {q : Option Nat} (h : m_Fo_letterOf a1 μ = some q) : JM true (1) y_Fo_letterOf b_Fo_letterOf 2 (some (.object "LetterFoundry$Letter")) 0 0 [vr 11 (0), vi (a1)] μ (QQ (some (vo 4 q)) μ) := by
  unfold m_Fo_letterOf at h
  refine JM.of pl_Fo_letterOf (fun ρ => Nat.le_of_ble_eq_true rfl) ?_
  show J (GM true (QQ (some (vo 4 q)) μ) (some (.object "LetterFoundry$Letter")) y_Fo_letterOf.name) true b_Fo_letterOf R_11 2 (1) 0 0 0 [(0, vr 11 (0)), (1, vi (a1))] [] μ
  refine J_iload_n (q := 1) 1 d_Fo_letterOf_0 rfl rfl rfl ?_
  refine J_i2l (q := 2) d_Fo_letterOf_1 rfl ?_
  refine J_lconst (q := 3) (v := (0 : Int64)) d_Fo_letterOf_2 (by decide) rfl ?_
  refine J_aload_n (q := 4) 0 d_Fo_letterOf_3 rfl rfl rfl ?_
  refine J_getI (q := 7) (j := 1) cd_11 (by decide) (Or.inl rfl) g_255 rfl d_Fo_letterOf_4 rfl ?_
  refine J_iconst (q := 8) (v := (1 : Int32)) d_Fo_letterOf_7 (by decide) rfl ?_
  refine J_isub (q := 9) d_Fo_letterOf_8 rfl ?_
  refine J_i2l (q := 10) d_Fo_letterOf_9 rfl ?_
  refine J_callSq (rc := 0) (rs := 0) (q := 13) (as := [vl ((a1).toInt64), vl ((0 : Int64)), vl (((gI μ 11 (0) 1) - ((1 : Int32))).toInt64)]) (st := []) g_300 (t_Fo_within rfl) (by decide) (by decide) g_299 g_301 g_1 hy_Fo_within rfl (Nat.le_of_ble_eq_true rfl) d_Fo_letterOf_10 rfl ?_
  refine J_ifB_eq (q := 16) (tgt := 25) d_Fo_letterOf_13 (by decide) rfl (fun hb => ?_) (fun hb => ?_)
  · rw [iB_f hb] at h
    refine J_null (q := 26) d_Fo_letterOf_25 rfl ?_
    obtain rfl := Option.some.inj h
    exact J_aret (k9 := 4) (x := none) rfl ⟨rfl, rfl⟩ d_Fo_letterOf_26
  · rw [iB_t hb] at h
    refine J_aload_n (q := 17) 0 d_Fo_letterOf_16 rfl rfl rfl ?_
    refine J_getF (q := 20) cd_11 (by decide) ft_11_0 rfl g_254 rfl d_Fo_letterOf_17 rfl ?_
    refine J_iload_n (q := 21) 1 d_Fo_letterOf_20 rfl rfl rfl ?_
    obtain ⟨hi1, h⟩ := gu_some h
    refine J_ald5 (q := 22) rk_320 (by decide) hi1 d_Fo_letterOf_21 rfl ?_
    obtain ⟨o2, ho2, h⟩ := ap_eq h
    refine J_nmO ho2 ?_
    refine J_goto (q := 26) d_Fo_letterOf_22 (by decide) ?_
    obtain rfl := Option.some.inj h
    exact J_aret (k9 := 4) (x := o2) rfl ⟨rfl, rfl⟩ d_Fo_letterOf_26
def m_Sh_begin (o : Nat) (μ : Mem) : Int32 × Mem :=
  if gI μ 10 (o) 7 = 0 then
 (if gI μ 10 (o) 6 < (8 : Int32) then
 (ap (sI μ 10 (o) 7 ((1 : Int32))) fun μ1 =>
  (gI μ1 10 (o) 6, μ1))
 else
 (((-1 : Int32), μ)))
 else
 (((-1 : Int32), μ))
theorem t_Sh_begin {o : Nat} {μ : Mem} {q : Int32 × Mem} (h : m_Sh_begin o μ = q) : JM true (0) y_Sh_begin b_Sh_begin 1 (some (.int)) 0 0 [vr 10 (o)] μ (QQ (some (vi q.1)) q.2) := by
  unfold m_Sh_begin at h
  refine JM.of pl_Sh_begin (fun ρ => Nat.le_of_ble_eq_true rfl) ?_
  show J (GM true (QQ (some (vi q.1)) q.2) (some (.int)) y_Sh_begin.name) true b_Sh_begin R_10 1 (0) 0 0 0 [(0, vr 10 (o))] [] μ
  refine J_aload_n (q := 1) 0 d_Sh_begin_0 rfl rfl rfl ?_
  refine J_getI (q := 4) (j := 7) cd_10 (by decide) (Or.inr rfl) g_342 rfl d_Sh_begin_1 rfl ?_
  refine J_if_ne (q := 7) (tgt := 16) d_Sh_begin_4 (by decide) rfl (fun hc => ?_) (fun hc => ?_)
  · rw [if_neg hc] at h
    refine J_iconst (q := 17) (v := (-1 : Int32)) d_Sh_begin_16 (by decide) rfl ?_
    subst h
    exact J_iret rfl ⟨rfl, rfl⟩ d_Sh_begin_17
  · rw [if_pos hc] at h
    refine J_aload_n (q := 8) 0 d_Sh_begin_7 rfl rfl rfl ?_
    refine J_getI (q := 11) (j := 6) cd_10 (by decide) (Or.inl rfl) g_338 rfl d_Sh_begin_8 rfl ?_
    refine J_bipush (q := 13) (v := (8 : Int32)) d_Sh_begin_11 (by decide) rfl ?_
    refine J_icmp_lt (q := 16) (tgt := 18) d_Sh_begin_13 (by decide) rfl (fun hc => ?_) (fun hc => ?_)
    · rw [if_pos hc] at h
      refine J_aload_n (q := 19) 0 d_Sh_begin_18 rfl rfl rfl ?_
      refine J_iconst (q := 20) (v := (1 : Int32)) d_Sh_begin_19 (by decide) rfl ?_
      refine J_putZ (q := 23) (j := 7) cd_10 (by decide) rfl rfl (Or.inr rfl) rfl g_342 rfl d_Sh_begin_20 rfl ?_
      obtain ⟨μ1, hμ1, h⟩ := ap_eq h
      refine J_nmM hμ1 ?_
      refine J_aload_n (q := 24) 0 d_Sh_begin_23 rfl rfl rfl ?_
      refine J_getI (q := 27) (j := 6) cd_10 (by decide) (Or.inl rfl) g_338 rfl d_Sh_begin_24 rfl ?_
      subst h
      exact J_iret rfl ⟨rfl, rfl⟩ d_Sh_begin_27
    · rw [if_neg hc] at h
      refine J_iconst (q := 17) (v := (-1 : Int32)) d_Sh_begin_16 (by decide) rfl ?_
      subst h
      exact J_iret rfl ⟨rfl, rfl⟩ d_Sh_begin_17
def m_Fo_outline (a1 : Int32) (μ : Mem) : Option (Int32 × Mem) :=
  Option.bind (m_Fo_letterOf (a1) μ) fun r1 =>
  oc r1
 (some (((-1 : Int32), μ)))
 fun y2 => if gI μ 4 (y2) 5 ≤ 0 then
 (ap (m_Sh_begin (y2) μ) fun r3 =>
  ap (r3.2) fun μ4 =>
  some ((r3.1, μ4)))
 else
 (some (((-1 : Int32), μ)))
theorem t_Fo_outline {a1 : Int32} {μ : Mem} {q : Int32 × Mem} (h : m_Fo_outline a1 μ = some q) : JM true (2) y_Fo_outline b_Fo_outline 3 (some (.int)) 0 0 [vr 11 (0), vi (a1)] μ (QQ (some (vi q.1)) q.2) := by
  unfold m_Fo_outline at h
  refine JM.of pl_Fo_outline (fun ρ => Nat.le_of_ble_eq_true rfl) ?_
  show J (GM true (QQ (some (vi q.1)) q.2) (some (.int)) y_Fo_outline.name) true b_Fo_outline R_11 3 (2) 0 0 0 [(0, vr 11 (0)), (1, vi (a1))] [] μ
  refine J_aload_n (q := 1) 0 d_Fo_outline_0 rfl rfl rfl ?_
  refine J_iload_n (q := 2) 1 d_Fo_outline_1 rfl rfl rfl ?_
  obtain ⟨r1, hr1, h⟩ := bd_some h
  refine J_callVq (rc := 0) (rs := 0) (q := 5) (as := [vi (a1)]) (st := []) (by decide) rfl g_436 sel_Fo_letterOf (t_Fo_letterOf hr1) (by decide) (by decide) g_434 g_437 g_1 hy_Fo_letterOf rfl (Nat.le_of_ble_eq_true rfl) d_Fo_outline_2 rfl ?_
  refine J_astore_n (q := 6) (lv' := [(2, vo 4 (r1)), (0, vr 11 (0)), (1, vi (a1))]) d_Fo_outline_5 rfl (by decide) rfl rfl ?_
  refine J_aload_n (q := 7) 0 d_Fo_outline_6 rfl rfl rfl ?_
  refine J_nullO (q := 10) (tgt := 17) d_Fo_outline_7 (by decide) rfl (fun ho => ?_) (fun y2 ho => ?_)
  · subst ho
    rw [oc_none] at h
    refine J_iconst (q := 18) (v := (-1 : Int32)) d_Fo_outline_17 (by decide) rfl ?_
    obtain rfl := Option.some.inj h
    exact J_iret rfl ⟨rfl, rfl⟩ d_Fo_outline_18
  · subst ho
    rw [oc_some] at h
    refine J_aload_n (q := 11) 0 d_Fo_outline_10 rfl rfl rfl ?_
    refine J_getI (q := 14) (j := 5) cd_4 (by decide) (Or.inl rfl) g_399 rfl d_Fo_outline_11 rfl ?_
    refine J_if_le (q := 17) (tgt := 19) d_Fo_outline_14 (by decide) rfl (fun hc => ?_) (fun hc => ?_)
    · rw [if_pos hc] at h
      refine J_aload_n (q := 20) 0 d_Fo_outline_19 rfl rfl rfl ?_
      refine J_getF (q := 23) cd_4 (by decide) ft_4_2 rfl g_392 rfl d_Fo_outline_20 rfl ?_
      obtain ⟨r3, hr3, h⟩ := ap_eq h
      refine J_callVq (rc := 0) (rs := 0) (q := 26) (as := []) (st := []) (by decide) rfl g_439 g_440 (t_Sh_begin hr3.symm) (by decide) (by decide) g_438 g_441 g_12 hy_Sh_begin rfl (Nat.le_of_ble_eq_true rfl) d_Fo_outline_23 rfl ?_
      obtain ⟨μ4, hμ4, h⟩ := ap_eq h
      refine J_nmM hμ4 ?_
      obtain rfl := Option.some.inj h
      exact J_iret rfl ⟨rfl, rfl⟩ d_Fo_outline_26
    · rw [if_neg hc] at h
      refine J_iconst (q := 18) (v := (-1 : Int32)) d_Fo_outline_17 (by decide) rfl ?_
      obtain rfl := Option.some.inj h
      exact J_iret rfl ⟨rfl, rfl⟩ d_Fo_outline_18
def m_Fo_isPlace (a1 : Int32) (a2 : Int32) (μ : Mem) : Bool :=
  if (m_Fo_within ((a1).toInt64) ((-32000 : Int64)) ((32000 : Int64)) μ) then
 (if (m_Fo_within ((a2).toInt64) ((-32000 : Int64)) ((32000 : Int64)) μ) then
 (true)
 else
 (false))
 else
 (false)
theorem t_Fo_isPlace {a1 : Int32} {a2 : Int32} {μ : Mem} {q : Bool} (h : m_Fo_isPlace a1 a2 μ = q) : JM true (1) y_Fo_isPlace b_Fo_isPlace 2 (some (.boolean)) 0 0 [vi (a1), vi (a2)] μ (QQ (some (vi (b2i q))) μ) := by
  unfold m_Fo_isPlace at h
  refine JM.of pl_Fo_isPlace (fun ρ => Nat.le_of_ble_eq_true rfl) ?_
  show J (GM true (QQ (some (vi (b2i q))) μ) (some (.boolean)) y_Fo_isPlace.name) true b_Fo_isPlace R_11 2 (1) 0 0 0 [(0, vi (a1)), (1, vi (a2))] [] μ
  refine J_iload_n (q := 1) 0 d_Fo_isPlace_0 rfl rfl rfl ?_
  refine J_i2l (q := 2) d_Fo_isPlace_1 rfl ?_
  refine J_ldc2 (q := 5) d_Fo_isPlace_2 g_449 rfl ?_
  refine J_ldc2 (q := 8) d_Fo_isPlace_5 g_302 rfl ?_
  refine J_callSq (rc := 0) (rs := 0) (q := 11) (as := [vl ((a1).toInt64), vl ((-32000 : Int64)), vl ((32000 : Int64))]) (st := []) g_300 (t_Fo_within rfl) (by decide) (by decide) g_299 g_301 g_1 hy_Fo_within rfl (Nat.le_of_ble_eq_true rfl) d_Fo_isPlace_8 rfl ?_
  refine J_ifB_eq (q := 14) (tgt := 32) d_Fo_isPlace_11 (by decide) rfl (fun hb => ?_) (fun hb => ?_)
  · rw [iB_f hb] at h
    refine J_iconst (q := 33) (v := (0 : Int32)) d_Fo_isPlace_32 (by decide) rfl ?_
    subst h
    exact J_zret (Or.inl rfl) rfl ⟨rfl, rfl⟩ d_Fo_isPlace_33
  · rw [iB_t hb] at h
    refine J_iload_n (q := 15) 1 d_Fo_isPlace_14 rfl rfl rfl ?_
    refine J_i2l (q := 16) d_Fo_isPlace_15 rfl ?_
    refine J_ldc2 (q := 19) d_Fo_isPlace_16 g_449 rfl ?_
    refine J_ldc2 (q := 22) d_Fo_isPlace_19 g_302 rfl ?_
    refine J_callSq (rc := 0) (rs := 0) (q := 25) (as := [vl ((a2).toInt64), vl ((-32000 : Int64)), vl ((32000 : Int64))]) (st := []) g_300 (t_Fo_within rfl) (by decide) (by decide) g_299 g_301 g_1 hy_Fo_within rfl (Nat.le_of_ble_eq_true rfl) d_Fo_isPlace_22 rfl ?_
    refine J_ifB_eq (q := 28) (tgt := 32) d_Fo_isPlace_25 (by decide) rfl (fun hb => ?_) (fun hb => ?_)
    · rw [iB_f hb] at h
      refine J_iconst (q := 33) (v := (0 : Int32)) d_Fo_isPlace_32 (by decide) rfl ?_
      subst h
      exact J_zret (Or.inl rfl) rfl ⟨rfl, rfl⟩ d_Fo_isPlace_33
    · rw [iB_t hb] at h
      refine J_iconst (q := 29) (v := (1 : Int32)) d_Fo_isPlace_28 (by decide) rfl ?_
      refine J_goto (q := 33) d_Fo_isPlace_29 (by decide) ?_
      subst h
      exact J_zret (Or.inr rfl) rfl ⟨rfl, rfl⟩ d_Fo_isPlace_33
def m_Sh_startOf (o : Nat) (a1 : Int32) (μ : Mem) : Option (Int32) :=
  if (m_Fo_within ((a1).toInt64) ((1 : Int64)) ((8 : Int64)) μ) then
 (gu (a1 - (1 : Int32)) 8 <|
  some (gI μ 305 (o) (a1 - (1 : Int32)).toNatClampNeg))
 else
 (some ((0 : Int32)))
theorem t_Sh_startOf {o : Nat} {a1 : Int32} {μ : Mem} {q : Int32} (h : m_Sh_startOf o a1 μ = some q) : JM true (1) y_Sh_startOf b_Sh_startOf 2 (some (.int)) 0 0 [vr 10 (o), vi (a1)] μ (QQ (some (vi q)) μ) := by
  unfold m_Sh_startOf at h
  refine JM.of pl_Sh_startOf (fun ρ => Nat.le_of_ble_eq_true rfl) ?_
  show J (GM true (QQ (some (vi q)) μ) (some (.int)) y_Sh_startOf.name) true b_Sh_startOf R_10 2 (1) 0 0 0 [(0, vr 10 (o)), (1, vi (a1))] [] μ
  refine J_iload_n (q := 1) 1 d_Sh_startOf_0 rfl rfl rfl ?_
  refine J_i2l (q := 2) d_Sh_startOf_1 rfl ?_
  refine J_lconst (q := 3) (v := (1 : Int64)) d_Sh_startOf_2 (by decide) rfl ?_
  refine J_ldc2 (q := 6) d_Sh_startOf_3 g_467 rfl ?_
  refine J_callSNq (rc := 0) (rs := 0) (q := 9) (as := [vl ((a1).toInt64), vl ((1 : Int64)), vl ((8 : Int64))]) (st := []) g_300 (t_Fo_within rfl) (by decide) (by decide) nn_8 g_301 g_1 hy_Fo_within rfl (Nat.le_of_ble_eq_true rfl) d_Sh_startOf_6 rfl ?_
  refine J_ifB_eq (q := 12) (tgt := 23) d_Sh_startOf_9 (by decide) rfl (fun hb => ?_) (fun hb => ?_)
  · rw [iB_f hb] at h
    refine J_iconst (q := 24) (v := (0 : Int32)) d_Sh_startOf_23 (by decide) rfl ?_
    obtain rfl := Option.some.inj h
    exact J_iret rfl ⟨rfl, rfl⟩ d_Sh_startOf_24
  · rw [iB_t hb] at h
    refine J_aload_n (q := 13) 0 d_Sh_startOf_12 rfl rfl rfl ?_
    refine J_getF (q := 16) cd_10 (by decide) ft_10_5 rfl g_337 rfl d_Sh_startOf_13 rfl ?_
    refine J_iload_n (q := 17) 1 d_Sh_startOf_16 rfl rfl rfl ?_
    refine J_iconst (q := 18) (v := (1 : Int32)) d_Sh_startOf_17 (by decide) rfl ?_
    refine J_isub (q := 19) d_Sh_startOf_18 rfl ?_
    obtain ⟨hi1, h⟩ := gu_some h
    refine J_iald (q := 20) rk_305 (by decide) hi1 d_Sh_startOf_19 rfl ?_
    refine J_goto (q := 24) d_Sh_startOf_20 (by decide) ?_
    obtain rfl := Option.some.inj h
    exact J_iret rfl ⟨rfl, rfl⟩ d_Sh_startOf_24
def m_Sh_closedPoints (o : Nat) (μ : Mem) : Option (Int32) :=
  Option.bind (m_Sh_startOf (o) (gI μ 10 (o) 6) μ) fun r1 =>
  some (r1)
theorem t_Sh_closedPoints {o : Nat} {μ : Mem} {q : Int32} (h : m_Sh_closedPoints o μ = some q) : JM true (2) y_Sh_closedPoints b_Sh_closedPoints 1 (some (.int)) 0 0 [vr 10 (o)] μ (QQ (some (vi q)) μ) := by
  unfold m_Sh_closedPoints at h
  refine JM.of pl_Sh_closedPoints (fun ρ => Nat.le_of_ble_eq_true rfl) ?_
  show J (GM true (QQ (some (vi q)) μ) (some (.int)) y_Sh_closedPoints.name) true b_Sh_closedPoints R_10 1 (2) 0 0 0 [(0, vr 10 (o))] [] μ
  refine J_aload_n (q := 1) 0 d_Sh_closedPoints_0 rfl rfl rfl ?_
  refine J_aload_n (q := 2) 0 d_Sh_closedPoints_1 rfl rfl rfl ?_
  refine J_getI (q := 5) (j := 6) cd_10 (by decide) (Or.inl rfl) g_338 rfl d_Sh_closedPoints_2 rfl ?_
  obtain ⟨r1, hr1, h⟩ := bd_some h
  refine J_callVq (rc := 0) (rs := 0) (q := 8) (as := [vi (gI μ 10 (o) 6)]) (st := []) (by decide) rfl g_464 g_465 (t_Sh_startOf hr1) (by decide) (by decide) g_463 g_466 g_12 hy_Sh_startOf rfl (Nat.le_of_ble_eq_true rfl) d_Sh_closedPoints_5 rfl ?_
  obtain rfl := Option.some.inj h
  exact J_iret rfl ⟨rfl, rfl⟩ d_Sh_closedPoints_8
def m_Sh_openPoints (o : Nat) (μ : Mem) : Option (Int32) :=
  Option.bind (m_Sh_closedPoints (o) μ) fun r1 =>
  some ((gI μ 10 (o) 8) - (r1))
theorem t_Sh_openPoints {o : Nat} {μ : Mem} {q : Int32} (h : m_Sh_openPoints o μ = some q) : JM true (3) y_Sh_openPoints b_Sh_openPoints 1 (some (.int)) 0 0 [vr 10 (o)] μ (QQ (some (vi q)) μ) := by
  unfold m_Sh_openPoints at h
  refine JM.of pl_Sh_openPoints (fun ρ => Nat.le_of_ble_eq_true rfl) ?_
  show J (GM true (QQ (some (vi q)) μ) (some (.int)) y_Sh_openPoints.name) true b_Sh_openPoints R_10 1 (3) 0 0 0 [(0, vr 10 (o))] [] μ
  refine J_aload_n (q := 1) 0 d_Sh_openPoints_0 rfl rfl rfl ?_
  refine J_getI (q := 4) (j := 8) cd_10 (by decide) (Or.inl rfl) g_344 rfl d_Sh_openPoints_1 rfl ?_
  refine J_aload_n (q := 5) 0 d_Sh_openPoints_4 rfl rfl rfl ?_
  obtain ⟨r1, hr1, h⟩ := bd_some h
  refine J_callVq (rc := 0) (rs := 0) (q := 8) (as := []) (st := [vi (gI μ 10 (o) 8)]) (by decide) rfl g_460 g_461 (t_Sh_closedPoints hr1) (by decide) (by decide) g_459 g_462 g_12 hy_Sh_closedPoints rfl (Nat.le_of_ble_eq_true rfl) d_Sh_openPoints_5 rfl ?_
  refine J_isub (q := 9) d_Sh_openPoints_8 rfl ?_
  obtain rfl := Option.some.inj h
  exact J_iret rfl ⟨rfl, rfl⟩ d_Sh_openPoints_9
def lp_Sh_add_51 (o : Nat) (a1 : Int32) (a2 : Int32) (a3 : Int32) (c_89 : Mem → Option (Int32 × Mem)) : Nat → Int32 → Mem → Option (Int32 × Mem)
  | 0, _, _ => none
  | n + 1, y4, μ =>
  if (3 : Int32) ≤ y4 then
 (c_89 μ)
 else
 (gu (y4) 3 <|
  gu (gI μ 10 (o) 8) 100 <|
  ap (sI μ 703 (3 * o + y4.toNatClampNeg) (gI μ 10 (o) 8).toNatClampNeg ((0 : Int32))) fun μ16 =>
  gu (y4) 3 <|
  gu (gI μ16 10 (o) 8) 100 <|
  ap (sI μ16 704 (3 * o + y4.toNatClampNeg) (gI μ16 10 (o) 8).toNatClampNeg ((0 : Int32))) fun μ19 =>
  ap (y4 + (1 : Int32)) fun x20 =>
  lp_Sh_add_51 o a1 a2 a3 c_89 n (x20) μ19)
theorem tl_Sh_add_51 (o : Nat) (a1 : Int32) (a2 : Int32) (a3 : Int32) {q : Int32 × Mem} {c_89 : Mem → Option (Int32 × Mem)} (hc_89 : ∀ (μ : Mem), c_89  μ = some q → J (GM true (QQ (some (vi q.1)) q.2) (some (.int)) y_Sh_add.name) true b_Sh_add R_10 5 (4) 0 0 89 [(0, vr 10 (o))] [] μ) : ∀ (n : Nat) (y4 : Int32) (μ : Mem), lp_Sh_add_51 o a1 a2 a3 c_89 n y4 μ = some q → J (GM true (QQ (some (vi q.1)) q.2) (some (.int)) y_Sh_add.name) true b_Sh_add R_10 5 (4) 0 0 51 [(0, vr 10 (o)), (4, vi (y4))] [] μ := by
  intro n
  induction n with
  | zero => intro _ _ h; cases h
  | succ n ih =>
    intro y4 μ h
    unfold lp_Sh_add_51 at h
    refine J_iload (q := 53) 1 d_Sh_add_51 rfl rfl ?_
    refine J_iconst (q := 54) (v := (3 : Int32)) d_Sh_add_53 (by decide) rfl ?_
    refine J_icmp_ge (q := 57) (tgt := 89) d_Sh_add_54 (by decide) rfl (fun hc => ?_) (fun hc => ?_)
    · rw [if_pos hc] at h
      refine J_pick [0] rfl ?_
      exact hc_89 _ h
    · rw [if_neg hc] at h
      refine J_aload_n (q := 58) 0 d_Sh_add_57 rfl rfl rfl ?_
      refine J_getF (q := 61) cd_10 (by decide) ft_10_3 rfl g_333 rfl d_Sh_add_58 rfl ?_
      refine J_iload (q := 63) 1 d_Sh_add_61 rfl rfl ?_
      obtain ⟨hi14, h⟩ := gu_some h
      refine J_ald6 (q := 64) rk_303 (by decide) hi14 d_Sh_add_63 rfl ?_
      refine J_aload_n (q := 65) 0 d_Sh_add_64 rfl rfl rfl ?_
      refine J_getI (q := 68) (j := 8) cd_10 (by decide) (Or.inl rfl) g_344 rfl d_Sh_add_65 rfl ?_
      refine J_iconst (q := 69) (v := (0 : Int32)) d_Sh_add_68 (by decide) rfl ?_
      obtain ⟨hi15, h⟩ := gu_some h
      refine J_iast (q := 70) rk_703 (by decide) hi15 d_Sh_add_69 rfl ?_
      obtain ⟨μ16, hμ16, h⟩ := ap_eq h
      refine J_nmM hμ16 ?_
      refine J_aload_n (q := 71) 0 d_Sh_add_70 rfl rfl rfl ?_
      refine J_getF (q := 74) cd_10 (by decide) ft_10_4 rfl g_335 rfl d_Sh_add_71 rfl ?_
      refine J_iload (q := 76) 1 d_Sh_add_74 rfl rfl ?_
      obtain ⟨hi17, h⟩ := gu_some h
      refine J_ald6 (q := 77) rk_304 (by decide) hi17 d_Sh_add_76 rfl ?_
      refine J_aload_n (q := 78) 0 d_Sh_add_77 rfl rfl rfl ?_
      refine J_getI (q := 81) (j := 8) cd_10 (by decide) (Or.inl rfl) g_344 rfl d_Sh_add_78 rfl ?_
      refine J_iconst (q := 82) (v := (0 : Int32)) d_Sh_add_81 (by decide) rfl ?_
      obtain ⟨hi18, h⟩ := gu_some h
      refine J_iast (q := 83) rk_704 (by decide) hi18 d_Sh_add_82 rfl ?_
      obtain ⟨μ19, hμ19, h⟩ := ap_eq h
      refine J_nmM hμ19 ?_
      obtain ⟨x20, hx20, h⟩ := ap_eq h
      refine J_iinc (q := 86) (v := x20) (lv' := [(4, vi (x20)), (0, vr 10 (o))]) 1 d_Sh_add_83 rfl (by rw [hx20]; rfl) (by decide) rfl rfl ?_
      refine J_goto (q := 51) d_Sh_add_86 (by decide) ?_
      refine J_pick [1, 0] rfl ?_
      exact ih _ _ h
def mj_Sh_add_89 (o : Nat) (a1 : Int32) (a2 : Int32) (a3 : Int32) (μ : Mem) : Option (Int32 × Mem) :=
  ap (sI μ 10 (o) 8 ((gI μ 10 (o) 8) + ((1 : Int32)))) fun μ21 =>
  Option.bind (m_Sh_openPoints (o) μ21) fun r22 =>
  some ((r22, μ21))
theorem tj_Sh_add_89 (o : Nat) (a1 : Int32) (a2 : Int32) (a3 : Int32) {q : Int32 × Mem}  (μ : Mem) (h : mj_Sh_add_89 o a1 a2 a3  μ = some q) : J (GM true (QQ (some (vi q.1)) q.2) (some (.int)) y_Sh_add.name) true b_Sh_add R_10 5 (4) 0 0 89 [(0, vr 10 (o))] [] μ := by
  unfold mj_Sh_add_89 at h
  refine J_aload_n (q := 90) 0 d_Sh_add_89 rfl rfl rfl ?_
  refine J_dupR (q := 91) d_Sh_add_90 rfl ?_
  refine J_getI (q := 94) (j := 8) cd_10 (by decide) (Or.inl rfl) g_344 rfl d_Sh_add_91 rfl ?_
  refine J_iconst (q := 95) (v := (1 : Int32)) d_Sh_add_94 (by decide) rfl ?_
  refine J_iadd (q := 96) d_Sh_add_95 rfl ?_
  refine J_putI (q := 99) (j := 8) cd_10 (by decide) rfl rfl rfl g_344 rfl d_Sh_add_96 rfl ?_
  obtain ⟨μ21, hμ21, h⟩ := ap_eq h
  refine J_nmM hμ21 ?_
  refine J_aload_n (q := 100) 0 d_Sh_add_99 rfl rfl rfl ?_
  obtain ⟨r22, hr22, h⟩ := bd_some h
  refine J_callVq (rc := 0) (rs := 0) (q := 103) (as := []) (st := []) (by decide) rfl g_456 g_457 (t_Sh_openPoints hr22) (by decide) (by decide) g_455 g_458 g_12 hy_Sh_openPoints rfl (Nat.le_of_ble_eq_true rfl) d_Sh_add_100 rfl ?_
  obtain rfl := Option.some.inj h
  exact J_iret rfl ⟨rfl, rfl⟩ d_Sh_add_103
def m_Sh_add (o : Nat) (a1 : Int32) (a2 : Int32) (a3 : Int32) (μ : Mem) : Option (Int32 × Mem) :=
  if gI μ 10 (o) 7 = 0 then
 (some (((-1 : Int32), μ)))
 else
 (if gI μ 10 (o) 8 < (100 : Int32) then
 (gu (gI μ 10 (o) 8) 100 <|
  ap (sI μ 300 (o) (gI μ 10 (o) 8).toNatClampNeg (a1)) fun μ2 =>
  gu (gI μ2 10 (o) 8) 100 <|
  ap (sI μ2 301 (o) (gI μ2 10 (o) 8).toNatClampNeg (a2)) fun μ4 =>
  gu (gI μ4 10 (o) 8) 100 <|
  ap (sI μ4 302 (o) (gI μ4 10 (o) 8).toNatClampNeg (a3)) fun μ6 =>
  lp_Sh_add_51 o a1 a2 a3 (mj_Sh_add_89 o a1 a2 a3) FU ((0 : Int32)) μ6)
 else
 (some (((-1 : Int32), μ))))
theorem t_Sh_add {o : Nat} {a1 : Int32} {a2 : Int32} {a3 : Int32} {μ : Mem} {q : Int32 × Mem} (h : m_Sh_add o a1 a2 a3 μ = some q) : JM true (4) y_Sh_add b_Sh_add 5 (some (.int)) 0 0 [vr 10 (o), vi (a1), vi (a2), vi (a3)] μ (QQ (some (vi q.1)) q.2) := by
  unfold m_Sh_add at h
  refine JM.of pl_Sh_add (fun ρ => Nat.le_of_ble_eq_true rfl) ?_
  show J (GM true (QQ (some (vi q.1)) q.2) (some (.int)) y_Sh_add.name) true b_Sh_add R_10 5 (4) 0 0 0 [(0, vr 10 (o)), (1, vi (a1)), (2, vi (a2)), (3, vi (a3))] [] μ
  refine J_aload_n (q := 1) 0 d_Sh_add_0 rfl rfl rfl ?_
  refine J_getI (q := 4) (j := 7) cd_10 (by decide) (Or.inr rfl) g_342 rfl d_Sh_add_1 rfl ?_
  refine J_if_eq (q := 7) (tgt := 16) d_Sh_add_4 (by decide) rfl (fun hc => ?_) (fun hc => ?_)
  · rw [if_pos hc] at h
    refine J_iconst (q := 17) (v := (-1 : Int32)) d_Sh_add_16 (by decide) rfl ?_
    obtain rfl := Option.some.inj h
    exact J_iret rfl ⟨rfl, rfl⟩ d_Sh_add_17
  · rw [if_neg hc] at h
    refine J_aload_n (q := 8) 0 d_Sh_add_7 rfl rfl rfl ?_
    refine J_getI (q := 11) (j := 8) cd_10 (by decide) (Or.inl rfl) g_344 rfl d_Sh_add_8 rfl ?_
    refine J_bipush (q := 13) (v := (100 : Int32)) d_Sh_add_11 (by decide) rfl ?_
    refine J_icmp_lt (q := 16) (tgt := 18) d_Sh_add_13 (by decide) rfl (fun hc => ?_) (fun hc => ?_)
    · rw [if_pos hc] at h
      refine J_aload_n (q := 19) 0 d_Sh_add_18 rfl rfl rfl ?_
      refine J_getF (q := 22) cd_10 (by decide) ft_10_0 rfl g_322 rfl d_Sh_add_19 rfl ?_
      refine J_aload_n (q := 23) 0 d_Sh_add_22 rfl rfl rfl ?_
      refine J_getI (q := 26) (j := 8) cd_10 (by decide) (Or.inl rfl) g_344 rfl d_Sh_add_23 rfl ?_
      refine J_iload_n (q := 27) 1 d_Sh_add_26 rfl rfl rfl ?_
      obtain ⟨hi1, h⟩ := gu_some h
      refine J_iast (q := 28) rk_300 (by decide) hi1 d_Sh_add_27 rfl ?_
      obtain ⟨μ2, hμ2, h⟩ := ap_eq h
      refine J_nmM hμ2 ?_
      refine J_aload_n (q := 29) 0 d_Sh_add_28 rfl rfl rfl ?_
      refine J_getF (q := 32) cd_10 (by decide) ft_10_1 rfl g_326 rfl d_Sh_add_29 rfl ?_
      refine J_aload_n (q := 33) 0 d_Sh_add_32 rfl rfl rfl ?_
      refine J_getI (q := 36) (j := 8) cd_10 (by decide) (Or.inl rfl) g_344 rfl d_Sh_add_33 rfl ?_
      refine J_iload_n (q := 37) 2 d_Sh_add_36 rfl rfl rfl ?_
      obtain ⟨hi3, h⟩ := gu_some h
      refine J_iast (q := 38) rk_301 (by decide) hi3 d_Sh_add_37 rfl ?_
      obtain ⟨μ4, hμ4, h⟩ := ap_eq h
      refine J_nmM hμ4 ?_
      refine J_aload_n (q := 39) 0 d_Sh_add_38 rfl rfl rfl ?_
      refine J_getF (q := 42) cd_10 (by decide) ft_10_2 rfl g_330 rfl d_Sh_add_39 rfl ?_
      refine J_aload_n (q := 43) 0 d_Sh_add_42 rfl rfl rfl ?_
      refine J_getI (q := 46) (j := 8) cd_10 (by decide) (Or.inl rfl) g_344 rfl d_Sh_add_43 rfl ?_
      refine J_iload_n (q := 47) 3 d_Sh_add_46 rfl rfl rfl ?_
      obtain ⟨hi5, h⟩ := gu_some h
      refine J_iast (q := 48) rk_302 (by decide) hi5 d_Sh_add_47 rfl ?_
      obtain ⟨μ6, hμ6, h⟩ := ap_eq h
      refine J_nmM hμ6 ?_
      refine J_iconst (q := 49) (v := (0 : Int32)) d_Sh_add_48 (by decide) rfl ?_
      refine J_istore (q := 51) (lv' := [(4, vi ((0 : Int32))), (0, vr 10 (o)), (1, vi (a1)), (2, vi (a2)), (3, vi (a3))]) d_Sh_add_49 (by decide) rfl rfl ?_
      refine J_pick [1, 0] rfl ?_
      exact tl_Sh_add_51 o a1 a2 a3 (fun _ h => tj_Sh_add_89 o a1 a2 a3 _ h) FU _ _ h
    · rw [if_neg hc] at h
      refine J_iconst (q := 17) (v := (-1 : Int32)) d_Sh_add_16 (by decide) rfl ?_
      obtain rfl := Option.some.inj h
      exact J_iret rfl ⟨rfl, rfl⟩ d_Sh_add_17
def m_Fo_point (a1 : Int32) (a2 : Int32) (a3 : Int32) (a4 : Int32) (μ : Mem) : Option (Int32 × Mem) :=
  Option.bind (m_Fo_letterOf (a1) μ) fun r1 =>
  oc r1
 (some (((-1 : Int32), μ)))
 fun y2 => if (m_Fo_isPlace (a2) (a3) μ) then
 (if (m_Fo_within ((a4).toInt64) ((0 : Int64)) ((2 : Int64)) μ) then
 (Option.bind (m_Sh_add (y2) (a2) (a3) (a4) μ) fun r3 =>
  ap (r3.2) fun μ4 =>
  ap (r3.1) fun x5 =>
  some ((x5, μ4)))
 else
 (some (((-1 : Int32), μ))))
 else
 (some (((-1 : Int32), μ)))
theorem t_Fo_point {a1 : Int32} {a2 : Int32} {a3 : Int32} {a4 : Int32} {μ : Mem} {q : Int32 × Mem} (h : m_Fo_point a1 a2 a3 a4 μ = some q) : JM true (5) y_Fo_point b_Fo_point 6 (some (.int)) 0 0 [vr 11 (0), vi (a1), vi (a2), vi (a3), vi (a4)] μ (QQ (some (vi q.1)) q.2) := by
  unfold m_Fo_point at h
  refine JM.of pl_Fo_point (fun ρ => Nat.le_of_ble_eq_true rfl) ?_
  show J (GM true (QQ (some (vi q.1)) q.2) (some (.int)) y_Fo_point.name) true b_Fo_point R_11 6 (5) 0 0 0 [(0, vr 11 (0)), (1, vi (a1)), (2, vi (a2)), (3, vi (a3)), (4, vi (a4))] [] μ
  refine J_aload_n (q := 1) 0 d_Fo_point_0 rfl rfl rfl ?_
  refine J_iload_n (q := 2) 1 d_Fo_point_1 rfl rfl rfl ?_
  obtain ⟨r1, hr1, h⟩ := bd_some h
  refine J_callVq (rc := 0) (rs := 0) (q := 5) (as := [vi (a1)]) (st := []) (by decide) rfl g_436 sel_Fo_letterOf (t_Fo_letterOf hr1) (by decide) (by decide) g_434 g_437 g_1 hy_Fo_letterOf rfl (Nat.le_of_ble_eq_true rfl) d_Fo_point_2 rfl ?_
  refine J_astore (q := 7) (lv' := [(5, vo 4 (r1)), (0, vr 11 (0)), (1, vi (a1)), (2, vi (a2)), (3, vi (a3)), (4, vi (a4))]) d_Fo_point_5 (by decide) rfl rfl ?_
  refine J_aload (q := 9) 0 d_Fo_point_7 rfl rfl ?_
  refine J_nullO (q := 12) (tgt := 33) d_Fo_point_9 (by decide) rfl (fun ho => ?_) (fun y2 ho => ?_)
  · subst ho
    rw [oc_none] at h
    refine J_iconst (q := 34) (v := (-1 : Int32)) d_Fo_point_33 (by decide) rfl ?_
    obtain rfl := Option.some.inj h
    exact J_iret rfl ⟨rfl, rfl⟩ d_Fo_point_34
  · subst ho
    rw [oc_some] at h
    refine J_iload_n (q := 13) 3 d_Fo_point_12 rfl rfl rfl ?_
    refine J_iload_n (q := 14) 4 d_Fo_point_13 rfl rfl rfl ?_
    refine J_callSq (rc := 0) (rs := 0) (q := 17) (as := [vi (a2), vi (a3)]) (st := []) g_447 (t_Fo_isPlace rfl) (by decide) (by decide) g_446 g_448 g_1 hy_Fo_isPlace rfl (Nat.le_of_ble_eq_true rfl) d_Fo_point_14 rfl ?_
    refine J_ifB_eq (q := 20) (tgt := 33) d_Fo_point_17 (by decide) rfl (fun hb => ?_) (fun hb => ?_)
    · rw [iB_f hb] at h
      refine J_iconst (q := 34) (v := (-1 : Int32)) d_Fo_point_33 (by decide) rfl ?_
      obtain rfl := Option.some.inj h
      exact J_iret rfl ⟨rfl, rfl⟩ d_Fo_point_34
    · rw [iB_t hb] at h
      refine J_iload (q := 22) 5 d_Fo_point_20 rfl rfl ?_
      refine J_i2l (q := 23) d_Fo_point_22 rfl ?_
      refine J_lconst (q := 24) (v := (0 : Int64)) d_Fo_point_23 (by decide) rfl ?_
      refine J_ldc2 (q := 27) d_Fo_point_24 g_450 rfl ?_
      refine J_callSq (rc := 0) (rs := 0) (q := 30) (as := [vl ((a4).toInt64), vl ((0 : Int64)), vl ((2 : Int64))]) (st := []) g_300 (t_Fo_within rfl) (by decide) (by decide) g_299 g_301 g_1 hy_Fo_within rfl (Nat.le_of_ble_eq_true rfl) d_Fo_point_27 rfl ?_
      refine J_ifB_ne (q := 33) (tgt := 35) d_Fo_point_30 (by decide) rfl (fun hb => ?_) (fun hb => ?_)
      · rw [iB_t hb] at h
        refine J_aload (q := 37) 0 d_Fo_point_35 rfl rfl ?_
        refine J_getF (q := 40) cd_4 (by decide) ft_4_2 rfl g_392 rfl d_Fo_point_37 rfl ?_
        refine J_iload_n (q := 41) 3 d_Fo_point_40 rfl rfl rfl ?_
        refine J_iload_n (q := 42) 4 d_Fo_point_41 rfl rfl rfl ?_
        refine J_iload (q := 44) 5 d_Fo_point_42 rfl rfl ?_
        obtain ⟨r3, hr3, h⟩ := bd_some h
        refine J_callVq (rc := 0) (rs := 0) (q := 47) (as := [vi (a2), vi (a3), vi (a4)]) (st := []) (by decide) rfl g_452 g_453 (t_Sh_add hr3) (by decide) (by decide) g_451 g_454 g_12 hy_Sh_add rfl (Nat.le_of_ble_eq_true rfl) d_Fo_point_44 rfl ?_
        obtain ⟨μ4, hμ4, h⟩ := ap_eq h
        refine J_nmM hμ4 ?_
        obtain ⟨x5, hx5, h⟩ := ap_eq h
        refine J_nmI hx5 ?_
        obtain rfl := Option.some.inj h
        exact J_iret rfl ⟨rfl, rfl⟩ d_Fo_point_47
      · rw [iB_f hb] at h
        refine J_iconst (q := 34) (v := (-1 : Int32)) d_Fo_point_33 (by decide) rfl ?_
        obtain rfl := Option.some.inj h
        exact J_iret rfl ⟨rfl, rfl⟩ d_Fo_point_34
def m_Sh_stateBehind (a1 : Int32) (a2 : Int32) (μ : Mem) : Int32 :=
  if a1 = 0 then
 (a2)
 else
 (if a1 = (2 : Int32) then
 (if a2 = (2 : Int32) then
 ((3 : Int32))
 else
 ((-1 : Int32)))
 else
 (if a2 = 0 then
 ((0 : Int32))
 else
 ((-1 : Int32))))
theorem t_Sh_stateBehind {a1 : Int32} {a2 : Int32} {μ : Mem} {q : Int32} (h : m_Sh_stateBehind a1 a2 μ = q) : JM true (0) y_Sh_stateBehind b_Sh_stateBehind 2 (some (.int)) 0 0 [vi (a1), vi (a2)] μ (QQ (some (vi q)) μ) := by
  unfold m_Sh_stateBehind at h
  refine JM.of pl_Sh_stateBehind (fun ρ => Nat.le_of_ble_eq_true rfl) ?_
  show J (GM true (QQ (some (vi q)) μ) (some (.int)) y_Sh_stateBehind.name) true b_Sh_stateBehind R_10 2 (0) 0 0 0 [(0, vi (a1)), (1, vi (a2))] [] μ
  refine J_iload_n (q := 1) 0 d_Sh_stateBehind_0 rfl rfl rfl ?_
  refine J_if_ne (q := 4) (tgt := 6) d_Sh_stateBehind_1 (by decide) rfl (fun hc => ?_) (fun hc => ?_)
  · rw [if_neg hc] at h
    refine J_iload_n (q := 7) 0 d_Sh_stateBehind_6 rfl rfl rfl ?_
    refine J_iconst (q := 8) (v := (2 : Int32)) d_Sh_stateBehind_7 (by decide) rfl ?_
    refine J_icmp_ne (q := 11) (tgt := 22) d_Sh_stateBehind_8 (by decide) rfl (fun hc => ?_) (fun hc => ?_)
    · rw [if_neg hc] at h
      refine J_iload_n (q := 23) 1 d_Sh_stateBehind_22 rfl rfl rfl ?_
      refine J_if_ne (q := 26) (tgt := 30) d_Sh_stateBehind_23 (by decide) rfl (fun hc => ?_) (fun hc => ?_)
      · rw [if_neg hc] at h
        refine J_iconst (q := 31) (v := (-1 : Int32)) d_Sh_stateBehind_30 (by decide) rfl ?_
        subst h
        exact J_iret rfl ⟨rfl, rfl⟩ d_Sh_stateBehind_31
      · rw [if_pos hc] at h
        refine J_iconst (q := 27) (v := (0 : Int32)) d_Sh_stateBehind_26 (by decide) rfl ?_
        refine J_goto (q := 31) d_Sh_stateBehind_27 (by decide) ?_
        subst h
        exact J_iret rfl ⟨rfl, rfl⟩ d_Sh_stateBehind_31
    · rw [if_pos hc] at h
      refine J_iload_n (q := 12) 1 d_Sh_stateBehind_11 rfl rfl rfl ?_
      refine J_iconst (q := 13) (v := (2 : Int32)) d_Sh_stateBehind_12 (by decide) rfl ?_
      refine J_icmp_ne (q := 16) (tgt := 20) d_Sh_stateBehind_13 (by decide) rfl (fun hc => ?_) (fun hc => ?_)
      · rw [if_neg hc] at h
        refine J_iconst (q := 21) (v := (-1 : Int32)) d_Sh_stateBehind_20 (by decide) rfl ?_
        subst h
        exact J_iret rfl ⟨rfl, rfl⟩ d_Sh_stateBehind_21
      · rw [if_pos hc] at h
        refine J_iconst (q := 17) (v := (3 : Int32)) d_Sh_stateBehind_16 (by decide) rfl ?_
        refine J_goto (q := 21) d_Sh_stateBehind_17 (by decide) ?_
        subst h
        exact J_iret rfl ⟨rfl, rfl⟩ d_Sh_stateBehind_21
  · rw [if_pos hc] at h
    refine J_iload_n (q := 5) 1 d_Sh_stateBehind_4 rfl rfl rfl ?_
    subst h
    exact J_iret rfl ⟨rfl, rfl⟩ d_Sh_stateBehind_5
def lp_Sh_firstBad_9 (o : Nat) (μ : Mem) (c_33 : Int32 → Int32 → Option (Int32)) (c_43 : Int32 → Int32 → Option (Int32)) : Nat → Int32 → Int32 → Int32 → Option (Int32)
  | 0, _, _, _ => none
  | n + 1, y1, y2, y3 =>
  if gI μ 10 (o) 8 ≤ y3 then
 (c_43 (y1) (y2))
 else
 (gu (y3) 100 <|
  ap ((m_Sh_stateBehind (y2) (gI μ 302 (o) y3.toNatClampNeg) μ)) fun x6 =>
  if x6 = (-1 : Int32) then
 (c_33 (y1) (y3))
 else
 (ap (y3 + (1 : Int32)) fun x7 =>
  lp_Sh_firstBad_9 o μ c_33 c_43 n (y1) (x6) (x7)))
theorem tl_Sh_firstBad_9 (o : Nat) (μ : Mem) {q : Int32} {c_33 : Int32 → Int32 → Option (Int32)} {c_43 : Int32 → Int32 → Option (Int32)} (hc_33 : ∀ (y1 : Int32) (y3 : Int32), c_33 y1 y3 = some q → J (GM true (QQ (some (vi q)) μ) (some (.int)) y_Sh_firstBad.name) true b_Sh_firstBad R_10 4 (3) 0 0 33 [(1, vi (y1)), (3, vi (y3))] [] μ) (hc_43 : ∀ (y1 : Int32) (y2 : Int32), c_43 y1 y2 = some q → J (GM true (QQ (some (vi q)) μ) (some (.int)) y_Sh_firstBad.name) true b_Sh_firstBad R_10 4 (3) 0 0 43 [(0, vr 10 (o)), (1, vi (y1)), (2, vi (y2))] [] μ) : ∀ (n : Nat) (y1 : Int32) (y2 : Int32) (y3 : Int32), lp_Sh_firstBad_9 o μ c_33 c_43 n y1 y2 y3 = some q → J (GM true (QQ (some (vi q)) μ) (some (.int)) y_Sh_firstBad.name) true b_Sh_firstBad R_10 4 (3) 0 0 9 [(0, vr 10 (o)), (1, vi (y1)), (2, vi (y2)), (3, vi (y3))] [] μ := by
  intro n
  induction n with
  | zero => intro _ _ _ h; cases h
  | succ n ih =>
    intro y1 y2 y3 h
    unfold lp_Sh_firstBad_9 at h
    refine J_iload_n (q := 10) 3 d_Sh_firstBad_9 rfl rfl rfl ?_
    refine J_aload_n (q := 11) 0 d_Sh_firstBad_10 rfl rfl rfl ?_
    refine J_getI (q := 14) (j := 8) cd_10 (by decide) (Or.inl rfl) g_344 rfl d_Sh_firstBad_11 rfl ?_
    refine J_icmp_ge (q := 17) (tgt := 43) d_Sh_firstBad_14 (by decide) rfl (fun hc => ?_) (fun hc => ?_)
    · rw [if_pos hc] at h
      refine J_pick [0, 1, 2] rfl ?_
      exact hc_43 _ _ h
    · rw [if_neg hc] at h
      refine J_iload_n (q := 18) 2 d_Sh_firstBad_17 rfl rfl rfl ?_
      refine J_aload_n (q := 19) 0 d_Sh_firstBad_18 rfl rfl rfl ?_
      refine J_getF (q := 22) cd_10 (by decide) ft_10_2 rfl g_330 rfl d_Sh_firstBad_19 rfl ?_
      refine J_iload_n (q := 23) 3 d_Sh_firstBad_22 rfl rfl rfl ?_
      obtain ⟨hi5, h⟩ := gu_some h
      refine J_iald (q := 24) rk_302 (by decide) hi5 d_Sh_firstBad_23 rfl ?_
      refine J_callSq (rc := 0) (rs := 0) (q := 27) (as := [vi (y2), vi (gI μ 302 (o) y3.toNatClampNeg)]) (st := []) g_482 (t_Sh_stateBehind rfl) (by decide) (by decide) g_481 g_483 g_12 hy_Sh_stateBehind rfl (Nat.le_of_ble_eq_true rfl) d_Sh_firstBad_24 rfl ?_
      obtain ⟨x6, hx6, h⟩ := ap_eq h
      refine J_nmI hx6 ?_
      refine J_istore_n (q := 28) (lv' := [(2, vi (x6)), (0, vr 10 (o)), (1, vi (y1)), (3, vi (y3))]) d_Sh_firstBad_27 rfl (by decide) rfl rfl ?_
      refine J_iload_n (q := 29) 0 d_Sh_firstBad_28 rfl rfl rfl ?_
      refine J_iconst (q := 30) (v := (-1 : Int32)) d_Sh_firstBad_29 (by decide) rfl ?_
      refine J_icmp_ne (q := 33) (tgt := 37) d_Sh_firstBad_30 (by decide) rfl (fun hc => ?_) (fun hc => ?_)
      · rw [if_neg hc] at h
        obtain ⟨x7, hx7, h⟩ := ap_eq h
        refine J_iinc (q := 40) (v := x7) (lv' := [(3, vi (x7)), (2, vi (x6)), (0, vr 10 (o)), (1, vi (y1))]) 3 d_Sh_firstBad_37 rfl (by rw [hx7]; rfl) (by decide) rfl rfl ?_
        refine J_goto (q := 9) d_Sh_firstBad_40 (by decide) ?_
        refine J_pick [2, 3, 1, 0] rfl ?_
        exact ih _ _ _ h
      · rw [if_pos hc] at h
        refine J_pick [2, 3] rfl ?_
        exact hc_33 _ _ h
def mj_Sh_firstBad_33 (o : Nat) (μ : Mem) (y1 : Int32) (y3 : Int32) : Option (Int32) :=
  some (y3 - y1)
theorem tj_Sh_firstBad_33 (o : Nat) (μ : Mem) {q : Int32}  (y1 : Int32) (y3 : Int32) (h : mj_Sh_firstBad_33 o μ y1 y3 = some q) : J (GM true (QQ (some (vi q)) μ) (some (.int)) y_Sh_firstBad.name) true b_Sh_firstBad R_10 4 (3) 0 0 33 [(1, vi (y1)), (3, vi (y3))] [] μ := by
  unfold mj_Sh_firstBad_33 at h
  refine J_iload_n (q := 34) 1 d_Sh_firstBad_33 rfl rfl rfl ?_
  refine J_iload_n (q := 35) 0 d_Sh_firstBad_34 rfl rfl rfl ?_
  refine J_isub (q := 36) d_Sh_firstBad_35 rfl ?_
  obtain rfl := Option.some.inj h
  exact J_iret rfl ⟨rfl, rfl⟩ d_Sh_firstBad_36
def mj_Sh_firstBad_63 (o : Nat) (μ : Mem) (y1 : Int32) (z0 : Int32) : Option (Int32) :=
  if z0 = 0 then
 (some ((-1 : Int32)))
 else
 (some ((gI μ 10 (o) 8) - (y1)))
theorem tj_Sh_firstBad_63 (o : Nat) (μ : Mem) {q : Int32}  (y1 : Int32) (z0 : Int32) (h : mj_Sh_firstBad_63 o μ y1 z0 = some q) : J (GM true (QQ (some (vi q)) μ) (some (.int)) y_Sh_firstBad.name) true b_Sh_firstBad R_10 4 (3) 0 0 63 [(0, vr 10 (o)), (1, vi (y1))] [vi (z0)] μ := by
  unfold mj_Sh_firstBad_63 at h
  refine J_istore_n (q := 64) (lv' := [(3, vi (z0)), (0, vr 10 (o)), (1, vi (y1))]) d_Sh_firstBad_63 rfl (by decide) rfl rfl ?_
  refine J_iload_n (q := 65) 0 d_Sh_firstBad_64 rfl rfl rfl ?_
  refine J_if_eq (q := 68) (tgt := 77) d_Sh_firstBad_65 (by decide) rfl (fun hc => ?_) (fun hc => ?_)
  · rw [if_pos hc] at h
    refine J_iconst (q := 78) (v := (-1 : Int32)) d_Sh_firstBad_77 (by decide) rfl ?_
    obtain rfl := Option.some.inj h
    exact J_iret rfl ⟨rfl, rfl⟩ d_Sh_firstBad_78
  · rw [if_neg hc] at h
    refine J_aload_n (q := 69) 1 d_Sh_firstBad_68 rfl rfl rfl ?_
    refine J_getI (q := 72) (j := 8) cd_10 (by decide) (Or.inl rfl) g_344 rfl d_Sh_firstBad_69 rfl ?_
    refine J_iload_n (q := 73) 2 d_Sh_firstBad_72 rfl rfl rfl ?_
    refine J_isub (q := 74) d_Sh_firstBad_73 rfl ?_
    refine J_goto (q := 78) d_Sh_firstBad_74 (by decide) ?_
    obtain rfl := Option.some.inj h
    exact J_iret rfl ⟨rfl, rfl⟩ d_Sh_firstBad_78
def mj_Sh_firstBad_58 (o : Nat) (μ : Mem) (y1 : Int32) : Option (Int32) :=
  mj_Sh_firstBad_63 o μ (y1) ((1 : Int32))
theorem tj_Sh_firstBad_58 (o : Nat) (μ : Mem) {q : Int32}  (y1 : Int32) (h : mj_Sh_firstBad_58 o μ y1 = some q) : J (GM true (QQ (some (vi q)) μ) (some (.int)) y_Sh_firstBad.name) true b_Sh_firstBad R_10 4 (3) 0 0 58 [(0, vr 10 (o)), (1, vi (y1))] [] μ := by
  unfold mj_Sh_firstBad_58 at h
  refine J_iconst (q := 59) (v := (1 : Int32)) d_Sh_firstBad_58 (by decide) rfl ?_
  refine J_goto (q := 63) d_Sh_firstBad_59 (by decide) ?_
  refine J_pick [0, 1] rfl ?_
  exact tj_Sh_firstBad_63 o μ _ _ h
def mj_Sh_firstBad_43 (o : Nat) (μ : Mem) (y1 : Int32) (y2 : Int32) : Option (Int32) :=
  if (gI μ 10 (o) 8) - (y1) < (2 : Int32) then
 (mj_Sh_firstBad_58 o μ (y1))
 else
 (if y2 = (2 : Int32) then
 (mj_Sh_firstBad_58 o μ (y1))
 else
 (mj_Sh_firstBad_63 o μ (y1) ((0 : Int32))))
theorem tj_Sh_firstBad_43 (o : Nat) (μ : Mem) {q : Int32}  (y1 : Int32) (y2 : Int32) (h : mj_Sh_firstBad_43 o μ y1 y2 = some q) : J (GM true (QQ (some (vi q)) μ) (some (.int)) y_Sh_firstBad.name) true b_Sh_firstBad R_10 4 (3) 0 0 43 [(0, vr 10 (o)), (1, vi (y1)), (2, vi (y2))] [] μ := by
  unfold mj_Sh_firstBad_43 at h
  refine J_aload_n (q := 44) 0 d_Sh_firstBad_43 rfl rfl rfl ?_
  refine J_getI (q := 47) (j := 8) cd_10 (by decide) (Or.inl rfl) g_344 rfl d_Sh_firstBad_44 rfl ?_
  refine J_iload_n (q := 48) 1 d_Sh_firstBad_47 rfl rfl rfl ?_
  refine J_isub (q := 49) d_Sh_firstBad_48 rfl ?_
  refine J_iconst (q := 50) (v := (2 : Int32)) d_Sh_firstBad_49 (by decide) rfl ?_
  refine J_icmp_lt (q := 53) (tgt := 58) d_Sh_firstBad_50 (by decide) rfl (fun hc => ?_) (fun hc => ?_)
  · rw [if_pos hc] at h
    refine J_pick [0, 1] rfl ?_
    exact tj_Sh_firstBad_58 o μ _ h
  · rw [if_neg hc] at h
    refine J_iload_n (q := 54) 2 d_Sh_firstBad_53 rfl rfl rfl ?_
    refine J_iconst (q := 55) (v := (2 : Int32)) d_Sh_firstBad_54 (by decide) rfl ?_
    refine J_icmp_ne (q := 58) (tgt := 62) d_Sh_firstBad_55 (by decide) rfl (fun hc => ?_) (fun hc => ?_)
    · rw [if_neg hc] at h
      refine J_iconst (q := 63) (v := (0 : Int32)) d_Sh_firstBad_62 (by decide) rfl ?_
      refine J_pick [0, 1] rfl ?_
      exact tj_Sh_firstBad_63 o μ _ _ h
    · rw [if_pos hc] at h
      refine J_pick [0, 1] rfl ?_
      exact tj_Sh_firstBad_58 o μ _ h
def m_Sh_firstBad (o : Nat) (μ : Mem) : Option (Int32) :=
  Option.bind (m_Sh_closedPoints (o) μ) fun r1 =>
  lp_Sh_firstBad_9 o μ (mj_Sh_firstBad_33 o μ) (mj_Sh_firstBad_43 o μ) FU (r1) ((1 : Int32)) (r1)
theorem t_Sh_firstBad {o : Nat} {μ : Mem} {q : Int32} (h : m_Sh_firstBad o μ = some q) : JM true (3) y_Sh_firstBad b_Sh_firstBad 4 (some (.int)) 0 0 [vr 10 (o)] μ (QQ (some (vi q)) μ) := by
  unfold m_Sh_firstBad at h
  refine JM.of pl_Sh_firstBad (fun ρ => Nat.le_of_ble_eq_true rfl) ?_
  show J (GM true (QQ (some (vi q)) μ) (some (.int)) y_Sh_firstBad.name) true b_Sh_firstBad R_10 4 (3) 0 0 0 [(0, vr 10 (o))] [] μ
  refine J_aload_n (q := 1) 0 d_Sh_firstBad_0 rfl rfl rfl ?_
  obtain ⟨r1, hr1, h⟩ := bd_some h
  refine J_callVq (rc := 0) (rs := 0) (q := 4) (as := []) (st := []) (by decide) rfl g_460 g_461 (t_Sh_closedPoints hr1) (by decide) (by decide) g_459 g_462 g_12 hy_Sh_closedPoints rfl (Nat.le_of_ble_eq_true rfl) d_Sh_firstBad_1 rfl ?_
  refine J_istore_n (q := 5) (lv' := [(1, vi (r1)), (0, vr 10 (o))]) d_Sh_firstBad_4 rfl (by decide) rfl rfl ?_
  refine J_iconst (q := 6) (v := (1 : Int32)) d_Sh_firstBad_5 (by decide) rfl ?_
  refine J_istore_n (q := 7) (lv' := [(2, vi ((1 : Int32))), (1, vi (r1)), (0, vr 10 (o))]) d_Sh_firstBad_6 rfl (by decide) rfl rfl ?_
  refine J_iload_n (q := 8) 1 d_Sh_firstBad_7 rfl rfl rfl ?_
  refine J_istore_n (q := 9) (lv' := [(3, vi (r1)), (2, vi ((1 : Int32))), (1, vi (r1)), (0, vr 10 (o))]) d_Sh_firstBad_8 rfl (by decide) rfl rfl ?_
  refine J_pick [3, 2, 1, 0] rfl ?_
  exact tl_Sh_firstBad_9 o μ (fun _ _ h => tj_Sh_firstBad_33 o μ _ _ h) (fun _ _ h => tj_Sh_firstBad_43 o μ _ _ h) FU _ _ _ h
def m_Sh_finish (o : Nat) (μ : Mem) : Option (Int32 × Mem) :=
  Option.bind (m_Sh_firstBad (o) μ) fun r1 =>
  if r1 = (-1 : Int32) then
 (if gI μ 10 (o) 6 < (8 : Int32) then
 (gu (gI μ 10 (o) 6) 8 <|
  ap (sI μ 305 (o) (gI μ 10 (o) 6).toNatClampNeg (gI μ 10 (o) 8)) fun μ3 =>
  ap (sI μ3 10 (o) 6 ((gI μ3 10 (o) 6) + ((1 : Int32)))) fun μ4 =>
  ap (sI μ4 10 (o) 7 ((0 : Int32))) fun μ5 =>
  some (((0 : Int32), μ5)))
 else
 (some (((-2 : Int32), μ))))
 else
 (some (((1 : Int32) + r1, μ)))
theorem t_Sh_finish {o : Nat} {μ : Mem} {q : Int32 × Mem} (h : m_Sh_finish o μ = some q) : JM true (4) y_Sh_finish b_Sh_finish 2 (some (.int)) 0 0 [vr 10 (o)] μ (QQ (some (vi q.1)) q.2) := by
  unfold m_Sh_finish at h
  refine JM.of pl_Sh_finish (fun ρ => Nat.le_of_ble_eq_true rfl) ?_
  show J (GM true (QQ (some (vi q.1)) q.2) (some (.int)) y_Sh_finish.name) true b_Sh_finish R_10 2 (4) 0 0 0 [(0, vr 10 (o))] [] μ
  refine J_aload_n (q := 1) 0 d_Sh_finish_0 rfl rfl rfl ?_
  obtain ⟨r1, hr1, h⟩ := bd_some h
  refine J_callVq (rc := 0) (rs := 0) (q := 4) (as := []) (st := []) (by decide) rfl g_479 sel_Sh_firstBad (t_Sh_firstBad hr1) (by decide) (by decide) g_477 g_480 g_12 hy_Sh_firstBad rfl (Nat.le_of_ble_eq_true rfl) d_Sh_finish_1 rfl ?_
  refine J_istore_n (q := 5) (lv' := [(1, vi (r1)), (0, vr 10 (o))]) d_Sh_finish_4 rfl (by decide) rfl rfl ?_
  refine J_iload_n (q := 6) 0 d_Sh_finish_5 rfl rfl rfl ?_
  refine J_iconst (q := 7) (v := (-1 : Int32)) d_Sh_finish_6 (by decide) rfl ?_
  refine J_icmp_eq (q := 10) (tgt := 14) d_Sh_finish_7 (by decide) rfl (fun hc => ?_) (fun hc => ?_)
  · rw [if_pos hc] at h
    refine J_aload_n (q := 15) 1 d_Sh_finish_14 rfl rfl rfl ?_
    refine J_getI (q := 18) (j := 6) cd_10 (by decide) (Or.inl rfl) g_338 rfl d_Sh_finish_15 rfl ?_
    refine J_bipush (q := 20) (v := (8 : Int32)) d_Sh_finish_18 (by decide) rfl ?_
    refine J_icmp_lt (q := 23) (tgt := 26) d_Sh_finish_20 (by decide) rfl (fun hc => ?_) (fun hc => ?_)
    · rw [if_pos hc] at h
      refine J_aload_n (q := 27) 1 d_Sh_finish_26 rfl rfl rfl ?_
      refine J_getF (q := 30) cd_10 (by decide) ft_10_5 rfl g_337 rfl d_Sh_finish_27 rfl ?_
      refine J_aload_n (q := 31) 1 d_Sh_finish_30 rfl rfl rfl ?_
      refine J_getI (q := 34) (j := 6) cd_10 (by decide) (Or.inl rfl) g_338 rfl d_Sh_finish_31 rfl ?_
      refine J_aload_n (q := 35) 1 d_Sh_finish_34 rfl rfl rfl ?_
      refine J_getI (q := 38) (j := 8) cd_10 (by decide) (Or.inl rfl) g_344 rfl d_Sh_finish_35 rfl ?_
      obtain ⟨hi2, h⟩ := gu_some h
      refine J_iast (q := 39) rk_305 (by decide) hi2 d_Sh_finish_38 rfl ?_
      obtain ⟨μ3, hμ3, h⟩ := ap_eq h
      refine J_nmM hμ3 ?_
      refine J_aload_n (q := 40) 1 d_Sh_finish_39 rfl rfl rfl ?_
      refine J_dupR (q := 41) d_Sh_finish_40 rfl ?_
      refine J_getI (q := 44) (j := 6) cd_10 (by decide) (Or.inl rfl) g_338 rfl d_Sh_finish_41 rfl ?_
      refine J_iconst (q := 45) (v := (1 : Int32)) d_Sh_finish_44 (by decide) rfl ?_
      refine J_iadd (q := 46) d_Sh_finish_45 rfl ?_
      refine J_putI (q := 49) (j := 6) cd_10 (by decide) rfl rfl rfl g_338 rfl d_Sh_finish_46 rfl ?_
      obtain ⟨μ4, hμ4, h⟩ := ap_eq h
      refine J_nmM hμ4 ?_
      refine J_aload_n (q := 50) 1 d_Sh_finish_49 rfl rfl rfl ?_
      refine J_iconst (q := 51) (v := (0 : Int32)) d_Sh_finish_50 (by decide) rfl ?_
      refine J_putZ (q := 54) (j := 7) cd_10 (by decide) rfl rfl (Or.inl rfl) rfl g_342 rfl d_Sh_finish_51 rfl ?_
      obtain ⟨μ5, hμ5, h⟩ := ap_eq h
      refine J_nmM hμ5 ?_
      refine J_iconst (q := 55) (v := (0 : Int32)) d_Sh_finish_54 (by decide) rfl ?_
      obtain rfl := Option.some.inj h
      exact J_iret rfl ⟨rfl, rfl⟩ d_Sh_finish_55
    · rw [if_neg hc] at h
      refine J_bipush (q := 25) (v := (-2 : Int32)) d_Sh_finish_23 (by decide) rfl ?_
      obtain rfl := Option.some.inj h
      exact J_iret rfl ⟨rfl, rfl⟩ d_Sh_finish_25
  · rw [if_neg hc] at h
    refine J_iconst (q := 11) (v := (1 : Int32)) d_Sh_finish_10 (by decide) rfl ?_
    refine J_iload_n (q := 12) 0 d_Sh_finish_11 rfl rfl rfl ?_
    refine J_iadd (q := 13) d_Sh_finish_12 rfl ?_
    obtain rfl := Option.some.inj h
    exact J_iret rfl ⟨rfl, rfl⟩ d_Sh_finish_13
def m_Fo_close (a1 : Int32) (μ : Mem) : Option (Int32 × Mem) :=
  Option.bind (m_Fo_letterOf (a1) μ) fun r1 =>
  oc r1
 (some (((-2 : Int32), μ)))
 fun y2 => if gI μ 10 (y2) 7 = 0 then
 (some (((-2 : Int32), μ)))
 else
 (Option.bind (m_Sh_finish (y2) μ) fun r3 =>
  ap (r3.2) fun μ4 =>
  ap (r3.1) fun x5 =>
  some ((x5, μ4)))
theorem t_Fo_close {a1 : Int32} {μ : Mem} {q : Int32 × Mem} (h : m_Fo_close a1 μ = some q) : JM true (5) y_Fo_close b_Fo_close 3 (some (.int)) 0 0 [vr 11 (0), vi (a1)] μ (QQ (some (vi q.1)) q.2) := by
  unfold m_Fo_close at h
  refine JM.of pl_Fo_close (fun ρ => Nat.le_of_ble_eq_true rfl) ?_
  show J (GM true (QQ (some (vi q.1)) q.2) (some (.int)) y_Fo_close.name) true b_Fo_close R_11 3 (5) 0 0 0 [(0, vr 11 (0)), (1, vi (a1))] [] μ
  refine J_aload_n (q := 1) 0 d_Fo_close_0 rfl rfl rfl ?_
  refine J_iload_n (q := 2) 1 d_Fo_close_1 rfl rfl rfl ?_
  obtain ⟨r1, hr1, h⟩ := bd_some h
  refine J_callVq (rc := 0) (rs := 0) (q := 5) (as := [vi (a1)]) (st := []) (by decide) rfl g_436 sel_Fo_letterOf (t_Fo_letterOf hr1) (by decide) (by decide) g_434 g_437 g_1 hy_Fo_letterOf rfl (Nat.le_of_ble_eq_true rfl) d_Fo_close_2 rfl ?_
  refine J_astore_n (q := 6) (lv' := [(2, vo 4 (r1)), (0, vr 11 (0)), (1, vi (a1))]) d_Fo_close_5 rfl (by decide) rfl rfl ?_
  refine J_aload_n (q := 7) 0 d_Fo_close_6 rfl rfl rfl ?_
  refine J_nullO (q := 10) (tgt := 20) d_Fo_close_7 (by decide) rfl (fun ho => ?_) (fun y2 ho => ?_)
  · subst ho
    rw [oc_none] at h
    refine J_bipush (q := 22) (v := (-2 : Int32)) d_Fo_close_20 (by decide) rfl ?_
    obtain rfl := Option.some.inj h
    exact J_iret rfl ⟨rfl, rfl⟩ d_Fo_close_22
  · subst ho
    rw [oc_some] at h
    refine J_aload_n (q := 11) 0 d_Fo_close_10 rfl rfl rfl ?_
    refine J_getF (q := 14) cd_4 (by decide) ft_4_2 rfl g_392 rfl d_Fo_close_11 rfl ?_
    refine J_getI (q := 17) (j := 7) cd_10 (by decide) (Or.inr rfl) g_343 rfl d_Fo_close_14 rfl ?_
    refine J_if_ne (q := 20) (tgt := 23) d_Fo_close_17 (by decide) rfl (fun hc => ?_) (fun hc => ?_)
    · rw [if_neg hc] at h
      refine J_aload_n (q := 24) 0 d_Fo_close_23 rfl rfl rfl ?_
      refine J_getF (q := 27) cd_4 (by decide) ft_4_2 rfl g_392 rfl d_Fo_close_24 rfl ?_
      obtain ⟨r3, hr3, h⟩ := bd_some h
      refine J_callVq (rc := 0) (rs := 0) (q := 30) (as := []) (st := []) (by decide) rfl g_474 g_475 (t_Sh_finish hr3) (by decide) (by decide) g_473 g_476 g_12 hy_Sh_finish rfl (Nat.le_of_ble_eq_true rfl) d_Fo_close_27 rfl ?_
      obtain ⟨μ4, hμ4, h⟩ := ap_eq h
      refine J_nmM hμ4 ?_
      obtain ⟨x5, hx5, h⟩ := ap_eq h
      refine J_nmI hx5 ?_
      obtain rfl := Option.some.inj h
      exact J_iret rfl ⟨rfl, rfl⟩ d_Fo_close_30
    · rw [if_pos hc] at h
      refine J_bipush (q := 22) (v := (-2 : Int32)) d_Fo_close_20 (by decide) rfl ?_
      obtain rfl := Option.some.inj h
      exact J_iret rfl ⟨rfl, rfl⟩ d_Fo_close_22
def mj_Sh_hasAny_14 (o : Nat) (μ : Mem) : Bool :=
  true
theorem tj_Sh_hasAny_14 (o : Nat) (μ : Mem) {q : Bool}  (h : mj_Sh_hasAny_14 o μ  = q) : J (GM true (QQ (some (vi (b2i q))) μ) (some (.boolean)) y_Sh_hasAny.name) true b_Sh_hasAny R_10 1 (0) 0 0 14 [] [] μ := by
  unfold mj_Sh_hasAny_14 at h
  refine J_iconst (q := 15) (v := (1 : Int32)) d_Sh_hasAny_14 (by decide) rfl ?_
  refine J_goto (q := 19) d_Sh_hasAny_15 (by decide) ?_
  subst h
  exact J_zret (Or.inr rfl) rfl ⟨rfl, rfl⟩ d_Sh_hasAny_19
def m_Sh_hasAny (o : Nat) (μ : Mem) : Bool :=
  if gI μ 10 (o) 7 = 0 then
 (if gI μ 10 (o) 6 ≤ 0 then
 (false)
 else
 (mj_Sh_hasAny_14 o μ ))
 else
 (mj_Sh_hasAny_14 o μ )
theorem t_Sh_hasAny {o : Nat} {μ : Mem} {q : Bool} (h : m_Sh_hasAny o μ = q) : JM true (0) y_Sh_hasAny b_Sh_hasAny 1 (some (.boolean)) 0 0 [vr 10 (o)] μ (QQ (some (vi (b2i q))) μ) := by
  unfold m_Sh_hasAny at h
  refine JM.of pl_Sh_hasAny (fun ρ => Nat.le_of_ble_eq_true rfl) ?_
  show J (GM true (QQ (some (vi (b2i q))) μ) (some (.boolean)) y_Sh_hasAny.name) true b_Sh_hasAny R_10 1 (0) 0 0 0 [(0, vr 10 (o))] [] μ
  refine J_aload_n (q := 1) 0 d_Sh_hasAny_0 rfl rfl rfl ?_
  refine J_getI (q := 4) (j := 7) cd_10 (by decide) (Or.inr rfl) g_342 rfl d_Sh_hasAny_1 rfl ?_
  refine J_if_ne (q := 7) (tgt := 14) d_Sh_hasAny_4 (by decide) rfl (fun hc => ?_) (fun hc => ?_)
  · rw [if_neg hc] at h
    refine J_pick [] rfl ?_
    exact tj_Sh_hasAny_14 o μ h
  · rw [if_pos hc] at h
    refine J_aload_n (q := 8) 0 d_Sh_hasAny_7 rfl rfl rfl ?_
    refine J_getI (q := 11) (j := 6) cd_10 (by decide) (Or.inl rfl) g_338 rfl d_Sh_hasAny_8 rfl ?_
    refine J_if_le (q := 14) (tgt := 18) d_Sh_hasAny_11 (by decide) rfl (fun hc => ?_) (fun hc => ?_)
    · rw [if_pos hc] at h
      refine J_iconst (q := 19) (v := (0 : Int32)) d_Sh_hasAny_18 (by decide) rfl ?_
      subst h
      exact J_zret (Or.inl rfl) rfl ⟨rfl, rfl⟩ d_Sh_hasAny_19
    · rw [if_neg hc] at h
      refine J_pick [] rfl ?_
      exact tj_Sh_hasAny_14 o μ h
def mj_Sh_removeLast_34 (o : Nat) (μ : Mem) : Option (Int32 × Mem) :=
  Option.bind (m_Sh_closedPoints (o) μ) fun r2 =>
  ap (sI μ 10 (o) 8 (r2)) fun μ3 =>
  some ((gI μ3 10 (o) 6, μ3))
theorem tj_Sh_removeLast_34 (o : Nat) {q : Int32 × Mem}  (μ : Mem) (h : mj_Sh_removeLast_34 o  μ = some q) : J (GM true (QQ (some (vi q.1)) q.2) (some (.int)) y_Sh_removeLast.name) true b_Sh_removeLast R_10 1 (3) 0 0 34 [(0, vr 10 (o))] [] μ := by
  unfold mj_Sh_removeLast_34 at h
  refine J_aload_n (q := 35) 0 d_Sh_removeLast_34 rfl rfl rfl ?_
  refine J_aload_n (q := 36) 0 d_Sh_removeLast_35 rfl rfl rfl ?_
  obtain ⟨r2, hr2, h⟩ := bd_some h
  refine J_callVq (rc := 0) (rs := 0) (q := 39) (as := []) (st := [vr 10 (o)]) (by decide) rfl g_460 g_461 (t_Sh_closedPoints hr2) (by decide) (by decide) g_459 g_462 g_12 hy_Sh_closedPoints rfl (Nat.le_of_ble_eq_true rfl) d_Sh_removeLast_36 rfl ?_
  refine J_putI (q := 42) (j := 8) cd_10 (by decide) rfl rfl rfl g_344 rfl d_Sh_removeLast_39 rfl ?_
  obtain ⟨μ3, hμ3, h⟩ := ap_eq h
  refine J_nmM hμ3 ?_
  refine J_aload_n (q := 43) 0 d_Sh_removeLast_42 rfl rfl rfl ?_
  refine J_getI (q := 46) (j := 6) cd_10 (by decide) (Or.inl rfl) g_338 rfl d_Sh_removeLast_43 rfl ?_
  obtain rfl := Option.some.inj h
  exact J_iret rfl ⟨rfl, rfl⟩ d_Sh_removeLast_46
def m_Sh_removeLast (o : Nat) (μ : Mem) : Option (Int32 × Mem) :=
  if (m_Sh_hasAny (o) μ) then
 (if gI μ 10 (o) 7 = 0 then
 (ap (sI μ 10 (o) 6 ((gI μ 10 (o) 6) - ((1 : Int32)))) fun μ1 =>
  mj_Sh_removeLast_34 o μ1)
 else
 (ap (sI μ 10 (o) 7 ((0 : Int32))) fun μ4 =>
  mj_Sh_removeLast_34 o μ4))
 else
 (some (((-1 : Int32), μ)))
theorem t_Sh_removeLast {o : Nat} {μ : Mem} {q : Int32 × Mem} (h : m_Sh_removeLast o μ = some q) : JM true (3) y_Sh_removeLast b_Sh_removeLast 1 (some (.int)) 0 0 [vr 10 (o)] μ (QQ (some (vi q.1)) q.2) := by
  unfold m_Sh_removeLast at h
  refine JM.of pl_Sh_removeLast (fun ρ => Nat.le_of_ble_eq_true rfl) ?_
  show J (GM true (QQ (some (vi q.1)) q.2) (some (.int)) y_Sh_removeLast.name) true b_Sh_removeLast R_10 1 (3) 0 0 0 [(0, vr 10 (o))] [] μ
  refine J_aload_n (q := 1) 0 d_Sh_removeLast_0 rfl rfl rfl ?_
  refine J_callVq (rc := 0) (rs := 0) (q := 4) (as := []) (st := []) (by decide) rfl g_493 g_494 (t_Sh_hasAny rfl) (by decide) (by decide) g_492 g_495 g_12 hy_Sh_hasAny rfl (Nat.le_of_ble_eq_true rfl) d_Sh_removeLast_1 rfl ?_
  refine J_ifB_ne (q := 7) (tgt := 9) d_Sh_removeLast_4 (by decide) rfl (fun hb => ?_) (fun hb => ?_)
  · rw [iB_t hb] at h
    refine J_aload_n (q := 10) 0 d_Sh_removeLast_9 rfl rfl rfl ?_
    refine J_getI (q := 13) (j := 7) cd_10 (by decide) (Or.inr rfl) g_342 rfl d_Sh_removeLast_10 rfl ?_
    refine J_if_eq (q := 16) (tgt := 24) d_Sh_removeLast_13 (by decide) rfl (fun hc => ?_) (fun hc => ?_)
    · rw [if_pos hc] at h
      refine J_aload_n (q := 25) 0 d_Sh_removeLast_24 rfl rfl rfl ?_
      refine J_dupR (q := 26) d_Sh_removeLast_25 rfl ?_
      refine J_getI (q := 29) (j := 6) cd_10 (by decide) (Or.inl rfl) g_338 rfl d_Sh_removeLast_26 rfl ?_
      refine J_iconst (q := 30) (v := (1 : Int32)) d_Sh_removeLast_29 (by decide) rfl ?_
      refine J_isub (q := 31) d_Sh_removeLast_30 rfl ?_
      refine J_putI (q := 34) (j := 6) cd_10 (by decide) rfl rfl rfl g_338 rfl d_Sh_removeLast_31 rfl ?_
      obtain ⟨μ1, hμ1, h⟩ := ap_eq h
      refine J_nmM hμ1 ?_
      refine J_pick [0] rfl ?_
      exact tj_Sh_removeLast_34 o _ h
    · rw [if_neg hc] at h
      refine J_aload_n (q := 17) 0 d_Sh_removeLast_16 rfl rfl rfl ?_
      refine J_iconst (q := 18) (v := (0 : Int32)) d_Sh_removeLast_17 (by decide) rfl ?_
      refine J_putZ (q := 21) (j := 7) cd_10 (by decide) rfl rfl (Or.inl rfl) rfl g_342 rfl d_Sh_removeLast_18 rfl ?_
      obtain ⟨μ4, hμ4, h⟩ := ap_eq h
      refine J_nmM hμ4 ?_
      refine J_goto (q := 34) d_Sh_removeLast_21 (by decide) ?_
      refine J_pick [0] rfl ?_
      exact tj_Sh_removeLast_34 o _ h
  · rw [iB_f hb] at h
    refine J_iconst (q := 8) (v := (-1 : Int32)) d_Sh_removeLast_7 (by decide) rfl ?_
    obtain rfl := Option.some.inj h
    exact J_iret rfl ⟨rfl, rfl⟩ d_Sh_removeLast_8
def m_Fo_drop (a1 : Int32) (μ : Mem) : Option (Int32 × Mem) :=
  Option.bind (m_Fo_letterOf (a1) μ) fun r1 =>
  oc r1
 (some (((-1 : Int32), μ)))
 fun y2 => Option.bind (m_Sh_removeLast (y2) μ) fun r3 =>
  ap (r3.2) fun μ4 =>
  ap (r3.1) fun x5 =>
  some ((x5, μ4))
theorem t_Fo_drop {a1 : Int32} {μ : Mem} {q : Int32 × Mem} (h : m_Fo_drop a1 μ = some q) : JM true (4) y_Fo_drop b_Fo_drop 3 (some (.int)) 0 0 [vr 11 (0), vi (a1)] μ (QQ (some (vi q.1)) q.2) := by
  unfold m_Fo_drop at h
  refine JM.of pl_Fo_drop (fun ρ => Nat.le_of_ble_eq_true rfl) ?_
  show J (GM true (QQ (some (vi q.1)) q.2) (some (.int)) y_Fo_drop.name) true b_Fo_drop R_11 3 (4) 0 0 0 [(0, vr 11 (0)), (1, vi (a1))] [] μ
  refine J_aload_n (q := 1) 0 d_Fo_drop_0 rfl rfl rfl ?_
  refine J_iload_n (q := 2) 1 d_Fo_drop_1 rfl rfl rfl ?_
  obtain ⟨r1, hr1, h⟩ := bd_some h
  refine J_callVq (rc := 0) (rs := 0) (q := 5) (as := [vi (a1)]) (st := []) (by decide) rfl g_436 sel_Fo_letterOf (t_Fo_letterOf hr1) (by decide) (by decide) g_434 g_437 g_1 hy_Fo_letterOf rfl (Nat.le_of_ble_eq_true rfl) d_Fo_drop_2 rfl ?_
  refine J_astore_n (q := 6) (lv' := [(2, vo 4 (r1)), (0, vr 11 (0)), (1, vi (a1))]) d_Fo_drop_5 rfl (by decide) rfl rfl ?_
  refine J_aload_n (q := 7) 0 d_Fo_drop_6 rfl rfl rfl ?_
  refine J_nonnullO (q := 10) (tgt := 14) d_Fo_drop_7 (by decide) rfl (fun y2 ho => ?_) (fun ho => ?_)
  · subst ho
    rw [oc_some] at h
    refine J_aload_n (q := 15) 0 d_Fo_drop_14 rfl rfl rfl ?_
    refine J_getF (q := 18) cd_4 (by decide) ft_4_2 rfl g_392 rfl d_Fo_drop_15 rfl ?_
    obtain ⟨r3, hr3, h⟩ := bd_some h
    refine J_callVq (rc := 0) (rs := 0) (q := 21) (as := []) (st := []) (by decide) rfl g_489 g_490 (t_Sh_removeLast hr3) (by decide) (by decide) g_488 g_491 g_12 hy_Sh_removeLast rfl (Nat.le_of_ble_eq_true rfl) d_Fo_drop_18 rfl ?_
    obtain ⟨μ4, hμ4, h⟩ := ap_eq h
    refine J_nmM hμ4 ?_
    obtain ⟨x5, hx5, h⟩ := ap_eq h
    refine J_nmI hx5 ?_
    obtain rfl := Option.some.inj h
    exact J_iret rfl ⟨rfl, rfl⟩ d_Fo_drop_21
  · subst ho
    rw [oc_none] at h
    refine J_iconst (q := 11) (v := (-1 : Int32)) d_Fo_drop_10 (by decide) rfl ?_
    refine J_goto (q := 21) d_Fo_drop_11 (by decide) ?_
    obtain rfl := Option.some.inj h
    exact J_iret rfl ⟨rfl, rfl⟩ d_Fo_drop_21
def m_Sh_hasPoint (o : Nat) (a1 : Int32) (μ : Mem) : Option (Bool) :=
  Option.bind (m_Sh_closedPoints (o) μ) fun r1 =>
  some ((m_Fo_within ((a1).toInt64) ((0 : Int64)) ((r1 - (1 : Int32)).toInt64) μ))
theorem t_Sh_hasPoint {o : Nat} {a1 : Int32} {μ : Mem} {q : Bool} (h : m_Sh_hasPoint o a1 μ = some q) : JM true (3) y_Sh_hasPoint b_Sh_hasPoint 2 (some (.boolean)) 0 0 [vr 10 (o), vi (a1)] μ (QQ (some (vi (b2i q))) μ) := by
  unfold m_Sh_hasPoint at h
  refine JM.of pl_Sh_hasPoint (fun ρ => Nat.le_of_ble_eq_true rfl) ?_
  show J (GM true (QQ (some (vi (b2i q))) μ) (some (.boolean)) y_Sh_hasPoint.name) true b_Sh_hasPoint R_10 2 (3) 0 0 0 [(0, vr 10 (o)), (1, vi (a1))] [] μ
  refine J_iload_n (q := 1) 1 d_Sh_hasPoint_0 rfl rfl rfl ?_
  refine J_i2l (q := 2) d_Sh_hasPoint_1 rfl ?_
  refine J_lconst (q := 3) (v := (0 : Int64)) d_Sh_hasPoint_2 (by decide) rfl ?_
  refine J_aload_n (q := 4) 0 d_Sh_hasPoint_3 rfl rfl rfl ?_
  obtain ⟨r1, hr1, h⟩ := bd_some h
  refine J_callVq (rc := 0) (rs := 0) (q := 7) (as := []) (st := [vl ((0 : Int64)), vl ((a1).toInt64)]) (by decide) rfl g_460 g_461 (t_Sh_closedPoints hr1) (by decide) (by decide) g_459 g_462 g_12 hy_Sh_closedPoints rfl (Nat.le_of_ble_eq_true rfl) d_Sh_hasPoint_4 rfl ?_
  refine J_iconst (q := 8) (v := (1 : Int32)) d_Sh_hasPoint_7 (by decide) rfl ?_
  refine J_isub (q := 9) d_Sh_hasPoint_8 rfl ?_
  refine J_i2l (q := 10) d_Sh_hasPoint_9 rfl ?_
  refine J_callSNq (rc := 0) (rs := 0) (q := 13) (as := [vl ((a1).toInt64), vl ((0 : Int64)), vl ((r1 - (1 : Int32)).toInt64)]) (st := []) g_300 (t_Fo_within rfl) (by decide) (by decide) nn_8 g_301 g_1 hy_Fo_within rfl (Nat.le_of_ble_eq_true rfl) d_Sh_hasPoint_10 rfl ?_
  obtain rfl := Option.some.inj h
  exact J_zret (b2i01 _) rfl ⟨rfl, rfl⟩ d_Sh_hasPoint_13
def m_Fo_move (a1 : Int32) (a2 : Int32) (a3 : Int32) (a4 : Int32) (μ : Mem) : Option (Bool × Mem) :=
  Option.bind (m_Fo_letterOf (a1) μ) fun r1 =>
  oc r1
 (some ((false, μ)))
 fun y2 => Option.bind (m_Sh_hasPoint (y2) (a2) μ) fun r3 =>
  if r3 then
 (if (m_Fo_isPlace (a3) (a4) μ) then
 (gu (a2) 100 <|
  ap (sI μ 300 (y2) a2.toNatClampNeg (a3)) fun μ5 =>
  gu (a2) 100 <|
  ap (sI μ5 301 (y2) a2.toNatClampNeg (a4)) fun μ7 =>
  some ((true, μ7)))
 else
 (some ((false, μ))))
 else
 (some ((false, μ)))
theorem t_Fo_move {a1 : Int32} {a2 : Int32} {a3 : Int32} {a4 : Int32} {μ : Mem} {q : Bool × Mem} (h : m_Fo_move a1 a2 a3 a4 μ = some q) : JM true (4) y_Fo_move b_Fo_move 6 (some (.boolean)) 0 0 [vr 11 (0), vi (a1), vi (a2), vi (a3), vi (a4)] μ (QQ (some (vi (b2i q.1))) q.2) := by
  unfold m_Fo_move at h
  refine JM.of pl_Fo_move (fun ρ => Nat.le_of_ble_eq_true rfl) ?_
  show J (GM true (QQ (some (vi (b2i q.1))) q.2) (some (.boolean)) y_Fo_move.name) true b_Fo_move R_11 6 (4) 0 0 0 [(0, vr 11 (0)), (1, vi (a1)), (2, vi (a2)), (3, vi (a3)), (4, vi (a4))] [] μ
  refine J_aload_n (q := 1) 0 d_Fo_move_0 rfl rfl rfl ?_
  refine J_iload_n (q := 2) 1 d_Fo_move_1 rfl rfl rfl ?_
  obtain ⟨r1, hr1, h⟩ := bd_some h
  refine J_callVq (rc := 0) (rs := 0) (q := 5) (as := [vi (a1)]) (st := []) (by decide) rfl g_436 sel_Fo_letterOf (t_Fo_letterOf hr1) (by decide) (by decide) g_434 g_437 g_1 hy_Fo_letterOf rfl (Nat.le_of_ble_eq_true rfl) d_Fo_move_2 rfl ?_
  refine J_astore (q := 7) (lv' := [(5, vo 4 (r1)), (0, vr 11 (0)), (1, vi (a1)), (2, vi (a2)), (3, vi (a3)), (4, vi (a4))]) d_Fo_move_5 (by decide) rfl rfl ?_
  refine J_aload (q := 9) 0 d_Fo_move_7 rfl rfl ?_
  refine J_nullO (q := 12) (tgt := 33) d_Fo_move_9 (by decide) rfl (fun ho => ?_) (fun y2 ho => ?_)
  · subst ho
    rw [oc_none] at h
    refine J_iconst (q := 34) (v := (0 : Int32)) d_Fo_move_33 (by decide) rfl ?_
    obtain rfl := Option.some.inj h
    exact J_zret (Or.inl rfl) rfl ⟨rfl, rfl⟩ d_Fo_move_34
  · subst ho
    rw [oc_some] at h
    refine J_aload (q := 14) 0 d_Fo_move_12 rfl rfl ?_
    refine J_getF (q := 17) cd_4 (by decide) ft_4_2 rfl g_392 rfl d_Fo_move_14 rfl ?_
    refine J_iload_n (q := 18) 3 d_Fo_move_17 rfl rfl rfl ?_
    obtain ⟨r3, hr3, h⟩ := bd_some h
    refine J_callVq (rc := 0) (rs := 0) (q := 21) (as := [vi (a2)]) (st := []) (by decide) rfl g_501 g_502 (t_Sh_hasPoint hr3) (by decide) (by decide) g_500 g_503 g_12 hy_Sh_hasPoint rfl (Nat.le_of_ble_eq_true rfl) d_Fo_move_18 rfl ?_
    refine J_ifB_eq (q := 24) (tgt := 33) d_Fo_move_21 (by decide) rfl (fun hb => ?_) (fun hb => ?_)
    · rw [iB_f hb] at h
      refine J_iconst (q := 34) (v := (0 : Int32)) d_Fo_move_33 (by decide) rfl ?_
      obtain rfl := Option.some.inj h
      exact J_zret (Or.inl rfl) rfl ⟨rfl, rfl⟩ d_Fo_move_34
    · rw [iB_t hb] at h
      refine J_iload_n (q := 25) 4 d_Fo_move_24 rfl rfl rfl ?_
      refine J_iload (q := 27) 5 d_Fo_move_25 rfl rfl ?_
      refine J_callSq (rc := 0) (rs := 0) (q := 30) (as := [vi (a3), vi (a4)]) (st := []) g_447 (t_Fo_isPlace rfl) (by decide) (by decide) g_446 g_448 g_1 hy_Fo_isPlace rfl (Nat.le_of_ble_eq_true rfl) d_Fo_move_27 rfl ?_
      refine J_ifB_ne (q := 33) (tgt := 35) d_Fo_move_30 (by decide) rfl (fun hb => ?_) (fun hb => ?_)
      · rw [iB_t hb] at h
        refine J_aload (q := 37) 0 d_Fo_move_35 rfl rfl ?_
        refine J_getF (q := 40) cd_4 (by decide) ft_4_2 rfl g_392 rfl d_Fo_move_37 rfl ?_
        refine J_getF (q := 43) cd_10 (by decide) ft_10_0 rfl g_325 rfl d_Fo_move_40 rfl ?_
        refine J_iload_n (q := 44) 3 d_Fo_move_43 rfl rfl rfl ?_
        refine J_iload_n (q := 45) 4 d_Fo_move_44 rfl rfl rfl ?_
        obtain ⟨hi4, h⟩ := gu_some h
        refine J_iast (q := 46) rk_300 (by decide) hi4 d_Fo_move_45 rfl ?_
        obtain ⟨μ5, hμ5, h⟩ := ap_eq h
        refine J_nmM hμ5 ?_
        refine J_aload (q := 48) 0 d_Fo_move_46 rfl rfl ?_
        refine J_getF (q := 51) cd_4 (by decide) ft_4_2 rfl g_392 rfl d_Fo_move_48 rfl ?_
        refine J_getF (q := 54) cd_10 (by decide) ft_10_1 rfl g_329 rfl d_Fo_move_51 rfl ?_
        refine J_iload_n (q := 55) 3 d_Fo_move_54 rfl rfl rfl ?_
        refine J_iload (q := 57) 5 d_Fo_move_55 rfl rfl ?_
        obtain ⟨hi6, h⟩ := gu_some h
        refine J_iast (q := 58) rk_301 (by decide) hi6 d_Fo_move_57 rfl ?_
        obtain ⟨μ7, hμ7, h⟩ := ap_eq h
        refine J_nmM hμ7 ?_
        refine J_iconst (q := 59) (v := (1 : Int32)) d_Fo_move_58 (by decide) rfl ?_
        obtain rfl := Option.some.inj h
        exact J_zret (Or.inr rfl) rfl ⟨rfl, rfl⟩ d_Fo_move_59
      · rw [iB_f hb] at h
        refine J_iconst (q := 34) (v := (0 : Int32)) d_Fo_move_33 (by decide) rfl ?_
        obtain rfl := Option.some.inj h
        exact J_zret (Or.inl rfl) rfl ⟨rfl, rfl⟩ d_Fo_move_34
def m_Sh_endOf (o : Nat) (a1 : Int32) (μ : Mem) : Option (Int32) :=
  Option.bind (m_Sh_startOf (o) (a1 + (1 : Int32)) μ) fun r1 =>
  some (r1)
theorem t_Sh_endOf {o : Nat} {a1 : Int32} {μ : Mem} {q : Int32} (h : m_Sh_endOf o a1 μ = some q) : JM true (2) y_Sh_endOf b_Sh_endOf 2 (some (.int)) 0 0 [vr 10 (o), vi (a1)] μ (QQ (some (vi q)) μ) := by
  unfold m_Sh_endOf at h
  refine JM.of pl_Sh_endOf (fun ρ => Nat.le_of_ble_eq_true rfl) ?_
  show J (GM true (QQ (some (vi q)) μ) (some (.int)) y_Sh_endOf.name) true b_Sh_endOf R_10 2 (2) 0 0 0 [(0, vr 10 (o)), (1, vi (a1))] [] μ
  refine J_aload_n (q := 1) 0 d_Sh_endOf_0 rfl rfl rfl ?_
  refine J_iload_n (q := 2) 1 d_Sh_endOf_1 rfl rfl rfl ?_
  refine J_iconst (q := 3) (v := (1 : Int32)) d_Sh_endOf_2 (by decide) rfl ?_
  refine J_iadd (q := 4) d_Sh_endOf_3 rfl ?_
  obtain ⟨r1, hr1, h⟩ := bd_some h
  refine J_callVq (rc := 0) (rs := 0) (q := 7) (as := [vi (a1 + (1 : Int32))]) (st := []) (by decide) rfl g_464 g_465 (t_Sh_startOf hr1) (by decide) (by decide) g_463 g_466 g_12 hy_Sh_startOf rfl (Nat.le_of_ble_eq_true rfl) d_Sh_endOf_4 rfl ?_
  obtain rfl := Option.some.inj h
  exact J_iret rfl ⟨rfl, rfl⟩ d_Sh_endOf_7
def m_Sh_swap (a1k : Nat) (a1l : Nat) (a1n : Nat) (a1z : Nat) (a2 : Int32) (a3 : Int32) (μ : Mem) : Option (Mem) :=
  gu (a2) a1n <|
  ap (gI μ a1k (a1l) a2.toNatClampNeg) fun x2 =>
  gu (a3) a1n <|
  gu (a2) a1n <|
  ap (sI μ a1k (a1l) a2.toNatClampNeg (gI μ a1k (a1l) a3.toNatClampNeg)) fun μ5 =>
  gu (a3) a1n <|
  ap (sI μ5 a1k (a1l) a3.toNatClampNeg (x2)) fun μ7 =>
  some μ7
theorem t_Sh_swap {a1k : Nat} {a1l : Nat} {a1n : Nat} {a1z : Nat} {a2 : Int32} {a3 : Int32} {μ : Mem} {q : Mem} (ha1 : RK a1k = (2, a1n, a1z)) (ha19 : a1k < 900) (h : m_Sh_swap a1k a1l a1n a1z a2 a3 μ = some q) : JM true (0) y_Sh_swap b_Sh_swap 4 none 0 0 [vr a1k (a1l), vi (a2), vi (a3)] μ (QQ none q) := by
  unfold m_Sh_swap at h
  refine JM.of pl_Sh_swap (fun ρ => Nat.le_of_ble_eq_true rfl) ?_
  show J (GM true (QQ none q) none y_Sh_swap.name) true b_Sh_swap R_10 4 (0) 0 0 0 [(0, vr a1k (a1l)), (1, vi (a2)), (2, vi (a3))] [] μ
  refine J_aload_n (q := 1) 0 d_Sh_swap_0 rfl rfl rfl ?_
  refine J_iload_n (q := 2) 1 d_Sh_swap_1 rfl rfl rfl ?_
  obtain ⟨hi1, h⟩ := gu_some h
  refine J_iald (q := 3) ha1 ha19 hi1 d_Sh_swap_2 rfl ?_
  obtain ⟨x2, hx2, h⟩ := ap_eq h
  refine J_nmI hx2 ?_
  refine J_istore_n (q := 4) (lv' := [(3, vi (x2)), (0, vr a1k (a1l)), (1, vi (a2)), (2, vi (a3))]) d_Sh_swap_3 rfl (by decide) rfl rfl ?_
  refine J_aload_n (q := 5) 1 d_Sh_swap_4 rfl rfl rfl ?_
  refine J_iload_n (q := 6) 2 d_Sh_swap_5 rfl rfl rfl ?_
  refine J_aload_n (q := 7) 1 d_Sh_swap_6 rfl rfl rfl ?_
  refine J_iload_n (q := 8) 3 d_Sh_swap_7 rfl rfl rfl ?_
  obtain ⟨hi3, h⟩ := gu_some h
  refine J_iald (q := 9) ha1 ha19 hi3 d_Sh_swap_8 rfl ?_
  obtain ⟨hi4, h⟩ := gu_some h
  refine J_iast (q := 10) ha1 ha19 hi4 d_Sh_swap_9 rfl ?_
  obtain ⟨μ5, hμ5, h⟩ := ap_eq h
  refine J_nmM hμ5 ?_
  refine J_aload_n (q := 11) 1 d_Sh_swap_10 rfl rfl rfl ?_
  refine J_iload_n (q := 12) 3 d_Sh_swap_11 rfl rfl rfl ?_
  refine J_iload_n (q := 13) 0 d_Sh_swap_12 rfl rfl rfl ?_
  obtain ⟨hi6, h⟩ := gu_some h
  refine J_iast (q := 14) ha1 ha19 hi6 d_Sh_swap_13 rfl ?_
  obtain ⟨μ7, hμ7, h⟩ := ap_eq h
  refine J_nmM hμ7 ?_
  obtain rfl := Option.some.inj h
  exact J_vret rfl ⟨rfl, rfl⟩ d_Sh_swap_14
def lp_Sh_exchange_29 (o : Nat) (a1 : Int32) (a2 : Int32) : Nat → Int32 → Mem → Option (Mem)
  | 0, _, _ => none
  | n + 1, y3, μ =>
  if (3 : Int32) ≤ y3 then
 (some μ)
 else
 (gu (y3) 3 <|
  Option.bind (m_Sh_swap 703 (3 * o + y3.toNatClampNeg) 100 0 (a1) (a2) μ) fun r10 =>
  gu (y3) 3 <|
  Option.bind (m_Sh_swap 704 (3 * o + y3.toNatClampNeg) 100 0 (a1) (a2) r10) fun r12 =>
  ap (y3 + (1 : Int32)) fun x13 =>
  lp_Sh_exchange_29 o a1 a2 n (x13) r12)
theorem tl_Sh_exchange_29 (o : Nat) (a1 : Int32) (a2 : Int32) {q : Mem}  : ∀ (n : Nat) (y3 : Int32) (μ : Mem), lp_Sh_exchange_29 o a1 a2 n y3 μ = some q → J (GM true (QQ none q) none y_Sh_exchange.name) true b_Sh_exchange R_10 4 (1) 0 0 29 [(0, vr 10 (o)), (1, vi (a1)), (2, vi (a2)), (3, vi (y3))] [] μ := by
  intro n
  induction n with
  | zero => intro _ _ h; cases h
  | succ n ih =>
    intro y3 μ h
    unfold lp_Sh_exchange_29 at h
    refine J_iload_n (q := 30) 3 d_Sh_exchange_29 rfl rfl rfl ?_
    refine J_iconst (q := 31) (v := (3 : Int32)) d_Sh_exchange_30 (by decide) rfl ?_
    refine J_icmp_ge (q := 34) (tgt := 62) d_Sh_exchange_31 (by decide) rfl (fun hc => ?_) (fun hc => ?_)
    · rw [if_pos hc] at h
      obtain rfl := Option.some.inj h
      exact J_vret rfl ⟨rfl, rfl⟩ d_Sh_exchange_62
    · rw [if_neg hc] at h
      refine J_aload_n (q := 35) 0 d_Sh_exchange_34 rfl rfl rfl ?_
      refine J_getF (q := 38) cd_10 (by decide) ft_10_3 rfl g_333 rfl d_Sh_exchange_35 rfl ?_
      refine J_iload_n (q := 39) 3 d_Sh_exchange_38 rfl rfl rfl ?_
      obtain ⟨hi9, h⟩ := gu_some h
      refine J_ald6 (q := 40) rk_303 (by decide) hi9 d_Sh_exchange_39 rfl ?_
      refine J_iload_n (q := 41) 1 d_Sh_exchange_40 rfl rfl rfl ?_
      refine J_iload_n (q := 42) 2 d_Sh_exchange_41 rfl rfl rfl ?_
      obtain ⟨r10, hr10, h⟩ := bd_some h
      refine J_callSv (rc := 0) (rs := 0) (q := 45) (as := [vr 703 (3 * o + y3.toNatClampNeg), vi (a1), vi (a2)]) (st := []) g_521 (t_Sh_swap rk_703 (by decide) hr10) (by decide) (by decide) g_520 g_522 g_12 hy_Sh_swap rfl (Nat.le_of_ble_eq_true rfl) d_Sh_exchange_42 rfl ?_
      refine J_aload_n (q := 46) 0 d_Sh_exchange_45 rfl rfl rfl ?_
      refine J_getF (q := 49) cd_10 (by decide) ft_10_4 rfl g_335 rfl d_Sh_exchange_46 rfl ?_
      refine J_iload_n (q := 50) 3 d_Sh_exchange_49 rfl rfl rfl ?_
      obtain ⟨hi11, h⟩ := gu_some h
      refine J_ald6 (q := 51) rk_304 (by decide) hi11 d_Sh_exchange_50 rfl ?_
      refine J_iload_n (q := 52) 1 d_Sh_exchange_51 rfl rfl rfl ?_
      refine J_iload_n (q := 53) 2 d_Sh_exchange_52 rfl rfl rfl ?_
      obtain ⟨r12, hr12, h⟩ := bd_some h
      refine J_callSv (rc := 0) (rs := 0) (q := 56) (as := [vr 704 (3 * o + y3.toNatClampNeg), vi (a1), vi (a2)]) (st := []) g_521 (t_Sh_swap rk_704 (by decide) hr12) (by decide) (by decide) g_520 g_522 g_12 hy_Sh_swap rfl (Nat.le_of_ble_eq_true rfl) d_Sh_exchange_53 rfl ?_
      obtain ⟨x13, hx13, h⟩ := ap_eq h
      refine J_iinc (q := 59) (v := x13) (lv' := [(3, vi (x13)), (0, vr 10 (o)), (1, vi (a1)), (2, vi (a2))]) 3 d_Sh_exchange_56 rfl (by rw [hx13]; rfl) (by decide) rfl rfl ?_
      refine J_goto (q := 29) d_Sh_exchange_59 (by decide) ?_
      refine J_pick [1, 2, 3, 0] rfl ?_
      exact ih _ _ h
def m_Sh_exchange (o : Nat) (a1 : Int32) (a2 : Int32) (μ : Mem) : Option (Mem) :=
  Option.bind (m_Sh_swap 300 (o) 100 0 (a1) (a2) μ) fun r1 =>
  Option.bind (m_Sh_swap 301 (o) 100 0 (a1) (a2) r1) fun r2 =>
  Option.bind (m_Sh_swap 302 (o) 100 0 (a1) (a2) r2) fun r3 =>
  lp_Sh_exchange_29 o a1 a2 FU ((0 : Int32)) r3
theorem t_Sh_exchange {o : Nat} {a1 : Int32} {a2 : Int32} {μ : Mem} {q : Mem} (h : m_Sh_exchange o a1 a2 μ = some q) : JM true (1) y_Sh_exchange b_Sh_exchange 4 none 0 0 [vr 10 (o), vi (a1), vi (a2)] μ (QQ none q) := by
  unfold m_Sh_exchange at h
  refine JM.of pl_Sh_exchange (fun ρ => Nat.le_of_ble_eq_true rfl) ?_
  show J (GM true (QQ none q) none y_Sh_exchange.name) true b_Sh_exchange R_10 4 (1) 0 0 0 [(0, vr 10 (o)), (1, vi (a1)), (2, vi (a2))] [] μ
  refine J_aload_n (q := 1) 0 d_Sh_exchange_0 rfl rfl rfl ?_
  refine J_getF (q := 4) cd_10 (by decide) ft_10_0 rfl g_322 rfl d_Sh_exchange_1 rfl ?_
  refine J_iload_n (q := 5) 1 d_Sh_exchange_4 rfl rfl rfl ?_
  refine J_iload_n (q := 6) 2 d_Sh_exchange_5 rfl rfl rfl ?_
  obtain ⟨r1, hr1, h⟩ := bd_some h
  refine J_callSv (rc := 0) (rs := 0) (q := 9) (as := [vr 300 (o), vi (a1), vi (a2)]) (st := []) g_521 (t_Sh_swap rk_300 (by decide) hr1) (by decide) (by decide) g_520 g_522 g_12 hy_Sh_swap rfl (Nat.le_of_ble_eq_true rfl) d_Sh_exchange_6 rfl ?_
  refine J_aload_n (q := 10) 0 d_Sh_exchange_9 rfl rfl rfl ?_
  refine J_getF (q := 13) cd_10 (by decide) ft_10_1 rfl g_326 rfl d_Sh_exchange_10 rfl ?_
  refine J_iload_n (q := 14) 1 d_Sh_exchange_13 rfl rfl rfl ?_
  refine J_iload_n (q := 15) 2 d_Sh_exchange_14 rfl rfl rfl ?_
  obtain ⟨r2, hr2, h⟩ := bd_some h
  refine J_callSv (rc := 0) (rs := 0) (q := 18) (as := [vr 301 (o), vi (a1), vi (a2)]) (st := []) g_521 (t_Sh_swap rk_301 (by decide) hr2) (by decide) (by decide) g_520 g_522 g_12 hy_Sh_swap rfl (Nat.le_of_ble_eq_true rfl) d_Sh_exchange_15 rfl ?_
  refine J_aload_n (q := 19) 0 d_Sh_exchange_18 rfl rfl rfl ?_
  refine J_getF (q := 22) cd_10 (by decide) ft_10_2 rfl g_330 rfl d_Sh_exchange_19 rfl ?_
  refine J_iload_n (q := 23) 1 d_Sh_exchange_22 rfl rfl rfl ?_
  refine J_iload_n (q := 24) 2 d_Sh_exchange_23 rfl rfl rfl ?_
  obtain ⟨r3, hr3, h⟩ := bd_some h
  refine J_callSv (rc := 0) (rs := 0) (q := 27) (as := [vr 302 (o), vi (a1), vi (a2)]) (st := []) g_521 (t_Sh_swap rk_302 (by decide) hr3) (by decide) (by decide) g_520 g_522 g_12 hy_Sh_swap rfl (Nat.le_of_ble_eq_true rfl) d_Sh_exchange_24 rfl ?_
  refine J_iconst (q := 28) (v := (0 : Int32)) d_Sh_exchange_27 (by decide) rfl ?_
  refine J_istore_n (q := 29) (lv' := [(3, vi ((0 : Int32))), (0, vr 10 (o)), (1, vi (a1)), (2, vi (a2))]) d_Sh_exchange_28 rfl (by decide) rfl rfl ?_
  refine J_pick [1, 2, 3, 0] rfl ?_
  exact tl_Sh_exchange_29 o a1 a2 FU _ _ h
def lp_Sh_turn_16 (o : Nat) (a1 : Int32) : Nat → Int32 → Int32 → Mem → Option (Mem)
  | 0, _, _, _ => none
  | n + 1, y2, y3, μ =>
  if y3 ≤ y2 then
 (some μ)
 else
 (Option.bind (m_Sh_exchange (o) (y2) (y3) μ) fun r8 =>
  ap (y2 + (1 : Int32)) fun x9 =>
  ap (y3 + (-1 : Int32)) fun x10 =>
  lp_Sh_turn_16 o a1 n (x9) (x10) r8)
theorem tl_Sh_turn_16 (o : Nat) (a1 : Int32) {q : Mem}  : ∀ (n : Nat) (y2 : Int32) (y3 : Int32) (μ : Mem), lp_Sh_turn_16 o a1 n y2 y3 μ = some q → J (GM true (QQ none q) none y_Sh_turn.name) true b_Sh_turn R_10 4 (3) 0 0 16 [(0, vr 10 (o)), (2, vi (y2)), (3, vi (y3))] [] μ := by
  intro n
  induction n with
  | zero => intro _ _ _ h; cases h
  | succ n ih =>
    intro y2 y3 μ h
    unfold lp_Sh_turn_16 at h
    refine J_iload_n (q := 17) 1 d_Sh_turn_16 rfl rfl rfl ?_
    refine J_iload_n (q := 18) 2 d_Sh_turn_17 rfl rfl rfl ?_
    refine J_icmp_ge (q := 21) (tgt := 36) d_Sh_turn_18 (by decide) rfl (fun hc => ?_) (fun hc => ?_)
    · rw [if_pos hc] at h
      obtain rfl := Option.some.inj h
      exact J_vret rfl ⟨rfl, rfl⟩ d_Sh_turn_36
    · rw [if_neg hc] at h
      refine J_aload_n (q := 22) 0 d_Sh_turn_21 rfl rfl rfl ?_
      refine J_iload_n (q := 23) 1 d_Sh_turn_22 rfl rfl rfl ?_
      refine J_iload_n (q := 24) 2 d_Sh_turn_23 rfl rfl rfl ?_
      obtain ⟨r8, hr8, h⟩ := bd_some h
      refine J_callVv (rc := 0) (rs := 0) (q := 27) (as := [vi (y2), vi (y3)]) (st := []) (by decide) rfl g_518 sel_Sh_exchange (t_Sh_exchange hr8) (by decide) (by decide) g_516 g_519 g_12 hy_Sh_exchange rfl (Nat.le_of_ble_eq_true rfl) d_Sh_turn_24 rfl ?_
      obtain ⟨x9, hx9, h⟩ := ap_eq h
      refine J_iinc (q := 30) (v := x9) (lv' := [(2, vi (x9)), (0, vr 10 (o)), (3, vi (y3))]) 1 d_Sh_turn_27 rfl (by rw [hx9]; rfl) (by decide) rfl rfl ?_
      obtain ⟨x10, hx10, h⟩ := ap_eq h
      refine J_iinc (q := 33) (v := x10) (lv' := [(3, vi (x10)), (2, vi (x9)), (0, vr 10 (o))]) 2 d_Sh_turn_30 rfl (by rw [hx10]; rfl) (by decide) rfl rfl ?_
      refine J_goto (q := 16) d_Sh_turn_33 (by decide) ?_
      refine J_pick [2, 1, 0] rfl ?_
      exact ih _ _ _ h
def m_Sh_turn (o : Nat) (a1 : Int32) (μ : Mem) : Option (Mem) :=
  Option.bind (m_Sh_startOf (o) (a1) μ) fun r1 =>
  ap (r1 + (1 : Int32)) fun x2 =>
  Option.bind (m_Sh_endOf (o) (a1) μ) fun r3 =>
  ap (r3 - (1 : Int32)) fun x4 =>
  lp_Sh_turn_16 o a1 FU (x2) (x4) μ
theorem t_Sh_turn {o : Nat} {a1 : Int32} {μ : Mem} {q : Mem} (h : m_Sh_turn o a1 μ = some q) : JM true (3) y_Sh_turn b_Sh_turn 4 none 0 0 [vr 10 (o), vi (a1)] μ (QQ none q) := by
  unfold m_Sh_turn at h
  refine JM.of pl_Sh_turn (fun ρ => Nat.le_of_ble_eq_true rfl) ?_
  show J (GM true (QQ none q) none y_Sh_turn.name) true b_Sh_turn R_10 4 (3) 0 0 0 [(0, vr 10 (o)), (1, vi (a1))] [] μ
  refine J_aload_n (q := 1) 0 d_Sh_turn_0 rfl rfl rfl ?_
  refine J_iload_n (q := 2) 1 d_Sh_turn_1 rfl rfl rfl ?_
  obtain ⟨r1, hr1, h⟩ := bd_some h
  refine J_callVq (rc := 0) (rs := 0) (q := 5) (as := [vi (a1)]) (st := []) (by decide) rfl g_464 g_465 (t_Sh_startOf hr1) (by decide) (by decide) g_463 g_466 g_12 hy_Sh_startOf rfl (Nat.le_of_ble_eq_true rfl) d_Sh_turn_2 rfl ?_
  refine J_iconst (q := 6) (v := (1 : Int32)) d_Sh_turn_5 (by decide) rfl ?_
  refine J_iadd (q := 7) d_Sh_turn_6 rfl ?_
  obtain ⟨x2, hx2, h⟩ := ap_eq h
  refine J_nmI hx2 ?_
  refine J_istore_n (q := 8) (lv' := [(2, vi (x2)), (0, vr 10 (o)), (1, vi (a1))]) d_Sh_turn_7 rfl (by decide) rfl rfl ?_
  refine J_aload_n (q := 9) 1 d_Sh_turn_8 rfl rfl rfl ?_
  refine J_iload_n (q := 10) 2 d_Sh_turn_9 rfl rfl rfl ?_
  obtain ⟨r3, hr3, h⟩ := bd_some h
  refine J_callVq (rc := 0) (rs := 0) (q := 13) (as := [vi (a1)]) (st := []) (by decide) rfl g_513 g_514 (t_Sh_endOf hr3) (by decide) (by decide) g_512 g_515 g_12 hy_Sh_endOf rfl (Nat.le_of_ble_eq_true rfl) d_Sh_turn_10 rfl ?_
  refine J_iconst (q := 14) (v := (1 : Int32)) d_Sh_turn_13 (by decide) rfl ?_
  refine J_isub (q := 15) d_Sh_turn_14 rfl ?_
  obtain ⟨x4, hx4, h⟩ := ap_eq h
  refine J_nmI hx4 ?_
  refine J_istore_n (q := 16) (lv' := [(3, vi (x4)), (2, vi (x2)), (0, vr 10 (o)), (1, vi (a1))]) d_Sh_turn_15 rfl (by decide) rfl rfl ?_
  refine J_pick [2, 1, 0] rfl ?_
  exact tl_Sh_turn_16 o a1 FU _ _ _ h
def m_Fo_reverse (a1 : Int32) (a2 : Int32) (μ : Mem) : Option (Bool × Mem) :=
  Option.bind (m_Fo_letterOf (a1) μ) fun r1 =>
  oc r1
 (some ((false, μ)))
 fun y2 => if (m_Fo_within ((a2).toInt64) ((0 : Int64)) (((gI μ 10 (y2) 6) - ((1 : Int32))).toInt64) μ) then
 (Option.bind (m_Sh_turn (y2) (a2) μ) fun r3 =>
  some ((true, r3)))
 else
 (some ((false, μ)))
theorem t_Fo_reverse {a1 : Int32} {a2 : Int32} {μ : Mem} {q : Bool × Mem} (h : m_Fo_reverse a1 a2 μ = some q) : JM true (4) y_Fo_reverse b_Fo_reverse 4 (some (.boolean)) 0 0 [vr 11 (0), vi (a1), vi (a2)] μ (QQ (some (vi (b2i q.1))) q.2) := by
  unfold m_Fo_reverse at h
  refine JM.of pl_Fo_reverse (fun ρ => Nat.le_of_ble_eq_true rfl) ?_
  show J (GM true (QQ (some (vi (b2i q.1))) q.2) (some (.boolean)) y_Fo_reverse.name) true b_Fo_reverse R_11 4 (4) 0 0 0 [(0, vr 11 (0)), (1, vi (a1)), (2, vi (a2))] [] μ
  refine J_aload_n (q := 1) 0 d_Fo_reverse_0 rfl rfl rfl ?_
  refine J_iload_n (q := 2) 1 d_Fo_reverse_1 rfl rfl rfl ?_
  obtain ⟨r1, hr1, h⟩ := bd_some h
  refine J_callVq (rc := 0) (rs := 0) (q := 5) (as := [vi (a1)]) (st := []) (by decide) rfl g_436 sel_Fo_letterOf (t_Fo_letterOf hr1) (by decide) (by decide) g_434 g_437 g_1 hy_Fo_letterOf rfl (Nat.le_of_ble_eq_true rfl) d_Fo_reverse_2 rfl ?_
  refine J_astore_n (q := 6) (lv' := [(3, vo 4 (r1)), (0, vr 11 (0)), (1, vi (a1)), (2, vi (a2))]) d_Fo_reverse_5 rfl (by decide) rfl rfl ?_
  refine J_aload_n (q := 7) 0 d_Fo_reverse_6 rfl rfl rfl ?_
  refine J_nullO (q := 10) (tgt := 29) d_Fo_reverse_7 (by decide) rfl (fun ho => ?_) (fun y2 ho => ?_)
  · subst ho
    rw [oc_none] at h
    refine J_iconst (q := 30) (v := (0 : Int32)) d_Fo_reverse_29 (by decide) rfl ?_
    obtain rfl := Option.some.inj h
    exact J_zret (Or.inl rfl) rfl ⟨rfl, rfl⟩ d_Fo_reverse_30
  · subst ho
    rw [oc_some] at h
    refine J_iload_n (q := 11) 3 d_Fo_reverse_10 rfl rfl rfl ?_
    refine J_i2l (q := 12) d_Fo_reverse_11 rfl ?_
    refine J_lconst (q := 13) (v := (0 : Int64)) d_Fo_reverse_12 (by decide) rfl ?_
    refine J_aload_n (q := 14) 0 d_Fo_reverse_13 rfl rfl rfl ?_
    refine J_getF (q := 17) cd_4 (by decide) ft_4_2 rfl g_392 rfl d_Fo_reverse_14 rfl ?_
    refine J_getI (q := 20) (j := 6) cd_10 (by decide) (Or.inl rfl) g_341 rfl d_Fo_reverse_17 rfl ?_
    refine J_iconst (q := 21) (v := (1 : Int32)) d_Fo_reverse_20 (by decide) rfl ?_
    refine J_isub (q := 22) d_Fo_reverse_21 rfl ?_
    refine J_i2l (q := 23) d_Fo_reverse_22 rfl ?_
    refine J_callSq (rc := 0) (rs := 0) (q := 26) (as := [vl ((a2).toInt64), vl ((0 : Int64)), vl (((gI μ 10 (y2) 6) - ((1 : Int32))).toInt64)]) (st := []) g_300 (t_Fo_within rfl) (by decide) (by decide) g_299 g_301 g_1 hy_Fo_within rfl (Nat.le_of_ble_eq_true rfl) d_Fo_reverse_23 rfl ?_
    refine J_ifB_ne (q := 29) (tgt := 31) d_Fo_reverse_26 (by decide) rfl (fun hb => ?_) (fun hb => ?_)
    · rw [iB_t hb] at h
      refine J_aload_n (q := 32) 0 d_Fo_reverse_31 rfl rfl rfl ?_
      refine J_getF (q := 35) cd_4 (by decide) ft_4_2 rfl g_392 rfl d_Fo_reverse_32 rfl ?_
      refine J_iload_n (q := 36) 3 d_Fo_reverse_35 rfl rfl rfl ?_
      obtain ⟨r3, hr3, h⟩ := bd_some h
      refine J_callVv (rc := 0) (rs := 0) (q := 39) (as := [vi (a2)]) (st := []) (by decide) rfl g_509 g_510 (t_Sh_turn hr3) (by decide) (by decide) g_508 g_511 g_12 hy_Sh_turn rfl (Nat.le_of_ble_eq_true rfl) d_Fo_reverse_36 rfl ?_
      refine J_iconst (q := 40) (v := (1 : Int32)) d_Fo_reverse_39 (by decide) rfl ?_
      obtain rfl := Option.some.inj h
      exact J_zret (Or.inr rfl) rfl ⟨rfl, rfl⟩ d_Fo_reverse_40
    · rw [iB_f hb] at h
      refine J_iconst (q := 30) (v := (0 : Int32)) d_Fo_reverse_29 (by decide) rfl ?_
      obtain rfl := Option.some.inj h
      exact J_zret (Or.inl rfl) rfl ⟨rfl, rfl⟩ d_Fo_reverse_30
