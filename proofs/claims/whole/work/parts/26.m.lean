def m_Fo_run (a1 : Int32) (a2 : Int32) (μ : Mem) : Option (Int32 × Mem) :=
  Option.bind (m_Fo_letterOf (a1) μ) fun r1 =>
  oc r1
 (some (((-1 : Int32), μ)))
 fun y2 => if 0 < gI μ 4 (y2) 5 then
 (some (((-1 : Int32), μ)))
 else
 (if (m_Fo_isDots (a2) μ) then
 (ap (gR μ 11 (0) 8) fun o3 =>
  Option.bind o3 fun y4 =>
  Option.bind (m_Fit_start (y4) (y2) (a2) μ) fun r5 =>
  ap (gR r5 11 (0) 8) fun o6 =>
  Option.bind o6 fun y7 =>
  Option.bind (m_Ru_perform (y2) (y7) r5) fun r8 =>
  ap (r8.2) fun μ9 =>
  ap (r8.1) fun x10 =>
  if x10 = 0 then
 (ap (gR μ9 11 (0) 7) fun o11 =>
  ap (gR μ9 11 (0) 8) fun o12 =>
  ap (sR μ9 11 (0) 7 (o12)) fun μ13 =>
  ap (sR μ13 11 (0) 8 (o11)) fun μ14 =>
  some ((x10, μ14)))
 else
 (some ((x10, μ9))))
 else
 (some (((-1 : Int32), μ))))
theorem t_Fo_run {a1 : Int32} {a2 : Int32} {μ : Mem} {q : Int32 × Mem} (h : m_Fo_run a1 a2 μ = some q) : JM true (7) y_Fo_run b_Fo_run 6 (some (.int)) 0 0 [vr 11 (0), vi (a1), vi (a2)] μ (QQ (some (vi q.1)) q.2) := by
  unfold m_Fo_run at h
  refine JM.of pl_Fo_run (fun ρ => Nat.le_of_ble_eq_true rfl) ?_
  show J (GM true (QQ (some (vi q.1)) q.2) (some (.int)) y_Fo_run.name) true b_Fo_run R_11 6 (7) 0 0 0 [(0, vr 11 (0)), (1, vi (a1)), (2, vi (a2))] [] μ
  refine J_aload_n (q := 1) 0 d_Fo_run_0 rfl rfl rfl ?_
  refine J_iload_n (q := 2) 1 d_Fo_run_1 rfl rfl rfl ?_
  obtain ⟨r1, hr1, h⟩ := bd_some h
  refine J_callVq (rc := 0) (rs := 0) (q := 5) (as := [vi (a1)]) (st := []) (by decide) rfl g_436 sel_Fo_letterOf (t_Fo_letterOf hr1) (by decide) (by decide) g_434 g_437 g_1 hy_Fo_letterOf rfl (Nat.le_of_ble_eq_true rfl) d_Fo_run_2 rfl ?_
  refine J_astore_n (q := 6) (lv' := [(3, vo 4 (r1)), (0, vr 11 (0)), (1, vi (a1)), (2, vi (a2))]) d_Fo_run_5 rfl (by decide) rfl rfl ?_
  refine J_aload_n (q := 7) 0 d_Fo_run_6 rfl rfl rfl ?_
  refine J_nullO (q := 10) (tgt := 24) d_Fo_run_7 (by decide) rfl (fun ho => ?_) (fun y2 ho => ?_)
  · subst ho
    rw [oc_none] at h
    refine J_iconst (q := 25) (v := (-1 : Int32)) d_Fo_run_24 (by decide) rfl ?_
    obtain rfl := Option.some.inj h
    exact J_iret rfl ⟨rfl, rfl⟩ d_Fo_run_25
  · subst ho
    rw [oc_some] at h
    refine J_aload_n (q := 11) 0 d_Fo_run_10 rfl rfl rfl ?_
    refine J_getI (q := 14) (j := 5) cd_4 (by decide) (Or.inl rfl) g_399 rfl d_Fo_run_11 rfl ?_
    refine J_if_gt (q := 17) (tgt := 24) d_Fo_run_14 (by decide) rfl (fun hc => ?_) (fun hc => ?_)
    · rw [if_pos hc] at h
      refine J_iconst (q := 25) (v := (-1 : Int32)) d_Fo_run_24 (by decide) rfl ?_
      obtain rfl := Option.some.inj h
      exact J_iret rfl ⟨rfl, rfl⟩ d_Fo_run_25
    · rw [if_neg hc] at h
      refine J_iload_n (q := 18) 3 d_Fo_run_17 rfl rfl rfl ?_
      refine J_callSq (rc := 0) (rs := 0) (q := 21) (as := [vi (a2)]) (st := []) g_736 (t_Fo_isDots rfl) (by decide) (by decide) g_735 g_737 g_1 hy_Fo_isDots rfl (Nat.le_of_ble_eq_true rfl) d_Fo_run_18 rfl ?_
      refine J_ifB_ne (q := 24) (tgt := 26) d_Fo_run_21 (by decide) rfl (fun hb => ?_) (fun hb => ?_)
      · rw [iB_t hb] at h
        refine J_aload_n (q := 27) 1 d_Fo_run_26 rfl rfl rfl ?_
        refine J_getR (q := 30) cd_11 (by decide) ft_11_8 g_262 rfl d_Fo_run_27 rfl ?_
        obtain ⟨o3, ho3, h⟩ := ap_eq h
        refine J_nmO ho3 ?_
        refine J_aload_n (q := 31) 0 d_Fo_run_30 rfl rfl rfl ?_
        refine J_getF (q := 34) cd_4 (by decide) ft_4_2 rfl g_392 rfl d_Fo_run_31 rfl ?_
        refine J_iload_n (q := 35) 3 d_Fo_run_34 rfl rfl rfl ?_
        replace h := bd_some h
        obtain ⟨y4, hy4, h⟩ := h
        subst hy4
        obtain ⟨r5, hr5, h⟩ := bd_some h
        refine J_callVv (rc := 0) (rs := 0) (q := 38) (as := [vr 10 (y2), vi (a2)]) (st := []) (by decide) rfl g_828 g_829 (t_Fit_start hr5) (by decide) (by decide) g_827 g_830 g_6 hy_Fit_start rfl (Nat.le_of_ble_eq_true rfl) d_Fo_run_35 rfl ?_
        refine J_aload_n (q := 39) 1 d_Fo_run_38 rfl rfl rfl ?_
        refine J_getF (q := 42) cd_11 (by decide) ft_11_6 rfl g_260 rfl d_Fo_run_39 rfl ?_
        refine J_aload_n (q := 43) 0 d_Fo_run_42 rfl rfl rfl ?_
        refine J_getF (q := 46) cd_4 (by decide) ft_4_3 rfl g_394 rfl d_Fo_run_43 rfl ?_
        refine J_aload_n (q := 47) 1 d_Fo_run_46 rfl rfl rfl ?_
        refine J_getR (q := 50) cd_11 (by decide) ft_11_8 g_262 rfl d_Fo_run_47 rfl ?_
        obtain ⟨o6, ho6, h⟩ := ap_eq h
        refine J_nmO ho6 ?_
        replace h := bd_some h
        obtain ⟨y7, hy7, h⟩ := h
        subst hy7
        obtain ⟨r8, hr8, h⟩ := bd_some h
        refine J_callVq (rc := 0) (rs := 0) (q := 53) (as := [vr 8 (y2), vr 0 (y7)]) (st := []) (by decide) rfl g_837 g_838 (t_Ru_perform hr8) (by decide) (by decide) g_836 g_839 g_5 hy_Ru_perform rfl (Nat.le_of_ble_eq_true rfl) d_Fo_run_50 rfl ?_
        obtain ⟨μ9, hμ9, h⟩ := ap_eq h
        refine J_nmM hμ9 ?_
        obtain ⟨x10, hx10, h⟩ := ap_eq h
        refine J_nmI hx10 ?_
        refine J_istore (q := 55) (lv' := [(4, vi (x10)), (3, vr 4 (y2)), (0, vr 11 (0)), (1, vi (a1)), (2, vi (a2))]) d_Fo_run_53 (by decide) rfl rfl ?_
        refine J_iload (q := 57) 0 d_Fo_run_55 rfl rfl ?_
        refine J_if_ne (q := 60) (tgt := 80) d_Fo_run_57 (by decide) rfl (fun hc => ?_) (fun hc => ?_)
        · rw [if_neg hc] at h
          refine J_iload (q := 82) 0 d_Fo_run_80 rfl rfl ?_
          obtain rfl := Option.some.inj h
          exact J_iret rfl ⟨rfl, rfl⟩ d_Fo_run_82
        · rw [if_pos hc] at h
          refine J_aload_n (q := 61) 2 d_Fo_run_60 rfl rfl rfl ?_
          refine J_getR (q := 64) cd_11 (by decide) ft_11_7 g_261 rfl d_Fo_run_61 rfl ?_
          obtain ⟨o11, ho11, h⟩ := ap_eq h
          refine J_nmO ho11 ?_
          refine J_astore (q := 66) (lv' := [(5, vo 0 (o11)), (4, vi (x10)), (3, vr 4 (y2)), (0, vr 11 (0)), (1, vi (a1)), (2, vi (a2))]) d_Fo_run_64 (by decide) rfl rfl ?_
          refine J_aload_n (q := 67) 3 d_Fo_run_66 rfl rfl rfl ?_
          refine J_aload_n (q := 68) 3 d_Fo_run_67 rfl rfl rfl ?_
          refine J_getR (q := 71) cd_11 (by decide) ft_11_8 g_262 rfl d_Fo_run_68 rfl ?_
          obtain ⟨o12, ho12, h⟩ := ap_eq h
          refine J_nmO ho12 ?_
          refine J_putR (q := 74) (r := 0) (x := o12) cd_11 (by decide) ft_11_7 (by decide) rfl rfl (Or.inl ⟨_, rfl⟩) rfl g_261 rfl d_Fo_run_71 rfl ?_
          obtain ⟨μ13, hμ13, h⟩ := ap_eq h
          refine J_nmM hμ13 ?_
          refine J_aload_n (q := 75) 3 d_Fo_run_74 rfl rfl rfl ?_
          refine J_aload (q := 77) 0 d_Fo_run_75 rfl rfl ?_
          refine J_putR (q := 80) (r := 0) (x := o11) cd_11 (by decide) ft_11_8 (by decide) rfl rfl (Or.inl ⟨_, rfl⟩) rfl g_262 rfl d_Fo_run_77 rfl ?_
          obtain ⟨μ14, hμ14, h⟩ := ap_eq h
          refine J_nmM hμ14 ?_
          refine J_iload (q := 82) 1 d_Fo_run_80 rfl rfl ?_
          obtain rfl := Option.some.inj h
          exact J_iret rfl ⟨rfl, rfl⟩ d_Fo_run_82
      · rw [iB_f hb] at h
        refine J_iconst (q := 25) (v := (-1 : Int32)) d_Fo_run_24 (by decide) rfl ?_
        obtain rfl := Option.some.inj h
        exact J_iret rfl ⟨rfl, rfl⟩ d_Fo_run_25
def m_Fo_fitted (a1 : Int32) (a2 : Int32) (μ : Mem) : Option (Int32) :=
  ap (gR μ 11 (0) 7) fun o1 =>
  Option.bind o1 fun y2 =>
  if (m_Fit_hasPoint (y2) (a1) μ) then
 (if a2 = (0 : Int32) then
 (ap (gR μ 11 (0) 7) fun o3 =>
  Option.bind o3 fun y4 =>
  gu ((0 : Int32)) 2 <|
  gu (a1) 100 <|
  some (gI μ 501 (2 * y4 + ((0 : Int32)).toNatClampNeg) a1.toNatClampNeg))
 else if a2 = (1 : Int32) then
 (ap (gR μ 11 (0) 7) fun o7 =>
  Option.bind o7 fun y8 =>
  gu ((1 : Int32)) 2 <|
  gu (a1) 100 <|
  some (gI μ 501 (2 * y8 + ((1 : Int32)).toNatClampNeg) a1.toNatClampNeg))
 else if a2 = (2 : Int32) then
 (ap (gR μ 11 (0) 7) fun o11 =>
  Option.bind o11 fun y12 =>
  gu ((0 : Int32)) 2 <|
  gu (a1) 100 <|
  some (gI μ 502 (2 * y12 + ((0 : Int32)).toNatClampNeg) a1.toNatClampNeg))
 else if a2 = (3 : Int32) then
 (ap (gR μ 11 (0) 7) fun o15 =>
  Option.bind o15 fun y16 =>
  gu ((1 : Int32)) 2 <|
  gu (a1) 100 <|
  some (gI μ 502 (2 * y16 + ((1 : Int32)).toNatClampNeg) a1.toNatClampNeg))
 else (some ((-2000000000 : Int32))))
 else
 (some ((-2000000000 : Int32)))
theorem t_Fo_fitted {a1 : Int32} {a2 : Int32} {μ : Mem} {q : Int32} (h : m_Fo_fitted a1 a2 μ = some q) : JM true (2) y_Fo_fitted b_Fo_fitted 3 (some (.int)) 0 0 [vr 11 (0), vi (a1), vi (a2)] μ (QQ (some (vi q)) μ) := by
  unfold m_Fo_fitted at h
  refine JM.of pl_Fo_fitted (fun ρ => Nat.le_of_ble_eq_true rfl) ?_
  show J (GM true (QQ (some (vi q)) μ) (some (.int)) y_Fo_fitted.name) true b_Fo_fitted R_11 3 (2) 0 0 0 [(0, vr 11 (0)), (1, vi (a1)), (2, vi (a2))] [] μ
  refine J_aload_n (q := 1) 0 d_Fo_fitted_0 rfl rfl rfl ?_
  refine J_getR (q := 4) cd_11 (by decide) ft_11_7 g_261 rfl d_Fo_fitted_1 rfl ?_
  obtain ⟨o1, ho1, h⟩ := ap_eq h
  refine J_nmO ho1 ?_
  refine J_iload_n (q := 5) 1 d_Fo_fitted_4 rfl rfl rfl ?_
  replace h := bd_some h
  obtain ⟨y2, hy2, h⟩ := h
  subst hy2
  refine J_callVq (rc := 0) (rs := 0) (q := 8) (as := [vi (a1)]) (st := []) (by decide) rfl g_858 g_859 (t_Fit_hasPoint rfl) (by decide) (by decide) g_942 g_860 g_6 hy_Fit_hasPoint rfl (Nat.le_of_ble_eq_true rfl) d_Fo_fitted_5 rfl ?_
  refine J_ifB_ne (q := 11) (tgt := 15) d_Fo_fitted_8 (by decide) rfl (fun hb => ?_) (fun hb => ?_)
  · rw [iB_t hb] at h
    refine J_iload_n (q := 16) 2 d_Fo_fitted_15 rfl rfl rfl ?_
    by_cases hk0 : a2 = (0 : Int32)
    · rw [if_pos hk0] at h
      refine J_swIn (tgt := 48) d_Fo_fitted_16 (by rw [hk0]; decide) (by rw [hk0]; decide) (by rw [hk0]; rfl) (by decide) ?_
      refine J_aload_n (q := 49) 0 d_Fo_fitted_48 rfl rfl rfl ?_
      refine J_getR (q := 52) cd_11 (by decide) ft_11_7 g_261 rfl d_Fo_fitted_49 rfl ?_
      obtain ⟨o3, ho3, h⟩ := ap_eq h
      refine J_nmO ho3 ?_
      replace h := bd_some h
      obtain ⟨y4, hy4, h⟩ := h
      subst hy4
      refine J_getF (q := 55) cd_0 (by decide) ft_0_1 rfl g_173 rfl d_Fo_fitted_52 rfl ?_
      refine J_iconst (q := 56) (v := (0 : Int32)) d_Fo_fitted_55 (by decide) rfl ?_
      obtain ⟨hi5, h⟩ := gu_some h
      refine J_ald6 (q := 57) rk_101 (by decide) hi5 d_Fo_fitted_56 rfl ?_
      refine J_iload_n (q := 58) 1 d_Fo_fitted_57 rfl rfl rfl ?_
      obtain ⟨hi6, h⟩ := gu_some h
      refine J_iald (q := 59) rk_501 (by decide) hi6 d_Fo_fitted_58 rfl ?_
      obtain rfl := Option.some.inj h
      exact J_iret rfl ⟨rfl, rfl⟩ d_Fo_fitted_59
    rw [if_neg hk0] at h
    by_cases hk1 : a2 = (1 : Int32)
    · rw [if_pos hk1] at h
      refine J_swIn (tgt := 60) d_Fo_fitted_16 (by rw [hk1]; decide) (by rw [hk1]; decide) (by rw [hk1]; rfl) (by decide) ?_
      refine J_aload_n (q := 61) 0 d_Fo_fitted_60 rfl rfl rfl ?_
      refine J_getR (q := 64) cd_11 (by decide) ft_11_7 g_261 rfl d_Fo_fitted_61 rfl ?_
      obtain ⟨o7, ho7, h⟩ := ap_eq h
      refine J_nmO ho7 ?_
      replace h := bd_some h
      obtain ⟨y8, hy8, h⟩ := h
      subst hy8
      refine J_getF (q := 67) cd_0 (by decide) ft_0_1 rfl g_173 rfl d_Fo_fitted_64 rfl ?_
      refine J_iconst (q := 68) (v := (1 : Int32)) d_Fo_fitted_67 (by decide) rfl ?_
      obtain ⟨hi9, h⟩ := gu_some h
      refine J_ald6 (q := 69) rk_101 (by decide) hi9 d_Fo_fitted_68 rfl ?_
      refine J_iload_n (q := 70) 1 d_Fo_fitted_69 rfl rfl rfl ?_
      obtain ⟨hi10, h⟩ := gu_some h
      refine J_iald (q := 71) rk_501 (by decide) hi10 d_Fo_fitted_70 rfl ?_
      obtain rfl := Option.some.inj h
      exact J_iret rfl ⟨rfl, rfl⟩ d_Fo_fitted_71
    rw [if_neg hk1] at h
    by_cases hk2 : a2 = (2 : Int32)
    · rw [if_pos hk2] at h
      refine J_swIn (tgt := 72) d_Fo_fitted_16 (by rw [hk2]; decide) (by rw [hk2]; decide) (by rw [hk2]; rfl) (by decide) ?_
      refine J_aload_n (q := 73) 0 d_Fo_fitted_72 rfl rfl rfl ?_
      refine J_getR (q := 76) cd_11 (by decide) ft_11_7 g_261 rfl d_Fo_fitted_73 rfl ?_
      obtain ⟨o11, ho11, h⟩ := ap_eq h
      refine J_nmO ho11 ?_
      replace h := bd_some h
      obtain ⟨y12, hy12, h⟩ := h
      subst hy12
      refine J_getF (q := 79) cd_0 (by decide) ft_0_2 rfl g_175 rfl d_Fo_fitted_76 rfl ?_
      refine J_iconst (q := 80) (v := (0 : Int32)) d_Fo_fitted_79 (by decide) rfl ?_
      obtain ⟨hi13, h⟩ := gu_some h
      refine J_ald6 (q := 81) rk_102 (by decide) hi13 d_Fo_fitted_80 rfl ?_
      refine J_iload_n (q := 82) 1 d_Fo_fitted_81 rfl rfl rfl ?_
      obtain ⟨hi14, h⟩ := gu_some h
      refine J_iald (q := 83) rk_502 (by decide) hi14 d_Fo_fitted_82 rfl ?_
      obtain rfl := Option.some.inj h
      exact J_iret rfl ⟨rfl, rfl⟩ d_Fo_fitted_83
    rw [if_neg hk2] at h
    by_cases hk3 : a2 = (3 : Int32)
    · rw [if_pos hk3] at h
      refine J_swIn (tgt := 84) d_Fo_fitted_16 (by rw [hk3]; decide) (by rw [hk3]; decide) (by rw [hk3]; rfl) (by decide) ?_
      refine J_aload_n (q := 85) 0 d_Fo_fitted_84 rfl rfl rfl ?_
      refine J_getR (q := 88) cd_11 (by decide) ft_11_7 g_261 rfl d_Fo_fitted_85 rfl ?_
      obtain ⟨o15, ho15, h⟩ := ap_eq h
      refine J_nmO ho15 ?_
      replace h := bd_some h
      obtain ⟨y16, hy16, h⟩ := h
      subst hy16
      refine J_getF (q := 91) cd_0 (by decide) ft_0_2 rfl g_175 rfl d_Fo_fitted_88 rfl ?_
      refine J_iconst (q := 92) (v := (1 : Int32)) d_Fo_fitted_91 (by decide) rfl ?_
      obtain ⟨hi17, h⟩ := gu_some h
      refine J_ald6 (q := 93) rk_102 (by decide) hi17 d_Fo_fitted_92 rfl ?_
      refine J_iload_n (q := 94) 1 d_Fo_fitted_93 rfl rfl rfl ?_
      obtain ⟨hi18, h⟩ := gu_some h
      refine J_iald (q := 95) rk_502 (by decide) hi18 d_Fo_fitted_94 rfl ?_
      obtain rfl := Option.some.inj h
      exact J_iret rfl ⟨rfl, rfl⟩ d_Fo_fitted_95
    rw [if_neg hk3] at h
    refine J_swOut (tgt := 96) d_Fo_fitted_16 (by have e0 := lv_neT hk0 (a := 0) (by decide); have e1 := lv_neT hk1 (a := 1) (by decide); have e2 := lv_neT hk2 (a := 2) (by decide); have e3 := lv_neT hk3 (a := 3) (by decide); omega) (by decide) ?_
    refine J_ldcw (q := 99) d_Fo_fitted_96 g_943 rfl ?_
    obtain rfl := Option.some.inj h
    exact J_iret rfl ⟨rfl, rfl⟩ d_Fo_fitted_99
  · rw [iB_f hb] at h
    refine J_ldcw (q := 14) d_Fo_fitted_11 g_943 rfl ?_
    obtain rfl := Option.some.inj h
    exact J_iret rfl ⟨rfl, rfl⟩ d_Fo_fitted_14
def m_Fo_isBy (a1 : Int32) (μ : Mem) : Bool :=
  (m_Fo_within ((a1).toInt64) ((-2000 : Int64)) ((2000 : Int64)) μ)
theorem t_Fo_isBy {a1 : Int32} {μ : Mem} {q : Bool} (h : m_Fo_isBy a1 μ = q) : JM true (1) y_Fo_isBy b_Fo_isBy 1 (some (.boolean)) 0 0 [vi (a1)] μ (QQ (some (vi (b2i q))) μ) := by
  unfold m_Fo_isBy at h
  refine JM.of pl_Fo_isBy (fun ρ => Nat.le_of_ble_eq_true rfl) ?_
  show J (GM true (QQ (some (vi (b2i q))) μ) (some (.boolean)) y_Fo_isBy.name) true b_Fo_isBy R_11 1 (1) 0 0 0 [(0, vi (a1))] [] μ
  refine J_iload_n (q := 1) 0 d_Fo_isBy_0 rfl rfl rfl ?_
  refine J_i2l (q := 2) d_Fo_isBy_1 rfl ?_
  refine J_ldc2 (q := 5) d_Fo_isBy_2 g_954 rfl ?_
  refine J_ldc2 (q := 8) d_Fo_isBy_5 g_955 rfl ?_
  refine J_callSq (rc := 0) (rs := 0) (q := 11) (as := [vl ((a1).toInt64), vl ((-2000 : Int64)), vl ((2000 : Int64))]) (st := []) g_300 (t_Fo_within rfl) (by decide) (by decide) g_299 g_301 g_1 hy_Fo_within rfl (Nat.le_of_ble_eq_true rfl) d_Fo_isBy_8 rfl ?_
  subst h
  exact J_zret (b2i01 _) rfl ⟨rfl, rfl⟩ d_Fo_isBy_11
def m_Fo_isMaster (a1 : Int32) (μ : Mem) : Bool :=
  (m_Fo_within ((a1).toInt64) ((0 : Int64)) ((2 : Int64)) μ)
theorem t_Fo_isMaster {a1 : Int32} {μ : Mem} {q : Bool} (h : m_Fo_isMaster a1 μ = q) : JM true (1) y_Fo_isMaster b_Fo_isMaster 1 (some (.boolean)) 0 0 [vi (a1)] μ (QQ (some (vi (b2i q))) μ) := by
  unfold m_Fo_isMaster at h
  refine JM.of pl_Fo_isMaster (fun ρ => Nat.le_of_ble_eq_true rfl) ?_
  show J (GM true (QQ (some (vi (b2i q))) μ) (some (.boolean)) y_Fo_isMaster.name) true b_Fo_isMaster R_11 1 (1) 0 0 0 [(0, vi (a1))] [] μ
  refine J_iload_n (q := 1) 0 d_Fo_isMaster_0 rfl rfl rfl ?_
  refine J_i2l (q := 2) d_Fo_isMaster_1 rfl ?_
  refine J_lconst (q := 3) (v := (0 : Int64)) d_Fo_isMaster_2 (by decide) rfl ?_
  refine J_ldc2 (q := 6) d_Fo_isMaster_3 g_450 rfl ?_
  refine J_callSq (rc := 0) (rs := 0) (q := 9) (as := [vl ((a1).toInt64), vl ((0 : Int64)), vl ((2 : Int64))]) (st := []) g_300 (t_Fo_within rfl) (by decide) (by decide) g_299 g_301 g_1 hy_Fo_within rfl (Nat.le_of_ble_eq_true rfl) d_Fo_isMaster_6 rfl ?_
  subst h
  exact J_zret (b2i01 _) rfl ⟨rfl, rfl⟩ d_Fo_isMaster_9
def m_Fo_delta (a1 : Int32) (a2 : Int32) (a3 : Int32) (a4 : Int32) (a5 : Int32) (μ : Mem) : Option (Bool × Mem) :=
  Option.bind (m_Fo_letterOf (a1) μ) fun r1 =>
  oc r1
 (some ((false, μ)))
 fun y2 => if (m_Fo_isMaster (a2) μ) then
 (Option.bind (m_Sh_hasPoint (y2) (a3) μ) fun r3 =>
  if r3 then
 (if (m_Fo_isBy (a4) μ) then
 (if (m_Fo_isBy (a5) μ) then
 (gu (a2) 3 <|
  gu (a3) 100 <|
  ap (sI μ 703 (3 * y2 + a2.toNatClampNeg) a3.toNatClampNeg (a4)) fun μ6 =>
  gu (a2) 3 <|
  gu (a3) 100 <|
  ap (sI μ6 704 (3 * y2 + a2.toNatClampNeg) a3.toNatClampNeg (a5)) fun μ9 =>
  some ((true, μ9)))
 else
 (some ((false, μ))))
 else
 (some ((false, μ))))
 else
 (some ((false, μ))))
 else
 (some ((false, μ)))
theorem t_Fo_delta {a1 : Int32} {a2 : Int32} {a3 : Int32} {a4 : Int32} {a5 : Int32} {μ : Mem} {q : Bool × Mem} (h : m_Fo_delta a1 a2 a3 a4 a5 μ = some q) : JM true (4) y_Fo_delta b_Fo_delta 7 (some (.boolean)) 0 0 [vr 11 (0), vi (a1), vi (a2), vi (a3), vi (a4), vi (a5)] μ (QQ (some (vi (b2i q.1))) q.2) := by
  unfold m_Fo_delta at h
  refine JM.of pl_Fo_delta (fun ρ => Nat.le_of_ble_eq_true rfl) ?_
  show J (GM true (QQ (some (vi (b2i q.1))) q.2) (some (.boolean)) y_Fo_delta.name) true b_Fo_delta R_11 7 (4) 0 0 0 [(0, vr 11 (0)), (1, vi (a1)), (2, vi (a2)), (3, vi (a3)), (4, vi (a4)), (5, vi (a5))] [] μ
  refine J_aload_n (q := 1) 0 d_Fo_delta_0 rfl rfl rfl ?_
  refine J_iload_n (q := 2) 1 d_Fo_delta_1 rfl rfl rfl ?_
  obtain ⟨r1, hr1, h⟩ := bd_some h
  refine J_callVq (rc := 0) (rs := 0) (q := 5) (as := [vi (a1)]) (st := []) (by decide) rfl g_436 sel_Fo_letterOf (t_Fo_letterOf hr1) (by decide) (by decide) g_434 g_437 g_1 hy_Fo_letterOf rfl (Nat.le_of_ble_eq_true rfl) d_Fo_delta_2 rfl ?_
  refine J_astore (q := 7) (lv' := [(6, vo 4 (r1)), (0, vr 11 (0)), (1, vi (a1)), (2, vi (a2)), (3, vi (a3)), (4, vi (a4)), (5, vi (a5))]) d_Fo_delta_5 (by decide) rfl rfl ?_
  refine J_aload (q := 9) 0 d_Fo_delta_7 rfl rfl ?_
  refine J_nullO (q := 12) (tgt := 31) d_Fo_delta_9 (by decide) rfl (fun ho => ?_) (fun y2 ho => ?_)
  · subst ho
    rw [oc_none] at h
    refine J_iconst (q := 32) (v := (0 : Int32)) d_Fo_delta_31 (by decide) rfl ?_
    obtain rfl := Option.some.inj h
    exact J_zret (Or.inl rfl) rfl ⟨rfl, rfl⟩ d_Fo_delta_32
  · subst ho
    rw [oc_some] at h
    refine J_iload_n (q := 13) 3 d_Fo_delta_12 rfl rfl rfl ?_
    refine J_callSq (rc := 0) (rs := 0) (q := 16) (as := [vi (a2)]) (st := []) g_949 (t_Fo_isMaster rfl) (by decide) (by decide) g_948 g_950 g_1 hy_Fo_isMaster rfl (Nat.le_of_ble_eq_true rfl) d_Fo_delta_13 rfl ?_
    refine J_ifB_eq (q := 19) (tgt := 31) d_Fo_delta_16 (by decide) rfl (fun hb => ?_) (fun hb => ?_)
    · rw [iB_f hb] at h
      refine J_iconst (q := 32) (v := (0 : Int32)) d_Fo_delta_31 (by decide) rfl ?_
      obtain rfl := Option.some.inj h
      exact J_zret (Or.inl rfl) rfl ⟨rfl, rfl⟩ d_Fo_delta_32
    · rw [iB_t hb] at h
      refine J_aload (q := 21) 0 d_Fo_delta_19 rfl rfl ?_
      refine J_getF (q := 24) cd_4 (by decide) ft_4_2 rfl g_392 rfl d_Fo_delta_21 rfl ?_
      refine J_iload_n (q := 25) 4 d_Fo_delta_24 rfl rfl rfl ?_
      obtain ⟨r3, hr3, h⟩ := bd_some h
      refine J_callVq (rc := 0) (rs := 0) (q := 28) (as := [vi (a3)]) (st := []) (by decide) rfl g_501 g_502 (t_Sh_hasPoint hr3) (by decide) (by decide) g_500 g_503 g_12 hy_Sh_hasPoint rfl (Nat.le_of_ble_eq_true rfl) d_Fo_delta_25 rfl ?_
      refine J_ifB_ne (q := 31) (tgt := 33) d_Fo_delta_28 (by decide) rfl (fun hb => ?_) (fun hb => ?_)
      · rw [iB_t hb] at h
        refine J_iload (q := 35) 5 d_Fo_delta_33 rfl rfl ?_
        refine J_callSq (rc := 0) (rs := 0) (q := 38) (as := [vi (a4)]) (st := []) g_952 (t_Fo_isBy rfl) (by decide) (by decide) g_951 g_953 g_1 hy_Fo_isBy rfl (Nat.le_of_ble_eq_true rfl) d_Fo_delta_35 rfl ?_
        refine J_ifB_eq (q := 41) (tgt := 49) d_Fo_delta_38 (by decide) rfl (fun hb => ?_) (fun hb => ?_)
        · rw [iB_f hb] at h
          refine J_iconst (q := 50) (v := (0 : Int32)) d_Fo_delta_49 (by decide) rfl ?_
          obtain rfl := Option.some.inj h
          exact J_zret (Or.inl rfl) rfl ⟨rfl, rfl⟩ d_Fo_delta_50
        · rw [iB_t hb] at h
          refine J_iload (q := 43) 6 d_Fo_delta_41 rfl rfl ?_
          refine J_callSq (rc := 0) (rs := 0) (q := 46) (as := [vi (a5)]) (st := []) g_952 (t_Fo_isBy rfl) (by decide) (by decide) g_951 g_953 g_1 hy_Fo_isBy rfl (Nat.le_of_ble_eq_true rfl) d_Fo_delta_43 rfl ?_
          refine J_ifB_ne (q := 49) (tgt := 51) d_Fo_delta_46 (by decide) rfl (fun hb => ?_) (fun hb => ?_)
          · rw [iB_t hb] at h
            refine J_aload (q := 53) 0 d_Fo_delta_51 rfl rfl ?_
            refine J_getF (q := 56) cd_4 (by decide) ft_4_2 rfl g_392 rfl d_Fo_delta_53 rfl ?_
            refine J_getF (q := 59) cd_10 (by decide) ft_10_3 rfl g_334 rfl d_Fo_delta_56 rfl ?_
            refine J_iload_n (q := 60) 3 d_Fo_delta_59 rfl rfl rfl ?_
            obtain ⟨hi4, h⟩ := gu_some h
            refine J_ald6 (q := 61) rk_303 (by decide) hi4 d_Fo_delta_60 rfl ?_
            refine J_iload_n (q := 62) 4 d_Fo_delta_61 rfl rfl rfl ?_
            refine J_iload (q := 64) 5 d_Fo_delta_62 rfl rfl ?_
            obtain ⟨hi5, h⟩ := gu_some h
            refine J_iast (q := 65) rk_703 (by decide) hi5 d_Fo_delta_64 rfl ?_
            obtain ⟨μ6, hμ6, h⟩ := ap_eq h
            refine J_nmM hμ6 ?_
            refine J_aload (q := 67) 0 d_Fo_delta_65 rfl rfl ?_
            refine J_getF (q := 70) cd_4 (by decide) ft_4_2 rfl g_392 rfl d_Fo_delta_67 rfl ?_
            refine J_getF (q := 73) cd_10 (by decide) ft_10_4 rfl g_336 rfl d_Fo_delta_70 rfl ?_
            refine J_iload_n (q := 74) 3 d_Fo_delta_73 rfl rfl rfl ?_
            obtain ⟨hi7, h⟩ := gu_some h
            refine J_ald6 (q := 75) rk_304 (by decide) hi7 d_Fo_delta_74 rfl ?_
            refine J_iload_n (q := 76) 4 d_Fo_delta_75 rfl rfl rfl ?_
            refine J_iload (q := 78) 6 d_Fo_delta_76 rfl rfl ?_
            obtain ⟨hi8, h⟩ := gu_some h
            refine J_iast (q := 79) rk_704 (by decide) hi8 d_Fo_delta_78 rfl ?_
            obtain ⟨μ9, hμ9, h⟩ := ap_eq h
            refine J_nmM hμ9 ?_
            refine J_iconst (q := 80) (v := (1 : Int32)) d_Fo_delta_79 (by decide) rfl ?_
            obtain rfl := Option.some.inj h
            exact J_zret (Or.inr rfl) rfl ⟨rfl, rfl⟩ d_Fo_delta_80
          · rw [iB_f hb] at h
            refine J_iconst (q := 50) (v := (0 : Int32)) d_Fo_delta_49 (by decide) rfl ?_
            obtain rfl := Option.some.inj h
            exact J_zret (Or.inl rfl) rfl ⟨rfl, rfl⟩ d_Fo_delta_50
      · rw [iB_f hb] at h
        refine J_iconst (q := 32) (v := (0 : Int32)) d_Fo_delta_31 (by decide) rfl ?_
        obtain rfl := Option.some.inj h
        exact J_zret (Or.inl rfl) rfl ⟨rfl, rfl⟩ d_Fo_delta_32
def m_Fo_weight (a1 : Int32) (a2 : Int32) (μ : Mem) : Option (Bool × Mem) :=
  if (m_Fo_isMaster (a1) μ) then
 (if (m_Fo_isShort (a2) μ) then
 (gu (a1) 3 <|
  ap (sI μ 329 (0) a1.toNatClampNeg (a2)) fun μ2 =>
  some ((true, μ2)))
 else
 (some ((false, μ))))
 else
 (some ((false, μ)))
theorem t_Fo_weight {a1 : Int32} {a2 : Int32} {μ : Mem} {q : Bool × Mem} (h : m_Fo_weight a1 a2 μ = some q) : JM true (2) y_Fo_weight b_Fo_weight 3 (some (.boolean)) 0 0 [vr 11 (0), vi (a1), vi (a2)] μ (QQ (some (vi (b2i q.1))) q.2) := by
  unfold m_Fo_weight at h
  refine JM.of pl_Fo_weight (fun ρ => Nat.le_of_ble_eq_true rfl) ?_
  show J (GM true (QQ (some (vi (b2i q.1))) q.2) (some (.boolean)) y_Fo_weight.name) true b_Fo_weight R_11 3 (2) 0 0 0 [(0, vr 11 (0)), (1, vi (a1)), (2, vi (a2))] [] μ
  refine J_iload_n (q := 1) 1 d_Fo_weight_0 rfl rfl rfl ?_
  refine J_callSq (rc := 0) (rs := 0) (q := 4) (as := [vi (a1)]) (st := []) g_949 (t_Fo_isMaster rfl) (by decide) (by decide) g_948 g_950 g_1 hy_Fo_isMaster rfl (Nat.le_of_ble_eq_true rfl) d_Fo_weight_1 rfl ?_
  refine J_ifB_eq (q := 7) (tgt := 14) d_Fo_weight_4 (by decide) rfl (fun hb => ?_) (fun hb => ?_)
  · rw [iB_f hb] at h
    refine J_iconst (q := 15) (v := (0 : Int32)) d_Fo_weight_14 (by decide) rfl ?_
    obtain rfl := Option.some.inj h
    exact J_zret (Or.inl rfl) rfl ⟨rfl, rfl⟩ d_Fo_weight_15
  · rw [iB_t hb] at h
    refine J_iload_n (q := 8) 2 d_Fo_weight_7 rfl rfl rfl ?_
    refine J_callSq (rc := 0) (rs := 0) (q := 11) (as := [vi (a2)]) (st := []) g_573 (t_Fo_isShort rfl) (by decide) (by decide) g_572 g_574 g_1 hy_Fo_isShort rfl (Nat.le_of_ble_eq_true rfl) d_Fo_weight_8 rfl ?_
    refine J_ifB_ne (q := 14) (tgt := 16) d_Fo_weight_11 (by decide) rfl (fun hb => ?_) (fun hb => ?_)
    · rw [iB_t hb] at h
      refine J_aload_n (q := 17) 0 d_Fo_weight_16 rfl rfl rfl ?_
      refine J_getF (q := 20) cd_11 (by decide) ft_11_9 rfl g_263 rfl d_Fo_weight_17 rfl ?_
      refine J_iload_n (q := 21) 1 d_Fo_weight_20 rfl rfl rfl ?_
      refine J_iload_n (q := 22) 2 d_Fo_weight_21 rfl rfl rfl ?_
      obtain ⟨hi1, h⟩ := gu_some h
      refine J_iast (q := 23) rk_329 (by decide) hi1 d_Fo_weight_22 rfl ?_
      obtain ⟨μ2, hμ2, h⟩ := ap_eq h
      refine J_nmM hμ2 ?_
      refine J_iconst (q := 24) (v := (1 : Int32)) d_Fo_weight_23 (by decide) rfl ?_
      obtain rfl := Option.some.inj h
      exact J_zret (Or.inr rfl) rfl ⟨rfl, rfl⟩ d_Fo_weight_24
    · rw [iB_f hb] at h
      refine J_iconst (q := 15) (v := (0 : Int32)) d_Fo_weight_14 (by decide) rfl ?_
      obtain rfl := Option.some.inj h
      exact J_zret (Or.inl rfl) rfl ⟨rfl, rfl⟩ d_Fo_weight_15
def lp_Fo_weighed_5 (a1k : Nat) (a1l : Nat) (a1n : Nat) (a1z : Nat) (a1m : Nat) (a1w : Nat) (a2 : Int32) (μ : Mem) (c_36 : Int64 → Option (Int32)) : Nat → Int64 → Int32 → Option (Int32)
  | 0, _, _ => none
  | n + 1, y3, y5 =>
  if (3 : Int32) ≤ y5 then
 (c_36 (y3))
 else
 (gu (y5) 3 <|
  gu (y5) a1n <|
  gu (a2) a1m <|
  ap ((y3) + (((gI μ 329 (0) y5.toNatClampNeg).toInt64) * ((gI μ a1z (a1n * a1l + y5.toNatClampNeg) a2.toNatClampNeg).toInt64))) fun x9 =>
  ap (y5 + (1 : Int32)) fun x10 =>
  lp_Fo_weighed_5 a1k a1l a1n a1z a1m a1w a2 μ c_36 n (x9) (x10))
theorem tl_Fo_weighed_5 (a1k : Nat) (a1l : Nat) (a1n : Nat) (a1z : Nat) (a1m : Nat) (a1w : Nat) (a2 : Int32) (μ : Mem) (ha1 : RK a1k = (6, a1n, a1z)) (ha19 : a1k < 900) (ha1r : RK a1z = (2, a1m, a1w)) (ha1r9 : a1z < 900) {q : Int32} {c_36 : Int64 → Option (Int32)} (hc_36 : ∀ (y3 : Int64), c_36 y3 = some q → J (GM true (QQ (some (vi q)) μ) (some (.int)) y_Fo_weighed.name) true b_Fo_weighed R_11 6 (2) 0 0 36 [(3, vl (y3))] [] μ) : ∀ (n : Nat) (y3 : Int64) (y5 : Int32), lp_Fo_weighed_5 a1k a1l a1n a1z a1m a1w a2 μ c_36 n y3 y5 = some q → J (GM true (QQ (some (vi q)) μ) (some (.int)) y_Fo_weighed.name) true b_Fo_weighed R_11 6 (2) 0 0 5 [(0, vr 11 (0)), (1, vr a1k (a1l)), (2, vi (a2)), (3, vl (y3)), (5, vi (y5))] [] μ := by
  intro n
  induction n with
  | zero => intro _ _ h; cases h
  | succ n ih =>
    intro y3 y5 h
    unfold lp_Fo_weighed_5 at h
    refine J_iload (q := 7) 4 d_Fo_weighed_5 rfl rfl ?_
    refine J_iconst (q := 8) (v := (3 : Int32)) d_Fo_weighed_7 (by decide) rfl ?_
    refine J_icmp_ge (q := 11) (tgt := 36) d_Fo_weighed_8 (by decide) rfl (fun hc => ?_) (fun hc => ?_)
    · rw [if_pos hc] at h
      refine J_pick [3] rfl ?_
      exact hc_36 _ h
    · rw [if_neg hc] at h
      refine J_lload_n (q := 12) 3 d_Fo_weighed_11 rfl rfl rfl ?_
      refine J_aload_n (q := 13) 0 d_Fo_weighed_12 rfl rfl rfl ?_
      refine J_getF (q := 16) cd_11 (by decide) ft_11_9 rfl g_263 rfl d_Fo_weighed_13 rfl ?_
      refine J_iload (q := 18) 4 d_Fo_weighed_16 rfl rfl ?_
      obtain ⟨hi6, h⟩ := gu_some h
      refine J_iald (q := 19) rk_329 (by decide) hi6 d_Fo_weighed_18 rfl ?_
      refine J_i2l (q := 20) d_Fo_weighed_19 rfl ?_
      refine J_aload_n (q := 21) 1 d_Fo_weighed_20 rfl rfl rfl ?_
      refine J_iload (q := 23) 4 d_Fo_weighed_21 rfl rfl ?_
      obtain ⟨hi7, h⟩ := gu_some h
      refine J_ald6 (q := 24) ha1 ha19 hi7 d_Fo_weighed_23 rfl ?_
      refine J_iload_n (q := 25) 2 d_Fo_weighed_24 rfl rfl rfl ?_
      obtain ⟨hi8, h⟩ := gu_some h
      refine J_iald (q := 26) ha1r ha1r9 hi8 d_Fo_weighed_25 rfl ?_
      refine J_i2l (q := 27) d_Fo_weighed_26 rfl ?_
      refine J_lmul (q := 28) d_Fo_weighed_27 rfl ?_
      refine J_ladd (q := 29) d_Fo_weighed_28 rfl ?_
      obtain ⟨x9, hx9, h⟩ := ap_eq h
      refine J_nmL hx9 ?_
      refine J_lstore_n (q := 30) (lv' := [(3, vl (x9)), (0, vr 11 (0)), (1, vr a1k (a1l)), (2, vi (a2)), (5, vi (y5))]) d_Fo_weighed_29 rfl (by decide) rfl rfl ?_
      obtain ⟨x10, hx10, h⟩ := ap_eq h
      refine J_iinc (q := 33) (v := x10) (lv' := [(5, vi (x10)), (3, vl (x9)), (0, vr 11 (0)), (1, vr a1k (a1l)), (2, vi (a2))]) 4 d_Fo_weighed_30 rfl (by rw [hx10]; rfl) (by decide) rfl rfl ?_
      refine J_goto (q := 5) d_Fo_weighed_33 (by decide) ?_
      refine J_pick [2, 3, 4, 1, 0] rfl ?_
      exact ih _ _ h
def mj_Fo_weighed_36 (a1k : Nat) (a1l : Nat) (a1n : Nat) (a1z : Nat) (a1m : Nat) (a1w : Nat) (a2 : Int32) (μ : Mem) (y3 : Int64) : Option (Int32) :=
  Option.bind (m_Fo_rounded (y3) ((16384 : Int64)) μ) fun r11 =>
  some ((r11).toInt32)
theorem tj_Fo_weighed_36 (a1k : Nat) (a1l : Nat) (a1n : Nat) (a1z : Nat) (a1m : Nat) (a1w : Nat) (a2 : Int32) (μ : Mem) (ha1 : RK a1k = (6, a1n, a1z)) (ha19 : a1k < 900) (ha1r : RK a1z = (2, a1m, a1w)) (ha1r9 : a1z < 900) {q : Int32}  (y3 : Int64) (h : mj_Fo_weighed_36 a1k a1l a1n a1z a1m a1w a2 μ y3 = some q) : J (GM true (QQ (some (vi q)) μ) (some (.int)) y_Fo_weighed.name) true b_Fo_weighed R_11 6 (2) 0 0 36 [(3, vl (y3))] [] μ := by
  unfold mj_Fo_weighed_36 at h
  refine J_lload_n (q := 37) 0 d_Fo_weighed_36 rfl rfl rfl ?_
  refine J_ldc2 (q := 40) d_Fo_weighed_37 g_968 rfl ?_
  obtain ⟨r11, hr11, h⟩ := bd_some h
  refine J_callSq (rc := 0) (rs := 0) (q := 43) (as := [vl (y3), vl ((16384 : Int64))]) (st := []) g_630 (t_Fo_rounded hr11) (by decide) (by decide) g_969 g_631 g_1 hy_Fo_rounded rfl (Nat.le_of_ble_eq_true rfl) d_Fo_weighed_40 rfl ?_
  refine J_l2i (q := 44) d_Fo_weighed_43 rfl ?_
  obtain rfl := Option.some.inj h
  exact J_iret rfl ⟨rfl, rfl⟩ d_Fo_weighed_44
def m_Fo_weighed (a1k : Nat) (a1l : Nat) (a1n : Nat) (a1z : Nat) (a2 : Int32) (a1m : Nat) (a1w : Nat) (μ : Mem) : Option (Int32) :=
  lp_Fo_weighed_5 a1k a1l a1n a1z a1m a1w a2 μ (mj_Fo_weighed_36 a1k a1l a1n a1z a1m a1w a2 μ) FU ((0 : Int64)) ((0 : Int32))
theorem t_Fo_weighed {a1k : Nat} {a1l : Nat} {a1n : Nat} {a1z : Nat} {a2 : Int32} {a1m : Nat} {a1w : Nat} {μ : Mem} {q : Int32} (ha1 : RK a1k = (6, a1n, a1z)) (ha19 : a1k < 900) (ha1r : RK a1z = (2, a1m, a1w)) (ha1r9 : a1z < 900) (h : m_Fo_weighed a1k a1l a1n a1z a2 a1m a1w μ = some q) : JM true (2) y_Fo_weighed b_Fo_weighed 6 (some (.int)) 0 0 [vr 11 (0), vr a1k (a1l), vi (a2)] μ (QQ (some (vi q)) μ) := by
  unfold m_Fo_weighed at h
  refine JM.of pl_Fo_weighed (fun ρ => Nat.le_of_ble_eq_true rfl) ?_
  show J (GM true (QQ (some (vi q)) μ) (some (.int)) y_Fo_weighed.name) true b_Fo_weighed R_11 6 (2) 0 0 0 [(0, vr 11 (0)), (1, vr a1k (a1l)), (2, vi (a2))] [] μ
  refine J_lconst (q := 1) (v := (0 : Int64)) d_Fo_weighed_0 (by decide) rfl ?_
  refine J_lstore_n (q := 2) (lv' := [(3, vl ((0 : Int64))), (0, vr 11 (0)), (1, vr a1k (a1l)), (2, vi (a2))]) d_Fo_weighed_1 rfl (by decide) rfl rfl ?_
  refine J_iconst (q := 3) (v := (0 : Int32)) d_Fo_weighed_2 (by decide) rfl ?_
  refine J_istore (q := 5) (lv' := [(5, vi ((0 : Int32))), (3, vl ((0 : Int64))), (0, vr 11 (0)), (1, vr a1k (a1l)), (2, vi (a2))]) d_Fo_weighed_3 (by decide) rfl rfl ?_
  refine J_pick [2, 3, 4, 1, 0] rfl ?_
  exact tl_Fo_weighed_5 a1k a1l a1n a1z a1m a1w a2 μ ha1 ha19 ha1r ha1r9 (fun _ h => tj_Fo_weighed_36 a1k a1l a1n a1z a1m a1w a2 μ ha1 ha19 ha1r ha1r9 _ h) FU _ _ h
def m_Fo_mixed (a1 : Int32) (a2 : Int32) (a3 : Int32) (μ : Mem) : Option (Int32) :=
  Option.bind (m_Fo_letterOf (a1) μ) fun r1 =>
  oc r1
 (some ((-100000 : Int32)))
 fun y2 => Option.bind (m_Sh_hasPoint (y2) (a2) μ) fun r3 =>
  if r3 then
 (if a3 = (0 : Int32) then
 (gu (a2) 100 <|
  Option.bind (m_Fo_weighed 303 (y2) 3 703 (a2) 100 0 μ) fun r5 =>
  some ((gI μ 300 (y2) a2.toNatClampNeg) + (r5)))
 else if a3 = (1 : Int32) then
 (gu (a2) 100 <|
  Option.bind (m_Fo_weighed 304 (y2) 3 704 (a2) 100 0 μ) fun r7 =>
  some ((gI μ 301 (y2) a2.toNatClampNeg) + (r7)))
 else (some ((-100000 : Int32))))
 else
 (some ((-100000 : Int32)))
theorem t_Fo_mixed {a1 : Int32} {a2 : Int32} {a3 : Int32} {μ : Mem} {q : Int32} (h : m_Fo_mixed a1 a2 a3 μ = some q) : JM true (4) y_Fo_mixed b_Fo_mixed 6 (some (.int)) 0 0 [vr 11 (0), vi (a1), vi (a2), vi (a3)] μ (QQ (some (vi q)) μ) := by
  unfold m_Fo_mixed at h
  refine JM.of pl_Fo_mixed (fun ρ => Nat.le_of_ble_eq_true rfl) ?_
  show J (GM true (QQ (some (vi q)) μ) (some (.int)) y_Fo_mixed.name) true b_Fo_mixed R_11 6 (4) 0 0 0 [(0, vr 11 (0)), (1, vi (a1)), (2, vi (a2)), (3, vi (a3))] [] μ
  refine J_aload_n (q := 1) 0 d_Fo_mixed_0 rfl rfl rfl ?_
  refine J_iload_n (q := 2) 1 d_Fo_mixed_1 rfl rfl rfl ?_
  obtain ⟨r1, hr1, h⟩ := bd_some h
  refine J_callVq (rc := 0) (rs := 0) (q := 5) (as := [vi (a1)]) (st := []) (by decide) rfl g_436 sel_Fo_letterOf (t_Fo_letterOf hr1) (by decide) (by decide) g_434 g_437 g_1 hy_Fo_letterOf rfl (Nat.le_of_ble_eq_true rfl) d_Fo_mixed_2 rfl ?_
  refine J_astore (q := 7) (lv' := [(4, vo 4 (r1)), (0, vr 11 (0)), (1, vi (a1)), (2, vi (a2)), (3, vi (a3))]) d_Fo_mixed_5 (by decide) rfl rfl ?_
  refine J_aload (q := 9) 0 d_Fo_mixed_7 rfl rfl ?_
  refine J_nullO (q := 12) (tgt := 24) d_Fo_mixed_9 (by decide) rfl (fun ho => ?_) (fun y2 ho => ?_)
  · subst ho
    rw [oc_none] at h
    refine J_ldc (q := 26) d_Fo_mixed_24 g_591 rfl ?_
    obtain rfl := Option.some.inj h
    exact J_iret rfl ⟨rfl, rfl⟩ d_Fo_mixed_26
  · subst ho
    rw [oc_some] at h
    refine J_aload (q := 14) 0 d_Fo_mixed_12 rfl rfl ?_
    refine J_getF (q := 17) cd_4 (by decide) ft_4_2 rfl g_392 rfl d_Fo_mixed_14 rfl ?_
    refine J_iload_n (q := 18) 3 d_Fo_mixed_17 rfl rfl rfl ?_
    obtain ⟨r3, hr3, h⟩ := bd_some h
    refine J_callVq (rc := 0) (rs := 0) (q := 21) (as := [vi (a2)]) (st := []) (by decide) rfl g_501 g_502 (t_Sh_hasPoint hr3) (by decide) (by decide) g_500 g_503 g_12 hy_Sh_hasPoint rfl (Nat.le_of_ble_eq_true rfl) d_Fo_mixed_18 rfl ?_
    refine J_ifB_ne (q := 24) (tgt := 27) d_Fo_mixed_21 (by decide) rfl (fun hb => ?_) (fun hb => ?_)
    · rw [iB_t hb] at h
      refine J_aload (q := 29) 0 d_Fo_mixed_27 rfl rfl ?_
      refine J_getF (q := 32) cd_4 (by decide) ft_4_2 rfl g_392 rfl d_Fo_mixed_29 rfl ?_
      refine J_astore (q := 34) (lv' := [(5, vr 10 (y2)), (4, vr 4 (y2)), (0, vr 11 (0)), (1, vi (a1)), (2, vi (a2)), (3, vi (a3))]) d_Fo_mixed_32 (by decide) rfl rfl ?_
      refine J_iload_n (q := 35) 5 d_Fo_mixed_34 rfl rfl rfl ?_
      by_cases hk0 : a3 = (0 : Int32)
      · rw [if_pos hk0] at h
        refine J_swL (off := 25) (tgt := 60) d_Fo_mixed_35 (by decide) (by rw [hk0]; first | done | rfl) (by decide) ?_
        refine J_aload (q := 62) 0 d_Fo_mixed_60 rfl rfl ?_
        refine J_getF (q := 65) cd_10 (by decide) ft_10_0 rfl g_325 rfl d_Fo_mixed_62 rfl ?_
        refine J_iload_n (q := 66) 4 d_Fo_mixed_65 rfl rfl rfl ?_
        obtain ⟨hi4, h⟩ := gu_some h
        refine J_iald (q := 67) rk_300 (by decide) hi4 d_Fo_mixed_66 rfl ?_
        refine J_aload_n (q := 68) 2 d_Fo_mixed_67 rfl rfl rfl ?_
        refine J_aload (q := 70) 0 d_Fo_mixed_68 rfl rfl ?_
        refine J_getF (q := 73) cd_10 (by decide) ft_10_3 rfl g_334 rfl d_Fo_mixed_70 rfl ?_
        refine J_iload_n (q := 74) 4 d_Fo_mixed_73 rfl rfl rfl ?_
        obtain ⟨r5, hr5, h⟩ := bd_some h
        refine J_callVq (rc := 0) (rs := 0) (q := 77) (as := [vr 303 (y2), vi (a2)]) (st := [vi (gI μ 300 (y2) a2.toNatClampNeg)]) (by decide) rfl g_966 sel_Fo_weighed (t_Fo_weighed rk_303 (by decide) rk_703 (by decide) hr5) (by decide) (by decide) g_964 g_967 g_1 hy_Fo_weighed rfl (Nat.le_of_ble_eq_true rfl) d_Fo_mixed_74 rfl ?_
        refine J_iadd (q := 78) d_Fo_mixed_77 rfl ?_
        obtain rfl := Option.some.inj h
        exact J_iret rfl ⟨rfl, rfl⟩ d_Fo_mixed_78
      rw [if_neg hk0] at h
      by_cases hk1 : a3 = (1 : Int32)
      · rw [if_pos hk1] at h
        refine J_swL (off := 44) (tgt := 79) d_Fo_mixed_35 (by decide) (by rw [hk1]; first | done | rfl) (by decide) ?_
        refine J_aload (q := 81) 0 d_Fo_mixed_79 rfl rfl ?_
        refine J_getF (q := 84) cd_10 (by decide) ft_10_1 rfl g_329 rfl d_Fo_mixed_81 rfl ?_
        refine J_iload_n (q := 85) 4 d_Fo_mixed_84 rfl rfl rfl ?_
        obtain ⟨hi6, h⟩ := gu_some h
        refine J_iald (q := 86) rk_301 (by decide) hi6 d_Fo_mixed_85 rfl ?_
        refine J_aload_n (q := 87) 2 d_Fo_mixed_86 rfl rfl rfl ?_
        refine J_aload (q := 89) 0 d_Fo_mixed_87 rfl rfl ?_
        refine J_getF (q := 92) cd_10 (by decide) ft_10_4 rfl g_336 rfl d_Fo_mixed_89 rfl ?_
        refine J_iload_n (q := 93) 4 d_Fo_mixed_92 rfl rfl rfl ?_
        obtain ⟨r7, hr7, h⟩ := bd_some h
        refine J_callVq (rc := 0) (rs := 0) (q := 96) (as := [vr 304 (y2), vi (a2)]) (st := [vi (gI μ 301 (y2) a2.toNatClampNeg)]) (by decide) rfl g_966 sel_Fo_weighed (t_Fo_weighed rk_304 (by decide) rk_704 (by decide) hr7) (by decide) (by decide) g_964 g_967 g_1 hy_Fo_weighed rfl (Nat.le_of_ble_eq_true rfl) d_Fo_mixed_93 rfl ?_
        refine J_iadd (q := 97) d_Fo_mixed_96 rfl ?_
        obtain rfl := Option.some.inj h
        exact J_iret rfl ⟨rfl, rfl⟩ d_Fo_mixed_97
      rw [if_neg hk1] at h
      refine J_swL (off := 63) (tgt := 98) d_Fo_mixed_35 (by decide) (by rw [lv_osw hk0 (by decide), lv_osw hk1 (by decide)]; first | done | rfl) (by decide) ?_
      refine J_ldc (q := 100) d_Fo_mixed_98 g_591 rfl ?_
      obtain rfl := Option.some.inj h
      exact J_iret rfl ⟨rfl, rfl⟩ d_Fo_mixed_100
    · rw [iB_f hb] at h
      refine J_ldc (q := 26) d_Fo_mixed_24 g_591 rfl ?_
      obtain rfl := Option.some.inj h
      exact J_iret rfl ⟨rfl, rfl⟩ d_Fo_mixed_26
def m_Fo_isClass (a1 : Int32) (μ : Mem) : Bool :=
  (m_Fo_within ((a1).toInt64) ((0 : Int64)) ((15 : Int64)) μ)
theorem t_Fo_isClass {a1 : Int32} {μ : Mem} {q : Bool} (h : m_Fo_isClass a1 μ = q) : JM true (1) y_Fo_isClass b_Fo_isClass 1 (some (.boolean)) 0 0 [vi (a1)] μ (QQ (some (vi (b2i q))) μ) := by
  unfold m_Fo_isClass at h
  refine JM.of pl_Fo_isClass (fun ρ => Nat.le_of_ble_eq_true rfl) ?_
  show J (GM true (QQ (some (vi (b2i q))) μ) (some (.boolean)) y_Fo_isClass.name) true b_Fo_isClass R_11 1 (1) 0 0 0 [(0, vi (a1))] [] μ
  refine J_iload_n (q := 1) 0 d_Fo_isClass_0 rfl rfl rfl ?_
  refine J_i2l (q := 2) d_Fo_isClass_1 rfl ?_
  refine J_lconst (q := 3) (v := (0 : Int64)) d_Fo_isClass_2 (by decide) rfl ?_
  refine J_ldc2 (q := 6) d_Fo_isClass_3 g_977 rfl ?_
  refine J_callSq (rc := 0) (rs := 0) (q := 9) (as := [vl ((a1).toInt64), vl ((0 : Int64)), vl ((15 : Int64))]) (st := []) g_300 (t_Fo_within rfl) (by decide) (by decide) g_299 g_301 g_1 hy_Fo_within rfl (Nat.le_of_ble_eq_true rfl) d_Fo_isClass_6 rfl ?_
  subst h
  exact J_zret (b2i01 _) rfl ⟨rfl, rfl⟩ d_Fo_isClass_9
def m_Fo_classOf (a1 : Int32) (a2 : Int32) (a3 : Int32) (μ : Mem) : Option (Bool × Mem) :=
  Option.bind (m_Fo_letterOf (a1) μ) fun r1 =>
  oc r1
 (some ((false, μ)))
 fun y2 => if (m_Fo_within ((a2).toInt64) ((0 : Int64)) ((1 : Int64)) μ) then
 (if (m_Fo_isClass (a3) μ) then
 (if a2 = 0 then
 (ap (sI μ 4 (y2) 8 (a3)) fun μ4 =>
  some ((true, μ4)))
 else
 (ap (sI μ 4 (y2) 9 (a3)) fun μ3 =>
  some ((true, μ3))))
 else
 (some ((false, μ))))
 else
 (some ((false, μ)))
theorem t_Fo_classOf {a1 : Int32} {a2 : Int32} {a3 : Int32} {μ : Mem} {q : Bool × Mem} (h : m_Fo_classOf a1 a2 a3 μ = some q) : JM true (2) y_Fo_classOf b_Fo_classOf 5 (some (.boolean)) 0 0 [vr 11 (0), vi (a1), vi (a2), vi (a3)] μ (QQ (some (vi (b2i q.1))) q.2) := by
  unfold m_Fo_classOf at h
  refine JM.of pl_Fo_classOf (fun ρ => Nat.le_of_ble_eq_true rfl) ?_
  show J (GM true (QQ (some (vi (b2i q.1))) q.2) (some (.boolean)) y_Fo_classOf.name) true b_Fo_classOf R_11 5 (2) 0 0 0 [(0, vr 11 (0)), (1, vi (a1)), (2, vi (a2)), (3, vi (a3))] [] μ
  refine J_aload_n (q := 1) 0 d_Fo_classOf_0 rfl rfl rfl ?_
  refine J_iload_n (q := 2) 1 d_Fo_classOf_1 rfl rfl rfl ?_
  obtain ⟨r1, hr1, h⟩ := bd_some h
  refine J_callVq (rc := 0) (rs := 0) (q := 5) (as := [vi (a1)]) (st := []) (by decide) rfl g_436 sel_Fo_letterOf (t_Fo_letterOf hr1) (by decide) (by decide) g_434 g_437 g_1 hy_Fo_letterOf rfl (Nat.le_of_ble_eq_true rfl) d_Fo_classOf_2 rfl ?_
  refine J_astore (q := 7) (lv' := [(4, vo 4 (r1)), (0, vr 11 (0)), (1, vi (a1)), (2, vi (a2)), (3, vi (a3))]) d_Fo_classOf_5 (by decide) rfl rfl ?_
  refine J_aload (q := 9) 0 d_Fo_classOf_7 rfl rfl ?_
  refine J_nullO (q := 12) (tgt := 29) d_Fo_classOf_9 (by decide) rfl (fun ho => ?_) (fun y2 ho => ?_)
  · subst ho
    rw [oc_none] at h
    refine J_iconst (q := 30) (v := (0 : Int32)) d_Fo_classOf_29 (by decide) rfl ?_
    obtain rfl := Option.some.inj h
    exact J_zret (Or.inl rfl) rfl ⟨rfl, rfl⟩ d_Fo_classOf_30
  · subst ho
    rw [oc_some] at h
    refine J_iload_n (q := 13) 3 d_Fo_classOf_12 rfl rfl rfl ?_
    refine J_i2l (q := 14) d_Fo_classOf_13 rfl ?_
    refine J_lconst (q := 15) (v := (0 : Int64)) d_Fo_classOf_14 (by decide) rfl ?_
    refine J_lconst (q := 16) (v := (1 : Int64)) d_Fo_classOf_15 (by decide) rfl ?_
    refine J_callSq (rc := 0) (rs := 0) (q := 19) (as := [vl ((a2).toInt64), vl ((0 : Int64)), vl ((1 : Int64))]) (st := []) g_300 (t_Fo_within rfl) (by decide) (by decide) g_299 g_301 g_1 hy_Fo_within rfl (Nat.le_of_ble_eq_true rfl) d_Fo_classOf_16 rfl ?_
    refine J_ifB_eq (q := 22) (tgt := 29) d_Fo_classOf_19 (by decide) rfl (fun hb => ?_) (fun hb => ?_)
    · rw [iB_f hb] at h
      refine J_iconst (q := 30) (v := (0 : Int32)) d_Fo_classOf_29 (by decide) rfl ?_
      obtain rfl := Option.some.inj h
      exact J_zret (Or.inl rfl) rfl ⟨rfl, rfl⟩ d_Fo_classOf_30
    · rw [iB_t hb] at h
      refine J_iload_n (q := 23) 4 d_Fo_classOf_22 rfl rfl rfl ?_
      refine J_callSq (rc := 0) (rs := 0) (q := 26) (as := [vi (a3)]) (st := []) g_975 (t_Fo_isClass rfl) (by decide) (by decide) g_974 g_976 g_1 hy_Fo_isClass rfl (Nat.le_of_ble_eq_true rfl) d_Fo_classOf_23 rfl ?_
      refine J_ifB_ne (q := 29) (tgt := 31) d_Fo_classOf_26 (by decide) rfl (fun hb => ?_) (fun hb => ?_)
      · rw [iB_t hb] at h
        refine J_iload_n (q := 32) 3 d_Fo_classOf_31 rfl rfl rfl ?_
        refine J_if_ne (q := 35) (tgt := 44) d_Fo_classOf_32 (by decide) rfl (fun hc => ?_) (fun hc => ?_)
        · rw [if_neg hc] at h
          refine J_aload (q := 46) 0 d_Fo_classOf_44 rfl rfl ?_
          refine J_iload_n (q := 47) 4 d_Fo_classOf_46 rfl rfl rfl ?_
          refine J_putI (q := 50) (j := 9) cd_4 (by decide) rfl rfl rfl g_407 rfl d_Fo_classOf_47 rfl ?_
          obtain ⟨μ3, hμ3, h⟩ := ap_eq h
          refine J_nmM hμ3 ?_
          refine J_iconst (q := 51) (v := (1 : Int32)) d_Fo_classOf_50 (by decide) rfl ?_
          obtain rfl := Option.some.inj h
          exact J_zret (Or.inr rfl) rfl ⟨rfl, rfl⟩ d_Fo_classOf_51
        · rw [if_pos hc] at h
          refine J_aload (q := 37) 0 d_Fo_classOf_35 rfl rfl ?_
          refine J_iload_n (q := 38) 4 d_Fo_classOf_37 rfl rfl rfl ?_
          refine J_putI (q := 41) (j := 8) cd_4 (by decide) rfl rfl rfl g_405 rfl d_Fo_classOf_38 rfl ?_
          obtain ⟨μ4, hμ4, h⟩ := ap_eq h
          refine J_nmM hμ4 ?_
          refine J_goto (q := 50) d_Fo_classOf_41 (by decide) ?_
          refine J_iconst (q := 51) (v := (1 : Int32)) d_Fo_classOf_50 (by decide) rfl ?_
          obtain rfl := Option.some.inj h
          exact J_zret (Or.inr rfl) rfl ⟨rfl, rfl⟩ d_Fo_classOf_51
      · rw [iB_f hb] at h
        refine J_iconst (q := 30) (v := (0 : Int32)) d_Fo_classOf_29 (by decide) rfl ?_
        obtain rfl := Option.some.inj h
        exact J_zret (Or.inl rfl) rfl ⟨rfl, rfl⟩ d_Fo_classOf_30
def m_Fo_kern (a1 : Int32) (a2 : Int32) (a3 : Int32) (μ : Mem) : Option (Bool × Mem) :=
  if (m_Fo_isClass (a1) μ) then
 (if (m_Fo_isClass (a2) μ) then
 (if (m_Fo_isBy (a3) μ) then
 (gu (a1) 16 <|
  gu (a2) 16 <|
  ap (sI μ 560 (16 * 0 + a1.toNatClampNeg) a2.toNatClampNeg (a3)) fun μ3 =>
  some ((true, μ3)))
 else
 (some ((false, μ))))
 else
 (some ((false, μ))))
 else
 (some ((false, μ)))
theorem t_Fo_kern {a1 : Int32} {a2 : Int32} {a3 : Int32} {μ : Mem} {q : Bool × Mem} (h : m_Fo_kern a1 a2 a3 μ = some q) : JM true (2) y_Fo_kern b_Fo_kern 4 (some (.boolean)) 0 0 [vr 11 (0), vi (a1), vi (a2), vi (a3)] μ (QQ (some (vi (b2i q.1))) q.2) := by
  unfold m_Fo_kern at h
  refine JM.of pl_Fo_kern (fun ρ => Nat.le_of_ble_eq_true rfl) ?_
  show J (GM true (QQ (some (vi (b2i q.1))) q.2) (some (.boolean)) y_Fo_kern.name) true b_Fo_kern R_11 4 (2) 0 0 0 [(0, vr 11 (0)), (1, vi (a1)), (2, vi (a2)), (3, vi (a3))] [] μ
  refine J_iload_n (q := 1) 1 d_Fo_kern_0 rfl rfl rfl ?_
  refine J_callSq (rc := 0) (rs := 0) (q := 4) (as := [vi (a1)]) (st := []) g_975 (t_Fo_isClass rfl) (by decide) (by decide) g_974 g_976 g_1 hy_Fo_isClass rfl (Nat.le_of_ble_eq_true rfl) d_Fo_kern_1 rfl ?_
  refine J_ifB_eq (q := 7) (tgt := 21) d_Fo_kern_4 (by decide) rfl (fun hb => ?_) (fun hb => ?_)
  · rw [iB_f hb] at h
    refine J_iconst (q := 22) (v := (0 : Int32)) d_Fo_kern_21 (by decide) rfl ?_
    obtain rfl := Option.some.inj h
    exact J_zret (Or.inl rfl) rfl ⟨rfl, rfl⟩ d_Fo_kern_22
  · rw [iB_t hb] at h
    refine J_iload_n (q := 8) 2 d_Fo_kern_7 rfl rfl rfl ?_
    refine J_callSq (rc := 0) (rs := 0) (q := 11) (as := [vi (a2)]) (st := []) g_975 (t_Fo_isClass rfl) (by decide) (by decide) g_974 g_976 g_1 hy_Fo_isClass rfl (Nat.le_of_ble_eq_true rfl) d_Fo_kern_8 rfl ?_
    refine J_ifB_eq (q := 14) (tgt := 21) d_Fo_kern_11 (by decide) rfl (fun hb => ?_) (fun hb => ?_)
    · rw [iB_f hb] at h
      refine J_iconst (q := 22) (v := (0 : Int32)) d_Fo_kern_21 (by decide) rfl ?_
      obtain rfl := Option.some.inj h
      exact J_zret (Or.inl rfl) rfl ⟨rfl, rfl⟩ d_Fo_kern_22
    · rw [iB_t hb] at h
      refine J_iload_n (q := 15) 3 d_Fo_kern_14 rfl rfl rfl ?_
      refine J_callSq (rc := 0) (rs := 0) (q := 18) (as := [vi (a3)]) (st := []) g_952 (t_Fo_isBy rfl) (by decide) (by decide) g_951 g_953 g_1 hy_Fo_isBy rfl (Nat.le_of_ble_eq_true rfl) d_Fo_kern_15 rfl ?_
      refine J_ifB_ne (q := 21) (tgt := 23) d_Fo_kern_18 (by decide) rfl (fun hb => ?_) (fun hb => ?_)
      · rw [iB_t hb] at h
        refine J_aload_n (q := 24) 0 d_Fo_kern_23 rfl rfl rfl ?_
        refine J_getF (q := 27) cd_11 (by decide) ft_11_10 rfl g_264 rfl d_Fo_kern_24 rfl ?_
        refine J_getF (q := 30) cd_3 (by decide) ft_3_0 rfl g_203 rfl d_Fo_kern_27 rfl ?_
        refine J_iload_n (q := 31) 1 d_Fo_kern_30 rfl rfl rfl ?_
        obtain ⟨hi1, h⟩ := gu_some h
        refine J_ald6 (q := 32) rk_160 (by decide) hi1 d_Fo_kern_31 rfl ?_
        refine J_iload_n (q := 33) 2 d_Fo_kern_32 rfl rfl rfl ?_
        refine J_iload_n (q := 34) 3 d_Fo_kern_33 rfl rfl rfl ?_
        obtain ⟨hi2, h⟩ := gu_some h
        refine J_iast (q := 35) rk_560 (by decide) hi2 d_Fo_kern_34 rfl ?_
        obtain ⟨μ3, hμ3, h⟩ := ap_eq h
        refine J_nmM hμ3 ?_
        refine J_iconst (q := 36) (v := (1 : Int32)) d_Fo_kern_35 (by decide) rfl ?_
        obtain rfl := Option.some.inj h
        exact J_zret (Or.inr rfl) rfl ⟨rfl, rfl⟩ d_Fo_kern_36
      · rw [iB_f hb] at h
        refine J_iconst (q := 22) (v := (0 : Int32)) d_Fo_kern_21 (by decide) rfl ?_
        obtain rfl := Option.some.inj h
        exact J_zret (Or.inl rfl) rfl ⟨rfl, rfl⟩ d_Fo_kern_22
def mj_Fo_exception_34 (a1 : Int32) (a2 : Int32) (a3 : Int32) (μ : Mem) : Option (Bool × Mem) :=
  gu (a1) 32 <|
  gu (a2) 32 <|
  ap (sI μ 561 (32 * 0 + a1.toNatClampNeg) a2.toNatClampNeg (a3)) fun μ7 =>
  some ((true, μ7))
theorem tj_Fo_exception_34 (a1 : Int32) (a2 : Int32) (a3 : Int32) {q : Bool × Mem}  (μ : Mem) (h : mj_Fo_exception_34 a1 a2 a3  μ = some q) : J (GM true (QQ (some (vi (b2i q.1))) q.2) (some (.boolean)) y_Fo_exception.name) true b_Fo_exception R_11 4 (2) 0 0 34 [(0, vr 11 (0)), (1, vi (a1)), (2, vi (a2)), (3, vi (a3))] [] μ := by
  unfold mj_Fo_exception_34 at h
  refine J_aload_n (q := 35) 0 d_Fo_exception_34 rfl rfl rfl ?_
  refine J_getF (q := 38) cd_11 (by decide) ft_11_10 rfl g_264 rfl d_Fo_exception_35 rfl ?_
  refine J_getF (q := 41) cd_3 (by decide) ft_3_1 rfl g_205 rfl d_Fo_exception_38 rfl ?_
  refine J_iload_n (q := 42) 1 d_Fo_exception_41 rfl rfl rfl ?_
  obtain ⟨hi5, h⟩ := gu_some h
  refine J_ald6 (q := 43) rk_161 (by decide) hi5 d_Fo_exception_42 rfl ?_
  refine J_iload_n (q := 44) 2 d_Fo_exception_43 rfl rfl rfl ?_
  refine J_iload_n (q := 45) 3 d_Fo_exception_44 rfl rfl rfl ?_
  obtain ⟨hi6, h⟩ := gu_some h
  refine J_iast (q := 46) rk_561 (by decide) hi6 d_Fo_exception_45 rfl ?_
  obtain ⟨μ7, hμ7, h⟩ := ap_eq h
  refine J_nmM hμ7 ?_
  refine J_iconst (q := 47) (v := (1 : Int32)) d_Fo_exception_46 (by decide) rfl ?_
  obtain rfl := Option.some.inj h
  exact J_zret (Or.inr rfl) rfl ⟨rfl, rfl⟩ d_Fo_exception_47
def m_Fo_exception (a1 : Int32) (a2 : Int32) (a3 : Int32) (μ : Mem) : Option (Bool × Mem) :=
  Option.bind (m_Fo_letterOf (a1) μ) fun r1 =>
  oc r1
 (some ((false, μ)))
 fun y2 => Option.bind (m_Fo_letterOf (a2) μ) fun r3 =>
  oc r3
 (some ((false, μ)))
 fun y4 => if (m_Fo_isBy (a3) μ) then
 (mj_Fo_exception_34 a1 a2 a3 μ)
 else
 (if a3 = (10000 : Int32) then
 (mj_Fo_exception_34 a1 a2 a3 μ)
 else
 (some ((false, μ))))
theorem t_Fo_exception {a1 : Int32} {a2 : Int32} {a3 : Int32} {μ : Mem} {q : Bool × Mem} (h : m_Fo_exception a1 a2 a3 μ = some q) : JM true (2) y_Fo_exception b_Fo_exception 4 (some (.boolean)) 0 0 [vr 11 (0), vi (a1), vi (a2), vi (a3)] μ (QQ (some (vi (b2i q.1))) q.2) := by
  unfold m_Fo_exception at h
  refine JM.of pl_Fo_exception (fun ρ => Nat.le_of_ble_eq_true rfl) ?_
  show J (GM true (QQ (some (vi (b2i q.1))) q.2) (some (.boolean)) y_Fo_exception.name) true b_Fo_exception R_11 4 (2) 0 0 0 [(0, vr 11 (0)), (1, vi (a1)), (2, vi (a2)), (3, vi (a3))] [] μ
  refine J_aload_n (q := 1) 0 d_Fo_exception_0 rfl rfl rfl ?_
  refine J_iload_n (q := 2) 1 d_Fo_exception_1 rfl rfl rfl ?_
  obtain ⟨r1, hr1, h⟩ := bd_some h
  refine J_callVq (rc := 0) (rs := 0) (q := 5) (as := [vi (a1)]) (st := []) (by decide) rfl g_436 sel_Fo_letterOf (t_Fo_letterOf hr1) (by decide) (by decide) g_434 g_437 g_1 hy_Fo_letterOf rfl (Nat.le_of_ble_eq_true rfl) d_Fo_exception_2 rfl ?_
  refine J_nullO (q := 8) (tgt := 16) d_Fo_exception_5 (by decide) rfl (fun ho => ?_) (fun y2 ho => ?_)
  · subst ho
    rw [oc_none] at h
    refine J_iconst (q := 17) (v := (0 : Int32)) d_Fo_exception_16 (by decide) rfl ?_
    obtain rfl := Option.some.inj h
    exact J_zret (Or.inl rfl) rfl ⟨rfl, rfl⟩ d_Fo_exception_17
  · subst ho
    rw [oc_some] at h
    refine J_aload_n (q := 9) 0 d_Fo_exception_8 rfl rfl rfl ?_
    refine J_iload_n (q := 10) 2 d_Fo_exception_9 rfl rfl rfl ?_
    obtain ⟨r3, hr3, h⟩ := bd_some h
    refine J_callVq (rc := 0) (rs := 0) (q := 13) (as := [vi (a2)]) (st := []) (by decide) rfl g_436 sel_Fo_letterOf (t_Fo_letterOf hr3) (by decide) (by decide) g_434 g_437 g_1 hy_Fo_letterOf rfl (Nat.le_of_ble_eq_true rfl) d_Fo_exception_10 rfl ?_
    refine J_nonnullO (q := 16) (tgt := 18) d_Fo_exception_13 (by decide) rfl (fun y4 ho => ?_) (fun ho => ?_)
    · subst ho
      rw [oc_some] at h
      refine J_iload_n (q := 19) 3 d_Fo_exception_18 rfl rfl rfl ?_
      refine J_callSq (rc := 0) (rs := 0) (q := 22) (as := [vi (a3)]) (st := []) g_952 (t_Fo_isBy rfl) (by decide) (by decide) g_951 g_953 g_1 hy_Fo_isBy rfl (Nat.le_of_ble_eq_true rfl) d_Fo_exception_19 rfl ?_
      refine J_ifB_ne (q := 25) (tgt := 34) d_Fo_exception_22 (by decide) rfl (fun hb => ?_) (fun hb => ?_)
      · rw [iB_t hb] at h
        refine J_pick [0, 1, 2, 3] rfl ?_
        exact tj_Fo_exception_34 a1 a2 a3 _ h
      · rw [iB_f hb] at h
        refine J_iload_n (q := 26) 3 d_Fo_exception_25 rfl rfl rfl ?_
        refine J_sipush (q := 29) (v := (10000 : Int32)) d_Fo_exception_26 (by decide) rfl ?_
        refine J_icmp_eq (q := 32) (tgt := 34) d_Fo_exception_29 (by decide) rfl (fun hc => ?_) (fun hc => ?_)
        · rw [if_pos hc] at h
          refine J_pick [0, 1, 2, 3] rfl ?_
          exact tj_Fo_exception_34 a1 a2 a3 _ h
        · rw [if_neg hc] at h
          refine J_iconst (q := 33) (v := (0 : Int32)) d_Fo_exception_32 (by decide) rfl ?_
          obtain rfl := Option.some.inj h
          exact J_zret (Or.inl rfl) rfl ⟨rfl, rfl⟩ d_Fo_exception_33
    · subst ho
      rw [oc_none] at h
      refine J_iconst (q := 17) (v := (0 : Int32)) d_Fo_exception_16 (by decide) rfl ?_
      obtain rfl := Option.some.inj h
      exact J_zret (Or.inl rfl) rfl ⟨rfl, rfl⟩ d_Fo_exception_17
def m_Ke_between (a2 : Int32) (a3 : Int32) (μ : Mem) : Option (Int32) :=
  if (m_Fo_within ((a2).toInt64) ((0 : Int64)) (((32 : Int32) - (1 : Int32)).toInt64) μ) then
 (if (m_Fo_within ((a3).toInt64) ((0 : Int64)) (((32 : Int32) - (1 : Int32)).toInt64) μ) then
 (gu (a2) 32 <|
  ap (gR μ 320 (0) a2.toNatClampNeg) fun o2 =>
  gu (a3) 32 <|
  ap (gR μ 320 (0) a3.toNatClampNeg) fun o4 =>
  oc o2
 (some ((0 : Int32)))
 fun y5 => oc o4
 (some ((0 : Int32)))
 fun y6 => gu (a2) 32 <|
  gu (a3) 32 <|
  ap (gI μ 561 (32 * 0 + a2.toNatClampNeg) a3.toNatClampNeg) fun x9 =>
  if x9 = (10000 : Int32) then
 (gu (gI μ 4 (y5) 9) 16 <|
  gu (gI μ 4 (y6) 8) 16 <|
  some (gI μ 560 (16 * 0 + (gI μ 4 (y5) 9).toNatClampNeg) (gI μ 4 (y6) 8).toNatClampNeg))
 else
 (some (x9)))
 else
 (some ((0 : Int32))))
 else
 (some ((0 : Int32)))
theorem t_Ke_between {a2 : Int32} {a3 : Int32} {μ : Mem} {q : Int32} (h : m_Ke_between a2 a3 μ = some q) : JM true (1) y_Ke_between b_Ke_between 7 (some (.int)) 0 0 [vr 3 (0), vr 320 (0), vi (a2), vi (a3)] μ (QQ (some (vi q)) μ) := by
  unfold m_Ke_between at h
  refine JM.of pl_Ke_between (fun ρ => Nat.le_of_ble_eq_true rfl) ?_
  show J (GM true (QQ (some (vi q)) μ) (some (.int)) y_Ke_between.name) true b_Ke_between R_3 7 (1) 0 0 0 [(0, vr 3 (0)), (1, vr 320 (0)), (2, vi (a2)), (3, vi (a3))] [] μ
  refine J_iload_n (q := 1) 2 d_Ke_between_0 rfl rfl rfl ?_
  refine J_i2l (q := 2) d_Ke_between_1 rfl ?_
  refine J_lconst (q := 3) (v := (0 : Int64)) d_Ke_between_2 (by decide) rfl ?_
  refine J_aload_n (q := 4) 1 d_Ke_between_3 rfl rfl rfl ?_
  refine J_alen (q := 5) (v := (32 : Int32)) rk_320 (by decide) (Or.inr (Or.inr rfl)) rfl d_Ke_between_4 rfl ?_
  refine J_iconst (q := 6) (v := (1 : Int32)) d_Ke_between_5 (by decide) rfl ?_
  refine J_isub (q := 7) d_Ke_between_6 rfl ?_
  refine J_i2l (q := 8) d_Ke_between_7 rfl ?_
  refine J_callSNq (rc := 0) (rs := 0) (q := 11) (as := [vl ((a2).toInt64), vl ((0 : Int64)), vl (((32 : Int32) - (1 : Int32)).toInt64)]) (st := []) g_300 (t_Fo_within rfl) (by decide) (by decide) nn_19 g_301 g_1 hy_Fo_within rfl (Nat.le_of_ble_eq_true rfl) d_Ke_between_8 rfl ?_
  refine J_ifB_eq (q := 14) (tgt := 28) d_Ke_between_11 (by decide) rfl (fun hb => ?_) (fun hb => ?_)
  · rw [iB_f hb] at h
    refine J_iconst (q := 29) (v := (0 : Int32)) d_Ke_between_28 (by decide) rfl ?_
    obtain rfl := Option.some.inj h
    exact J_iret rfl ⟨rfl, rfl⟩ d_Ke_between_29
  · rw [iB_t hb] at h
    refine J_iload_n (q := 15) 3 d_Ke_between_14 rfl rfl rfl ?_
    refine J_i2l (q := 16) d_Ke_between_15 rfl ?_
    refine J_lconst (q := 17) (v := (0 : Int64)) d_Ke_between_16 (by decide) rfl ?_
    refine J_aload_n (q := 18) 1 d_Ke_between_17 rfl rfl rfl ?_
    refine J_alen (q := 19) (v := (32 : Int32)) rk_320 (by decide) (Or.inr (Or.inr rfl)) rfl d_Ke_between_18 rfl ?_
    refine J_iconst (q := 20) (v := (1 : Int32)) d_Ke_between_19 (by decide) rfl ?_
    refine J_isub (q := 21) d_Ke_between_20 rfl ?_
    refine J_i2l (q := 22) d_Ke_between_21 rfl ?_
    refine J_callSNq (rc := 0) (rs := 0) (q := 25) (as := [vl ((a3).toInt64), vl ((0 : Int64)), vl (((32 : Int32) - (1 : Int32)).toInt64)]) (st := []) g_300 (t_Fo_within rfl) (by decide) (by decide) nn_19 g_301 g_1 hy_Fo_within rfl (Nat.le_of_ble_eq_true rfl) d_Ke_between_22 rfl ?_
    refine J_ifB_ne (q := 28) (tgt := 30) d_Ke_between_25 (by decide) rfl (fun hb => ?_) (fun hb => ?_)
    · rw [iB_t hb] at h
      refine J_aload_n (q := 31) 1 d_Ke_between_30 rfl rfl rfl ?_
      refine J_iload_n (q := 32) 2 d_Ke_between_31 rfl rfl rfl ?_
      obtain ⟨hi1, h⟩ := gu_some h
      refine J_ald5 (q := 33) rk_320 (by decide) hi1 d_Ke_between_32 rfl ?_
      obtain ⟨o2, ho2, h⟩ := ap_eq h
      refine J_nmO ho2 ?_
      refine J_astore (q := 35) (lv' := [(4, vo 4 (o2)), (0, vr 3 (0)), (1, vr 320 (0)), (2, vi (a2)), (3, vi (a3))]) d_Ke_between_33 (by decide) rfl rfl ?_
      refine J_aload_n (q := 36) 2 d_Ke_between_35 rfl rfl rfl ?_
      refine J_iload_n (q := 37) 4 d_Ke_between_36 rfl rfl rfl ?_
      obtain ⟨hi3, h⟩ := gu_some h
      refine J_ald5 (q := 38) rk_320 (by decide) hi3 d_Ke_between_37 rfl ?_
      obtain ⟨o4, ho4, h⟩ := ap_eq h
      refine J_nmO ho4 ?_
      refine J_astore (q := 40) (lv' := [(5, vo 4 (o4)), (4, vo 4 (o2)), (0, vr 3 (0)), (1, vr 320 (0)), (2, vi (a2)), (3, vi (a3))]) d_Ke_between_38 (by decide) rfl rfl ?_
      refine J_aload (q := 42) 1 d_Ke_between_40 rfl rfl ?_
      refine J_nullO (q := 45) (tgt := 50) d_Ke_between_42 (by decide) rfl (fun ho => ?_) (fun y5 ho => ?_)
      · subst ho
        rw [oc_none] at h
        refine J_iconst (q := 51) (v := (0 : Int32)) d_Ke_between_50 (by decide) rfl ?_
        obtain rfl := Option.some.inj h
        exact J_iret rfl ⟨rfl, rfl⟩ d_Ke_between_51
      · subst ho
        rw [oc_some] at h
        refine J_aload (q := 47) 0 d_Ke_between_45 rfl rfl ?_
        refine J_nonnullO (q := 50) (tgt := 52) d_Ke_between_47 (by decide) rfl (fun y6 ho => ?_) (fun ho => ?_)
        · subst ho
          rw [oc_some] at h
          refine J_aload_n (q := 53) 2 d_Ke_between_52 rfl rfl rfl ?_
          refine J_getF (q := 56) cd_3 (by decide) ft_3_1 rfl g_204 rfl d_Ke_between_53 rfl ?_
          refine J_iload_n (q := 57) 4 d_Ke_between_56 rfl rfl rfl ?_
          obtain ⟨hi7, h⟩ := gu_some h
          refine J_ald6 (q := 58) rk_161 (by decide) hi7 d_Ke_between_57 rfl ?_
          refine J_iload_n (q := 59) 5 d_Ke_between_58 rfl rfl rfl ?_
          obtain ⟨hi8, h⟩ := gu_some h
          refine J_iald (q := 60) rk_561 (by decide) hi8 d_Ke_between_59 rfl ?_
          obtain ⟨x9, hx9, h⟩ := ap_eq h
          refine J_nmI hx9 ?_
          refine J_istore (q := 62) (lv' := [(6, vi (x9)), (5, vr 4 (y6)), (4, vr 4 (y5)), (0, vr 3 (0)), (1, vr 320 (0)), (2, vi (a2)), (3, vi (a3))]) d_Ke_between_60 (by decide) rfl rfl ?_
          refine J_iload (q := 64) 0 d_Ke_between_62 rfl rfl ?_
          refine J_sipush (q := 67) (v := (10000 : Int32)) d_Ke_between_64 (by decide) rfl ?_
          refine J_icmp_eq (q := 70) (tgt := 75) d_Ke_between_67 (by decide) rfl (fun hc => ?_) (fun hc => ?_)
          · rw [if_pos hc] at h
            refine J_aload_n (q := 76) 3 d_Ke_between_75 rfl rfl rfl ?_
            refine J_getF (q := 79) cd_3 (by decide) ft_3_0 rfl g_202 rfl d_Ke_between_76 rfl ?_
            refine J_aload (q := 81) 2 d_Ke_between_79 rfl rfl ?_
            refine J_getI (q := 84) (j := 9) cd_4 (by decide) (Or.inl rfl) g_406 rfl d_Ke_between_81 rfl ?_
            obtain ⟨hi10, h⟩ := gu_some h
            refine J_ald6 (q := 85) rk_160 (by decide) hi10 d_Ke_between_84 rfl ?_
            refine J_aload (q := 87) 1 d_Ke_between_85 rfl rfl ?_
            refine J_getI (q := 90) (j := 8) cd_4 (by decide) (Or.inl rfl) g_404 rfl d_Ke_between_87 rfl ?_
            obtain ⟨hi11, h⟩ := gu_some h
            refine J_iald (q := 91) rk_560 (by decide) hi11 d_Ke_between_90 rfl ?_
            obtain rfl := Option.some.inj h
            exact J_iret rfl ⟨rfl, rfl⟩ d_Ke_between_91
          · rw [if_neg hc] at h
            refine J_iload (q := 72) 0 d_Ke_between_70 rfl rfl ?_
            refine J_goto (q := 91) d_Ke_between_72 (by decide) ?_
            obtain rfl := Option.some.inj h
            exact J_iret rfl ⟨rfl, rfl⟩ d_Ke_between_91
        · subst ho
          rw [oc_none] at h
          refine J_iconst (q := 51) (v := (0 : Int32)) d_Ke_between_50 (by decide) rfl ?_
          obtain rfl := Option.some.inj h
          exact J_iret rfl ⟨rfl, rfl⟩ d_Ke_between_51
    · rw [iB_f hb] at h
      refine J_iconst (q := 29) (v := (0 : Int32)) d_Ke_between_28 (by decide) rfl ?_
      obtain rfl := Option.some.inj h
      exact J_iret rfl ⟨rfl, rfl⟩ d_Ke_between_29
def m_Fo_kerning (a1 : Int32) (a2 : Int32) (μ : Mem) : Option (Int32) :=
  Option.bind (m_Ke_between (a1) (a2) μ) fun r1 =>
  some (r1)
theorem t_Fo_kerning {a1 : Int32} {a2 : Int32} {μ : Mem} {q : Int32} (h : m_Fo_kerning a1 a2 μ = some q) : JM true (2) y_Fo_kerning b_Fo_kerning 3 (some (.int)) 0 0 [vr 11 (0), vi (a1), vi (a2)] μ (QQ (some (vi q)) μ) := by
  unfold m_Fo_kerning at h
  refine JM.of pl_Fo_kerning (fun ρ => Nat.le_of_ble_eq_true rfl) ?_
  show J (GM true (QQ (some (vi q)) μ) (some (.int)) y_Fo_kerning.name) true b_Fo_kerning R_11 3 (2) 0 0 0 [(0, vr 11 (0)), (1, vi (a1)), (2, vi (a2))] [] μ
  refine J_aload_n (q := 1) 0 d_Fo_kerning_0 rfl rfl rfl ?_
  refine J_getF (q := 4) cd_11 (by decide) ft_11_10 rfl g_264 rfl d_Fo_kerning_1 rfl ?_
  refine J_aload_n (q := 5) 0 d_Fo_kerning_4 rfl rfl rfl ?_
  refine J_getF (q := 8) cd_11 (by decide) ft_11_0 rfl g_254 rfl d_Fo_kerning_5 rfl ?_
  refine J_iload_n (q := 9) 1 d_Fo_kerning_8 rfl rfl rfl ?_
  refine J_iload_n (q := 10) 2 d_Fo_kerning_9 rfl rfl rfl ?_
  obtain ⟨r1, hr1, h⟩ := bd_some h
  refine J_callVq (rc := 0) (rs := 0) (q := 13) (as := [vr 320 (0), vi (a1), vi (a2)]) (st := []) (by decide) rfl g_991 g_992 (t_Ke_between hr1) (by decide) (by decide) g_990 g_993 g_7 hy_Ke_between rfl (Nat.le_of_ble_eq_true rfl) d_Fo_kerning_10 rfl ?_
  obtain rfl := Option.some.inj h
  exact J_iret rfl ⟨rfl, rfl⟩ d_Fo_kerning_13
def m_Li_addRule (a1 : Int32) (a2 : Int32) (a3 : Int32) (a4 : Int32) (μ : Mem) : Option (Int32 × Mem) :=
  if gI μ 5 (0) 2 < (40 : Int32) then
 (gu ((0 : Int32)) 3 <|
  gu (gI μ 5 (0) 2) 40 <|
  ap (sI μ 600 (3 * 0 + ((0 : Int32)).toNatClampNeg) (gI μ 5 (0) 2).toNatClampNeg (a1)) fun μ3 =>
  gu ((1 : Int32)) 3 <|
  gu (gI μ3 5 (0) 2) 40 <|
  ap (sI μ3 600 (3 * 0 + ((1 : Int32)).toNatClampNeg) (gI μ3 5 (0) 2).toNatClampNeg (a2)) fun μ6 =>
  gu ((2 : Int32)) 3 <|
  gu (gI μ6 5 (0) 2) 40 <|
  ap (sI μ6 600 (3 * 0 + ((2 : Int32)).toNatClampNeg) (gI μ6 5 (0) 2).toNatClampNeg (a3)) fun μ9 =>
  gu (gI μ9 5 (0) 2) 40 <|
  ap (sI μ9 201 (0) (gI μ9 5 (0) 2).toNatClampNeg (a4)) fun μ11 =>
  ap (sI μ11 5 (0) 2 ((gI μ11 5 (0) 2) + ((1 : Int32)))) fun μ12 =>
  some ((gI μ12 5 (0) 2, μ12)))
 else
 (some (((-1 : Int32), μ)))
theorem t_Li_addRule {a1 : Int32} {a2 : Int32} {a3 : Int32} {a4 : Int32} {μ : Mem} {q : Int32 × Mem} (h : m_Li_addRule a1 a2 a3 a4 μ = some q) : JM true (0) y_Li_addRule b_Li_addRule 5 (some (.int)) 0 0 [vr 5 (0), vi (a1), vi (a2), vi (a3), vi (a4)] μ (QQ (some (vi q.1)) q.2) := by
  unfold m_Li_addRule at h
  refine JM.of pl_Li_addRule (fun ρ => Nat.le_of_ble_eq_true rfl) ?_
  show J (GM true (QQ (some (vi q.1)) q.2) (some (.int)) y_Li_addRule.name) true b_Li_addRule R_5 5 (0) 0 0 0 [(0, vr 5 (0)), (1, vi (a1)), (2, vi (a2)), (3, vi (a3)), (4, vi (a4))] [] μ
  refine J_aload_n (q := 1) 0 d_Li_addRule_0 rfl rfl rfl ?_
  refine J_getI (q := 4) (j := 2) cd_5 (by decide) (Or.inl rfl) g_220 rfl d_Li_addRule_1 rfl ?_
  refine J_bipush (q := 6) (v := (40 : Int32)) d_Li_addRule_4 (by decide) rfl ?_
  refine J_icmp_lt (q := 9) (tgt := 11) d_Li_addRule_6 (by decide) rfl (fun hc => ?_) (fun hc => ?_)
  · rw [if_pos hc] at h
    refine J_aload_n (q := 12) 0 d_Li_addRule_11 rfl rfl rfl ?_
    refine J_getF (q := 15) cd_5 (by decide) ft_5_0 rfl g_218 rfl d_Li_addRule_12 rfl ?_
    refine J_iconst (q := 16) (v := (0 : Int32)) d_Li_addRule_15 (by decide) rfl ?_
    obtain ⟨hi1, h⟩ := gu_some h
    refine J_ald6 (q := 17) rk_200 (by decide) hi1 d_Li_addRule_16 rfl ?_
    refine J_aload_n (q := 18) 0 d_Li_addRule_17 rfl rfl rfl ?_
    refine J_getI (q := 21) (j := 2) cd_5 (by decide) (Or.inl rfl) g_220 rfl d_Li_addRule_18 rfl ?_
    refine J_iload_n (q := 22) 1 d_Li_addRule_21 rfl rfl rfl ?_
    obtain ⟨hi2, h⟩ := gu_some h
    refine J_iast (q := 23) rk_600 (by decide) hi2 d_Li_addRule_22 rfl ?_
    obtain ⟨μ3, hμ3, h⟩ := ap_eq h
    refine J_nmM hμ3 ?_
    refine J_aload_n (q := 24) 0 d_Li_addRule_23 rfl rfl rfl ?_
    refine J_getF (q := 27) cd_5 (by decide) ft_5_0 rfl g_218 rfl d_Li_addRule_24 rfl ?_
    refine J_iconst (q := 28) (v := (1 : Int32)) d_Li_addRule_27 (by decide) rfl ?_
    obtain ⟨hi4, h⟩ := gu_some h
    refine J_ald6 (q := 29) rk_200 (by decide) hi4 d_Li_addRule_28 rfl ?_
    refine J_aload_n (q := 30) 0 d_Li_addRule_29 rfl rfl rfl ?_
    refine J_getI (q := 33) (j := 2) cd_5 (by decide) (Or.inl rfl) g_220 rfl d_Li_addRule_30 rfl ?_
    refine J_iload_n (q := 34) 2 d_Li_addRule_33 rfl rfl rfl ?_
    obtain ⟨hi5, h⟩ := gu_some h
    refine J_iast (q := 35) rk_600 (by decide) hi5 d_Li_addRule_34 rfl ?_
    obtain ⟨μ6, hμ6, h⟩ := ap_eq h
    refine J_nmM hμ6 ?_
    refine J_aload_n (q := 36) 0 d_Li_addRule_35 rfl rfl rfl ?_
    refine J_getF (q := 39) cd_5 (by decide) ft_5_0 rfl g_218 rfl d_Li_addRule_36 rfl ?_
    refine J_iconst (q := 40) (v := (2 : Int32)) d_Li_addRule_39 (by decide) rfl ?_
    obtain ⟨hi7, h⟩ := gu_some h
    refine J_ald6 (q := 41) rk_200 (by decide) hi7 d_Li_addRule_40 rfl ?_
    refine J_aload_n (q := 42) 0 d_Li_addRule_41 rfl rfl rfl ?_
    refine J_getI (q := 45) (j := 2) cd_5 (by decide) (Or.inl rfl) g_220 rfl d_Li_addRule_42 rfl ?_
    refine J_iload_n (q := 46) 3 d_Li_addRule_45 rfl rfl rfl ?_
    obtain ⟨hi8, h⟩ := gu_some h
    refine J_iast (q := 47) rk_600 (by decide) hi8 d_Li_addRule_46 rfl ?_
    obtain ⟨μ9, hμ9, h⟩ := ap_eq h
    refine J_nmM hμ9 ?_
    refine J_aload_n (q := 48) 0 d_Li_addRule_47 rfl rfl rfl ?_
    refine J_getF (q := 51) cd_5 (by decide) ft_5_1 rfl g_219 rfl d_Li_addRule_48 rfl ?_
    refine J_aload_n (q := 52) 0 d_Li_addRule_51 rfl rfl rfl ?_
    refine J_getI (q := 55) (j := 2) cd_5 (by decide) (Or.inl rfl) g_220 rfl d_Li_addRule_52 rfl ?_
    refine J_iload (q := 57) 4 d_Li_addRule_55 rfl rfl ?_
    obtain ⟨hi10, h⟩ := gu_some h
    refine J_iast (q := 58) rk_201 (by decide) hi10 d_Li_addRule_57 rfl ?_
    obtain ⟨μ11, hμ11, h⟩ := ap_eq h
    refine J_nmM hμ11 ?_
    refine J_aload_n (q := 59) 0 d_Li_addRule_58 rfl rfl rfl ?_
    refine J_dupR (q := 60) d_Li_addRule_59 rfl ?_
    refine J_getI (q := 63) (j := 2) cd_5 (by decide) (Or.inl rfl) g_220 rfl d_Li_addRule_60 rfl ?_
    refine J_iconst (q := 64) (v := (1 : Int32)) d_Li_addRule_63 (by decide) rfl ?_
    refine J_iadd (q := 65) d_Li_addRule_64 rfl ?_
    refine J_putI (q := 68) (j := 2) cd_5 (by decide) rfl rfl rfl g_220 rfl d_Li_addRule_65 rfl ?_
    obtain ⟨μ12, hμ12, h⟩ := ap_eq h
    refine J_nmM hμ12 ?_
    refine J_aload_n (q := 69) 0 d_Li_addRule_68 rfl rfl rfl ?_
    refine J_getI (q := 72) (j := 2) cd_5 (by decide) (Or.inl rfl) g_220 rfl d_Li_addRule_69 rfl ?_
    obtain rfl := Option.some.inj h
    exact J_iret rfl ⟨rfl, rfl⟩ d_Li_addRule_72
  · rw [if_neg hc] at h
    refine J_iconst (q := 10) (v := (-1 : Int32)) d_Li_addRule_9 (by decide) rfl ?_
    obtain rfl := Option.some.inj h
    exact J_iret rfl ⟨rfl, rfl⟩ d_Li_addRule_10
def mj_Fo_join_36 (a1 : Int32) (a2 : Int32) (a3 : Int32) (a4 : Int32) (μ : Mem) : Option (Int32 × Mem) :=
  Option.bind (m_Li_addRule (a1) (a2) (a3) (a4) μ) fun r1 =>
  ap (r1.2) fun μ2 =>
  ap (r1.1) fun x3 =>
  some ((x3, μ2))
theorem tj_Fo_join_36 (a1 : Int32) (a2 : Int32) (a3 : Int32) (a4 : Int32) {q : Int32 × Mem}  (μ : Mem) (h : mj_Fo_join_36 a1 a2 a3 a4  μ = some q) : J (GM true (QQ (some (vi q.1)) q.2) (some (.int)) y_Fo_join.name) true b_Fo_join R_11 5 (2) 0 0 36 [(0, vr 11 (0)), (1, vi (a1)), (2, vi (a2)), (3, vi (a3)), (4, vi (a4))] [] μ := by
  unfold mj_Fo_join_36 at h
  refine J_aload_n (q := 37) 0 d_Fo_join_36 rfl rfl rfl ?_
  refine J_getF (q := 40) cd_11 (by decide) ft_11_11 rfl g_265 rfl d_Fo_join_37 rfl ?_
  refine J_iload_n (q := 41) 1 d_Fo_join_40 rfl rfl rfl ?_
  refine J_iload_n (q := 42) 2 d_Fo_join_41 rfl rfl rfl ?_
  refine J_iload_n (q := 43) 3 d_Fo_join_42 rfl rfl rfl ?_
  refine J_iload (q := 45) 4 d_Fo_join_43 rfl rfl ?_
  obtain ⟨r1, hr1, h⟩ := bd_some h
  refine J_callVq (rc := 0) (rs := 0) (q := 48) (as := [vi (a1), vi (a2), vi (a3), vi (a4)]) (st := []) (by decide) rfl g_1000 g_1001 (t_Li_addRule hr1) (by decide) (by decide) g_999 g_1002 g_9 hy_Li_addRule rfl (Nat.le_of_ble_eq_true rfl) d_Fo_join_45 rfl ?_
  obtain ⟨μ2, hμ2, h⟩ := ap_eq h
  refine J_nmM hμ2 ?_
  obtain ⟨x3, hx3, h⟩ := ap_eq h
  refine J_nmI hx3 ?_
  obtain rfl := Option.some.inj h
  exact J_iret rfl ⟨rfl, rfl⟩ d_Fo_join_48
def m_Fo_join (a1 : Int32) (a2 : Int32) (a3 : Int32) (a4 : Int32) (μ : Mem) : Option (Int32 × Mem) :=
  if (m_Fo_isCode (a1) μ) then
 (if (m_Fo_isCode (a2) μ) then
 (if (m_Fo_isCode (a4) μ) then
 (if (m_Fo_isCode (a3) μ) then
 (mj_Fo_join_36 a1 a2 a3 a4 μ)
 else
 (if a3 = (-1 : Int32) then
 (mj_Fo_join_36 a1 a2 a3 a4 μ)
 else
 (some (((-1 : Int32), μ)))))
 else
 (some (((-1 : Int32), μ))))
 else
 (some (((-1 : Int32), μ))))
 else
 (some (((-1 : Int32), μ)))
theorem t_Fo_join {a1 : Int32} {a2 : Int32} {a3 : Int32} {a4 : Int32} {μ : Mem} {q : Int32 × Mem} (h : m_Fo_join a1 a2 a3 a4 μ = some q) : JM true (2) y_Fo_join b_Fo_join 5 (some (.int)) 0 0 [vr 11 (0), vi (a1), vi (a2), vi (a3), vi (a4)] μ (QQ (some (vi q.1)) q.2) := by
  unfold m_Fo_join at h
  refine JM.of pl_Fo_join (fun ρ => Nat.le_of_ble_eq_true rfl) ?_
  show J (GM true (QQ (some (vi q.1)) q.2) (some (.int)) y_Fo_join.name) true b_Fo_join R_11 5 (2) 0 0 0 [(0, vr 11 (0)), (1, vi (a1)), (2, vi (a2)), (3, vi (a3)), (4, vi (a4))] [] μ
  refine J_iload_n (q := 1) 1 d_Fo_join_0 rfl rfl rfl ?_
  refine J_callSq (rc := 0) (rs := 0) (q := 4) (as := [vi (a1)]) (st := []) g_296 (t_Fo_isCode rfl) (by decide) (by decide) g_295 g_297 g_1 hy_Fo_isCode rfl (Nat.le_of_ble_eq_true rfl) d_Fo_join_1 rfl ?_
  refine J_ifB_eq (q := 7) (tgt := 34) d_Fo_join_4 (by decide) rfl (fun hb => ?_) (fun hb => ?_)
  · rw [iB_f hb] at h
    refine J_iconst (q := 35) (v := (-1 : Int32)) d_Fo_join_34 (by decide) rfl ?_
    obtain rfl := Option.some.inj h
    exact J_iret rfl ⟨rfl, rfl⟩ d_Fo_join_35
  · rw [iB_t hb] at h
    refine J_iload_n (q := 8) 2 d_Fo_join_7 rfl rfl rfl ?_
    refine J_callSq (rc := 0) (rs := 0) (q := 11) (as := [vi (a2)]) (st := []) g_296 (t_Fo_isCode rfl) (by decide) (by decide) g_295 g_297 g_1 hy_Fo_isCode rfl (Nat.le_of_ble_eq_true rfl) d_Fo_join_8 rfl ?_
    refine J_ifB_eq (q := 14) (tgt := 34) d_Fo_join_11 (by decide) rfl (fun hb => ?_) (fun hb => ?_)
    · rw [iB_f hb] at h
      refine J_iconst (q := 35) (v := (-1 : Int32)) d_Fo_join_34 (by decide) rfl ?_
      obtain rfl := Option.some.inj h
      exact J_iret rfl ⟨rfl, rfl⟩ d_Fo_join_35
    · rw [iB_t hb] at h
      refine J_iload (q := 16) 4 d_Fo_join_14 rfl rfl ?_
      refine J_callSq (rc := 0) (rs := 0) (q := 19) (as := [vi (a4)]) (st := []) g_296 (t_Fo_isCode rfl) (by decide) (by decide) g_295 g_297 g_1 hy_Fo_isCode rfl (Nat.le_of_ble_eq_true rfl) d_Fo_join_16 rfl ?_
      refine J_ifB_eq (q := 22) (tgt := 34) d_Fo_join_19 (by decide) rfl (fun hb => ?_) (fun hb => ?_)
      · rw [iB_f hb] at h
        refine J_iconst (q := 35) (v := (-1 : Int32)) d_Fo_join_34 (by decide) rfl ?_
        obtain rfl := Option.some.inj h
        exact J_iret rfl ⟨rfl, rfl⟩ d_Fo_join_35
      · rw [iB_t hb] at h
        refine J_iload_n (q := 23) 3 d_Fo_join_22 rfl rfl rfl ?_
        refine J_callSq (rc := 0) (rs := 0) (q := 26) (as := [vi (a3)]) (st := []) g_296 (t_Fo_isCode rfl) (by decide) (by decide) g_295 g_297 g_1 hy_Fo_isCode rfl (Nat.le_of_ble_eq_true rfl) d_Fo_join_23 rfl ?_
        refine J_ifB_ne (q := 29) (tgt := 36) d_Fo_join_26 (by decide) rfl (fun hb => ?_) (fun hb => ?_)
        · rw [iB_t hb] at h
          refine J_pick [0, 1, 2, 3, 4] rfl ?_
          exact tj_Fo_join_36 a1 a2 a3 a4 _ h
        · rw [iB_f hb] at h
          refine J_iload_n (q := 30) 3 d_Fo_join_29 rfl rfl rfl ?_
          refine J_iconst (q := 31) (v := (-1 : Int32)) d_Fo_join_30 (by decide) rfl ?_
          refine J_icmp_eq (q := 34) (tgt := 36) d_Fo_join_31 (by decide) rfl (fun hc => ?_) (fun hc => ?_)
          · rw [if_pos hc] at h
            refine J_pick [0, 1, 2, 3, 4] rfl ?_
            exact tj_Fo_join_36 a1 a2 a3 a4 _ h
          · rw [if_neg hc] at h
            refine J_iconst (q := 35) (v := (-1 : Int32)) d_Fo_join_34 (by decide) rfl ?_
            obtain rfl := Option.some.inj h
            exact J_iret rfl ⟨rfl, rfl⟩ d_Fo_join_35
def m_Li_addSign (a1 : Int32) (μ : Mem) : Option (Int32 × Mem) :=
  if gI μ 5 (0) 4 < (60 : Int32) then
 (gu (gI μ 5 (0) 4) 60 <|
  ap (sI μ 203 (0) (gI μ 5 (0) 4).toNatClampNeg (a1)) fun μ2 =>
  ap (sI μ2 5 (0) 4 ((gI μ2 5 (0) 4) + ((1 : Int32)))) fun μ3 =>
  some ((gI μ3 5 (0) 4, μ3)))
 else
 (some (((-1 : Int32), μ)))
theorem t_Li_addSign {a1 : Int32} {μ : Mem} {q : Int32 × Mem} (h : m_Li_addSign a1 μ = some q) : JM true (0) y_Li_addSign b_Li_addSign 2 (some (.int)) 0 0 [vr 5 (0), vi (a1)] μ (QQ (some (vi q.1)) q.2) := by
  unfold m_Li_addSign at h
  refine JM.of pl_Li_addSign (fun ρ => Nat.le_of_ble_eq_true rfl) ?_
  show J (GM true (QQ (some (vi q.1)) q.2) (some (.int)) y_Li_addSign.name) true b_Li_addSign R_5 2 (0) 0 0 0 [(0, vr 5 (0)), (1, vi (a1))] [] μ
  refine J_aload_n (q := 1) 0 d_Li_addSign_0 rfl rfl rfl ?_
  refine J_getI (q := 4) (j := 4) cd_5 (by decide) (Or.inl rfl) g_222 rfl d_Li_addSign_1 rfl ?_
  refine J_bipush (q := 6) (v := (60 : Int32)) d_Li_addSign_4 (by decide) rfl ?_
  refine J_icmp_lt (q := 9) (tgt := 11) d_Li_addSign_6 (by decide) rfl (fun hc => ?_) (fun hc => ?_)
  · rw [if_pos hc] at h
    refine J_aload_n (q := 12) 0 d_Li_addSign_11 rfl rfl rfl ?_
    refine J_getF (q := 15) cd_5 (by decide) ft_5_3 rfl g_221 rfl d_Li_addSign_12 rfl ?_
    refine J_aload_n (q := 16) 0 d_Li_addSign_15 rfl rfl rfl ?_
    refine J_getI (q := 19) (j := 4) cd_5 (by decide) (Or.inl rfl) g_222 rfl d_Li_addSign_16 rfl ?_
    refine J_iload_n (q := 20) 1 d_Li_addSign_19 rfl rfl rfl ?_
    obtain ⟨hi1, h⟩ := gu_some h
    refine J_iast (q := 21) rk_203 (by decide) hi1 d_Li_addSign_20 rfl ?_
    obtain ⟨μ2, hμ2, h⟩ := ap_eq h
    refine J_nmM hμ2 ?_
    refine J_aload_n (q := 22) 0 d_Li_addSign_21 rfl rfl rfl ?_
    refine J_dupR (q := 23) d_Li_addSign_22 rfl ?_
    refine J_getI (q := 26) (j := 4) cd_5 (by decide) (Or.inl rfl) g_222 rfl d_Li_addSign_23 rfl ?_
    refine J_iconst (q := 27) (v := (1 : Int32)) d_Li_addSign_26 (by decide) rfl ?_
    refine J_iadd (q := 28) d_Li_addSign_27 rfl ?_
    refine J_putI (q := 31) (j := 4) cd_5 (by decide) rfl rfl rfl g_222 rfl d_Li_addSign_28 rfl ?_
    obtain ⟨μ3, hμ3, h⟩ := ap_eq h
    refine J_nmM hμ3 ?_
    refine J_aload_n (q := 32) 0 d_Li_addSign_31 rfl rfl rfl ?_
    refine J_getI (q := 35) (j := 4) cd_5 (by decide) (Or.inl rfl) g_222 rfl d_Li_addSign_32 rfl ?_
    obtain rfl := Option.some.inj h
    exact J_iret rfl ⟨rfl, rfl⟩ d_Li_addSign_35
  · rw [if_neg hc] at h
    refine J_iconst (q := 10) (v := (-1 : Int32)) d_Li_addSign_9 (by decide) rfl ?_
    obtain rfl := Option.some.inj h
    exact J_iret rfl ⟨rfl, rfl⟩ d_Li_addSign_10
def m_Fo_sign (a1 : Int32) (μ : Mem) : Option (Int32 × Mem) :=
  if (m_Fo_isCode (a1) μ) then
 (Option.bind (m_Li_addSign (a1) μ) fun r1 =>
  ap (r1.2) fun μ2 =>
  ap (r1.1) fun x3 =>
  some ((x3, μ2)))
 else
 (some (((-1 : Int32), μ)))
theorem t_Fo_sign {a1 : Int32} {μ : Mem} {q : Int32 × Mem} (h : m_Fo_sign a1 μ = some q) : JM true (2) y_Fo_sign b_Fo_sign 2 (some (.int)) 0 0 [vr 11 (0), vi (a1)] μ (QQ (some (vi q.1)) q.2) := by
  unfold m_Fo_sign at h
  refine JM.of pl_Fo_sign (fun ρ => Nat.le_of_ble_eq_true rfl) ?_
  show J (GM true (QQ (some (vi q.1)) q.2) (some (.int)) y_Fo_sign.name) true b_Fo_sign R_11 2 (2) 0 0 0 [(0, vr 11 (0)), (1, vi (a1))] [] μ
  refine J_iload_n (q := 1) 1 d_Fo_sign_0 rfl rfl rfl ?_
  refine J_callSq (rc := 0) (rs := 0) (q := 4) (as := [vi (a1)]) (st := []) g_296 (t_Fo_isCode rfl) (by decide) (by decide) g_295 g_297 g_1 hy_Fo_isCode rfl (Nat.le_of_ble_eq_true rfl) d_Fo_sign_1 rfl ?_
  refine J_ifB_eq (q := 7) (tgt := 18) d_Fo_sign_4 (by decide) rfl (fun hb => ?_) (fun hb => ?_)
  · rw [iB_f hb] at h
    refine J_iconst (q := 19) (v := (-1 : Int32)) d_Fo_sign_18 (by decide) rfl ?_
    obtain rfl := Option.some.inj h
    exact J_iret rfl ⟨rfl, rfl⟩ d_Fo_sign_19
  · rw [iB_t hb] at h
    refine J_aload_n (q := 8) 0 d_Fo_sign_7 rfl rfl rfl ?_
    refine J_getF (q := 11) cd_11 (by decide) ft_11_11 rfl g_265 rfl d_Fo_sign_8 rfl ?_
    refine J_iload_n (q := 12) 1 d_Fo_sign_11 rfl rfl rfl ?_
    obtain ⟨r1, hr1, h⟩ := bd_some h
    refine J_callVq (rc := 0) (rs := 0) (q := 15) (as := [vi (a1)]) (st := []) (by decide) rfl g_1008 g_1009 (t_Li_addSign hr1) (by decide) (by decide) g_1007 g_1010 g_9 hy_Li_addSign rfl (Nat.le_of_ble_eq_true rfl) d_Fo_sign_12 rfl ?_
    obtain ⟨μ2, hμ2, h⟩ := ap_eq h
    refine J_nmM hμ2 ?_
    obtain ⟨x3, hx3, h⟩ := ap_eq h
    refine J_nmI hx3 ?_
    refine J_goto (q := 19) d_Fo_sign_15 (by decide) ?_
    obtain rfl := Option.some.inj h
    exact J_iret rfl ⟨rfl, rfl⟩ d_Fo_sign_19
def mj_Li_place_52 (a2 : Int32) (a3 : Int32) (y5 : Int32) (μ : Mem) : Option (Mem) :=
  gu (gI μ 5 (0) 8) 60 <|
  ap (sI μ 205 (0) (gI μ 5 (0) 8).toNatClampNeg (a2)) fun μ6 =>
  gu (gI μ6 5 (0) 8) 60 <|
  ap (sI μ6 206 (0) (gI μ6 5 (0) 8).toNatClampNeg (y5)) fun μ8 =>
  gu (gI μ8 5 (0) 8) 60 <|
  ap (sI μ8 207 (0) (gI μ8 5 (0) 8).toNatClampNeg (a3)) fun μ10 =>
  ap (sI μ10 5 (0) 8 ((gI μ10 5 (0) 8) + ((1 : Int32)))) fun μ11 =>
  gu (a2) 32 <|
  ap (gR μ11 320 (0) a2.toNatClampNeg) fun o13 =>
  Option.bind o13 fun y14 =>
  ap (sI μ11 5 (0) 9 ((y5) + (gI μ11 4 (y14) 1))) fun μ15 =>
  some μ15
theorem tj_Li_place_52 (a2 : Int32) (a3 : Int32) {q : Mem}  (y5 : Int32) (μ : Mem) (h : mj_Li_place_52 a2 a3 y5 μ = some q) : J (GM true (QQ none q) none y_Li_place.name) true b_Li_place R_5 6 (2) 0 0 52 [(0, vr 5 (0)), (1, vr 320 (0)), (2, vi (a2)), (3, vi (a3)), (5, vi (y5))] [] μ := by
  unfold mj_Li_place_52 at h
  refine J_aload_n (q := 53) 0 d_Li_place_52 rfl rfl rfl ?_
  refine J_getF (q := 56) cd_5 (by decide) ft_5_5 rfl g_223 rfl d_Li_place_53 rfl ?_
  refine J_aload_n (q := 57) 0 d_Li_place_56 rfl rfl rfl ?_
  refine J_getI (q := 60) (j := 8) cd_5 (by decide) (Or.inl rfl) g_229 rfl d_Li_place_57 rfl ?_
  refine J_iload_n (q := 61) 2 d_Li_place_60 rfl rfl rfl ?_
  obtain ⟨hi5, h⟩ := gu_some h
  refine J_iast (q := 62) rk_205 (by decide) hi5 d_Li_place_61 rfl ?_
  obtain ⟨μ6, hμ6, h⟩ := ap_eq h
  refine J_nmM hμ6 ?_
  refine J_aload_n (q := 63) 0 d_Li_place_62 rfl rfl rfl ?_
  refine J_getF (q := 66) cd_5 (by decide) ft_5_6 rfl g_225 rfl d_Li_place_63 rfl ?_
  refine J_aload_n (q := 67) 0 d_Li_place_66 rfl rfl rfl ?_
  refine J_getI (q := 70) (j := 8) cd_5 (by decide) (Or.inl rfl) g_229 rfl d_Li_place_67 rfl ?_
  refine J_iload (q := 72) 4 d_Li_place_70 rfl rfl ?_
  obtain ⟨hi7, h⟩ := gu_some h
  refine J_iast (q := 73) rk_206 (by decide) hi7 d_Li_place_72 rfl ?_
  obtain ⟨μ8, hμ8, h⟩ := ap_eq h
  refine J_nmM hμ8 ?_
  refine J_aload_n (q := 74) 0 d_Li_place_73 rfl rfl rfl ?_
  refine J_getF (q := 77) cd_5 (by decide) ft_5_7 rfl g_227 rfl d_Li_place_74 rfl ?_
  refine J_aload_n (q := 78) 0 d_Li_place_77 rfl rfl rfl ?_
  refine J_getI (q := 81) (j := 8) cd_5 (by decide) (Or.inl rfl) g_229 rfl d_Li_place_78 rfl ?_
  refine J_iload_n (q := 82) 3 d_Li_place_81 rfl rfl rfl ?_
  obtain ⟨hi9, h⟩ := gu_some h
  refine J_iast (q := 83) rk_207 (by decide) hi9 d_Li_place_82 rfl ?_
  obtain ⟨μ10, hμ10, h⟩ := ap_eq h
  refine J_nmM hμ10 ?_
  refine J_aload_n (q := 84) 0 d_Li_place_83 rfl rfl rfl ?_
  refine J_dupR (q := 85) d_Li_place_84 rfl ?_
  refine J_getI (q := 88) (j := 8) cd_5 (by decide) (Or.inl rfl) g_229 rfl d_Li_place_85 rfl ?_
  refine J_iconst (q := 89) (v := (1 : Int32)) d_Li_place_88 (by decide) rfl ?_
  refine J_iadd (q := 90) d_Li_place_89 rfl ?_
  refine J_putI (q := 93) (j := 8) cd_5 (by decide) rfl rfl rfl g_229 rfl d_Li_place_90 rfl ?_
  obtain ⟨μ11, hμ11, h⟩ := ap_eq h
  refine J_nmM hμ11 ?_
  refine J_aload_n (q := 94) 0 d_Li_place_93 rfl rfl rfl ?_
  refine J_iload (q := 96) 4 d_Li_place_94 rfl rfl ?_
  refine J_aload_n (q := 97) 1 d_Li_place_96 rfl rfl rfl ?_
  refine J_iload_n (q := 98) 2 d_Li_place_97 rfl rfl rfl ?_
  obtain ⟨hi12, h⟩ := gu_some h
  refine J_ald5 (q := 99) rk_320 (by decide) hi12 d_Li_place_98 rfl ?_
  obtain ⟨o13, ho13, h⟩ := ap_eq h
  refine J_nmO ho13 ?_
  replace h := bd_some h
  obtain ⟨y14, hy14, h⟩ := h
  subst hy14
  refine J_getI (q := 102) (j := 1) cd_4 (by decide) (Or.inl rfl) g_388 rfl d_Li_place_99 rfl ?_
  refine J_iadd (q := 103) d_Li_place_102 rfl ?_
  refine J_putI (q := 106) (j := 9) cd_5 (by decide) rfl rfl rfl g_231 rfl d_Li_place_103 rfl ?_
  obtain ⟨μ15, hμ15, h⟩ := ap_eq h
  refine J_nmM hμ15 ?_
  obtain rfl := Option.some.inj h
  exact J_vret rfl ⟨rfl, rfl⟩ d_Li_place_106
def m_Li_place (a2 : Int32) (a3 : Int32) (μ : Mem) : Option (Mem) :=
  if (60 : Int32) ≤ gI μ 5 (0) 8 then
 (some μ)
 else
 (gu (a2) 32 <|
  ap (gR μ 320 (0) a2.toNatClampNeg) fun o2 =>
  oc o2
 (some μ)
 fun y3 => ap (gI μ 5 (0) 9) fun x4 =>
  if gI μ 5 (0) 8 ≤ 0 then
 (mj_Li_place_52 a2 a3 (x4) μ)
 else
 (gu ((gI μ 5 (0) 8) - ((1 : Int32))) 60 <|
  Option.bind (m_Ke_between (gI μ 205 (0) ((gI μ 5 (0) 8) - ((1 : Int32))).toNatClampNeg) (a2) μ) fun r17 =>
  ap (x4 + r17) fun x18 =>
  mj_Li_place_52 a2 a3 (x18) μ))
theorem t_Li_place {a2 : Int32} {a3 : Int32} {μ : Mem} {q : Mem} (h : m_Li_place a2 a3 μ = some q) : JM true (2) y_Li_place b_Li_place 6 none 0 0 [vr 5 (0), vr 320 (0), vi (a2), vi (a3), vr 3 (0)] μ (QQ none q) := by
  unfold m_Li_place at h
  refine JM.of pl_Li_place (fun ρ => Nat.le_of_ble_eq_true rfl) ?_
  show J (GM true (QQ none q) none y_Li_place.name) true b_Li_place R_5 6 (2) 0 0 0 [(0, vr 5 (0)), (1, vr 320 (0)), (2, vi (a2)), (3, vi (a3)), (4, vr 3 (0))] [] μ
  refine J_aload_n (q := 1) 0 d_Li_place_0 rfl rfl rfl ?_
  refine J_getI (q := 4) (j := 8) cd_5 (by decide) (Or.inl rfl) g_229 rfl d_Li_place_1 rfl ?_
  refine J_bipush (q := 6) (v := (60 : Int32)) d_Li_place_4 (by decide) rfl ?_
  refine J_icmp_ge (q := 9) (tgt := 15) d_Li_place_6 (by decide) rfl (fun hc => ?_) (fun hc => ?_)
  · rw [if_pos hc] at h
    obtain rfl := Option.some.inj h
    exact J_vret rfl ⟨rfl, rfl⟩ d_Li_place_15
  · rw [if_neg hc] at h
    refine J_aload_n (q := 10) 1 d_Li_place_9 rfl rfl rfl ?_
    refine J_iload_n (q := 11) 2 d_Li_place_10 rfl rfl rfl ?_
    obtain ⟨hi1, h⟩ := gu_some h
    refine J_ald5 (q := 12) rk_320 (by decide) hi1 d_Li_place_11 rfl ?_
    obtain ⟨o2, ho2, h⟩ := ap_eq h
    refine J_nmO ho2 ?_
    refine J_nonnullO (q := 15) (tgt := 16) d_Li_place_12 (by decide) rfl (fun y3 ho => ?_) (fun ho => ?_)
    · subst ho
      rw [oc_some] at h
      refine J_aload_n (q := 17) 0 d_Li_place_16 rfl rfl rfl ?_
      refine J_getI (q := 20) (j := 9) cd_5 (by decide) (Or.inl rfl) g_231 rfl d_Li_place_17 rfl ?_
      obtain ⟨x4, hx4, h⟩ := ap_eq h
      refine J_nmI hx4 ?_
      refine J_istore (q := 22) (lv' := [(5, vi (x4)), (0, vr 5 (0)), (1, vr 320 (0)), (2, vi (a2)), (3, vi (a3)), (4, vr 3 (0))]) d_Li_place_20 (by decide) rfl rfl ?_
      refine J_aload_n (q := 23) 1 d_Li_place_22 rfl rfl rfl ?_
      refine J_getI (q := 26) (j := 8) cd_5 (by decide) (Or.inl rfl) g_229 rfl d_Li_place_23 rfl ?_
      refine J_if_le (q := 29) (tgt := 52) d_Li_place_26 (by decide) rfl (fun hc => ?_) (fun hc => ?_)
      · rw [if_pos hc] at h
        refine J_pick [1, 2, 3, 4, 0] rfl ?_
        exact tj_Li_place_52 a2 a3 _ _ h
      · rw [if_neg hc] at h
        refine J_iload (q := 31) 0 d_Li_place_29 rfl rfl ?_
        refine J_aload (q := 33) 5 d_Li_place_31 rfl rfl ?_
        refine J_aload_n (q := 34) 2 d_Li_place_33 rfl rfl rfl ?_
        refine J_aload_n (q := 35) 1 d_Li_place_34 rfl rfl rfl ?_
        refine J_getF (q := 38) cd_5 (by decide) ft_5_5 rfl g_223 rfl d_Li_place_35 rfl ?_
        refine J_aload_n (q := 39) 1 d_Li_place_38 rfl rfl rfl ?_
        refine J_getI (q := 42) (j := 8) cd_5 (by decide) (Or.inl rfl) g_229 rfl d_Li_place_39 rfl ?_
        refine J_iconst (q := 43) (v := (1 : Int32)) d_Li_place_42 (by decide) rfl ?_
        refine J_isub (q := 44) d_Li_place_43 rfl ?_
        obtain ⟨hi16, h⟩ := gu_some h
        refine J_iald (q := 45) rk_205 (by decide) hi16 d_Li_place_44 rfl ?_
        refine J_iload_n (q := 46) 3 d_Li_place_45 rfl rfl rfl ?_
        obtain ⟨r17, hr17, h⟩ := bd_some h
        refine J_callVq (rc := 0) (rs := 0) (q := 49) (as := [vr 320 (0), vi (gI μ 205 (0) ((gI μ 5 (0) 8) - ((1 : Int32))).toNatClampNeg), vi (a2)]) (st := [vi (x4)]) (by decide) rfl g_991 g_992 (t_Ke_between hr17) (by decide) (by decide) g_1036 g_993 g_7 hy_Ke_between rfl (Nat.le_of_ble_eq_true rfl) d_Li_place_46 rfl ?_
        refine J_iadd (q := 50) d_Li_place_49 rfl ?_
        obtain ⟨x18, hx18, h⟩ := ap_eq h
        refine J_nmI hx18 ?_
        refine J_istore (q := 52) (lv' := [(5, vi (x18)), (0, vr 5 (0)), (1, vr 320 (0)), (2, vi (a2)), (3, vi (a3)), (4, vr 3 (0))]) d_Li_place_50 (by decide) rfl rfl ?_
        refine J_pick [1, 2, 3, 4, 0] rfl ?_
        exact tj_Li_place_52 a2 a3 _ _ h
    · subst ho
      rw [oc_none] at h
      obtain rfl := Option.some.inj h
      exact J_vret rfl ⟨rfl, rfl⟩ d_Li_place_15
def m_Li_sizeOf (a1 : Int32) (μ : Mem) : Option (Int32) :=
  gu ((2 : Int32)) 3 <|
  gu (a1) 40 <|
  if gI μ 600 (3 * 0 + ((2 : Int32)).toNatClampNeg) a1.toNatClampNeg = (-1 : Int32) then
 (some ((2 : Int32)))
 else
 (some ((3 : Int32)))
theorem t_Li_sizeOf {a1 : Int32} {μ : Mem} {q : Int32} (h : m_Li_sizeOf a1 μ = some q) : JM true (0) y_Li_sizeOf b_Li_sizeOf 2 (some (.int)) 0 0 [vr 5 (0), vi (a1)] μ (QQ (some (vi q)) μ) := by
  unfold m_Li_sizeOf at h
  refine JM.of pl_Li_sizeOf (fun ρ => Nat.le_of_ble_eq_true rfl) ?_
  show J (GM true (QQ (some (vi q)) μ) (some (.int)) y_Li_sizeOf.name) true b_Li_sizeOf R_5 2 (0) 0 0 0 [(0, vr 5 (0)), (1, vi (a1))] [] μ
  refine J_aload_n (q := 1) 0 d_Li_sizeOf_0 rfl rfl rfl ?_
  refine J_getF (q := 4) cd_5 (by decide) ft_5_0 rfl g_218 rfl d_Li_sizeOf_1 rfl ?_
  refine J_iconst (q := 5) (v := (2 : Int32)) d_Li_sizeOf_4 (by decide) rfl ?_
  obtain ⟨hi1, h⟩ := gu_some h
  refine J_ald6 (q := 6) rk_200 (by decide) hi1 d_Li_sizeOf_5 rfl ?_
  refine J_iload_n (q := 7) 1 d_Li_sizeOf_6 rfl rfl rfl ?_
  obtain ⟨hi2, h⟩ := gu_some h
  refine J_iald (q := 8) rk_600 (by decide) hi2 d_Li_sizeOf_7 rfl ?_
  refine J_iconst (q := 9) (v := (-1 : Int32)) d_Li_sizeOf_8 (by decide) rfl ?_
  refine J_icmp_ne (q := 12) (tgt := 16) d_Li_sizeOf_9 (by decide) rfl (fun hc => ?_) (fun hc => ?_)
  · rw [if_neg hc] at h
    refine J_iconst (q := 17) (v := (3 : Int32)) d_Li_sizeOf_16 (by decide) rfl ?_
    obtain rfl := Option.some.inj h
    exact J_iret rfl ⟨rfl, rfl⟩ d_Li_sizeOf_17
  · rw [if_pos hc] at h
    refine J_iconst (q := 13) (v := (2 : Int32)) d_Li_sizeOf_12 (by decide) rfl ?_
    refine J_goto (q := 17) d_Li_sizeOf_13 (by decide) ?_
    obtain rfl := Option.some.inj h
    exact J_iret rfl ⟨rfl, rfl⟩ d_Li_sizeOf_17
def lp_Li_fitsAt_21 (a1 : Int32) (a2 : Int32) (μ : Mem) : Nat → Int32 → Int32 → Option (Bool)
  | 0, _, _ => none
  | n + 1, y3, y4 =>
  if y3 ≤ y4 then
 (some (true))
 else
 (gu (y4) 3 <|
  gu (a1) 40 <|
  gu (a2 + y4) 60 <|
  if gI μ 600 (3 * 0 + y4.toNatClampNeg) a1.toNatClampNeg = gI μ 203 (0) (a2 + y4).toNatClampNeg then
 (ap (y4 + (1 : Int32)) fun x9 =>
  lp_Li_fitsAt_21 a1 a2 μ n (y3) (x9))
 else
 (some (false)))
theorem tl_Li_fitsAt_21 (a1 : Int32) (a2 : Int32) (μ : Mem) {q : Bool}  : ∀ (n : Nat) (y3 : Int32) (y4 : Int32), lp_Li_fitsAt_21 a1 a2 μ n y3 y4 = some q → J (GM true (QQ (some (vi (b2i q))) μ) (some (.boolean)) y_Li_fitsAt.name) true b_Li_fitsAt R_5 5 (1) 0 0 21 [(0, vr 5 (0)), (1, vi (a1)), (2, vi (a2)), (3, vi (y3)), (4, vi (y4))] [] μ := by
  intro n
  induction n with
  | zero => intro _ _ h; cases h
  | succ n ih =>
    intro y3 y4 h
    unfold lp_Li_fitsAt_21 at h
    refine J_iload (q := 23) 4 d_Li_fitsAt_21 rfl rfl ?_
    refine J_iload_n (q := 24) 3 d_Li_fitsAt_23 rfl rfl rfl ?_
    refine J_icmp_ge (q := 27) (tgt := 56) d_Li_fitsAt_24 (by decide) rfl (fun hc => ?_) (fun hc => ?_)
    · rw [if_pos hc] at h
      refine J_iconst (q := 57) (v := (1 : Int32)) d_Li_fitsAt_56 (by decide) rfl ?_
      obtain rfl := Option.some.inj h
      exact J_zret (Or.inr rfl) rfl ⟨rfl, rfl⟩ d_Li_fitsAt_57
    · rw [if_neg hc] at h
      refine J_aload_n (q := 28) 0 d_Li_fitsAt_27 rfl rfl rfl ?_
      refine J_getF (q := 31) cd_5 (by decide) ft_5_0 rfl g_218 rfl d_Li_fitsAt_28 rfl ?_
      refine J_iload (q := 33) 4 d_Li_fitsAt_31 rfl rfl ?_
      obtain ⟨hi6, h⟩ := gu_some h
      refine J_ald6 (q := 34) rk_200 (by decide) hi6 d_Li_fitsAt_33 rfl ?_
      refine J_iload_n (q := 35) 1 d_Li_fitsAt_34 rfl rfl rfl ?_
      obtain ⟨hi7, h⟩ := gu_some h
      refine J_iald (q := 36) rk_600 (by decide) hi7 d_Li_fitsAt_35 rfl ?_
      refine J_aload_n (q := 37) 0 d_Li_fitsAt_36 rfl rfl rfl ?_
      refine J_getF (q := 40) cd_5 (by decide) ft_5_3 rfl g_221 rfl d_Li_fitsAt_37 rfl ?_
      refine J_iload_n (q := 41) 2 d_Li_fitsAt_40 rfl rfl rfl ?_
      refine J_iload (q := 43) 4 d_Li_fitsAt_41 rfl rfl ?_
      refine J_iadd (q := 44) d_Li_fitsAt_43 rfl ?_
      obtain ⟨hi8, h⟩ := gu_some h
      refine J_iald (q := 45) rk_203 (by decide) hi8 d_Li_fitsAt_44 rfl ?_
      refine J_icmp_eq (q := 48) (tgt := 50) d_Li_fitsAt_45 (by decide) rfl (fun hc => ?_) (fun hc => ?_)
      · rw [if_pos hc] at h
        obtain ⟨x9, hx9, h⟩ := ap_eq h
        refine J_iinc (q := 53) (v := x9) (lv' := [(4, vi (x9)), (0, vr 5 (0)), (1, vi (a1)), (2, vi (a2)), (3, vi (y3))]) 4 d_Li_fitsAt_50 rfl (by rw [hx9]; rfl) (by decide) rfl rfl ?_
        refine J_goto (q := 21) d_Li_fitsAt_53 (by decide) ?_
        refine J_pick [1, 2, 3, 4, 0] rfl ?_
        exact ih _ _ h
      · rw [if_neg hc] at h
        refine J_iconst (q := 49) (v := (0 : Int32)) d_Li_fitsAt_48 (by decide) rfl ?_
        obtain rfl := Option.some.inj h
        exact J_zret (Or.inl rfl) rfl ⟨rfl, rfl⟩ d_Li_fitsAt_49
def m_Li_fitsAt (a1 : Int32) (a2 : Int32) (μ : Mem) : Option (Bool) :=
  Option.bind (m_Li_sizeOf (a1) μ) fun r1 =>
  if a2 + r1 ≤ gI μ 5 (0) 4 then
 (lp_Li_fitsAt_21 a1 a2 μ FU (r1) ((0 : Int32)))
 else
 (some (false))
theorem t_Li_fitsAt {a1 : Int32} {a2 : Int32} {μ : Mem} {q : Bool} (h : m_Li_fitsAt a1 a2 μ = some q) : JM true (1) y_Li_fitsAt b_Li_fitsAt 5 (some (.boolean)) 0 0 [vr 5 (0), vi (a1), vi (a2)] μ (QQ (some (vi (b2i q))) μ) := by
  unfold m_Li_fitsAt at h
  refine JM.of pl_Li_fitsAt (fun ρ => Nat.le_of_ble_eq_true rfl) ?_
  show J (GM true (QQ (some (vi (b2i q))) μ) (some (.boolean)) y_Li_fitsAt.name) true b_Li_fitsAt R_5 5 (1) 0 0 0 [(0, vr 5 (0)), (1, vi (a1)), (2, vi (a2))] [] μ
  refine J_aload_n (q := 1) 0 d_Li_fitsAt_0 rfl rfl rfl ?_
  refine J_iload_n (q := 2) 1 d_Li_fitsAt_1 rfl rfl rfl ?_
  obtain ⟨r1, hr1, h⟩ := bd_some h
  refine J_callVq (rc := 0) (rs := 0) (q := 5) (as := [vi (a1)]) (st := []) (by decide) rfl g_1025 sel_Li_sizeOf (t_Li_sizeOf hr1) (by decide) (by decide) g_1023 g_1026 g_9 hy_Li_sizeOf rfl (Nat.le_of_ble_eq_true rfl) d_Li_fitsAt_2 rfl ?_
  refine J_istore_n (q := 6) (lv' := [(3, vi (r1)), (0, vr 5 (0)), (1, vi (a1)), (2, vi (a2))]) d_Li_fitsAt_5 rfl (by decide) rfl rfl ?_
  refine J_iload_n (q := 7) 3 d_Li_fitsAt_6 rfl rfl rfl ?_
  refine J_iload_n (q := 8) 0 d_Li_fitsAt_7 rfl rfl rfl ?_
  refine J_iadd (q := 9) d_Li_fitsAt_8 rfl ?_
  refine J_aload_n (q := 10) 1 d_Li_fitsAt_9 rfl rfl rfl ?_
  refine J_getI (q := 13) (j := 4) cd_5 (by decide) (Or.inl rfl) g_222 rfl d_Li_fitsAt_10 rfl ?_
  refine J_icmp_le (q := 16) (tgt := 18) d_Li_fitsAt_13 (by decide) rfl (fun hc => ?_) (fun hc => ?_)
  · rw [if_pos hc] at h
    refine J_iconst (q := 19) (v := (0 : Int32)) d_Li_fitsAt_18 (by decide) rfl ?_
    refine J_istore (q := 21) (lv' := [(4, vi ((0 : Int32))), (3, vi (r1)), (0, vr 5 (0)), (1, vi (a1)), (2, vi (a2))]) d_Li_fitsAt_19 (by decide) rfl rfl ?_
    refine J_pick [2, 3, 4, 1, 0] rfl ?_
    exact tl_Li_fitsAt_21 a1 a2 μ FU _ _ h
  · rw [if_neg hc] at h
    refine J_iconst (q := 17) (v := (0 : Int32)) d_Li_fitsAt_16 (by decide) rfl ?_
    obtain rfl := Option.some.inj h
    exact J_zret (Or.inl rfl) rfl ⟨rfl, rfl⟩ d_Li_fitsAt_17
