def m_Ma_max (a1 : Int32) (a2 : Int32) (μ : Mem) : Int32 :=
  if a1 < a2 then
 (a2)
 else
 (a1)
theorem t_Ma_max {a1 : Int32} {a2 : Int32} {μ : Mem} {q : Int32} (h : m_Ma_max a1 a2 μ = q) : JM true (0) y_Ma_max b_Ma_max 2 (some (.int)) 0 0 [vi (a1), vi (a2)] μ (QQ (some (vi q)) μ) := by
  unfold m_Ma_max at h
  refine JM.of pl_Ma_max (fun ρ => Nat.le_of_ble_eq_true rfl) ?_
  show J (GM true (QQ (some (vi q)) μ) (some (.int)) y_Ma_max.name) true b_Ma_max R_Ma 2 (0) 0 0 0 [(0, vi (a1)), (1, vi (a2))] [] μ
  refine J_iload_n (q := 1) 0 d_Ma_max_0 rfl rfl rfl ?_
  refine J_iload_n (q := 2) 1 d_Ma_max_1 rfl rfl rfl ?_
  refine J_icmp_lt (q := 5) (tgt := 9) d_Ma_max_2 (by decide) rfl (fun hc => ?_) (fun hc => ?_)
  · rw [if_pos hc] at h
    refine J_iload_n (q := 10) 1 d_Ma_max_9 rfl rfl rfl ?_
    subst h
    exact J_iret rfl ⟨rfl, rfl⟩ d_Ma_max_10
  · rw [if_neg hc] at h
    refine J_iload_n (q := 6) 0 d_Ma_max_5 rfl rfl rfl ?_
    refine J_goto (q := 10) d_Ma_max_6 (by decide) ?_
    subst h
    exact J_iret rfl ⟨rfl, rfl⟩ d_Ma_max_10
def m_Fo_isShort (a1 : Int32) (μ : Mem) : Bool :=
  (m_Fo_within ((a1).toInt64) ((-32768 : Int64)) ((32767 : Int64)) μ)
theorem t_Fo_isShort {a1 : Int32} {μ : Mem} {q : Bool} (h : m_Fo_isShort a1 μ = q) : JM true (1) y_Fo_isShort b_Fo_isShort 1 (some (.boolean)) 0 0 [vi (a1)] μ (QQ (some (vi (b2i q))) μ) := by
  unfold m_Fo_isShort at h
  refine JM.of pl_Fo_isShort (fun ρ => Nat.le_of_ble_eq_true rfl) ?_
  show J (GM true (QQ (some (vi (b2i q))) μ) (some (.boolean)) y_Fo_isShort.name) true b_Fo_isShort R_11 1 (1) 0 0 0 [(0, vi (a1))] [] μ
  refine J_iload_n (q := 1) 0 d_Fo_isShort_0 rfl rfl rfl ?_
  refine J_i2l (q := 2) d_Fo_isShort_1 rfl ?_
  refine J_ldc2 (q := 5) d_Fo_isShort_2 g_575 rfl ?_
  refine J_ldc2 (q := 8) d_Fo_isShort_5 g_576 rfl ?_
  refine J_callSq (rc := 0) (rs := 0) (q := 11) (as := [vl ((a1).toInt64), vl ((-32768 : Int64)), vl ((32767 : Int64))]) (st := []) g_300 (t_Fo_within rfl) (by decide) (by decide) g_299 g_301 g_1 hy_Fo_within rfl (Nat.le_of_ble_eq_true rfl) d_Fo_isShort_8 rfl ?_
  subst h
  exact J_zret (b2i01 _) rfl ⟨rfl, rfl⟩ d_Fo_isShort_11
def m_Le_partOf (o : Nat) (a1 : Int32) (μ : Mem) : Option (Option Nat) :=
  if (m_Fo_within ((a1).toInt64) ((0 : Int64)) (((gI μ 4 (o) 5) - ((1 : Int32))).toInt64) μ) then
 (gu (a1) 6 <|
  ap (gR μ 184 (o) a1.toNatClampNeg) fun o2 =>
  some (o2))
 else
 (some (none))
theorem t_Le_partOf {o : Nat} {a1 : Int32} {μ : Mem} {q : Option Nat} (h : m_Le_partOf o a1 μ = some q) : JM true (1) y_Le_partOf b_Le_partOf 2 (some (.object "LetterFoundry$Part")) 0 0 [vr 4 (o), vi (a1)] μ (QQ (some (vo 6 q)) μ) := by
  unfold m_Le_partOf at h
  refine JM.of pl_Le_partOf (fun ρ => Nat.le_of_ble_eq_true rfl) ?_
  show J (GM true (QQ (some (vo 6 q)) μ) (some (.object "LetterFoundry$Part")) y_Le_partOf.name) true b_Le_partOf R_4 2 (1) 0 0 0 [(0, vr 4 (o)), (1, vi (a1))] [] μ
  refine J_iload_n (q := 1) 1 d_Le_partOf_0 rfl rfl rfl ?_
  refine J_i2l (q := 2) d_Le_partOf_1 rfl ?_
  refine J_lconst (q := 3) (v := (0 : Int64)) d_Le_partOf_2 (by decide) rfl ?_
  refine J_aload_n (q := 4) 0 d_Le_partOf_3 rfl rfl rfl ?_
  refine J_getI (q := 7) (j := 5) cd_4 (by decide) (Or.inl rfl) g_397 rfl d_Le_partOf_4 rfl ?_
  refine J_iconst (q := 8) (v := (1 : Int32)) d_Le_partOf_7 (by decide) rfl ?_
  refine J_isub (q := 9) d_Le_partOf_8 rfl ?_
  refine J_i2l (q := 10) d_Le_partOf_9 rfl ?_
  refine J_callSNq (rc := 0) (rs := 0) (q := 13) (as := [vl ((a1).toInt64), vl ((0 : Int64)), vl (((gI μ 4 (o) 5) - ((1 : Int32))).toInt64)]) (st := []) g_300 (t_Fo_within rfl) (by decide) (by decide) nn_9 g_301 g_1 hy_Fo_within rfl (Nat.le_of_ble_eq_true rfl) d_Le_partOf_10 rfl ?_
  refine J_ifB_eq (q := 16) (tgt := 25) d_Le_partOf_13 (by decide) rfl (fun hb => ?_) (fun hb => ?_)
  · rw [iB_f hb] at h
    refine J_null (q := 26) d_Le_partOf_25 rfl ?_
    obtain rfl := Option.some.inj h
    exact J_aret (k9 := 6) (x := none) rfl ⟨rfl, rfl⟩ d_Le_partOf_26
  · rw [iB_t hb] at h
    refine J_aload_n (q := 17) 0 d_Le_partOf_16 rfl rfl rfl ?_
    refine J_getF (q := 20) cd_4 (by decide) ft_4_4 rfl g_395 rfl d_Le_partOf_17 rfl ?_
    refine J_iload_n (q := 21) 1 d_Le_partOf_20 rfl rfl rfl ?_
    obtain ⟨hi1, h⟩ := gu_some h
    refine J_ald5 (q := 22) rk_184 (by decide) hi1 d_Le_partOf_21 rfl ?_
    obtain ⟨o2, ho2, h⟩ := ap_eq h
    refine J_nmO ho2 ?_
    refine J_goto (q := 26) d_Le_partOf_22 (by decide) ?_
    obtain rfl := Option.some.inj h
    exact J_aret (k9 := 6) (x := o2) rfl ⟨rfl, rfl⟩ d_Le_partOf_26
def m_Pa_turnBy (o : Nat) (a1 : Int32) (a2 : Int32) (a3 : Int32) (a4 : Int32) (μ : Mem) : Mem :=
  ap (sI μ 6 (o) 3 (a1)) fun μ1 =>
  ap (sI μ1 6 (o) 4 (a2)) fun μ2 =>
  ap (sI μ2 6 (o) 5 (a3)) fun μ3 =>
  ap (sI μ3 6 (o) 6 (a4)) fun μ4 =>
  μ4
theorem t_Pa_turnBy {o : Nat} {a1 : Int32} {a2 : Int32} {a3 : Int32} {a4 : Int32} {μ : Mem} {q : Mem} (h : m_Pa_turnBy o a1 a2 a3 a4 μ = q) : JM true (0) y_Pa_turnBy b_Pa_turnBy 5 none 0 0 [vr 6 (o), vi (a1), vi (a2), vi (a3), vi (a4)] μ (QQ none q) := by
  unfold m_Pa_turnBy at h
  refine JM.of pl_Pa_turnBy (fun ρ => Nat.le_of_ble_eq_true rfl) ?_
  show J (GM true (QQ none q) none y_Pa_turnBy.name) true b_Pa_turnBy R_6 5 (0) 0 0 0 [(0, vr 6 (o)), (1, vi (a1)), (2, vi (a2)), (3, vi (a3)), (4, vi (a4))] [] μ
  refine J_aload_n (q := 1) 0 d_Pa_turnBy_0 rfl rfl rfl ?_
  refine J_iload_n (q := 2) 1 d_Pa_turnBy_1 rfl rfl rfl ?_
  refine J_putI (q := 5) (j := 3) cd_6 (by decide) rfl rfl rfl g_541 rfl d_Pa_turnBy_2 rfl ?_
  obtain ⟨μ1, hμ1, h⟩ := ap_eq h
  refine J_nmM hμ1 ?_
  refine J_aload_n (q := 6) 0 d_Pa_turnBy_5 rfl rfl rfl ?_
  refine J_iload_n (q := 7) 2 d_Pa_turnBy_6 rfl rfl rfl ?_
  refine J_putI (q := 10) (j := 4) cd_6 (by decide) rfl rfl rfl g_542 rfl d_Pa_turnBy_7 rfl ?_
  obtain ⟨μ2, hμ2, h⟩ := ap_eq h
  refine J_nmM hμ2 ?_
  refine J_aload_n (q := 11) 0 d_Pa_turnBy_10 rfl rfl rfl ?_
  refine J_iload_n (q := 12) 3 d_Pa_turnBy_11 rfl rfl rfl ?_
  refine J_putI (q := 15) (j := 5) cd_6 (by decide) rfl rfl rfl g_543 rfl d_Pa_turnBy_12 rfl ?_
  obtain ⟨μ3, hμ3, h⟩ := ap_eq h
  refine J_nmM hμ3 ?_
  refine J_aload_n (q := 16) 0 d_Pa_turnBy_15 rfl rfl rfl ?_
  refine J_iload (q := 18) 4 d_Pa_turnBy_16 rfl rfl ?_
  refine J_putI (q := 21) (j := 6) cd_6 (by decide) rfl rfl rfl g_544 rfl d_Pa_turnBy_18 rfl ?_
  obtain ⟨μ4, hμ4, h⟩ := ap_eq h
  refine J_nmM hμ4 ?_
  subst h
  exact J_vret rfl ⟨rfl, rfl⟩ d_Pa_turnBy_21
def mj_Fo_matrix_22 (a1 : Int32) (a2 : Int32) (a3 : Int32) (a4 : Int32) (a5 : Int32) (a6 : Int32) (z0 : Option Nat) (μ : Mem) : Option (Bool × Mem) :=
  oc z0
 (some ((false, μ)))
 fun y3 => if (m_Fo_isShort (a3) μ) then
 (if (m_Fo_isShort (a4) μ) then
 (if (m_Fo_isShort (a5) μ) then
 (if (m_Fo_isShort (a6) μ) then
 (ap (m_Pa_turnBy (y3) (a3) (a4) (a5) (a6) μ) fun r4 =>
  some ((true, r4)))
 else
 (some ((false, μ))))
 else
 (some ((false, μ))))
 else
 (some ((false, μ))))
 else
 (some ((false, μ)))
theorem tj_Fo_matrix_22 (a1 : Int32) (a2 : Int32) (a3 : Int32) (a4 : Int32) (a5 : Int32) (a6 : Int32) {q : Bool × Mem}  (z0 : Option Nat) (μ : Mem) (h : mj_Fo_matrix_22 a1 a2 a3 a4 a5 a6 z0 μ = some q) : J (GM true (QQ (some (vi (b2i q.1))) q.2) (some (.boolean)) y_Fo_matrix.name) true b_Fo_matrix R_11 9 (2) 0 0 22 [(3, vi (a3)), (4, vi (a4)), (5, vi (a5)), (6, vi (a6))] [vo 6 (z0)] μ := by
  unfold mj_Fo_matrix_22 at h
  refine J_astore (q := 24) (lv' := [(8, vo 6 (z0)), (3, vi (a3)), (4, vi (a4)), (5, vi (a5)), (6, vi (a6))]) d_Fo_matrix_22 (by decide) rfl rfl ?_
  refine J_aload (q := 26) 0 d_Fo_matrix_24 rfl rfl ?_
  refine J_nullO (q := 29) (tgt := 60) d_Fo_matrix_26 (by decide) rfl (fun ho => ?_) (fun y3 ho => ?_)
  · subst ho
    rw [oc_none] at h
    refine J_iconst (q := 61) (v := (0 : Int32)) d_Fo_matrix_60 (by decide) rfl ?_
    obtain rfl := Option.some.inj h
    exact J_zret (Or.inl rfl) rfl ⟨rfl, rfl⟩ d_Fo_matrix_61
  · subst ho
    rw [oc_some] at h
    refine J_iload_n (q := 30) 1 d_Fo_matrix_29 rfl rfl rfl ?_
    refine J_callSq (rc := 0) (rs := 0) (q := 33) (as := [vi (a3)]) (st := []) g_573 (t_Fo_isShort rfl) (by decide) (by decide) g_572 g_574 g_1 hy_Fo_isShort rfl (Nat.le_of_ble_eq_true rfl) d_Fo_matrix_30 rfl ?_
    refine J_ifB_eq (q := 36) (tgt := 60) d_Fo_matrix_33 (by decide) rfl (fun hb => ?_) (fun hb => ?_)
    · rw [iB_f hb] at h
      refine J_iconst (q := 61) (v := (0 : Int32)) d_Fo_matrix_60 (by decide) rfl ?_
      obtain rfl := Option.some.inj h
      exact J_zret (Or.inl rfl) rfl ⟨rfl, rfl⟩ d_Fo_matrix_61
    · rw [iB_t hb] at h
      refine J_iload (q := 38) 2 d_Fo_matrix_36 rfl rfl ?_
      refine J_callSq (rc := 0) (rs := 0) (q := 41) (as := [vi (a4)]) (st := []) g_573 (t_Fo_isShort rfl) (by decide) (by decide) g_572 g_574 g_1 hy_Fo_isShort rfl (Nat.le_of_ble_eq_true rfl) d_Fo_matrix_38 rfl ?_
      refine J_ifB_eq (q := 44) (tgt := 60) d_Fo_matrix_41 (by decide) rfl (fun hb => ?_) (fun hb => ?_)
      · rw [iB_f hb] at h
        refine J_iconst (q := 61) (v := (0 : Int32)) d_Fo_matrix_60 (by decide) rfl ?_
        obtain rfl := Option.some.inj h
        exact J_zret (Or.inl rfl) rfl ⟨rfl, rfl⟩ d_Fo_matrix_61
      · rw [iB_t hb] at h
        refine J_iload (q := 46) 3 d_Fo_matrix_44 rfl rfl ?_
        refine J_callSq (rc := 0) (rs := 0) (q := 49) (as := [vi (a5)]) (st := []) g_573 (t_Fo_isShort rfl) (by decide) (by decide) g_572 g_574 g_1 hy_Fo_isShort rfl (Nat.le_of_ble_eq_true rfl) d_Fo_matrix_46 rfl ?_
        refine J_ifB_eq (q := 52) (tgt := 60) d_Fo_matrix_49 (by decide) rfl (fun hb => ?_) (fun hb => ?_)
        · rw [iB_f hb] at h
          refine J_iconst (q := 61) (v := (0 : Int32)) d_Fo_matrix_60 (by decide) rfl ?_
          obtain rfl := Option.some.inj h
          exact J_zret (Or.inl rfl) rfl ⟨rfl, rfl⟩ d_Fo_matrix_61
        · rw [iB_t hb] at h
          refine J_iload (q := 54) 4 d_Fo_matrix_52 rfl rfl ?_
          refine J_callSq (rc := 0) (rs := 0) (q := 57) (as := [vi (a6)]) (st := []) g_573 (t_Fo_isShort rfl) (by decide) (by decide) g_572 g_574 g_1 hy_Fo_isShort rfl (Nat.le_of_ble_eq_true rfl) d_Fo_matrix_54 rfl ?_
          refine J_ifB_ne (q := 60) (tgt := 62) d_Fo_matrix_57 (by decide) rfl (fun hb => ?_) (fun hb => ?_)
          · rw [iB_t hb] at h
            refine J_aload (q := 64) 0 d_Fo_matrix_62 rfl rfl ?_
            refine J_iload_n (q := 65) 1 d_Fo_matrix_64 rfl rfl rfl ?_
            refine J_iload (q := 67) 2 d_Fo_matrix_65 rfl rfl ?_
            refine J_iload (q := 69) 3 d_Fo_matrix_67 rfl rfl ?_
            refine J_iload (q := 71) 4 d_Fo_matrix_69 rfl rfl ?_
            obtain ⟨r4, hr4, h⟩ := ap_eq h
            refine J_callVv (rc := 0) (rs := 0) (q := 74) (as := [vi (a3), vi (a4), vi (a5), vi (a6)]) (st := []) (by decide) rfl g_578 g_579 (t_Pa_turnBy hr4.symm) (by decide) (by decide) g_577 g_580 g_14 hy_Pa_turnBy rfl (Nat.le_of_ble_eq_true rfl) d_Fo_matrix_71 rfl ?_
            refine J_iconst (q := 75) (v := (1 : Int32)) d_Fo_matrix_74 (by decide) rfl ?_
            obtain rfl := Option.some.inj h
            exact J_zret (Or.inr rfl) rfl ⟨rfl, rfl⟩ d_Fo_matrix_75
          · rw [iB_f hb] at h
            refine J_iconst (q := 61) (v := (0 : Int32)) d_Fo_matrix_60 (by decide) rfl ?_
            obtain rfl := Option.some.inj h
            exact J_zret (Or.inl rfl) rfl ⟨rfl, rfl⟩ d_Fo_matrix_61
def m_Fo_matrix (a1 : Int32) (a2 : Int32) (a3 : Int32) (a4 : Int32) (a5 : Int32) (a6 : Int32) (μ : Mem) : Option (Bool × Mem) :=
  Option.bind (m_Fo_letterOf (a1) μ) fun r1 =>
  oc r1
 (mj_Fo_matrix_22 a1 a2 a3 a4 a5 a6 (none) μ)
 fun y2 => Option.bind (m_Le_partOf (y2) (a2) μ) fun r5 =>
  mj_Fo_matrix_22 a1 a2 a3 a4 a5 a6 (r5) μ
theorem t_Fo_matrix {a1 : Int32} {a2 : Int32} {a3 : Int32} {a4 : Int32} {a5 : Int32} {a6 : Int32} {μ : Mem} {q : Bool × Mem} (h : m_Fo_matrix a1 a2 a3 a4 a5 a6 μ = some q) : JM true (2) y_Fo_matrix b_Fo_matrix 9 (some (.boolean)) 0 0 [vr 11 (0), vi (a1), vi (a2), vi (a3), vi (a4), vi (a5), vi (a6)] μ (QQ (some (vi (b2i q.1))) q.2) := by
  unfold m_Fo_matrix at h
  refine JM.of pl_Fo_matrix (fun ρ => Nat.le_of_ble_eq_true rfl) ?_
  show J (GM true (QQ (some (vi (b2i q.1))) q.2) (some (.boolean)) y_Fo_matrix.name) true b_Fo_matrix R_11 9 (2) 0 0 0 [(0, vr 11 (0)), (1, vi (a1)), (2, vi (a2)), (3, vi (a3)), (4, vi (a4)), (5, vi (a5)), (6, vi (a6))] [] μ
  refine J_aload_n (q := 1) 0 d_Fo_matrix_0 rfl rfl rfl ?_
  refine J_iload_n (q := 2) 1 d_Fo_matrix_1 rfl rfl rfl ?_
  obtain ⟨r1, hr1, h⟩ := bd_some h
  refine J_callVq (rc := 0) (rs := 0) (q := 5) (as := [vi (a1)]) (st := []) (by decide) rfl g_436 sel_Fo_letterOf (t_Fo_letterOf hr1) (by decide) (by decide) g_434 g_437 g_1 hy_Fo_letterOf rfl (Nat.le_of_ble_eq_true rfl) d_Fo_matrix_2 rfl ?_
  refine J_astore (q := 7) (lv' := [(7, vo 4 (r1)), (0, vr 11 (0)), (1, vi (a1)), (2, vi (a2)), (3, vi (a3)), (4, vi (a4)), (5, vi (a5)), (6, vi (a6))]) d_Fo_matrix_5 (by decide) rfl rfl ?_
  refine J_aload (q := 9) 0 d_Fo_matrix_7 rfl rfl ?_
  refine J_nonnullO (q := 12) (tgt := 16) d_Fo_matrix_9 (by decide) rfl (fun y2 ho => ?_) (fun ho => ?_)
  · subst ho
    rw [oc_some] at h
    refine J_aload (q := 18) 0 d_Fo_matrix_16 rfl rfl ?_
    refine J_iload_n (q := 19) 3 d_Fo_matrix_18 rfl rfl rfl ?_
    obtain ⟨r5, hr5, h⟩ := bd_some h
    refine J_callVq (rc := 0) (rs := 0) (q := 22) (as := [vi (a2)]) (st := []) (by decide) rfl g_568 g_569 (t_Le_partOf hr5) (by decide) (by decide) g_567 g_570 g_11 hy_Le_partOf rfl (Nat.le_of_ble_eq_true rfl) d_Fo_matrix_19 rfl ?_
    refine J_pick [4, 5, 6, 7] rfl ?_
    exact tj_Fo_matrix_22 a1 a2 a3 a4 a5 a6 _ _ h
  · subst ho
    rw [oc_none] at h
    refine J_null (q := 13) d_Fo_matrix_12 rfl ?_
    refine J_goto (q := 22) d_Fo_matrix_13 (by decide) ?_
    refine J_pick [4, 5, 6, 7] rfl ?_
    exact tj_Fo_matrix_22 a1 a2 a3 a4 a5 a6 _ _ h
def m_Fo_info (a1 : Int32) (a2 : Int32) (μ : Mem) : Option (Int32) :=
  Option.bind (m_Fo_letterOf (a1) μ) fun r1 =>
  oc r1
 (some ((-2 : Int32)))
 fun y2 => if a2 = (0 : Int32) then
 (some (gI μ 4 (y2) 0))
 else if a2 = (1 : Int32) then
 (some (gI μ 4 (y2) 1))
 else if a2 = (2 : Int32) then
 (some (gI μ 10 (y2) 6))
 else if a2 = (3 : Int32) then
 (Option.bind (m_Sh_closedPoints (y2) μ) fun r3 =>
  some (r3))
 else if a2 = (4 : Int32) then
 (some (gI μ 4 (y2) 5))
 else if a2 = (5 : Int32) then
 (some (gI μ 4 (y2) 7))
 else if a2 = (6 : Int32) then
 (if gI μ 10 (y2) 7 = 0 then
 (some ((-1 : Int32)))
 else
 (Option.bind (m_Sh_openPoints (y2) μ) fun r4 =>
  some (r4)))
 else if a2 = (7 : Int32) then
 (some (gI μ 8 (y2) 2))
 else (some ((-2 : Int32)))
theorem t_Fo_info {a1 : Int32} {a2 : Int32} {μ : Mem} {q : Int32} (h : m_Fo_info a1 a2 μ = some q) : JM true (4) y_Fo_info b_Fo_info 4 (some (.int)) 0 0 [vr 11 (0), vi (a1), vi (a2)] μ (QQ (some (vi q)) μ) := by
  unfold m_Fo_info at h
  refine JM.of pl_Fo_info (fun ρ => Nat.le_of_ble_eq_true rfl) ?_
  show J (GM true (QQ (some (vi q)) μ) (some (.int)) y_Fo_info.name) true b_Fo_info R_11 4 (4) 0 0 0 [(0, vr 11 (0)), (1, vi (a1)), (2, vi (a2))] [] μ
  refine J_aload_n (q := 1) 0 d_Fo_info_0 rfl rfl rfl ?_
  refine J_iload_n (q := 2) 1 d_Fo_info_1 rfl rfl rfl ?_
  obtain ⟨r1, hr1, h⟩ := bd_some h
  refine J_callVq (rc := 0) (rs := 0) (q := 5) (as := [vi (a1)]) (st := []) (by decide) rfl g_436 sel_Fo_letterOf (t_Fo_letterOf hr1) (by decide) (by decide) g_434 g_437 g_1 hy_Fo_letterOf rfl (Nat.le_of_ble_eq_true rfl) d_Fo_info_2 rfl ?_
  refine J_astore_n (q := 6) (lv' := [(3, vo 4 (r1)), (0, vr 11 (0)), (1, vi (a1)), (2, vi (a2))]) d_Fo_info_5 rfl (by decide) rfl rfl ?_
  refine J_aload_n (q := 7) 0 d_Fo_info_6 rfl rfl rfl ?_
  refine J_nonnullO (q := 10) (tgt := 13) d_Fo_info_7 (by decide) rfl (fun y2 ho => ?_) (fun ho => ?_)
  · subst ho
    rw [oc_some] at h
    refine J_iload_n (q := 14) 3 d_Fo_info_13 rfl rfl rfl ?_
    by_cases hk0 : a2 = (0 : Int32)
    · rw [if_pos hk0] at h
      refine J_swIn (tgt := 60) d_Fo_info_14 (by rw [hk0]; decide) (by rw [hk0]; decide) (by rw [hk0]; rfl) (by decide) ?_
      refine J_aload_n (q := 61) 0 d_Fo_info_60 rfl rfl rfl ?_
      refine J_getI (q := 64) (j := 0) cd_4 (by decide) (Or.inl rfl) g_386 rfl d_Fo_info_61 rfl ?_
      obtain rfl := Option.some.inj h
      exact J_iret rfl ⟨rfl, rfl⟩ d_Fo_info_64
    rw [if_neg hk0] at h
    by_cases hk1 : a2 = (1 : Int32)
    · rw [if_pos hk1] at h
      refine J_swIn (tgt := 65) d_Fo_info_14 (by rw [hk1]; decide) (by rw [hk1]; decide) (by rw [hk1]; rfl) (by decide) ?_
      refine J_aload_n (q := 66) 0 d_Fo_info_65 rfl rfl rfl ?_
      refine J_getI (q := 69) (j := 1) cd_4 (by decide) (Or.inl rfl) g_389 rfl d_Fo_info_66 rfl ?_
      obtain rfl := Option.some.inj h
      exact J_iret rfl ⟨rfl, rfl⟩ d_Fo_info_69
    rw [if_neg hk1] at h
    by_cases hk2 : a2 = (2 : Int32)
    · rw [if_pos hk2] at h
      refine J_swIn (tgt := 70) d_Fo_info_14 (by rw [hk2]; decide) (by rw [hk2]; decide) (by rw [hk2]; rfl) (by decide) ?_
      refine J_aload_n (q := 71) 0 d_Fo_info_70 rfl rfl rfl ?_
      refine J_getF (q := 74) cd_4 (by decide) ft_4_2 rfl g_392 rfl d_Fo_info_71 rfl ?_
      refine J_getI (q := 77) (j := 6) cd_10 (by decide) (Or.inl rfl) g_341 rfl d_Fo_info_74 rfl ?_
      obtain rfl := Option.some.inj h
      exact J_iret rfl ⟨rfl, rfl⟩ d_Fo_info_77
    rw [if_neg hk2] at h
    by_cases hk3 : a2 = (3 : Int32)
    · rw [if_pos hk3] at h
      refine J_swIn (tgt := 78) d_Fo_info_14 (by rw [hk3]; decide) (by rw [hk3]; decide) (by rw [hk3]; rfl) (by decide) ?_
      refine J_aload_n (q := 79) 0 d_Fo_info_78 rfl rfl rfl ?_
      refine J_getF (q := 82) cd_4 (by decide) ft_4_2 rfl g_392 rfl d_Fo_info_79 rfl ?_
      obtain ⟨r3, hr3, h⟩ := bd_some h
      refine J_callVq (rc := 0) (rs := 0) (q := 85) (as := []) (st := []) (by decide) rfl g_460 g_461 (t_Sh_closedPoints hr3) (by decide) (by decide) g_585 g_462 g_12 hy_Sh_closedPoints rfl (Nat.le_of_ble_eq_true rfl) d_Fo_info_82 rfl ?_
      obtain rfl := Option.some.inj h
      exact J_iret rfl ⟨rfl, rfl⟩ d_Fo_info_85
    rw [if_neg hk3] at h
    by_cases hk4 : a2 = (4 : Int32)
    · rw [if_pos hk4] at h
      refine J_swIn (tgt := 86) d_Fo_info_14 (by rw [hk4]; decide) (by rw [hk4]; decide) (by rw [hk4]; rfl) (by decide) ?_
      refine J_aload_n (q := 87) 0 d_Fo_info_86 rfl rfl rfl ?_
      refine J_getI (q := 90) (j := 5) cd_4 (by decide) (Or.inl rfl) g_399 rfl d_Fo_info_87 rfl ?_
      obtain rfl := Option.some.inj h
      exact J_iret rfl ⟨rfl, rfl⟩ d_Fo_info_90
    rw [if_neg hk4] at h
    by_cases hk5 : a2 = (5 : Int32)
    · rw [if_pos hk5] at h
      refine J_swIn (tgt := 91) d_Fo_info_14 (by rw [hk5]; decide) (by rw [hk5]; decide) (by rw [hk5]; rfl) (by decide) ?_
      refine J_aload_n (q := 92) 0 d_Fo_info_91 rfl rfl rfl ?_
      refine J_getI (q := 95) (j := 7) cd_4 (by decide) (Or.inl rfl) g_403 rfl d_Fo_info_92 rfl ?_
      obtain rfl := Option.some.inj h
      exact J_iret rfl ⟨rfl, rfl⟩ d_Fo_info_95
    rw [if_neg hk5] at h
    by_cases hk6 : a2 = (6 : Int32)
    · rw [if_pos hk6] at h
      refine J_swIn (tgt := 96) d_Fo_info_14 (by rw [hk6]; decide) (by rw [hk6]; decide) (by rw [hk6]; rfl) (by decide) ?_
      refine J_aload_n (q := 97) 0 d_Fo_info_96 rfl rfl rfl ?_
      refine J_getF (q := 100) cd_4 (by decide) ft_4_2 rfl g_392 rfl d_Fo_info_97 rfl ?_
      refine J_getI (q := 103) (j := 7) cd_10 (by decide) (Or.inr rfl) g_343 rfl d_Fo_info_100 rfl ?_
      refine J_if_eq (q := 106) (tgt := 116) d_Fo_info_103 (by decide) rfl (fun hc => ?_) (fun hc => ?_)
      · rw [if_pos hc] at h
        refine J_iconst (q := 117) (v := (-1 : Int32)) d_Fo_info_116 (by decide) rfl ?_
        obtain rfl := Option.some.inj h
        exact J_iret rfl ⟨rfl, rfl⟩ d_Fo_info_117
      · rw [if_neg hc] at h
        refine J_aload_n (q := 107) 0 d_Fo_info_106 rfl rfl rfl ?_
        refine J_getF (q := 110) cd_4 (by decide) ft_4_2 rfl g_392 rfl d_Fo_info_107 rfl ?_
        obtain ⟨r4, hr4, h⟩ := bd_some h
        refine J_callVq (rc := 0) (rs := 0) (q := 113) (as := []) (st := []) (by decide) rfl g_456 g_457 (t_Sh_openPoints hr4) (by decide) (by decide) g_586 g_458 g_12 hy_Sh_openPoints rfl (Nat.le_of_ble_eq_true rfl) d_Fo_info_110 rfl ?_
        refine J_goto (q := 117) d_Fo_info_113 (by decide) ?_
        obtain rfl := Option.some.inj h
        exact J_iret rfl ⟨rfl, rfl⟩ d_Fo_info_117
    rw [if_neg hk6] at h
    by_cases hk7 : a2 = (7 : Int32)
    · rw [if_pos hk7] at h
      refine J_swIn (tgt := 118) d_Fo_info_14 (by rw [hk7]; decide) (by rw [hk7]; decide) (by rw [hk7]; rfl) (by decide) ?_
      refine J_aload_n (q := 119) 0 d_Fo_info_118 rfl rfl rfl ?_
      refine J_getF (q := 122) cd_4 (by decide) ft_4_3 rfl g_394 rfl d_Fo_info_119 rfl ?_
      refine J_getI (q := 125) (j := 2) cd_8 (by decide) (Or.inl rfl) g_376 rfl d_Fo_info_122 rfl ?_
      obtain rfl := Option.some.inj h
      exact J_iret rfl ⟨rfl, rfl⟩ d_Fo_info_125
    rw [if_neg hk7] at h
    refine J_swOut (tgt := 126) d_Fo_info_14 (by have e0 := lv_neT hk0 (a := 0) (by decide); have e1 := lv_neT hk1 (a := 1) (by decide); have e2 := lv_neT hk2 (a := 2) (by decide); have e3 := lv_neT hk3 (a := 3) (by decide); have e4 := lv_neT hk4 (a := 4) (by decide); have e5 := lv_neT hk5 (a := 5) (by decide); have e6 := lv_neT hk6 (a := 6) (by decide); have e7 := lv_neT hk7 (a := 7) (by decide); omega) (by decide) ?_
    refine J_bipush (q := 128) (v := (-2 : Int32)) d_Fo_info_126 (by decide) rfl ?_
    obtain rfl := Option.some.inj h
    exact J_iret rfl ⟨rfl, rfl⟩ d_Fo_info_128
  · subst ho
    rw [oc_none] at h
    refine J_bipush (q := 12) (v := (-2 : Int32)) d_Fo_info_10 (by decide) rfl ?_
    obtain rfl := Option.some.inj h
    exact J_iret rfl ⟨rfl, rfl⟩ d_Fo_info_12
def lp_Sh_outlineWith_2 (o : Nat) (a1 : Int32) (μ : Mem) : Nat → Int32 → Option (Int32)
  | 0, _ => none
  | n + 1, y2 =>
  if (gI μ 10 (o) 6) - ((1 : Int32)) ≤ y2 then
 (some (y2))
 else
 (Option.bind (m_Sh_endOf (o) (y2) μ) fun r3 =>
  if a1 < r3 then
 (some (y2))
 else
 (ap (y2 + (1 : Int32)) fun x4 =>
  lp_Sh_outlineWith_2 o a1 μ n (x4)))
theorem tl_Sh_outlineWith_2 (o : Nat) (a1 : Int32) (μ : Mem) {q : Int32}  : ∀ (n : Nat) (y2 : Int32), lp_Sh_outlineWith_2 o a1 μ n y2 = some q → J (GM true (QQ (some (vi q)) μ) (some (.int)) y_Sh_outlineWith.name) true b_Sh_outlineWith R_10 3 (3) 0 0 2 [(0, vr 10 (o)), (1, vi (a1)), (2, vi (y2))] [] μ := by
  intro n
  induction n with
  | zero => intro _ h; cases h
  | succ n ih =>
    intro y2 h
    unfold lp_Sh_outlineWith_2 at h
    refine J_iload_n (q := 3) 2 d_Sh_outlineWith_2 rfl rfl rfl ?_
    refine J_aload_n (q := 4) 0 d_Sh_outlineWith_3 rfl rfl rfl ?_
    refine J_getI (q := 7) (j := 6) cd_10 (by decide) (Or.inl rfl) g_338 rfl d_Sh_outlineWith_4 rfl ?_
    refine J_iconst (q := 8) (v := (1 : Int32)) d_Sh_outlineWith_7 (by decide) rfl ?_
    refine J_isub (q := 9) d_Sh_outlineWith_8 rfl ?_
    refine J_icmp_ge (q := 12) (tgt := 27) d_Sh_outlineWith_9 (by decide) rfl (fun hc => ?_) (fun hc => ?_)
    · rw [if_pos hc] at h
      refine J_iload_n (q := 28) 2 d_Sh_outlineWith_27 rfl rfl rfl ?_
      obtain rfl := Option.some.inj h
      exact J_iret rfl ⟨rfl, rfl⟩ d_Sh_outlineWith_28
    · rw [if_neg hc] at h
      refine J_iload_n (q := 13) 1 d_Sh_outlineWith_12 rfl rfl rfl ?_
      refine J_aload_n (q := 14) 0 d_Sh_outlineWith_13 rfl rfl rfl ?_
      refine J_iload_n (q := 15) 2 d_Sh_outlineWith_14 rfl rfl rfl ?_
      obtain ⟨r3, hr3, h⟩ := bd_some h
      refine J_callVq (rc := 0) (rs := 0) (q := 18) (as := [vi (y2)]) (st := [vi (a1)]) (by decide) rfl g_513 g_514 (t_Sh_endOf hr3) (by decide) (by decide) g_512 g_515 g_12 hy_Sh_endOf rfl (Nat.le_of_ble_eq_true rfl) d_Sh_outlineWith_15 rfl ?_
      refine J_icmp_lt (q := 21) (tgt := 27) d_Sh_outlineWith_18 (by decide) rfl (fun hc => ?_) (fun hc => ?_)
      · rw [if_pos hc] at h
        refine J_iload_n (q := 28) 2 d_Sh_outlineWith_27 rfl rfl rfl ?_
        obtain rfl := Option.some.inj h
        exact J_iret rfl ⟨rfl, rfl⟩ d_Sh_outlineWith_28
      · rw [if_neg hc] at h
        obtain ⟨x4, hx4, h⟩ := ap_eq h
        refine J_iinc (q := 24) (v := x4) (lv' := [(2, vi (x4)), (0, vr 10 (o)), (1, vi (a1))]) 2 d_Sh_outlineWith_21 rfl (by rw [hx4]; rfl) (by decide) rfl rfl ?_
        refine J_goto (q := 2) d_Sh_outlineWith_24 (by decide) ?_
        refine J_pick [1, 2, 0] rfl ?_
        exact ih _ h
def m_Sh_outlineWith (o : Nat) (a1 : Int32) (μ : Mem) : Option (Int32) :=
  lp_Sh_outlineWith_2 o a1 μ FU ((0 : Int32))
theorem t_Sh_outlineWith {o : Nat} {a1 : Int32} {μ : Mem} {q : Int32} (h : m_Sh_outlineWith o a1 μ = some q) : JM true (3) y_Sh_outlineWith b_Sh_outlineWith 3 (some (.int)) 0 0 [vr 10 (o), vi (a1)] μ (QQ (some (vi q)) μ) := by
  unfold m_Sh_outlineWith at h
  refine JM.of pl_Sh_outlineWith (fun ρ => Nat.le_of_ble_eq_true rfl) ?_
  show J (GM true (QQ (some (vi q)) μ) (some (.int)) y_Sh_outlineWith.name) true b_Sh_outlineWith R_10 3 (3) 0 0 0 [(0, vr 10 (o)), (1, vi (a1))] [] μ
  refine J_iconst (q := 1) (v := (0 : Int32)) d_Sh_outlineWith_0 (by decide) rfl ?_
  refine J_istore_n (q := 2) (lv' := [(2, vi ((0 : Int32))), (0, vr 10 (o)), (1, vi (a1))]) d_Sh_outlineWith_1 rfl (by decide) rfl rfl ?_
  refine J_pick [1, 2, 0] rfl ?_
  exact tl_Sh_outlineWith_2 o a1 μ FU _ h
def m_Fo_at (a1 : Int32) (a2 : Int32) (a3 : Int32) (μ : Mem) : Option (Int32) :=
  Option.bind (m_Fo_letterOf (a1) μ) fun r1 =>
  oc r1
 (some ((-100000 : Int32)))
 fun y2 => Option.bind (m_Sh_hasPoint (y2) (a2) μ) fun r3 =>
  if r3 then
 (if a3 = (0 : Int32) then
 (gu (a2) 100 <|
  some (gI μ 300 (y2) a2.toNatClampNeg))
 else if a3 = (1 : Int32) then
 (gu (a2) 100 <|
  some (gI μ 301 (y2) a2.toNatClampNeg))
 else if a3 = (2 : Int32) then
 (gu (a2) 100 <|
  some (gI μ 302 (y2) a2.toNatClampNeg))
 else if a3 = (3 : Int32) then
 (Option.bind (m_Sh_outlineWith (y2) (a2) μ) fun r7 =>
  some (r7))
 else (some ((-100000 : Int32))))
 else
 (some ((-100000 : Int32)))
theorem t_Fo_at {a1 : Int32} {a2 : Int32} {a3 : Int32} {μ : Mem} {q : Int32} (h : m_Fo_at a1 a2 a3 μ = some q) : JM true (4) y_Fo_at b_Fo_at 5 (some (.int)) 0 0 [vr 11 (0), vi (a1), vi (a2), vi (a3)] μ (QQ (some (vi q)) μ) := by
  unfold m_Fo_at at h
  refine JM.of pl_Fo_at (fun ρ => Nat.le_of_ble_eq_true rfl) ?_
  show J (GM true (QQ (some (vi q)) μ) (some (.int)) y_Fo_at.name) true b_Fo_at R_11 5 (4) 0 0 0 [(0, vr 11 (0)), (1, vi (a1)), (2, vi (a2)), (3, vi (a3))] [] μ
  refine J_aload_n (q := 1) 0 d_Fo_at_0 rfl rfl rfl ?_
  refine J_iload_n (q := 2) 1 d_Fo_at_1 rfl rfl rfl ?_
  obtain ⟨r1, hr1, h⟩ := bd_some h
  refine J_callVq (rc := 0) (rs := 0) (q := 5) (as := [vi (a1)]) (st := []) (by decide) rfl g_436 sel_Fo_letterOf (t_Fo_letterOf hr1) (by decide) (by decide) g_434 g_437 g_1 hy_Fo_letterOf rfl (Nat.le_of_ble_eq_true rfl) d_Fo_at_2 rfl ?_
  refine J_astore (q := 7) (lv' := [(4, vo 4 (r1)), (0, vr 11 (0)), (1, vi (a1)), (2, vi (a2)), (3, vi (a3))]) d_Fo_at_5 (by decide) rfl rfl ?_
  refine J_aload (q := 9) 0 d_Fo_at_7 rfl rfl ?_
  refine J_nullO (q := 12) (tgt := 24) d_Fo_at_9 (by decide) rfl (fun ho => ?_) (fun y2 ho => ?_)
  · subst ho
    rw [oc_none] at h
    refine J_ldc (q := 26) d_Fo_at_24 g_591 rfl ?_
    obtain rfl := Option.some.inj h
    exact J_iret rfl ⟨rfl, rfl⟩ d_Fo_at_26
  · subst ho
    rw [oc_some] at h
    refine J_aload (q := 14) 0 d_Fo_at_12 rfl rfl ?_
    refine J_getF (q := 17) cd_4 (by decide) ft_4_2 rfl g_392 rfl d_Fo_at_14 rfl ?_
    refine J_iload_n (q := 18) 3 d_Fo_at_17 rfl rfl rfl ?_
    obtain ⟨r3, hr3, h⟩ := bd_some h
    refine J_callVq (rc := 0) (rs := 0) (q := 21) (as := [vi (a2)]) (st := []) (by decide) rfl g_501 g_502 (t_Sh_hasPoint hr3) (by decide) (by decide) g_500 g_503 g_12 hy_Sh_hasPoint rfl (Nat.le_of_ble_eq_true rfl) d_Fo_at_18 rfl ?_
    refine J_ifB_ne (q := 24) (tgt := 27) d_Fo_at_21 (by decide) rfl (fun hb => ?_) (fun hb => ?_)
    · rw [iB_t hb] at h
      refine J_iload_n (q := 28) 4 d_Fo_at_27 rfl rfl rfl ?_
      by_cases hk0 : a3 = (0 : Int32)
      · rw [if_pos hk0] at h
        refine J_swIn (tgt := 60) d_Fo_at_28 (by rw [hk0]; decide) (by rw [hk0]; decide) (by rw [hk0]; rfl) (by decide) ?_
        refine J_aload (q := 62) 0 d_Fo_at_60 rfl rfl ?_
        refine J_getF (q := 65) cd_4 (by decide) ft_4_2 rfl g_392 rfl d_Fo_at_62 rfl ?_
        refine J_getF (q := 68) cd_10 (by decide) ft_10_0 rfl g_325 rfl d_Fo_at_65 rfl ?_
        refine J_iload_n (q := 69) 3 d_Fo_at_68 rfl rfl rfl ?_
        obtain ⟨hi4, h⟩ := gu_some h
        refine J_iald (q := 70) rk_300 (by decide) hi4 d_Fo_at_69 rfl ?_
        obtain rfl := Option.some.inj h
        exact J_iret rfl ⟨rfl, rfl⟩ d_Fo_at_70
      rw [if_neg hk0] at h
      by_cases hk1 : a3 = (1 : Int32)
      · rw [if_pos hk1] at h
        refine J_swIn (tgt := 71) d_Fo_at_28 (by rw [hk1]; decide) (by rw [hk1]; decide) (by rw [hk1]; rfl) (by decide) ?_
        refine J_aload (q := 73) 0 d_Fo_at_71 rfl rfl ?_
        refine J_getF (q := 76) cd_4 (by decide) ft_4_2 rfl g_392 rfl d_Fo_at_73 rfl ?_
        refine J_getF (q := 79) cd_10 (by decide) ft_10_1 rfl g_329 rfl d_Fo_at_76 rfl ?_
        refine J_iload_n (q := 80) 3 d_Fo_at_79 rfl rfl rfl ?_
        obtain ⟨hi5, h⟩ := gu_some h
        refine J_iald (q := 81) rk_301 (by decide) hi5 d_Fo_at_80 rfl ?_
        obtain rfl := Option.some.inj h
        exact J_iret rfl ⟨rfl, rfl⟩ d_Fo_at_81
      rw [if_neg hk1] at h
      by_cases hk2 : a3 = (2 : Int32)
      · rw [if_pos hk2] at h
        refine J_swIn (tgt := 82) d_Fo_at_28 (by rw [hk2]; decide) (by rw [hk2]; decide) (by rw [hk2]; rfl) (by decide) ?_
        refine J_aload (q := 84) 0 d_Fo_at_82 rfl rfl ?_
        refine J_getF (q := 87) cd_4 (by decide) ft_4_2 rfl g_392 rfl d_Fo_at_84 rfl ?_
        refine J_getF (q := 90) cd_10 (by decide) ft_10_2 rfl g_332 rfl d_Fo_at_87 rfl ?_
        refine J_iload_n (q := 91) 3 d_Fo_at_90 rfl rfl rfl ?_
        obtain ⟨hi6, h⟩ := gu_some h
        refine J_iald (q := 92) rk_302 (by decide) hi6 d_Fo_at_91 rfl ?_
        obtain rfl := Option.some.inj h
        exact J_iret rfl ⟨rfl, rfl⟩ d_Fo_at_92
      rw [if_neg hk2] at h
      by_cases hk3 : a3 = (3 : Int32)
      · rw [if_pos hk3] at h
        refine J_swIn (tgt := 93) d_Fo_at_28 (by rw [hk3]; decide) (by rw [hk3]; decide) (by rw [hk3]; rfl) (by decide) ?_
        refine J_aload (q := 95) 0 d_Fo_at_93 rfl rfl ?_
        refine J_getF (q := 98) cd_4 (by decide) ft_4_2 rfl g_392 rfl d_Fo_at_95 rfl ?_
        refine J_iload_n (q := 99) 3 d_Fo_at_98 rfl rfl rfl ?_
        obtain ⟨r7, hr7, h⟩ := bd_some h
        refine J_callVq (rc := 0) (rs := 0) (q := 102) (as := [vi (a2)]) (st := []) (by decide) rfl g_593 g_594 (t_Sh_outlineWith hr7) (by decide) (by decide) g_592 g_595 g_12 hy_Sh_outlineWith rfl (Nat.le_of_ble_eq_true rfl) d_Fo_at_99 rfl ?_
        obtain rfl := Option.some.inj h
        exact J_iret rfl ⟨rfl, rfl⟩ d_Fo_at_102
      rw [if_neg hk3] at h
      refine J_swOut (tgt := 103) d_Fo_at_28 (by have e0 := lv_neT hk0 (a := 0) (by decide); have e1 := lv_neT hk1 (a := 1) (by decide); have e2 := lv_neT hk2 (a := 2) (by decide); have e3 := lv_neT hk3 (a := 3) (by decide); omega) (by decide) ?_
      refine J_ldc (q := 105) d_Fo_at_103 g_591 rfl ?_
      obtain rfl := Option.some.inj h
      exact J_iret rfl ⟨rfl, rfl⟩ d_Fo_at_105
    · rw [iB_f hb] at h
      refine J_ldc (q := 26) d_Fo_at_24 g_591 rfl ?_
      obtain rfl := Option.some.inj h
      exact J_iret rfl ⟨rfl, rfl⟩ d_Fo_at_26
def m_Fo_takeSparePolygons (μ : Mem) : Mem :=
  ap (gR μ 11 (0) 3) fun o1 =>
  ap (gR μ 11 (0) 4) fun o2 =>
  ap (sR μ 11 (0) 3 (o2)) fun μ3 =>
  ap (sR μ3 11 (0) 4 (o1)) fun μ4 =>
  μ4
theorem t_Fo_takeSparePolygons {μ : Mem} {q : Mem} (h : m_Fo_takeSparePolygons  μ = q) : JM true (0) y_Fo_takeSparePolygons b_Fo_takeSparePolygons 2 none 0 0 [vr 11 (0)] μ (QQ none q) := by
  unfold m_Fo_takeSparePolygons at h
  refine JM.of pl_Fo_takeSparePolygons (fun ρ => Nat.le_of_ble_eq_true rfl) ?_
  show J (GM true (QQ none q) none y_Fo_takeSparePolygons.name) true b_Fo_takeSparePolygons R_11 2 (0) 0 0 0 [(0, vr 11 (0))] [] μ
  refine J_aload_n (q := 1) 0 d_Fo_takeSparePolygons_0 rfl rfl rfl ?_
  refine J_getR (q := 4) cd_11 (by decide) ft_11_3 g_257 rfl d_Fo_takeSparePolygons_1 rfl ?_
  obtain ⟨o1, ho1, h⟩ := ap_eq h
  refine J_nmO ho1 ?_
  refine J_astore_n (q := 5) (lv' := [(1, vo 7 (o1)), (0, vr 11 (0))]) d_Fo_takeSparePolygons_4 rfl (by decide) rfl rfl ?_
  refine J_aload_n (q := 6) 1 d_Fo_takeSparePolygons_5 rfl rfl rfl ?_
  refine J_aload_n (q := 7) 1 d_Fo_takeSparePolygons_6 rfl rfl rfl ?_
  refine J_getR (q := 10) cd_11 (by decide) ft_11_4 g_258 rfl d_Fo_takeSparePolygons_7 rfl ?_
  obtain ⟨o2, ho2, h⟩ := ap_eq h
  refine J_nmO ho2 ?_
  refine J_putR (q := 13) (r := 7) (x := o2) cd_11 (by decide) ft_11_3 (by decide) rfl rfl (Or.inl ⟨_, rfl⟩) rfl g_257 rfl d_Fo_takeSparePolygons_10 rfl ?_
  obtain ⟨μ3, hμ3, h⟩ := ap_eq h
  refine J_nmM hμ3 ?_
  refine J_aload_n (q := 14) 1 d_Fo_takeSparePolygons_13 rfl rfl rfl ?_
  refine J_aload_n (q := 15) 0 d_Fo_takeSparePolygons_14 rfl rfl rfl ?_
  refine J_putR (q := 18) (r := 7) (x := o1) cd_11 (by decide) ft_11_4 (by decide) rfl rfl (Or.inl ⟨_, rfl⟩) rfl g_258 rfl d_Fo_takeSparePolygons_15 rfl ?_
  obtain ⟨μ4, hμ4, h⟩ := ap_eq h
  refine J_nmM hμ4 ?_
  subst h
  exact J_vret rfl ⟨rfl, rfl⟩ d_Fo_takeSparePolygons_18
def m_Ma_abs (a1 : Int64) (μ : Mem) : Int64 :=
  if (0 : Int64) ≤ a1 then
 (a1)
 else
 (-(a1))
theorem t_Ma_abs {a1 : Int64} {μ : Mem} {q : Int64} (h : m_Ma_abs a1 μ = q) : JM true (0) y_Ma_abs b_Ma_abs 2 (some (.long)) 0 0 [vl (a1)] μ (QQ (some (vl q)) μ) := by
  unfold m_Ma_abs at h
  refine JM.of pl_Ma_abs (fun ρ => Nat.le_of_ble_eq_true rfl) ?_
  show J (GM true (QQ (some (vl q)) μ) (some (.long)) y_Ma_abs.name) true b_Ma_abs R_Ma 2 (0) 0 0 0 [(0, vl (a1))] [] μ
  refine J_lload_n (q := 1) 0 d_Ma_abs_0 rfl rfl rfl ?_
  refine J_lconst (q := 2) (v := (0 : Int64)) d_Ma_abs_1 (by decide) rfl ?_
  refine J_lif_ge (q := 6) (tgt := 11) d_Ma_abs_2 d_Ma_abs_3 (by decide) rfl (fun hc => ?_) (fun hc => ?_)
  · rw [if_pos hc] at h
    refine J_lload_n (q := 12) 0 d_Ma_abs_11 rfl rfl rfl ?_
    subst h
    exact J_lret rfl ⟨rfl, rfl⟩ d_Ma_abs_12
  · rw [if_neg hc] at h
    refine J_lload_n (q := 7) 0 d_Ma_abs_6 rfl rfl rfl ?_
    refine J_lneg (q := 8) d_Ma_abs_7 rfl ?_
    refine J_goto (q := 12) d_Ma_abs_8 (by decide) ?_
    subst h
    exact J_lret rfl ⟨rfl, rfl⟩ d_Ma_abs_12
def m_Ma_floorDiv (a1 : Int64) (a2 : Int64) (μ : Mem) : Option (Int64) :=
  gzl (a2) <|
  ap (a1 / a2) fun x2 =>
  if (0 : Int64) ≤ a1 ^^^ a2 then
 (some (x2))
 else
 (if x2 * a2 = a1 then
 (some (x2))
 else
 (some (x2 - (1 : Int64))))
theorem t_Ma_floorDiv {a1 : Int64} {a2 : Int64} {μ : Mem} {q : Int64} (h : m_Ma_floorDiv a1 a2 μ = some q) : JM true (0) y_Ma_floorDiv b_Ma_floorDiv 6 (some (.long)) 0 0 [vl (a1), vl (a2)] μ (QQ (some (vl q)) μ) := by
  unfold m_Ma_floorDiv at h
  refine JM.of pl_Ma_floorDiv (fun ρ => Nat.le_of_ble_eq_true rfl) ?_
  show J (GM true (QQ (some (vl q)) μ) (some (.long)) y_Ma_floorDiv.name) true b_Ma_floorDiv R_Ma 6 (0) 0 0 0 [(0, vl (a1)), (2, vl (a2))] [] μ
  refine J_lload_n (q := 1) 0 d_Ma_floorDiv_0 rfl rfl rfl ?_
  refine J_lload_n (q := 2) 1 d_Ma_floorDiv_1 rfl rfl rfl ?_
  obtain ⟨hg1, h⟩ := gzl_some h
  refine J_ldiv (q := 3) d_Ma_floorDiv_2 hg1 rfl ?_
  obtain ⟨x2, hx2, h⟩ := ap_eq h
  refine J_nmL hx2 ?_
  refine J_lstore (q := 5) (lv' := [(4, vl (x2)), (0, vl (a1)), (2, vl (a2))]) d_Ma_floorDiv_3 (by decide) rfl rfl ?_
  refine J_lload_n (q := 6) 1 d_Ma_floorDiv_5 rfl rfl rfl ?_
  refine J_lload_n (q := 7) 2 d_Ma_floorDiv_6 rfl rfl rfl ?_
  refine J_lxor (q := 8) d_Ma_floorDiv_7 rfl ?_
  refine J_lconst (q := 9) (v := (0 : Int64)) d_Ma_floorDiv_8 (by decide) rfl ?_
  refine J_lif_ge (q := 13) (tgt := 27) d_Ma_floorDiv_9 d_Ma_floorDiv_10 (by decide) rfl (fun hc => ?_) (fun hc => ?_)
  · rw [if_pos hc] at h
    refine J_lload (q := 29) 0 d_Ma_floorDiv_27 rfl rfl ?_
    obtain rfl := Option.some.inj h
    exact J_lret rfl ⟨rfl, rfl⟩ d_Ma_floorDiv_29
  · rw [if_neg hc] at h
    refine J_lload (q := 15) 0 d_Ma_floorDiv_13 rfl rfl ?_
    refine J_lload_n (q := 16) 2 d_Ma_floorDiv_15 rfl rfl rfl ?_
    refine J_lmul (q := 17) d_Ma_floorDiv_16 rfl ?_
    refine J_lload_n (q := 18) 1 d_Ma_floorDiv_17 rfl rfl rfl ?_
    refine J_lif_eq (q := 22) (tgt := 27) d_Ma_floorDiv_18 d_Ma_floorDiv_19 (by decide) rfl (fun hc => ?_) (fun hc => ?_)
    · rw [if_pos hc] at h
      refine J_lload (q := 29) 0 d_Ma_floorDiv_27 rfl rfl ?_
      obtain rfl := Option.some.inj h
      exact J_lret rfl ⟨rfl, rfl⟩ d_Ma_floorDiv_29
    · rw [if_neg hc] at h
      refine J_lload (q := 24) 0 d_Ma_floorDiv_22 rfl rfl ?_
      refine J_lconst (q := 25) (v := (1 : Int64)) d_Ma_floorDiv_24 (by decide) rfl ?_
      refine J_lsub (q := 26) d_Ma_floorDiv_25 rfl ?_
      obtain rfl := Option.some.inj h
      exact J_lret rfl ⟨rfl, rfl⟩ d_Ma_floorDiv_26
def mj_Fo_rounded_81 (a1 : Int64) (a2 : Int64) (μ : Mem) (y8 : Int64) (z0 : Int32) : Option (Int64) :=
  if z0 = 0 then
 (some (y8))
 else
 (some (y8 + (1 : Int64)))
theorem tj_Fo_rounded_81 (a1 : Int64) (a2 : Int64) (μ : Mem) {q : Int64}  (y8 : Int64) (z0 : Int32) (h : mj_Fo_rounded_81 a1 a2 μ y8 z0 = some q) : J (GM true (QQ (some (vl q)) μ) (some (.long)) y_Fo_rounded.name) true b_Fo_rounded R_11 13 (1) 0 0 81 [(8, vl (y8))] [vi (z0)] μ := by
  unfold mj_Fo_rounded_81 at h
  refine J_istore (q := 83) (lv' := [(12, vi (z0)), (8, vl (y8))]) d_Fo_rounded_81 (by decide) rfl rfl ?_
  refine J_iload (q := 85) 0 d_Fo_rounded_83 rfl rfl ?_
  refine J_if_eq (q := 88) (tgt := 95) d_Fo_rounded_85 (by decide) rfl (fun hc => ?_) (fun hc => ?_)
  · rw [if_pos hc] at h
    refine J_lload (q := 97) 1 d_Fo_rounded_95 rfl rfl ?_
    obtain rfl := Option.some.inj h
    exact J_lret rfl ⟨rfl, rfl⟩ d_Fo_rounded_97
  · rw [if_neg hc] at h
    refine J_lload (q := 90) 1 d_Fo_rounded_88 rfl rfl ?_
    refine J_lconst (q := 91) (v := (1 : Int64)) d_Fo_rounded_90 (by decide) rfl ?_
    refine J_ladd (q := 92) d_Fo_rounded_91 rfl ?_
    refine J_goto (q := 97) d_Fo_rounded_92 (by decide) ?_
    obtain rfl := Option.some.inj h
    exact J_lret rfl ⟨rfl, rfl⟩ d_Fo_rounded_97
def mj_Fo_rounded_76 (a1 : Int64) (a2 : Int64) (μ : Mem) (y8 : Int64) : Option (Int64) :=
  mj_Fo_rounded_81 a1 a2 μ (y8) ((1 : Int32))
theorem tj_Fo_rounded_76 (a1 : Int64) (a2 : Int64) (μ : Mem) {q : Int64}  (y8 : Int64) (h : mj_Fo_rounded_76 a1 a2 μ y8 = some q) : J (GM true (QQ (some (vl q)) μ) (some (.long)) y_Fo_rounded.name) true b_Fo_rounded R_11 13 (1) 0 0 76 [(8, vl (y8))] [] μ := by
  unfold mj_Fo_rounded_76 at h
  refine J_iconst (q := 77) (v := (1 : Int32)) d_Fo_rounded_76 (by decide) rfl ?_
  refine J_goto (q := 81) d_Fo_rounded_77 (by decide) ?_
  refine J_pick [0] rfl ?_
  exact tj_Fo_rounded_81 a1 a2 μ _ _ h
def mj_Fo_rounded_80 (a1 : Int64) (a2 : Int64) (μ : Mem) (y8 : Int64) : Option (Int64) :=
  mj_Fo_rounded_81 a1 a2 μ (y8) ((0 : Int32))
theorem tj_Fo_rounded_80 (a1 : Int64) (a2 : Int64) (μ : Mem) {q : Int64}  (y8 : Int64) (h : mj_Fo_rounded_80 a1 a2 μ y8 = some q) : J (GM true (QQ (some (vl q)) μ) (some (.long)) y_Fo_rounded.name) true b_Fo_rounded R_11 13 (1) 0 0 80 [(8, vl (y8))] [] μ := by
  unfold mj_Fo_rounded_80 at h
  refine J_iconst (q := 81) (v := (0 : Int32)) d_Fo_rounded_80 (by decide) rfl ?_
  refine J_pick [0] rfl ?_
  exact tj_Fo_rounded_81 a1 a2 μ _ _ h
def mj_Fo_rounded_20 (a1 : Int64) (a2 : Int64) (μ : Mem) (z0 : Int64) : Option (Int64) :=
  ap ((m_Ma_abs (a2) μ)) fun x1 =>
  Option.bind (m_Ma_floorDiv (z0) (x1) μ) fun r2 =>
  ap (((2 : Int64)) * ((z0) - (r2 * x1))) fun x3 =>
  if x1 < x3 then
 (mj_Fo_rounded_76 a1 a2 μ (r2))
 else
 (if x3 = x1 then
 (if r2 &&& (1 : Int64) = (0 : Int64) then
 (mj_Fo_rounded_80 a1 a2 μ (r2))
 else
 (mj_Fo_rounded_76 a1 a2 μ (r2)))
 else
 (mj_Fo_rounded_80 a1 a2 μ (r2)))
theorem tj_Fo_rounded_20 (a1 : Int64) (a2 : Int64) (μ : Mem) {q : Int64}  (z0 : Int64) (h : mj_Fo_rounded_20 a1 a2 μ z0 = some q) : J (GM true (QQ (some (vl q)) μ) (some (.long)) y_Fo_rounded.name) true b_Fo_rounded R_11 13 (1) 0 0 20 [(2, vl (a2))] [vl (z0)] μ := by
  unfold mj_Fo_rounded_20 at h
  refine J_lstore (q := 22) (lv' := [(4, vl (z0)), (2, vl (a2))]) d_Fo_rounded_20 (by decide) rfl rfl ?_
  refine J_lload_n (q := 23) 1 d_Fo_rounded_22 rfl rfl rfl ?_
  refine J_callSq (rc := 0) (rs := 0) (q := 26) (as := [vl (a2)]) (st := []) g_633 (t_Ma_abs rfl) (by decide) (by decide) g_632 g_634 g_15 hy_Ma_abs rfl (Nat.le_of_ble_eq_true rfl) d_Fo_rounded_23 rfl ?_
  obtain ⟨x1, hx1, h⟩ := ap_eq h
  refine J_nmL hx1 ?_
  refine J_lstore (q := 28) (lv' := [(6, vl (x1)), (4, vl (z0)), (2, vl (a2))]) d_Fo_rounded_26 (by decide) rfl rfl ?_
  refine J_lload (q := 30) 1 d_Fo_rounded_28 rfl rfl ?_
  refine J_lload (q := 32) 0 d_Fo_rounded_30 rfl rfl ?_
  obtain ⟨r2, hr2, h⟩ := bd_some h
  refine J_callSq (rc := 0) (rs := 0) (q := 35) (as := [vl (z0), vl (x1)]) (st := []) g_636 (t_Ma_floorDiv hr2) (by decide) (by decide) g_635 g_637 g_15 hy_Ma_floorDiv rfl (Nat.le_of_ble_eq_true rfl) d_Fo_rounded_32 rfl ?_
  refine J_lstore (q := 37) (lv' := [(8, vl (r2)), (6, vl (x1)), (4, vl (z0)), (2, vl (a2))]) d_Fo_rounded_35 (by decide) rfl rfl ?_
  refine J_ldc2 (q := 40) d_Fo_rounded_37 g_450 rfl ?_
  refine J_lload (q := 42) 2 d_Fo_rounded_40 rfl rfl ?_
  refine J_lload (q := 44) 0 d_Fo_rounded_42 rfl rfl ?_
  refine J_lload (q := 46) 1 d_Fo_rounded_44 rfl rfl ?_
  refine J_lmul (q := 47) d_Fo_rounded_46 rfl ?_
  refine J_lsub (q := 48) d_Fo_rounded_47 rfl ?_
  refine J_lmul (q := 49) d_Fo_rounded_48 rfl ?_
  obtain ⟨x3, hx3, h⟩ := ap_eq h
  refine J_nmL hx3 ?_
  refine J_lstore (q := 51) (lv' := [(10, vl (x3)), (8, vl (r2)), (6, vl (x1)), (4, vl (z0)), (2, vl (a2))]) d_Fo_rounded_49 (by decide) rfl rfl ?_
  refine J_lload (q := 53) 0 d_Fo_rounded_51 rfl rfl ?_
  refine J_lload (q := 55) 2 d_Fo_rounded_53 rfl rfl ?_
  refine J_lif_gt (q := 59) (tgt := 76) d_Fo_rounded_55 d_Fo_rounded_56 (by decide) rfl (fun hc => ?_) (fun hc => ?_)
  · rw [if_pos hc] at h
    refine J_pick [1] rfl ?_
    exact tj_Fo_rounded_76 a1 a2 μ _ h
  · rw [if_neg hc] at h
    refine J_lload (q := 61) 0 d_Fo_rounded_59 rfl rfl ?_
    refine J_lload (q := 63) 2 d_Fo_rounded_61 rfl rfl ?_
    refine J_lif_ne (q := 67) (tgt := 80) d_Fo_rounded_63 d_Fo_rounded_64 (by decide) rfl (fun hc => ?_) (fun hc => ?_)
    · rw [if_neg hc] at h
      refine J_pick [1] rfl ?_
      exact tj_Fo_rounded_80 a1 a2 μ _ h
    · rw [if_pos hc] at h
      refine J_lload (q := 69) 1 d_Fo_rounded_67 rfl rfl ?_
      refine J_lconst (q := 70) (v := (1 : Int64)) d_Fo_rounded_69 (by decide) rfl ?_
      refine J_land (q := 71) d_Fo_rounded_70 rfl ?_
      refine J_lconst (q := 72) (v := (0 : Int64)) d_Fo_rounded_71 (by decide) rfl ?_
      refine J_lif_eq (q := 76) (tgt := 80) d_Fo_rounded_72 d_Fo_rounded_73 (by decide) rfl (fun hc => ?_) (fun hc => ?_)
      · rw [if_pos hc] at h
        refine J_pick [1] rfl ?_
        exact tj_Fo_rounded_80 a1 a2 μ _ h
      · rw [if_neg hc] at h
        refine J_pick [1] rfl ?_
        exact tj_Fo_rounded_76 a1 a2 μ _ h
def m_Fo_rounded (a1 : Int64) (a2 : Int64) (μ : Mem) : Option (Int64) :=
  if a2 = (0 : Int64) then
 (some ((0 : Int64)))
 else
 (if (0 : Int64) ≤ a2 then
 (mj_Fo_rounded_20 a1 a2 μ (a1))
 else
 (mj_Fo_rounded_20 a1 a2 μ (-(a1))))
theorem t_Fo_rounded {a1 : Int64} {a2 : Int64} {μ : Mem} {q : Int64} (h : m_Fo_rounded a1 a2 μ = some q) : JM true (1) y_Fo_rounded b_Fo_rounded 13 (some (.long)) 0 0 [vl (a1), vl (a2)] μ (QQ (some (vl q)) μ) := by
  unfold m_Fo_rounded at h
  refine JM.of pl_Fo_rounded (fun ρ => Nat.le_of_ble_eq_true rfl) ?_
  show J (GM true (QQ (some (vl q)) μ) (some (.long)) y_Fo_rounded.name) true b_Fo_rounded R_11 13 (1) 0 0 0 [(0, vl (a1)), (2, vl (a2))] [] μ
  refine J_lload_n (q := 1) 1 d_Fo_rounded_0 rfl rfl rfl ?_
  refine J_lconst (q := 2) (v := (0 : Int64)) d_Fo_rounded_1 (by decide) rfl ?_
  refine J_lif_ne (q := 6) (tgt := 8) d_Fo_rounded_2 d_Fo_rounded_3 (by decide) rfl (fun hc => ?_) (fun hc => ?_)
  · rw [if_neg hc] at h
    refine J_lload_n (q := 9) 1 d_Fo_rounded_8 rfl rfl rfl ?_
    refine J_lconst (q := 10) (v := (0 : Int64)) d_Fo_rounded_9 (by decide) rfl ?_
    refine J_lif_ge (q := 14) (tgt := 19) d_Fo_rounded_10 d_Fo_rounded_11 (by decide) rfl (fun hc => ?_) (fun hc => ?_)
    · rw [if_pos hc] at h
      refine J_lload_n (q := 20) 0 d_Fo_rounded_19 rfl rfl rfl ?_
      refine J_pick [1] rfl ?_
      exact tj_Fo_rounded_20 a1 a2 μ _ h
    · rw [if_neg hc] at h
      refine J_lload_n (q := 15) 0 d_Fo_rounded_14 rfl rfl rfl ?_
      refine J_lneg (q := 16) d_Fo_rounded_15 rfl ?_
      refine J_goto (q := 20) d_Fo_rounded_16 (by decide) ?_
      refine J_pick [1] rfl ?_
      exact tj_Fo_rounded_20 a1 a2 μ _ h
  · rw [if_pos hc] at h
    refine J_lconst (q := 7) (v := (0 : Int64)) d_Fo_rounded_6 (by decide) rfl ?_
    obtain rfl := Option.some.inj h
    exact J_lret rfl ⟨rfl, rfl⟩ d_Fo_rounded_7
def lp_Fl_firstHalf_32 (a1k : Nat) (a1l : Nat) (a1n : Nat) (a1z : Nat) (a2 : Int32) (c_64 : Int32 → Int32 → Mem → Option (Mem)) : Nat → Int32 → Int32 → Int32 → Mem → Option (Mem)
  | 0, _, _, _, _ => none
  | n + 1, y3, y4, y5, μ =>
  if y5 < y3 + y4 then
 (c_64 (y3) (y4) μ)
 else
 (gu (y5 - (1 : Int32)) a1n <|
  gu (y5) a1n <|
  gu (y5) a1n <|
  ap (sL μ a1k (a1l) y5.toNatClampNeg (((gL μ a1k (a1l) (y5 - (1 : Int32)).toNatClampNeg) + (gL μ a1k (a1l) y5.toNatClampNeg)) >>> (((1 : Int32)).toInt64 &&& 63))) fun μ13 =>
  ap (y5 + (-1 : Int32)) fun x14 =>
  lp_Fl_firstHalf_32 a1k a1l a1n a1z a2 c_64 n (y3) (y4) (x14) μ13)
theorem tl_Fl_firstHalf_32 (a1k : Nat) (a1l : Nat) (a1n : Nat) (a1z : Nat) (a2 : Int32) (ha1 : RK a1k = (4, a1n, a1z)) (ha19 : a1k < 900) {q : Mem} {c_64 : Int32 → Int32 → Mem → Option (Mem)} (hc_64 : ∀ (y3 : Int32) (y4 : Int32) (μ : Mem), c_64 y3 y4 μ = some q → J (GM true (QQ none q) none y_Fl_firstHalf.name) true b_Fl_firstHalf R_1 6 (1) 0 0 64 [(0, vr 1 (0)), (1, vr a1k (a1l)), (3, vi (y3)), (4, vi (y4))] [] μ) : ∀ (n : Nat) (y3 : Int32) (y4 : Int32) (y5 : Int32) (μ : Mem), lp_Fl_firstHalf_32 a1k a1l a1n a1z a2 c_64 n y3 y4 y5 μ = some q → J (GM true (QQ none q) none y_Fl_firstHalf.name) true b_Fl_firstHalf R_1 6 (1) 0 0 32 [(0, vr 1 (0)), (1, vr a1k (a1l)), (3, vi (y3)), (4, vi (y4)), (5, vi (y5))] [] μ := by
  intro n
  induction n with
  | zero => intro _ _ _ _ h; cases h
  | succ n ih =>
    intro y3 y4 y5 μ h
    unfold lp_Fl_firstHalf_32 at h
    refine J_iload (q := 34) 4 d_Fl_firstHalf_32 rfl rfl ?_
    refine J_iload_n (q := 35) 2 d_Fl_firstHalf_34 rfl rfl rfl ?_
    refine J_iload (q := 37) 3 d_Fl_firstHalf_35 rfl rfl ?_
    refine J_iadd (q := 38) d_Fl_firstHalf_37 rfl ?_
    refine J_icmp_lt (q := 41) (tgt := 64) d_Fl_firstHalf_38 (by decide) rfl (fun hc => ?_) (fun hc => ?_)
    · rw [if_pos hc] at h
      refine J_pick [0, 1, 2, 3] rfl ?_
      exact hc_64 _ _ _ h
    · rw [if_neg hc] at h
      refine J_aload_n (q := 42) 1 d_Fl_firstHalf_41 rfl rfl rfl ?_
      refine J_iload (q := 44) 4 d_Fl_firstHalf_42 rfl rfl ?_
      refine J_aload_n (q := 45) 1 d_Fl_firstHalf_44 rfl rfl rfl ?_
      refine J_iload (q := 47) 4 d_Fl_firstHalf_45 rfl rfl ?_
      refine J_iconst (q := 48) (v := (1 : Int32)) d_Fl_firstHalf_47 (by decide) rfl ?_
      refine J_isub (q := 49) d_Fl_firstHalf_48 rfl ?_
      obtain ⟨hi10, h⟩ := gu_some h
      refine J_lald (q := 50) ha1 ha19 hi10 d_Fl_firstHalf_49 rfl ?_
      refine J_aload_n (q := 51) 1 d_Fl_firstHalf_50 rfl rfl rfl ?_
      refine J_iload (q := 53) 4 d_Fl_firstHalf_51 rfl rfl ?_
      obtain ⟨hi11, h⟩ := gu_some h
      refine J_lald (q := 54) ha1 ha19 hi11 d_Fl_firstHalf_53 rfl ?_
      refine J_ladd (q := 55) d_Fl_firstHalf_54 rfl ?_
      refine J_iconst (q := 56) (v := (1 : Int32)) d_Fl_firstHalf_55 (by decide) rfl ?_
      refine J_lshr (q := 57) d_Fl_firstHalf_56 rfl ?_
      obtain ⟨hi12, h⟩ := gu_some h
      refine J_last (q := 58) ha1 ha19 hi12 d_Fl_firstHalf_57 rfl ?_
      obtain ⟨μ13, hμ13, h⟩ := ap_eq h
      refine J_nmM hμ13 ?_
      obtain ⟨x14, hx14, h⟩ := ap_eq h
      refine J_iinc (q := 61) (v := x14) (lv' := [(5, vi (x14)), (0, vr 1 (0)), (1, vr a1k (a1l)), (3, vi (y3)), (4, vi (y4))]) 4 d_Fl_firstHalf_58 rfl (by rw [hx14]; rfl) (by decide) rfl rfl ?_
      refine J_goto (q := 32) d_Fl_firstHalf_61 (by decide) ?_
      refine J_pick [1, 2, 3, 4, 0] rfl ?_
      exact ih _ _ _ _ h
def mj_Fl_firstHalf_64 (a1k : Nat) (a1l : Nat) (a1n : Nat) (a1z : Nat) (a2 : Int32) (c_15 : Int32 → Int32 → Mem → Option (Mem)) (y3 : Int32) (y4 : Int32) (μ : Mem) : Option (Mem) :=
  ap (y4 + (1 : Int32)) fun x15 =>
  c_15 (y3) (x15) μ
theorem tj_Fl_firstHalf_64 (a1k : Nat) (a1l : Nat) (a1n : Nat) (a1z : Nat) (a2 : Int32) (ha1 : RK a1k = (4, a1n, a1z)) (ha19 : a1k < 900) {q : Mem} {c_15 : Int32 → Int32 → Mem → Option (Mem)} (hc_15 : ∀ (y3 : Int32) (y4 : Int32) (μ : Mem), c_15 y3 y4 μ = some q → J (GM true (QQ none q) none y_Fl_firstHalf.name) true b_Fl_firstHalf R_1 6 (1) 0 0 15 [(0, vr 1 (0)), (1, vr a1k (a1l)), (3, vi (y3)), (4, vi (y4))] [] μ) (y3 : Int32) (y4 : Int32) (μ : Mem) (h : mj_Fl_firstHalf_64 a1k a1l a1n a1z a2 c_15 y3 y4 μ = some q) : J (GM true (QQ none q) none y_Fl_firstHalf.name) true b_Fl_firstHalf R_1 6 (1) 0 0 64 [(0, vr 1 (0)), (1, vr a1k (a1l)), (3, vi (y3)), (4, vi (y4))] [] μ := by
  unfold mj_Fl_firstHalf_64 at h
  obtain ⟨x15, hx15, h⟩ := ap_eq h
  refine J_iinc (q := 67) (v := x15) (lv' := [(4, vi (x15)), (0, vr 1 (0)), (1, vr a1k (a1l)), (3, vi (y3))]) 3 d_Fl_firstHalf_64 rfl (by rw [hx15]; rfl) (by decide) rfl rfl ?_
  refine J_goto (q := 15) d_Fl_firstHalf_67 (by decide) ?_
  refine J_pick [1, 2, 3, 0] rfl ?_
  exact hc_15 _ _ _ h
def lp_Fl_firstHalf_15 (a1k : Nat) (a1l : Nat) (a1n : Nat) (a1z : Nat) (a2 : Int32) : Nat → Int32 → Int32 → Mem → Option (Mem)
  | 0, _, _, _ => none
  | n + 1, y3, y4, μ =>
  if gI μ 1 (0) 6 < y4 then
 (some μ)
 else
 (ap ((y3) + (gI μ 1 (0) 6)) fun x16 =>
  lp_Fl_firstHalf_32 a1k a1l a1n a1z a2 (mj_Fl_firstHalf_64 a1k a1l a1n a1z a2 (lp_Fl_firstHalf_15 a1k a1l a1n a1z a2 n)) FU (y3) (y4) (x16) μ)
theorem tl_Fl_firstHalf_15 (a1k : Nat) (a1l : Nat) (a1n : Nat) (a1z : Nat) (a2 : Int32) (ha1 : RK a1k = (4, a1n, a1z)) (ha19 : a1k < 900) {q : Mem}  : ∀ (n : Nat) (y3 : Int32) (y4 : Int32) (μ : Mem), lp_Fl_firstHalf_15 a1k a1l a1n a1z a2 n y3 y4 μ = some q → J (GM true (QQ none q) none y_Fl_firstHalf.name) true b_Fl_firstHalf R_1 6 (1) 0 0 15 [(0, vr 1 (0)), (1, vr a1k (a1l)), (3, vi (y3)), (4, vi (y4))] [] μ := by
  intro n
  induction n with
  | zero => intro _ _ _ h; cases h
  | succ n ih =>
    intro y3 y4 μ h
    unfold lp_Fl_firstHalf_15 at h
    refine J_iload (q := 17) 3 d_Fl_firstHalf_15 rfl rfl ?_
    refine J_aload_n (q := 18) 0 d_Fl_firstHalf_17 rfl rfl rfl ?_
    refine J_getI (q := 21) (j := 6) cd_1 (by decide) (Or.inl rfl) g_41 rfl d_Fl_firstHalf_18 rfl ?_
    refine J_icmp_gt (q := 24) (tgt := 70) d_Fl_firstHalf_21 (by decide) rfl (fun hc => ?_) (fun hc => ?_)
    · rw [if_pos hc] at h
      obtain rfl := Option.some.inj h
      exact J_vret rfl ⟨rfl, rfl⟩ d_Fl_firstHalf_70
    · rw [if_neg hc] at h
      refine J_iload_n (q := 25) 2 d_Fl_firstHalf_24 rfl rfl rfl ?_
      refine J_aload_n (q := 26) 0 d_Fl_firstHalf_25 rfl rfl rfl ?_
      refine J_getI (q := 29) (j := 6) cd_1 (by decide) (Or.inl rfl) g_41 rfl d_Fl_firstHalf_26 rfl ?_
      refine J_iadd (q := 30) d_Fl_firstHalf_29 rfl ?_
      obtain ⟨x16, hx16, h⟩ := ap_eq h
      refine J_nmI hx16 ?_
      refine J_istore (q := 32) (lv' := [(5, vi (x16)), (0, vr 1 (0)), (1, vr a1k (a1l)), (3, vi (y3)), (4, vi (y4))]) d_Fl_firstHalf_30 (by decide) rfl rfl ?_
      refine J_pick [1, 2, 3, 4, 0] rfl ?_
      exact tl_Fl_firstHalf_32 a1k a1l a1n a1z a2 ha1 ha19 (fun _ _ _ h => tj_Fl_firstHalf_64 a1k a1l a1n a1z a2 ha1 ha19 ih _ _ _ h) FU _ _ _ _ h
def m_Fl_firstHalf (a1k : Nat) (a1l : Nat) (a1n : Nat) (a1z : Nat) (a2 : Int32) (μ : Mem) : Option (Mem) :=
  ap (a2 + (4 : Int32)) fun x1 =>
  gcp (a2) (x1) ((4 : Int32)) a1n <|
  ap (cpL μ a1k (a1l) a1k (a1l) a2.toNatClampNeg x1.toNatClampNeg ((4 : Int32)).toNatClampNeg) fun μ3 =>
  lp_Fl_firstHalf_15 a1k a1l a1n a1z a2 FU (x1) ((1 : Int32)) μ3
theorem t_Fl_firstHalf {a1k : Nat} {a1l : Nat} {a1n : Nat} {a1z : Nat} {a2 : Int32} {μ : Mem} {q : Mem} (ha1 : RK a1k = (4, a1n, a1z)) (ha19 : a1k < 900) (h : m_Fl_firstHalf a1k a1l a1n a1z a2 μ = some q) : JM true (1) y_Fl_firstHalf b_Fl_firstHalf 6 none 0 0 [vr 1 (0), vr a1k (a1l), vi (a2)] μ (QQ none q) := by
  unfold m_Fl_firstHalf at h
  refine JM.of pl_Fl_firstHalf (fun ρ => Nat.le_of_ble_eq_true rfl) ?_
  show J (GM true (QQ none q) none y_Fl_firstHalf.name) true b_Fl_firstHalf R_1 6 (1) 0 0 0 [(0, vr 1 (0)), (1, vr a1k (a1l)), (2, vi (a2))] [] μ
  refine J_iload_n (q := 1) 2 d_Fl_firstHalf_0 rfl rfl rfl ?_
  refine J_iconst (q := 2) (v := (4 : Int32)) d_Fl_firstHalf_1 (by decide) rfl ?_
  refine J_iadd (q := 3) d_Fl_firstHalf_2 rfl ?_
  obtain ⟨x1, hx1, h⟩ := ap_eq h
  refine J_nmI hx1 ?_
  refine J_istore_n (q := 4) (lv' := [(3, vi (x1)), (0, vr 1 (0)), (1, vr a1k (a1l)), (2, vi (a2))]) d_Fl_firstHalf_3 rfl (by decide) rfl rfl ?_
  refine J_aload_n (q := 5) 2 d_Fl_firstHalf_4 rfl rfl rfl ?_
  refine J_iload_n (q := 6) 3 d_Fl_firstHalf_5 rfl rfl rfl ?_
  refine J_aload_n (q := 7) 2 d_Fl_firstHalf_6 rfl rfl rfl ?_
  refine J_iload_n (q := 8) 0 d_Fl_firstHalf_7 rfl rfl rfl ?_
  refine J_iconst (q := 9) (v := (4 : Int32)) d_Fl_firstHalf_8 (by decide) rfl ?_
  obtain ⟨⟨⟨hc21, hc22, hc23⟩, hc24, hc25⟩, h⟩ := gcp_some h
  refine J_cpyL (q := 12) ha1 ha19 (by decide) g_675 g_677 g_676 g_16 hc21 hc22 hc23 hc24 hc25 d_Fl_firstHalf_9 rfl ?_
  obtain ⟨μ3, hμ3, h⟩ := ap_eq h
  refine J_nmM hμ3 ?_
  refine J_iconst (q := 13) (v := (1 : Int32)) d_Fl_firstHalf_12 (by decide) rfl ?_
  refine J_istore (q := 15) (lv' := [(4, vi ((1 : Int32))), (3, vi (x1)), (0, vr 1 (0)), (1, vr a1k (a1l)), (2, vi (a2))]) d_Fl_firstHalf_13 (by decide) rfl rfl ?_
  refine J_pick [2, 3, 1, 0] rfl ?_
  exact tl_Fl_firstHalf_15 a1k a1l a1n a1z a2 ha1 ha19 FU _ _ _ h
def m_Fl_bend (a1k : Nat) (a1l : Nat) (a1n : Nat) (a1z : Nat) (a2 : Int32) (μ : Mem) : Option (Int64) :=
  gu (a2) a1n <|
  gu (a2 + (1 : Int32)) a1n <|
  gu (a2 + (2 : Int32)) a1n <|
  some ((m_Ma_abs (((gL μ a1k (a1l) a2.toNatClampNeg) - (((2 : Int64)) * (gL μ a1k (a1l) (a2 + (1 : Int32)).toNatClampNeg))) + (gL μ a1k (a1l) (a2 + (2 : Int32)).toNatClampNeg)) μ))
theorem t_Fl_bend {a1k : Nat} {a1l : Nat} {a1n : Nat} {a1z : Nat} {a2 : Int32} {μ : Mem} {q : Int64} (ha1 : RK a1k = (4, a1n, a1z)) (ha19 : a1k < 900) (h : m_Fl_bend a1k a1l a1n a1z a2 μ = some q) : JM true (1) y_Fl_bend b_Fl_bend 2 (some (.long)) 0 0 [vr a1k (a1l), vi (a2)] μ (QQ (some (vl q)) μ) := by
  unfold m_Fl_bend at h
  refine JM.of pl_Fl_bend (fun ρ => Nat.le_of_ble_eq_true rfl) ?_
  show J (GM true (QQ (some (vl q)) μ) (some (.long)) y_Fl_bend.name) true b_Fl_bend R_1 2 (1) 0 0 0 [(0, vr a1k (a1l)), (1, vi (a2))] [] μ
  refine J_aload_n (q := 1) 0 d_Fl_bend_0 rfl rfl rfl ?_
  refine J_iload_n (q := 2) 1 d_Fl_bend_1 rfl rfl rfl ?_
  obtain ⟨hi1, h⟩ := gu_some h
  refine J_lald (q := 3) ha1 ha19 hi1 d_Fl_bend_2 rfl ?_
  refine J_ldc2 (q := 6) d_Fl_bend_3 g_667 rfl ?_
  refine J_aload_n (q := 7) 0 d_Fl_bend_6 rfl rfl rfl ?_
  refine J_iload_n (q := 8) 1 d_Fl_bend_7 rfl rfl rfl ?_
  refine J_iconst (q := 9) (v := (1 : Int32)) d_Fl_bend_8 (by decide) rfl ?_
  refine J_iadd (q := 10) d_Fl_bend_9 rfl ?_
  obtain ⟨hi2, h⟩ := gu_some h
  refine J_lald (q := 11) ha1 ha19 hi2 d_Fl_bend_10 rfl ?_
  refine J_lmul (q := 12) d_Fl_bend_11 rfl ?_
  refine J_lsub (q := 13) d_Fl_bend_12 rfl ?_
  refine J_aload_n (q := 14) 0 d_Fl_bend_13 rfl rfl rfl ?_
  refine J_iload_n (q := 15) 1 d_Fl_bend_14 rfl rfl rfl ?_
  refine J_iconst (q := 16) (v := (2 : Int32)) d_Fl_bend_15 (by decide) rfl ?_
  refine J_iadd (q := 17) d_Fl_bend_16 rfl ?_
  obtain ⟨hi3, h⟩ := gu_some h
  refine J_lald (q := 18) ha1 ha19 hi3 d_Fl_bend_17 rfl ?_
  refine J_ladd (q := 19) d_Fl_bend_18 rfl ?_
  refine J_callSq (rc := 0) (rs := 0) (q := 22) (as := [vl (((gL μ a1k (a1l) a2.toNatClampNeg) - (((2 : Int64)) * (gL μ a1k (a1l) (a2 + (1 : Int32)).toNatClampNeg))) + (gL μ a1k (a1l) (a2 + (2 : Int32)).toNatClampNeg))]) (st := []) g_633 (t_Ma_abs rfl) (by decide) (by decide) g_668 g_634 g_15 hy_Ma_abs rfl (Nat.le_of_ble_eq_true rfl) d_Fl_bend_19 rfl ?_
  obtain rfl := Option.some.inj h
  exact J_lret rfl ⟨rfl, rfl⟩ d_Fl_bend_22
def lp_Fl_isFlat_2 (a1 : Int32) (μ : Mem) : Nat → Int32 → Option (Bool)
  | 0, _ => none
  | n + 1, y2 =>
  if (a1) + (gI μ 1 (0) 6) < y2 + (2 : Int32) then
 (some (true))
 else
 (Option.bind (m_Fl_bend 120 (0) 44 0 (y2) μ) fun r4 =>
  if gL μ 1 (0) 5 < r4 then
 (some (false))
 else
 (Option.bind (m_Fl_bend 121 (0) 44 0 (y2) μ) fun r5 =>
  if r5 ≤ gL μ 1 (0) 5 then
 (ap (y2 + (1 : Int32)) fun x6 =>
  lp_Fl_isFlat_2 a1 μ n (x6))
 else
 (some (false))))
theorem tl_Fl_isFlat_2 (a1 : Int32) (μ : Mem) {q : Bool}  : ∀ (n : Nat) (y2 : Int32), lp_Fl_isFlat_2 a1 μ n y2 = some q → J (GM true (QQ (some (vi (b2i q))) μ) (some (.boolean)) y_Fl_isFlat.name) true b_Fl_isFlat R_1 3 (2) 0 0 2 [(0, vr 1 (0)), (1, vi (a1)), (2, vi (y2))] [] μ := by
  intro n
  induction n with
  | zero => intro _ h; cases h
  | succ n ih =>
    intro y2 h
    unfold lp_Fl_isFlat_2 at h
    refine J_iload_n (q := 3) 2 d_Fl_isFlat_2 rfl rfl rfl ?_
    refine J_iconst (q := 4) (v := (2 : Int32)) d_Fl_isFlat_3 (by decide) rfl ?_
    refine J_iadd (q := 5) d_Fl_isFlat_4 rfl ?_
    refine J_iload_n (q := 6) 1 d_Fl_isFlat_5 rfl rfl rfl ?_
    refine J_aload_n (q := 7) 0 d_Fl_isFlat_6 rfl rfl rfl ?_
    refine J_getI (q := 10) (j := 6) cd_1 (by decide) (Or.inl rfl) g_41 rfl d_Fl_isFlat_7 rfl ?_
    refine J_iadd (q := 11) d_Fl_isFlat_10 rfl ?_
    refine J_icmp_gt (q := 14) (tgt := 54) d_Fl_isFlat_11 (by decide) rfl (fun hc => ?_) (fun hc => ?_)
    · rw [if_pos hc] at h
      refine J_iconst (q := 55) (v := (1 : Int32)) d_Fl_isFlat_54 (by decide) rfl ?_
      obtain rfl := Option.some.inj h
      exact J_zret (Or.inr rfl) rfl ⟨rfl, rfl⟩ d_Fl_isFlat_55
    · rw [if_neg hc] at h
      refine J_aload_n (q := 15) 0 d_Fl_isFlat_14 rfl rfl rfl ?_
      refine J_getF (q := 18) cd_1 (by decide) ft_1_0 rfl g_35 rfl d_Fl_isFlat_15 rfl ?_
      refine J_iload_n (q := 19) 2 d_Fl_isFlat_18 rfl rfl rfl ?_
      obtain ⟨r4, hr4, h⟩ := bd_some h
      refine J_callSq (rc := 0) (rs := 0) (q := 22) (as := [vr 120 (0), vi (y2)]) (st := []) g_665 (t_Fl_bend rk_120 (by decide) hr4) (by decide) (by decide) g_664 g_666 g_2 hy_Fl_bend rfl (Nat.le_of_ble_eq_true rfl) d_Fl_isFlat_19 rfl ?_
      refine J_aload_n (q := 23) 0 d_Fl_isFlat_22 rfl rfl rfl ?_
      refine J_getL (q := 26) (j := 5) cd_1 (by decide) rfl g_40 rfl d_Fl_isFlat_23 rfl ?_
      refine J_lif_gt (q := 30) (tgt := 46) d_Fl_isFlat_26 d_Fl_isFlat_27 (by decide) rfl (fun hc => ?_) (fun hc => ?_)
      · rw [if_pos hc] at h
        refine J_iconst (q := 47) (v := (0 : Int32)) d_Fl_isFlat_46 (by decide) rfl ?_
        obtain rfl := Option.some.inj h
        exact J_zret (Or.inl rfl) rfl ⟨rfl, rfl⟩ d_Fl_isFlat_47
      · rw [if_neg hc] at h
        refine J_aload_n (q := 31) 0 d_Fl_isFlat_30 rfl rfl rfl ?_
        refine J_getF (q := 34) cd_1 (by decide) ft_1_1 rfl g_36 rfl d_Fl_isFlat_31 rfl ?_
        refine J_iload_n (q := 35) 2 d_Fl_isFlat_34 rfl rfl rfl ?_
        obtain ⟨r5, hr5, h⟩ := bd_some h
        refine J_callSq (rc := 0) (rs := 0) (q := 38) (as := [vr 121 (0), vi (y2)]) (st := []) g_665 (t_Fl_bend rk_121 (by decide) hr5) (by decide) (by decide) g_664 g_666 g_2 hy_Fl_bend rfl (Nat.le_of_ble_eq_true rfl) d_Fl_isFlat_35 rfl ?_
        refine J_aload_n (q := 39) 0 d_Fl_isFlat_38 rfl rfl rfl ?_
        refine J_getL (q := 42) (j := 5) cd_1 (by decide) rfl g_40 rfl d_Fl_isFlat_39 rfl ?_
        refine J_lif_le (q := 46) (tgt := 48) d_Fl_isFlat_42 d_Fl_isFlat_43 (by decide) rfl (fun hc => ?_) (fun hc => ?_)
        · rw [if_pos hc] at h
          obtain ⟨x6, hx6, h⟩ := ap_eq h
          refine J_iinc (q := 51) (v := x6) (lv' := [(2, vi (x6)), (0, vr 1 (0)), (1, vi (a1))]) 2 d_Fl_isFlat_48 rfl (by rw [hx6]; rfl) (by decide) rfl rfl ?_
          refine J_goto (q := 2) d_Fl_isFlat_51 (by decide) ?_
          refine J_pick [1, 2, 0] rfl ?_
          exact ih _ h
        · rw [if_neg hc] at h
          refine J_iconst (q := 47) (v := (0 : Int32)) d_Fl_isFlat_46 (by decide) rfl ?_
          obtain rfl := Option.some.inj h
          exact J_zret (Or.inl rfl) rfl ⟨rfl, rfl⟩ d_Fl_isFlat_47
def m_Fl_isFlat (a1 : Int32) (μ : Mem) : Option (Bool) :=
  lp_Fl_isFlat_2 a1 μ FU (a1)
theorem t_Fl_isFlat {a1 : Int32} {μ : Mem} {q : Bool} (h : m_Fl_isFlat a1 μ = some q) : JM true (2) y_Fl_isFlat b_Fl_isFlat 3 (some (.boolean)) 0 0 [vr 1 (0), vi (a1)] μ (QQ (some (vi (b2i q))) μ) := by
  unfold m_Fl_isFlat at h
  refine JM.of pl_Fl_isFlat (fun ρ => Nat.le_of_ble_eq_true rfl) ?_
  show J (GM true (QQ (some (vi (b2i q))) μ) (some (.boolean)) y_Fl_isFlat.name) true b_Fl_isFlat R_1 3 (2) 0 0 0 [(0, vr 1 (0)), (1, vi (a1))] [] μ
  refine J_iload_n (q := 1) 1 d_Fl_isFlat_0 rfl rfl rfl ?_
  refine J_istore_n (q := 2) (lv' := [(2, vi (a1)), (0, vr 1 (0)), (1, vi (a1))]) d_Fl_isFlat_1 rfl (by decide) rfl rfl ?_
  refine J_pick [1, 2, 0] rfl ?_
  exact tl_Fl_isFlat_2 a1 μ FU _ h
def lp_Fl_secondHalf_27 (a1k : Nat) (a1l : Nat) (a1n : Nat) (a1z : Nat) (a2 : Int32) (c_64 : Int32 → Int32 → Mem → Option (Mem)) : Nat → Int32 → Int32 → Int32 → Mem → Option (Mem)
  | 0, _, _, _, _ => none
  | n + 1, y3, y4, y5, μ =>
  if ((y3) + (gI μ 1 (0) 6)) - (y4) < y5 then
 (c_64 (y3) (y4) μ)
 else
 (gu (y5) a1n <|
  gu (y5 + (1 : Int32)) a1n <|
  gu (y5) a1n <|
  ap (sL μ a1k (a1l) y5.toNatClampNeg (((gL μ a1k (a1l) y5.toNatClampNeg) + (gL μ a1k (a1l) (y5 + (1 : Int32)).toNatClampNeg)) >>> (((1 : Int32)).toInt64 &&& 63))) fun μ12 =>
  ap (y5 + (1 : Int32)) fun x13 =>
  lp_Fl_secondHalf_27 a1k a1l a1n a1z a2 c_64 n (y3) (y4) (x13) μ12)
theorem tl_Fl_secondHalf_27 (a1k : Nat) (a1l : Nat) (a1n : Nat) (a1z : Nat) (a2 : Int32) (ha1 : RK a1k = (4, a1n, a1z)) (ha19 : a1k < 900) {q : Mem} {c_64 : Int32 → Int32 → Mem → Option (Mem)} (hc_64 : ∀ (y3 : Int32) (y4 : Int32) (μ : Mem), c_64 y3 y4 μ = some q → J (GM true (QQ none q) none y_Fl_secondHalf.name) true b_Fl_secondHalf R_1 6 (1) 0 0 64 [(0, vr 1 (0)), (1, vr a1k (a1l)), (3, vi (y3)), (4, vi (y4))] [] μ) : ∀ (n : Nat) (y3 : Int32) (y4 : Int32) (y5 : Int32) (μ : Mem), lp_Fl_secondHalf_27 a1k a1l a1n a1z a2 c_64 n y3 y4 y5 μ = some q → J (GM true (QQ none q) none y_Fl_secondHalf.name) true b_Fl_secondHalf R_1 6 (1) 0 0 27 [(0, vr 1 (0)), (1, vr a1k (a1l)), (3, vi (y3)), (4, vi (y4)), (5, vi (y5))] [] μ := by
  intro n
  induction n with
  | zero => intro _ _ _ _ h; cases h
  | succ n ih =>
    intro y3 y4 y5 μ h
    unfold lp_Fl_secondHalf_27 at h
    refine J_iload (q := 29) 4 d_Fl_secondHalf_27 rfl rfl ?_
    refine J_iload_n (q := 30) 2 d_Fl_secondHalf_29 rfl rfl rfl ?_
    refine J_aload_n (q := 31) 0 d_Fl_secondHalf_30 rfl rfl rfl ?_
    refine J_getI (q := 34) (j := 6) cd_1 (by decide) (Or.inl rfl) g_41 rfl d_Fl_secondHalf_31 rfl ?_
    refine J_iadd (q := 35) d_Fl_secondHalf_34 rfl ?_
    refine J_iload (q := 37) 3 d_Fl_secondHalf_35 rfl rfl ?_
    refine J_isub (q := 38) d_Fl_secondHalf_37 rfl ?_
    refine J_icmp_gt (q := 41) (tgt := 64) d_Fl_secondHalf_38 (by decide) rfl (fun hc => ?_) (fun hc => ?_)
    · rw [if_pos hc] at h
      refine J_pick [0, 1, 2, 3] rfl ?_
      exact hc_64 _ _ _ h
    · rw [if_neg hc] at h
      refine J_aload_n (q := 42) 1 d_Fl_secondHalf_41 rfl rfl rfl ?_
      refine J_iload (q := 44) 4 d_Fl_secondHalf_42 rfl rfl ?_
      refine J_aload_n (q := 45) 1 d_Fl_secondHalf_44 rfl rfl rfl ?_
      refine J_iload (q := 47) 4 d_Fl_secondHalf_45 rfl rfl ?_
      obtain ⟨hi9, h⟩ := gu_some h
      refine J_lald (q := 48) ha1 ha19 hi9 d_Fl_secondHalf_47 rfl ?_
      refine J_aload_n (q := 49) 1 d_Fl_secondHalf_48 rfl rfl rfl ?_
      refine J_iload (q := 51) 4 d_Fl_secondHalf_49 rfl rfl ?_
      refine J_iconst (q := 52) (v := (1 : Int32)) d_Fl_secondHalf_51 (by decide) rfl ?_
      refine J_iadd (q := 53) d_Fl_secondHalf_52 rfl ?_
      obtain ⟨hi10, h⟩ := gu_some h
      refine J_lald (q := 54) ha1 ha19 hi10 d_Fl_secondHalf_53 rfl ?_
      refine J_ladd (q := 55) d_Fl_secondHalf_54 rfl ?_
      refine J_iconst (q := 56) (v := (1 : Int32)) d_Fl_secondHalf_55 (by decide) rfl ?_
      refine J_lshr (q := 57) d_Fl_secondHalf_56 rfl ?_
      obtain ⟨hi11, h⟩ := gu_some h
      refine J_last (q := 58) ha1 ha19 hi11 d_Fl_secondHalf_57 rfl ?_
      obtain ⟨μ12, hμ12, h⟩ := ap_eq h
      refine J_nmM hμ12 ?_
      obtain ⟨x13, hx13, h⟩ := ap_eq h
      refine J_iinc (q := 61) (v := x13) (lv' := [(5, vi (x13)), (0, vr 1 (0)), (1, vr a1k (a1l)), (3, vi (y3)), (4, vi (y4))]) 4 d_Fl_secondHalf_58 rfl (by rw [hx13]; rfl) (by decide) rfl rfl ?_
      refine J_goto (q := 27) d_Fl_secondHalf_61 (by decide) ?_
      refine J_pick [1, 2, 3, 4, 0] rfl ?_
      exact ih _ _ _ _ h
def mj_Fl_secondHalf_64 (a1k : Nat) (a1l : Nat) (a1n : Nat) (a1z : Nat) (a2 : Int32) (c_15 : Int32 → Int32 → Mem → Option (Mem)) (y3 : Int32) (y4 : Int32) (μ : Mem) : Option (Mem) :=
  ap (y4 + (1 : Int32)) fun x14 =>
  c_15 (y3) (x14) μ
theorem tj_Fl_secondHalf_64 (a1k : Nat) (a1l : Nat) (a1n : Nat) (a1z : Nat) (a2 : Int32) (ha1 : RK a1k = (4, a1n, a1z)) (ha19 : a1k < 900) {q : Mem} {c_15 : Int32 → Int32 → Mem → Option (Mem)} (hc_15 : ∀ (y3 : Int32) (y4 : Int32) (μ : Mem), c_15 y3 y4 μ = some q → J (GM true (QQ none q) none y_Fl_secondHalf.name) true b_Fl_secondHalf R_1 6 (1) 0 0 15 [(0, vr 1 (0)), (1, vr a1k (a1l)), (3, vi (y3)), (4, vi (y4))] [] μ) (y3 : Int32) (y4 : Int32) (μ : Mem) (h : mj_Fl_secondHalf_64 a1k a1l a1n a1z a2 c_15 y3 y4 μ = some q) : J (GM true (QQ none q) none y_Fl_secondHalf.name) true b_Fl_secondHalf R_1 6 (1) 0 0 64 [(0, vr 1 (0)), (1, vr a1k (a1l)), (3, vi (y3)), (4, vi (y4))] [] μ := by
  unfold mj_Fl_secondHalf_64 at h
  obtain ⟨x14, hx14, h⟩ := ap_eq h
  refine J_iinc (q := 67) (v := x14) (lv' := [(4, vi (x14)), (0, vr 1 (0)), (1, vr a1k (a1l)), (3, vi (y3))]) 3 d_Fl_secondHalf_64 rfl (by rw [hx14]; rfl) (by decide) rfl rfl ?_
  refine J_goto (q := 15) d_Fl_secondHalf_67 (by decide) ?_
  refine J_pick [1, 2, 3, 0] rfl ?_
  exact hc_15 _ _ _ h
def lp_Fl_secondHalf_15 (a1k : Nat) (a1l : Nat) (a1n : Nat) (a1z : Nat) (a2 : Int32) : Nat → Int32 → Int32 → Mem → Option (Mem)
  | 0, _, _, _ => none
  | n + 1, y3, y4, μ =>
  if gI μ 1 (0) 6 < y4 then
 (some μ)
 else
 (lp_Fl_secondHalf_27 a1k a1l a1n a1z a2 (mj_Fl_secondHalf_64 a1k a1l a1n a1z a2 (lp_Fl_secondHalf_15 a1k a1l a1n a1z a2 n)) FU (y3) (y4) (y3) μ)
theorem tl_Fl_secondHalf_15 (a1k : Nat) (a1l : Nat) (a1n : Nat) (a1z : Nat) (a2 : Int32) (ha1 : RK a1k = (4, a1n, a1z)) (ha19 : a1k < 900) {q : Mem}  : ∀ (n : Nat) (y3 : Int32) (y4 : Int32) (μ : Mem), lp_Fl_secondHalf_15 a1k a1l a1n a1z a2 n y3 y4 μ = some q → J (GM true (QQ none q) none y_Fl_secondHalf.name) true b_Fl_secondHalf R_1 6 (1) 0 0 15 [(0, vr 1 (0)), (1, vr a1k (a1l)), (3, vi (y3)), (4, vi (y4))] [] μ := by
  intro n
  induction n with
  | zero => intro _ _ _ h; cases h
  | succ n ih =>
    intro y3 y4 μ h
    unfold lp_Fl_secondHalf_15 at h
    refine J_iload (q := 17) 3 d_Fl_secondHalf_15 rfl rfl ?_
    refine J_aload_n (q := 18) 0 d_Fl_secondHalf_17 rfl rfl rfl ?_
    refine J_getI (q := 21) (j := 6) cd_1 (by decide) (Or.inl rfl) g_41 rfl d_Fl_secondHalf_18 rfl ?_
    refine J_icmp_gt (q := 24) (tgt := 70) d_Fl_secondHalf_21 (by decide) rfl (fun hc => ?_) (fun hc => ?_)
    · rw [if_pos hc] at h
      obtain rfl := Option.some.inj h
      exact J_vret rfl ⟨rfl, rfl⟩ d_Fl_secondHalf_70
    · rw [if_neg hc] at h
      refine J_iload_n (q := 25) 2 d_Fl_secondHalf_24 rfl rfl rfl ?_
      refine J_istore (q := 27) (lv' := [(5, vi (y3)), (0, vr 1 (0)), (1, vr a1k (a1l)), (3, vi (y3)), (4, vi (y4))]) d_Fl_secondHalf_25 (by decide) rfl rfl ?_
      refine J_pick [1, 2, 3, 4, 0] rfl ?_
      exact tl_Fl_secondHalf_27 a1k a1l a1n a1z a2 ha1 ha19 (fun _ _ _ h => tj_Fl_secondHalf_64 a1k a1l a1n a1z a2 ha1 ha19 ih _ _ _ h) FU _ _ _ _ h
def m_Fl_secondHalf (a1k : Nat) (a1l : Nat) (a1n : Nat) (a1z : Nat) (a2 : Int32) (μ : Mem) : Option (Mem) :=
  ap (a2 + (4 : Int32)) fun x1 =>
  gcp (a2) (x1) ((4 : Int32)) a1n <|
  ap (cpL μ a1k (a1l) a1k (a1l) a2.toNatClampNeg x1.toNatClampNeg ((4 : Int32)).toNatClampNeg) fun μ3 =>
  lp_Fl_secondHalf_15 a1k a1l a1n a1z a2 FU (x1) ((1 : Int32)) μ3
theorem t_Fl_secondHalf {a1k : Nat} {a1l : Nat} {a1n : Nat} {a1z : Nat} {a2 : Int32} {μ : Mem} {q : Mem} (ha1 : RK a1k = (4, a1n, a1z)) (ha19 : a1k < 900) (h : m_Fl_secondHalf a1k a1l a1n a1z a2 μ = some q) : JM true (1) y_Fl_secondHalf b_Fl_secondHalf 6 none 0 0 [vr 1 (0), vr a1k (a1l), vi (a2)] μ (QQ none q) := by
  unfold m_Fl_secondHalf at h
  refine JM.of pl_Fl_secondHalf (fun ρ => Nat.le_of_ble_eq_true rfl) ?_
  show J (GM true (QQ none q) none y_Fl_secondHalf.name) true b_Fl_secondHalf R_1 6 (1) 0 0 0 [(0, vr 1 (0)), (1, vr a1k (a1l)), (2, vi (a2))] [] μ
  refine J_iload_n (q := 1) 2 d_Fl_secondHalf_0 rfl rfl rfl ?_
  refine J_iconst (q := 2) (v := (4 : Int32)) d_Fl_secondHalf_1 (by decide) rfl ?_
  refine J_iadd (q := 3) d_Fl_secondHalf_2 rfl ?_
  obtain ⟨x1, hx1, h⟩ := ap_eq h
  refine J_nmI hx1 ?_
  refine J_istore_n (q := 4) (lv' := [(3, vi (x1)), (0, vr 1 (0)), (1, vr a1k (a1l)), (2, vi (a2))]) d_Fl_secondHalf_3 rfl (by decide) rfl rfl ?_
  refine J_aload_n (q := 5) 2 d_Fl_secondHalf_4 rfl rfl rfl ?_
  refine J_iload_n (q := 6) 3 d_Fl_secondHalf_5 rfl rfl rfl ?_
  refine J_aload_n (q := 7) 2 d_Fl_secondHalf_6 rfl rfl rfl ?_
  refine J_iload_n (q := 8) 0 d_Fl_secondHalf_7 rfl rfl rfl ?_
  refine J_iconst (q := 9) (v := (4 : Int32)) d_Fl_secondHalf_8 (by decide) rfl ?_
  obtain ⟨⟨⟨hc21, hc22, hc23⟩, hc24, hc25⟩, h⟩ := gcp_some h
  refine J_cpyL (q := 12) ha1 ha19 (by decide) g_675 g_677 g_676 g_16 hc21 hc22 hc23 hc24 hc25 d_Fl_secondHalf_9 rfl ?_
  obtain ⟨μ3, hμ3, h⟩ := ap_eq h
  refine J_nmM hμ3 ?_
  refine J_iconst (q := 13) (v := (1 : Int32)) d_Fl_secondHalf_12 (by decide) rfl ?_
  refine J_istore (q := 15) (lv' := [(4, vi ((1 : Int32))), (3, vi (x1)), (0, vr 1 (0)), (1, vr a1k (a1l)), (2, vi (a2))]) d_Fl_secondHalf_13 (by decide) rfl rfl ?_
  refine J_pick [2, 3, 1, 0] rfl ?_
  exact tl_Fl_secondHalf_15 a1k a1l a1n a1z a2 ha1 ha19 FU _ _ _ h
def m_Po_isLast (o : Nat) (a1 : Int64) (a2 : Int64) (μ : Mem) : Option (Bool) :=
  if gI μ 7 (o) 4 ≤ gI μ 7 (o) 7 then
 (some (false))
 else
 (gu ((gI μ 7 (o) 4) - ((1 : Int32))) 500 <|
  if (gI μ 240 (o) ((gI μ 7 (o) 4) - ((1 : Int32))).toNatClampNeg).toInt64 = a1 then
 (gu ((gI μ 7 (o) 4) - ((1 : Int32))) 500 <|
  if (gI μ 241 (o) ((gI μ 7 (o) 4) - ((1 : Int32))).toNatClampNeg).toInt64 = a2 then
 (some (true))
 else
 (some (false)))
 else
 (some (false)))
theorem t_Po_isLast {o : Nat} {a1 : Int64} {a2 : Int64} {μ : Mem} {q : Bool} (h : m_Po_isLast o a1 a2 μ = some q) : JM true (0) y_Po_isLast b_Po_isLast 5 (some (.boolean)) 0 0 [vr 7 (o), vl (a1), vl (a2)] μ (QQ (some (vi (b2i q))) μ) := by
  unfold m_Po_isLast at h
  refine JM.of pl_Po_isLast (fun ρ => Nat.le_of_ble_eq_true rfl) ?_
  show J (GM true (QQ (some (vi (b2i q))) μ) (some (.boolean)) y_Po_isLast.name) true b_Po_isLast R_7 5 (0) 0 0 0 [(0, vr 7 (o)), (1, vl (a1)), (3, vl (a2))] [] μ
  refine J_aload_n (q := 1) 0 d_Po_isLast_0 rfl rfl rfl ?_
  refine J_getI (q := 4) (j := 4) cd_7 (by decide) (Or.inl rfl) g_74 rfl d_Po_isLast_1 rfl ?_
  refine J_aload_n (q := 5) 0 d_Po_isLast_4 rfl rfl rfl ?_
  refine J_getI (q := 8) (j := 7) cd_7 (by decide) (Or.inl rfl) g_80 rfl d_Po_isLast_5 rfl ?_
  refine J_icmp_le (q := 11) (tgt := 49) d_Po_isLast_8 (by decide) rfl (fun hc => ?_) (fun hc => ?_)
  · rw [if_pos hc] at h
    refine J_iconst (q := 50) (v := (0 : Int32)) d_Po_isLast_49 (by decide) rfl ?_
    obtain rfl := Option.some.inj h
    exact J_zret (Or.inl rfl) rfl ⟨rfl, rfl⟩ d_Po_isLast_50
  · rw [if_neg hc] at h
    refine J_aload_n (q := 12) 0 d_Po_isLast_11 rfl rfl rfl ?_
    refine J_getF (q := 15) cd_7 (by decide) ft_7_0 rfl g_64 rfl d_Po_isLast_12 rfl ?_
    refine J_aload_n (q := 16) 0 d_Po_isLast_15 rfl rfl rfl ?_
    refine J_getI (q := 19) (j := 4) cd_7 (by decide) (Or.inl rfl) g_74 rfl d_Po_isLast_16 rfl ?_
    refine J_iconst (q := 20) (v := (1 : Int32)) d_Po_isLast_19 (by decide) rfl ?_
    refine J_isub (q := 21) d_Po_isLast_20 rfl ?_
    obtain ⟨hi1, h⟩ := gu_some h
    refine J_iald (q := 22) rk_240 (by decide) hi1 d_Po_isLast_21 rfl ?_
    refine J_i2l (q := 23) d_Po_isLast_22 rfl ?_
    refine J_lload_n (q := 24) 1 d_Po_isLast_23 rfl rfl rfl ?_
    refine J_lif_ne (q := 28) (tgt := 49) d_Po_isLast_24 d_Po_isLast_25 (by decide) rfl (fun hc => ?_) (fun hc => ?_)
    · rw [if_neg hc] at h
      refine J_iconst (q := 50) (v := (0 : Int32)) d_Po_isLast_49 (by decide) rfl ?_
      obtain rfl := Option.some.inj h
      exact J_zret (Or.inl rfl) rfl ⟨rfl, rfl⟩ d_Po_isLast_50
    · rw [if_pos hc] at h
      refine J_aload_n (q := 29) 0 d_Po_isLast_28 rfl rfl rfl ?_
      refine J_getF (q := 32) cd_7 (by decide) ft_7_1 rfl g_67 rfl d_Po_isLast_29 rfl ?_
      refine J_aload_n (q := 33) 0 d_Po_isLast_32 rfl rfl rfl ?_
      refine J_getI (q := 36) (j := 4) cd_7 (by decide) (Or.inl rfl) g_74 rfl d_Po_isLast_33 rfl ?_
      refine J_iconst (q := 37) (v := (1 : Int32)) d_Po_isLast_36 (by decide) rfl ?_
      refine J_isub (q := 38) d_Po_isLast_37 rfl ?_
      obtain ⟨hi2, h⟩ := gu_some h
      refine J_iald (q := 39) rk_241 (by decide) hi2 d_Po_isLast_38 rfl ?_
      refine J_i2l (q := 40) d_Po_isLast_39 rfl ?_
      refine J_lload_n (q := 41) 2 d_Po_isLast_40 rfl rfl rfl ?_
      refine J_lif_ne (q := 45) (tgt := 49) d_Po_isLast_41 d_Po_isLast_42 (by decide) rfl (fun hc => ?_) (fun hc => ?_)
      · rw [if_neg hc] at h
        refine J_iconst (q := 50) (v := (0 : Int32)) d_Po_isLast_49 (by decide) rfl ?_
        obtain rfl := Option.some.inj h
        exact J_zret (Or.inl rfl) rfl ⟨rfl, rfl⟩ d_Po_isLast_50
      · rw [if_pos hc] at h
        refine J_iconst (q := 46) (v := (1 : Int32)) d_Po_isLast_45 (by decide) rfl ?_
        refine J_goto (q := 50) d_Po_isLast_46 (by decide) ?_
        obtain rfl := Option.some.inj h
        exact J_zret (Or.inr rfl) rfl ⟨rfl, rfl⟩ d_Po_isLast_50
def m_Po_isNear (a1 : Int64) (μ : Mem) : Bool :=
  (m_Fo_within (a1) ((-100000 : Int64)) ((100000 : Int64)) μ)
theorem t_Po_isNear {a1 : Int64} {μ : Mem} {q : Bool} (h : m_Po_isNear a1 μ = q) : JM true (1) y_Po_isNear b_Po_isNear 2 (some (.boolean)) 0 0 [vl (a1)] μ (QQ (some (vi (b2i q))) μ) := by
  unfold m_Po_isNear at h
  refine JM.of pl_Po_isNear (fun ρ => Nat.le_of_ble_eq_true rfl) ?_
  show J (GM true (QQ (some (vi (b2i q))) μ) (some (.boolean)) y_Po_isNear.name) true b_Po_isNear R_7 2 (1) 0 0 0 [(0, vl (a1))] [] μ
  refine J_lload_n (q := 1) 0 d_Po_isNear_0 rfl rfl rfl ?_
  refine J_ldc2 (q := 4) d_Po_isNear_1 g_649 rfl ?_
  refine J_ldc2 (q := 7) d_Po_isNear_4 g_650 rfl ?_
  refine J_callSNq (rc := 0) (rs := 0) (q := 10) (as := [vl (a1), vl ((-100000 : Int64)), vl ((100000 : Int64))]) (st := []) g_300 (t_Fo_within rfl) (by decide) (by decide) nn_12 g_301 g_1 hy_Fo_within rfl (Nat.le_of_ble_eq_true rfl) d_Po_isNear_7 rfl ?_
  subst h
  exact J_zret (b2i01 _) rfl ⟨rfl, rfl⟩ d_Po_isNear_10
def mj_Po_add_39 (o : Nat) (a1 : Int64) (a2 : Int64) (μ : Mem) : Option (Mem) :=
  if gI μ 7 (o) 5 = 0 then
 (some μ)
 else
 (Option.bind (m_Po_isLast (o) (a1) (a2) μ) fun r3 =>
  if r3 then
 (some μ)
 else
 (gu (gI μ 7 (o) 4) 500 <|
  ap (sI μ 240 (o) (gI μ 7 (o) 4).toNatClampNeg ((a1).toInt32)) fun μ5 =>
  gu (gI μ5 7 (o) 4) 500 <|
  ap (sI μ5 241 (o) (gI μ5 7 (o) 4).toNatClampNeg ((a2).toInt32)) fun μ7 =>
  gu (gI μ7 7 (o) 4) 500 <|
  ap (sI μ7 242 (o) (gI μ7 7 (o) 4).toNatClampNeg (gI μ7 7 (o) 8)) fun μ9 =>
  gu (gI μ9 7 (o) 4) 500 <|
  ap (sI μ9 243 (o) (gI μ9 7 (o) 4).toNatClampNeg ((gI μ9 7 (o) 4) + ((1 : Int32)))) fun μ11 =>
  ap (sI μ11 7 (o) 4 ((gI μ11 7 (o) 4) + ((1 : Int32)))) fun μ12 =>
  some μ12))
theorem tj_Po_add_39 (o : Nat) (a1 : Int64) (a2 : Int64) {q : Mem}  (μ : Mem) (h : mj_Po_add_39 o a1 a2  μ = some q) : J (GM true (QQ none q) none y_Po_add.name) true b_Po_add R_7 5 (2) 0 0 39 [(0, vr 7 (o)), (1, vl (a1)), (3, vl (a2))] [] μ := by
  unfold mj_Po_add_39 at h
  refine J_aload_n (q := 40) 0 d_Po_add_39 rfl rfl rfl ?_
  refine J_getI (q := 43) (j := 5) cd_7 (by decide) (Or.inr rfl) g_77 rfl d_Po_add_40 rfl ?_
  refine J_if_eq (q := 46) (tgt := 55) d_Po_add_43 (by decide) rfl (fun hc => ?_) (fun hc => ?_)
  · rw [if_pos hc] at h
    obtain rfl := Option.some.inj h
    exact J_vret rfl ⟨rfl, rfl⟩ d_Po_add_55
  · rw [if_neg hc] at h
    refine J_aload_n (q := 47) 0 d_Po_add_46 rfl rfl rfl ?_
    refine J_lload_n (q := 48) 1 d_Po_add_47 rfl rfl rfl ?_
    refine J_lload_n (q := 49) 2 d_Po_add_48 rfl rfl rfl ?_
    obtain ⟨r3, hr3, h⟩ := bd_some h
    refine J_callVq (rc := 0) (rs := 0) (q := 52) (as := [vl (a1), vl (a2)]) (st := []) (by decide) rfl g_654 sel_Po_isLast (t_Po_isLast hr3) (by decide) (by decide) g_652 g_655 g_3 hy_Po_isLast rfl (Nat.le_of_ble_eq_true rfl) d_Po_add_49 rfl ?_
    refine J_ifB_eq (q := 55) (tgt := 56) d_Po_add_52 (by decide) rfl (fun hb => ?_) (fun hb => ?_)
    · rw [iB_f hb] at h
      refine J_aload_n (q := 57) 0 d_Po_add_56 rfl rfl rfl ?_
      refine J_getF (q := 60) cd_7 (by decide) ft_7_0 rfl g_64 rfl d_Po_add_57 rfl ?_
      refine J_aload_n (q := 61) 0 d_Po_add_60 rfl rfl rfl ?_
      refine J_getI (q := 64) (j := 4) cd_7 (by decide) (Or.inl rfl) g_74 rfl d_Po_add_61 rfl ?_
      refine J_lload_n (q := 65) 1 d_Po_add_64 rfl rfl rfl ?_
      refine J_l2i (q := 66) d_Po_add_65 rfl ?_
      obtain ⟨hi4, h⟩ := gu_some h
      refine J_iast (q := 67) rk_240 (by decide) hi4 d_Po_add_66 rfl ?_
      obtain ⟨μ5, hμ5, h⟩ := ap_eq h
      refine J_nmM hμ5 ?_
      refine J_aload_n (q := 68) 0 d_Po_add_67 rfl rfl rfl ?_
      refine J_getF (q := 71) cd_7 (by decide) ft_7_1 rfl g_67 rfl d_Po_add_68 rfl ?_
      refine J_aload_n (q := 72) 0 d_Po_add_71 rfl rfl rfl ?_
      refine J_getI (q := 75) (j := 4) cd_7 (by decide) (Or.inl rfl) g_74 rfl d_Po_add_72 rfl ?_
      refine J_lload_n (q := 76) 2 d_Po_add_75 rfl rfl rfl ?_
      refine J_l2i (q := 77) d_Po_add_76 rfl ?_
      obtain ⟨hi6, h⟩ := gu_some h
      refine J_iast (q := 78) rk_241 (by decide) hi6 d_Po_add_77 rfl ?_
      obtain ⟨μ7, hμ7, h⟩ := ap_eq h
      refine J_nmM hμ7 ?_
      refine J_aload_n (q := 79) 0 d_Po_add_78 rfl rfl rfl ?_
      refine J_getF (q := 82) cd_7 (by decide) ft_7_2 rfl g_70 rfl d_Po_add_79 rfl ?_
      refine J_aload_n (q := 83) 0 d_Po_add_82 rfl rfl rfl ?_
      refine J_getI (q := 86) (j := 4) cd_7 (by decide) (Or.inl rfl) g_74 rfl d_Po_add_83 rfl ?_
      refine J_aload_n (q := 87) 0 d_Po_add_86 rfl rfl rfl ?_
      refine J_getI (q := 90) (j := 8) cd_7 (by decide) (Or.inl rfl) g_81 rfl d_Po_add_87 rfl ?_
      obtain ⟨hi8, h⟩ := gu_some h
      refine J_iast (q := 91) rk_242 (by decide) hi8 d_Po_add_90 rfl ?_
      obtain ⟨μ9, hμ9, h⟩ := ap_eq h
      refine J_nmM hμ9 ?_
      refine J_aload_n (q := 92) 0 d_Po_add_91 rfl rfl rfl ?_
      refine J_getF (q := 95) cd_7 (by decide) ft_7_3 rfl g_72 rfl d_Po_add_92 rfl ?_
      refine J_aload_n (q := 96) 0 d_Po_add_95 rfl rfl rfl ?_
      refine J_getI (q := 99) (j := 4) cd_7 (by decide) (Or.inl rfl) g_74 rfl d_Po_add_96 rfl ?_
      refine J_aload_n (q := 100) 0 d_Po_add_99 rfl rfl rfl ?_
      refine J_getI (q := 103) (j := 4) cd_7 (by decide) (Or.inl rfl) g_74 rfl d_Po_add_100 rfl ?_
      refine J_iconst (q := 104) (v := (1 : Int32)) d_Po_add_103 (by decide) rfl ?_
      refine J_iadd (q := 105) d_Po_add_104 rfl ?_
      obtain ⟨hi10, h⟩ := gu_some h
      refine J_iast (q := 106) rk_243 (by decide) hi10 d_Po_add_105 rfl ?_
      obtain ⟨μ11, hμ11, h⟩ := ap_eq h
      refine J_nmM hμ11 ?_
      refine J_aload_n (q := 107) 0 d_Po_add_106 rfl rfl rfl ?_
      refine J_dupR (q := 108) d_Po_add_107 rfl ?_
      refine J_getI (q := 111) (j := 4) cd_7 (by decide) (Or.inl rfl) g_74 rfl d_Po_add_108 rfl ?_
      refine J_iconst (q := 112) (v := (1 : Int32)) d_Po_add_111 (by decide) rfl ?_
      refine J_iadd (q := 113) d_Po_add_112 rfl ?_
      refine J_putI (q := 116) (j := 4) cd_7 (by decide) rfl rfl rfl g_74 rfl d_Po_add_113 rfl ?_
      obtain ⟨μ12, hμ12, h⟩ := ap_eq h
      refine J_nmM hμ12 ?_
      obtain rfl := Option.some.inj h
      exact J_vret rfl ⟨rfl, rfl⟩ d_Po_add_116
    · rw [iB_t hb] at h
      obtain rfl := Option.some.inj h
      exact J_vret rfl ⟨rfl, rfl⟩ d_Po_add_55
def mj_Po_add_34 (o : Nat) (a1 : Int64) (a2 : Int64) (μ : Mem) : Option (Mem) :=
  ap (sI μ 7 (o) 5 ((0 : Int32))) fun μ2 =>
  mj_Po_add_39 o a1 a2 μ2
theorem tj_Po_add_34 (o : Nat) (a1 : Int64) (a2 : Int64) {q : Mem}  (μ : Mem) (h : mj_Po_add_34 o a1 a2  μ = some q) : J (GM true (QQ none q) none y_Po_add.name) true b_Po_add R_7 5 (2) 0 0 34 [(0, vr 7 (o)), (1, vl (a1)), (3, vl (a2))] [] μ := by
  unfold mj_Po_add_34 at h
  refine J_aload_n (q := 35) 0 d_Po_add_34 rfl rfl rfl ?_
  refine J_iconst (q := 36) (v := (0 : Int32)) d_Po_add_35 (by decide) rfl ?_
  refine J_putZ (q := 39) (j := 5) cd_7 (by decide) rfl rfl (Or.inl rfl) rfl g_77 rfl d_Po_add_36 rfl ?_
  obtain ⟨μ2, hμ2, h⟩ := ap_eq h
  refine J_nmM hμ2 ?_
  refine J_pick [0, 1, 2] rfl ?_
  exact tj_Po_add_39 o a1 a2 _ h
def m_Po_add (o : Nat) (a1 : Int64) (a2 : Int64) (μ : Mem) : Option (Mem) :=
  ap (sI μ 7 (o) 6 ((gI μ 7 (o) 6) + ((1 : Int32)))) fun μ1 =>
  if (500 : Int32) < gI μ1 7 (o) 6 then
 (mj_Po_add_34 o a1 a2 μ1)
 else
 (if (m_Po_isNear (a1) μ1) then
 (if (m_Po_isNear (a2) μ1) then
 (mj_Po_add_39 o a1 a2 μ1)
 else
 (mj_Po_add_34 o a1 a2 μ1))
 else
 (mj_Po_add_34 o a1 a2 μ1))
theorem t_Po_add {o : Nat} {a1 : Int64} {a2 : Int64} {μ : Mem} {q : Mem} (h : m_Po_add o a1 a2 μ = some q) : JM true (2) y_Po_add b_Po_add 5 none 0 0 [vr 7 (o), vl (a1), vl (a2)] μ (QQ none q) := by
  unfold m_Po_add at h
  refine JM.of pl_Po_add (fun ρ => Nat.le_of_ble_eq_true rfl) ?_
  show J (GM true (QQ none q) none y_Po_add.name) true b_Po_add R_7 5 (2) 0 0 0 [(0, vr 7 (o)), (1, vl (a1)), (3, vl (a2))] [] μ
  refine J_aload_n (q := 1) 0 d_Po_add_0 rfl rfl rfl ?_
  refine J_dupR (q := 2) d_Po_add_1 rfl ?_
  refine J_getI (q := 5) (j := 6) cd_7 (by decide) (Or.inl rfl) g_79 rfl d_Po_add_2 rfl ?_
  refine J_iconst (q := 6) (v := (1 : Int32)) d_Po_add_5 (by decide) rfl ?_
  refine J_iadd (q := 7) d_Po_add_6 rfl ?_
  refine J_putI (q := 10) (j := 6) cd_7 (by decide) rfl rfl rfl g_79 rfl d_Po_add_7 rfl ?_
  obtain ⟨μ1, hμ1, h⟩ := ap_eq h
  refine J_nmM hμ1 ?_
  refine J_aload_n (q := 11) 0 d_Po_add_10 rfl rfl rfl ?_
  refine J_getI (q := 14) (j := 6) cd_7 (by decide) (Or.inl rfl) g_79 rfl d_Po_add_11 rfl ?_
  refine J_sipush (q := 17) (v := (500 : Int32)) d_Po_add_14 (by decide) rfl ?_
  refine J_icmp_gt (q := 20) (tgt := 34) d_Po_add_17 (by decide) rfl (fun hc => ?_) (fun hc => ?_)
  · rw [if_pos hc] at h
    refine J_pick [0, 1, 2] rfl ?_
    exact tj_Po_add_34 o a1 a2 _ h
  · rw [if_neg hc] at h
    refine J_lload_n (q := 21) 1 d_Po_add_20 rfl rfl rfl ?_
    refine J_callSq (rc := 0) (rs := 0) (q := 24) (as := [vl (a1)]) (st := []) g_647 (t_Po_isNear rfl) (by decide) (by decide) g_646 g_648 g_3 hy_Po_isNear rfl (Nat.le_of_ble_eq_true rfl) d_Po_add_21 rfl ?_
    refine J_ifB_eq (q := 27) (tgt := 34) d_Po_add_24 (by decide) rfl (fun hb => ?_) (fun hb => ?_)
    · rw [iB_f hb] at h
      refine J_pick [0, 1, 2] rfl ?_
      exact tj_Po_add_34 o a1 a2 _ h
    · rw [iB_t hb] at h
      refine J_lload_n (q := 28) 2 d_Po_add_27 rfl rfl rfl ?_
      refine J_callSq (rc := 0) (rs := 0) (q := 31) (as := [vl (a2)]) (st := []) g_647 (t_Po_isNear rfl) (by decide) (by decide) g_646 g_648 g_3 hy_Po_isNear rfl (Nat.le_of_ble_eq_true rfl) d_Po_add_28 rfl ?_
      refine J_ifB_ne (q := 34) (tgt := 39) d_Po_add_31 (by decide) rfl (fun hb => ?_) (fun hb => ?_)
      · rw [iB_t hb] at h
        refine J_pick [0, 1, 2] rfl ?_
        exact tj_Po_add_39 o a1 a2 _ h
      · rw [iB_f hb] at h
        refine J_pick [0, 1, 2] rfl ?_
        exact tj_Po_add_34 o a1 a2 _ h
def mj_Fl_addPiece_26 (f : Nat) (sf : Int32 → Nat → Mem → Option (Mem)) (a1 : Int32) (a2 : Nat) (y3 : Int32) (μ : Mem) : Option (Mem) :=
  gu ((y3) + (gI μ 1 (0) 6)) 44 <|
  Option.bind (m_Fo_rounded (gL μ 120 (0) ((y3) + (gI μ 1 (0) 6)).toNatClampNeg) ((1073741824 : Int64)) μ) fun r3 =>
  gu ((y3) + (gI μ 1 (0) 6)) 44 <|
  Option.bind (m_Fo_rounded (gL μ 121 (0) ((y3) + (gI μ 1 (0) 6)).toNatClampNeg) ((1073741824 : Int64)) μ) fun r5 =>
  Option.bind (m_Po_add (a2) (r3) (r5) μ) fun r6 =>
  some r6
theorem tj_Fl_addPiece_26 (f : Nat) (sf : Int32 → Nat → Mem → Option (Mem)) (a1 : Int32) (a2 : Nat) (hsf : ∀ (a1 : Int32) (a2 : Nat) (μ : Mem) (q : Mem), sf a1 a2 μ = some q → JM true (f + 3) y_Fl_addPiece b_Fl_addPiece 4 none 0 0 [vr 1 (0), vi (a1), vr 7 (a2)] μ (QQ none q)) {q : Mem}  (y3 : Int32) (μ : Mem) (h : mj_Fl_addPiece_26 f sf a1 a2 y3 μ = some q) : J (GM true (QQ none q) none y_Fl_addPiece.name) true b_Fl_addPiece R_1 4 (f + 1 + 3) 0 0 26 [(0, vr 1 (0)), (2, vr 7 (a2)), (3, vi (y3))] [] μ := by
  unfold mj_Fl_addPiece_26 at h
  refine J_aload_n (q := 27) 1 d_Fl_addPiece_26 rfl rfl rfl ?_
  refine J_aload_n (q := 28) 0 d_Fl_addPiece_27 rfl rfl rfl ?_
  refine J_getF (q := 31) cd_1 (by decide) ft_1_0 rfl g_35 rfl d_Fl_addPiece_28 rfl ?_
  refine J_iload_n (q := 32) 2 d_Fl_addPiece_31 rfl rfl rfl ?_
  refine J_aload_n (q := 33) 0 d_Fl_addPiece_32 rfl rfl rfl ?_
  refine J_getI (q := 36) (j := 6) cd_1 (by decide) (Or.inl rfl) g_41 rfl d_Fl_addPiece_33 rfl ?_
  refine J_iadd (q := 37) d_Fl_addPiece_36 rfl ?_
  obtain ⟨hi2, h⟩ := gu_some h
  refine J_lald (q := 38) rk_120 (by decide) hi2 d_Fl_addPiece_37 rfl ?_
  refine J_ldc2 (q := 41) d_Fl_addPiece_38 g_669 rfl ?_
  obtain ⟨r3, hr3, h⟩ := bd_some h
  refine J_callSNq (rc := 0) (rs := 0) (q := 44) (as := [vl (gL μ 120 (0) ((y3) + (gI μ 1 (0) 6)).toNatClampNeg), vl ((1073741824 : Int64))]) (st := [vr 7 (a2)]) g_630 (t_Fo_rounded hr3) (by omega) (by decide) nn_13 g_631 g_1 hy_Fo_rounded rfl (Nat.le_of_ble_eq_true rfl) d_Fl_addPiece_41 rfl ?_
  refine J_aload_n (q := 45) 0 d_Fl_addPiece_44 rfl rfl rfl ?_
  refine J_getF (q := 48) cd_1 (by decide) ft_1_1 rfl g_36 rfl d_Fl_addPiece_45 rfl ?_
  refine J_iload_n (q := 49) 2 d_Fl_addPiece_48 rfl rfl rfl ?_
  refine J_aload_n (q := 50) 0 d_Fl_addPiece_49 rfl rfl rfl ?_
  refine J_getI (q := 53) (j := 6) cd_1 (by decide) (Or.inl rfl) g_41 rfl d_Fl_addPiece_50 rfl ?_
  refine J_iadd (q := 54) d_Fl_addPiece_53 rfl ?_
  obtain ⟨hi4, h⟩ := gu_some h
  refine J_lald (q := 55) rk_121 (by decide) hi4 d_Fl_addPiece_54 rfl ?_
  refine J_ldc2 (q := 58) d_Fl_addPiece_55 g_669 rfl ?_
  obtain ⟨r5, hr5, h⟩ := bd_some h
  refine J_callSNq (rc := 0) (rs := 0) (q := 61) (as := [vl (gL μ 121 (0) ((y3) + (gI μ 1 (0) 6)).toNatClampNeg), vl ((1073741824 : Int64))]) (st := [vl (r3), vr 7 (a2)]) g_630 (t_Fo_rounded hr5) (by omega) (by decide) nn_13 g_631 g_1 hy_Fo_rounded rfl (Nat.le_of_ble_eq_true rfl) d_Fl_addPiece_58 rfl ?_
  obtain ⟨r6, hr6, h⟩ := bd_some h
  refine J_callVv (rc := 0) (rs := 0) (q := 64) (as := [vl (r3), vl (r5)]) (st := []) (by decide) rfl g_643 g_644 (t_Po_add hr6) (by omega) (by decide) g_642 g_645 g_3 hy_Po_add rfl (Nat.le_of_ble_eq_true rfl) d_Fl_addPiece_61 rfl ?_
  obtain rfl := Option.some.inj h
  exact J_vret rfl ⟨rfl, rfl⟩ d_Fl_addPiece_64
def m_Fl_addPiece : Nat → Int32 → Nat → Mem → Option (Mem)
  | 0, _, _, _ => none
  | f + 1, a1, a2, μ =>
  ap (m_Fl_addPiece f) fun sf =>
  if gI μ 7 (a2) 5 = 0 then
 (some μ)
 else
 (ap (a1 * (4 : Int32)) fun x1 =>
  if (10 : Int32) ≤ a1 then
 (mj_Fl_addPiece_26 f sf a1 a2 (x1) μ)
 else
 (Option.bind (m_Fl_isFlat (x1) μ) fun r7 =>
  if r7 then
 (mj_Fl_addPiece_26 f sf a1 a2 (x1) μ)
 else
 (Option.bind (m_Fl_firstHalf 120 (0) 44 0 (x1) μ) fun r8 =>
  Option.bind (m_Fl_firstHalf 121 (0) 44 0 (x1) r8) fun r9 =>
  Option.bind (sf (a1 + (1 : Int32)) (a2) r9) fun r10 =>
  Option.bind (m_Fl_secondHalf 120 (0) 44 0 (x1) r10) fun r11 =>
  Option.bind (m_Fl_secondHalf 121 (0) 44 0 (x1) r11) fun r12 =>
  Option.bind (sf (a1 + (1 : Int32)) (a2) r12) fun r13 =>
  some r13)))
theorem t_Fl_addPiece : ∀ (f : Nat) (a1 : Int32) (a2 : Nat) (μ : Mem) (q : Mem), m_Fl_addPiece f a1 a2 μ = some q → JM true (f + 3) y_Fl_addPiece b_Fl_addPiece 4 none 0 0 [vr 1 (0), vi (a1), vr 7 (a2)] μ (QQ none q) := by
  intro f
  induction f with
  | zero => intro _ _ _ _ h; cases h
  | succ f ih =>
    intro a1 a2 μ q h
    unfold m_Fl_addPiece at h
    obtain ⟨sf, hsf0, h⟩ := ap_eq h
    have hsf := ih
    rw [← hsf0] at hsf
    refine JM.of pl_Fl_addPiece (fun ρ => Nat.le_of_ble_eq_true rfl) ?_
    show J (GM true (QQ none q) none y_Fl_addPiece.name) true b_Fl_addPiece R_1 4 (f + 1 + 3) 0 0 0 [(0, vr 1 (0)), (1, vi (a1)), (2, vr 7 (a2))] [] μ
    refine J_aload_n (q := 1) 2 d_Fl_addPiece_0 rfl rfl rfl ?_
    refine J_getI (q := 4) (j := 5) cd_7 (by decide) (Or.inr rfl) g_78 rfl d_Fl_addPiece_1 rfl ?_
    refine J_if_ne (q := 7) (tgt := 8) d_Fl_addPiece_4 (by decide) rfl (fun hc => ?_) (fun hc => ?_)
    · rw [if_neg hc] at h
      refine J_iload_n (q := 9) 1 d_Fl_addPiece_8 rfl rfl rfl ?_
      refine J_iconst (q := 10) (v := (4 : Int32)) d_Fl_addPiece_9 (by decide) rfl ?_
      refine J_imul (q := 11) d_Fl_addPiece_10 rfl ?_
      obtain ⟨x1, hx1, h⟩ := ap_eq h
      refine J_nmI hx1 ?_
      refine J_istore_n (q := 12) (lv' := [(3, vi (x1)), (0, vr 1 (0)), (1, vi (a1)), (2, vr 7 (a2))]) d_Fl_addPiece_11 rfl (by decide) rfl rfl ?_
      refine J_iload_n (q := 13) 2 d_Fl_addPiece_12 rfl rfl rfl ?_
      refine J_bipush (q := 15) (v := (10 : Int32)) d_Fl_addPiece_13 (by decide) rfl ?_
      refine J_icmp_ge (q := 18) (tgt := 26) d_Fl_addPiece_15 (by decide) rfl (fun hc => ?_) (fun hc => ?_)
      · rw [if_pos hc] at h
        refine J_pick [1, 3, 0] rfl ?_
        exact tj_Fl_addPiece_26 f sf a1 a2 hsf _ _ h
      · rw [if_neg hc] at h
        refine J_aload_n (q := 19) 1 d_Fl_addPiece_18 rfl rfl rfl ?_
        refine J_iload_n (q := 20) 0 d_Fl_addPiece_19 rfl rfl rfl ?_
        obtain ⟨r7, hr7, h⟩ := bd_some h
        refine J_callVq (rc := 0) (rs := 0) (q := 23) (as := [vi (x1)]) (st := []) (by decide) rfl g_662 sel_Fl_isFlat (t_Fl_isFlat hr7) (by omega) (by decide) g_660 g_663 g_2 hy_Fl_isFlat rfl (Nat.le_of_ble_eq_true rfl) d_Fl_addPiece_20 rfl ?_
        refine J_ifB_eq (q := 26) (tgt := 65) d_Fl_addPiece_23 (by decide) rfl (fun hb => ?_) (fun hb => ?_)
        · rw [iB_f hb] at h
          refine J_aload_n (q := 66) 1 d_Fl_addPiece_65 rfl rfl rfl ?_
          refine J_aload_n (q := 67) 1 d_Fl_addPiece_66 rfl rfl rfl ?_
          refine J_getF (q := 70) cd_1 (by decide) ft_1_0 rfl g_35 rfl d_Fl_addPiece_67 rfl ?_
          refine J_iload_n (q := 71) 0 d_Fl_addPiece_70 rfl rfl rfl ?_
          obtain ⟨r8, hr8, h⟩ := bd_some h
          refine J_callVv (rc := 0) (rs := 0) (q := 74) (as := [vr 120 (0), vi (x1)]) (st := []) (by decide) rfl g_673 sel_Fl_firstHalf (t_Fl_firstHalf rk_120 (by decide) hr8) (by omega) (by decide) g_671 g_674 g_2 hy_Fl_firstHalf rfl (Nat.le_of_ble_eq_true rfl) d_Fl_addPiece_71 rfl ?_
          refine J_aload_n (q := 75) 1 d_Fl_addPiece_74 rfl rfl rfl ?_
          refine J_aload_n (q := 76) 1 d_Fl_addPiece_75 rfl rfl rfl ?_
          refine J_getF (q := 79) cd_1 (by decide) ft_1_1 rfl g_36 rfl d_Fl_addPiece_76 rfl ?_
          refine J_iload_n (q := 80) 0 d_Fl_addPiece_79 rfl rfl rfl ?_
          obtain ⟨r9, hr9, h⟩ := bd_some h
          refine J_callVv (rc := 0) (rs := 0) (q := 83) (as := [vr 121 (0), vi (x1)]) (st := []) (by decide) rfl g_673 sel_Fl_firstHalf (t_Fl_firstHalf rk_121 (by decide) hr9) (by omega) (by decide) g_671 g_674 g_2 hy_Fl_firstHalf rfl (Nat.le_of_ble_eq_true rfl) d_Fl_addPiece_80 rfl ?_
          refine J_aload_n (q := 84) 1 d_Fl_addPiece_83 rfl rfl rfl ?_
          refine J_iload_n (q := 85) 2 d_Fl_addPiece_84 rfl rfl rfl ?_
          refine J_iconst (q := 86) (v := (1 : Int32)) d_Fl_addPiece_85 (by decide) rfl ?_
          refine J_iadd (q := 87) d_Fl_addPiece_86 rfl ?_
          refine J_aload_n (q := 88) 3 d_Fl_addPiece_87 rfl rfl rfl ?_
          obtain ⟨r10, hr10, h⟩ := bd_some h
          refine J_callVv (rc := 0) (rs := 0) (q := 91) (as := [vi (a1 + (1 : Int32)), vr 7 (a2)]) (st := []) (by decide) rfl g_658 sel_Fl_addPiece (hsf (a1 + (1 : Int32)) (a2) r9 _ hr10) (by omega) (by decide) g_656 g_659 g_2 hy_Fl_addPiece rfl (Nat.le_of_ble_eq_true rfl) d_Fl_addPiece_88 rfl ?_
          refine J_aload_n (q := 92) 1 d_Fl_addPiece_91 rfl rfl rfl ?_
          refine J_aload_n (q := 93) 1 d_Fl_addPiece_92 rfl rfl rfl ?_
          refine J_getF (q := 96) cd_1 (by decide) ft_1_0 rfl g_35 rfl d_Fl_addPiece_93 rfl ?_
          refine J_iload_n (q := 97) 0 d_Fl_addPiece_96 rfl rfl rfl ?_
          obtain ⟨r11, hr11, h⟩ := bd_some h
          refine J_callVv (rc := 0) (rs := 0) (q := 100) (as := [vr 120 (0), vi (x1)]) (st := []) (by decide) rfl g_680 sel_Fl_secondHalf (t_Fl_secondHalf rk_120 (by decide) hr11) (by omega) (by decide) g_678 g_681 g_2 hy_Fl_secondHalf rfl (Nat.le_of_ble_eq_true rfl) d_Fl_addPiece_97 rfl ?_
          refine J_aload_n (q := 101) 1 d_Fl_addPiece_100 rfl rfl rfl ?_
          refine J_aload_n (q := 102) 1 d_Fl_addPiece_101 rfl rfl rfl ?_
          refine J_getF (q := 105) cd_1 (by decide) ft_1_1 rfl g_36 rfl d_Fl_addPiece_102 rfl ?_
          refine J_iload_n (q := 106) 0 d_Fl_addPiece_105 rfl rfl rfl ?_
          obtain ⟨r12, hr12, h⟩ := bd_some h
          refine J_callVv (rc := 0) (rs := 0) (q := 109) (as := [vr 121 (0), vi (x1)]) (st := []) (by decide) rfl g_680 sel_Fl_secondHalf (t_Fl_secondHalf rk_121 (by decide) hr12) (by omega) (by decide) g_678 g_681 g_2 hy_Fl_secondHalf rfl (Nat.le_of_ble_eq_true rfl) d_Fl_addPiece_106 rfl ?_
          refine J_aload_n (q := 110) 1 d_Fl_addPiece_109 rfl rfl rfl ?_
          refine J_iload_n (q := 111) 2 d_Fl_addPiece_110 rfl rfl rfl ?_
          refine J_iconst (q := 112) (v := (1 : Int32)) d_Fl_addPiece_111 (by decide) rfl ?_
          refine J_iadd (q := 113) d_Fl_addPiece_112 rfl ?_
          refine J_aload_n (q := 114) 3 d_Fl_addPiece_113 rfl rfl rfl ?_
          obtain ⟨r13, hr13, h⟩ := bd_some h
          refine J_callVv (rc := 0) (rs := 0) (q := 117) (as := [vi (a1 + (1 : Int32)), vr 7 (a2)]) (st := []) (by decide) rfl g_658 sel_Fl_addPiece (hsf (a1 + (1 : Int32)) (a2) r12 _ hr13) (by omega) (by decide) g_656 g_659 g_2 hy_Fl_addPiece rfl (Nat.le_of_ble_eq_true rfl) d_Fl_addPiece_114 rfl ?_
          obtain rfl := Option.some.inj h
          exact J_vret rfl ⟨rfl, rfl⟩ d_Fl_addPiece_117
        · rw [iB_t hb] at h
          refine J_pick [1, 3, 0] rfl ?_
          exact tj_Fl_addPiece_26 f sf a1 a2 hsf _ _ h
    · rw [if_pos hc] at h
      obtain rfl := Option.some.inj h
      exact J_vret rfl ⟨rfl, rfl⟩ d_Fl_addPiece_7
