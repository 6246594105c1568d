def mj_Mo_drop_57 (a1 : Int32) (μ : Mem) : Option (Int32 × Mem) :=
  Option.bind (m_Mo_closed (a1) μ) fun r6 =>
  gu (a1) 32 <|
  ap (sI μ 345 (0) a1.toNatClampNeg (r6)) fun μ8 =>
  gu (a1) 32 <|
  some ((gI μ8 343 (0) a1.toNatClampNeg, μ8))
theorem tj_Mo_drop_57 (a1 : Int32) {q : Int32 × Mem}  (μ : Mem) (h : mj_Mo_drop_57 a1  μ = some q) : J (GM true (QQ (some (vi q.1)) q.2) (some (.int)) y_Mo_drop.name) true b_Mo_drop R_12 2 (1) 0 0 57 [(0, vr 12 (0)), (1, vi (a1))] [] μ := by
  unfold mj_Mo_drop_57 at h
  refine J_aload_n (q := 58) 0 d_Mo_drop_57 rfl rfl rfl ?_
  refine J_getF (q := 61) cd_12 (by decide) ft_12_5 rfl g_1056 rfl d_Mo_drop_58 rfl ?_
  refine J_iload_n (q := 62) 1 d_Mo_drop_61 rfl rfl rfl ?_
  refine J_aload_n (q := 63) 0 d_Mo_drop_62 rfl rfl rfl ?_
  refine J_iload_n (q := 64) 1 d_Mo_drop_63 rfl rfl rfl ?_
  obtain ⟨r6, hr6, h⟩ := bd_some h
  refine J_callVq (rc := 0) (rs := 0) (q := 67) (as := [vi (a1)]) (st := [vi (a1), vr 345 (0)]) (by decide) rfl g_1298 sel_Mo_closed (t_Mo_closed hr6) (by decide) (by decide) g_1296 g_1299 g_10 hy_Mo_closed rfl (Nat.le_of_ble_eq_true rfl) d_Mo_drop_64 rfl ?_
  obtain ⟨hi7, h⟩ := gu_some h
  refine J_iast (q := 68) rk_345 (by decide) hi7 d_Mo_drop_67 rfl ?_
  obtain ⟨μ8, hμ8, h⟩ := ap_eq h
  refine J_nmM hμ8 ?_
  refine J_aload_n (q := 69) 0 d_Mo_drop_68 rfl rfl rfl ?_
  refine J_getF (q := 72) cd_12 (by decide) ft_12_3 rfl g_1054 rfl d_Mo_drop_69 rfl ?_
  refine J_iload_n (q := 73) 1 d_Mo_drop_72 rfl rfl rfl ?_
  obtain ⟨hi9, h⟩ := gu_some h
  refine J_iald (q := 74) rk_343 (by decide) hi9 d_Mo_drop_73 rfl ?_
  obtain rfl := Option.some.inj h
  exact J_iret rfl ⟨rfl, rfl⟩ d_Mo_drop_74
def mj_Mo_drop_28 (a1 : Int32) (μ : Mem) : Option (Int32 × Mem) :=
  gu (a1) 32 <|
  if gI μ 344 (0) a1.toNatClampNeg = 0 then
 (gu (a1) 32 <|
  gu (a1) 32 <|
  ap (sI μ 343 (0) a1.toNatClampNeg ((gI μ 343 (0) a1.toNatClampNeg) - ((1 : Int32)))) fun μ5 =>
  mj_Mo_drop_57 a1 μ5)
 else
 (gu (a1) 32 <|
  ap (sI μ 344 (0) a1.toNatClampNeg ((0 : Int32))) fun μ11 =>
  mj_Mo_drop_57 a1 μ11)
theorem tj_Mo_drop_28 (a1 : Int32) {q : Int32 × Mem}  (μ : Mem) (h : mj_Mo_drop_28 a1  μ = some q) : J (GM true (QQ (some (vi q.1)) q.2) (some (.int)) y_Mo_drop.name) true b_Mo_drop R_12 2 (1) 0 0 28 [(0, vr 12 (0)), (1, vi (a1))] [] μ := by
  unfold mj_Mo_drop_28 at h
  refine J_aload_n (q := 29) 0 d_Mo_drop_28 rfl rfl rfl ?_
  refine J_getF (q := 32) cd_12 (by decide) ft_12_4 rfl g_1055 rfl d_Mo_drop_29 rfl ?_
  refine J_iload_n (q := 33) 1 d_Mo_drop_32 rfl rfl rfl ?_
  obtain ⟨hi2, h⟩ := gu_some h
  refine J_zald (q := 34) rk_344 (by decide) hi2 d_Mo_drop_33 rfl ?_
  refine J_if_eq (q := 37) (tgt := 47) d_Mo_drop_34 (by decide) rfl (fun hc => ?_) (fun hc => ?_)
  · rw [if_pos hc] at h
    refine J_aload_n (q := 48) 0 d_Mo_drop_47 rfl rfl rfl ?_
    refine J_getF (q := 51) cd_12 (by decide) ft_12_3 rfl g_1054 rfl d_Mo_drop_48 rfl ?_
    refine J_iload_n (q := 52) 1 d_Mo_drop_51 rfl rfl rfl ?_
    refine J_dup2IR (q := 53) d_Mo_drop_52 rfl ?_
    obtain ⟨hi3, h⟩ := gu_some h
    refine J_iald (q := 54) rk_343 (by decide) hi3 d_Mo_drop_53 rfl ?_
    refine J_iconst (q := 55) (v := (1 : Int32)) d_Mo_drop_54 (by decide) rfl ?_
    refine J_isub (q := 56) d_Mo_drop_55 rfl ?_
    obtain ⟨hi4, h⟩ := gu_some h
    refine J_iast (q := 57) rk_343 (by decide) hi4 d_Mo_drop_56 rfl ?_
    obtain ⟨μ5, hμ5, h⟩ := ap_eq h
    refine J_nmM hμ5 ?_
    refine J_pick [0, 1] rfl ?_
    exact tj_Mo_drop_57 a1 _ h
  · rw [if_neg hc] at h
    refine J_aload_n (q := 38) 0 d_Mo_drop_37 rfl rfl rfl ?_
    refine J_getF (q := 41) cd_12 (by decide) ft_12_4 rfl g_1055 rfl d_Mo_drop_38 rfl ?_
    refine J_iload_n (q := 42) 1 d_Mo_drop_41 rfl rfl rfl ?_
    refine J_iconst (q := 43) (v := (0 : Int32)) d_Mo_drop_42 (by decide) rfl ?_
    obtain ⟨hi10, h⟩ := gu_some h
    refine J_zast (q := 44) (Or.inl rfl) rk_344 (by decide) hi10 d_Mo_drop_43 rfl ?_
    obtain ⟨μ11, hμ11, h⟩ := ap_eq h
    refine J_nmM hμ11 ?_
    refine J_goto (q := 57) d_Mo_drop_44 (by decide) ?_
    refine J_pick [0, 1] rfl ?_
    exact tj_Mo_drop_57 a1 _ h
def m_Mo_drop (a1 : Int32) (μ : Mem) : Option (Int32 × Mem) :=
  if (m_Mo_isLetter (a1) μ) then
 (gu (a1) 32 <|
  if gI μ 343 (0) a1.toNatClampNeg = 0 then
 (gu (a1) 32 <|
  if gI μ 344 (0) a1.toNatClampNeg = 0 then
 (some (((-1 : Int32), μ)))
 else
 (mj_Mo_drop_28 a1 μ))
 else
 (mj_Mo_drop_28 a1 μ))
 else
 (some (((-1 : Int32), μ)))
theorem t_Mo_drop {a1 : Int32} {μ : Mem} {q : Int32 × Mem} (h : m_Mo_drop a1 μ = some q) : JM true (1) y_Mo_drop b_Mo_drop 2 (some (.int)) 0 0 [vr 12 (0), vi (a1)] μ (QQ (some (vi q.1)) q.2) := by
  unfold m_Mo_drop at h
  refine JM.of pl_Mo_drop (fun ρ => Nat.le_of_ble_eq_true rfl) ?_
  show J (GM true (QQ (some (vi q.1)) q.2) (some (.int)) y_Mo_drop.name) true b_Mo_drop R_12 2 (1) 0 0 0 [(0, vr 12 (0)), (1, vi (a1))] [] μ
  refine J_aload_n (q := 1) 0 d_Mo_drop_0 rfl rfl rfl ?_
  refine J_iload_n (q := 2) 1 d_Mo_drop_1 rfl rfl rfl ?_
  refine J_callVq (rc := 0) (rs := 0) (q := 5) (as := [vi (a1)]) (st := []) (by decide) rfl g_1287 sel_Mo_isLetter (t_Mo_isLetter rfl) (by decide) (by decide) g_1285 g_1288 g_10 hy_Mo_isLetter rfl (Nat.le_of_ble_eq_true rfl) d_Mo_drop_2 rfl ?_
  refine J_ifB_eq (q := 8) (tgt := 26) d_Mo_drop_5 (by decide) rfl (fun hb => ?_) (fun hb => ?_)
  · rw [iB_f hb] at h
    refine J_iconst (q := 27) (v := (-1 : Int32)) d_Mo_drop_26 (by decide) rfl ?_
    obtain rfl := Option.some.inj h
    exact J_iret rfl ⟨rfl, rfl⟩ d_Mo_drop_27
  · rw [iB_t hb] at h
    refine J_aload_n (q := 9) 0 d_Mo_drop_8 rfl rfl rfl ?_
    refine J_getF (q := 12) cd_12 (by decide) ft_12_3 rfl g_1054 rfl d_Mo_drop_9 rfl ?_
    refine J_iload_n (q := 13) 1 d_Mo_drop_12 rfl rfl rfl ?_
    obtain ⟨hi1, h⟩ := gu_some h
    refine J_iald (q := 14) rk_343 (by decide) hi1 d_Mo_drop_13 rfl ?_
    refine J_if_ne (q := 17) (tgt := 28) d_Mo_drop_14 (by decide) rfl (fun hc => ?_) (fun hc => ?_)
    · rw [if_neg hc] at h
      refine J_pick [0, 1] rfl ?_
      exact tj_Mo_drop_28 a1 _ h
    · rw [if_pos hc] at h
      refine J_aload_n (q := 18) 0 d_Mo_drop_17 rfl rfl rfl ?_
      refine J_getF (q := 21) cd_12 (by decide) ft_12_4 rfl g_1055 rfl d_Mo_drop_18 rfl ?_
      refine J_iload_n (q := 22) 1 d_Mo_drop_21 rfl rfl rfl ?_
      obtain ⟨hi12, h⟩ := gu_some h
      refine J_zald (q := 23) rk_344 (by decide) hi12 d_Mo_drop_22 rfl ?_
      refine J_if_ne (q := 26) (tgt := 28) d_Mo_drop_23 (by decide) rfl (fun hc => ?_) (fun hc => ?_)
      · rw [if_neg hc] at h
        refine J_pick [0, 1] rfl ?_
        exact tj_Mo_drop_28 a1 _ h
      · rw [if_pos hc] at h
        refine J_iconst (q := 27) (v := (-1 : Int32)) d_Mo_drop_26 (by decide) rfl ?_
        obtain rfl := Option.some.inj h
        exact J_iret rfl ⟨rfl, rfl⟩ d_Mo_drop_27
def m_Mo_isPoint (a1 : Int32) (a2 : Int32) (μ : Mem) : Option (Bool) :=
  if (m_Mo_isLetter (a1) μ) then
 (if a2 < 0 then
 (some (false))
 else
 (Option.bind (m_Mo_closed (a1) μ) fun r1 =>
  if r1 ≤ a2 then
 (some (false))
 else
 (some (true))))
 else
 (some (false))
theorem t_Mo_isPoint {a1 : Int32} {a2 : Int32} {μ : Mem} {q : Bool} (h : m_Mo_isPoint a1 a2 μ = some q) : JM true (1) y_Mo_isPoint b_Mo_isPoint 3 (some (.boolean)) 0 0 [vr 12 (0), vi (a1), vi (a2)] μ (QQ (some (vi (b2i q))) μ) := by
  unfold m_Mo_isPoint at h
  refine JM.of pl_Mo_isPoint (fun ρ => Nat.le_of_ble_eq_true rfl) ?_
  show J (GM true (QQ (some (vi (b2i q))) μ) (some (.boolean)) y_Mo_isPoint.name) true b_Mo_isPoint R_12 3 (1) 0 0 0 [(0, vr 12 (0)), (1, vi (a1)), (2, vi (a2))] [] μ
  refine J_aload_n (q := 1) 0 d_Mo_isPoint_0 rfl rfl rfl ?_
  refine J_iload_n (q := 2) 1 d_Mo_isPoint_1 rfl rfl rfl ?_
  refine J_callVq (rc := 0) (rs := 0) (q := 5) (as := [vi (a1)]) (st := []) (by decide) rfl g_1287 sel_Mo_isLetter (t_Mo_isLetter rfl) (by decide) (by decide) g_1285 g_1288 g_10 hy_Mo_isLetter rfl (Nat.le_of_ble_eq_true rfl) d_Mo_isPoint_2 rfl ?_
  refine J_ifB_eq (q := 8) (tgt := 25) d_Mo_isPoint_5 (by decide) rfl (fun hb => ?_) (fun hb => ?_)
  · rw [iB_f hb] at h
    refine J_iconst (q := 26) (v := (0 : Int32)) d_Mo_isPoint_25 (by decide) rfl ?_
    obtain rfl := Option.some.inj h
    exact J_zret (Or.inl rfl) rfl ⟨rfl, rfl⟩ d_Mo_isPoint_26
  · rw [iB_t hb] at h
    refine J_iload_n (q := 9) 2 d_Mo_isPoint_8 rfl rfl rfl ?_
    refine J_if_lt (q := 12) (tgt := 25) d_Mo_isPoint_9 (by decide) rfl (fun hc => ?_) (fun hc => ?_)
    · rw [if_pos hc] at h
      refine J_iconst (q := 26) (v := (0 : Int32)) d_Mo_isPoint_25 (by decide) rfl ?_
      obtain rfl := Option.some.inj h
      exact J_zret (Or.inl rfl) rfl ⟨rfl, rfl⟩ d_Mo_isPoint_26
    · rw [if_neg hc] at h
      refine J_iload_n (q := 13) 2 d_Mo_isPoint_12 rfl rfl rfl ?_
      refine J_aload_n (q := 14) 0 d_Mo_isPoint_13 rfl rfl rfl ?_
      refine J_iload_n (q := 15) 1 d_Mo_isPoint_14 rfl rfl rfl ?_
      obtain ⟨r1, hr1, h⟩ := bd_some h
      refine J_callVq (rc := 0) (rs := 0) (q := 18) (as := [vi (a1)]) (st := [vi (a2)]) (by decide) rfl g_1298 sel_Mo_closed (t_Mo_closed hr1) (by decide) (by decide) g_1296 g_1299 g_10 hy_Mo_closed rfl (Nat.le_of_ble_eq_true rfl) d_Mo_isPoint_15 rfl ?_
      refine J_icmp_ge (q := 21) (tgt := 25) d_Mo_isPoint_18 (by decide) rfl (fun hc => ?_) (fun hc => ?_)
      · rw [if_pos hc] at h
        refine J_iconst (q := 26) (v := (0 : Int32)) d_Mo_isPoint_25 (by decide) rfl ?_
        obtain rfl := Option.some.inj h
        exact J_zret (Or.inl rfl) rfl ⟨rfl, rfl⟩ d_Mo_isPoint_26
      · rw [if_neg hc] at h
        refine J_iconst (q := 22) (v := (1 : Int32)) d_Mo_isPoint_21 (by decide) rfl ?_
        refine J_goto (q := 26) d_Mo_isPoint_22 (by decide) ?_
        obtain rfl := Option.some.inj h
        exact J_zret (Or.inr rfl) rfl ⟨rfl, rfl⟩ d_Mo_isPoint_26
def m_Mo_move (a1 : Int32) (a2 : Int32) (a3 : Int32) (a4 : Int32) (μ : Mem) : Option (Bool × Mem) :=
  Option.bind (m_Mo_isPoint (a1) (a2) μ) fun r1 =>
  if r1 then
 (if (m_Mo_isPlace (a3) μ) then
 (if (m_Mo_isPlace (a4) μ) then
 (gu (((100 : Int32) * a1) + (a2)) 3200 <|
  ap (sI μ 347 (0) (((100 : Int32) * a1) + (a2)).toNatClampNeg (a3)) fun μ3 =>
  gu (((100 : Int32) * a1) + (a2)) 3200 <|
  ap (sI μ3 348 (0) (((100 : Int32) * a1) + (a2)).toNatClampNeg (a4)) fun μ5 =>
  some ((true, μ5)))
 else
 (some ((false, μ))))
 else
 (some ((false, μ))))
 else
 (some ((false, μ)))
theorem t_Mo_move {a1 : Int32} {a2 : Int32} {a3 : Int32} {a4 : Int32} {μ : Mem} {q : Bool × Mem} (h : m_Mo_move a1 a2 a3 a4 μ = some q) : JM true (2) y_Mo_move b_Mo_move 5 (some (.boolean)) 0 0 [vr 12 (0), vi (a1), vi (a2), vi (a3), vi (a4)] μ (QQ (some (vi (b2i q.1))) q.2) := by
  unfold m_Mo_move at h
  refine JM.of pl_Mo_move (fun ρ => Nat.le_of_ble_eq_true rfl) ?_
  show J (GM true (QQ (some (vi (b2i q.1))) q.2) (some (.boolean)) y_Mo_move.name) true b_Mo_move R_12 5 (2) 0 0 0 [(0, vr 12 (0)), (1, vi (a1)), (2, vi (a2)), (3, vi (a3)), (4, vi (a4))] [] μ
  refine J_aload_n (q := 1) 0 d_Mo_move_0 rfl rfl rfl ?_
  refine J_iload_n (q := 2) 1 d_Mo_move_1 rfl rfl rfl ?_
  refine J_iload_n (q := 3) 2 d_Mo_move_2 rfl rfl rfl ?_
  obtain ⟨r1, hr1, h⟩ := bd_some h
  refine J_callVq (rc := 0) (rs := 0) (q := 6) (as := [vi (a1), vi (a2)]) (st := []) (by decide) rfl g_1318 sel_Mo_isPoint (t_Mo_isPoint hr1) (by decide) (by decide) g_1316 g_1319 g_10 hy_Mo_isPoint rfl (Nat.le_of_ble_eq_true rfl) d_Mo_move_3 rfl ?_
  refine J_ifB_eq (q := 9) (tgt := 24) d_Mo_move_6 (by decide) rfl (fun hb => ?_) (fun hb => ?_)
  · rw [iB_f hb] at h
    refine J_iconst (q := 25) (v := (0 : Int32)) d_Mo_move_24 (by decide) rfl ?_
    obtain rfl := Option.some.inj h
    exact J_zret (Or.inl rfl) rfl ⟨rfl, rfl⟩ d_Mo_move_25
  · rw [iB_t hb] at h
    refine J_iload_n (q := 10) 3 d_Mo_move_9 rfl rfl rfl ?_
    refine J_callSq (rc := 0) (rs := 0) (q := 13) (as := [vi (a3)]) (st := []) g_1294 (t_Mo_isPlace rfl) (by decide) (by decide) g_1293 g_1295 g_10 hy_Mo_isPlace rfl (Nat.le_of_ble_eq_true rfl) d_Mo_move_10 rfl ?_
    refine J_ifB_eq (q := 16) (tgt := 24) d_Mo_move_13 (by decide) rfl (fun hb => ?_) (fun hb => ?_)
    · rw [iB_f hb] at h
      refine J_iconst (q := 25) (v := (0 : Int32)) d_Mo_move_24 (by decide) rfl ?_
      obtain rfl := Option.some.inj h
      exact J_zret (Or.inl rfl) rfl ⟨rfl, rfl⟩ d_Mo_move_25
    · rw [iB_t hb] at h
      refine J_iload (q := 18) 4 d_Mo_move_16 rfl rfl ?_
      refine J_callSq (rc := 0) (rs := 0) (q := 21) (as := [vi (a4)]) (st := []) g_1294 (t_Mo_isPlace rfl) (by decide) (by decide) g_1293 g_1295 g_10 hy_Mo_isPlace rfl (Nat.le_of_ble_eq_true rfl) d_Mo_move_18 rfl ?_
      refine J_ifB_ne (q := 24) (tgt := 26) d_Mo_move_21 (by decide) rfl (fun hb => ?_) (fun hb => ?_)
      · rw [iB_t hb] at h
        refine J_aload_n (q := 27) 0 d_Mo_move_26 rfl rfl rfl ?_
        refine J_getF (q := 30) cd_12 (by decide) ft_12_7 rfl g_1058 rfl d_Mo_move_27 rfl ?_
        refine J_bipush (q := 32) (v := (100 : Int32)) d_Mo_move_30 (by decide) rfl ?_
        refine J_iload_n (q := 33) 1 d_Mo_move_32 rfl rfl rfl ?_
        refine J_imul (q := 34) d_Mo_move_33 rfl ?_
        refine J_iload_n (q := 35) 2 d_Mo_move_34 rfl rfl rfl ?_
        refine J_iadd (q := 36) d_Mo_move_35 rfl ?_
        refine J_iload_n (q := 37) 3 d_Mo_move_36 rfl rfl rfl ?_
        obtain ⟨hi2, h⟩ := gu_some h
        refine J_iast (q := 38) rk_347 (by decide) hi2 d_Mo_move_37 rfl ?_
        obtain ⟨μ3, hμ3, h⟩ := ap_eq h
        refine J_nmM hμ3 ?_
        refine J_aload_n (q := 39) 0 d_Mo_move_38 rfl rfl rfl ?_
        refine J_getF (q := 42) cd_12 (by decide) ft_12_8 rfl g_1059 rfl d_Mo_move_39 rfl ?_
        refine J_bipush (q := 44) (v := (100 : Int32)) d_Mo_move_42 (by decide) rfl ?_
        refine J_iload_n (q := 45) 1 d_Mo_move_44 rfl rfl rfl ?_
        refine J_imul (q := 46) d_Mo_move_45 rfl ?_
        refine J_iload_n (q := 47) 2 d_Mo_move_46 rfl rfl rfl ?_
        refine J_iadd (q := 48) d_Mo_move_47 rfl ?_
        refine J_iload (q := 50) 4 d_Mo_move_48 rfl rfl ?_
        obtain ⟨hi4, h⟩ := gu_some h
        refine J_iast (q := 51) rk_348 (by decide) hi4 d_Mo_move_50 rfl ?_
        obtain ⟨μ5, hμ5, h⟩ := ap_eq h
        refine J_nmM hμ5 ?_
        refine J_iconst (q := 52) (v := (1 : Int32)) d_Mo_move_51 (by decide) rfl ?_
        obtain rfl := Option.some.inj h
        exact J_zret (Or.inr rfl) rfl ⟨rfl, rfl⟩ d_Mo_move_52
      · rw [iB_f hb] at h
        refine J_iconst (q := 25) (v := (0 : Int32)) d_Mo_move_24 (by decide) rfl ?_
        obtain rfl := Option.some.inj h
        exact J_zret (Or.inl rfl) rfl ⟨rfl, rfl⟩ d_Mo_move_25
def m_Mo_beginOf (a1 : Int32) (a2 : Int32) (μ : Mem) : Option (Int32) :=
  if a2 = 0 then
 (some ((0 : Int32)))
 else
 (gu ((((8 : Int32) * a1) + (a2)) - ((1 : Int32))) 256 <|
  some (gI μ 346 (0) ((((8 : Int32) * a1) + (a2)) - ((1 : Int32))).toNatClampNeg))
theorem t_Mo_beginOf {a1 : Int32} {a2 : Int32} {μ : Mem} {q : Int32} (h : m_Mo_beginOf a1 a2 μ = some q) : JM true (0) y_Mo_beginOf b_Mo_beginOf 3 (some (.int)) 0 0 [vr 12 (0), vi (a1), vi (a2)] μ (QQ (some (vi q)) μ) := by
  unfold m_Mo_beginOf at h
  refine JM.of pl_Mo_beginOf (fun ρ => Nat.le_of_ble_eq_true rfl) ?_
  show J (GM true (QQ (some (vi q)) μ) (some (.int)) y_Mo_beginOf.name) true b_Mo_beginOf R_12 3 (0) 0 0 0 [(0, vr 12 (0)), (1, vi (a1)), (2, vi (a2))] [] μ
  refine J_iload_n (q := 1) 2 d_Mo_beginOf_0 rfl rfl rfl ?_
  refine J_if_ne (q := 4) (tgt := 8) d_Mo_beginOf_1 (by decide) rfl (fun hc => ?_) (fun hc => ?_)
  · rw [if_neg hc] at h
    refine J_aload_n (q := 9) 0 d_Mo_beginOf_8 rfl rfl rfl ?_
    refine J_getF (q := 12) cd_12 (by decide) ft_12_6 rfl g_1057 rfl d_Mo_beginOf_9 rfl ?_
    refine J_bipush (q := 14) (v := (8 : Int32)) d_Mo_beginOf_12 (by decide) rfl ?_
    refine J_iload_n (q := 15) 1 d_Mo_beginOf_14 rfl rfl rfl ?_
    refine J_imul (q := 16) d_Mo_beginOf_15 rfl ?_
    refine J_iload_n (q := 17) 2 d_Mo_beginOf_16 rfl rfl rfl ?_
    refine J_iadd (q := 18) d_Mo_beginOf_17 rfl ?_
    refine J_iconst (q := 19) (v := (1 : Int32)) d_Mo_beginOf_18 (by decide) rfl ?_
    refine J_isub (q := 20) d_Mo_beginOf_19 rfl ?_
    obtain ⟨hi1, h⟩ := gu_some h
    refine J_iald (q := 21) rk_346 (by decide) hi1 d_Mo_beginOf_20 rfl ?_
    obtain rfl := Option.some.inj h
    exact J_iret rfl ⟨rfl, rfl⟩ d_Mo_beginOf_21
  · rw [if_pos hc] at h
    refine J_iconst (q := 5) (v := (0 : Int32)) d_Mo_beginOf_4 (by decide) rfl ?_
    refine J_goto (q := 21) d_Mo_beginOf_5 (by decide) ?_
    obtain rfl := Option.some.inj h
    exact J_iret rfl ⟨rfl, rfl⟩ d_Mo_beginOf_21
def m_Mo_swap (a1k : Nat) (a1l : Nat) (a1n : Nat) (a1z : Nat) (a2 : Int32) (a3 : Int32) (μ : Mem) : Option (Mem) :=
  gu (a2) a1n <|
  ap (gI μ a1k (a1l) a2.toNatClampNeg) fun x2 =>
  gu (a3) a1n <|
  gu (a2) a1n <|
  ap (sI μ a1k (a1l) a2.toNatClampNeg (gI μ a1k (a1l) a3.toNatClampNeg)) fun μ5 =>
  gu (a3) a1n <|
  ap (sI μ5 a1k (a1l) a3.toNatClampNeg (x2)) fun μ7 =>
  some μ7
theorem t_Mo_swap {a1k : Nat} {a1l : Nat} {a1n : Nat} {a1z : Nat} {a2 : Int32} {a3 : Int32} {μ : Mem} {q : Mem} (ha1 : RK a1k = (2, a1n, a1z)) (ha19 : a1k < 900) (h : m_Mo_swap a1k a1l a1n a1z a2 a3 μ = some q) : JM true (0) y_Mo_swap b_Mo_swap 5 none 0 0 [vr 12 (0), vr a1k (a1l), vi (a2), vi (a3)] μ (QQ none q) := by
  unfold m_Mo_swap at h
  refine JM.of pl_Mo_swap (fun ρ => Nat.le_of_ble_eq_true rfl) ?_
  show J (GM true (QQ none q) none y_Mo_swap.name) true b_Mo_swap R_12 5 (0) 0 0 0 [(0, vr 12 (0)), (1, vr a1k (a1l)), (2, vi (a2)), (3, vi (a3))] [] μ
  refine J_aload_n (q := 1) 1 d_Mo_swap_0 rfl rfl rfl ?_
  refine J_iload_n (q := 2) 2 d_Mo_swap_1 rfl rfl rfl ?_
  obtain ⟨hi1, h⟩ := gu_some h
  refine J_iald (q := 3) ha1 ha19 hi1 d_Mo_swap_2 rfl ?_
  obtain ⟨x2, hx2, h⟩ := ap_eq h
  refine J_nmI hx2 ?_
  refine J_istore (q := 5) (lv' := [(4, vi (x2)), (0, vr 12 (0)), (1, vr a1k (a1l)), (2, vi (a2)), (3, vi (a3))]) d_Mo_swap_3 (by decide) rfl rfl ?_
  refine J_aload_n (q := 6) 2 d_Mo_swap_5 rfl rfl rfl ?_
  refine J_iload_n (q := 7) 3 d_Mo_swap_6 rfl rfl rfl ?_
  refine J_aload_n (q := 8) 2 d_Mo_swap_7 rfl rfl rfl ?_
  refine J_iload_n (q := 9) 4 d_Mo_swap_8 rfl rfl rfl ?_
  obtain ⟨hi3, h⟩ := gu_some h
  refine J_iald (q := 10) ha1 ha19 hi3 d_Mo_swap_9 rfl ?_
  obtain ⟨hi4, h⟩ := gu_some h
  refine J_iast (q := 11) ha1 ha19 hi4 d_Mo_swap_10 rfl ?_
  obtain ⟨μ5, hμ5, h⟩ := ap_eq h
  refine J_nmM hμ5 ?_
  refine J_aload_n (q := 12) 2 d_Mo_swap_11 rfl rfl rfl ?_
  refine J_iload_n (q := 13) 4 d_Mo_swap_12 rfl rfl rfl ?_
  refine J_iload (q := 15) 0 d_Mo_swap_13 rfl rfl ?_
  obtain ⟨hi6, h⟩ := gu_some h
  refine J_iast (q := 16) ha1 ha19 hi6 d_Mo_swap_15 rfl ?_
  obtain ⟨μ7, hμ7, h⟩ := ap_eq h
  refine J_nmM hμ7 ?_
  obtain rfl := Option.some.inj h
  exact J_vret rfl ⟨rfl, rfl⟩ d_Mo_swap_16
def lp_Mo_reverse_100 (a1 : Int32) (a2 : Int32) (c_154 : Int32 → Int32 → Mem → Option (Bool × Mem)) : Nat → Int32 → Int32 → Int32 → Mem → Option (Bool × Mem)
  | 0, _, _, _, _ => none
  | n + 1, y3, y4, y5, μ =>
  if (3 : Int32) ≤ y5 then
 (c_154 (y3) (y4) μ)
 else
 (Option.bind (m_Mo_swap 350 (0) 9600 0 (((3 : Int32) * y3) + (y5)) (((3 : Int32) * y4) + (y5)) μ) fun r12 =>
  Option.bind (m_Mo_swap 351 (0) 9600 0 (((3 : Int32) * y3) + (y5)) (((3 : Int32) * y4) + (y5)) r12) fun r13 =>
  ap (y5 + (1 : Int32)) fun x14 =>
  lp_Mo_reverse_100 a1 a2 c_154 n (y3) (y4) (x14) r13)
theorem tl_Mo_reverse_100 (a1 : Int32) (a2 : Int32) {q : Bool × Mem} {c_154 : Int32 → Int32 → Mem → Option (Bool × Mem)} (hc_154 : ∀ (y3 : Int32) (y4 : Int32) (μ : Mem), c_154 y3 y4 μ = some q → J (GM true (QQ (some (vi (b2i q.1))) q.2) (some (.boolean)) y_Mo_reverse.name) true b_Mo_reverse R_12 6 (1) 0 0 154 [(0, vr 12 (0)), (3, vi (y3)), (4, vi (y4))] [] μ) : ∀ (n : Nat) (y3 : Int32) (y4 : Int32) (y5 : Int32) (μ : Mem), lp_Mo_reverse_100 a1 a2 c_154 n y3 y4 y5 μ = some q → J (GM true (QQ (some (vi (b2i q.1))) q.2) (some (.boolean)) y_Mo_reverse.name) true b_Mo_reverse R_12 6 (1) 0 0 100 [(0, vr 12 (0)), (3, vi (y3)), (4, vi (y4)), (5, vi (y5))] [] μ := by
  intro n
  induction n with
  | zero => intro _ _ _ _ h; cases h
  | succ n ih =>
    intro y3 y4 y5 μ h
    unfold lp_Mo_reverse_100 at h
    refine J_iload (q := 102) 3 d_Mo_reverse_100 rfl rfl ?_
    refine J_iconst (q := 103) (v := (3 : Int32)) d_Mo_reverse_102 (by decide) rfl ?_
    refine J_icmp_ge (q := 106) (tgt := 154) d_Mo_reverse_103 (by decide) rfl (fun hc => ?_) (fun hc => ?_)
    · rw [if_pos hc] at h
      refine J_pick [0, 1, 2] rfl ?_
      exact hc_154 _ _ _ h
    · rw [if_neg hc] at h
      refine J_aload_n (q := 107) 0 d_Mo_reverse_106 rfl rfl rfl ?_
      refine J_aload_n (q := 108) 0 d_Mo_reverse_107 rfl rfl rfl ?_
      refine J_getF (q := 111) cd_12 (by decide) ft_12_10 rfl g_1061 rfl d_Mo_reverse_108 rfl ?_
      refine J_iconst (q := 112) (v := (3 : Int32)) d_Mo_reverse_111 (by decide) rfl ?_
      refine J_iload_n (q := 113) 1 d_Mo_reverse_112 rfl rfl rfl ?_
      refine J_imul (q := 114) d_Mo_reverse_113 rfl ?_
      refine J_iload (q := 116) 3 d_Mo_reverse_114 rfl rfl ?_
      refine J_iadd (q := 117) d_Mo_reverse_116 rfl ?_
      refine J_iconst (q := 118) (v := (3 : Int32)) d_Mo_reverse_117 (by decide) rfl ?_
      refine J_iload (q := 120) 2 d_Mo_reverse_118 rfl rfl ?_
      refine J_imul (q := 121) d_Mo_reverse_120 rfl ?_
      refine J_iload (q := 123) 3 d_Mo_reverse_121 rfl rfl ?_
      refine J_iadd (q := 124) d_Mo_reverse_123 rfl ?_
      obtain ⟨r12, hr12, h⟩ := bd_some h
      refine J_callVv (rc := 0) (rs := 0) (q := 127) (as := [vr 350 (0), vi (((3 : Int32) * y3) + (y5)), vi (((3 : Int32) * y4) + (y5))]) (st := []) (by decide) rfl g_1330 sel_Mo_swap (t_Mo_swap rk_350 (by decide) hr12) (by decide) (by decide) g_1328 g_1331 g_10 hy_Mo_swap rfl (Nat.le_of_ble_eq_true rfl) d_Mo_reverse_124 rfl ?_
      refine J_aload_n (q := 128) 0 d_Mo_reverse_127 rfl rfl rfl ?_
      refine J_aload_n (q := 129) 0 d_Mo_reverse_128 rfl rfl rfl ?_
      refine J_getF (q := 132) cd_12 (by decide) ft_12_11 rfl g_1062 rfl d_Mo_reverse_129 rfl ?_
      refine J_iconst (q := 133) (v := (3 : Int32)) d_Mo_reverse_132 (by decide) rfl ?_
      refine J_iload_n (q := 134) 1 d_Mo_reverse_133 rfl rfl rfl ?_
      refine J_imul (q := 135) d_Mo_reverse_134 rfl ?_
      refine J_iload (q := 137) 3 d_Mo_reverse_135 rfl rfl ?_
      refine J_iadd (q := 138) d_Mo_reverse_137 rfl ?_
      refine J_iconst (q := 139) (v := (3 : Int32)) d_Mo_reverse_138 (by decide) rfl ?_
      refine J_iload (q := 141) 2 d_Mo_reverse_139 rfl rfl ?_
      refine J_imul (q := 142) d_Mo_reverse_141 rfl ?_
      refine J_iload (q := 144) 3 d_Mo_reverse_142 rfl rfl ?_
      refine J_iadd (q := 145) d_Mo_reverse_144 rfl ?_
      obtain ⟨r13, hr13, h⟩ := bd_some h
      refine J_callVv (rc := 0) (rs := 0) (q := 148) (as := [vr 351 (0), vi (((3 : Int32) * y3) + (y5)), vi (((3 : Int32) * y4) + (y5))]) (st := []) (by decide) rfl g_1330 sel_Mo_swap (t_Mo_swap rk_351 (by decide) hr13) (by decide) (by decide) g_1328 g_1331 g_10 hy_Mo_swap rfl (Nat.le_of_ble_eq_true rfl) d_Mo_reverse_145 rfl ?_
      obtain ⟨x14, hx14, h⟩ := ap_eq h
      refine J_iinc (q := 151) (v := x14) (lv' := [(5, vi (x14)), (0, vr 12 (0)), (3, vi (y3)), (4, vi (y4))]) 3 d_Mo_reverse_148 rfl (by rw [hx14]; rfl) (by decide) rfl rfl ?_
      refine J_goto (q := 100) d_Mo_reverse_151 (by decide) ?_
      refine J_pick [1, 2, 3, 0] rfl ?_
      exact ih _ _ _ _ h
def mj_Mo_reverse_154 (a1 : Int32) (a2 : Int32) (c_58 : Int32 → Int32 → Mem → Option (Bool × Mem)) (y3 : Int32) (y4 : Int32) (μ : Mem) : Option (Bool × Mem) :=
  ap (y3 + (1 : Int32)) fun x15 =>
  ap (y4 + (-1 : Int32)) fun x16 =>
  c_58 (x15) (x16) μ
theorem tj_Mo_reverse_154 (a1 : Int32) (a2 : Int32) {q : Bool × Mem} {c_58 : Int32 → Int32 → Mem → Option (Bool × Mem)} (hc_58 : ∀ (y3 : Int32) (y4 : Int32) (μ : Mem), c_58 y3 y4 μ = some q → J (GM true (QQ (some (vi (b2i q.1))) q.2) (some (.boolean)) y_Mo_reverse.name) true b_Mo_reverse R_12 6 (1) 0 0 58 [(0, vr 12 (0)), (3, vi (y3)), (4, vi (y4))] [] μ) (y3 : Int32) (y4 : Int32) (μ : Mem) (h : mj_Mo_reverse_154 a1 a2 c_58 y3 y4 μ = some q) : J (GM true (QQ (some (vi (b2i q.1))) q.2) (some (.boolean)) y_Mo_reverse.name) true b_Mo_reverse R_12 6 (1) 0 0 154 [(0, vr 12 (0)), (3, vi (y3)), (4, vi (y4))] [] μ := by
  unfold mj_Mo_reverse_154 at h
  obtain ⟨x15, hx15, h⟩ := ap_eq h
  refine J_iinc (q := 157) (v := x15) (lv' := [(3, vi (x15)), (0, vr 12 (0)), (4, vi (y4))]) 1 d_Mo_reverse_154 rfl (by rw [hx15]; rfl) (by decide) rfl rfl ?_
  obtain ⟨x16, hx16, h⟩ := ap_eq h
  refine J_iinc (q := 160) (v := x16) (lv' := [(4, vi (x16)), (3, vi (x15)), (0, vr 12 (0))]) 2 d_Mo_reverse_157 rfl (by rw [hx16]; rfl) (by decide) rfl rfl ?_
  refine J_goto (q := 58) d_Mo_reverse_160 (by decide) ?_
  refine J_pick [2, 1, 0] rfl ?_
  exact hc_58 _ _ _ h
def lp_Mo_reverse_58 (a1 : Int32) (a2 : Int32) : Nat → Int32 → Int32 → Mem → Option (Bool × Mem)
  | 0, _, _, _ => none
  | n + 1, y3, y4, μ =>
  if y4 ≤ y3 then
 (some ((true, μ)))
 else
 (Option.bind (m_Mo_swap 347 (0) 3200 0 (y3) (y4) μ) fun r17 =>
  Option.bind (m_Mo_swap 348 (0) 3200 0 (y3) (y4) r17) fun r18 =>
  Option.bind (m_Mo_swap 349 (0) 3200 0 (y3) (y4) r18) fun r19 =>
  lp_Mo_reverse_100 a1 a2 (mj_Mo_reverse_154 a1 a2 (lp_Mo_reverse_58 a1 a2 n)) FU (y3) (y4) ((0 : Int32)) r19)
theorem tl_Mo_reverse_58 (a1 : Int32) (a2 : Int32) {q : Bool × Mem}  : ∀ (n : Nat) (y3 : Int32) (y4 : Int32) (μ : Mem), lp_Mo_reverse_58 a1 a2 n y3 y4 μ = some q → J (GM true (QQ (some (vi (b2i q.1))) q.2) (some (.boolean)) y_Mo_reverse.name) true b_Mo_reverse R_12 6 (1) 0 0 58 [(0, vr 12 (0)), (3, vi (y3)), (4, vi (y4))] [] μ := by
  intro n
  induction n with
  | zero => intro _ _ _ h; cases h
  | succ n ih =>
    intro y3 y4 μ h
    unfold lp_Mo_reverse_58 at h
    refine J_iload_n (q := 59) 1 d_Mo_reverse_58 rfl rfl rfl ?_
    refine J_iload (q := 61) 2 d_Mo_reverse_59 rfl rfl ?_
    refine J_icmp_ge (q := 64) (tgt := 163) d_Mo_reverse_61 (by decide) rfl (fun hc => ?_) (fun hc => ?_)
    · rw [if_pos hc] at h
      refine J_iconst (q := 164) (v := (1 : Int32)) d_Mo_reverse_163 (by decide) rfl ?_
      obtain rfl := Option.some.inj h
      exact J_zret (Or.inr rfl) rfl ⟨rfl, rfl⟩ d_Mo_reverse_164
    · rw [if_neg hc] at h
      refine J_aload_n (q := 65) 0 d_Mo_reverse_64 rfl rfl rfl ?_
      refine J_aload_n (q := 66) 0 d_Mo_reverse_65 rfl rfl rfl ?_
      refine J_getF (q := 69) cd_12 (by decide) ft_12_7 rfl g_1058 rfl d_Mo_reverse_66 rfl ?_
      refine J_iload_n (q := 70) 1 d_Mo_reverse_69 rfl rfl rfl ?_
      refine J_iload (q := 72) 2 d_Mo_reverse_70 rfl rfl ?_
      obtain ⟨r17, hr17, h⟩ := bd_some h
      refine J_callVv (rc := 0) (rs := 0) (q := 75) (as := [vr 347 (0), vi (y3), vi (y4)]) (st := []) (by decide) rfl g_1330 sel_Mo_swap (t_Mo_swap rk_347 (by decide) hr17) (by decide) (by decide) g_1328 g_1331 g_10 hy_Mo_swap rfl (Nat.le_of_ble_eq_true rfl) d_Mo_reverse_72 rfl ?_
      refine J_aload_n (q := 76) 0 d_Mo_reverse_75 rfl rfl rfl ?_
      refine J_aload_n (q := 77) 0 d_Mo_reverse_76 rfl rfl rfl ?_
      refine J_getF (q := 80) cd_12 (by decide) ft_12_8 rfl g_1059 rfl d_Mo_reverse_77 rfl ?_
      refine J_iload_n (q := 81) 1 d_Mo_reverse_80 rfl rfl rfl ?_
      refine J_iload (q := 83) 2 d_Mo_reverse_81 rfl rfl ?_
      obtain ⟨r18, hr18, h⟩ := bd_some h
      refine J_callVv (rc := 0) (rs := 0) (q := 86) (as := [vr 348 (0), vi (y3), vi (y4)]) (st := []) (by decide) rfl g_1330 sel_Mo_swap (t_Mo_swap rk_348 (by decide) hr18) (by decide) (by decide) g_1328 g_1331 g_10 hy_Mo_swap rfl (Nat.le_of_ble_eq_true rfl) d_Mo_reverse_83 rfl ?_
      refine J_aload_n (q := 87) 0 d_Mo_reverse_86 rfl rfl rfl ?_
      refine J_aload_n (q := 88) 0 d_Mo_reverse_87 rfl rfl rfl ?_
      refine J_getF (q := 91) cd_12 (by decide) ft_12_9 rfl g_1060 rfl d_Mo_reverse_88 rfl ?_
      refine J_iload_n (q := 92) 1 d_Mo_reverse_91 rfl rfl rfl ?_
      refine J_iload (q := 94) 2 d_Mo_reverse_92 rfl rfl ?_
      obtain ⟨r19, hr19, h⟩ := bd_some h
      refine J_callVv (rc := 0) (rs := 0) (q := 97) (as := [vr 349 (0), vi (y3), vi (y4)]) (st := []) (by decide) rfl g_1330 sel_Mo_swap (t_Mo_swap rk_349 (by decide) hr19) (by decide) (by decide) g_1328 g_1331 g_10 hy_Mo_swap rfl (Nat.le_of_ble_eq_true rfl) d_Mo_reverse_94 rfl ?_
      refine J_iconst (q := 98) (v := (0 : Int32)) d_Mo_reverse_97 (by decide) rfl ?_
      refine J_istore (q := 100) (lv' := [(5, vi ((0 : Int32))), (0, vr 12 (0)), (3, vi (y3)), (4, vi (y4))]) d_Mo_reverse_98 (by decide) rfl rfl ?_
      refine J_pick [1, 2, 3, 0] rfl ?_
      exact tl_Mo_reverse_100 a1 a2 (fun _ _ _ h => tj_Mo_reverse_154 a1 a2 ih _ _ _ h) FU _ _ _ _ h
def m_Mo_reverse (a1 : Int32) (a2 : Int32) (μ : Mem) : Option (Bool × Mem) :=
  if (m_Mo_isLetter (a1) μ) then
 (if a2 < 0 then
 (some ((false, μ)))
 else
 (gu (a1) 32 <|
  if a2 < gI μ 343 (0) a1.toNatClampNeg then
 (Option.bind (m_Mo_beginOf (a1) (a2) μ) fun r2 =>
  ap ((((100 : Int32) * a1) + (r2)) + ((1 : Int32))) fun x3 =>
  gu (((8 : Int32) * a1) + (a2)) 256 <|
  ap ((((100 : Int32) * a1) + (gI μ 346 (0) (((8 : Int32) * a1) + (a2)).toNatClampNeg)) - ((1 : Int32))) fun x5 =>
  lp_Mo_reverse_58 a1 a2 FU (x3) (x5) μ)
 else
 (some ((false, μ)))))
 else
 (some ((false, μ)))
theorem t_Mo_reverse {a1 : Int32} {a2 : Int32} {μ : Mem} {q : Bool × Mem} (h : m_Mo_reverse a1 a2 μ = some q) : JM true (1) y_Mo_reverse b_Mo_reverse 6 (some (.boolean)) 0 0 [vr 12 (0), vi (a1), vi (a2)] μ (QQ (some (vi (b2i q.1))) q.2) := by
  unfold m_Mo_reverse at h
  refine JM.of pl_Mo_reverse (fun ρ => Nat.le_of_ble_eq_true rfl) ?_
  show J (GM true (QQ (some (vi (b2i q.1))) q.2) (some (.boolean)) y_Mo_reverse.name) true b_Mo_reverse R_12 6 (1) 0 0 0 [(0, vr 12 (0)), (1, vi (a1)), (2, vi (a2))] [] μ
  refine J_aload_n (q := 1) 0 d_Mo_reverse_0 rfl rfl rfl ?_
  refine J_iload_n (q := 2) 1 d_Mo_reverse_1 rfl rfl rfl ?_
  refine J_callVq (rc := 0) (rs := 0) (q := 5) (as := [vi (a1)]) (st := []) (by decide) rfl g_1287 sel_Mo_isLetter (t_Mo_isLetter rfl) (by decide) (by decide) g_1285 g_1288 g_10 hy_Mo_isLetter rfl (Nat.le_of_ble_eq_true rfl) d_Mo_reverse_2 rfl ?_
  refine J_ifB_eq (q := 8) (tgt := 22) d_Mo_reverse_5 (by decide) rfl (fun hb => ?_) (fun hb => ?_)
  · rw [iB_f hb] at h
    refine J_iconst (q := 23) (v := (0 : Int32)) d_Mo_reverse_22 (by decide) rfl ?_
    obtain rfl := Option.some.inj h
    exact J_zret (Or.inl rfl) rfl ⟨rfl, rfl⟩ d_Mo_reverse_23
  · rw [iB_t hb] at h
    refine J_iload_n (q := 9) 2 d_Mo_reverse_8 rfl rfl rfl ?_
    refine J_if_lt (q := 12) (tgt := 22) d_Mo_reverse_9 (by decide) rfl (fun hc => ?_) (fun hc => ?_)
    · rw [if_pos hc] at h
      refine J_iconst (q := 23) (v := (0 : Int32)) d_Mo_reverse_22 (by decide) rfl ?_
      obtain rfl := Option.some.inj h
      exact J_zret (Or.inl rfl) rfl ⟨rfl, rfl⟩ d_Mo_reverse_23
    · rw [if_neg hc] at h
      refine J_iload_n (q := 13) 2 d_Mo_reverse_12 rfl rfl rfl ?_
      refine J_aload_n (q := 14) 0 d_Mo_reverse_13 rfl rfl rfl ?_
      refine J_getF (q := 17) cd_12 (by decide) ft_12_3 rfl g_1054 rfl d_Mo_reverse_14 rfl ?_
      refine J_iload_n (q := 18) 1 d_Mo_reverse_17 rfl rfl rfl ?_
      obtain ⟨hi1, h⟩ := gu_some h
      refine J_iald (q := 19) rk_343 (by decide) hi1 d_Mo_reverse_18 rfl ?_
      refine J_icmp_lt (q := 22) (tgt := 24) d_Mo_reverse_19 (by decide) rfl (fun hc => ?_) (fun hc => ?_)
      · rw [if_pos hc] at h
        refine J_bipush (q := 26) (v := (100 : Int32)) d_Mo_reverse_24 (by decide) rfl ?_
        refine J_iload_n (q := 27) 1 d_Mo_reverse_26 rfl rfl rfl ?_
        refine J_imul (q := 28) d_Mo_reverse_27 rfl ?_
        refine J_aload_n (q := 29) 0 d_Mo_reverse_28 rfl rfl rfl ?_
        refine J_iload_n (q := 30) 1 d_Mo_reverse_29 rfl rfl rfl ?_
        refine J_iload_n (q := 31) 2 d_Mo_reverse_30 rfl rfl rfl ?_
        obtain ⟨r2, hr2, h⟩ := bd_some h
        refine J_callVq (rc := 0) (rs := 0) (q := 34) (as := [vi (a1), vi (a2)]) (st := [vi ((100 : Int32) * a1)]) (by decide) rfl g_1326 sel_Mo_beginOf (t_Mo_beginOf hr2) (by decide) (by decide) g_1324 g_1327 g_10 hy_Mo_beginOf rfl (Nat.le_of_ble_eq_true rfl) d_Mo_reverse_31 rfl ?_
        refine J_iadd (q := 35) d_Mo_reverse_34 rfl ?_
        refine J_iconst (q := 36) (v := (1 : Int32)) d_Mo_reverse_35 (by decide) rfl ?_
        refine J_iadd (q := 37) d_Mo_reverse_36 rfl ?_
        obtain ⟨x3, hx3, h⟩ := ap_eq h
        refine J_nmI hx3 ?_
        refine J_istore_n (q := 38) (lv' := [(3, vi (x3)), (0, vr 12 (0)), (1, vi (a1)), (2, vi (a2))]) d_Mo_reverse_37 rfl (by decide) rfl rfl ?_
        refine J_bipush (q := 40) (v := (100 : Int32)) d_Mo_reverse_38 (by decide) rfl ?_
        refine J_iload_n (q := 41) 2 d_Mo_reverse_40 rfl rfl rfl ?_
        refine J_imul (q := 42) d_Mo_reverse_41 rfl ?_
        refine J_aload_n (q := 43) 1 d_Mo_reverse_42 rfl rfl rfl ?_
        refine J_getF (q := 46) cd_12 (by decide) ft_12_6 rfl g_1057 rfl d_Mo_reverse_43 rfl ?_
        refine J_bipush (q := 48) (v := (8 : Int32)) d_Mo_reverse_46 (by decide) rfl ?_
        refine J_iload_n (q := 49) 2 d_Mo_reverse_48 rfl rfl rfl ?_
        refine J_imul (q := 50) d_Mo_reverse_49 rfl ?_
        refine J_iload_n (q := 51) 3 d_Mo_reverse_50 rfl rfl rfl ?_
        refine J_iadd (q := 52) d_Mo_reverse_51 rfl ?_
        obtain ⟨hi4, h⟩ := gu_some h
        refine J_iald (q := 53) rk_346 (by decide) hi4 d_Mo_reverse_52 rfl ?_
        refine J_iadd (q := 54) d_Mo_reverse_53 rfl ?_
        refine J_iconst (q := 55) (v := (1 : Int32)) d_Mo_reverse_54 (by decide) rfl ?_
        refine J_isub (q := 56) d_Mo_reverse_55 rfl ?_
        obtain ⟨x5, hx5, h⟩ := ap_eq h
        refine J_nmI hx5 ?_
        refine J_istore (q := 58) (lv' := [(4, vi (x5)), (3, vi (x3)), (0, vr 12 (0)), (1, vi (a1)), (2, vi (a2))]) d_Mo_reverse_56 (by decide) rfl rfl ?_
        refine J_pick [2, 1, 0] rfl ?_
        exact tl_Mo_reverse_58 a1 a2 FU _ _ _ h
      · rw [if_neg hc] at h
        refine J_iconst (q := 23) (v := (0 : Int32)) d_Mo_reverse_22 (by decide) rfl ?_
        obtain rfl := Option.some.inj h
        exact J_zret (Or.inl rfl) rfl ⟨rfl, rfl⟩ d_Mo_reverse_23
def mj_Mo_depth_106 (a1 : Int32) (c_18 : Int32 → Int32 → Mem → Option (Int32 × Mem)) (y2 : Int32) (y3 : Int32) (μ : Mem) : Option (Int32 × Mem) :=
  c_18 (y2) (y3) μ
theorem tj_Mo_depth_106 (a1 : Int32) {q : Int32 × Mem} {c_18 : Int32 → Int32 → Mem → Option (Int32 × Mem)} (hc_18 : ∀ (y2 : Int32) (y3 : Int32) (μ : Mem), c_18 y2 y3 μ = some q → J (GM true (QQ (some (vi q.1)) q.2) (some (.int)) y_Mo_depth.name) true b_Mo_depth R_12 5 (0) 0 0 18 [(0, vr 12 (0)), (2, vi (y2)), (3, vi (y3))] [] μ) (y2 : Int32) (y3 : Int32) (μ : Mem) (h : mj_Mo_depth_106 a1 c_18 y2 y3 μ = some q) : J (GM true (QQ (some (vi q.1)) q.2) (some (.int)) y_Mo_depth.name) true b_Mo_depth R_12 5 (0) 0 0 106 [(0, vr 12 (0)), (2, vi (y2)), (3, vi (y3))] [] μ := by
  unfold mj_Mo_depth_106 at h
  refine J_goto (q := 18) d_Mo_depth_106 (by decide) ?_
  refine J_pick [0, 1, 2] rfl ?_
  exact hc_18 _ _ _ h
def lp_Mo_depth_18 (a1 : Int32) : Nat → Int32 → Int32 → Mem → Option (Int32 × Mem)
  | 0, _, _, _ => none
  | n + 1, y2, y3, μ =>
  if y3 < 0 then
 (some ((y2, μ)))
 else
 (gu (y3) 8 <|
  gu (y3) 8 <|
  gu (gI μ 360 (0) y3.toNatClampNeg) 32 <|
  if gI μ 361 (0) y3.toNatClampNeg = gI μ 352 (0) (gI μ 360 (0) y3.toNatClampNeg).toNatClampNeg then
 (ap (y3 + (-1 : Int32)) fun x36 =>
  lp_Mo_depth_18 a1 n (y2) (x36) μ)
 else
 (gu (y3) 8 <|
  gu (y3) 8 <|
  gu ((((6 : Int32)) * (gI μ 360 (0) y3.toNatClampNeg)) + (gI μ 361 (0) y3.toNatClampNeg)) 192 <|
  ap (gI μ 353 (0) ((((6 : Int32)) * (gI μ 360 (0) y3.toNatClampNeg)) + (gI μ 361 (0) y3.toNatClampNeg)).toNatClampNeg) fun x27 =>
  gu (y3) 8 <|
  gu (y3) 8 <|
  ap (sI μ 361 (0) y3.toNatClampNeg ((gI μ 361 (0) y3.toNatClampNeg) + ((1 : Int32)))) fun μ30 =>
  ap (y3 + (1 : Int32)) fun x31 =>
  gu (x31) 8 <|
  ap (sI μ30 360 (0) x31.toNatClampNeg (x27)) fun μ33 =>
  gu (x31) 8 <|
  ap (sI μ33 361 (0) x31.toNatClampNeg ((0 : Int32))) fun μ35 =>
  if x31 ≤ y2 then
 (mj_Mo_depth_106 a1 (lp_Mo_depth_18 a1 n) (y2) (x31) μ35)
 else
 (mj_Mo_depth_106 a1 (lp_Mo_depth_18 a1 n) (x31) (x31) μ35)))
theorem tl_Mo_depth_18 (a1 : Int32) {q : Int32 × Mem}  : ∀ (n : Nat) (y2 : Int32) (y3 : Int32) (μ : Mem), lp_Mo_depth_18 a1 n y2 y3 μ = some q → J (GM true (QQ (some (vi q.1)) q.2) (some (.int)) y_Mo_depth.name) true b_Mo_depth R_12 5 (0) 0 0 18 [(0, vr 12 (0)), (2, vi (y2)), (3, vi (y3))] [] μ := by
  intro n
  induction n with
  | zero => intro _ _ _ h; cases h
  | succ n ih =>
    intro y2 y3 μ h
    unfold lp_Mo_depth_18 at h
    refine J_iload_n (q := 19) 2 d_Mo_depth_18 rfl rfl rfl ?_
    refine J_if_lt (q := 22) (tgt := 109) d_Mo_depth_19 (by decide) rfl (fun hc => ?_) (fun hc => ?_)
    · rw [if_pos hc] at h
      refine J_iload_n (q := 110) 1 d_Mo_depth_109 rfl rfl rfl ?_
      obtain rfl := Option.some.inj h
      exact J_iret rfl ⟨rfl, rfl⟩ d_Mo_depth_110
    · rw [if_neg hc] at h
      refine J_aload_n (q := 23) 0 d_Mo_depth_22 rfl rfl rfl ?_
      refine J_getF (q := 26) cd_12 (by decide) ft_12_21 rfl g_1072 rfl d_Mo_depth_23 rfl ?_
      refine J_iload_n (q := 27) 2 d_Mo_depth_26 rfl rfl rfl ?_
      obtain ⟨hi21, h⟩ := gu_some h
      refine J_iald (q := 28) rk_361 (by decide) hi21 d_Mo_depth_27 rfl ?_
      refine J_aload_n (q := 29) 0 d_Mo_depth_28 rfl rfl rfl ?_
      refine J_getF (q := 32) cd_12 (by decide) ft_12_12 rfl g_1063 rfl d_Mo_depth_29 rfl ?_
      refine J_aload_n (q := 33) 0 d_Mo_depth_32 rfl rfl rfl ?_
      refine J_getF (q := 36) cd_12 (by decide) ft_12_20 rfl g_1071 rfl d_Mo_depth_33 rfl ?_
      refine J_iload_n (q := 37) 2 d_Mo_depth_36 rfl rfl rfl ?_
      obtain ⟨hi22, h⟩ := gu_some h
      refine J_iald (q := 38) rk_360 (by decide) hi22 d_Mo_depth_37 rfl ?_
      obtain ⟨hi23, h⟩ := gu_some h
      refine J_iald (q := 39) rk_352 (by decide) hi23 d_Mo_depth_38 rfl ?_
      refine J_icmp_ne (q := 42) (tgt := 48) d_Mo_depth_39 (by decide) rfl (fun hc => ?_) (fun hc => ?_)
      · rw [if_neg hc] at h
        refine J_aload_n (q := 49) 0 d_Mo_depth_48 rfl rfl rfl ?_
        refine J_getF (q := 52) cd_12 (by decide) ft_12_13 rfl g_1064 rfl d_Mo_depth_49 rfl ?_
        refine J_bipush (q := 54) (v := (6 : Int32)) d_Mo_depth_52 (by decide) rfl ?_
        refine J_aload_n (q := 55) 0 d_Mo_depth_54 rfl rfl rfl ?_
        refine J_getF (q := 58) cd_12 (by decide) ft_12_20 rfl g_1071 rfl d_Mo_depth_55 rfl ?_
        refine J_iload_n (q := 59) 2 d_Mo_depth_58 rfl rfl rfl ?_
        obtain ⟨hi24, h⟩ := gu_some h
        refine J_iald (q := 60) rk_360 (by decide) hi24 d_Mo_depth_59 rfl ?_
        refine J_imul (q := 61) d_Mo_depth_60 rfl ?_
        refine J_aload_n (q := 62) 0 d_Mo_depth_61 rfl rfl rfl ?_
        refine J_getF (q := 65) cd_12 (by decide) ft_12_21 rfl g_1072 rfl d_Mo_depth_62 rfl ?_
        refine J_iload_n (q := 66) 2 d_Mo_depth_65 rfl rfl rfl ?_
        obtain ⟨hi25, h⟩ := gu_some h
        refine J_iald (q := 67) rk_361 (by decide) hi25 d_Mo_depth_66 rfl ?_
        refine J_iadd (q := 68) d_Mo_depth_67 rfl ?_
        obtain ⟨hi26, h⟩ := gu_some h
        refine J_iald (q := 69) rk_353 (by decide) hi26 d_Mo_depth_68 rfl ?_
        obtain ⟨x27, hx27, h⟩ := ap_eq h
        refine J_nmI hx27 ?_
        refine J_istore (q := 71) (lv' := [(4, vi (x27)), (0, vr 12 (0)), (2, vi (y2)), (3, vi (y3))]) d_Mo_depth_69 (by decide) rfl rfl ?_
        refine J_aload_n (q := 72) 1 d_Mo_depth_71 rfl rfl rfl ?_
        refine J_getF (q := 75) cd_12 (by decide) ft_12_21 rfl g_1072 rfl d_Mo_depth_72 rfl ?_
        refine J_iload_n (q := 76) 3 d_Mo_depth_75 rfl rfl rfl ?_
        refine J_dup2IR (q := 77) d_Mo_depth_76 rfl ?_
        obtain ⟨hi28, h⟩ := gu_some h
        refine J_iald (q := 78) rk_361 (by decide) hi28 d_Mo_depth_77 rfl ?_
        refine J_iconst (q := 79) (v := (1 : Int32)) d_Mo_depth_78 (by decide) rfl ?_
        refine J_iadd (q := 80) d_Mo_depth_79 rfl ?_
        obtain ⟨hi29, h⟩ := gu_some h
        refine J_iast (q := 81) rk_361 (by decide) hi29 d_Mo_depth_80 rfl ?_
        obtain ⟨μ30, hμ30, h⟩ := ap_eq h
        refine J_nmM hμ30 ?_
        obtain ⟨x31, hx31, h⟩ := ap_eq h
        refine J_iinc (q := 84) (v := x31) (lv' := [(3, vi (x31)), (4, vi (x27)), (0, vr 12 (0)), (2, vi (y2))]) 3 d_Mo_depth_81 rfl (by rw [hx31]; rfl) (by decide) rfl rfl ?_
        refine J_aload_n (q := 85) 2 d_Mo_depth_84 rfl rfl rfl ?_
        refine J_getF (q := 88) cd_12 (by decide) ft_12_20 rfl g_1071 rfl d_Mo_depth_85 rfl ?_
        refine J_iload_n (q := 89) 0 d_Mo_depth_88 rfl rfl rfl ?_
        refine J_iload (q := 91) 1 d_Mo_depth_89 rfl rfl ?_
        obtain ⟨hi32, h⟩ := gu_some h
        refine J_iast (q := 92) rk_360 (by decide) hi32 d_Mo_depth_91 rfl ?_
        obtain ⟨μ33, hμ33, h⟩ := ap_eq h
        refine J_nmM hμ33 ?_
        refine J_aload_n (q := 93) 2 d_Mo_depth_92 rfl rfl rfl ?_
        refine J_getF (q := 96) cd_12 (by decide) ft_12_21 rfl g_1072 rfl d_Mo_depth_93 rfl ?_
        refine J_iload_n (q := 97) 0 d_Mo_depth_96 rfl rfl rfl ?_
        refine J_iconst (q := 98) (v := (0 : Int32)) d_Mo_depth_97 (by decide) rfl ?_
        obtain ⟨hi34, h⟩ := gu_some h
        refine J_iast (q := 99) rk_361 (by decide) hi34 d_Mo_depth_98 rfl ?_
        obtain ⟨μ35, hμ35, h⟩ := ap_eq h
        refine J_nmM hμ35 ?_
        refine J_iload_n (q := 100) 0 d_Mo_depth_99 rfl rfl rfl ?_
        refine J_iload_n (q := 101) 3 d_Mo_depth_100 rfl rfl rfl ?_
        refine J_icmp_le (q := 104) (tgt := 106) d_Mo_depth_101 (by decide) rfl (fun hc => ?_) (fun hc => ?_)
        · rw [if_pos hc] at h
          refine J_pick [2, 3, 0] rfl ?_
          exact tj_Mo_depth_106 a1 ih _ _ _ h
        · rw [if_neg hc] at h
          refine J_iload_n (q := 105) 0 d_Mo_depth_104 rfl rfl rfl ?_
          refine J_istore_n (q := 106) (lv' := [(2, vi (x31)), (3, vi (x31)), (4, vi (x27)), (0, vr 12 (0))]) d_Mo_depth_105 rfl (by decide) rfl rfl ?_
          refine J_pick [3, 0, 1] rfl ?_
          exact tj_Mo_depth_106 a1 ih _ _ _ h
      · rw [if_pos hc] at h
        obtain ⟨x36, hx36, h⟩ := ap_eq h
        refine J_iinc (q := 45) (v := x36) (lv' := [(3, vi (x36)), (0, vr 12 (0)), (2, vi (y2))]) 2 d_Mo_depth_42 rfl (by rw [hx36]; rfl) (by decide) rfl rfl ?_
        refine J_goto (q := 18) d_Mo_depth_45 (by decide) ?_
        refine J_pick [1, 2, 0] rfl ?_
        exact ih _ _ _ h
def m_Mo_depth (a1 : Int32) (μ : Mem) : Option (Int32 × Mem) :=
  gu ((0 : Int32)) 8 <|
  ap (sI μ 360 (0) ((0 : Int32)).toNatClampNeg (a1)) fun μ2 =>
  gu ((0 : Int32)) 8 <|
  ap (sI μ2 361 (0) ((0 : Int32)).toNatClampNeg ((0 : Int32))) fun μ4 =>
  lp_Mo_depth_18 a1 FU ((0 : Int32)) ((0 : Int32)) μ4
theorem t_Mo_depth {a1 : Int32} {μ : Mem} {q : Int32 × Mem} (h : m_Mo_depth a1 μ = some q) : JM true (0) y_Mo_depth b_Mo_depth 5 (some (.int)) 0 0 [vr 12 (0), vi (a1)] μ (QQ (some (vi q.1)) q.2) := by
  unfold m_Mo_depth at h
  refine JM.of pl_Mo_depth (fun ρ => Nat.le_of_ble_eq_true rfl) ?_
  show J (GM true (QQ (some (vi q.1)) q.2) (some (.int)) y_Mo_depth.name) true b_Mo_depth R_12 5 (0) 0 0 0 [(0, vr 12 (0)), (1, vi (a1))] [] μ
  refine J_iconst (q := 1) (v := (0 : Int32)) d_Mo_depth_0 (by decide) rfl ?_
  refine J_istore_n (q := 2) (lv' := [(2, vi ((0 : Int32))), (0, vr 12 (0)), (1, vi (a1))]) d_Mo_depth_1 rfl (by decide) rfl rfl ?_
  refine J_iconst (q := 3) (v := (0 : Int32)) d_Mo_depth_2 (by decide) rfl ?_
  refine J_istore_n (q := 4) (lv' := [(3, vi ((0 : Int32))), (2, vi ((0 : Int32))), (0, vr 12 (0)), (1, vi (a1))]) d_Mo_depth_3 rfl (by decide) rfl rfl ?_
  refine J_aload_n (q := 5) 2 d_Mo_depth_4 rfl rfl rfl ?_
  refine J_getF (q := 8) cd_12 (by decide) ft_12_20 rfl g_1071 rfl d_Mo_depth_5 rfl ?_
  refine J_iconst (q := 9) (v := (0 : Int32)) d_Mo_depth_8 (by decide) rfl ?_
  refine J_iload_n (q := 10) 3 d_Mo_depth_9 rfl rfl rfl ?_
  obtain ⟨hi1, h⟩ := gu_some h
  refine J_iast (q := 11) rk_360 (by decide) hi1 d_Mo_depth_10 rfl ?_
  obtain ⟨μ2, hμ2, h⟩ := ap_eq h
  refine J_nmM hμ2 ?_
  refine J_aload_n (q := 12) 2 d_Mo_depth_11 rfl rfl rfl ?_
  refine J_getF (q := 15) cd_12 (by decide) ft_12_21 rfl g_1072 rfl d_Mo_depth_12 rfl ?_
  refine J_iconst (q := 16) (v := (0 : Int32)) d_Mo_depth_15 (by decide) rfl ?_
  refine J_iconst (q := 17) (v := (0 : Int32)) d_Mo_depth_16 (by decide) rfl ?_
  obtain ⟨hi3, h⟩ := gu_some h
  refine J_iast (q := 18) rk_361 (by decide) hi3 d_Mo_depth_17 rfl ?_
  obtain ⟨μ4, hμ4, h⟩ := ap_eq h
  refine J_nmM hμ4 ?_
  refine J_pick [2, 1, 0] rfl ?_
  exact tl_Mo_depth_18 a1 FU _ _ _ h
def lp_Mo_part_82 (a1 : Int32) (a2 : Int32) (a3 : Int32) (a4 : Int32) (c_119 : Int32 → Mem → Option (Int32 × Mem)) : Nat → Int32 → Int32 → Mem → Option (Int32 × Mem)
  | 0, _, _, _ => none
  | n + 1, y5, y6, μ =>
  gu (y5) 32 <|
  if gI μ 352 (0) y5.toNatClampNeg ≤ y6 then
 (c_119 (y5) μ)
 else
 (gu (((6 : Int32) * y5) + (y6)) 192 <|
  if gI μ 353 (0) (((6 : Int32) * y5) + (y6)).toNatClampNeg = a1 then
 (some (((-1 : Int32), μ)))
 else
 (ap (y6 + (1 : Int32)) fun x9 =>
  lp_Mo_part_82 a1 a2 a3 a4 c_119 n (y5) (x9) μ))
theorem tl_Mo_part_82 (a1 : Int32) (a2 : Int32) (a3 : Int32) (a4 : Int32) {q : Int32 × Mem} {c_119 : Int32 → Mem → Option (Int32 × Mem)} (hc_119 : ∀ (y5 : Int32) (μ : Mem), c_119 y5 μ = some q → J (GM true (QQ (some (vi q.1)) q.2) (some (.int)) y_Mo_part.name) true b_Mo_part R_12 7 (1) 0 0 119 [(0, vr 12 (0)), (1, vi (a1)), (2, vi (a2)), (3, vi (a3)), (4, vi (a4)), (5, vi (y5))] [] μ) : ∀ (n : Nat) (y5 : Int32) (y6 : Int32) (μ : Mem), lp_Mo_part_82 a1 a2 a3 a4 c_119 n y5 y6 μ = some q → J (GM true (QQ (some (vi q.1)) q.2) (some (.int)) y_Mo_part.name) true b_Mo_part R_12 7 (1) 0 0 82 [(0, vr 12 (0)), (1, vi (a1)), (2, vi (a2)), (3, vi (a3)), (4, vi (a4)), (5, vi (y5)), (6, vi (y6))] [] μ := by
  intro n
  induction n with
  | zero => intro _ _ _ h; cases h
  | succ n ih =>
    intro y5 y6 μ h
    unfold lp_Mo_part_82 at h
    refine J_iload (q := 84) 6 d_Mo_part_82 rfl rfl ?_
    refine J_aload_n (q := 85) 0 d_Mo_part_84 rfl rfl rfl ?_
    refine J_getF (q := 88) cd_12 (by decide) ft_12_12 rfl g_1063 rfl d_Mo_part_85 rfl ?_
    refine J_iload (q := 90) 5 d_Mo_part_88 rfl rfl ?_
    obtain ⟨hi7, h⟩ := gu_some h
    refine J_iald (q := 91) rk_352 (by decide) hi7 d_Mo_part_90 rfl ?_
    refine J_icmp_ge (q := 94) (tgt := 119) d_Mo_part_91 (by decide) rfl (fun hc => ?_) (fun hc => ?_)
    · rw [if_pos hc] at h
      refine J_pick [0, 1, 2, 3, 4, 5] rfl ?_
      exact hc_119 _ _ h
    · rw [if_neg hc] at h
      refine J_aload_n (q := 95) 0 d_Mo_part_94 rfl rfl rfl ?_
      refine J_getF (q := 98) cd_12 (by decide) ft_12_13 rfl g_1064 rfl d_Mo_part_95 rfl ?_
      refine J_bipush (q := 100) (v := (6 : Int32)) d_Mo_part_98 (by decide) rfl ?_
      refine J_iload (q := 102) 5 d_Mo_part_100 rfl rfl ?_
      refine J_imul (q := 103) d_Mo_part_102 rfl ?_
      refine J_iload (q := 105) 6 d_Mo_part_103 rfl rfl ?_
      refine J_iadd (q := 106) d_Mo_part_105 rfl ?_
      obtain ⟨hi8, h⟩ := gu_some h
      refine J_iald (q := 107) rk_353 (by decide) hi8 d_Mo_part_106 rfl ?_
      refine J_iload_n (q := 108) 1 d_Mo_part_107 rfl rfl rfl ?_
      refine J_icmp_ne (q := 111) (tgt := 113) d_Mo_part_108 (by decide) rfl (fun hc => ?_) (fun hc => ?_)
      · rw [if_neg hc] at h
        obtain ⟨x9, hx9, h⟩ := ap_eq h
        refine J_iinc (q := 116) (v := x9) (lv' := [(6, vi (x9)), (0, vr 12 (0)), (1, vi (a1)), (2, vi (a2)), (3, vi (a3)), (4, vi (a4)), (5, vi (y5))]) 6 d_Mo_part_113 rfl (by rw [hx9]; rfl) (by decide) rfl rfl ?_
        refine J_goto (q := 82) d_Mo_part_116 (by decide) ?_
        refine J_pick [1, 2, 3, 4, 5, 6, 0] rfl ?_
        exact ih _ _ _ h
      · rw [if_pos hc] at h
        refine J_iconst (q := 112) (v := (-1 : Int32)) d_Mo_part_111 (by decide) rfl ?_
        obtain rfl := Option.some.inj h
        exact J_iret rfl ⟨rfl, rfl⟩ d_Mo_part_112
def mj_Mo_part_119 (a1 : Int32) (a2 : Int32) (a3 : Int32) (a4 : Int32) (c_70 : Int32 → Mem → Option (Int32 × Mem)) (y5 : Int32) (μ : Mem) : Option (Int32 × Mem) :=
  ap (y5 + (1 : Int32)) fun x10 =>
  c_70 (x10) μ
theorem tj_Mo_part_119 (a1 : Int32) (a2 : Int32) (a3 : Int32) (a4 : Int32) {q : Int32 × Mem} {c_70 : Int32 → Mem → Option (Int32 × Mem)} (hc_70 : ∀ (y5 : Int32) (μ : Mem), c_70 y5 μ = some q → J (GM true (QQ (some (vi q.1)) q.2) (some (.int)) y_Mo_part.name) true b_Mo_part R_12 7 (1) 0 0 70 [(0, vr 12 (0)), (1, vi (a1)), (2, vi (a2)), (3, vi (a3)), (4, vi (a4)), (5, vi (y5))] [] μ) (y5 : Int32) (μ : Mem) (h : mj_Mo_part_119 a1 a2 a3 a4 c_70 y5 μ = some q) : J (GM true (QQ (some (vi q.1)) q.2) (some (.int)) y_Mo_part.name) true b_Mo_part R_12 7 (1) 0 0 119 [(0, vr 12 (0)), (1, vi (a1)), (2, vi (a2)), (3, vi (a3)), (4, vi (a4)), (5, vi (y5))] [] μ := by
  unfold mj_Mo_part_119 at h
  obtain ⟨x10, hx10, h⟩ := ap_eq h
  refine J_iinc (q := 122) (v := x10) (lv' := [(5, vi (x10)), (0, vr 12 (0)), (1, vi (a1)), (2, vi (a2)), (3, vi (a3)), (4, vi (a4))]) 5 d_Mo_part_119 rfl (by rw [hx10]; rfl) (by decide) rfl rfl ?_
  refine J_goto (q := 70) d_Mo_part_122 (by decide) ?_
  refine J_pick [1, 2, 3, 4, 5, 0] rfl ?_
  exact hc_70 _ _ h
def lp_Mo_part_70 (a1 : Int32) (a2 : Int32) (a3 : Int32) (a4 : Int32) (c_125 : Mem → Option (Int32 × Mem)) : Nat → Int32 → Mem → Option (Int32 × Mem)
  | 0, _, _ => none
  | n + 1, y5, μ =>
  if gI μ 12 (0) 0 ≤ y5 then
 (c_125 μ)
 else
 (lp_Mo_part_82 a1 a2 a3 a4 (mj_Mo_part_119 a1 a2 a3 a4 (lp_Mo_part_70 a1 a2 a3 a4 c_125 n)) FU (y5) ((0 : Int32)) μ)
theorem tl_Mo_part_70 (a1 : Int32) (a2 : Int32) (a3 : Int32) (a4 : Int32) {q : Int32 × Mem} {c_125 : Mem → Option (Int32 × Mem)} (hc_125 : ∀ (μ : Mem), c_125  μ = some q → J (GM true (QQ (some (vi q.1)) q.2) (some (.int)) y_Mo_part.name) true b_Mo_part R_12 7 (1) 0 0 125 [(0, vr 12 (0)), (1, vi (a1)), (2, vi (a2)), (3, vi (a3)), (4, vi (a4))] [] μ) : ∀ (n : Nat) (y5 : Int32) (μ : Mem), lp_Mo_part_70 a1 a2 a3 a4 c_125 n y5 μ = some q → J (GM true (QQ (some (vi q.1)) q.2) (some (.int)) y_Mo_part.name) true b_Mo_part R_12 7 (1) 0 0 70 [(0, vr 12 (0)), (1, vi (a1)), (2, vi (a2)), (3, vi (a3)), (4, vi (a4)), (5, vi (y5))] [] μ := by
  intro n
  induction n with
  | zero => intro _ _ h; cases h
  | succ n ih =>
    intro y5 μ h
    unfold lp_Mo_part_70 at h
    refine J_iload (q := 72) 5 d_Mo_part_70 rfl rfl ?_
    refine J_aload_n (q := 73) 0 d_Mo_part_72 rfl rfl rfl ?_
    refine J_getI (q := 76) (j := 0) cd_12 (by decide) (Or.inl rfl) g_1051 rfl d_Mo_part_73 rfl ?_
    refine J_icmp_ge (q := 79) (tgt := 125) d_Mo_part_76 (by decide) rfl (fun hc => ?_) (fun hc => ?_)
    · rw [if_pos hc] at h
      refine J_pick [0, 1, 2, 3, 4] rfl ?_
      exact hc_125 _ h
    · rw [if_neg hc] at h
      refine J_iconst (q := 80) (v := (0 : Int32)) d_Mo_part_79 (by decide) rfl ?_
      refine J_istore (q := 82) (lv' := [(6, vi ((0 : Int32))), (0, vr 12 (0)), (1, vi (a1)), (2, vi (a2)), (3, vi (a3)), (4, vi (a4)), (5, vi (y5))]) d_Mo_part_80 (by decide) rfl rfl ?_
      refine J_pick [1, 2, 3, 4, 5, 6, 0] rfl ?_
      exact tl_Mo_part_82 a1 a2 a3 a4 (fun _ _ h => tj_Mo_part_119 a1 a2 a3 a4 ih _ _ h) FU _ _ _ h
def mj_Mo_part_125 (a1 : Int32) (a2 : Int32) (a3 : Int32) (a4 : Int32) (μ : Mem) : Option (Int32 × Mem) :=
  Option.bind (m_Mo_depth (a2) μ) fun r11 =>
  ap (r11.2) fun μ12 =>
  ap (r11.1) fun x13 =>
  if x13 ≤ (3 : Int32) then
 (gu (a1) 32 <|
  ap (((6 : Int32) * a1) + (gI μ12 352 (0) a1.toNatClampNeg)) fun x15 =>
  gu (x15) 192 <|
  ap (sI μ12 353 (0) x15.toNatClampNeg (a2)) fun μ17 =>
  gu (x15) 192 <|
  ap (sI μ17 355 (0) x15.toNatClampNeg (a3)) fun μ19 =>
  gu (x15) 192 <|
  ap (sI μ19 356 (0) x15.toNatClampNeg (a4)) fun μ21 =>
  gu ((4 : Int32) * x15) 768 <|
  ap (sI μ21 354 (0) ((4 : Int32) * x15).toNatClampNeg ((16384 : Int32))) fun μ23 =>
  gu (((4 : Int32) * x15) + ((1 : Int32))) 768 <|
  ap (sI μ23 354 (0) (((4 : Int32) * x15) + ((1 : Int32))).toNatClampNeg ((0 : Int32))) fun μ25 =>
  gu (((4 : Int32) * x15) + ((2 : Int32))) 768 <|
  ap (sI μ25 354 (0) (((4 : Int32) * x15) + ((2 : Int32))).toNatClampNeg ((0 : Int32))) fun μ27 =>
  gu (((4 : Int32) * x15) + ((3 : Int32))) 768 <|
  ap (sI μ27 354 (0) (((4 : Int32) * x15) + ((3 : Int32))).toNatClampNeg ((16384 : Int32))) fun μ29 =>
  gu (a1) 32 <|
  gu (a1) 32 <|
  ap (sI μ29 352 (0) a1.toNatClampNeg ((gI μ29 352 (0) a1.toNatClampNeg) + ((1 : Int32)))) fun μ32 =>
  gu (a1) 32 <|
  some (((gI μ32 352 (0) a1.toNatClampNeg) - ((1 : Int32)), μ32)))
 else
 (some (((-1 : Int32), μ12)))
theorem tj_Mo_part_125 (a1 : Int32) (a2 : Int32) (a3 : Int32) (a4 : Int32) {q : Int32 × Mem}  (μ : Mem) (h : mj_Mo_part_125 a1 a2 a3 a4  μ = some q) : J (GM true (QQ (some (vi q.1)) q.2) (some (.int)) y_Mo_part.name) true b_Mo_part R_12 7 (1) 0 0 125 [(0, vr 12 (0)), (1, vi (a1)), (2, vi (a2)), (3, vi (a3)), (4, vi (a4))] [] μ := by
  unfold mj_Mo_part_125 at h
  refine J_aload_n (q := 126) 0 d_Mo_part_125 rfl rfl rfl ?_
  refine J_iload_n (q := 127) 2 d_Mo_part_126 rfl rfl rfl ?_
  obtain ⟨r11, hr11, h⟩ := bd_some h
  refine J_callVq (rc := 0) (rs := 0) (q := 130) (as := [vi (a2)]) (st := []) (by decide) rfl g_1338 sel_Mo_depth (t_Mo_depth hr11) (by decide) (by decide) g_1336 g_1339 g_10 hy_Mo_depth rfl (Nat.le_of_ble_eq_true rfl) d_Mo_part_127 rfl ?_
  obtain ⟨μ12, hμ12, h⟩ := ap_eq h
  refine J_nmM hμ12 ?_
  obtain ⟨x13, hx13, h⟩ := ap_eq h
  refine J_nmI hx13 ?_
  refine J_iconst (q := 131) (v := (3 : Int32)) d_Mo_part_130 (by decide) rfl ?_
  refine J_icmp_le (q := 134) (tgt := 136) d_Mo_part_131 (by decide) rfl (fun hc => ?_) (fun hc => ?_)
  · rw [if_pos hc] at h
    refine J_bipush (q := 138) (v := (6 : Int32)) d_Mo_part_136 (by decide) rfl ?_
    refine J_iload_n (q := 139) 1 d_Mo_part_138 rfl rfl rfl ?_
    refine J_imul (q := 140) d_Mo_part_139 rfl ?_
    refine J_aload_n (q := 141) 0 d_Mo_part_140 rfl rfl rfl ?_
    refine J_getF (q := 144) cd_12 (by decide) ft_12_12 rfl g_1063 rfl d_Mo_part_141 rfl ?_
    refine J_iload_n (q := 145) 1 d_Mo_part_144 rfl rfl rfl ?_
    obtain ⟨hi14, h⟩ := gu_some h
    refine J_iald (q := 146) rk_352 (by decide) hi14 d_Mo_part_145 rfl ?_
    refine J_iadd (q := 147) d_Mo_part_146 rfl ?_
    obtain ⟨x15, hx15, h⟩ := ap_eq h
    refine J_nmI hx15 ?_
    refine J_istore (q := 149) (lv' := [(5, vi (x15)), (0, vr 12 (0)), (1, vi (a1)), (2, vi (a2)), (3, vi (a3)), (4, vi (a4))]) d_Mo_part_147 (by decide) rfl rfl ?_
    refine J_aload_n (q := 150) 1 d_Mo_part_149 rfl rfl rfl ?_
    refine J_getF (q := 153) cd_12 (by decide) ft_12_13 rfl g_1064 rfl d_Mo_part_150 rfl ?_
    refine J_iload (q := 155) 0 d_Mo_part_153 rfl rfl ?_
    refine J_iload_n (q := 156) 3 d_Mo_part_155 rfl rfl rfl ?_
    obtain ⟨hi16, h⟩ := gu_some h
    refine J_iast (q := 157) rk_353 (by decide) hi16 d_Mo_part_156 rfl ?_
    obtain ⟨μ17, hμ17, h⟩ := ap_eq h
    refine J_nmM hμ17 ?_
    refine J_aload_n (q := 158) 1 d_Mo_part_157 rfl rfl rfl ?_
    refine J_getF (q := 161) cd_12 (by decide) ft_12_15 rfl g_1066 rfl d_Mo_part_158 rfl ?_
    refine J_iload (q := 163) 0 d_Mo_part_161 rfl rfl ?_
    refine J_iload_n (q := 164) 4 d_Mo_part_163 rfl rfl rfl ?_
    obtain ⟨hi18, h⟩ := gu_some h
    refine J_iast (q := 165) rk_355 (by decide) hi18 d_Mo_part_164 rfl ?_
    obtain ⟨μ19, hμ19, h⟩ := ap_eq h
    refine J_nmM hμ19 ?_
    refine J_aload_n (q := 166) 1 d_Mo_part_165 rfl rfl rfl ?_
    refine J_getF (q := 169) cd_12 (by decide) ft_12_16 rfl g_1067 rfl d_Mo_part_166 rfl ?_
    refine J_iload (q := 171) 0 d_Mo_part_169 rfl rfl ?_
    refine J_iload (q := 173) 5 d_Mo_part_171 rfl rfl ?_
    obtain ⟨hi20, h⟩ := gu_some h
    refine J_iast (q := 174) rk_356 (by decide) hi20 d_Mo_part_173 rfl ?_
    obtain ⟨μ21, hμ21, h⟩ := ap_eq h
    refine J_nmM hμ21 ?_
    refine J_aload_n (q := 175) 1 d_Mo_part_174 rfl rfl rfl ?_
    refine J_getF (q := 178) cd_12 (by decide) ft_12_14 rfl g_1065 rfl d_Mo_part_175 rfl ?_
    refine J_iconst (q := 179) (v := (4 : Int32)) d_Mo_part_178 (by decide) rfl ?_
    refine J_iload (q := 181) 0 d_Mo_part_179 rfl rfl ?_
    refine J_imul (q := 182) d_Mo_part_181 rfl ?_
    refine J_sipush (q := 185) (v := (16384 : Int32)) d_Mo_part_182 (by decide) rfl ?_
    obtain ⟨hi22, h⟩ := gu_some h
    refine J_iast (q := 186) rk_354 (by decide) hi22 d_Mo_part_185 rfl ?_
    obtain ⟨μ23, hμ23, h⟩ := ap_eq h
    refine J_nmM hμ23 ?_
    refine J_aload_n (q := 187) 1 d_Mo_part_186 rfl rfl rfl ?_
    refine J_getF (q := 190) cd_12 (by decide) ft_12_14 rfl g_1065 rfl d_Mo_part_187 rfl ?_
    refine J_iconst (q := 191) (v := (4 : Int32)) d_Mo_part_190 (by decide) rfl ?_
    refine J_iload (q := 193) 0 d_Mo_part_191 rfl rfl ?_
    refine J_imul (q := 194) d_Mo_part_193 rfl ?_
    refine J_iconst (q := 195) (v := (1 : Int32)) d_Mo_part_194 (by decide) rfl ?_
    refine J_iadd (q := 196) d_Mo_part_195 rfl ?_
    refine J_iconst (q := 197) (v := (0 : Int32)) d_Mo_part_196 (by decide) rfl ?_
    obtain ⟨hi24, h⟩ := gu_some h
    refine J_iast (q := 198) rk_354 (by decide) hi24 d_Mo_part_197 rfl ?_
    obtain ⟨μ25, hμ25, h⟩ := ap_eq h
    refine J_nmM hμ25 ?_
    refine J_aload_n (q := 199) 1 d_Mo_part_198 rfl rfl rfl ?_
    refine J_getF (q := 202) cd_12 (by decide) ft_12_14 rfl g_1065 rfl d_Mo_part_199 rfl ?_
    refine J_iconst (q := 203) (v := (4 : Int32)) d_Mo_part_202 (by decide) rfl ?_
    refine J_iload (q := 205) 0 d_Mo_part_203 rfl rfl ?_
    refine J_imul (q := 206) d_Mo_part_205 rfl ?_
    refine J_iconst (q := 207) (v := (2 : Int32)) d_Mo_part_206 (by decide) rfl ?_
    refine J_iadd (q := 208) d_Mo_part_207 rfl ?_
    refine J_iconst (q := 209) (v := (0 : Int32)) d_Mo_part_208 (by decide) rfl ?_
    obtain ⟨hi26, h⟩ := gu_some h
    refine J_iast (q := 210) rk_354 (by decide) hi26 d_Mo_part_209 rfl ?_
    obtain ⟨μ27, hμ27, h⟩ := ap_eq h
    refine J_nmM hμ27 ?_
    refine J_aload_n (q := 211) 1 d_Mo_part_210 rfl rfl rfl ?_
    refine J_getF (q := 214) cd_12 (by decide) ft_12_14 rfl g_1065 rfl d_Mo_part_211 rfl ?_
    refine J_iconst (q := 215) (v := (4 : Int32)) d_Mo_part_214 (by decide) rfl ?_
    refine J_iload (q := 217) 0 d_Mo_part_215 rfl rfl ?_
    refine J_imul (q := 218) d_Mo_part_217 rfl ?_
    refine J_iconst (q := 219) (v := (3 : Int32)) d_Mo_part_218 (by decide) rfl ?_
    refine J_iadd (q := 220) d_Mo_part_219 rfl ?_
    refine J_sipush (q := 223) (v := (16384 : Int32)) d_Mo_part_220 (by decide) rfl ?_
    obtain ⟨hi28, h⟩ := gu_some h
    refine J_iast (q := 224) rk_354 (by decide) hi28 d_Mo_part_223 rfl ?_
    obtain ⟨μ29, hμ29, h⟩ := ap_eq h
    refine J_nmM hμ29 ?_
    refine J_aload_n (q := 225) 1 d_Mo_part_224 rfl rfl rfl ?_
    refine J_getF (q := 228) cd_12 (by decide) ft_12_12 rfl g_1063 rfl d_Mo_part_225 rfl ?_
    refine J_iload_n (q := 229) 2 d_Mo_part_228 rfl rfl rfl ?_
    refine J_dup2IR (q := 230) d_Mo_part_229 rfl ?_
    obtain ⟨hi30, h⟩ := gu_some h
    refine J_iald (q := 231) rk_352 (by decide) hi30 d_Mo_part_230 rfl ?_
    refine J_iconst (q := 232) (v := (1 : Int32)) d_Mo_part_231 (by decide) rfl ?_
    refine J_iadd (q := 233) d_Mo_part_232 rfl ?_
    obtain ⟨hi31, h⟩ := gu_some h
    refine J_iast (q := 234) rk_352 (by decide) hi31 d_Mo_part_233 rfl ?_
    obtain ⟨μ32, hμ32, h⟩ := ap_eq h
    refine J_nmM hμ32 ?_
    refine J_aload_n (q := 235) 1 d_Mo_part_234 rfl rfl rfl ?_
    refine J_getF (q := 238) cd_12 (by decide) ft_12_12 rfl g_1063 rfl d_Mo_part_235 rfl ?_
    refine J_iload_n (q := 239) 2 d_Mo_part_238 rfl rfl rfl ?_
    obtain ⟨hi33, h⟩ := gu_some h
    refine J_iald (q := 240) rk_352 (by decide) hi33 d_Mo_part_239 rfl ?_
    refine J_iconst (q := 241) (v := (1 : Int32)) d_Mo_part_240 (by decide) rfl ?_
    refine J_isub (q := 242) d_Mo_part_241 rfl ?_
    obtain rfl := Option.some.inj h
    exact J_iret rfl ⟨rfl, rfl⟩ d_Mo_part_242
  · rw [if_neg hc] at h
    refine J_iconst (q := 135) (v := (-1 : Int32)) d_Mo_part_134 (by decide) rfl ?_
    obtain rfl := Option.some.inj h
    exact J_iret rfl ⟨rfl, rfl⟩ d_Mo_part_135
def m_Mo_part (a1 : Int32) (a2 : Int32) (a3 : Int32) (a4 : Int32) (μ : Mem) : Option (Int32 × Mem) :=
  if (m_Mo_isLetter (a1) μ) then
 (if (m_Mo_isLetter (a2) μ) then
 (gu (a1) 32 <|
  if 0 < gI μ 343 (0) a1.toNatClampNeg then
 (some (((-1 : Int32), μ)))
 else
 (gu (a1) 32 <|
  if gI μ 344 (0) a1.toNatClampNeg = 0 then
 (if a1 = a2 then
 (some (((-1 : Int32), μ)))
 else
 (if (m_Mo_isPlace (a3) μ) then
 (if (m_Mo_isPlace (a4) μ) then
 (gu (a1) 32 <|
  if gI μ 352 (0) a1.toNatClampNeg = (6 : Int32) then
 (some (((-1 : Int32), μ)))
 else
 (lp_Mo_part_70 a1 a2 a3 a4 (mj_Mo_part_125 a1 a2 a3 a4) FU ((0 : Int32)) μ))
 else
 (some (((-1 : Int32), μ))))
 else
 (some (((-1 : Int32), μ)))))
 else
 (some (((-1 : Int32), μ)))))
 else
 (some (((-1 : Int32), μ))))
 else
 (some (((-1 : Int32), μ)))
theorem t_Mo_part {a1 : Int32} {a2 : Int32} {a3 : Int32} {a4 : Int32} {μ : Mem} {q : Int32 × Mem} (h : m_Mo_part a1 a2 a3 a4 μ = some q) : JM true (1) y_Mo_part b_Mo_part 7 (some (.int)) 0 0 [vr 12 (0), vi (a1), vi (a2), vi (a3), vi (a4)] μ (QQ (some (vi q.1)) q.2) := by
  unfold m_Mo_part at h
  refine JM.of pl_Mo_part (fun ρ => Nat.le_of_ble_eq_true rfl) ?_
  show J (GM true (QQ (some (vi q.1)) q.2) (some (.int)) y_Mo_part.name) true b_Mo_part R_12 7 (1) 0 0 0 [(0, vr 12 (0)), (1, vi (a1)), (2, vi (a2)), (3, vi (a3)), (4, vi (a4))] [] μ
  refine J_aload_n (q := 1) 0 d_Mo_part_0 rfl rfl rfl ?_
  refine J_iload_n (q := 2) 1 d_Mo_part_1 rfl rfl rfl ?_
  refine J_callVq (rc := 0) (rs := 0) (q := 5) (as := [vi (a1)]) (st := []) (by decide) rfl g_1287 sel_Mo_isLetter (t_Mo_isLetter rfl) (by decide) (by decide) g_1285 g_1288 g_10 hy_Mo_isLetter rfl (Nat.le_of_ble_eq_true rfl) d_Mo_part_2 rfl ?_
  refine J_ifB_eq (q := 8) (tgt := 65) d_Mo_part_5 (by decide) rfl (fun hb => ?_) (fun hb => ?_)
  · rw [iB_f hb] at h
    refine J_iconst (q := 66) (v := (-1 : Int32)) d_Mo_part_65 (by decide) rfl ?_
    obtain rfl := Option.some.inj h
    exact J_iret rfl ⟨rfl, rfl⟩ d_Mo_part_66
  · rw [iB_t hb] at h
    refine J_aload_n (q := 9) 0 d_Mo_part_8 rfl rfl rfl ?_
    refine J_iload_n (q := 10) 2 d_Mo_part_9 rfl rfl rfl ?_
    refine J_callVq (rc := 0) (rs := 0) (q := 13) (as := [vi (a2)]) (st := []) (by decide) rfl g_1287 sel_Mo_isLetter (t_Mo_isLetter rfl) (by decide) (by decide) g_1285 g_1288 g_10 hy_Mo_isLetter rfl (Nat.le_of_ble_eq_true rfl) d_Mo_part_10 rfl ?_
    refine J_ifB_eq (q := 16) (tgt := 65) d_Mo_part_13 (by decide) rfl (fun hb => ?_) (fun hb => ?_)
    · rw [iB_f hb] at h
      refine J_iconst (q := 66) (v := (-1 : Int32)) d_Mo_part_65 (by decide) rfl ?_
      obtain rfl := Option.some.inj h
      exact J_iret rfl ⟨rfl, rfl⟩ d_Mo_part_66
    · rw [iB_t hb] at h
      refine J_aload_n (q := 17) 0 d_Mo_part_16 rfl rfl rfl ?_
      refine J_getF (q := 20) cd_12 (by decide) ft_12_3 rfl g_1054 rfl d_Mo_part_17 rfl ?_
      refine J_iload_n (q := 21) 1 d_Mo_part_20 rfl rfl rfl ?_
      obtain ⟨hi1, h⟩ := gu_some h
      refine J_iald (q := 22) rk_343 (by decide) hi1 d_Mo_part_21 rfl ?_
      refine J_if_gt (q := 25) (tgt := 65) d_Mo_part_22 (by decide) rfl (fun hc => ?_) (fun hc => ?_)
      · rw [if_pos hc] at h
        refine J_iconst (q := 66) (v := (-1 : Int32)) d_Mo_part_65 (by decide) rfl ?_
        obtain rfl := Option.some.inj h
        exact J_iret rfl ⟨rfl, rfl⟩ d_Mo_part_66
      · rw [if_neg hc] at h
        refine J_aload_n (q := 26) 0 d_Mo_part_25 rfl rfl rfl ?_
        refine J_getF (q := 29) cd_12 (by decide) ft_12_4 rfl g_1055 rfl d_Mo_part_26 rfl ?_
        refine J_iload_n (q := 30) 1 d_Mo_part_29 rfl rfl rfl ?_
        obtain ⟨hi2, h⟩ := gu_some h
        refine J_zald (q := 31) rk_344 (by decide) hi2 d_Mo_part_30 rfl ?_
        refine J_if_ne (q := 34) (tgt := 65) d_Mo_part_31 (by decide) rfl (fun hc => ?_) (fun hc => ?_)
        · rw [if_neg hc] at h
          refine J_iconst (q := 66) (v := (-1 : Int32)) d_Mo_part_65 (by decide) rfl ?_
          obtain rfl := Option.some.inj h
          exact J_iret rfl ⟨rfl, rfl⟩ d_Mo_part_66
        · rw [if_pos hc] at h
          refine J_iload_n (q := 35) 1 d_Mo_part_34 rfl rfl rfl ?_
          refine J_iload_n (q := 36) 2 d_Mo_part_35 rfl rfl rfl ?_
          refine J_icmp_eq (q := 39) (tgt := 65) d_Mo_part_36 (by decide) rfl (fun hc => ?_) (fun hc => ?_)
          · rw [if_pos hc] at h
            refine J_iconst (q := 66) (v := (-1 : Int32)) d_Mo_part_65 (by decide) rfl ?_
            obtain rfl := Option.some.inj h
            exact J_iret rfl ⟨rfl, rfl⟩ d_Mo_part_66
          · rw [if_neg hc] at h
            refine J_iload_n (q := 40) 3 d_Mo_part_39 rfl rfl rfl ?_
            refine J_callSq (rc := 0) (rs := 0) (q := 43) (as := [vi (a3)]) (st := []) g_1294 (t_Mo_isPlace rfl) (by decide) (by decide) g_1293 g_1295 g_10 hy_Mo_isPlace rfl (Nat.le_of_ble_eq_true rfl) d_Mo_part_40 rfl ?_
            refine J_ifB_eq (q := 46) (tgt := 65) d_Mo_part_43 (by decide) rfl (fun hb => ?_) (fun hb => ?_)
            · rw [iB_f hb] at h
              refine J_iconst (q := 66) (v := (-1 : Int32)) d_Mo_part_65 (by decide) rfl ?_
              obtain rfl := Option.some.inj h
              exact J_iret rfl ⟨rfl, rfl⟩ d_Mo_part_66
            · rw [iB_t hb] at h
              refine J_iload (q := 48) 4 d_Mo_part_46 rfl rfl ?_
              refine J_callSq (rc := 0) (rs := 0) (q := 51) (as := [vi (a4)]) (st := []) g_1294 (t_Mo_isPlace rfl) (by decide) (by decide) g_1293 g_1295 g_10 hy_Mo_isPlace rfl (Nat.le_of_ble_eq_true rfl) d_Mo_part_48 rfl ?_
              refine J_ifB_eq (q := 54) (tgt := 65) d_Mo_part_51 (by decide) rfl (fun hb => ?_) (fun hb => ?_)
              · rw [iB_f hb] at h
                refine J_iconst (q := 66) (v := (-1 : Int32)) d_Mo_part_65 (by decide) rfl ?_
                obtain rfl := Option.some.inj h
                exact J_iret rfl ⟨rfl, rfl⟩ d_Mo_part_66
              · rw [iB_t hb] at h
                refine J_aload_n (q := 55) 0 d_Mo_part_54 rfl rfl rfl ?_
                refine J_getF (q := 58) cd_12 (by decide) ft_12_12 rfl g_1063 rfl d_Mo_part_55 rfl ?_
                refine J_iload_n (q := 59) 1 d_Mo_part_58 rfl rfl rfl ?_
                obtain ⟨hi3, h⟩ := gu_some h
                refine J_iald (q := 60) rk_352 (by decide) hi3 d_Mo_part_59 rfl ?_
                refine J_bipush (q := 62) (v := (6 : Int32)) d_Mo_part_60 (by decide) rfl ?_
                refine J_icmp_ne (q := 65) (tgt := 67) d_Mo_part_62 (by decide) rfl (fun hc => ?_) (fun hc => ?_)
                · rw [if_neg hc] at h
                  refine J_iconst (q := 68) (v := (0 : Int32)) d_Mo_part_67 (by decide) rfl ?_
                  refine J_istore (q := 70) (lv' := [(5, vi ((0 : Int32))), (0, vr 12 (0)), (1, vi (a1)), (2, vi (a2)), (3, vi (a3)), (4, vi (a4))]) d_Mo_part_68 (by decide) rfl rfl ?_
                  refine J_pick [1, 2, 3, 4, 5, 0] rfl ?_
                  exact tl_Mo_part_70 a1 a2 a3 a4 (fun _ h => tj_Mo_part_125 a1 a2 a3 a4 _ h) FU _ _ h
                · rw [if_pos hc] at h
                  refine J_iconst (q := 66) (v := (-1 : Int32)) d_Mo_part_65 (by decide) rfl ?_
                  obtain rfl := Option.some.inj h
                  exact J_iret rfl ⟨rfl, rfl⟩ d_Mo_part_66
def m_Mo_isShort (a1 : Int32) (μ : Mem) : Bool :=
  if a1 < (-32768 : Int32) then
 (false)
 else
 (if (32767 : Int32) < a1 then
 (false)
 else
 (true))
theorem t_Mo_isShort {a1 : Int32} {μ : Mem} {q : Bool} (h : m_Mo_isShort a1 μ = q) : JM true (0) y_Mo_isShort b_Mo_isShort 1 (some (.boolean)) 0 0 [vi (a1)] μ (QQ (some (vi (b2i q))) μ) := by
  unfold m_Mo_isShort at h
  refine JM.of pl_Mo_isShort (fun ρ => Nat.le_of_ble_eq_true rfl) ?_
  show J (GM true (QQ (some (vi (b2i q))) μ) (some (.boolean)) y_Mo_isShort.name) true b_Mo_isShort R_12 1 (0) 0 0 0 [(0, vi (a1))] [] μ
  refine J_iload_n (q := 1) 0 d_Mo_isShort_0 rfl rfl rfl ?_
  refine J_sipush (q := 4) (v := (-32768 : Int32)) d_Mo_isShort_1 (by decide) rfl ?_
  refine J_icmp_lt (q := 7) (tgt := 18) d_Mo_isShort_4 (by decide) rfl (fun hc => ?_) (fun hc => ?_)
  · rw [if_pos hc] at h
    refine J_iconst (q := 19) (v := (0 : Int32)) d_Mo_isShort_18 (by decide) rfl ?_
    subst h
    exact J_zret (Or.inl rfl) rfl ⟨rfl, rfl⟩ d_Mo_isShort_19
  · rw [if_neg hc] at h
    refine J_iload_n (q := 8) 0 d_Mo_isShort_7 rfl rfl rfl ?_
    refine J_sipush (q := 11) (v := (32767 : Int32)) d_Mo_isShort_8 (by decide) rfl ?_
    refine J_icmp_gt (q := 14) (tgt := 18) d_Mo_isShort_11 (by decide) rfl (fun hc => ?_) (fun hc => ?_)
    · rw [if_pos hc] at h
      refine J_iconst (q := 19) (v := (0 : Int32)) d_Mo_isShort_18 (by decide) rfl ?_
      subst h
      exact J_zret (Or.inl rfl) rfl ⟨rfl, rfl⟩ d_Mo_isShort_19
    · rw [if_neg hc] at h
      refine J_iconst (q := 15) (v := (1 : Int32)) d_Mo_isShort_14 (by decide) rfl ?_
      refine J_goto (q := 19) d_Mo_isShort_15 (by decide) ?_
      subst h
      exact J_zret (Or.inr rfl) rfl ⟨rfl, rfl⟩ d_Mo_isShort_19
def m_Mo_matrix (a1 : Int32) (a2 : Int32) (a3 : Int32) (a4 : Int32) (a5 : Int32) (a6 : Int32) (μ : Mem) : Option (Bool × Mem) :=
  if (m_Mo_isLetter (a1) μ) then
 (if a2 < 0 then
 (some ((false, μ)))
 else
 (gu (a1) 32 <|
  if gI μ 352 (0) a1.toNatClampNeg ≤ a2 then
 (some ((false, μ)))
 else
 (if (m_Mo_isShort (a3) μ) then
 (if (m_Mo_isShort (a4) μ) then
 (if (m_Mo_isShort (a5) μ) then
 (if (m_Mo_isShort (a6) μ) then
 (ap (((4 : Int32)) * (((6 : Int32) * a1) + (a2))) fun x2 =>
  gu (x2) 768 <|
  ap (sI μ 354 (0) x2.toNatClampNeg (a3)) fun μ4 =>
  gu (x2 + (1 : Int32)) 768 <|
  ap (sI μ4 354 (0) (x2 + (1 : Int32)).toNatClampNeg (a4)) fun μ6 =>
  gu (x2 + (2 : Int32)) 768 <|
  ap (sI μ6 354 (0) (x2 + (2 : Int32)).toNatClampNeg (a5)) fun μ8 =>
  gu (x2 + (3 : Int32)) 768 <|
  ap (sI μ8 354 (0) (x2 + (3 : Int32)).toNatClampNeg (a6)) fun μ10 =>
  some ((true, μ10)))
 else
 (some ((false, μ))))
 else
 (some ((false, μ))))
 else
 (some ((false, μ))))
 else
 (some ((false, μ))))))
 else
 (some ((false, μ)))
theorem t_Mo_matrix {a1 : Int32} {a2 : Int32} {a3 : Int32} {a4 : Int32} {a5 : Int32} {a6 : Int32} {μ : Mem} {q : Bool × Mem} (h : m_Mo_matrix a1 a2 a3 a4 a5 a6 μ = some q) : JM true (1) y_Mo_matrix b_Mo_matrix 8 (some (.boolean)) 0 0 [vr 12 (0), vi (a1), vi (a2), vi (a3), vi (a4), vi (a5), vi (a6)] μ (QQ (some (vi (b2i q.1))) q.2) := by
  unfold m_Mo_matrix at h
  refine JM.of pl_Mo_matrix (fun ρ => Nat.le_of_ble_eq_true rfl) ?_
  show J (GM true (QQ (some (vi (b2i q.1))) q.2) (some (.boolean)) y_Mo_matrix.name) true b_Mo_matrix R_12 8 (1) 0 0 0 [(0, vr 12 (0)), (1, vi (a1)), (2, vi (a2)), (3, vi (a3)), (4, vi (a4)), (5, vi (a5)), (6, vi (a6))] [] μ
  refine J_aload_n (q := 1) 0 d_Mo_matrix_0 rfl rfl rfl ?_
  refine J_iload_n (q := 2) 1 d_Mo_matrix_1 rfl rfl rfl ?_
  refine J_callVq (rc := 0) (rs := 0) (q := 5) (as := [vi (a1)]) (st := []) (by decide) rfl g_1287 sel_Mo_isLetter (t_Mo_isLetter rfl) (by decide) (by decide) g_1285 g_1288 g_10 hy_Mo_isLetter rfl (Nat.le_of_ble_eq_true rfl) d_Mo_matrix_2 rfl ?_
  refine J_ifB_eq (q := 8) (tgt := 53) d_Mo_matrix_5 (by decide) rfl (fun hb => ?_) (fun hb => ?_)
  · rw [iB_f hb] at h
    refine J_iconst (q := 54) (v := (0 : Int32)) d_Mo_matrix_53 (by decide) rfl ?_
    obtain rfl := Option.some.inj h
    exact J_zret (Or.inl rfl) rfl ⟨rfl, rfl⟩ d_Mo_matrix_54
  · rw [iB_t hb] at h
    refine J_iload_n (q := 9) 2 d_Mo_matrix_8 rfl rfl rfl ?_
    refine J_if_lt (q := 12) (tgt := 53) d_Mo_matrix_9 (by decide) rfl (fun hc => ?_) (fun hc => ?_)
    · rw [if_pos hc] at h
      refine J_iconst (q := 54) (v := (0 : Int32)) d_Mo_matrix_53 (by decide) rfl ?_
      obtain rfl := Option.some.inj h
      exact J_zret (Or.inl rfl) rfl ⟨rfl, rfl⟩ d_Mo_matrix_54
    · rw [if_neg hc] at h
      refine J_iload_n (q := 13) 2 d_Mo_matrix_12 rfl rfl rfl ?_
      refine J_aload_n (q := 14) 0 d_Mo_matrix_13 rfl rfl rfl ?_
      refine J_getF (q := 17) cd_12 (by decide) ft_12_12 rfl g_1063 rfl d_Mo_matrix_14 rfl ?_
      refine J_iload_n (q := 18) 1 d_Mo_matrix_17 rfl rfl rfl ?_
      obtain ⟨hi1, h⟩ := gu_some h
      refine J_iald (q := 19) rk_352 (by decide) hi1 d_Mo_matrix_18 rfl ?_
      refine J_icmp_ge (q := 22) (tgt := 53) d_Mo_matrix_19 (by decide) rfl (fun hc => ?_) (fun hc => ?_)
      · rw [if_pos hc] at h
        refine J_iconst (q := 54) (v := (0 : Int32)) d_Mo_matrix_53 (by decide) rfl ?_
        obtain rfl := Option.some.inj h
        exact J_zret (Or.inl rfl) rfl ⟨rfl, rfl⟩ d_Mo_matrix_54
      · rw [if_neg hc] at h
        refine J_iload_n (q := 23) 3 d_Mo_matrix_22 rfl rfl rfl ?_
        refine J_callSq (rc := 0) (rs := 0) (q := 26) (as := [vi (a3)]) (st := []) g_1345 (t_Mo_isShort rfl) (by decide) (by decide) g_1344 g_1346 g_10 hy_Mo_isShort rfl (Nat.le_of_ble_eq_true rfl) d_Mo_matrix_23 rfl ?_
        refine J_ifB_eq (q := 29) (tgt := 53) d_Mo_matrix_26 (by decide) rfl (fun hb => ?_) (fun hb => ?_)
        · rw [iB_f hb] at h
          refine J_iconst (q := 54) (v := (0 : Int32)) d_Mo_matrix_53 (by decide) rfl ?_
          obtain rfl := Option.some.inj h
          exact J_zret (Or.inl rfl) rfl ⟨rfl, rfl⟩ d_Mo_matrix_54
        · rw [iB_t hb] at h
          refine J_iload (q := 31) 4 d_Mo_matrix_29 rfl rfl ?_
          refine J_callSq (rc := 0) (rs := 0) (q := 34) (as := [vi (a4)]) (st := []) g_1345 (t_Mo_isShort rfl) (by decide) (by decide) g_1344 g_1346 g_10 hy_Mo_isShort rfl (Nat.le_of_ble_eq_true rfl) d_Mo_matrix_31 rfl ?_
          refine J_ifB_eq (q := 37) (tgt := 53) d_Mo_matrix_34 (by decide) rfl (fun hb => ?_) (fun hb => ?_)
          · rw [iB_f hb] at h
            refine J_iconst (q := 54) (v := (0 : Int32)) d_Mo_matrix_53 (by decide) rfl ?_
            obtain rfl := Option.some.inj h
            exact J_zret (Or.inl rfl) rfl ⟨rfl, rfl⟩ d_Mo_matrix_54
          · rw [iB_t hb] at h
            refine J_iload (q := 39) 5 d_Mo_matrix_37 rfl rfl ?_
            refine J_callSq (rc := 0) (rs := 0) (q := 42) (as := [vi (a5)]) (st := []) g_1345 (t_Mo_isShort rfl) (by decide) (by decide) g_1344 g_1346 g_10 hy_Mo_isShort rfl (Nat.le_of_ble_eq_true rfl) d_Mo_matrix_39 rfl ?_
            refine J_ifB_eq (q := 45) (tgt := 53) d_Mo_matrix_42 (by decide) rfl (fun hb => ?_) (fun hb => ?_)
            · rw [iB_f hb] at h
              refine J_iconst (q := 54) (v := (0 : Int32)) d_Mo_matrix_53 (by decide) rfl ?_
              obtain rfl := Option.some.inj h
              exact J_zret (Or.inl rfl) rfl ⟨rfl, rfl⟩ d_Mo_matrix_54
            · rw [iB_t hb] at h
              refine J_iload (q := 47) 6 d_Mo_matrix_45 rfl rfl ?_
              refine J_callSq (rc := 0) (rs := 0) (q := 50) (as := [vi (a6)]) (st := []) g_1345 (t_Mo_isShort rfl) (by decide) (by decide) g_1344 g_1346 g_10 hy_Mo_isShort rfl (Nat.le_of_ble_eq_true rfl) d_Mo_matrix_47 rfl ?_
              refine J_ifB_ne (q := 53) (tgt := 55) d_Mo_matrix_50 (by decide) rfl (fun hb => ?_) (fun hb => ?_)
              · rw [iB_t hb] at h
                refine J_iconst (q := 56) (v := (4 : Int32)) d_Mo_matrix_55 (by decide) rfl ?_
                refine J_bipush (q := 58) (v := (6 : Int32)) d_Mo_matrix_56 (by decide) rfl ?_
                refine J_iload_n (q := 59) 1 d_Mo_matrix_58 rfl rfl rfl ?_
                refine J_imul (q := 60) d_Mo_matrix_59 rfl ?_
                refine J_iload_n (q := 61) 2 d_Mo_matrix_60 rfl rfl rfl ?_
                refine J_iadd (q := 62) d_Mo_matrix_61 rfl ?_
                refine J_imul (q := 63) d_Mo_matrix_62 rfl ?_
                obtain ⟨x2, hx2, h⟩ := ap_eq h
                refine J_nmI hx2 ?_
                refine J_istore (q := 65) (lv' := [(7, vi (x2)), (0, vr 12 (0)), (1, vi (a1)), (2, vi (a2)), (3, vi (a3)), (4, vi (a4)), (5, vi (a5)), (6, vi (a6))]) d_Mo_matrix_63 (by decide) rfl rfl ?_
                refine J_aload_n (q := 66) 1 d_Mo_matrix_65 rfl rfl rfl ?_
                refine J_getF (q := 69) cd_12 (by decide) ft_12_14 rfl g_1065 rfl d_Mo_matrix_66 rfl ?_
                refine J_iload (q := 71) 0 d_Mo_matrix_69 rfl rfl ?_
                refine J_iload_n (q := 72) 4 d_Mo_matrix_71 rfl rfl rfl ?_
                obtain ⟨hi3, h⟩ := gu_some h
                refine J_iast (q := 73) rk_354 (by decide) hi3 d_Mo_matrix_72 rfl ?_
                obtain ⟨μ4, hμ4, h⟩ := ap_eq h
                refine J_nmM hμ4 ?_
                refine J_aload_n (q := 74) 1 d_Mo_matrix_73 rfl rfl rfl ?_
                refine J_getF (q := 77) cd_12 (by decide) ft_12_14 rfl g_1065 rfl d_Mo_matrix_74 rfl ?_
                refine J_iload (q := 79) 0 d_Mo_matrix_77 rfl rfl ?_
                refine J_iconst (q := 80) (v := (1 : Int32)) d_Mo_matrix_79 (by decide) rfl ?_
                refine J_iadd (q := 81) d_Mo_matrix_80 rfl ?_
                refine J_iload (q := 83) 5 d_Mo_matrix_81 rfl rfl ?_
                obtain ⟨hi5, h⟩ := gu_some h
                refine J_iast (q := 84) rk_354 (by decide) hi5 d_Mo_matrix_83 rfl ?_
                obtain ⟨μ6, hμ6, h⟩ := ap_eq h
                refine J_nmM hμ6 ?_
                refine J_aload_n (q := 85) 1 d_Mo_matrix_84 rfl rfl rfl ?_
                refine J_getF (q := 88) cd_12 (by decide) ft_12_14 rfl g_1065 rfl d_Mo_matrix_85 rfl ?_
                refine J_iload (q := 90) 0 d_Mo_matrix_88 rfl rfl ?_
                refine J_iconst (q := 91) (v := (2 : Int32)) d_Mo_matrix_90 (by decide) rfl ?_
                refine J_iadd (q := 92) d_Mo_matrix_91 rfl ?_
                refine J_iload (q := 94) 6 d_Mo_matrix_92 rfl rfl ?_
                obtain ⟨hi7, h⟩ := gu_some h
                refine J_iast (q := 95) rk_354 (by decide) hi7 d_Mo_matrix_94 rfl ?_
                obtain ⟨μ8, hμ8, h⟩ := ap_eq h
                refine J_nmM hμ8 ?_
                refine J_aload_n (q := 96) 1 d_Mo_matrix_95 rfl rfl rfl ?_
                refine J_getF (q := 99) cd_12 (by decide) ft_12_14 rfl g_1065 rfl d_Mo_matrix_96 rfl ?_
                refine J_iload (q := 101) 0 d_Mo_matrix_99 rfl rfl ?_
                refine J_iconst (q := 102) (v := (3 : Int32)) d_Mo_matrix_101 (by decide) rfl ?_
                refine J_iadd (q := 103) d_Mo_matrix_102 rfl ?_
                refine J_iload (q := 105) 7 d_Mo_matrix_103 rfl rfl ?_
                obtain ⟨hi9, h⟩ := gu_some h
                refine J_iast (q := 106) rk_354 (by decide) hi9 d_Mo_matrix_105 rfl ?_
                obtain ⟨μ10, hμ10, h⟩ := ap_eq h
                refine J_nmM hμ10 ?_
                refine J_iconst (q := 107) (v := (1 : Int32)) d_Mo_matrix_106 (by decide) rfl ?_
                obtain rfl := Option.some.inj h
                exact J_zret (Or.inr rfl) rfl ⟨rfl, rfl⟩ d_Mo_matrix_107
              · rw [iB_f hb] at h
                refine J_iconst (q := 54) (v := (0 : Int32)) d_Mo_matrix_53 (by decide) rfl ?_
                obtain rfl := Option.some.inj h
                exact J_zret (Or.inl rfl) rfl ⟨rfl, rfl⟩ d_Mo_matrix_54
def m_Mo_info (a1 : Int32) (a2 : Int32) (μ : Mem) : Option (Int32 × Mem) :=
  if (m_Mo_isLetter (a1) μ) then
 (if a2 = (0 : Int32) then
 (gu (a1) 32 <|
  some ((gI μ 341 (0) a1.toNatClampNeg, μ)))
 else if a2 = (1 : Int32) then
 (gu (a1) 32 <|
  some ((gI μ 342 (0) a1.toNatClampNeg, μ)))
 else if a2 = (2 : Int32) then
 (gu (a1) 32 <|
  some ((gI μ 343 (0) a1.toNatClampNeg, μ)))
 else if a2 = (3 : Int32) then
 (Option.bind (m_Mo_closed (a1) μ) fun r4 =>
  some ((r4, μ)))
 else if a2 = (4 : Int32) then
 (gu (a1) 32 <|
  some ((gI μ 352 (0) a1.toNatClampNeg, μ)))
 else if a2 = (5 : Int32) then
 (Option.bind (m_Mo_depth (a1) μ) fun r6 =>
  ap (r6.2) fun μ7 =>
  ap (r6.1) fun x8 =>
  some ((x8, μ7)))
 else if a2 = (6 : Int32) then
 (gu (a1) 32 <|
  if gI μ 344 (0) a1.toNatClampNeg = 0 then
 (some (((-1 : Int32), μ)))
 else
 (gu (a1) 32 <|
  Option.bind (m_Mo_closed (a1) μ) fun r11 =>
  some (((gI μ 345 (0) a1.toNatClampNeg) - (r11), μ))))
 else if a2 = (7 : Int32) then
 (gu (a1) 32 <|
  some ((gI μ 357 (0) a1.toNatClampNeg, μ)))
 else (some (((-2 : Int32), μ))))
 else
 (some (((-2 : Int32), μ)))
theorem t_Mo_info {a1 : Int32} {a2 : Int32} {μ : Mem} {q : Int32 × Mem} (h : m_Mo_info a1 a2 μ = some q) : JM true (1) y_Mo_info b_Mo_info 3 (some (.int)) 0 0 [vr 12 (0), vi (a1), vi (a2)] μ (QQ (some (vi q.1)) q.2) := by
  unfold m_Mo_info at h
  refine JM.of pl_Mo_info (fun ρ => Nat.le_of_ble_eq_true rfl) ?_
  show J (GM true (QQ (some (vi q.1)) q.2) (some (.int)) y_Mo_info.name) true b_Mo_info R_12 3 (1) 0 0 0 [(0, vr 12 (0)), (1, vi (a1)), (2, vi (a2))] [] μ
  refine J_aload_n (q := 1) 0 d_Mo_info_0 rfl rfl rfl ?_
  refine J_iload_n (q := 2) 1 d_Mo_info_1 rfl rfl rfl ?_
  refine J_callVq (rc := 0) (rs := 0) (q := 5) (as := [vi (a1)]) (st := []) (by decide) rfl g_1287 sel_Mo_isLetter (t_Mo_isLetter rfl) (by decide) (by decide) g_1285 g_1288 g_10 hy_Mo_isLetter rfl (Nat.le_of_ble_eq_true rfl) d_Mo_info_2 rfl ?_
  refine J_ifB_ne (q := 8) (tgt := 11) d_Mo_info_5 (by decide) rfl (fun hb => ?_) (fun hb => ?_)
  · rw [iB_t hb] at h
    refine J_iload_n (q := 12) 2 d_Mo_info_11 rfl rfl rfl ?_
    by_cases hk0 : a2 = (0 : Int32)
    · rw [if_pos hk0] at h
      refine J_swIn (tgt := 60) d_Mo_info_12 (by rw [hk0]; decide) (by rw [hk0]; decide) (by rw [hk0]; rfl) (by decide) ?_
      refine J_aload_n (q := 61) 0 d_Mo_info_60 rfl rfl rfl ?_
      refine J_getF (q := 64) cd_12 (by decide) ft_12_1 rfl g_1052 rfl d_Mo_info_61 rfl ?_
      refine J_iload_n (q := 65) 1 d_Mo_info_64 rfl rfl rfl ?_
      obtain ⟨hi1, h⟩ := gu_some h
      refine J_iald (q := 66) rk_341 (by decide) hi1 d_Mo_info_65 rfl ?_
      obtain rfl := Option.some.inj h
      exact J_iret rfl ⟨rfl, rfl⟩ d_Mo_info_66
    rw [if_neg hk0] at h
    by_cases hk1 : a2 = (1 : Int32)
    · rw [if_pos hk1] at h
      refine J_swIn (tgt := 67) d_Mo_info_12 (by rw [hk1]; decide) (by rw [hk1]; decide) (by rw [hk1]; rfl) (by decide) ?_
      refine J_aload_n (q := 68) 0 d_Mo_info_67 rfl rfl rfl ?_
      refine J_getF (q := 71) cd_12 (by decide) ft_12_2 rfl g_1053 rfl d_Mo_info_68 rfl ?_
      refine J_iload_n (q := 72) 1 d_Mo_info_71 rfl rfl rfl ?_
      obtain ⟨hi2, h⟩ := gu_some h
      refine J_iald (q := 73) rk_342 (by decide) hi2 d_Mo_info_72 rfl ?_
      obtain rfl := Option.some.inj h
      exact J_iret rfl ⟨rfl, rfl⟩ d_Mo_info_73
    rw [if_neg hk1] at h
    by_cases hk2 : a2 = (2 : Int32)
    · rw [if_pos hk2] at h
      refine J_swIn (tgt := 74) d_Mo_info_12 (by rw [hk2]; decide) (by rw [hk2]; decide) (by rw [hk2]; rfl) (by decide) ?_
      refine J_aload_n (q := 75) 0 d_Mo_info_74 rfl rfl rfl ?_
      refine J_getF (q := 78) cd_12 (by decide) ft_12_3 rfl g_1054 rfl d_Mo_info_75 rfl ?_
      refine J_iload_n (q := 79) 1 d_Mo_info_78 rfl rfl rfl ?_
      obtain ⟨hi3, h⟩ := gu_some h
      refine J_iald (q := 80) rk_343 (by decide) hi3 d_Mo_info_79 rfl ?_
      obtain rfl := Option.some.inj h
      exact J_iret rfl ⟨rfl, rfl⟩ d_Mo_info_80
    rw [if_neg hk2] at h
    by_cases hk3 : a2 = (3 : Int32)
    · rw [if_pos hk3] at h
      refine J_swIn (tgt := 81) d_Mo_info_12 (by rw [hk3]; decide) (by rw [hk3]; decide) (by rw [hk3]; rfl) (by decide) ?_
      refine J_aload_n (q := 82) 0 d_Mo_info_81 rfl rfl rfl ?_
      refine J_iload_n (q := 83) 1 d_Mo_info_82 rfl rfl rfl ?_
      obtain ⟨r4, hr4, h⟩ := bd_some h
      refine J_callVq (rc := 0) (rs := 0) (q := 86) (as := [vi (a1)]) (st := []) (by decide) rfl g_1298 sel_Mo_closed (t_Mo_closed hr4) (by decide) (by decide) g_1296 g_1299 g_10 hy_Mo_closed rfl (Nat.le_of_ble_eq_true rfl) d_Mo_info_83 rfl ?_
      obtain rfl := Option.some.inj h
      exact J_iret rfl ⟨rfl, rfl⟩ d_Mo_info_86
    rw [if_neg hk3] at h
    by_cases hk4 : a2 = (4 : Int32)
    · rw [if_pos hk4] at h
      refine J_swIn (tgt := 87) d_Mo_info_12 (by rw [hk4]; decide) (by rw [hk4]; decide) (by rw [hk4]; rfl) (by decide) ?_
      refine J_aload_n (q := 88) 0 d_Mo_info_87 rfl rfl rfl ?_
      refine J_getF (q := 91) cd_12 (by decide) ft_12_12 rfl g_1063 rfl d_Mo_info_88 rfl ?_
      refine J_iload_n (q := 92) 1 d_Mo_info_91 rfl rfl rfl ?_
      obtain ⟨hi5, h⟩ := gu_some h
      refine J_iald (q := 93) rk_352 (by decide) hi5 d_Mo_info_92 rfl ?_
      obtain rfl := Option.some.inj h
      exact J_iret rfl ⟨rfl, rfl⟩ d_Mo_info_93
    rw [if_neg hk4] at h
    by_cases hk5 : a2 = (5 : Int32)
    · rw [if_pos hk5] at h
      refine J_swIn (tgt := 94) d_Mo_info_12 (by rw [hk5]; decide) (by rw [hk5]; decide) (by rw [hk5]; rfl) (by decide) ?_
      refine J_aload_n (q := 95) 0 d_Mo_info_94 rfl rfl rfl ?_
      refine J_iload_n (q := 96) 1 d_Mo_info_95 rfl rfl rfl ?_
      obtain ⟨r6, hr6, h⟩ := bd_some h
      refine J_callVq (rc := 0) (rs := 0) (q := 99) (as := [vi (a1)]) (st := []) (by decide) rfl g_1338 sel_Mo_depth (t_Mo_depth hr6) (by decide) (by decide) g_1336 g_1339 g_10 hy_Mo_depth rfl (Nat.le_of_ble_eq_true rfl) d_Mo_info_96 rfl ?_
      obtain ⟨μ7, hμ7, h⟩ := ap_eq h
      refine J_nmM hμ7 ?_
      obtain ⟨x8, hx8, h⟩ := ap_eq h
      refine J_nmI hx8 ?_
      obtain rfl := Option.some.inj h
      exact J_iret rfl ⟨rfl, rfl⟩ d_Mo_info_99
    rw [if_neg hk5] at h
    by_cases hk6 : a2 = (6 : Int32)
    · rw [if_pos hk6] at h
      refine J_swIn (tgt := 100) d_Mo_info_12 (by rw [hk6]; decide) (by rw [hk6]; decide) (by rw [hk6]; rfl) (by decide) ?_
      refine J_aload_n (q := 101) 0 d_Mo_info_100 rfl rfl rfl ?_
      refine J_getF (q := 104) cd_12 (by decide) ft_12_4 rfl g_1055 rfl d_Mo_info_101 rfl ?_
      refine J_iload_n (q := 105) 1 d_Mo_info_104 rfl rfl rfl ?_
      obtain ⟨hi9, h⟩ := gu_some h
      refine J_zald (q := 106) rk_344 (by decide) hi9 d_Mo_info_105 rfl ?_
      refine J_if_eq (q := 109) (tgt := 124) d_Mo_info_106 (by decide) rfl (fun hc => ?_) (fun hc => ?_)
      · rw [if_pos hc] at h
        refine J_iconst (q := 125) (v := (-1 : Int32)) d_Mo_info_124 (by decide) rfl ?_
        obtain rfl := Option.some.inj h
        exact J_iret rfl ⟨rfl, rfl⟩ d_Mo_info_125
      · rw [if_neg hc] at h
        refine J_aload_n (q := 110) 0 d_Mo_info_109 rfl rfl rfl ?_
        refine J_getF (q := 113) cd_12 (by decide) ft_12_5 rfl g_1056 rfl d_Mo_info_110 rfl ?_
        refine J_iload_n (q := 114) 1 d_Mo_info_113 rfl rfl rfl ?_
        obtain ⟨hi10, h⟩ := gu_some h
        refine J_iald (q := 115) rk_345 (by decide) hi10 d_Mo_info_114 rfl ?_
        refine J_aload_n (q := 116) 0 d_Mo_info_115 rfl rfl rfl ?_
        refine J_iload_n (q := 117) 1 d_Mo_info_116 rfl rfl rfl ?_
        obtain ⟨r11, hr11, h⟩ := bd_some h
        refine J_callVq (rc := 0) (rs := 0) (q := 120) (as := [vi (a1)]) (st := [vi (gI μ 345 (0) a1.toNatClampNeg)]) (by decide) rfl g_1298 sel_Mo_closed (t_Mo_closed hr11) (by decide) (by decide) g_1296 g_1299 g_10 hy_Mo_closed rfl (Nat.le_of_ble_eq_true rfl) d_Mo_info_117 rfl ?_
        refine J_isub (q := 121) d_Mo_info_120 rfl ?_
        refine J_goto (q := 125) d_Mo_info_121 (by decide) ?_
        obtain rfl := Option.some.inj h
        exact J_iret rfl ⟨rfl, rfl⟩ d_Mo_info_125
    rw [if_neg hk6] at h
    by_cases hk7 : a2 = (7 : Int32)
    · rw [if_pos hk7] at h
      refine J_swIn (tgt := 126) d_Mo_info_12 (by rw [hk7]; decide) (by rw [hk7]; decide) (by rw [hk7]; rfl) (by decide) ?_
      refine J_aload_n (q := 127) 0 d_Mo_info_126 rfl rfl rfl ?_
      refine J_getF (q := 130) cd_12 (by decide) ft_12_17 rfl g_1068 rfl d_Mo_info_127 rfl ?_
      refine J_iload_n (q := 131) 1 d_Mo_info_130 rfl rfl rfl ?_
      obtain ⟨hi12, h⟩ := gu_some h
      refine J_iald (q := 132) rk_357 (by decide) hi12 d_Mo_info_131 rfl ?_
      obtain rfl := Option.some.inj h
      exact J_iret rfl ⟨rfl, rfl⟩ d_Mo_info_132
    rw [if_neg hk7] at h
    refine J_swOut (tgt := 133) d_Mo_info_12 (by have e0 := lv_neT hk0 (a := 0) (by decide); have e1 := lv_neT hk1 (a := 1) (by decide); have e2 := lv_neT hk2 (a := 2) (by decide); have e3 := lv_neT hk3 (a := 3) (by decide); have e4 := lv_neT hk4 (a := 4) (by decide); have e5 := lv_neT hk5 (a := 5) (by decide); have e6 := lv_neT hk6 (a := 6) (by decide); have e7 := lv_neT hk7 (a := 7) (by decide); omega) (by decide) ?_
    refine J_bipush (q := 135) (v := (-2 : Int32)) d_Mo_info_133 (by decide) rfl ?_
    obtain rfl := Option.some.inj h
    exact J_iret rfl ⟨rfl, rfl⟩ d_Mo_info_135
  · rw [iB_f hb] at h
    refine J_bipush (q := 10) (v := (-2 : Int32)) d_Mo_info_8 (by decide) rfl ?_
    obtain rfl := Option.some.inj h
    exact J_iret rfl ⟨rfl, rfl⟩ d_Mo_info_10
def lp_Mo_at_79 (a1 : Int32) (a2 : Int32) (a3 : Int32) (μ : Mem) : Nat → Int32 → Option (Int32)
  | 0, _ => none
  | n + 1, y5 =>
  gu (((8 : Int32) * a1) + (y5)) 256 <|
  if a2 < gI μ 346 (0) (((8 : Int32) * a1) + (y5)).toNatClampNeg then
 (some (y5))
 else
 (ap (y5 + (1 : Int32)) fun x9 =>
  lp_Mo_at_79 a1 a2 a3 μ n (x9))
theorem tl_Mo_at_79 (a1 : Int32) (a2 : Int32) (a3 : Int32) (μ : Mem) {q : Int32}  : ∀ (n : Nat) (y5 : Int32), lp_Mo_at_79 a1 a2 a3 μ n y5 = some q → J (GM true (QQ (some (vi q)) μ) (some (.int)) y_Mo_at.name) true b_Mo_at R_12 6 (2) 0 0 79 [(0, vr 12 (0)), (1, vi (a1)), (2, vi (a2)), (5, vi (y5))] [] μ := by
  intro n
  induction n with
  | zero => intro _ h; cases h
  | succ n ih =>
    intro y5 h
    unfold lp_Mo_at_79 at h
    refine J_aload_n (q := 80) 0 d_Mo_at_79 rfl rfl rfl ?_
    refine J_getF (q := 83) cd_12 (by decide) ft_12_6 rfl g_1057 rfl d_Mo_at_80 rfl ?_
    refine J_bipush (q := 85) (v := (8 : Int32)) d_Mo_at_83 (by decide) rfl ?_
    refine J_iload_n (q := 86) 1 d_Mo_at_85 rfl rfl rfl ?_
    refine J_imul (q := 87) d_Mo_at_86 rfl ?_
    refine J_iload (q := 89) 3 d_Mo_at_87 rfl rfl ?_
    refine J_iadd (q := 90) d_Mo_at_89 rfl ?_
    obtain ⟨hi8, h⟩ := gu_some h
    refine J_iald (q := 91) rk_346 (by decide) hi8 d_Mo_at_90 rfl ?_
    refine J_iload_n (q := 92) 2 d_Mo_at_91 rfl rfl rfl ?_
    refine J_icmp_gt (q := 95) (tgt := 101) d_Mo_at_92 (by decide) rfl (fun hc => ?_) (fun hc => ?_)
    · rw [if_pos hc] at h
      refine J_iload (q := 103) 3 d_Mo_at_101 rfl rfl ?_
      obtain rfl := Option.some.inj h
      exact J_iret rfl ⟨rfl, rfl⟩ d_Mo_at_103
    · rw [if_neg hc] at h
      obtain ⟨x9, hx9, h⟩ := ap_eq h
      refine J_iinc (q := 98) (v := x9) (lv' := [(5, vi (x9)), (0, vr 12 (0)), (1, vi (a1)), (2, vi (a2))]) 3 d_Mo_at_95 rfl (by rw [hx9]; rfl) (by decide) rfl rfl ?_
      refine J_goto (q := 79) d_Mo_at_98 (by decide) ?_
      refine J_pick [1, 2, 3, 0] rfl ?_
      exact ih _ h
def m_Mo_at (a1 : Int32) (a2 : Int32) (a3 : Int32) (μ : Mem) : Option (Int32) :=
  Option.bind (m_Mo_isPoint (a1) (a2) μ) fun r1 =>
  if r1 then
 (ap (((100 : Int32) * a1) + (a2)) fun x2 =>
  if a3 = (0 : Int32) then
 (gu (x2) 3200 <|
  some (gI μ 347 (0) x2.toNatClampNeg))
 else if a3 = (1 : Int32) then
 (gu (x2) 3200 <|
  some (gI μ 348 (0) x2.toNatClampNeg))
 else if a3 = (2 : Int32) then
 (gu (x2) 3200 <|
  some (gI μ 349 (0) x2.toNatClampNeg))
 else if a3 = (3 : Int32) then
 (lp_Mo_at_79 a1 a2 a3 μ FU ((0 : Int32)))
 else (some ((-100000 : Int32))))
 else
 (some ((-100000 : Int32)))
theorem t_Mo_at {a1 : Int32} {a2 : Int32} {a3 : Int32} {μ : Mem} {q : Int32} (h : m_Mo_at a1 a2 a3 μ = some q) : JM true (2) y_Mo_at b_Mo_at 6 (some (.int)) 0 0 [vr 12 (0), vi (a1), vi (a2), vi (a3)] μ (QQ (some (vi q)) μ) := by
  unfold m_Mo_at at h
  refine JM.of pl_Mo_at (fun ρ => Nat.le_of_ble_eq_true rfl) ?_
  show J (GM true (QQ (some (vi q)) μ) (some (.int)) y_Mo_at.name) true b_Mo_at R_12 6 (2) 0 0 0 [(0, vr 12 (0)), (1, vi (a1)), (2, vi (a2)), (3, vi (a3))] [] μ
  refine J_aload_n (q := 1) 0 d_Mo_at_0 rfl rfl rfl ?_
  refine J_iload_n (q := 2) 1 d_Mo_at_1 rfl rfl rfl ?_
  refine J_iload_n (q := 3) 2 d_Mo_at_2 rfl rfl rfl ?_
  obtain ⟨r1, hr1, h⟩ := bd_some h
  refine J_callVq (rc := 0) (rs := 0) (q := 6) (as := [vi (a1), vi (a2)]) (st := []) (by decide) rfl g_1318 sel_Mo_isPoint (t_Mo_isPoint hr1) (by decide) (by decide) g_1316 g_1319 g_10 hy_Mo_isPoint rfl (Nat.le_of_ble_eq_true rfl) d_Mo_at_3 rfl ?_
  refine J_ifB_ne (q := 9) (tgt := 12) d_Mo_at_6 (by decide) rfl (fun hb => ?_) (fun hb => ?_)
  · rw [iB_t hb] at h
    refine J_bipush (q := 14) (v := (100 : Int32)) d_Mo_at_12 (by decide) rfl ?_
    refine J_iload_n (q := 15) 1 d_Mo_at_14 rfl rfl rfl ?_
    refine J_imul (q := 16) d_Mo_at_15 rfl ?_
    refine J_iload_n (q := 17) 2 d_Mo_at_16 rfl rfl rfl ?_
    refine J_iadd (q := 18) d_Mo_at_17 rfl ?_
    obtain ⟨x2, hx2, h⟩ := ap_eq h
    refine J_nmI hx2 ?_
    refine J_istore (q := 20) (lv' := [(4, vi (x2)), (0, vr 12 (0)), (1, vi (a1)), (2, vi (a2)), (3, vi (a3))]) d_Mo_at_18 (by decide) rfl rfl ?_
    refine J_iload_n (q := 21) 4 d_Mo_at_20 rfl rfl rfl ?_
    by_cases hk0 : a3 = (0 : Int32)
    · rw [if_pos hk0] at h
      refine J_swIn (tgt := 52) d_Mo_at_21 (by rw [hk0]; decide) (by rw [hk0]; decide) (by rw [hk0]; rfl) (by decide) ?_
      refine J_aload_n (q := 53) 1 d_Mo_at_52 rfl rfl rfl ?_
      refine J_getF (q := 56) cd_12 (by decide) ft_12_7 rfl g_1058 rfl d_Mo_at_53 rfl ?_
      refine J_iload (q := 58) 0 d_Mo_at_56 rfl rfl ?_
      obtain ⟨hi3, h⟩ := gu_some h
      refine J_iald (q := 59) rk_347 (by decide) hi3 d_Mo_at_58 rfl ?_
      obtain rfl := Option.some.inj h
      exact J_iret rfl ⟨rfl, rfl⟩ d_Mo_at_59
    rw [if_neg hk0] at h
    by_cases hk1 : a3 = (1 : Int32)
    · rw [if_pos hk1] at h
      refine J_swIn (tgt := 60) d_Mo_at_21 (by rw [hk1]; decide) (by rw [hk1]; decide) (by rw [hk1]; rfl) (by decide) ?_
      refine J_aload_n (q := 61) 1 d_Mo_at_60 rfl rfl rfl ?_
      refine J_getF (q := 64) cd_12 (by decide) ft_12_8 rfl g_1059 rfl d_Mo_at_61 rfl ?_
      refine J_iload (q := 66) 0 d_Mo_at_64 rfl rfl ?_
      obtain ⟨hi4, h⟩ := gu_some h
      refine J_iald (q := 67) rk_348 (by decide) hi4 d_Mo_at_66 rfl ?_
      obtain rfl := Option.some.inj h
      exact J_iret rfl ⟨rfl, rfl⟩ d_Mo_at_67
    rw [if_neg hk1] at h
    by_cases hk2 : a3 = (2 : Int32)
    · rw [if_pos hk2] at h
      refine J_swIn (tgt := 68) d_Mo_at_21 (by rw [hk2]; decide) (by rw [hk2]; decide) (by rw [hk2]; rfl) (by decide) ?_
      refine J_aload_n (q := 69) 1 d_Mo_at_68 rfl rfl rfl ?_
      refine J_getF (q := 72) cd_12 (by decide) ft_12_9 rfl g_1060 rfl d_Mo_at_69 rfl ?_
      refine J_iload (q := 74) 0 d_Mo_at_72 rfl rfl ?_
      obtain ⟨hi5, h⟩ := gu_some h
      refine J_iald (q := 75) rk_349 (by decide) hi5 d_Mo_at_74 rfl ?_
      obtain rfl := Option.some.inj h
      exact J_iret rfl ⟨rfl, rfl⟩ d_Mo_at_75
    rw [if_neg hk2] at h
    by_cases hk3 : a3 = (3 : Int32)
    · rw [if_pos hk3] at h
      refine J_swIn (tgt := 76) d_Mo_at_21 (by rw [hk3]; decide) (by rw [hk3]; decide) (by rw [hk3]; rfl) (by decide) ?_
      refine J_iconst (q := 77) (v := (0 : Int32)) d_Mo_at_76 (by decide) rfl ?_
      refine J_istore (q := 79) (lv' := [(5, vi ((0 : Int32))), (4, vi (x2)), (0, vr 12 (0)), (1, vi (a1)), (2, vi (a2)), (3, vi (a3))]) d_Mo_at_77 (by decide) rfl rfl ?_
      refine J_pick [2, 3, 4, 0] rfl ?_
      exact tl_Mo_at_79 a1 a2 a3 μ FU _ h
    rw [if_neg hk3] at h
    refine J_swOut (tgt := 104) d_Mo_at_21 (by have e0 := lv_neT hk0 (a := 0) (by decide); have e1 := lv_neT hk1 (a := 1) (by decide); have e2 := lv_neT hk2 (a := 2) (by decide); have e3 := lv_neT hk3 (a := 3) (by decide); omega) (by decide) ?_
    refine J_ldc (q := 106) d_Mo_at_104 g_1355 rfl ?_
    obtain rfl := Option.some.inj h
    exact J_iret rfl ⟨rfl, rfl⟩ d_Mo_at_106
  · rw [iB_f hb] at h
    refine J_ldc (q := 11) d_Mo_at_9 g_1355 rfl ?_
    obtain rfl := Option.some.inj h
    exact J_iret rfl ⟨rfl, rfl⟩ d_Mo_at_11
