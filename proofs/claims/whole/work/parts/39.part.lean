def m_Le_addPart (o : Nat) (a1 : Nat) (a2 : Int32) (a3 : Int32) (μ : Mem) : Option (Int32 × Mem) :=
  if gI μ 4 (o) 5 < (6 : Int32) then
 (gfr μ 6 (6 * o + (gI μ 4 (o) 5).toNatClampNeg) <|
  ap (nw μ 6 (6 * o + (gI μ 4 (o) 5).toNatClampNeg)) fun μ2 =>
  ap (m_Pa_init (6 * o + (gI μ 4 (o) 5).toNatClampNeg) (a1) (a2) (a3) μ2) fun r3 =>
  gu (gI μ 4 (o) 5) 6 <|
  ap (sR r3 184 (o) (gI μ 4 (o) 5).toNatClampNeg (some (6 * o + (gI μ 4 (o) 5).toNatClampNeg))) fun μ5 =>
  ap (sI μ5 4 (o) 5 ((gI μ5 4 (o) 5) + ((1 : Int32)))) fun μ6 =>
  ap (sI μ6 4 (a1) 6 ((1 : Int32))) fun μ7 =>
  ap (sI μ7 4 (o) 7 ((m_Ma_max (gI μ7 4 (o) 7) ((gI μ7 4 (a1) 7) + ((1 : Int32))) μ7))) fun μ8 =>
  some (((gI μ8 4 (o) 5) - ((1 : Int32)), μ8)))
 else
 (some (((-1 : Int32), μ)))
theorem t_Le_addPart {o : Nat} {a1 : Nat} {a2 : Int32} {a3 : Int32} {μ : Mem} {q : Int32 × Mem} (h : m_Le_addPart o a1 a2 a3 μ = some q) : JM true (2) y_Le_addPart b_Le_addPart 4 (some (.int)) 1 7 [vr 4 (o), vr 4 (a1), vi (a2), vi (a3)] μ (QQ (some (vi q.1)) q.2) := by
  unfold m_Le_addPart at h
  refine JM.of pl_Le_addPart (fun ρ => Nat.le_of_ble_eq_true rfl) ?_
  show J (GM true (QQ (some (vi q.1)) q.2) (some (.int)) y_Le_addPart.name) true b_Le_addPart R_4 4 (2) 1 7 0 [(0, vr 4 (o)), (1, vr 4 (a1)), (2, vi (a2)), (3, vi (a3))] [] μ
  refine J_aload_n (q := 1) 0 d_Le_addPart_0 rfl rfl rfl ?_
  refine J_getI (q := 4) (j := 5) cd_4 (by decide) (Or.inl rfl) g_397 rfl d_Le_addPart_1 rfl ?_
  refine J_bipush (q := 6) (v := (6 : Int32)) d_Le_addPart_4 (by decide) rfl ?_
  refine J_icmp_lt (q := 9) (tgt := 11) d_Le_addPart_6 (by decide) rfl (fun hc => ?_) (fun hc => ?_)
  · rw [if_pos hc] at h
    refine J_aload_n (q := 12) 0 d_Le_addPart_11 rfl rfl rfl ?_
    refine J_getF (q := 15) cd_4 (by decide) ft_4_4 rfl g_395 rfl d_Le_addPart_12 rfl ?_
    refine J_aload_n (q := 16) 0 d_Le_addPart_15 rfl rfl rfl ?_
    refine J_getI (q := 19) (j := 5) cd_4 (by decide) (Or.inl rfl) g_397 rfl d_Le_addPart_16 rfl ?_
    obtain ⟨hf1, h⟩ := gfr_some h
    refine J_off (fun hLk => ?_)
    refine J_new (rc := 0) (rs := 0) (q := 22) (l := 6 * o + (gI μ 4 (o) 5).toNatClampNeg) cd_6 rfl tyok_6 dvok_6 hf1 g_384 g_532 g_14 d_Le_addPart_19 rfl ?_
    obtain ⟨μ2, hμ2, h⟩ := ap_eq h
    refine J_nmM hμ2 ?_
    refine J_dupR (q := 23) d_Le_addPart_22 rfl ?_
    refine J_aload_n (q := 24) 1 d_Le_addPart_23 rfl rfl rfl ?_
    refine J_iload_n (q := 25) 2 d_Le_addPart_24 rfl rfl rfl ?_
    refine J_iload_n (q := 26) 3 d_Le_addPart_25 rfl rfl rfl ?_
    obtain ⟨r3, hr3, h⟩ := ap_eq h
    refine J_callIv (rc := 0) (rs := 0) (q := 29) (as := [vr 4 (a1), vi (a2), vi (a3)]) (st := [vr 6 (6 * o + (gI μ 4 (o) 5).toNatClampNeg), vi (gI μ 4 (o) 5), vr 184 (o)]) (by decide) g_534 rfl (t_Pa_init hr3.symm) (by decide) (by decide) g_533 g_535 g_14 hy_Pa_init rfl (Nat.le_of_ble_eq_true rfl) d_Le_addPart_26 rfl ?_
    refine J_on (lk_Pa_init hLk hμ2 hr3.symm) ?_
    obtain ⟨hi4, h⟩ := gu_some h
    refine J_ast5 (q := 30) (by decide) rfl rk_184 (by decide) hi4 d_Le_addPart_29 rfl ?_
    obtain ⟨μ5, hμ5, h⟩ := ap_eq h
    refine J_nmM hμ5 ?_
    refine J_aload_n (q := 31) 0 d_Le_addPart_30 rfl rfl rfl ?_
    refine J_dupR (q := 32) d_Le_addPart_31 rfl ?_
    refine J_getI (q := 35) (j := 5) cd_4 (by decide) (Or.inl rfl) g_397 rfl d_Le_addPart_32 rfl ?_
    refine J_iconst (q := 36) (v := (1 : Int32)) d_Le_addPart_35 (by decide) rfl ?_
    refine J_iadd (q := 37) d_Le_addPart_36 rfl ?_
    refine J_putI (q := 40) (j := 5) cd_4 (by decide) rfl rfl rfl g_397 rfl d_Le_addPart_37 rfl ?_
    obtain ⟨μ6, hμ6, h⟩ := ap_eq h
    refine J_nmM hμ6 ?_
    refine J_aload_n (q := 41) 1 d_Le_addPart_40 rfl rfl rfl ?_
    refine J_iconst (q := 42) (v := (1 : Int32)) d_Le_addPart_41 (by decide) rfl ?_
    refine J_putZ (q := 45) (j := 6) cd_4 (by decide) rfl rfl (Or.inr rfl) rfl g_400 rfl d_Le_addPart_42 rfl ?_
    obtain ⟨μ7, hμ7, h⟩ := ap_eq h
    refine J_nmM hμ7 ?_
    refine J_aload_n (q := 46) 0 d_Le_addPart_45 rfl rfl rfl ?_
    refine J_aload_n (q := 47) 0 d_Le_addPart_46 rfl rfl rfl ?_
    refine J_getI (q := 50) (j := 7) cd_4 (by decide) (Or.inl rfl) g_402 rfl d_Le_addPart_47 rfl ?_
    refine J_aload_n (q := 51) 1 d_Le_addPart_50 rfl rfl rfl ?_
    refine J_getI (q := 54) (j := 7) cd_4 (by decide) (Or.inl rfl) g_402 rfl d_Le_addPart_51 rfl ?_
    refine J_iconst (q := 55) (v := (1 : Int32)) d_Le_addPart_54 (by decide) rfl ?_
    refine J_iadd (q := 56) d_Le_addPart_55 rfl ?_
    refine J_callSq (rc := 0) (rs := 0) (q := 59) (as := [vi (gI μ7 4 (o) 7), vi ((gI μ7 4 (a1) 7) + ((1 : Int32)))]) (st := [vr 4 (o)]) g_561 (t_Ma_max rfl) (by decide) (by decide) g_560 g_562 g_15 hy_Ma_max rfl (Nat.le_of_ble_eq_true rfl) d_Le_addPart_56 rfl ?_
    refine J_putI (q := 62) (j := 7) cd_4 (by decide) rfl rfl rfl g_402 rfl d_Le_addPart_59 rfl ?_
    obtain ⟨μ8, hμ8, h⟩ := ap_eq h
    refine J_nmM hμ8 ?_
    refine J_aload_n (q := 63) 0 d_Le_addPart_62 rfl rfl rfl ?_
    refine J_getI (q := 66) (j := 5) cd_4 (by decide) (Or.inl rfl) g_397 rfl d_Le_addPart_63 rfl ?_
    refine J_iconst (q := 67) (v := (1 : Int32)) d_Le_addPart_66 (by decide) rfl ?_
    refine J_isub (q := 68) d_Le_addPart_67 rfl ?_
    obtain rfl := Option.some.inj h
    exact J_iret rfl ⟨rfl, rfl⟩ d_Le_addPart_68
  · rw [if_neg hc] at h
    refine J_iconst (q := 10) (v := (-1 : Int32)) d_Le_addPart_9 (by decide) rfl ?_
    obtain rfl := Option.some.inj h
    exact J_iret rfl ⟨rfl, rfl⟩ d_Le_addPart_10
def m_Fo_letter (a1 : Int32) (a2 : Int32) (μ : Mem) : Option (Int32 × Mem) :=
  if (m_Fo_isCode (a1) μ) then
 (if (m_Fo_within ((a2).toInt64) ((0 : Int64)) ((32000 : Int64)) μ) then
 (if gI μ 11 (0) 1 < (32 : Int32) then
 (Option.bind (m_Fo_find (a1) μ) fun r1 =>
  if r1 = (-1 : Int32) then
 (gfr μ 4 ((gI μ 11 (0) 1).toNatClampNeg) <|
  ap (nw μ 4 ((gI μ 11 (0) 1).toNatClampNeg)) fun μ3 =>
  Option.bind (m_Le_init ((gI μ 11 (0) 1).toNatClampNeg) (a1) (a2) μ3) fun r4 =>
  gu (gI μ 11 (0) 1) 32 <|
  ap (sR r4 320 (0) (gI μ 11 (0) 1).toNatClampNeg (some ((gI μ 11 (0) 1).toNatClampNeg))) fun μ6 =>
  ap (sI μ6 11 (0) 1 ((gI μ6 11 (0) 1) + ((1 : Int32)))) fun μ7 =>
  some (((gI μ7 11 (0) 1) - ((1 : Int32)), μ7)))
 else
 (some (((-1 : Int32), μ))))
 else
 (some (((-1 : Int32), μ))))
 else
 (some (((-1 : Int32), μ))))
 else
 (some (((-1 : Int32), μ)))
theorem t_Fo_letter {a1 : Int32} {a2 : Int32} {μ : Mem} {q : Int32 × Mem} (h : m_Fo_letter a1 a2 μ = some q) : JM true (3) y_Fo_letter b_Fo_letter 3 (some (.int)) 18 1142 [vr 11 (0), vi (a1), vi (a2)] μ (QQ (some (vi q.1)) q.2) := by
  unfold m_Fo_letter at h
  refine JM.of pl_Fo_letter (fun ρ => Nat.le_of_ble_eq_true rfl) ?_
  show J (GM true (QQ (some (vi q.1)) q.2) (some (.int)) y_Fo_letter.name) true b_Fo_letter R_11 3 (3) 18 1142 0 [(0, vr 11 (0)), (1, vi (a1)), (2, vi (a2))] [] μ
  refine J_iload_n (q := 1) 1 d_Fo_letter_0 rfl rfl rfl ?_
  refine J_callSq (rc := 18) (rs := 1142) (q := 4) (as := [vi (a1)]) (st := []) g_296 (t_Fo_isCode rfl) (by decide) (by decide) g_295 g_297 g_1 hy_Fo_isCode rfl (Nat.le_of_ble_eq_true rfl) d_Fo_letter_1 rfl ?_
  refine J_ifB_eq (q := 7) (tgt := 28) d_Fo_letter_4 (by decide) rfl (fun hb => ?_) (fun hb => ?_)
  · rw [iB_f hb] at h
    refine J_iconst (q := 29) (v := (-1 : Int32)) d_Fo_letter_28 (by decide) rfl ?_
    obtain rfl := Option.some.inj h
    exact J_iret rfl ⟨rfl, rfl⟩ d_Fo_letter_29
  · rw [iB_t hb] at h
    refine J_iload_n (q := 8) 2 d_Fo_letter_7 rfl rfl rfl ?_
    refine J_i2l (q := 9) d_Fo_letter_8 rfl ?_
    refine J_lconst (q := 10) (v := (0 : Int64)) d_Fo_letter_9 (by decide) rfl ?_
    refine J_ldc2 (q := 13) d_Fo_letter_10 g_302 rfl ?_
    refine J_callSq (rc := 18) (rs := 1142) (q := 16) (as := [vl ((a2).toInt64), vl ((0 : Int64)), vl ((32000 : Int64))]) (st := []) g_300 (t_Fo_within rfl) (by decide) (by decide) g_299 g_301 g_1 hy_Fo_within rfl (Nat.le_of_ble_eq_true rfl) d_Fo_letter_13 rfl ?_
    refine J_ifB_eq (q := 19) (tgt := 28) d_Fo_letter_16 (by decide) rfl (fun hb => ?_) (fun hb => ?_)
    · rw [iB_f hb] at h
      refine J_iconst (q := 29) (v := (-1 : Int32)) d_Fo_letter_28 (by decide) rfl ?_
      obtain rfl := Option.some.inj h
      exact J_iret rfl ⟨rfl, rfl⟩ d_Fo_letter_29
    · rw [iB_t hb] at h
      refine J_aload_n (q := 20) 0 d_Fo_letter_19 rfl rfl rfl ?_
      refine J_getI (q := 23) (j := 1) cd_11 (by decide) (Or.inl rfl) g_255 rfl d_Fo_letter_20 rfl ?_
      refine J_bipush (q := 25) (v := (32 : Int32)) d_Fo_letter_23 (by decide) rfl ?_
      refine J_icmp_lt (q := 28) (tgt := 30) d_Fo_letter_25 (by decide) rfl (fun hc => ?_) (fun hc => ?_)
      · rw [if_pos hc] at h
        refine J_aload_n (q := 31) 0 d_Fo_letter_30 rfl rfl rfl ?_
        refine J_iload_n (q := 32) 1 d_Fo_letter_31 rfl rfl rfl ?_
        obtain ⟨r1, hr1, h⟩ := bd_some h
        refine J_callVq (rc := 18) (rs := 1142) (q := 35) (as := [vi (a1)]) (st := []) (by decide) rfl g_304 g_305 (t_Fo_find hr1) (by decide) (by decide) g_303 g_306 g_1 hy_Fo_find rfl (Nat.le_of_ble_eq_true rfl) d_Fo_letter_32 rfl ?_
        refine J_iconst (q := 36) (v := (-1 : Int32)) d_Fo_letter_35 (by decide) rfl ?_
        refine J_icmp_eq (q := 39) (tgt := 41) d_Fo_letter_36 (by decide) rfl (fun hc => ?_) (fun hc => ?_)
        · rw [if_pos hc] at h
          refine J_aload_n (q := 42) 0 d_Fo_letter_41 rfl rfl rfl ?_
          refine J_getF (q := 45) cd_11 (by decide) ft_11_0 rfl g_254 rfl d_Fo_letter_42 rfl ?_
          refine J_aload_n (q := 46) 0 d_Fo_letter_45 rfl rfl rfl ?_
          refine J_getI (q := 49) (j := 1) cd_11 (by decide) (Or.inl rfl) g_255 rfl d_Fo_letter_46 rfl ?_
          obtain ⟨hf2, h⟩ := gfr_some h
          refine J_off (fun hLk => ?_)
          refine J_new (rc := 17) (rs := 1132) (q := 52) (l := (gI μ 11 (0) 1).toNatClampNeg) cd_4 rfl tyok_4 dvok_4 hf2 g_25 g_310 g_11 d_Fo_letter_49 rfl ?_
          obtain ⟨μ3, hμ3, h⟩ := ap_eq h
          refine J_nmM hμ3 ?_
          refine J_dupR (q := 53) d_Fo_letter_52 rfl ?_
          refine J_iload_n (q := 54) 1 d_Fo_letter_53 rfl rfl rfl ?_
          refine J_iload_n (q := 55) 2 d_Fo_letter_54 rfl rfl rfl ?_
          obtain ⟨r4, hr4, h⟩ := bd_some h
          refine J_callIv (rc := 0) (rs := 0) (q := 58) (as := [vi (a1), vi (a2)]) (st := [vr 4 ((gI μ 11 (0) 1).toNatClampNeg), vi (gI μ 11 (0) 1), vr 320 (0)]) (by decide) g_312 rfl (t_Le_init hr4) (by decide) (by decide) g_311 g_313 g_11 hy_Le_init rfl (Nat.le_of_ble_eq_true rfl) d_Fo_letter_55 rfl ?_
          refine J_on (lk_Le_init hLk hμ3 hr4) ?_
          obtain ⟨hi5, h⟩ := gu_some h
          refine J_ast5 (q := 59) (by decide) rfl rk_320 (by decide) hi5 d_Fo_letter_58 rfl ?_
          obtain ⟨μ6, hμ6, h⟩ := ap_eq h
          refine J_nmM hμ6 ?_
          refine J_aload_n (q := 60) 0 d_Fo_letter_59 rfl rfl rfl ?_
          refine J_dupR (q := 61) d_Fo_letter_60 rfl ?_
          refine J_getI (q := 64) (j := 1) cd_11 (by decide) (Or.inl rfl) g_255 rfl d_Fo_letter_61 rfl ?_
          refine J_iconst (q := 65) (v := (1 : Int32)) d_Fo_letter_64 (by decide) rfl ?_
          refine J_iadd (q := 66) d_Fo_letter_65 rfl ?_
          refine J_putI (q := 69) (j := 1) cd_11 (by decide) rfl rfl rfl g_255 rfl d_Fo_letter_66 rfl ?_
          obtain ⟨μ7, hμ7, h⟩ := ap_eq h
          refine J_nmM hμ7 ?_
          refine J_aload_n (q := 70) 0 d_Fo_letter_69 rfl rfl rfl ?_
          refine J_getI (q := 73) (j := 1) cd_11 (by decide) (Or.inl rfl) g_255 rfl d_Fo_letter_70 rfl ?_
          refine J_iconst (q := 74) (v := (1 : Int32)) d_Fo_letter_73 (by decide) rfl ?_
          refine J_isub (q := 75) d_Fo_letter_74 rfl ?_
          obtain rfl := Option.some.inj h
          exact J_iret rfl ⟨rfl, rfl⟩ d_Fo_letter_75
        · rw [if_neg hc] at h
          refine J_iconst (q := 40) (v := (-1 : Int32)) d_Fo_letter_39 (by decide) rfl ?_
          obtain rfl := Option.some.inj h
          exact J_iret rfl ⟨rfl, rfl⟩ d_Fo_letter_40
      · rw [if_neg hc] at h
        refine J_iconst (q := 29) (v := (-1 : Int32)) d_Fo_letter_28 (by decide) rfl ?_
        obtain rfl := Option.some.inj h
        exact J_iret rfl ⟨rfl, rfl⟩ d_Fo_letter_29
def m_Fo_part (a1 : Int32) (a2 : Int32) (a3 : Int32) (a4 : Int32) (μ : Mem) : Option (Int32 × Mem) :=
  Option.bind (m_Fo_letterOf (a1) μ) fun r1 =>
  Option.bind (m_Fo_letterOf (a2) μ) fun r2 =>
  oc r1
 (some (((-1 : Int32), μ)))
 fun y3 => oc r2
 (some (((-1 : Int32), μ)))
 fun y4 => if a1 = a2 then
 (some (((-1 : Int32), μ)))
 else
 (if (m_Fo_isPlace (a3) (a4) μ) then
 (if (m_Sh_hasAny (y3) μ) then
 (some (((-1 : Int32), μ)))
 else
 (if gI μ 4 (y3) 6 = 0 then
 (if gI μ 4 (y4) 7 < (4 : Int32) then
 (Option.bind (m_Le_addPart (y3) (y4) (a3) (a4) μ) fun r5 =>
  ap (r5.2) fun μ6 =>
  ap (r5.1) fun x7 =>
  some ((x7, μ6)))
 else
 (some (((-1 : Int32), μ))))
 else
 (some (((-1 : Int32), μ)))))
 else
 (some (((-1 : Int32), μ))))
theorem t_Fo_part {a1 : Int32} {a2 : Int32} {a3 : Int32} {a4 : Int32} {μ : Mem} {q : Int32 × Mem} (h : m_Fo_part a1 a2 a3 a4 μ = some q) : JM true (3) y_Fo_part b_Fo_part 7 (some (.int)) 1 7 [vr 11 (0), vi (a1), vi (a2), vi (a3), vi (a4)] μ (QQ (some (vi q.1)) q.2) := by
  unfold m_Fo_part at h
  refine JM.of pl_Fo_part (fun ρ => Nat.le_of_ble_eq_true rfl) ?_
  show J (GM true (QQ (some (vi q.1)) q.2) (some (.int)) y_Fo_part.name) true b_Fo_part R_11 7 (3) 1 7 0 [(0, vr 11 (0)), (1, vi (a1)), (2, vi (a2)), (3, vi (a3)), (4, vi (a4))] [] μ
  refine J_aload_n (q := 1) 0 d_Fo_part_0 rfl rfl rfl ?_
  refine J_iload_n (q := 2) 1 d_Fo_part_1 rfl rfl rfl ?_
  obtain ⟨r1, hr1, h⟩ := bd_some h
  refine J_callVq (rc := 1) (rs := 7) (q := 5) (as := [vi (a1)]) (st := []) (by decide) rfl g_436 sel_Fo_letterOf (t_Fo_letterOf hr1) (by decide) (by decide) g_434 g_437 g_1 hy_Fo_letterOf rfl (Nat.le_of_ble_eq_true rfl) d_Fo_part_2 rfl ?_
  refine J_astore (q := 7) (lv' := [(5, vo 4 (r1)), (0, vr 11 (0)), (1, vi (a1)), (2, vi (a2)), (3, vi (a3)), (4, vi (a4))]) d_Fo_part_5 (by decide) rfl rfl ?_
  refine J_aload_n (q := 8) 1 d_Fo_part_7 rfl rfl rfl ?_
  refine J_iload_n (q := 9) 3 d_Fo_part_8 rfl rfl rfl ?_
  obtain ⟨r2, hr2, h⟩ := bd_some h
  refine J_callVq (rc := 1) (rs := 7) (q := 12) (as := [vi (a2)]) (st := []) (by decide) rfl g_436 sel_Fo_letterOf (t_Fo_letterOf hr2) (by decide) (by decide) g_434 g_437 g_1 hy_Fo_letterOf rfl (Nat.le_of_ble_eq_true rfl) d_Fo_part_9 rfl ?_
  refine J_astore (q := 14) (lv' := [(6, vo 4 (r2)), (5, vo 4 (r1)), (0, vr 11 (0)), (1, vi (a1)), (2, vi (a2)), (3, vi (a3)), (4, vi (a4))]) d_Fo_part_12 (by decide) rfl rfl ?_
  refine J_aload (q := 16) 1 d_Fo_part_14 rfl rfl ?_
  refine J_nullO (q := 19) (tgt := 38) d_Fo_part_16 (by decide) rfl (fun ho => ?_) (fun y3 ho => ?_)
  · subst ho
    rw [oc_none] at h
    refine J_iconst (q := 39) (v := (-1 : Int32)) d_Fo_part_38 (by decide) rfl ?_
    obtain rfl := Option.some.inj h
    exact J_iret rfl ⟨rfl, rfl⟩ d_Fo_part_39
  · subst ho
    rw [oc_some] at h
    refine J_aload (q := 21) 0 d_Fo_part_19 rfl rfl ?_
    refine J_nullO (q := 24) (tgt := 38) d_Fo_part_21 (by decide) rfl (fun ho => ?_) (fun y4 ho => ?_)
    · subst ho
      rw [oc_none] at h
      refine J_iconst (q := 39) (v := (-1 : Int32)) d_Fo_part_38 (by decide) rfl ?_
      obtain rfl := Option.some.inj h
      exact J_iret rfl ⟨rfl, rfl⟩ d_Fo_part_39
    · subst ho
      rw [oc_some] at h
      refine J_iload_n (q := 25) 3 d_Fo_part_24 rfl rfl rfl ?_
      refine J_iload_n (q := 26) 4 d_Fo_part_25 rfl rfl rfl ?_
      refine J_icmp_eq (q := 29) (tgt := 38) d_Fo_part_26 (by decide) rfl (fun hc => ?_) (fun hc => ?_)
      · rw [if_pos hc] at h
        refine J_iconst (q := 39) (v := (-1 : Int32)) d_Fo_part_38 (by decide) rfl ?_
        obtain rfl := Option.some.inj h
        exact J_iret rfl ⟨rfl, rfl⟩ d_Fo_part_39
      · rw [if_neg hc] at h
        refine J_iload_n (q := 30) 5 d_Fo_part_29 rfl rfl rfl ?_
        refine J_iload (q := 32) 6 d_Fo_part_30 rfl rfl ?_
        refine J_callSq (rc := 1) (rs := 7) (q := 35) (as := [vi (a3), vi (a4)]) (st := []) g_447 (t_Fo_isPlace rfl) (by decide) (by decide) g_446 g_448 g_1 hy_Fo_isPlace rfl (Nat.le_of_ble_eq_true rfl) d_Fo_part_32 rfl ?_
        refine J_ifB_ne (q := 38) (tgt := 40) d_Fo_part_35 (by decide) rfl (fun hb => ?_) (fun hb => ?_)
        · rw [iB_t hb] at h
          refine J_aload (q := 42) 1 d_Fo_part_40 rfl rfl ?_
          refine J_getF (q := 45) cd_4 (by decide) ft_4_2 rfl g_392 rfl d_Fo_part_42 rfl ?_
          refine J_callVq (rc := 1) (rs := 7) (q := 48) (as := []) (st := []) (by decide) rfl g_493 g_494 (t_Sh_hasAny rfl) (by decide) (by decide) g_527 g_495 g_12 hy_Sh_hasAny rfl (Nat.le_of_ble_eq_true rfl) d_Fo_part_45 rfl ?_
          refine J_ifB_ne (q := 51) (tgt := 68) d_Fo_part_48 (by decide) rfl (fun hb => ?_) (fun hb => ?_)
          · rw [iB_t hb] at h
            refine J_iconst (q := 69) (v := (-1 : Int32)) d_Fo_part_68 (by decide) rfl ?_
            obtain rfl := Option.some.inj h
            exact J_iret rfl ⟨rfl, rfl⟩ d_Fo_part_69
          · rw [iB_f hb] at h
            refine J_aload (q := 53) 1 d_Fo_part_51 rfl rfl ?_
            refine J_getI (q := 56) (j := 6) cd_4 (by decide) (Or.inr rfl) g_401 rfl d_Fo_part_53 rfl ?_
            refine J_if_ne (q := 59) (tgt := 68) d_Fo_part_56 (by decide) rfl (fun hc => ?_) (fun hc => ?_)
            · rw [if_neg hc] at h
              refine J_iconst (q := 69) (v := (-1 : Int32)) d_Fo_part_68 (by decide) rfl ?_
              obtain rfl := Option.some.inj h
              exact J_iret rfl ⟨rfl, rfl⟩ d_Fo_part_69
            · rw [if_pos hc] at h
              refine J_aload (q := 61) 0 d_Fo_part_59 rfl rfl ?_
              refine J_getI (q := 64) (j := 7) cd_4 (by decide) (Or.inl rfl) g_403 rfl d_Fo_part_61 rfl ?_
              refine J_iconst (q := 65) (v := (4 : Int32)) d_Fo_part_64 (by decide) rfl ?_
              refine J_icmp_lt (q := 68) (tgt := 70) d_Fo_part_65 (by decide) rfl (fun hc => ?_) (fun hc => ?_)
              · rw [if_pos hc] at h
                refine J_aload (q := 72) 1 d_Fo_part_70 rfl rfl ?_
                refine J_aload (q := 74) 0 d_Fo_part_72 rfl rfl ?_
                refine J_iload_n (q := 75) 5 d_Fo_part_74 rfl rfl rfl ?_
                refine J_iload (q := 77) 6 d_Fo_part_75 rfl rfl ?_
                obtain ⟨r5, hr5, h⟩ := bd_some h
                refine J_callVq (rc := 0) (rs := 0) (q := 80) (as := [vr 4 (y4), vi (a3), vi (a4)]) (st := []) (by decide) rfl g_529 g_530 (t_Le_addPart hr5) (by decide) (by decide) g_528 g_531 g_11 hy_Le_addPart rfl (Nat.le_of_ble_eq_true rfl) d_Fo_part_77 rfl ?_
                obtain ⟨μ6, hμ6, h⟩ := ap_eq h
                refine J_nmM hμ6 ?_
                obtain ⟨x7, hx7, h⟩ := ap_eq h
                refine J_nmI hx7 ?_
                obtain rfl := Option.some.inj h
                exact J_iret rfl ⟨rfl, rfl⟩ d_Fo_part_80
              · rw [if_neg hc] at h
                refine J_iconst (q := 69) (v := (-1 : Int32)) d_Fo_part_68 (by decide) rfl ?_
                obtain rfl := Option.some.inj h
                exact J_iret rfl ⟨rfl, rfl⟩ d_Fo_part_69
        · rw [iB_f hb] at h
          refine J_iconst (q := 39) (v := (-1 : Int32)) d_Fo_part_38 (by decide) rfl ?_
          obtain rfl := Option.some.inj h
          exact J_iret rfl ⟨rfl, rfl⟩ d_Fo_part_39
