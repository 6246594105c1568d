theorem fj_Mo_depth_106 (a1 : Int32) {q : Int32 × Mem} {c_18 : Int32 → Int32 → Mem → Option (Int32 × Mem)} (hf_18 : ∀ (y2 : Int32) (y3 : Int32) (μ : Mem), c_18 y2 y3 μ = some q → Un [360, 361] μ q.2) (y2 : Int32) (y3 : Int32) (μ : Mem) (h : mj_Mo_depth_106 a1 c_18 y2 y3 μ = some q) : Un [360, 361] μ q.2 := by
  unfold mj_Mo_depth_106 at h
  have uμ : Un [360, 361] μ μ := Un.rf
  exact uμ.tr (hf_18 _ _ _ h)
theorem fl_Mo_depth_18 (a1 : Int32) {q : Int32 × Mem}  : ∀ (n : Nat) (y2 : Int32) (y3 : Int32) (μ : Mem), lp_Mo_depth_18 a1 n y2 y3 μ = some q → Un [360, 361] μ q.2 := by
  intro n
  induction n with
  | zero => intro _ _ _ h; cases h
  | succ n ih =>
    intro y2 y3 μ h
    unfold lp_Mo_depth_18 at h
    have uμ : Un [360, 361] μ μ := Un.rf
    rcases (Classical.em (y3 < 0)) with hc | hc
    · rw [if_pos hc] at h
      obtain rfl := Option.some.inj h
      exact uμ
    · rw [if_neg hc] at h
      obtain ⟨hi21, h⟩ := gu_some h
      obtain ⟨hi22, h⟩ := gu_some h
      obtain ⟨hi23, h⟩ := gu_some h
      rcases (Classical.em (gI μ 361 (0) y3.toNatClampNeg = gI μ 352 (0) (gI μ 360 (0) y3.toNatClampNeg).toNatClampNeg)).symm with hc | hc
      · rw [if_neg hc] at h
        obtain ⟨hi24, h⟩ := gu_some h
        obtain ⟨hi25, h⟩ := gu_some h
        obtain ⟨hi26, h⟩ := gu_some h
        obtain ⟨x27, hx27, h⟩ := ap_eq h
        obtain ⟨hi28, h⟩ := gu_some h
        obtain ⟨hi29, h⟩ := gu_some h
        obtain ⟨μ30, hμ30, h⟩ := ap_eq h
        have uμ30 : Un [360, 361] μ μ30 := uμ.tr (by rw [hμ30]; exact un_sI (Or.inl (by simp)) (fun _ => by decide))
        obtain ⟨x31, hx31, h⟩ := ap_eq h
        obtain ⟨hi32, h⟩ := gu_some h
        obtain ⟨μ33, hμ33, h⟩ := ap_eq h
        have uμ33 : Un [360, 361] μ μ33 := uμ30.tr (by rw [hμ33]; exact un_sI (Or.inl (by simp)) (fun _ => by decide))
        obtain ⟨hi34, h⟩ := gu_some h
        obtain ⟨μ35, hμ35, h⟩ := ap_eq h
        have uμ35 : Un [360, 361] μ μ35 := uμ33.tr (by rw [hμ35]; exact un_sI (Or.inl (by simp)) (fun _ => by decide))
        rcases (Classical.em (x31 ≤ y2)) with hc | hc
        · rw [if_pos hc] at h
          exact uμ35.tr (fj_Mo_depth_106 a1 ih _ _ _ h)
        · rw [if_neg hc] at h
          exact uμ35.tr (fj_Mo_depth_106 a1 ih _ _ _ h)
      · rw [if_pos hc] at h
        obtain ⟨x36, hx36, h⟩ := ap_eq h
        exact uμ.tr (ih _ _ _ h)
theorem fm_Mo_depth {a1 : Int32} {μ : Mem} {q : Int32 × Mem} (h : m_Mo_depth a1 μ = some q) : Un [360, 361] μ q.2 := by
  unfold m_Mo_depth at h
  have uμ : Un [360, 361] μ μ := Un.rf
  obtain ⟨hi1, h⟩ := gu_some h
  obtain ⟨μ2, hμ2, h⟩ := ap_eq h
  have uμ2 : Un [360, 361] μ μ2 := uμ.tr (by rw [hμ2]; exact un_sI (Or.inl (by simp)) (fun _ => by decide))
  obtain ⟨hi3, h⟩ := gu_some h
  obtain ⟨μ4, hμ4, h⟩ := ap_eq h
  have uμ4 : Un [360, 361] μ μ4 := uμ2.tr (by rw [hμ4]; exact un_sI (Or.inl (by simp)) (fun _ => by decide))
  exact uμ4.tr (fl_Mo_depth_18 a1 FU _ _ _ h)
theorem fl_Mo_part_82 (a1 : Int32) (a2 : Int32) (a3 : Int32) (a4 : Int32) {q : Int32 × Mem} {c_119 : Int32 → Mem → Option (Int32 × Mem)} (hf_119 : ∀ (y5 : Int32) (μ : Mem), c_119 y5 μ = some q → Un [352, 353, 354, 355, 356, 360, 361] μ q.2) : ∀ (n : Nat) (y5 : Int32) (y6 : Int32) (μ : Mem), lp_Mo_part_82 a1 a2 a3 a4 c_119 n y5 y6 μ = some q → Un [352, 353, 354, 355, 356, 360, 361] μ q.2 := by
  intro n
  induction n with
  | zero => intro _ _ _ h; cases h
  | succ n ih =>
    intro y5 y6 μ h
    unfold lp_Mo_part_82 at h
    have uμ : Un [352, 353, 354, 355, 356, 360, 361] μ μ := Un.rf
    obtain ⟨hi7, h⟩ := gu_some h
    rcases (Classical.em (gI μ 352 (0) y5.toNatClampNeg ≤ y6)) with hc | hc
    · rw [if_pos hc] at h
      exact uμ.tr (hf_119 _ _ h)
    · rw [if_neg hc] at h
      obtain ⟨hi8, h⟩ := gu_some h
      rcases (Classical.em (gI μ 353 (0) (((6 : Int32) * y5) + (y6)).toNatClampNeg = a1)).symm with hc | hc
      · rw [if_neg hc] at h
        obtain ⟨x9, hx9, h⟩ := ap_eq h
        exact uμ.tr (ih _ _ _ h)
      · rw [if_pos hc] at h
        obtain rfl := Option.some.inj h
        exact uμ
theorem fj_Mo_part_119 (a1 : Int32) (a2 : Int32) (a3 : Int32) (a4 : Int32) {q : Int32 × Mem} {c_70 : Int32 → Mem → Option (Int32 × Mem)} (hf_70 : ∀ (y5 : Int32) (μ : Mem), c_70 y5 μ = some q → Un [352, 353, 354, 355, 356, 360, 361] μ q.2) (y5 : Int32) (μ : Mem) (h : mj_Mo_part_119 a1 a2 a3 a4 c_70 y5 μ = some q) : Un [352, 353, 354, 355, 356, 360, 361] μ q.2 := by
  unfold mj_Mo_part_119 at h
  have uμ : Un [352, 353, 354, 355, 356, 360, 361] μ μ := Un.rf
  obtain ⟨x10, hx10, h⟩ := ap_eq h
  exact uμ.tr (hf_70 _ _ h)
theorem fl_Mo_part_70 (a1 : Int32) (a2 : Int32) (a3 : Int32) (a4 : Int32) {q : Int32 × Mem} {c_125 : Mem → Option (Int32 × Mem)} (hf_125 : ∀ (μ : Mem), c_125  μ = some q → Un [352, 353, 354, 355, 356, 360, 361] μ q.2) : ∀ (n : Nat) (y5 : Int32) (μ : Mem), lp_Mo_part_70 a1 a2 a3 a4 c_125 n y5 μ = some q → Un [352, 353, 354, 355, 356, 360, 361] μ q.2 := by
  intro n
  induction n with
  | zero => intro _ _ h; cases h
  | succ n ih =>
    intro y5 μ h
    unfold lp_Mo_part_70 at h
    have uμ : Un [352, 353, 354, 355, 356, 360, 361] μ μ := Un.rf
    rcases (Classical.em (gI μ 12 (0) 0 ≤ y5)) with hc | hc
    · rw [if_pos hc] at h
      exact uμ.tr (hf_125 _ h)
    · rw [if_neg hc] at h
      exact uμ.tr (fl_Mo_part_82 a1 a2 a3 a4 (fun _ _ h => fj_Mo_part_119 a1 a2 a3 a4 ih _ _ h) FU _ _ _ h)
theorem fj_Mo_part_125 (a1 : Int32) (a2 : Int32) (a3 : Int32) (a4 : Int32) {q : Int32 × Mem}  (μ : Mem) (h : mj_Mo_part_125 a1 a2 a3 a4  μ = some q) : Un [352, 353, 354, 355, 356, 360, 361] μ q.2 := by
  unfold mj_Mo_part_125 at h
  have uμ : Un [352, 353, 354, 355, 356, 360, 361] μ μ := Un.rf
  obtain ⟨r11, hr11, h⟩ := bd_some h
  obtain ⟨μ12, hμ12, h⟩ := ap_eq h
  have uμ12 : Un [352, 353, 354, 355, 356, 360, 361] μ μ12 := by rw [hμ12]; exact uμ.tr ((fm_Mo_depth hr11).mono (by simp))
  obtain ⟨x13, hx13, h⟩ := ap_eq h
  rcases (Classical.em (x13 ≤ (3 : Int32))) with hc | hc
  · rw [if_pos hc] at h
    obtain ⟨hi14, h⟩ := gu_some h
    obtain ⟨x15, hx15, h⟩ := ap_eq h
    obtain ⟨hi16, h⟩ := gu_some h
    obtain ⟨μ17, hμ17, h⟩ := ap_eq h
    have uμ17 : Un [352, 353, 354, 355, 356, 360, 361] μ μ17 := uμ12.tr (by rw [hμ17]; exact un_sI (Or.inl (by simp)) (fun _ => by decide))
    obtain ⟨hi18, h⟩ := gu_some h
    obtain ⟨μ19, hμ19, h⟩ := ap_eq h
    have uμ19 : Un [352, 353, 354, 355, 356, 360, 361] μ μ19 := uμ17.tr (by rw [hμ19]; exact un_sI (Or.inl (by simp)) (fun _ => by decide))
    obtain ⟨hi20, h⟩ := gu_some h
    obtain ⟨μ21, hμ21, h⟩ := ap_eq h
    have uμ21 : Un [352, 353, 354, 355, 356, 360, 361] μ μ21 := uμ19.tr (by rw [hμ21]; exact un_sI (Or.inl (by simp)) (fun _ => by decide))
    obtain ⟨hi22, h⟩ := gu_some h
    obtain ⟨μ23, hμ23, h⟩ := ap_eq h
    have uμ23 : Un [352, 353, 354, 355, 356, 360, 361] μ μ23 := uμ21.tr (by rw [hμ23]; exact un_sI (Or.inl (by simp)) (fun _ => by decide))
    obtain ⟨hi24, h⟩ := gu_some h
    obtain ⟨μ25, hμ25, h⟩ := ap_eq h
    have uμ25 : Un [352, 353, 354, 355, 356, 360, 361] μ μ25 := uμ23.tr (by rw [hμ25]; exact un_sI (Or.inl (by simp)) (fun _ => by decide))
    obtain ⟨hi26, h⟩ := gu_some h
    obtain ⟨μ27, hμ27, h⟩ := ap_eq h
    have uμ27 : Un [352, 353, 354, 355, 356, 360, 361] μ μ27 := uμ25.tr (by rw [hμ27]; exact un_sI (Or.inl (by simp)) (fun _ => by decide))
    obtain ⟨hi28, h⟩ := gu_some h
    obtain ⟨μ29, hμ29, h⟩ := ap_eq h
    have uμ29 : Un [352, 353, 354, 355, 356, 360, 361] μ μ29 := uμ27.tr (by rw [hμ29]; exact un_sI (Or.inl (by simp)) (fun _ => by decide))
    obtain ⟨hi30, h⟩ := gu_some h
    obtain ⟨hi31, h⟩ := gu_some h
    obtain ⟨μ32, hμ32, h⟩ := ap_eq h
    have uμ32 : Un [352, 353, 354, 355, 356, 360, 361] μ μ32 := uμ29.tr (by rw [hμ32]; exact un_sI (Or.inl (by simp)) (fun _ => by decide))
    obtain ⟨hi33, h⟩ := gu_some h
    obtain rfl := Option.some.inj h
    exact uμ32
  · rw [if_neg hc] at h
    obtain rfl := Option.some.inj h
    exact uμ12
theorem fm_Mo_part {a1 : Int32} {a2 : Int32} {a3 : Int32} {a4 : Int32} {μ : Mem} {q : Int32 × Mem} (h : m_Mo_part a1 a2 a3 a4 μ = some q) : Un [352, 353, 354, 355, 356, 360, 361] μ q.2 := by
  unfold m_Mo_part at h
  have uμ : Un [352, 353, 354, 355, 356, 360, 361] μ μ := Un.rf
  rcases bcase_f ((m_Mo_isLetter (a1) μ)) with hb | hb
  · rw [iB_f hb] at h
    obtain rfl := Option.some.inj h
    exact uμ
  · rw [iB_t hb] at h
    rcases bcase_f ((m_Mo_isLetter (a2) μ)) with hb | hb
    · rw [iB_f hb] at h
      obtain rfl := Option.some.inj h
      exact uμ
    · rw [iB_t hb] at h
      obtain ⟨hi1, h⟩ := gu_some h
      rcases (Classical.em (0 < gI μ 343 (0) a1.toNatClampNeg)) with hc | hc
      · rw [if_pos hc] at h
        obtain rfl := Option.some.inj h
        exact uμ
      · rw [if_neg hc] at h
        obtain ⟨hi2, h⟩ := gu_some h
        rcases (Classical.em (gI μ 344 (0) a1.toNatClampNeg = 0)).symm with hc | hc
        · rw [if_neg hc] at h
          obtain rfl := Option.some.inj h
          exact uμ
        · rw [if_pos hc] at h
          rcases (Classical.em (a1 = a2)) with hc | hc
          · rw [if_pos hc] at h
            obtain rfl := Option.some.inj h
            exact uμ
          · rw [if_neg hc] at h
            rcases bcase_f ((m_Mo_isPlace (a3) μ)) with hb | hb
            · rw [iB_f hb] at h
              obtain rfl := Option.some.inj h
              exact uμ
            · rw [iB_t hb] at h
              rcases bcase_f ((m_Mo_isPlace (a4) μ)) with hb | hb
              · rw [iB_f hb] at h
                obtain rfl := Option.some.inj h
                exact uμ
              · rw [iB_t hb] at h
                obtain ⟨hi3, h⟩ := gu_some h
                rcases (Classical.em (gI μ 352 (0) a1.toNatClampNeg = (6 : Int32))).symm with hc | hc
                · rw [if_neg hc] at h
                  exact uμ.tr (fl_Mo_part_70 a1 a2 a3 a4 (fun _ h => fj_Mo_part_125 a1 a2 a3 a4 _ h) FU _ _ h)
                · rw [if_pos hc] at h
                  obtain rfl := Option.some.inj h
                  exact uμ
theorem fm_Mo_matrix {a1 : Int32} {a2 : Int32} {a3 : Int32} {a4 : Int32} {a5 : Int32} {a6 : Int32} {μ : Mem} {q : Bool × Mem} (h : m_Mo_matrix a1 a2 a3 a4 a5 a6 μ = some q) : Un [354] μ q.2 := by
  unfold m_Mo_matrix at h
  have uμ : Un [354] μ μ := Un.rf
  rcases bcase_f ((m_Mo_isLetter (a1) μ)) with hb | hb
  · rw [iB_f hb] at h
    obtain rfl := Option.some.inj h
    exact uμ
  · rw [iB_t hb] at h
    rcases (Classical.em (a2 < 0)) with hc | hc
    · rw [if_pos hc] at h
      obtain rfl := Option.some.inj h
      exact uμ
    · rw [if_neg hc] at h
      obtain ⟨hi1, h⟩ := gu_some h
      rcases (Classical.em (gI μ 352 (0) a1.toNatClampNeg ≤ a2)) with hc | hc
      · rw [if_pos hc] at h
        obtain rfl := Option.some.inj h
        exact uμ
      · rw [if_neg hc] at h
        rcases bcase_f ((m_Mo_isShort (a3) μ)) with hb | hb
        · rw [iB_f hb] at h
          obtain rfl := Option.some.inj h
          exact uμ
        · rw [iB_t hb] at h
          rcases bcase_f ((m_Mo_isShort (a4) μ)) with hb | hb
          · rw [iB_f hb] at h
            obtain rfl := Option.some.inj h
            exact uμ
          · rw [iB_t hb] at h
            rcases bcase_f ((m_Mo_isShort (a5) μ)) with hb | hb
            · rw [iB_f hb] at h
              obtain rfl := Option.some.inj h
              exact uμ
            · rw [iB_t hb] at h
              rcases bcase_t ((m_Mo_isShort (a6) μ)) with hb | hb
              · rw [iB_t hb] at h
                obtain ⟨x2, hx2, h⟩ := ap_eq h
                obtain ⟨hi3, h⟩ := gu_some h
                obtain ⟨μ4, hμ4, h⟩ := ap_eq h
                have uμ4 : Un [354] μ μ4 := uμ.tr (by rw [hμ4]; exact un_sI (Or.inl (by simp)) (fun _ => by decide))
                obtain ⟨hi5, h⟩ := gu_some h
                obtain ⟨μ6, hμ6, h⟩ := ap_eq h
                have uμ6 : Un [354] μ μ6 := uμ4.tr (by rw [hμ6]; exact un_sI (Or.inl (by simp)) (fun _ => by decide))
                obtain ⟨hi7, h⟩ := gu_some h
                obtain ⟨μ8, hμ8, h⟩ := ap_eq h
                have uμ8 : Un [354] μ μ8 := uμ6.tr (by rw [hμ8]; exact un_sI (Or.inl (by simp)) (fun _ => by decide))
                obtain ⟨hi9, h⟩ := gu_some h
                obtain ⟨μ10, hμ10, h⟩ := ap_eq h
                have uμ10 : Un [354] μ μ10 := uμ8.tr (by rw [hμ10]; exact un_sI (Or.inl (by simp)) (fun _ => by decide))
                obtain rfl := Option.some.inj h
                exact uμ10
              · rw [iB_f hb] at h
                obtain rfl := Option.some.inj h
                exact uμ
theorem fm_Mo_info {a1 : Int32} {a2 : Int32} {μ : Mem} {q : Int32 × Mem} (h : m_Mo_info a1 a2 μ = some q) : Un [360, 361] μ q.2 := by
  unfold m_Mo_info at h
  have uμ : Un [360, 361] μ μ := Un.rf
  rcases bcase_t ((m_Mo_isLetter (a1) μ)) with hb | hb
  · rw [iB_t hb] at h
    by_cases hk0 : a2 = (0 : Int32)
    · rw [if_pos hk0] at h
      obtain ⟨hi1, h⟩ := gu_some h
      obtain rfl := Option.some.inj h
      exact uμ
    rw [if_neg hk0] at h
    by_cases hk1 : a2 = (1 : Int32)
    · rw [if_pos hk1] at h
      obtain ⟨hi2, h⟩ := gu_some h
      obtain rfl := Option.some.inj h
      exact uμ
    rw [if_neg hk1] at h
    by_cases hk2 : a2 = (2 : Int32)
    · rw [if_pos hk2] at h
      obtain ⟨hi3, h⟩ := gu_some h
      obtain rfl := Option.some.inj h
      exact uμ
    rw [if_neg hk2] at h
    by_cases hk3 : a2 = (3 : Int32)
    · rw [if_pos hk3] at h
      obtain ⟨r4, hr4, h⟩ := bd_some h
      obtain rfl := Option.some.inj h
      exact uμ
    rw [if_neg hk3] at h
    by_cases hk4 : a2 = (4 : Int32)
    · rw [if_pos hk4] at h
      obtain ⟨hi5, h⟩ := gu_some h
      obtain rfl := Option.some.inj h
      exact uμ
    rw [if_neg hk4] at h
    by_cases hk5 : a2 = (5 : Int32)
    · rw [if_pos hk5] at h
      obtain ⟨r6, hr6, h⟩ := bd_some h
      obtain ⟨μ7, hμ7, h⟩ := ap_eq h
      have uμ7 : Un [360, 361] μ μ7 := by rw [hμ7]; exact uμ.tr ((fm_Mo_depth hr6).mono (by simp))
      obtain ⟨x8, hx8, h⟩ := ap_eq h
      obtain rfl := Option.some.inj h
      exact uμ7
    rw [if_neg hk5] at h
    by_cases hk6 : a2 = (6 : Int32)
    · rw [if_pos hk6] at h
      obtain ⟨hi9, h⟩ := gu_some h
      rcases (Classical.em (gI μ 344 (0) a1.toNatClampNeg = 0)) with hc | hc
      · rw [if_pos hc] at h
        obtain rfl := Option.some.inj h
        exact uμ
      · rw [if_neg hc] at h
        obtain ⟨hi10, h⟩ := gu_some h
        obtain ⟨r11, hr11, h⟩ := bd_some h
        obtain rfl := Option.some.inj h
        exact uμ
    rw [if_neg hk6] at h
    by_cases hk7 : a2 = (7 : Int32)
    · rw [if_pos hk7] at h
      obtain ⟨hi12, h⟩ := gu_some h
      obtain rfl := Option.some.inj h
      exact uμ
    rw [if_neg hk7] at h
    obtain rfl := Option.some.inj h
    exact uμ
  · rw [iB_f hb] at h
    obtain rfl := Option.some.inj h
    exact uμ
theorem fj_Mo_adds_111 (a1 : Int64) (a2 : Int64) {q : Mem}  (μ : Mem) (h : mj_Mo_adds_111 a1 a2  μ = some q) : Un [364, 365, 366, 2222, 2231, 2232] μ q := by
  unfold mj_Mo_adds_111 at h
  have uμ : Un [364, 365, 366, 2222, 2231, 2232] μ μ := Un.rf
  obtain ⟨hi3, h⟩ := gu_some h
  obtain ⟨μ4, hμ4, h⟩ := ap_eq h
  have uμ4 : Un [364, 365, 366, 2222, 2231, 2232] μ μ4 := uμ.tr (by rw [hμ4]; exact un_sI (Or.inl (by simp)) (fun _ => by decide))
  obtain ⟨hi5, h⟩ := gu_some h
  obtain ⟨μ6, hμ6, h⟩ := ap_eq h
  have uμ6 : Un [364, 365, 366, 2222, 2231, 2232] μ μ6 := uμ4.tr (by rw [hμ6]; exact un_sI (Or.inl (by simp)) (fun _ => by decide))
  obtain ⟨hi7, h⟩ := gu_some h
  obtain ⟨μ8, hμ8, h⟩ := ap_eq h
  have uμ8 : Un [364, 365, 366, 2222, 2231, 2232] μ μ8 := uμ6.tr (by rw [hμ8]; exact un_sI (Or.inl (by simp)) (fun _ => by decide))
  obtain ⟨μ9, hμ9, h⟩ := ap_eq h
  have uμ9 : Un [364, 365, 366, 2222, 2231, 2232] μ μ9 := uμ8.tr (by rw [hμ9]; exact un_sI (Or.inr ⟨by decide, by simp⟩) (by simp <;> omega))
  obtain rfl := Option.some.inj h
  exact uμ9
theorem fj_Mo_adds_57 (a1 : Int64) (a2 : Int64) {q : Mem}  (μ : Mem) (h : mj_Mo_adds_57 a1 a2  μ = some q) : Un [364, 365, 366, 2222, 2231, 2232] μ q := by
  unfold mj_Mo_adds_57 at h
  have uμ : Un [364, 365, 366, 2222, 2231, 2232] μ μ := Un.rf
  rcases (Classical.em (gI μ 12 (0) 32 = 0)).symm with hc | hc
  · rw [if_neg hc] at h
    rcases (Classical.em (gI μ 12 (0) 22 ≤ gI μ 12 (0) 38)) with hc | hc
    · rw [if_pos hc] at h
      exact uμ.tr (fj_Mo_adds_111 a1 a2 _ h)
    · rw [if_neg hc] at h
      obtain ⟨hi10, h⟩ := gu_some h
      rcases (Classical.em ((gI μ 364 (0) ((gI μ 12 (0) 22) - ((1 : Int32))).toNatClampNeg).toInt64 = a1)).symm with hc | hc
      · rw [if_neg hc] at h
        exact uμ.tr (fj_Mo_adds_111 a1 a2 _ h)
      · rw [if_pos hc] at h
        obtain ⟨hi11, h⟩ := gu_some h
        rcases (Classical.em ((gI μ 365 (0) ((gI μ 12 (0) 22) - ((1 : Int32))).toNatClampNeg).toInt64 = a2)).symm with hc | hc
        · rw [if_neg hc] at h
          exact uμ.tr (fj_Mo_adds_111 a1 a2 _ h)
        · rw [if_pos hc] at h
          obtain rfl := Option.some.inj h
          exact uμ
  · rw [if_pos hc] at h
    obtain rfl := Option.some.inj h
    exact uμ
theorem fj_Mo_adds_52 (a1 : Int64) (a2 : Int64) {q : Mem}  (μ : Mem) (h : mj_Mo_adds_52 a1 a2  μ = some q) : Un [364, 365, 366, 2222, 2231, 2232] μ q := by
  unfold mj_Mo_adds_52 at h
  have uμ : Un [364, 365, 366, 2222, 2231, 2232] μ μ := Un.rf
  obtain ⟨μ2, hμ2, h⟩ := ap_eq h
  have uμ2 : Un [364, 365, 366, 2222, 2231, 2232] μ μ2 := uμ.tr (by rw [hμ2]; exact un_sI (Or.inr ⟨by decide, by simp⟩) (by simp <;> omega))
  exact uμ2.tr (fj_Mo_adds_57 a1 a2 _ h)
theorem fm_Mo_adds {a1 : Int64} {a2 : Int64} {μ : Mem} {q : Mem} (h : m_Mo_adds a1 a2 μ = some q) : Un [364, 365, 366, 2222, 2231, 2232] μ q := by
  unfold m_Mo_adds at h
  have uμ : Un [364, 365, 366, 2222, 2231, 2232] μ μ := Un.rf
  obtain ⟨μ1, hμ1, h⟩ := ap_eq h
  have uμ1 : Un [364, 365, 366, 2222, 2231, 2232] μ μ1 := uμ.tr (by rw [hμ1]; exact un_sI (Or.inr ⟨by decide, by simp⟩) (by simp <;> omega))
  rcases (Classical.em ((500 : Int32) < gI μ1 12 (0) 31)) with hc | hc
  · rw [if_pos hc] at h
    exact uμ1.tr (fj_Mo_adds_52 a1 a2 _ h)
  · rw [if_neg hc] at h
    rcases (Classical.em (a1 < (-100000 : Int64))) with hc | hc
    · rw [if_pos hc] at h
      exact uμ1.tr (fj_Mo_adds_52 a1 a2 _ h)
    · rw [if_neg hc] at h
      rcases (Classical.em ((100000 : Int64) < a1)) with hc | hc
      · rw [if_pos hc] at h
        exact uμ1.tr (fj_Mo_adds_52 a1 a2 _ h)
      · rw [if_neg hc] at h
        rcases (Classical.em (a2 < (-100000 : Int64))) with hc | hc
        · rw [if_pos hc] at h
          exact uμ1.tr (fj_Mo_adds_52 a1 a2 _ h)
        · rw [if_neg hc] at h
          rcases (Classical.em (a2 ≤ (100000 : Int64))) with hc | hc
          · rw [if_pos hc] at h
            exact uμ1.tr (fj_Mo_adds_57 a1 a2 _ h)
          · rw [if_neg hc] at h
            exact uμ1.tr (fj_Mo_adds_52 a1 a2 _ h)
theorem fj_Mo_halves_356 (a1 : Int32) {q : Mem} {c_56 : Int32 → Int32 → Int32 → Mem → Option (Mem)} (hf_56 : ∀ (y2 : Int32) (y3 : Int32) (y4 : Int32) (μ : Mem), c_56 y2 y3 y4 μ = some q → Un [375, 376, 2237] μ q) (y2 : Int32) (y3 : Int32) (y4 : Int32) (μ : Mem) (h : mj_Mo_halves_356 a1 c_56 y2 y3 y4 μ = some q) : Un [375, 376, 2237] μ q := by
  unfold mj_Mo_halves_356 at h
  have uμ : Un [375, 376, 2237] μ μ := Un.rf
  obtain ⟨x35, hx35, h⟩ := ap_eq h
  exact uμ.tr (hf_56 _ _ _ _ h)
theorem fj_Mo_halves_120 (a1 : Int32) {q : Mem} {c_56 : Int32 → Int32 → Int32 → Mem → Option (Mem)} (hf_56 : ∀ (y2 : Int32) (y3 : Int32) (y4 : Int32) (μ : Mem), c_56 y2 y3 y4 μ = some q → Un [375, 376, 2237] μ q) (y2 : Int32) (y3 : Int32) (y4 : Int32) (y5 : Int64) (y7 : Int64) (y9 : Int64) (z0 : Int64) (μ : Mem) (h : mj_Mo_halves_120 a1 c_56 y2 y3 y4 y5 y7 y9 z0 μ = some q) : Un [375, 376, 2237] μ q := by
  unfold mj_Mo_halves_120 at h
  have uμ : Un [375, 376, 2237] μ μ := Un.rf
  obtain ⟨x15, hx15, h⟩ := ap_eq h
  obtain ⟨x16, hx16, h⟩ := ap_eq h
  rcases (Classical.em (a1 = (3 : Int32))).symm with hc | hc
  · rw [if_neg hc] at h
    obtain ⟨x17, hx17, h⟩ := ap_eq h
    obtain ⟨x18, hx18, h⟩ := ap_eq h
    obtain ⟨x19, hx19, h⟩ := ap_eq h
    obtain ⟨x20, hx20, h⟩ := ap_eq h
    obtain ⟨hi21, h⟩ := gu_some h
    obtain ⟨μ22, hμ22, h⟩ := ap_eq h
    have uμ22 : Un [375, 376, 2237] μ μ22 := uμ.tr (by rw [hμ22]; exact un_sL (Or.inl (by simp)) (fun _ => by decide))
    obtain ⟨hi23, h⟩ := gu_some h
    obtain ⟨μ24, hμ24, h⟩ := ap_eq h
    have uμ24 : Un [375, 376, 2237] μ μ24 := uμ22.tr (by rw [hμ24]; exact un_sL (Or.inl (by simp)) (fun _ => by decide))
    obtain ⟨hi25, h⟩ := gu_some h
    obtain ⟨μ26, hμ26, h⟩ := ap_eq h
    have uμ26 : Un [375, 376, 2237] μ μ26 := uμ24.tr (by rw [hμ26]; exact un_sL (Or.inl (by simp)) (fun _ => by decide))
    obtain ⟨hi27, h⟩ := gu_some h
    obtain ⟨μ28, hμ28, h⟩ := ap_eq h
    have uμ28 : Un [375, 376, 2237] μ μ28 := uμ26.tr (by rw [hμ28]; exact un_sL (Or.inl (by simp)) (fun _ => by decide))
    obtain ⟨hi29, h⟩ := gu_some h
    obtain ⟨μ30, hμ30, h⟩ := ap_eq h
    have uμ30 : Un [375, 376, 2237] μ μ30 := uμ28.tr (by rw [hμ30]; exact un_sL (Or.inl (by simp)) (fun _ => by decide))
    obtain ⟨hi31, h⟩ := gu_some h
    obtain ⟨μ32, hμ32, h⟩ := ap_eq h
    have uμ32 : Un [375, 376, 2237] μ μ32 := uμ30.tr (by rw [hμ32]; exact un_sL (Or.inl (by simp)) (fun _ => by decide))
    obtain ⟨hi33, h⟩ := gu_some h
    obtain ⟨μ34, hμ34, h⟩ := ap_eq h
    have uμ34 : Un [375, 376, 2237] μ μ34 := uμ32.tr (by rw [hμ34]; exact un_sL (Or.inl (by simp)) (fun _ => by decide))
    exact uμ34.tr (fj_Mo_halves_356 a1 hf_56 _ _ _ _ h)
  · rw [if_pos hc] at h
    obtain ⟨x36, hx36, h⟩ := ap_eq h
    obtain ⟨hi37, h⟩ := gu_some h
    obtain ⟨μ38, hμ38, h⟩ := ap_eq h
    have uμ38 : Un [375, 376, 2237] μ μ38 := uμ.tr (by rw [hμ38]; exact un_sL (Or.inl (by simp)) (fun _ => by decide))
    obtain ⟨hi39, h⟩ := gu_some h
    obtain ⟨μ40, hμ40, h⟩ := ap_eq h
    have uμ40 : Un [375, 376, 2237] μ μ40 := uμ38.tr (by rw [hμ40]; exact un_sL (Or.inl (by simp)) (fun _ => by decide))
    obtain ⟨hi41, h⟩ := gu_some h
    obtain ⟨μ42, hμ42, h⟩ := ap_eq h
    have uμ42 : Un [375, 376, 2237] μ μ42 := uμ40.tr (by rw [hμ42]; exact un_sL (Or.inl (by simp)) (fun _ => by decide))
    obtain ⟨hi43, h⟩ := gu_some h
    obtain ⟨μ44, hμ44, h⟩ := ap_eq h
    have uμ44 : Un [375, 376, 2237] μ μ44 := uμ42.tr (by rw [hμ44]; exact un_sL (Or.inl (by simp)) (fun _ => by decide))
    obtain ⟨hi45, h⟩ := gu_some h
    obtain ⟨μ46, hμ46, h⟩ := ap_eq h
    have uμ46 : Un [375, 376, 2237] μ μ46 := uμ44.tr (by rw [hμ46]; exact un_sL (Or.inl (by simp)) (fun _ => by decide))
    exact uμ46.tr (fj_Mo_halves_356 a1 hf_56 _ _ _ _ h)
theorem fl_Mo_halves_56 (a1 : Int32) {q : Mem} {c_362 : Mem → Option (Mem)} (hf_362 : ∀ (μ : Mem), c_362  μ = some q → Un [375, 376, 2237] μ q) : ∀ (n : Nat) (y2 : Int32) (y3 : Int32) (y4 : Int32) (μ : Mem), lp_Mo_halves_56 a1 c_362 n y2 y3 y4 μ = some q → Un [375, 376, 2237] μ q := by
  intro n
  induction n with
  | zero => intro _ _ _ _ h; cases h
  | succ n ih =>
    intro y2 y3 y4 μ h
    unfold lp_Mo_halves_56 at h
    have uμ : Un [375, 376, 2237] μ μ := Un.rf
    rcases (Classical.em ((2 : Int32) ≤ y4)) with hc | hc
    · rw [if_pos hc] at h
      exact uμ.tr (hf_362 _ h)
    · rw [if_neg hc] at h
      obtain ⟨hi48, h⟩ := gu_some h
      obtain ⟨x49, hx49, h⟩ := ap_eq h
      obtain ⟨hi50, h⟩ := gu_some h
      obtain ⟨x51, hx51, h⟩ := ap_eq h
      obtain ⟨hi52, h⟩ := gu_some h
      obtain ⟨x53, hx53, h⟩ := ap_eq h
      rcases (Classical.em (a1 = (4 : Int32))).symm with hc | hc
      · rw [if_neg hc] at h
        exact uμ.tr (fj_Mo_halves_120 a1 ih _ _ _ _ _ _ _ _ h)
      · rw [if_pos hc] at h
        obtain ⟨hi54, h⟩ := gu_some h
        exact uμ.tr (fj_Mo_halves_120 a1 ih _ _ _ _ _ _ _ _ h)
theorem fj_Mo_halves_362 (a1 : Int32) {q : Mem}  (μ : Mem) (h : mj_Mo_halves_362 a1  μ = some q) : Un [375, 376, 2237] μ q := by
  unfold mj_Mo_halves_362 at h
  have uμ : Un [375, 376, 2237] μ μ := Un.rf
  obtain ⟨μ55, hμ55, h⟩ := ap_eq h
  have uμ55 : Un [375, 376, 2237] μ μ55 := uμ.tr (by rw [hμ55]; exact un_sI (Or.inr ⟨by decide, by simp⟩) (by simp <;> omega))
  obtain rfl := Option.some.inj h
  exact uμ55
theorem fm_Mo_halves {a1 : Int32} {μ : Mem} {q : Mem} (h : m_Mo_halves a1 μ = some q) : Un [375, 376, 2237] μ q := by
  unfold m_Mo_halves at h
  have uμ : Un [375, 376, 2237] μ μ := Un.rf
  obtain ⟨x1, hx1, h⟩ := ap_eq h
  obtain ⟨x2, hx2, h⟩ := ap_eq h
  obtain ⟨hi3, h⟩ := gu_some h
  obtain ⟨hi4, h⟩ := gu_some h
  obtain ⟨μ5, hμ5, h⟩ := ap_eq h
  have uμ5 : Un [375, 376, 2237] μ μ5 := uμ.tr (by rw [hμ5]; exact un_sI (Or.inl (by simp)) (fun _ => by decide))
  obtain ⟨hi6, h⟩ := gu_some h
  obtain ⟨hi7, h⟩ := gu_some h
  obtain ⟨μ8, hμ8, h⟩ := ap_eq h
  have uμ8 : Un [375, 376, 2237] μ μ8 := uμ5.tr (by rw [hμ8]; exact un_sI (Or.inl (by simp)) (fun _ => by decide))
  exact uμ8.tr (fl_Mo_halves_56 a1 (fun _ h => fj_Mo_halves_362 a1 _ h) FU _ _ _ _ h)
theorem fl_Mo_curve_31 (a1 : Int32) (a2 : Int32) (a3 : Int32) (a4 : Int32) {q : Mem} {c_91 : Int64 → Mem → Option (Mem)} (hf_91 : ∀ (y5 : Int64) (μ : Mem), c_91 y5 μ = some q → Un [364, 365, 366, 375, 376, 2222, 2231, 2232, 2237] μ q) : ∀ (n : Nat) (y5 : Int64) (y7 : Int32) (μ : Mem), lp_Mo_curve_31 a1 a2 a3 a4 c_91 n y5 y7 μ = some q → Un [364, 365, 366, 375, 376, 2222, 2231, 2232, 2237] μ q := by
  intro n
  induction n with
  | zero => intro _ _ _ h; cases h
  | succ n ih =>
    intro y5 y7 μ h
    unfold lp_Mo_curve_31 at h
    have uμ : Un [364, 365, 366, 375, 376, 2222, 2231, 2232, 2237] μ μ := Un.rf
    rcases (Classical.em (a3 ≤ y7)) with hc | hc
    · rw [if_pos hc] at h
      exact uμ.tr (hf_91 _ _ h)
    · rw [if_neg hc] at h
      obtain ⟨hg15, h⟩ := gz_some h
      obtain ⟨x16, hx16, h⟩ := ap_eq h
      obtain ⟨hi17, h⟩ := gu_some h
      obtain ⟨hi18, h⟩ := gu_some h
      obtain ⟨μ19, hμ19, h⟩ := ap_eq h
      have uμ19 : Un [364, 365, 366, 375, 376, 2222, 2231, 2232, 2237] μ μ19 := uμ.tr (by rw [hμ19]; exact un_sL (Or.inl (by simp)) (fun _ => by decide))
      obtain ⟨hg20, h⟩ := gz_some h
      obtain ⟨x21, hx21, h⟩ := ap_eq h
      obtain ⟨hi22, h⟩ := gu_some h
      obtain ⟨hi23, h⟩ := gu_some h
      obtain ⟨μ24, hμ24, h⟩ := ap_eq h
      have uμ24 : Un [364, 365, 366, 375, 376, 2222, 2231, 2232, 2237] μ μ24 := uμ19.tr (by rw [hμ24]; exact un_sL (Or.inl (by simp)) (fun _ => by decide))
      obtain ⟨x25, hx25, h⟩ := ap_eq h
      exact uμ24.tr (ih _ _ _ h)
theorem fj_Mo_curve_156 (a1 : Int32) (a2 : Int32) (a3 : Int32) (a4 : Int32) {q : Mem} {c_91 : Int64 → Mem → Option (Mem)} (hf_91 : ∀ (y5 : Int64) (μ : Mem), c_91 y5 μ = some q → Un [364, 365, 366, 375, 376, 2222, 2231, 2232, 2237] μ q) (y5 : Int64) (y7 : Int32) (μ : Mem) (h : mj_Mo_curve_156 a1 a2 a3 a4 c_91 y5 y7 μ = some q) : Un [364, 365, 366, 375, 376, 2222, 2231, 2232, 2237] μ q := by
  unfold mj_Mo_curve_156 at h
  have uμ : Un [364, 365, 366, 375, 376, 2222, 2231, 2232, 2237] μ μ := Un.rf
  obtain ⟨μ28, hμ28, h⟩ := ap_eq h
  have uμ28 : Un [364, 365, 366, 375, 376, 2222, 2231, 2232, 2237] μ μ28 := uμ.tr (by rw [hμ28]; exact un_sI (Or.inr ⟨by decide, by simp⟩) (by simp <;> omega))
  obtain ⟨hi29, h⟩ := gu_some h
  obtain ⟨r30, hr30, h⟩ := bd_some h
  obtain ⟨hi31, h⟩ := gu_some h
  obtain ⟨r32, hr32, h⟩ := bd_some h
  obtain ⟨r33, hr33, h⟩ := bd_some h
  have ur33 : Un [364, 365, 366, 375, 376, 2222, 2231, 2232, 2237] μ r33 := uμ28.tr ((fm_Mo_adds hr33).mono (by simp))
  exact ur33.tr (hf_91 _ _ h)
theorem fl_Mo_curve_91 (a1 : Int32) (a2 : Int32) (a3 : Int32) (a4 : Int32) {q : Mem}  : ∀ (n : Nat) (y5 : Int64) (μ : Mem), lp_Mo_curve_91 a1 a2 a3 a4 n y5 μ = some q → Un [364, 365, 366, 375, 376, 2222, 2231, 2232, 2237] μ q := by
  intro n
  induction n with
  | zero => intro _ _ h; cases h
  | succ n ih =>
    intro y5 μ h
    unfold lp_Mo_curve_91 at h
    have uμ : Un [364, 365, 366, 375, 376, 2222, 2231, 2232, 2237] μ μ := Un.rf
    rcases (Classical.em (gI μ 12 (0) 37 ≤ 0)) with hc | hc
    · rw [if_pos hc] at h
      obtain rfl := Option.some.inj h
      exact uμ
    · rw [if_neg hc] at h
      rcases (Classical.em (gI μ 12 (0) 32 = 0)) with hc | hc
      · rw [if_pos hc] at h
        obtain rfl := Option.some.inj h
        exact uμ
      · rw [if_neg hc] at h
        obtain ⟨x36, hx36, h⟩ := ap_eq h
        obtain ⟨hi37, h⟩ := gu_some h
        rcases (Classical.em ((10 : Int32) ≤ gI μ 376 (0) ((gI μ 12 (0) 37) - ((1 : Int32))).toNatClampNeg)) with hc | hc
        · rw [if_pos hc] at h
          exact uμ.tr (fj_Mo_curve_156 a1 a2 a3 a4 ih _ _ _ h)
        · rw [if_neg hc] at h
          obtain ⟨r38, hr38, h⟩ := bd_some h
          rcases bcase_t (r38) with hb | hb
          · rw [iB_t hb] at h
            exact uμ.tr (fj_Mo_curve_156 a1 a2 a3 a4 ih _ _ _ h)
          · rw [iB_f hb] at h
            obtain ⟨r39, hr39, h⟩ := bd_some h
            have ur39 : Un [364, 365, 366, 375, 376, 2222, 2231, 2232, 2237] μ r39 := uμ.tr ((fm_Mo_halves hr39).mono (by simp))
            exact ur39.tr (ih _ _ h)
theorem fj_Mo_curve_14 (a1 : Int32) (a2 : Int32) (a3 : Int32) (a4 : Int32) {q : Mem}  (z0 : Int64) (μ : Mem) (h : mj_Mo_curve_14 a1 a2 a3 a4 z0 μ = some q) : Un [364, 365, 366, 375, 376, 2222, 2231, 2232, 2237] μ q := by
  unfold mj_Mo_curve_14 at h
  have uμ : Un [364, 365, 366, 375, 376, 2222, 2231, 2232, 2237] μ μ := Un.rf
  obtain ⟨μ1, hμ1, h⟩ := ap_eq h
  have uμ1 : Un [364, 365, 366, 375, 376, 2222, 2231, 2232, 2237] μ μ1 := uμ.tr (by rw [hμ1]; exact un_sI (Or.inr ⟨by decide, by simp⟩) (by simp <;> omega))
  obtain ⟨hi2, h⟩ := gu_some h
  obtain ⟨μ3, hμ3, h⟩ := ap_eq h
  have uμ3 : Un [364, 365, 366, 375, 376, 2222, 2231, 2232, 2237] μ μ3 := uμ1.tr (by rw [hμ3]; exact un_sI (Or.inl (by simp)) (fun _ => by decide))
  exact uμ3.tr (fl_Mo_curve_31 a1 a2 a3 a4 (fun _ _ h => fl_Mo_curve_91 a1 a2 a3 a4 FU _ _ h) FU _ _ _ h)
theorem fm_Mo_curve {a1 : Int32} {a2 : Int32} {a3 : Int32} {a4 : Int32} {μ : Mem} {q : Mem} (h : m_Mo_curve a1 a2 a3 a4 μ = some q) : Un [364, 365, 366, 375, 376, 2222, 2231, 2232, 2237] μ q := by
  unfold m_Mo_curve at h
  have uμ : Un [364, 365, 366, 375, 376, 2222, 2231, 2232, 2237] μ μ := Un.rf
  rcases (Classical.em (a3 = (3 : Int32))).symm with hc | hc
  · rw [if_neg hc] at h
    exact uμ.tr (fj_Mo_curve_14 a1 a2 a3 a4 _ _ h)
  · rw [if_pos hc] at h
    exact uμ.tr (fj_Mo_curve_14 a1 a2 a3 a4 _ _ h)
theorem fl_Mo_outlineOf_75 (a1 : Int32) (a2 : Int32) (a3 : Int32) (a4 : Int32) {q : Mem} {c_206 : Int32 → Int32 → Int32 → Int64 → Int64 → Mem → Option (Mem)} (hf_206 : ∀ (y5 : Int32) (y6 : Int32) (y7 : Int32) (y8 : Int64) (y10 : Int64) (μ : Mem), c_206 y5 y6 y7 y8 y10 μ = some q → Un [364, 365, 366, 373, 374, 375, 376, 2222, 2223, 2231, 2232, 2237, 2238] μ q) : ∀ (n : Nat) (y5 : Int32) (y6 : Int32) (y7 : Int32) (y8 : Int64) (y10 : Int64) (y12 : Int32) (μ : Mem), lp_Mo_outlineOf_75 a1 a2 a3 a4 c_206 n y5 y6 y7 y8 y10 y12 μ = some q → Un [364, 365, 366, 373, 374, 375, 376, 2222, 2223, 2231, 2232, 2237, 2238] μ q := by
  intro n
  induction n with
  | zero => intro _ _ _ _ _ _ _ h; cases h
  | succ n ih =>
    intro y5 y6 y7 y8 y10 y12 μ h
    unfold lp_Mo_outlineOf_75 at h
    have uμ : Un [364, 365, 366, 373, 374, 375, 376, 2222, 2223, 2231, 2232, 2237, 2238] μ μ := Un.rf
    rcases (Classical.em (y12 < 0)) with hc | hc
    · rw [if_pos hc] at h
      exact uμ.tr (hf_206 _ _ _ _ _ _ h)
    · rw [if_neg hc] at h
      obtain ⟨hi23, h⟩ := gu_some h
      obtain ⟨hi24, h⟩ := gu_some h
      obtain ⟨x25, hx25, h⟩ := ap_eq h
      obtain ⟨hi26, h⟩ := gu_some h
      obtain ⟨hi27, h⟩ := gu_some h
      obtain ⟨r28, hr28, h⟩ := bd_some h
      obtain ⟨hi29, h⟩ := gu_some h
      obtain ⟨x30, hx30, h⟩ := ap_eq h
      obtain ⟨hi31, h⟩ := gu_some h
      obtain ⟨hi32, h⟩ := gu_some h
      obtain ⟨r33, hr33, h⟩ := bd_some h
      obtain ⟨hi34, h⟩ := gu_some h
      obtain ⟨x35, hx35, h⟩ := ap_eq h
      obtain ⟨x36, hx36, h⟩ := ap_eq h
      exact uμ.tr (ih _ _ _ _ _ _ _ h)
theorem fj_Mo_outlineOf_206 (a1 : Int32) (a2 : Int32) (a3 : Int32) (a4 : Int32) {q : Mem} {c_27 : Int32 → Int32 → Int32 → Mem → Option (Mem)} (hf_27 : ∀ (y5 : Int32) (y6 : Int32) (y7 : Int32) (μ : Mem), c_27 y5 y6 y7 μ = some q → Un [364, 365, 366, 373, 374, 375, 376, 2222, 2223, 2231, 2232, 2237, 2238] μ q) (y5 : Int32) (y6 : Int32) (y7 : Int32) (y8 : Int64) (y10 : Int64) (μ : Mem) (h : mj_Mo_outlineOf_206 a1 a2 a3 a4 c_27 y5 y6 y7 y8 y10 μ = some q) : Un [364, 365, 366, 373, 374, 375, 376, 2222, 2223, 2231, 2232, 2237, 2238] μ q := by
  unfold mj_Mo_outlineOf_206 at h
  have uμ : Un [364, 365, 366, 373, 374, 375, 376, 2222, 2223, 2231, 2232, 2237, 2238] μ μ := Un.rf
  obtain ⟨hi37, h⟩ := gu_some h
  obtain ⟨μ38, hμ38, h⟩ := ap_eq h
  have uμ38 : Un [364, 365, 366, 373, 374, 375, 376, 2222, 2223, 2231, 2232, 2237, 2238] μ μ38 := uμ.tr (by rw [hμ38]; exact un_sL (Or.inl (by simp)) (fun _ => by decide))
  obtain ⟨hi39, h⟩ := gu_some h
  obtain ⟨μ40, hμ40, h⟩ := ap_eq h
  have uμ40 : Un [364, 365, 366, 373, 374, 375, 376, 2222, 2223, 2231, 2232, 2237, 2238] μ μ40 := uμ38.tr (by rw [hμ40]; exact un_sL (Or.inl (by simp)) (fun _ => by decide))
  obtain ⟨x41, hx41, h⟩ := ap_eq h
  exact uμ40.tr (hf_27 _ _ _ _ h)
theorem fl_Mo_outlineOf_27 (a1 : Int32) (a2 : Int32) (a3 : Int32) (a4 : Int32) {q : Mem} {c_230 : Int32 → Int32 → Mem → Option (Mem)} (hf_230 : ∀ (y5 : Int32) (y6 : Int32) (μ : Mem), c_230 y5 y6 μ = some q → Un [364, 365, 366, 373, 374, 375, 376, 2222, 2223, 2231, 2232, 2237, 2238] μ q) : ∀ (n : Nat) (y5 : Int32) (y6 : Int32) (y7 : Int32) (μ : Mem), lp_Mo_outlineOf_27 a1 a2 a3 a4 c_230 n y5 y6 y7 μ = some q → Un [364, 365, 366, 373, 374, 375, 376, 2222, 2223, 2231, 2232, 2237, 2238] μ q := by
  intro n
  induction n with
  | zero => intro _ _ _ _ h; cases h
  | succ n ih =>
    intro y5 y6 y7 μ h
    unfold lp_Mo_outlineOf_27 at h
    have uμ : Un [364, 365, 366, 373, 374, 375, 376, 2222, 2223, 2231, 2232, 2237, 2238] μ μ := Un.rf
    rcases (Classical.em (y6 ≤ y7)) with hc | hc
    · rw [if_pos hc] at h
      exact uμ.tr (hf_230 _ _ _ h)
    · rw [if_neg hc] at h
      obtain ⟨hi42, h⟩ := gu_some h
      obtain ⟨x43, hx43, h⟩ := ap_eq h
      obtain ⟨hi44, h⟩ := gu_some h
      obtain ⟨x45, hx45, h⟩ := ap_eq h
      obtain ⟨x46, hx46, h⟩ := ap_eq h
      exact uμ.tr (fl_Mo_outlineOf_75 a1 a2 a3 a4 (fun _ _ _ _ _ _ h => fj_Mo_outlineOf_206 a1 a2 a3 a4 ih _ _ _ _ _ _ h) FU _ _ _ _ _ _ _ h)
theorem fj_Mo_outlineOf_365 (a1 : Int32) (a2 : Int32) (a3 : Int32) (a4 : Int32) {q : Mem} {c_257 : Int32 → Int32 → Int32 → Mem → Option (Mem)} (hf_257 : ∀ (y5 : Int32) (y6 : Int32) (y7 : Int32) (μ : Mem), c_257 y5 y6 y7 μ = some q → Un [364, 365, 366, 373, 374, 375, 376, 2222, 2223, 2231, 2232, 2237, 2238] μ q) (y5 : Int32) (y6 : Int32) (y7 : Int32) (μ : Mem) (h : mj_Mo_outlineOf_365 a1 a2 a3 a4 c_257 y5 y6 y7 μ = some q) : Un [364, 365, 366, 373, 374, 375, 376, 2222, 2223, 2231, 2232, 2237, 2238] μ q := by
  unfold mj_Mo_outlineOf_365 at h
  have uμ : Un [364, 365, 366, 373, 374, 375, 376, 2222, 2223, 2231, 2232, 2237, 2238] μ μ := Un.rf
  exact uμ.tr (hf_257 _ _ _ _ h)
theorem fj_Mo_outlineOf_301 (a1 : Int32) (a2 : Int32) (a3 : Int32) (a4 : Int32) {q : Mem} {c_257 : Int32 → Int32 → Int32 → Mem → Option (Mem)} (hf_257 : ∀ (y5 : Int32) (y6 : Int32) (y7 : Int32) (μ : Mem), c_257 y5 y6 y7 μ = some q → Un [364, 365, 366, 373, 374, 375, 376, 2222, 2223, 2231, 2232, 2237, 2238] μ q) (y5 : Int32) (y6 : Int32) (y7 : Int32) (z0 : Int32) (μ : Mem) (h : mj_Mo_outlineOf_301 a1 a2 a3 a4 c_257 y5 y6 y7 z0 μ = some q) : Un [364, 365, 366, 373, 374, 375, 376, 2222, 2223, 2231, 2232, 2237, 2238] μ q := by
  unfold mj_Mo_outlineOf_301 at h
  have uμ : Un [364, 365, 366, 373, 374, 375, 376, 2222, 2223, 2231, 2232, 2237, 2238] μ μ := Un.rf
  rcases (Classical.em (z0 = 0)).symm with hc | hc
  · rw [if_neg hc] at h
    obtain ⟨r51, hr51, h⟩ := bd_some h
    have ur51 : Un [364, 365, 366, 373, 374, 375, 376, 2222, 2223, 2231, 2232, 2237, 2238] μ r51 := uμ.tr ((fm_Mo_curve hr51).mono (by simp))
    obtain ⟨x52, hx52, h⟩ := ap_eq h
    exact ur51.tr (fj_Mo_outlineOf_365 a1 a2 a3 a4 hf_257 _ _ _ _ h)
  · rw [if_pos hc] at h
    obtain ⟨hg53, h⟩ := gz_some h
    obtain ⟨x54, hx54, h⟩ := ap_eq h
    obtain ⟨hi55, h⟩ := gu_some h
    obtain ⟨hg56, h⟩ := gz_some h
    obtain ⟨x57, hx57, h⟩ := ap_eq h
    obtain ⟨hi58, h⟩ := gu_some h
    obtain ⟨r59, hr59, h⟩ := bd_some h
    have ur59 : Un [364, 365, 366, 373, 374, 375, 376, 2222, 2223, 2231, 2232, 2237, 2238] μ r59 := uμ.tr ((fm_Mo_adds hr59).mono (by simp))
    obtain ⟨x60, hx60, h⟩ := ap_eq h
    exact ur59.tr (fj_Mo_outlineOf_365 a1 a2 a3 a4 hf_257 _ _ _ _ h)
theorem fl_Mo_outlineOf_257 (a1 : Int32) (a2 : Int32) (a3 : Int32) (a4 : Int32) {q : Mem} {c_368 : Mem → Option (Mem)} (hf_368 : ∀ (μ : Mem), c_368  μ = some q → Un [364, 365, 366, 373, 374, 375, 376, 2222, 2223, 2231, 2232, 2237, 2238] μ q) : ∀ (n : Nat) (y5 : Int32) (y6 : Int32) (y7 : Int32) (μ : Mem), lp_Mo_outlineOf_257 a1 a2 a3 a4 c_368 n y5 y6 y7 μ = some q → Un [364, 365, 366, 373, 374, 375, 376, 2222, 2223, 2231, 2232, 2237, 2238] μ q := by
  intro n
  induction n with
  | zero => intro _ _ _ _ h; cases h
  | succ n ih =>
    intro y5 y6 y7 μ h
    unfold lp_Mo_outlineOf_257 at h
    have uμ : Un [364, 365, 366, 373, 374, 375, 376, 2222, 2223, 2231, 2232, 2237, 2238] μ μ := Un.rf
    rcases (Classical.em (y6 ≤ y7)) with hc | hc
    · rw [if_pos hc] at h
      exact uμ.tr (hf_368 _ h)
    · rw [if_neg hc] at h
      rcases (Classical.em (gI μ 12 (0) 32 = 0)) with hc | hc
      · rw [if_pos hc] at h
        exact uμ.tr (hf_368 _ h)
      · rw [if_neg hc] at h
        rcases (Classical.em (y6 ≤ y7 + (1 : Int32))) with hc | hc
        · rw [if_pos hc] at h
          exact uμ.tr (fj_Mo_outlineOf_301 a1 a2 a3 a4 ih _ _ _ _ _ h)
        · rw [if_neg hc] at h
          obtain ⟨hi62, h⟩ := gu_some h
          exact uμ.tr (fj_Mo_outlineOf_301 a1 a2 a3 a4 ih _ _ _ _ _ h)
theorem fl_Mo_outlineOf_368 (a1 : Int32) (a2 : Int32) (a3 : Int32) (a4 : Int32) {q : Mem} {c_440 : Mem → Option (Mem)} (hf_440 : ∀ (μ : Mem), c_440  μ = some q → Un [364, 365, 366, 373, 374, 375, 376, 2222, 2223, 2231, 2232, 2237, 2238] μ q) : ∀ (n : Nat) (μ : Mem), lp_Mo_outlineOf_368 a1 a2 a3 a4 c_440 n μ = some q → Un [364, 365, 366, 373, 374, 375, 376, 2222, 2223, 2231, 2232, 2237, 2238] μ q := by
  intro n
  induction n with
  | zero => intro _ h; cases h
  | succ n ih =>
    intro μ h
    unfold lp_Mo_outlineOf_368 at h
    have uμ : Un [364, 365, 366, 373, 374, 375, 376, 2222, 2223, 2231, 2232, 2237, 2238] μ μ := Un.rf
    rcases (Classical.em (gI μ 12 (0) 22 ≤ (gI μ 12 (0) 38) + ((1 : Int32)))) with hc | hc
    · rw [if_pos hc] at h
      exact uμ.tr (hf_440 _ h)
    · rw [if_neg hc] at h
      obtain ⟨hi68, h⟩ := gu_some h
      obtain ⟨hi69, h⟩ := gu_some h
      rcases (Classical.em (gI μ 364 (0) ((gI μ 12 (0) 22) - ((1 : Int32))).toNatClampNeg = gI μ 364 (0) (gI μ 12 (0) 38).toNatClampNeg)).symm with hc | hc
      · rw [if_neg hc] at h
        exact uμ.tr (hf_440 _ h)
      · rw [if_pos hc] at h
        obtain ⟨hi70, h⟩ := gu_some h
        obtain ⟨hi71, h⟩ := gu_some h
        rcases (Classical.em (gI μ 365 (0) ((gI μ 12 (0) 22) - ((1 : Int32))).toNatClampNeg = gI μ 365 (0) (gI μ 12 (0) 38).toNatClampNeg)).symm with hc | hc
        · rw [if_neg hc] at h
          exact uμ.tr (hf_440 _ h)
        · rw [if_pos hc] at h
          obtain ⟨μ72, hμ72, h⟩ := ap_eq h
          have uμ72 : Un [364, 365, 366, 373, 374, 375, 376, 2222, 2223, 2231, 2232, 2237, 2238] μ μ72 := uμ.tr (by rw [hμ72]; exact un_sI (Or.inr ⟨by decide, by simp⟩) (by simp <;> omega))
          exact uμ72.tr (ih _ h)
theorem fj_Mo_outlineOf_440 (a1 : Int32) (a2 : Int32) (a3 : Int32) (a4 : Int32) {q : Mem}  (μ : Mem) (h : mj_Mo_outlineOf_440 a1 a2 a3 a4  μ = some q) : Un [364, 365, 366, 373, 374, 375, 376, 2222, 2223, 2231, 2232, 2237, 2238] μ q := by
  unfold mj_Mo_outlineOf_440 at h
  have uμ : Un [364, 365, 366, 373, 374, 375, 376, 2222, 2223, 2231, 2232, 2237, 2238] μ μ := Un.rf
  rcases (Classical.em ((gI μ 12 (0) 38) + ((1 : Int32)) < gI μ 12 (0) 22)) with hc | hc
  · rw [if_pos hc] at h
    obtain ⟨μ73, hμ73, h⟩ := ap_eq h
    have uμ73 : Un [364, 365, 366, 373, 374, 375, 376, 2222, 2223, 2231, 2232, 2237, 2238] μ μ73 := uμ.tr (by rw [hμ73]; exact un_sI (Or.inr ⟨by decide, by simp⟩) (by simp <;> omega))
    obtain rfl := Option.some.inj h
    exact uμ73
  · rw [if_neg hc] at h
    obtain ⟨μ74, hμ74, h⟩ := ap_eq h
    have uμ74 : Un [364, 365, 366, 373, 374, 375, 376, 2222, 2223, 2231, 2232, 2237, 2238] μ μ74 := uμ.tr (by rw [hμ74]; exact un_sI (Or.inr ⟨by decide, by simp⟩) (by simp <;> omega))
    obtain rfl := Option.some.inj h
    exact uμ74
theorem fj_Mo_outlineOf_230 (a1 : Int32) (a2 : Int32) (a3 : Int32) (a4 : Int32) {q : Mem}  (y5 : Int32) (y6 : Int32) (μ : Mem) (h : mj_Mo_outlineOf_230 a1 a2 a3 a4 y5 y6 μ = some q) : Un [364, 365, 366, 373, 374, 375, 376, 2222, 2223, 2231, 2232, 2237, 2238] μ q := by
  unfold mj_Mo_outlineOf_230 at h
  have uμ : Un [364, 365, 366, 373, 374, 375, 376, 2222, 2223, 2231, 2232, 2237, 2238] μ μ := Un.rf
  obtain ⟨μ47, hμ47, h⟩ := ap_eq h
  have uμ47 : Un [364, 365, 366, 373, 374, 375, 376, 2222, 2223, 2231, 2232, 2237, 2238] μ μ47 := uμ.tr (by rw [hμ47]; exact un_sI (Or.inr ⟨by decide, by simp⟩) (by simp <;> omega))
  obtain ⟨hi48, h⟩ := gu_some h
  obtain ⟨hi49, h⟩ := gu_some h
  obtain ⟨r50, hr50, h⟩ := bd_some h
  have ur50 : Un [364, 365, 366, 373, 374, 375, 376, 2222, 2223, 2231, 2232, 2237, 2238] μ r50 := uμ47.tr ((fm_Mo_adds hr50).mono (by simp))
  exact ur50.tr (fl_Mo_outlineOf_257 a1 a2 a3 a4 (fun _ h => fl_Mo_outlineOf_368 a1 a2 a3 a4 (fun _ h => fj_Mo_outlineOf_440 a1 a2 a3 a4 _ h) FU _ h) FU _ _ _ _ h)
theorem fm_Mo_outlineOf {a1 : Int32} {a2 : Int32} {a3 : Int32} {a4 : Int32} {μ : Mem} {q : Mem} (h : m_Mo_outlineOf a1 a2 a3 a4 μ = some q) : Un [364, 365, 366, 373, 374, 375, 376, 2222, 2223, 2231, 2232, 2237, 2238] μ q := by
  unfold m_Mo_outlineOf at h
  have uμ : Un [364, 365, 366, 373, 374, 375, 376, 2222, 2223, 2231, 2232, 2237, 2238] μ μ := Un.rf
  obtain ⟨r1, hr1, h⟩ := bd_some h
  obtain ⟨hi2, h⟩ := gu_some h
  obtain ⟨x3, hx3, h⟩ := ap_eq h
  exact uμ.tr (fl_Mo_outlineOf_27 a1 a2 a3 a4 (fun _ _ _ h => fj_Mo_outlineOf_230 a1 a2 a3 a4 _ _ _ h) FU _ _ _ _ h)
theorem fj_Mo_flattens_103 (a1 : Int32) (a2 : Int32) {q : Bool × Mem} {c_36 : Int32 → Mem → Option (Bool × Mem)} (hf_36 : ∀ (y3 : Int32) (μ : Mem), c_36 y3 μ = some q → Un [360, 361, 364, 365, 366, 373, 374, 375, 376, 2222, 2223, 2231, 2232, 2237, 2238] μ q.2) (y3 : Int32) (y4 : Int32) (μ : Mem) (h : mj_Mo_flattens_103 a1 a2 c_36 y3 y4 μ = some q) : Un [360, 361, 364, 365, 366, 373, 374, 375, 376, 2222, 2223, 2231, 2232, 2237, 2238] μ q.2 := by
  unfold mj_Mo_flattens_103 at h
  have uμ : Un [360, 361, 364, 365, 366, 373, 374, 375, 376, 2222, 2223, 2231, 2232, 2237, 2238] μ μ := Un.rf
  obtain ⟨hi12, h⟩ := gu_some h
  obtain ⟨hi13, h⟩ := gu_some h
  rcases (Classical.em (gI μ 361 (0) y3.toNatClampNeg = gI μ 352 (0) y4.toNatClampNeg)).symm with hc | hc
  · rw [if_neg hc] at h
    obtain ⟨hi14, h⟩ := gu_some h
    obtain ⟨hi15, h⟩ := gu_some h
    obtain ⟨x16, hx16, h⟩ := ap_eq h
    obtain ⟨hi17, h⟩ := gu_some h
    obtain ⟨hi18, h⟩ := gu_some h
    obtain ⟨μ19, hμ19, h⟩ := ap_eq h
    have uμ19 : Un [360, 361, 364, 365, 366, 373, 374, 375, 376, 2222, 2223, 2231, 2232, 2237, 2238] μ μ19 := uμ.tr (by rw [hμ19]; exact un_sI (Or.inl (by simp)) (fun _ => by decide))
    obtain ⟨x20, hx20, h⟩ := ap_eq h
    obtain ⟨hi21, h⟩ := gu_some h
    obtain ⟨μ22, hμ22, h⟩ := ap_eq h
    have uμ22 : Un [360, 361, 364, 365, 366, 373, 374, 375, 376, 2222, 2223, 2231, 2232, 2237, 2238] μ μ22 := uμ19.tr (by rw [hμ22]; exact un_sI (Or.inl (by simp)) (fun _ => by decide))
    obtain ⟨hi23, h⟩ := gu_some h
    obtain ⟨μ24, hμ24, h⟩ := ap_eq h
    have uμ24 : Un [360, 361, 364, 365, 366, 373, 374, 375, 376, 2222, 2223, 2231, 2232, 2237, 2238] μ μ24 := uμ22.tr (by rw [hμ24]; exact un_sI (Or.inl (by simp)) (fun _ => by decide))
    exact uμ24.tr (hf_36 _ _ h)
  · rw [if_pos hc] at h
    obtain ⟨x25, hx25, h⟩ := ap_eq h
    exact uμ.tr (hf_36 _ _ h)
theorem fl_Mo_flattens_68 (a1 : Int32) (a2 : Int32) {q : Bool × Mem} {c_103 : Int32 → Int32 → Mem → Option (Bool × Mem)} (hf_103 : ∀ (y3 : Int32) (y4 : Int32) (μ : Mem), c_103 y3 y4 μ = some q → Un [360, 361, 364, 365, 366, 373, 374, 375, 376, 2222, 2223, 2231, 2232, 2237, 2238] μ q.2) : ∀ (n : Nat) (y3 : Int32) (y4 : Int32) (y5 : Int32) (μ : Mem), lp_Mo_flattens_68 a1 a2 c_103 n y3 y4 y5 μ = some q → Un [360, 361, 364, 365, 366, 373, 374, 375, 376, 2222, 2223, 2231, 2232, 2237, 2238] μ q.2 := by
  intro n
  induction n with
  | zero => intro _ _ _ _ h; cases h
  | succ n ih =>
    intro y3 y4 y5 μ h
    unfold lp_Mo_flattens_68 at h
    have uμ : Un [360, 361, 364, 365, 366, 373, 374, 375, 376, 2222, 2223, 2231, 2232, 2237, 2238] μ μ := Un.rf
    obtain ⟨hi29, h⟩ := gu_some h
    rcases (Classical.em (gI μ 343 (0) y4.toNatClampNeg ≤ y5)) with hc | hc
    · rw [if_pos hc] at h
      exact uμ.tr (hf_103 _ _ _ h)
    · rw [if_neg hc] at h
      rcases (Classical.em (gI μ 12 (0) 32 = 0)) with hc | hc
      · rw [if_pos hc] at h
        exact uμ.tr (hf_103 _ _ _ h)
      · rw [if_neg hc] at h
        obtain ⟨r30, hr30, h⟩ := bd_some h
        have ur30 : Un [360, 361, 364, 365, 366, 373, 374, 375, 376, 2222, 2223, 2231, 2232, 2237, 2238] μ r30 := uμ.tr ((fm_Mo_outlineOf hr30).mono (by simp))
        obtain ⟨x31, hx31, h⟩ := ap_eq h
        exact ur30.tr (ih _ _ _ _ h)
theorem fl_Mo_flattens_36 (a1 : Int32) (a2 : Int32) {q : Bool × Mem} {c_175 : Mem → Option (Bool × Mem)} (hf_175 : ∀ (μ : Mem), c_175  μ = some q → Un [360, 361, 364, 365, 366, 373, 374, 375, 376, 2222, 2223, 2231, 2232, 2237, 2238] μ q.2) : ∀ (n : Nat) (y3 : Int32) (μ : Mem), lp_Mo_flattens_36 a1 a2 c_175 n y3 μ = some q → Un [360, 361, 364, 365, 366, 373, 374, 375, 376, 2222, 2223, 2231, 2232, 2237, 2238] μ q.2 := by
  intro n
  induction n with
  | zero => intro _ _ h; cases h
  | succ n ih =>
    intro y3 μ h
    unfold lp_Mo_flattens_36 at h
    have uμ : Un [360, 361, 364, 365, 366, 373, 374, 375, 376, 2222, 2223, 2231, 2232, 2237, 2238] μ μ := Un.rf
    rcases (Classical.em (y3 < 0)) with hc | hc
    · rw [if_pos hc] at h
      exact uμ.tr (hf_175 _ h)
    · rw [if_neg hc] at h
      rcases (Classical.em (gI μ 12 (0) 32 = 0)) with hc | hc
      · rw [if_pos hc] at h
        exact uμ.tr (hf_175 _ h)
      · rw [if_neg hc] at h
        obtain ⟨hi32, h⟩ := gu_some h
        obtain ⟨x33, hx33, h⟩ := ap_eq h
        obtain ⟨hi34, h⟩ := gu_some h
        rcases (Classical.em (gI μ 352 (0) x33.toNatClampNeg = 0)).symm with hc | hc
        · rw [if_neg hc] at h
          exact uμ.tr (fj_Mo_flattens_103 a1 a2 ih _ _ _ h)
        · rw [if_pos hc] at h
          exact uμ.tr (fl_Mo_flattens_68 a1 a2 (fun _ _ _ h => fj_Mo_flattens_103 a1 a2 ih _ _ _ h) FU _ _ _ _ h)
theorem fj_Mo_flattens_175 (a1 : Int32) (a2 : Int32) {q : Bool × Mem}  (μ : Mem) (h : mj_Mo_flattens_175 a1 a2  μ = some q) : Un [360, 361, 364, 365, 366, 373, 374, 375, 376, 2222, 2223, 2231, 2232, 2237, 2238] μ q.2 := by
  unfold mj_Mo_flattens_175 at h
  have uμ : Un [360, 361, 364, 365, 366, 373, 374, 375, 376, 2222, 2223, 2231, 2232, 2237, 2238] μ μ := Un.rf
  obtain ⟨B35, hB35, h⟩ := zb_some h
  obtain rfl := Option.some.inj h
  exact uμ
theorem fm_Mo_flattens {a1 : Int32} {a2 : Int32} {μ : Mem} {q : Bool × Mem} (h : m_Mo_flattens a1 a2 μ = some q) : Un [360, 361, 364, 365, 366, 373, 374, 375, 376, 2222, 2223, 2231, 2232, 2237, 2238] μ q.2 := by
  unfold m_Mo_flattens at h
  have uμ : Un [360, 361, 364, 365, 366, 373, 374, 375, 376, 2222, 2223, 2231, 2232, 2237, 2238] μ μ := Un.rf
  obtain ⟨μ1, hμ1, h⟩ := ap_eq h
  have uμ1 : Un [360, 361, 364, 365, 366, 373, 374, 375, 376, 2222, 2223, 2231, 2232, 2237, 2238] μ μ1 := uμ.tr (by rw [hμ1]; exact un_sI (Or.inr ⟨by decide, by simp⟩) (by simp <;> omega))
  obtain ⟨μ2, hμ2, h⟩ := ap_eq h
  have uμ2 : Un [360, 361, 364, 365, 366, 373, 374, 375, 376, 2222, 2223, 2231, 2232, 2237, 2238] μ μ2 := uμ1.tr (by rw [hμ2]; exact un_sI (Or.inr ⟨by decide, by simp⟩) (by simp <;> omega))
  obtain ⟨μ3, hμ3, h⟩ := ap_eq h
  have uμ3 : Un [360, 361, 364, 365, 366, 373, 374, 375, 376, 2222, 2223, 2231, 2232, 2237, 2238] μ μ3 := uμ2.tr (by rw [hμ3]; exact un_sI (Or.inr ⟨by decide, by simp⟩) (by simp <;> omega))
  obtain ⟨μ4, hμ4, h⟩ := ap_eq h
  have uμ4 : Un [360, 361, 364, 365, 366, 373, 374, 375, 376, 2222, 2223, 2231, 2232, 2237, 2238] μ μ4 := uμ3.tr (by rw [hμ4]; exact un_sI (Or.inr ⟨by decide, by simp⟩) (by simp <;> omega))
  obtain ⟨hi5, h⟩ := gu_some h
  obtain ⟨μ6, hμ6, h⟩ := ap_eq h
  have uμ6 : Un [360, 361, 364, 365, 366, 373, 374, 375, 376, 2222, 2223, 2231, 2232, 2237, 2238] μ μ6 := uμ4.tr (by rw [hμ6]; exact un_sI (Or.inl (by simp)) (fun _ => by decide))
  obtain ⟨hi7, h⟩ := gu_some h
  obtain ⟨μ8, hμ8, h⟩ := ap_eq h
  have uμ8 : Un [360, 361, 364, 365, 366, 373, 374, 375, 376, 2222, 2223, 2231, 2232, 2237, 2238] μ μ8 := uμ6.tr (by rw [hμ8]; exact un_sI (Or.inl (by simp)) (fun _ => by decide))
  exact uμ8.tr (fl_Mo_flattens_36 a1 a2 (fun _ h => fj_Mo_flattens_175 a1 a2 _ h) FU _ _ h)
theorem fl_Mo_told_10 {q : Mem}  : ∀ (n : Nat) (y1 : Int32) (μ : Mem), lp_Mo_told_10 n y1 μ = some q → Un [368, 369, 370, 2227] μ q := by
  intro n
  induction n with
  | zero => intro _ _ h; cases h
  | succ n ih =>
    intro y1 μ h
    unfold lp_Mo_told_10 at h
    have uμ : Un [368, 369, 370, 2227] μ μ := Un.rf
    rcases (Classical.em (gI μ 12 (0) 22 ≤ y1)) with hc | hc
    · rw [if_pos hc] at h
      obtain rfl := Option.some.inj h
      exact uμ
    · rw [if_neg hc] at h
      obtain ⟨hi12, h⟩ := gu_some h
      obtain ⟨hi13, h⟩ := gu_some h
      obtain ⟨μ14, hμ14, h⟩ := ap_eq h
      have uμ14 : Un [368, 369, 370, 2227] μ μ14 := uμ.tr (by rw [hμ14]; exact un_sI (Or.inl (by simp)) (fun _ => by decide))
      obtain ⟨hi15, h⟩ := gu_some h
      obtain ⟨hi16, h⟩ := gu_some h
      obtain ⟨μ17, hμ17, h⟩ := ap_eq h
      have uμ17 : Un [368, 369, 370, 2227] μ μ17 := uμ14.tr (by rw [hμ17]; exact un_sI (Or.inl (by simp)) (fun _ => by decide))
      obtain ⟨hi18, h⟩ := gu_some h
      obtain ⟨hi19, h⟩ := gu_some h
      obtain ⟨μ20, hμ20, h⟩ := ap_eq h
      have uμ20 : Un [368, 369, 370, 2227] μ μ20 := uμ17.tr (by rw [hμ20]; exact un_sI (Or.inl (by simp)) (fun _ => by decide))
      obtain ⟨x21, hx21, h⟩ := ap_eq h
      exact uμ20.tr (ih _ _ h)
theorem fm_Mo_told {μ : Mem} {q : Mem} (h : m_Mo_told  μ = some q) : Un [368, 369, 370, 2227] μ q := by
  unfold m_Mo_told at h
  have uμ : Un [368, 369, 370, 2227] μ μ := Un.rf
  obtain ⟨μ1, hμ1, h⟩ := ap_eq h
  have uμ1 : Un [368, 369, 370, 2227] μ μ1 := uμ.tr (by rw [hμ1]; exact un_sI (Or.inr ⟨by decide, by simp⟩) (by simp <;> omega))
  exact uμ1.tr (fl_Mo_told_10 FU _ _ h)
theorem fm_Mo_flatten {a1 : Int32} {a2 : Int32} {μ : Mem} {q : Int32 × Mem} (h : m_Mo_flatten a1 a2 μ = some q) : Un [360, 361, 364, 365, 366, 368, 369, 370, 373, 374, 375, 376, 2222, 2223, 2227, 2231, 2232, 2237, 2238] μ q.2 := by
  unfold m_Mo_flatten at h
  have uμ : Un [360, 361, 364, 365, 366, 368, 369, 370, 373, 374, 375, 376, 2222, 2223, 2227, 2231, 2232, 2237, 2238] μ μ := Un.rf
  rcases bcase_f ((m_Mo_isLetter (a1) μ)) with hb | hb
  · rw [iB_f hb] at h
    obtain rfl := Option.some.inj h
    exact uμ
  · rw [iB_t hb] at h
    rcases (Classical.em (a2 < (1 : Int32))) with hc | hc
    · rw [if_pos hc] at h
      obtain rfl := Option.some.inj h
      exact uμ
    · rw [if_neg hc] at h
      rcases (Classical.em ((256 : Int32) < a2)) with hc | hc
      · rw [if_pos hc] at h
        obtain rfl := Option.some.inj h
        exact uμ
      · rw [if_neg hc] at h
        obtain ⟨r1, hr1, h⟩ := bd_some h
        obtain ⟨μ2, hμ2, h⟩ := ap_eq h
        have uμ2 : Un [360, 361, 364, 365, 366, 368, 369, 370, 373, 374, 375, 376, 2222, 2223, 2227, 2231, 2232, 2237, 2238] μ μ2 := by rw [hμ2]; exact uμ.tr ((fm_Mo_flattens hr1).mono (by simp))
        rcases bcase_t (r1.1) with hb | hb
        · rw [iB_t hb] at h
          obtain ⟨r3, hr3, h⟩ := bd_some h
          have ur3 : Un [360, 361, 364, 365, 366, 368, 369, 370, 373, 374, 375, 376, 2222, 2223, 2227, 2231, 2232, 2237, 2238] μ r3 := uμ2.tr ((fm_Mo_told hr3).mono (by simp))
          obtain rfl := Option.some.inj h
          exact ur3
        · rw [iB_f hb] at h
          obtain rfl := Option.some.inj h
          exact uμ2
theorem fl_Mo_steps_2 (a1 : Int32) (a2 : Int32) {q : Mem} {c_22 : Mem → Option (Mem)} (hf_22 : ∀ (μ : Mem), c_22  μ = some q → Un [380] μ q) : ∀ (n : Nat) (y3 : Int32) (μ : Mem), lp_Mo_steps_2 a1 a2 c_22 n y3 μ = some q → Un [380] μ q := by
  intro n
  induction n with
  | zero => intro _ _ h; cases h
  | succ n ih =>
    intro y3 μ h
    unfold lp_Mo_steps_2 at h
    have uμ : Un [380] μ μ := Un.rf
    rcases (Classical.em ((514 : Int32) ≤ y3)) with hc | hc
    · rw [if_pos hc] at h
      exact uμ.tr (hf_22 _ h)
    · rw [if_neg hc] at h
      obtain ⟨hi4, h⟩ := gu_some h
      obtain ⟨μ5, hμ5, h⟩ := ap_eq h
      have uμ5 : Un [380] μ μ5 := uμ.tr (by rw [hμ5]; exact un_sI (Or.inl (by simp)) (fun _ => by decide))
      obtain ⟨x6, hx6, h⟩ := ap_eq h
      exact uμ5.tr (ih _ _ h)
theorem fj_Mo_steps_289 (a1 : Int32) (a2 : Int32) {q : Mem} {c_38 : Int64 → Int32 → Mem → Option (Mem)} (hf_38 : ∀ (y3 : Int64) (y5 : Int32) (μ : Mem), c_38 y3 y5 μ = some q → Un [380] μ q) (y3 : Int64) (y5 : Int32) (μ : Mem) (h : mj_Mo_steps_289 a1 a2 c_38 y3 y5 μ = some q) : Un [380] μ q := by
  unfold mj_Mo_steps_289 at h
  have uμ : Un [380] μ μ := Un.rf
  obtain ⟨x27, hx27, h⟩ := ap_eq h
  exact uμ.tr (hf_38 _ _ _ h)
theorem fj_Mo_steps_287 (a1 : Int32) (a2 : Int32) {q : Mem} {c_38 : Int64 → Int32 → Mem → Option (Mem)} (hf_38 : ∀ (y3 : Int64) (y5 : Int32) (μ : Mem), c_38 y3 y5 μ = some q → Un [380] μ q) (y3 : Int64) (y5 : Int32) (z0 : Int32) (z1 : Int32) (z2 : Int32) (μ : Mem) (h : mj_Mo_steps_287 a1 a2 c_38 y3 y5 z0 z1 z2 μ = some q) : Un [380] μ q := by
  unfold mj_Mo_steps_287 at h
  have uμ : Un [380] μ μ := Un.rf
  obtain ⟨hi29, h⟩ := gu_some h
  obtain ⟨μ30, hμ30, h⟩ := ap_eq h
  have uμ30 : Un [380] μ μ30 := uμ.tr (by rw [hμ30]; exact un_sI (Or.inl (by simp)) (fun _ => by decide))
  exact uμ30.tr (fj_Mo_steps_289 a1 a2 hf_38 _ _ _ h)
theorem fj_Mo_steps_255 (a1 : Int32) (a2 : Int32) {q : Mem} {c_38 : Int64 → Int32 → Mem → Option (Mem)} (hf_38 : ∀ (y3 : Int64) (y5 : Int32) (μ : Mem), c_38 y3 y5 μ = some q → Un [380] μ q) (y3 : Int64) (y5 : Int32) (y11 : Int32) (y18 : Int64) (z0 : Int32) (z1 : Int32) (z2 : Int32) (μ : Mem) (h : mj_Mo_steps_255 a1 a2 c_38 y3 y5 y11 y18 z0 z1 z2 μ = some q) : Un [380] μ q := by
  unfold mj_Mo_steps_255 at h
  have uμ : Un [380] μ μ := Un.rf
  obtain ⟨hi25, h⟩ := gu_some h
  obtain ⟨μ26, hμ26, h⟩ := ap_eq h
  have uμ26 : Un [380] μ μ26 := uμ.tr (by rw [hμ26]; exact un_sI (Or.inl (by simp)) (fun _ => by decide))
  rcases (Classical.em ((512 : Int64) ≤ y18)) with hc | hc
  · rw [if_pos hc] at h
    exact uμ26.tr (fj_Mo_steps_289 a1 a2 hf_38 _ _ _ h)
  · rw [if_neg hc] at h
    obtain ⟨hi28, h⟩ := gu_some h
    rcases (Classical.em (y11 = 0)) with hc | hc
    · rw [if_pos hc] at h
      exact uμ26.tr (fj_Mo_steps_287 a1 a2 hf_38 _ _ _ _ _ _ h)
    · rw [if_neg hc] at h
      exact uμ26.tr (fj_Mo_steps_287 a1 a2 hf_38 _ _ _ _ _ _ h)
theorem fj_Mo_steps_154 (a1 : Int32) (a2 : Int32) {q : Mem} {c_38 : Int64 → Int32 → Mem → Option (Mem)} (hf_38 : ∀ (y3 : Int64) (y5 : Int32) (μ : Mem), c_38 y3 y5 μ = some q → Un [380] μ q) (y3 : Int64) (y5 : Int32) (y6 : Int32) (y7 : Int64) (y11 : Int32) (y12 : Int64) (μ : Mem) (h : mj_Mo_steps_154 a1 a2 c_38 y3 y5 y6 y7 y11 y12 μ = some q) : Un [380] μ q := by
  unfold mj_Mo_steps_154 at h
  have uμ : Un [380] μ μ := Un.rf
  obtain ⟨hi16, h⟩ := gu_some h
  obtain ⟨hi17, h⟩ := gu_some h
  obtain ⟨hi18, h⟩ := gu_some h
  obtain ⟨x19, hx19, h⟩ := ap_eq h
  obtain ⟨r20, hr20, h⟩ := bd_some h
  obtain ⟨x21, hx21, h⟩ := ap_eq h
  obtain ⟨r22, hr22, h⟩ := bd_some h
  obtain ⟨x23, hx23, h⟩ := ap_eq h
  rcases (Classical.em ((0 : Int64) ≤ x23)) with hc | hc
  · rw [if_pos hc] at h
    obtain ⟨hi24, h⟩ := gu_some h
    rcases (Classical.em (y11 = 0)) with hc | hc
    · rw [if_pos hc] at h
      exact uμ.tr (fj_Mo_steps_255 a1 a2 hf_38 _ _ _ _ _ _ _ _ h)
    · rw [if_neg hc] at h
      exact uμ.tr (fj_Mo_steps_255 a1 a2 hf_38 _ _ _ _ _ _ _ _ h)
  · rw [if_neg hc] at h
    exact uμ.tr (fj_Mo_steps_289 a1 a2 hf_38 _ _ _ h)
theorem fj_Mo_steps_124 (a1 : Int32) (a2 : Int32) {q : Mem} {c_38 : Int64 → Int32 → Mem → Option (Mem)} (hf_38 : ∀ (y3 : Int64) (y5 : Int32) (μ : Mem), c_38 y3 y5 μ = some q → Un [380] μ q) (y3 : Int64) (y5 : Int32) (y6 : Int32) (y7 : Int64) (y11 : Int32) (μ : Mem) (h : mj_Mo_steps_124 a1 a2 c_38 y3 y5 y6 y7 y11 μ = some q) : Un [380] μ q := by
  unfold mj_Mo_steps_124 at h
  have uμ : Un [380] μ μ := Un.rf
  obtain ⟨hi13, h⟩ := gu_some h
  obtain ⟨hi14, h⟩ := gu_some h
  obtain ⟨x15, hx15, h⟩ := ap_eq h
  rcases (Classical.em ((0 : Int64) ≤ x15)) with hc | hc
  · rw [if_pos hc] at h
    exact uμ.tr (fj_Mo_steps_154 a1 a2 hf_38 _ _ _ _ _ _ _ h)
  · rw [if_neg hc] at h
    obtain ⟨x31, hx31, h⟩ := ap_eq h
    exact uμ.tr (fj_Mo_steps_154 a1 a2 hf_38 _ _ _ _ _ _ _ h)
theorem fj_Mo_steps_100 (a1 : Int32) (a2 : Int32) {q : Mem} {c_38 : Int64 → Int32 → Mem → Option (Mem)} (hf_38 : ∀ (y3 : Int64) (y5 : Int32) (μ : Mem), c_38 y3 y5 μ = some q → Un [380] μ q) (y3 : Int64) (y5 : Int32) (y6 : Int32) (y7 : Int64) (y9 : Int64) (z0 : Int32) (μ : Mem) (h : mj_Mo_steps_100 a1 a2 c_38 y3 y5 y6 y7 y9 z0 μ = some q) : Un [380] μ q := by
  unfold mj_Mo_steps_100 at h
  have uμ : Un [380] μ μ := Un.rf
  rcases (Classical.em (z0 = 0)).symm with hc | hc
  · rw [if_neg hc] at h
    exact uμ.tr (fj_Mo_steps_124 a1 a2 hf_38 _ _ _ _ _ _ h)
  · rw [if_pos hc] at h
    rcases (Classical.em (y3 < y9)) with hc | hc
    · rw [if_pos hc] at h
      exact uμ.tr (fj_Mo_steps_289 a1 a2 hf_38 _ _ _ h)
    · rw [if_neg hc] at h
      rcases (Classical.em (y3 < y7)) with hc | hc
      · rw [if_pos hc] at h
        exact uμ.tr (fj_Mo_steps_124 a1 a2 hf_38 _ _ _ _ _ _ h)
      · rw [if_neg hc] at h
        exact uμ.tr (fj_Mo_steps_289 a1 a2 hf_38 _ _ _ h)
theorem fj_Mo_steps_99 (a1 : Int32) (a2 : Int32) {q : Mem} {c_38 : Int64 → Int32 → Mem → Option (Mem)} (hf_38 : ∀ (y3 : Int64) (y5 : Int32) (μ : Mem), c_38 y3 y5 μ = some q → Un [380] μ q) (y3 : Int64) (y5 : Int32) (y6 : Int32) (y7 : Int64) (y9 : Int64) (μ : Mem) (h : mj_Mo_steps_99 a1 a2 c_38 y3 y5 y6 y7 y9 μ = some q) : Un [380] μ q := by
  unfold mj_Mo_steps_99 at h
  have uμ : Un [380] μ μ := Un.rf
  exact uμ.tr (fj_Mo_steps_100 a1 a2 hf_38 _ _ _ _ _ _ _ h)
theorem fl_Mo_steps_38 (a1 : Int32) (a2 : Int32) {q : Mem}  : ∀ (n : Nat) (y3 : Int64) (y5 : Int32) (μ : Mem), lp_Mo_steps_38 a1 a2 n y3 y5 μ = some q → Un [380] μ q := by
  intro n
  induction n with
  | zero => intro _ _ _ h; cases h
  | succ n ih =>
    intro y3 y5 μ h
    unfold lp_Mo_steps_38 at h
    have uμ : Un [380] μ μ := Un.rf
    rcases (Classical.em (gI μ 12 (0) 27 ≤ y5)) with hc | hc
    · rw [if_pos hc] at h
      obtain rfl := Option.some.inj h
      exact uμ
    · rw [if_neg hc] at h
      obtain ⟨r32, hr32, h⟩ := bd_some h
      obtain ⟨hi33, h⟩ := gu_some h
      obtain ⟨x34, hx34, h⟩ := ap_eq h
      obtain ⟨hi35, h⟩ := gu_some h
      obtain ⟨x36, hx36, h⟩ := ap_eq h
      rcases (Classical.em (y3 < x34)) with hc | hc
      · rw [if_pos hc] at h
        exact uμ.tr (fj_Mo_steps_99 a1 a2 ih _ _ _ _ _ _ h)
      · rw [if_neg hc] at h
        rcases (Classical.em (x36 ≤ y3)) with hc | hc
        · rw [if_pos hc] at h
          exact uμ.tr (fj_Mo_steps_99 a1 a2 ih _ _ _ _ _ _ h)
        · rw [if_neg hc] at h
          exact uμ.tr (fj_Mo_steps_100 a1 a2 ih _ _ _ _ _ _ _ h)
theorem fj_Mo_steps_22 (a1 : Int32) (a2 : Int32) {q : Mem}  (μ : Mem) (h : mj_Mo_steps_22 a1 a2  μ = some q) : Un [380] μ q := by
  unfold mj_Mo_steps_22 at h
  have uμ : Un [380] μ μ := Un.rf
  obtain ⟨x7, hx7, h⟩ := ap_eq h
  exact uμ.tr (fl_Mo_steps_38 a1 a2 FU _ _ _ h)
theorem fm_Mo_steps {a1 : Int32} {a2 : Int32} {μ : Mem} {q : Mem} (h : m_Mo_steps a1 a2 μ = some q) : Un [380] μ q := by
  unfold m_Mo_steps at h
  have uμ : Un [380] μ μ := Un.rf
  exact uμ.tr (fl_Mo_steps_2 a1 a2 (fun _ h => fj_Mo_steps_22 a1 a2 _ h) FU _ _ h)
theorem fl_Mo_image_68 (a1 : Int32) (a2 : Int32) (a3 : Int32) (a4 : Int32) {q : Int32 × Mem} {c_90 : Mem → Option (Int32 × Mem)} (hf_90 : ∀ (μ : Mem), c_90  μ = some q → Un [360, 361, 364, 365, 366, 368, 369, 370, 373, 374, 375, 376, 379, 380, 2222, 2223, 2227, 2231, 2232, 2237, 2238] μ q.2) : ∀ (n : Nat) (y5 : Int32) (μ : Mem), lp_Mo_image_68 a1 a2 a3 a4 c_90 n y5 μ = some q → Un [360, 361, 364, 365, 366, 368, 369, 370, 373, 374, 375, 376, 379, 380, 2222, 2223, 2227, 2231, 2232, 2237, 2238] μ q.2 := by
  intro n
  induction n with
  | zero => intro _ _ h; cases h
  | succ n ih =>
    intro y5 μ h
    unfold lp_Mo_image_68 at h
    have uμ : Un [360, 361, 364, 365, 366, 368, 369, 370, 373, 374, 375, 376, 379, 380, 2222, 2223, 2227, 2231, 2232, 2237, 2238] μ μ := Un.rf
    rcases (Classical.em ((4096 : Int32) ≤ y5)) with hc | hc
    · rw [if_pos hc] at h
      exact uμ.tr (hf_90 _ h)
    · rw [if_neg hc] at h
      obtain ⟨hi8, h⟩ := gu_some h
      obtain ⟨μ9, hμ9, h⟩ := ap_eq h
      have uμ9 : Un [360, 361, 364, 365, 366, 368, 369, 370, 373, 374, 375, 376, 379, 380, 2222, 2223, 2227, 2231, 2232, 2237, 2238] μ μ9 := uμ.tr (by rw [hμ9]; exact un_sI (Or.inl (by simp)) (fun _ => by decide))
      obtain ⟨x10, hx10, h⟩ := ap_eq h
      exact uμ9.tr (ih _ _ h)
theorem fj_Mo_image_200 (a1 : Int32) (a2 : Int32) (a3 : Int32) (a4 : Int32) {q : Int32 × Mem} {c_115 : Int32 → Int32 → Int32 → Mem → Option (Int32 × Mem)} (hf_115 : ∀ (y5 : Int32) (y6 : Int32) (y7 : Int32) (μ : Mem), c_115 y5 y6 y7 μ = some q → Un [360, 361, 364, 365, 366, 368, 369, 370, 373, 374, 375, 376, 379, 380, 2222, 2223, 2227, 2231, 2232, 2237, 2238] μ q.2) (y5 : Int32) (y6 : Int32) (y7 : Int32) (μ : Mem) (h : mj_Mo_image_200 a1 a2 a3 a4 c_115 y5 y6 y7 μ = some q) : Un [360, 361, 364, 365, 366, 368, 369, 370, 373, 374, 375, 376, 379, 380, 2222, 2223, 2227, 2231, 2232, 2237, 2238] μ q.2 := by
  unfold mj_Mo_image_200 at h
  have uμ : Un [360, 361, 364, 365, 366, 368, 369, 370, 373, 374, 375, 376, 379, 380, 2222, 2223, 2227, 2231, 2232, 2237, 2238] μ μ := Un.rf
  obtain ⟨x14, hx14, h⟩ := ap_eq h
  exact uμ.tr (hf_115 _ _ _ _ h)
theorem fj_Mo_image_166 (a1 : Int32) (a2 : Int32) (a3 : Int32) (a4 : Int32) {q : Int32 × Mem} {c_115 : Int32 → Int32 → Int32 → Mem → Option (Int32 × Mem)} (hf_115 : ∀ (y5 : Int32) (y6 : Int32) (y7 : Int32) (μ : Mem), c_115 y5 y6 y7 μ = some q → Un [360, 361, 364, 365, 366, 368, 369, 370, 373, 374, 375, 376, 379, 380, 2222, 2223, 2227, 2231, 2232, 2237, 2238] μ q.2) (y5 : Int32) (y6 : Int32) (y7 : Int32) (z0 : Int32) (μ : Mem) (h : mj_Mo_image_166 a1 a2 a3 a4 c_115 y5 y6 y7 z0 μ = some q) : Un [360, 361, 364, 365, 366, 368, 369, 370, 373, 374, 375, 376, 379, 380, 2222, 2223, 2227, 2231, 2232, 2237, 2238] μ q.2 := by
  unfold mj_Mo_image_166 at h
  have uμ : Un [360, 361, 364, 365, 366, 368, 369, 370, 373, 374, 375, 376, 379, 380, 2222, 2223, 2227, 2231, 2232, 2237, 2238] μ μ := Un.rf
  rcases (Classical.em (z0 = 0)) with hc | hc
  · rw [if_pos hc] at h
    exact uμ.tr (fj_Mo_image_200 a1 a2 a3 a4 hf_115 _ _ _ _ h)
  · rw [if_neg hc] at h
    obtain ⟨hi15, h⟩ := gu_some h
    obtain ⟨hi16, h⟩ := gu_some h
    obtain ⟨μ17, hμ17, h⟩ := ap_eq h
    have uμ17 : Un [360, 361, 364, 365, 366, 368, 369, 370, 373, 374, 375, 376, 379, 380, 2222, 2223, 2227, 2231, 2232, 2237, 2238] μ μ17 := uμ.tr (by rw [hμ17]; exact un_sI (Or.inl (by simp)) (fun _ => by decide))
    exact uμ17.tr (fj_Mo_image_200 a1 a2 a3 a4 hf_115 _ _ _ _ h)
theorem fl_Mo_image_115 (a1 : Int32) (a2 : Int32) (a3 : Int32) (a4 : Int32) {q : Int32 × Mem} {c_206 : Int32 → Mem → Option (Int32 × Mem)} (hf_206 : ∀ (y5 : Int32) (μ : Mem), c_206 y5 μ = some q → Un [360, 361, 364, 365, 366, 368, 369, 370, 373, 374, 375, 376, 379, 380, 2222, 2223, 2227, 2231, 2232, 2237, 2238] μ q.2) : ∀ (n : Nat) (y5 : Int32) (y6 : Int32) (y7 : Int32) (μ : Mem), lp_Mo_image_115 a1 a2 a3 a4 c_206 n y5 y6 y7 μ = some q → Un [360, 361, 364, 365, 366, 368, 369, 370, 373, 374, 375, 376, 379, 380, 2222, 2223, 2227, 2231, 2232, 2237, 2238] μ q.2 := by
  intro n
  induction n with
  | zero => intro _ _ _ _ h; cases h
  | succ n ih =>
    intro y5 y6 y7 μ h
    unfold lp_Mo_image_115 at h
    have uμ : Un [360, 361, 364, 365, 366, 368, 369, 370, 373, 374, 375, 376, 379, 380, 2222, 2223, 2227, 2231, 2232, 2237, 2238] μ μ := Un.rf
    rcases (Classical.em ((512 : Int32) ≤ y7)) with hc | hc
    · rw [if_pos hc] at h
      exact uμ.tr (hf_206 _ _ h)
    · rw [if_neg hc] at h
      obtain ⟨hi18, h⟩ := gu_some h
      obtain ⟨x19, hx19, h⟩ := ap_eq h
      rcases (Classical.em (a4 = 0)).symm with hc | hc
      · rw [if_neg hc] at h
        rcases (Classical.em (x19 &&& (1 : Int32) = (1 : Int32))).symm with hc | hc
        · rw [if_neg hc] at h
          exact uμ.tr (fj_Mo_image_166 a1 a2 a3 a4 ih _ _ _ _ _ h)
        · rw [if_pos hc] at h
          exact uμ.tr (fj_Mo_image_166 a1 a2 a3 a4 ih _ _ _ _ _ h)
      · rw [if_pos hc] at h
        rcases (Classical.em (x19 = 0)) with hc | hc
        · rw [if_pos hc] at h
          exact uμ.tr (fj_Mo_image_166 a1 a2 a3 a4 ih _ _ _ _ _ h)
        · rw [if_neg hc] at h
          exact uμ.tr (fj_Mo_image_166 a1 a2 a3 a4 ih _ _ _ _ _ h)
theorem fj_Mo_image_206 (a1 : Int32) (a2 : Int32) (a3 : Int32) (a4 : Int32) {q : Int32 × Mem} {c_94 : Int32 → Mem → Option (Int32 × Mem)} (hf_94 : ∀ (y5 : Int32) (μ : Mem), c_94 y5 μ = some q → Un [360, 361, 364, 365, 366, 368, 369, 370, 373, 374, 375, 376, 379, 380, 2222, 2223, 2227, 2231, 2232, 2237, 2238] μ q.2) (y5 : Int32) (μ : Mem) (h : mj_Mo_image_206 a1 a2 a3 a4 c_94 y5 μ = some q) : Un [360, 361, 364, 365, 366, 368, 369, 370, 373, 374, 375, 376, 379, 380, 2222, 2223, 2227, 2231, 2232, 2237, 2238] μ q.2 := by
  unfold mj_Mo_image_206 at h
  have uμ : Un [360, 361, 364, 365, 366, 368, 369, 370, 373, 374, 375, 376, 379, 380, 2222, 2223, 2227, 2231, 2232, 2237, 2238] μ μ := Un.rf
  obtain ⟨x20, hx20, h⟩ := ap_eq h
  exact uμ.tr (hf_94 _ _ h)
theorem fl_Mo_image_94 (a1 : Int32) (a2 : Int32) (a3 : Int32) (a4 : Int32) {q : Int32 × Mem} {c_212 : Mem → Option (Int32 × Mem)} (hf_212 : ∀ (μ : Mem), c_212  μ = some q → Un [360, 361, 364, 365, 366, 368, 369, 370, 373, 374, 375, 376, 379, 380, 2222, 2223, 2227, 2231, 2232, 2237, 2238] μ q.2) : ∀ (n : Nat) (y5 : Int32) (μ : Mem), lp_Mo_image_94 a1 a2 a3 a4 c_212 n y5 μ = some q → Un [360, 361, 364, 365, 366, 368, 369, 370, 373, 374, 375, 376, 379, 380, 2222, 2223, 2227, 2231, 2232, 2237, 2238] μ q.2 := by
  intro n
  induction n with
  | zero => intro _ _ h; cases h
  | succ n ih =>
    intro y5 μ h
    unfold lp_Mo_image_94 at h
    have uμ : Un [360, 361, 364, 365, 366, 368, 369, 370, 373, 374, 375, 376, 379, 380, 2222, 2223, 2227, 2231, 2232, 2237, 2238] μ μ := Un.rf
    rcases (Classical.em ((384 : Int32) ≤ y5)) with hc | hc
    · rw [if_pos hc] at h
      exact uμ.tr (hf_212 _ h)
    · rw [if_neg hc] at h
      obtain ⟨r21, hr21, h⟩ := bd_some h
      have ur21 : Un [360, 361, 364, 365, 366, 368, 369, 370, 373, 374, 375, 376, 379, 380, 2222, 2223, 2227, 2231, 2232, 2237, 2238] μ r21 := uμ.tr ((fm_Mo_steps hr21).mono (by simp))
      exact ur21.tr (fl_Mo_image_115 a1 a2 a3 a4 (fun _ _ h => fj_Mo_image_206 a1 a2 a3 a4 ih _ _ h) FU _ _ _ _ h)
theorem fj_Mo_image_239 (a1 : Int32) (a2 : Int32) (a3 : Int32) (a4 : Int32) {q : Int32 × Mem} {c_218 : Int32 → Int32 → Mem → Option (Int32 × Mem)} (hf_218 : ∀ (y5 : Int32) (y6 : Int32) (μ : Mem), c_218 y5 y6 μ = some q → Un [360, 361, 364, 365, 366, 368, 369, 370, 373, 374, 375, 376, 379, 380, 2222, 2223, 2227, 2231, 2232, 2237, 2238] μ q.2) (y5 : Int32) (y6 : Int32) (μ : Mem) (h : mj_Mo_image_239 a1 a2 a3 a4 c_218 y5 y6 μ = some q) : Un [360, 361, 364, 365, 366, 368, 369, 370, 373, 374, 375, 376, 379, 380, 2222, 2223, 2227, 2231, 2232, 2237, 2238] μ q.2 := by
  unfold mj_Mo_image_239 at h
  have uμ : Un [360, 361, 364, 365, 366, 368, 369, 370, 373, 374, 375, 376, 379, 380, 2222, 2223, 2227, 2231, 2232, 2237, 2238] μ μ := Un.rf
  obtain ⟨x23, hx23, h⟩ := ap_eq h
  exact uμ.tr (hf_218 _ _ _ h)
theorem fl_Mo_image_218 (a1 : Int32) (a2 : Int32) (a3 : Int32) (a4 : Int32) {q : Int32 × Mem}  : ∀ (n : Nat) (y5 : Int32) (y6 : Int32) (μ : Mem), lp_Mo_image_218 a1 a2 a3 a4 n y5 y6 μ = some q → Un [360, 361, 364, 365, 366, 368, 369, 370, 373, 374, 375, 376, 379, 380, 2222, 2223, 2227, 2231, 2232, 2237, 2238] μ q.2 := by
  intro n
  induction n with
  | zero => intro _ _ _ h; cases h
  | succ n ih =>
    intro y5 y6 μ h
    unfold lp_Mo_image_218 at h
    have uμ : Un [360, 361, 364, 365, 366, 368, 369, 370, 373, 374, 375, 376, 379, 380, 2222, 2223, 2227, 2231, 2232, 2237, 2238] μ μ := Un.rf
    rcases (Classical.em ((4096 : Int32) ≤ y6)) with hc | hc
    · rw [if_pos hc] at h
      obtain rfl := Option.some.inj h
      exact uμ
    · rw [if_neg hc] at h
      obtain ⟨hi25, h⟩ := gu_some h
      rcases (Classical.em (gI μ 379 (0) y6.toNatClampNeg ≤ 0)) with hc | hc
      · rw [if_pos hc] at h
        exact uμ.tr (fj_Mo_image_239 a1 a2 a3 a4 ih _ _ _ h)
      · rw [if_neg hc] at h
        obtain ⟨x26, hx26, h⟩ := ap_eq h
        exact uμ.tr (fj_Mo_image_239 a1 a2 a3 a4 ih _ _ _ h)
theorem fj_Mo_image_212 (a1 : Int32) (a2 : Int32) (a3 : Int32) (a4 : Int32) {q : Int32 × Mem}  (μ : Mem) (h : mj_Mo_image_212 a1 a2 a3 a4  μ = some q) : Un [360, 361, 364, 365, 366, 368, 369, 370, 373, 374, 375, 376, 379, 380, 2222, 2223, 2227, 2231, 2232, 2237, 2238] μ q.2 := by
  unfold mj_Mo_image_212 at h
  have uμ : Un [360, 361, 364, 365, 366, 368, 369, 370, 373, 374, 375, 376, 379, 380, 2222, 2223, 2227, 2231, 2232, 2237, 2238] μ μ := Un.rf
  exact uμ.tr (fl_Mo_image_218 a1 a2 a3 a4 FU _ _ _ h)
theorem fj_Mo_image_90 (a1 : Int32) (a2 : Int32) (a3 : Int32) (a4 : Int32) {q : Int32 × Mem}  (μ : Mem) (h : mj_Mo_image_90 a1 a2 a3 a4  μ = some q) : Un [360, 361, 364, 365, 366, 368, 369, 370, 373, 374, 375, 376, 379, 380, 2222, 2223, 2227, 2231, 2232, 2237, 2238] μ q.2 := by
  unfold mj_Mo_image_90 at h
  have uμ : Un [360, 361, 364, 365, 366, 368, 369, 370, 373, 374, 375, 376, 379, 380, 2222, 2223, 2227, 2231, 2232, 2237, 2238] μ μ := Un.rf
  exact uμ.tr (fl_Mo_image_94 a1 a2 a3 a4 (fun _ h => fj_Mo_image_212 a1 a2 a3 a4 _ h) FU _ _ h)
theorem fm_Mo_image {a1 : Int32} {a2 : Int32} {a3 : Int32} {a4 : Int32} {μ : Mem} {q : Int32 × Mem} (h : m_Mo_image a1 a2 a3 a4 μ = some q) : Un [360, 361, 364, 365, 366, 368, 369, 370, 373, 374, 375, 376, 379, 380, 2222, 2223, 2227, 2231, 2232, 2237, 2238] μ q.2 := by
  unfold m_Mo_image at h
  have uμ : Un [360, 361, 364, 365, 366, 368, 369, 370, 373, 374, 375, 376, 379, 380, 2222, 2223, 2227, 2231, 2232, 2237, 2238] μ μ := Un.rf
  rcases bcase_f ((m_Mo_isLetter (a1) μ)) with hb | hb
  · rw [iB_f hb] at h
    obtain rfl := Option.some.inj h
    exact uμ
  · rw [iB_t hb] at h
    rcases (Classical.em (a2 < (1 : Int32))) with hc | hc
    · rw [if_pos hc] at h
      obtain rfl := Option.some.inj h
      exact uμ
    · rw [if_neg hc] at h
      rcases (Classical.em ((256 : Int32) < a2)) with hc | hc
      · rw [if_pos hc] at h
        obtain rfl := Option.some.inj h
        exact uμ
      · rw [if_neg hc] at h
        rcases (Classical.em (a3 < (4 : Int32))) with hc | hc
        · rw [if_pos hc] at h
          obtain rfl := Option.some.inj h
          exact uμ
        · rw [if_neg hc] at h
          rcases (Classical.em ((32 : Int32) < a3)) with hc | hc
          · rw [if_pos hc] at h
            obtain rfl := Option.some.inj h
            exact uμ
          · rw [if_neg hc] at h
            rcases (Classical.em (a4 < 0)) with hc | hc
            · rw [if_pos hc] at h
              obtain rfl := Option.some.inj h
              exact uμ
            · rw [if_neg hc] at h
              rcases (Classical.em ((1 : Int32) < a4)) with hc | hc
              · rw [if_pos hc] at h
                obtain rfl := Option.some.inj h
                exact uμ
              · rw [if_neg hc] at h
                obtain ⟨r1, hr1, h⟩ := bd_some h
                obtain ⟨μ2, hμ2, h⟩ := ap_eq h
                have uμ2 : Un [360, 361, 364, 365, 366, 368, 369, 370, 373, 374, 375, 376, 379, 380, 2222, 2223, 2227, 2231, 2232, 2237, 2238] μ μ2 := by rw [hμ2]; exact uμ.tr ((fm_Mo_flattens hr1).mono (by simp))
                rcases bcase_f (r1.1) with hb | hb
                · rw [iB_f hb] at h
                  obtain rfl := Option.some.inj h
                  exact uμ2
                · rw [iB_t hb] at h
                  obtain ⟨r3, hr3, h⟩ := bd_some h
                  rcases bcase_t (r3) with hb | hb
                  · rw [iB_t hb] at h
                    obtain ⟨r4, hr4, h⟩ := bd_some h
                    have ur4 : Un [360, 361, 364, 365, 366, 368, 369, 370, 373, 374, 375, 376, 379, 380, 2222, 2223, 2227, 2231, 2232, 2237, 2238] μ r4 := uμ2.tr ((fm_Mo_told hr4).mono (by simp))
                    exact ur4.tr (fl_Mo_image_68 a1 a2 a3 a4 (fun _ h => fj_Mo_image_90 a1 a2 a3 a4 _ h) FU _ _ h)
                  · rw [iB_f hb] at h
                    obtain rfl := Option.some.inj h
                    exact uμ2
theorem fm_Mo_act {a1 : Int32} {a2 : Int32} {a3 : Int32} {μ : Mem} {q : Int32 × Mem} (h : m_Mo_act a1 a2 a3 μ = some q) : Un [357, 358, 359] μ q.2 := by
  unfold m_Mo_act at h
  have uμ : Un [357, 358, 359] μ μ := Un.rf
  rcases bcase_f ((m_Mo_isLetter (a1) μ)) with hb | hb
  · rw [iB_f hb] at h
    obtain rfl := Option.some.inj h
    exact uμ
  · rw [iB_t hb] at h
    obtain ⟨hi1, h⟩ := gu_some h
    rcases (Classical.em (0 < gI μ 352 (0) a1.toNatClampNeg)) with hc | hc
    · rw [if_pos hc] at h
      obtain rfl := Option.some.inj h
      exact uμ
    · rw [if_neg hc] at h
      rcases (Classical.em (a2 < 0)) with hc | hc
      · rw [if_pos hc] at h
        obtain rfl := Option.some.inj h
        exact uμ
      · rw [if_neg hc] at h
        rcases (Classical.em ((30 : Int32) < a2)) with hc | hc
        · rw [if_pos hc] at h
          obtain rfl := Option.some.inj h
          exact uμ
        · rw [if_neg hc] at h
          rcases (Classical.em (a3 < (-100000 : Int32))) with hc | hc
          · rw [if_pos hc] at h
            obtain rfl := Option.some.inj h
            exact uμ
          · rw [if_neg hc] at h
            rcases (Classical.em ((100000 : Int32) < a3)) with hc | hc
            · rw [if_pos hc] at h
              obtain rfl := Option.some.inj h
              exact uμ
            · rw [if_neg hc] at h
              obtain ⟨hi2, h⟩ := gu_some h
              rcases (Classical.em (gI μ 357 (0) a1.toNatClampNeg = (100 : Int32))).symm with hc | hc
              · rw [if_neg hc] at h
                obtain ⟨hi3, h⟩ := gu_some h
                obtain ⟨hi4, h⟩ := gu_some h
                obtain ⟨μ5, hμ5, h⟩ := ap_eq h
                have uμ5 : Un [357, 358, 359] μ μ5 := uμ.tr (by rw [hμ5]; exact un_sI (Or.inl (by simp)) (fun _ => by decide))
                obtain ⟨hi6, h⟩ := gu_some h
                obtain ⟨hi7, h⟩ := gu_some h
                obtain ⟨μ8, hμ8, h⟩ := ap_eq h
                have uμ8 : Un [357, 358, 359] μ μ8 := uμ5.tr (by rw [hμ8]; exact un_sI (Or.inl (by simp)) (fun _ => by decide))
                obtain ⟨hi9, h⟩ := gu_some h
                obtain ⟨hi10, h⟩ := gu_some h
                obtain ⟨μ11, hμ11, h⟩ := ap_eq h
                have uμ11 : Un [357, 358, 359] μ μ11 := uμ8.tr (by rw [hμ11]; exact un_sI (Or.inl (by simp)) (fun _ => by decide))
                obtain ⟨hi12, h⟩ := gu_some h
                obtain rfl := Option.some.inj h
                exact uμ11
              · rw [if_pos hc] at h
                obtain rfl := Option.some.inj h
                exact uμ
theorem fm_Mo_wipe {a1 : Int32} {μ : Mem} {q : Int32 × Mem} (h : m_Mo_wipe a1 μ = some q) : Un [357] μ q.2 := by
  unfold m_Mo_wipe at h
  have uμ : Un [357] μ μ := Un.rf
  rcases bcase_t ((m_Mo_isLetter (a1) μ)) with hb | hb
  · rw [iB_t hb] at h
    obtain ⟨hi1, h⟩ := gu_some h
    obtain ⟨x2, hx2, h⟩ := ap_eq h
    obtain ⟨hi3, h⟩ := gu_some h
    obtain ⟨μ4, hμ4, h⟩ := ap_eq h
    have uμ4 : Un [357] μ μ4 := uμ.tr (by rw [hμ4]; exact un_sI (Or.inl (by simp)) (fun _ => by decide))
    obtain rfl := Option.some.inj h
    exact uμ4
  · rw [iB_f hb] at h
    obtain rfl := Option.some.inj h
    exact uμ
theorem fl_Mo_fits_75 (a2k : Nat) (a2l : Nat) (a2n : Nat) (a2z : Nat) (a3k : Nat) (a3l : Nat) (a3n : Nat) (a3z : Nat) (a4k : Nat) (a4l : Nat) (a4n : Nat) (a4z : Nat) (a1 : Int32) (h13a3k : 13 ≤ a3k) {q : Mem} {c_112 : Int32 → Int32 → Int32 → Int32 → Int32 → Int32 → Mem → Option (Mem)} (hf_112 : ∀ (y5 : Int32) (y6 : Int32) (y7 : Int32) (y8 : Int32) (y9 : Int32) (y10 : Int32) (μ : Mem), c_112 y5 y6 y7 y8 y9 y10 μ = some q → Un [2252, a3k] μ q) : ∀ (n : Nat) (y5 : Int32) (y6 : Int32) (y7 : Int32) (y8 : Int32) (y9 : Int32) (y10 : Int32) (y11 : Int32) (μ : Mem), lp_Mo_fits_75 a2k a2l a2n a2z a3k a3l a3n a3z a4k a4l a4n a4z a1 c_112 n y5 y6 y7 y8 y9 y10 y11 μ = some q → Un [2252, a3k] μ q := by
  intro n
  induction n with
  | zero => intro _ _ _ _ _ _ _ _ h; cases h
  | succ n ih =>
    intro y5 y6 y7 y8 y9 y10 y11 μ h
    unfold lp_Mo_fits_75 at h
    have uμ : Un [2252, a3k] μ μ := Un.rf
    rcases (Classical.em (y7 ≤ y11)) with hc | hc
    · rw [if_pos hc] at h
      exact uμ.tr (hf_112 _ _ _ _ _ _ _ h)
    · rw [if_neg hc] at h
      obtain ⟨hi10, h⟩ := gu_some h
      rcases (Classical.em (gI μ a4k (a4l) (y6 + y9).toNatClampNeg = 0)).symm with hc | hc
      · rw [if_neg hc] at h
        exact uμ.tr (hf_112 _ _ _ _ _ _ _ h)
      · rw [if_pos hc] at h
        obtain ⟨hg11, h⟩ := gz_some h
        obtain ⟨x12, hx12, h⟩ := ap_eq h
        obtain ⟨x13, hx13, h⟩ := ap_eq h
        exact uμ.tr (ih _ _ _ _ _ _ _ _ h)
theorem fl_Mo_fits_115 (a2k : Nat) (a2l : Nat) (a2n : Nat) (a2z : Nat) (a3k : Nat) (a3l : Nat) (a3n : Nat) (a3z : Nat) (a4k : Nat) (a4l : Nat) (a4n : Nat) (a4z : Nat) (a1 : Int32) (h13a3k : 13 ≤ a3k) {q : Mem} {c_149 : Int32 → Int32 → Int32 → Int32 → Int32 → Int32 → Mem → Option (Mem)} (hf_149 : ∀ (y5 : Int32) (y6 : Int32) (y7 : Int32) (y8 : Int32) (y9 : Int32) (y10 : Int32) (μ : Mem), c_149 y5 y6 y7 y8 y9 y10 μ = some q → Un [2252, a3k] μ q) : ∀ (n : Nat) (y5 : Int32) (y6 : Int32) (y7 : Int32) (y8 : Int32) (y9 : Int32) (y10 : Int32) (y11 : Int32) (μ : Mem), lp_Mo_fits_115 a2k a2l a2n a2z a3k a3l a3n a3z a4k a4l a4n a4z a1 c_149 n y5 y6 y7 y8 y9 y10 y11 μ = some q → Un [2252, a3k] μ q := by
  intro n
  induction n with
  | zero => intro _ _ _ _ _ _ _ _ h; cases h
  | succ n ih =>
    intro y5 y6 y7 y8 y9 y10 y11 μ h
    unfold lp_Mo_fits_115 at h
    have uμ : Un [2252, a3k] μ μ := Un.rf
    rcases (Classical.em (y7 ≤ y11)) with hc | hc
    · rw [if_pos hc] at h
      exact uμ.tr (hf_149 _ _ _ _ _ _ _ h)
    · rw [if_neg hc] at h
      obtain ⟨hi18, h⟩ := gu_some h
      rcases (Classical.em (gI μ a4k (a4l) (y6 + y10).toNatClampNeg = 0)).symm with hc | hc
      · rw [if_neg hc] at h
        exact uμ.tr (hf_149 _ _ _ _ _ _ _ h)
      · rw [if_pos hc] at h
        obtain ⟨hg19, h⟩ := gz_some h
        obtain ⟨x20, hx20, h⟩ := ap_eq h
        obtain ⟨x21, hx21, h⟩ := ap_eq h
        exact uμ.tr (ih _ _ _ _ _ _ _ _ h)
theorem fj_Mo_fits_226 (a2k : Nat) (a2l : Nat) (a2n : Nat) (a2z : Nat) (a3k : Nat) (a3l : Nat) (a3n : Nat) (a3z : Nat) (a4k : Nat) (a4l : Nat) (a4n : Nat) (a4z : Nat) (a1 : Int32) (h13a3k : 13 ≤ a3k) {q : Mem} {c_43 : Int32 → Int32 → Int32 → Int32 → Mem → Option (Mem)} (hf_43 : ∀ (y5 : Int32) (y6 : Int32) (y7 : Int32) (y8 : Int32) (μ : Mem), c_43 y5 y6 y7 y8 μ = some q → Un [2252, a3k] μ q) (y5 : Int32) (y6 : Int32) (y7 : Int32) (y8 : Int32) (μ : Mem) (h : mj_Mo_fits_226 a2k a2l a2n a2z a3k a3l a3n a3z a4k a4l a4n a4z a1 c_43 y5 y6 y7 y8 μ = some q) : Un [2252, a3k] μ q := by
  unfold mj_Mo_fits_226 at h
  have uμ : Un [2252, a3k] μ μ := Un.rf
  obtain ⟨x31, hx31, h⟩ := ap_eq h
  exact uμ.tr (hf_43 _ _ _ _ _ h)
theorem fj_Mo_fits_217 (a2k : Nat) (a2l : Nat) (a2n : Nat) (a2z : Nat) (a3k : Nat) (a3l : Nat) (a3n : Nat) (a3z : Nat) (a4k : Nat) (a4l : Nat) (a4n : Nat) (a4z : Nat) (a1 : Int32) (h13a3k : 13 ≤ a3k) {q : Mem} {c_43 : Int32 → Int32 → Int32 → Int32 → Mem → Option (Mem)} (hf_43 : ∀ (y5 : Int32) (y6 : Int32) (y7 : Int32) (y8 : Int32) (μ : Mem), c_43 y5 y6 y7 y8 μ = some q → Un [2252, a3k] μ q) (y5 : Int32) (y6 : Int32) (y7 : Int32) (y8 : Int32) (y11 : Int64) (μ : Mem) (h : mj_Mo_fits_217 a2k a2l a2n a2z a3k a3l a3n a3z a4k a4l a4n a4z a1 c_43 y5 y6 y7 y8 y11 μ = some q) : Un [2252, a3k] μ q := by
  unfold mj_Mo_fits_217 at h
  have uμ : Un [2252, a3k] μ μ := Un.rf
  obtain ⟨hi29, h⟩ := gu_some h
  obtain ⟨μ30, hμ30, h⟩ := ap_eq h
  have uμ30 : Un [2252, a3k] μ μ30 := uμ.tr (by rw [hμ30]; exact un_sL (Or.inl (by simp)) (fun _ => h13a3k))
  exact uμ30.tr (fj_Mo_fits_226 a2k a2l a2n a2z a3k a3l a3n a3z a4k a4l a4n a4z a1 h13a3k hf_43 _ _ _ _ _ h)
theorem fj_Mo_fits_149 (a2k : Nat) (a2l : Nat) (a2n : Nat) (a2z : Nat) (a3k : Nat) (a3l : Nat) (a3n : Nat) (a3z : Nat) (a4k : Nat) (a4l : Nat) (a4n : Nat) (a4z : Nat) (a1 : Int32) (h13a3k : 13 ≤ a3k) {q : Mem} {c_43 : Int32 → Int32 → Int32 → Int32 → Mem → Option (Mem)} (hf_43 : ∀ (y5 : Int32) (y6 : Int32) (y7 : Int32) (y8 : Int32) (μ : Mem), c_43 y5 y6 y7 y8 μ = some q → Un [2252, a3k] μ q) (y5 : Int32) (y6 : Int32) (y7 : Int32) (y8 : Int32) (y9 : Int32) (y10 : Int32) (μ : Mem) (h : mj_Mo_fits_149 a2k a2l a2n a2z a3k a3l a3n a3z a4k a4l a4n a4z a1 c_43 y5 y6 y7 y8 y9 y10 μ = some q) : Un [2252, a3k] μ q := by
  unfold mj_Mo_fits_149 at h
  have uμ : Un [2252, a3k] μ μ := Un.rf
  obtain ⟨hi22, h⟩ := gu_some h
  rcases (Classical.em (gI μ a4k (a4l) (y6 + y9).toNatClampNeg = 0)).symm with hc | hc
  · rw [if_neg hc] at h
    obtain ⟨hi23, h⟩ := gu_some h
    obtain ⟨hi24, h⟩ := gu_some h
    obtain ⟨hi25, h⟩ := gu_some h
    obtain ⟨hi26, h⟩ := gu_some h
    obtain ⟨hi27, h⟩ := gu_some h
    obtain ⟨r28, hr28, h⟩ := bd_some h
    rcases bcase_f ((m_Mo_isFar (r28) μ)) with hb | hb
    · rw [iB_f hb] at h
      exact uμ.tr (fj_Mo_fits_217 a2k a2l a2n a2z a3k a3l a3n a3z a4k a4l a4n a4z a1 h13a3k hf_43 _ _ _ _ _ _ h)
    · rw [iB_t hb] at h
      obtain ⟨μ32, hμ32, h⟩ := ap_eq h
      have uμ32 : Un [2252, a3k] μ μ32 := uμ.tr (by rw [hμ32]; exact un_sI (Or.inr ⟨by decide, by simp⟩) (by simp <;> omega))
      exact uμ32.tr (fj_Mo_fits_217 a2k a2l a2n a2z a3k a3l a3n a3z a4k a4l a4n a4z a1 h13a3k hf_43 _ _ _ _ _ _ h)
  · rw [if_pos hc] at h
    exact uμ.tr (fj_Mo_fits_226 a2k a2l a2n a2z a3k a3l a3n a3z a4k a4l a4n a4z a1 h13a3k hf_43 _ _ _ _ _ h)
theorem fj_Mo_fits_112 (a2k : Nat) (a2l : Nat) (a2n : Nat) (a2z : Nat) (a3k : Nat) (a3l : Nat) (a3n : Nat) (a3z : Nat) (a4k : Nat) (a4l : Nat) (a4n : Nat) (a4z : Nat) (a1 : Int32) (h13a3k : 13 ≤ a3k) {q : Mem} {c_43 : Int32 → Int32 → Int32 → Int32 → Mem → Option (Mem)} (hf_43 : ∀ (y5 : Int32) (y6 : Int32) (y7 : Int32) (y8 : Int32) (μ : Mem), c_43 y5 y6 y7 y8 μ = some q → Un [2252, a3k] μ q) (y5 : Int32) (y6 : Int32) (y7 : Int32) (y8 : Int32) (y9 : Int32) (y10 : Int32) (μ : Mem) (h : mj_Mo_fits_112 a2k a2l a2n a2z a3k a3l a3n a3z a4k a4l a4n a4z a1 c_43 y5 y6 y7 y8 y9 y10 μ = some q) : Un [2252, a3k] μ q := by
  unfold mj_Mo_fits_112 at h
  have uμ : Un [2252, a3k] μ μ := Un.rf
  exact uμ.tr (fl_Mo_fits_115 a2k a2l a2n a2z a3k a3l a3n a3z a4k a4l a4n a4z a1 h13a3k (fun _ _ _ _ _ _ _ h => fj_Mo_fits_149 a2k a2l a2n a2z a3k a3l a3n a3z a4k a4l a4n a4z a1 h13a3k hf_43 _ _ _ _ _ _ _ h) FU _ _ _ _ _ _ _ _ h)
theorem fl_Mo_fits_43 (a2k : Nat) (a2l : Nat) (a2n : Nat) (a2z : Nat) (a3k : Nat) (a3l : Nat) (a3n : Nat) (a3z : Nat) (a4k : Nat) (a4l : Nat) (a4n : Nat) (a4z : Nat) (a1 : Int32) (h13a3k : 13 ≤ a3k) {q : Mem} {c_232 : Int32 → Mem → Option (Mem)} (hf_232 : ∀ (y5 : Int32) (μ : Mem), c_232 y5 μ = some q → Un [2252, a3k] μ q) : ∀ (n : Nat) (y5 : Int32) (y6 : Int32) (y7 : Int32) (y8 : Int32) (μ : Mem), lp_Mo_fits_43 a2k a2l a2n a2z a3k a3l a3n a3z a4k a4l a4n a4z a1 c_232 n y5 y6 y7 y8 μ = some q → Un [2252, a3k] μ q := by
  intro n
  induction n with
  | zero => intro _ _ _ _ _ h; cases h
  | succ n ih =>
    intro y5 y6 y7 y8 μ h
    unfold lp_Mo_fits_43 at h
    have uμ : Un [2252, a3k] μ μ := Un.rf
    rcases (Classical.em (y7 ≤ y8)) with hc | hc
    · rw [if_pos hc] at h
      exact uμ.tr (hf_232 _ _ h)
    · rw [if_neg hc] at h
      obtain ⟨hi33, h⟩ := gu_some h
      rcases (Classical.em (gI μ a4k (a4l) (y6 + y8).toNatClampNeg = 0)) with hc | hc
      · rw [if_pos hc] at h
        exact uμ.tr (fl_Mo_fits_75 a2k a2l a2n a2z a3k a3l a3n a3z a4k a4l a4n a4z a1 h13a3k (fun _ _ _ _ _ _ _ h => fj_Mo_fits_112 a2k a2l a2n a2z a3k a3l a3n a3z a4k a4l a4n a4z a1 h13a3k ih _ _ _ _ _ _ _ h) FU _ _ _ _ _ _ _ _ h)
      · rw [if_neg hc] at h
        exact uμ.tr (fj_Mo_fits_226 a2k a2l a2n a2z a3k a3l a3n a3z a4k a4l a4n a4z a1 h13a3k ih _ _ _ _ _ h)
theorem fj_Mo_fits_232 (a2k : Nat) (a2l : Nat) (a2n : Nat) (a2z : Nat) (a3k : Nat) (a3l : Nat) (a3n : Nat) (a3z : Nat) (a4k : Nat) (a4l : Nat) (a4n : Nat) (a4z : Nat) (a1 : Int32) (h13a3k : 13 ≤ a3k) {q : Mem} {c_3 : Int32 → Mem → Option (Mem)} (hf_3 : ∀ (y5 : Int32) (μ : Mem), c_3 y5 μ = some q → Un [2252, a3k] μ q) (y5 : Int32) (μ : Mem) (h : mj_Mo_fits_232 a2k a2l a2n a2z a3k a3l a3n a3z a4k a4l a4n a4z a1 c_3 y5 μ = some q) : Un [2252, a3k] μ q := by
  unfold mj_Mo_fits_232 at h
  have uμ : Un [2252, a3k] μ μ := Un.rf
  obtain ⟨x34, hx34, h⟩ := ap_eq h
  exact uμ.tr (hf_3 _ _ h)
theorem fl_Mo_fits_3 (a2k : Nat) (a2l : Nat) (a2n : Nat) (a2z : Nat) (a3k : Nat) (a3l : Nat) (a3n : Nat) (a3z : Nat) (a4k : Nat) (a4l : Nat) (a4n : Nat) (a4z : Nat) (a1 : Int32) (h13a3k : 13 ≤ a3k) {q : Mem}  : ∀ (n : Nat) (y5 : Int32) (μ : Mem), lp_Mo_fits_3 a2k a2l a2n a2z a3k a3l a3n a3z a4k a4l a4n a4z a1 n y5 μ = some q → Un [2252, a3k] μ q := by
  intro n
  induction n with
  | zero => intro _ _ h; cases h
  | succ n ih =>
    intro y5 μ h
    unfold lp_Mo_fits_3 at h
    have uμ : Un [2252, a3k] μ μ := Un.rf
    obtain ⟨hi35, h⟩ := gu_some h
    rcases (Classical.em (gI μ 343 (0) a1.toNatClampNeg ≤ y5)) with hc | hc
    · rw [if_pos hc] at h
      obtain rfl := Option.some.inj h
      exact uμ
    · rw [if_neg hc] at h
      obtain ⟨r36, hr36, h⟩ := bd_some h
      obtain ⟨hi37, h⟩ := gu_some h
      obtain ⟨x38, hx38, h⟩ := ap_eq h
      exact uμ.tr (fl_Mo_fits_43 a2k a2l a2n a2z a3k a3l a3n a3z a4k a4l a4n a4z a1 h13a3k (fun _ _ h => fj_Mo_fits_232 a2k a2l a2n a2z a3k a3l a3n a3z a4k a4l a4n a4z a1 h13a3k ih _ _ h) FU _ _ _ _ _ h)
theorem fm_Mo_fits {a1 : Int32} {a2k : Nat} {a2l : Nat} {a2n : Nat} {a2z : Nat} {a3k : Nat} {a3l : Nat} {a3n : Nat} {a3z : Nat} {a4k : Nat} {a4l : Nat} {a4n : Nat} {a4z : Nat} {μ : Mem} {q : Mem} (h13a3k : 13 ≤ a3k) (h : m_Mo_fits a1 a2k a2l a2n a2z a3k a3l a3n a3z a4k a4l a4n a4z μ = some q) : Un [2252, a3k] μ q := by
  unfold m_Mo_fits at h
  have uμ : Un [2252, a3k] μ μ := Un.rf
  exact uμ.tr (fl_Mo_fits_3 a2k a2l a2n a2z a3k a3l a3n a3z a4k a4l a4n a4z a1 h13a3k FU _ _ h)
theorem fm_Mo_pop {μ : Mem} {q : Int64 × Mem} (h : m_Mo_pop  μ = some q) : Un [2242] μ q.2 := by
  unfold m_Mo_pop at h
  have uμ : Un [2242] μ μ := Un.rf
  obtain ⟨μ1, hμ1, h⟩ := ap_eq h
  have uμ1 : Un [2242] μ μ1 := uμ.tr (by rw [hμ1]; exact un_sI (Or.inr ⟨by decide, by simp⟩) (by simp <;> omega))
  obtain ⟨hi2, h⟩ := gu_some h
  obtain rfl := Option.some.inj h
  exact uμ1
theorem fj_Mo_push_13 (a1 : Int64) {q : Mem}  (μ : Mem) (h : mj_Mo_push_13 a1  μ = some q) : Un [381, 2242, 2252] μ q := by
  unfold mj_Mo_push_13 at h
  have uμ : Un [381, 2242, 2252] μ μ := Un.rf
  obtain ⟨hi1, h⟩ := gu_some h
  obtain ⟨μ2, hμ2, h⟩ := ap_eq h
  have uμ2 : Un [381, 2242, 2252] μ μ2 := uμ.tr (by rw [hμ2]; exact un_sL (Or.inl (by simp)) (fun _ => by decide))
  obtain ⟨μ3, hμ3, h⟩ := ap_eq h
  have uμ3 : Un [381, 2242, 2252] μ μ3 := uμ2.tr (by rw [hμ3]; exact un_sI (Or.inr ⟨by decide, by simp⟩) (by simp <;> omega))
  obtain rfl := Option.some.inj h
  exact uμ3
theorem fm_Mo_push {a1 : Int64} {μ : Mem} {q : Mem} (h : m_Mo_push a1 μ = some q) : Un [381, 2242, 2252] μ q := by
  unfold m_Mo_push at h
  have uμ : Un [381, 2242, 2252] μ μ := Un.rf
  rcases bcase_f ((m_Mo_isFar (a1) μ)) with hb | hb
  · rw [iB_f hb] at h
    exact uμ.tr (fj_Mo_push_13 a1 _ h)
  · rw [iB_t hb] at h
    obtain ⟨μ4, hμ4, h⟩ := ap_eq h
    have uμ4 : Un [381, 2242, 2252] μ μ4 := uμ.tr (by rw [hμ4]; exact un_sI (Or.inr ⟨by decide, by simp⟩) (by simp <;> omega))
    exact uμ4.tr (fj_Mo_push_13 a1 _ h)
theorem fj_Mo_puts_14 (a1k : Nat) (a1l : Nat) (a1n : Nat) (a1z : Nat) (a2k : Nat) (a2l : Nat) (a2n : Nat) (a2z : Nat) (a3 : Int32) (a4 : Int64) (h13a1k : 13 ≤ a1k) (h13a2k : 13 ≤ a2k) {q : Mem}  (μ : Mem) (h : mj_Mo_puts_14 a1k a1l a1n a1z a2k a2l a2n a2z a3 a4  μ = some q) : Un [2252, a1k, a2k] μ q := by
  unfold mj_Mo_puts_14 at h
  have uμ : Un [2252, a1k, a2k] μ μ := Un.rf
  obtain ⟨hi1, h⟩ := gu_some h
  obtain ⟨μ2, hμ2, h⟩ := ap_eq h
  have uμ2 : Un [2252, a1k, a2k] μ μ2 := uμ.tr (by rw [hμ2]; exact un_sL (Or.inl (by simp)) (fun _ => h13a1k))
  obtain ⟨hi3, h⟩ := gu_some h
  obtain ⟨μ4, hμ4, h⟩ := ap_eq h
  have uμ4 : Un [2252, a1k, a2k] μ μ4 := uμ2.tr (by rw [hμ4]; exact un_sI (Or.inl (by simp)) (fun _ => h13a2k))
  obtain rfl := Option.some.inj h
  exact uμ4
theorem fm_Mo_puts {a1k : Nat} {a1l : Nat} {a1n : Nat} {a1z : Nat} {a2k : Nat} {a2l : Nat} {a2n : Nat} {a2z : Nat} {a3 : Int32} {a4 : Int64} {μ : Mem} {q : Mem} (h13a1k : 13 ≤ a1k) (h13a2k : 13 ≤ a2k) (h : m_Mo_puts a1k a1l a1n a1z a2k a2l a2n a2z a3 a4 μ = some q) : Un [2252, a1k, a2k] μ q := by
  unfold m_Mo_puts at h
  have uμ : Un [2252, a1k, a2k] μ μ := Un.rf
  rcases bcase_f ((m_Mo_isFar (a4) μ)) with hb | hb
  · rw [iB_f hb] at h
    exact uμ.tr (fj_Mo_puts_14 a1k a1l a1n a1z a2k a2l a2n a2z a3 a4 h13a1k h13a2k _ h)
  · rw [iB_t hb] at h
    obtain ⟨μ5, hμ5, h⟩ := ap_eq h
    have uμ5 : Un [2252, a1k, a2k] μ μ5 := uμ.tr (by rw [hμ5]; exact un_sI (Or.inr ⟨by decide, by simp⟩) (by simp <;> omega))
    exact uμ5.tr (fj_Mo_puts_14 a1k a1l a1n a1z a2k a2l a2n a2z a3 a4 h13a1k h13a2k _ h)
theorem fj_Mo_does_613 (a1 : Int32) (a2 : Int32) {q : Int32 × Mem}  (μ : Mem) (h : mj_Mo_does_613 a1 a2  μ = some q) : Un [381, 383, 384, 388, 389, 390, 391, 2242, 2245, 2252] μ q.2 := by
  unfold mj_Mo_does_613 at h
  have uμ : Un [381, 383, 384, 388, 389, 390, 391, 2242, 2245, 2252] μ μ := Un.rf
  obtain rfl := Option.some.inj h
  exact uμ
theorem fj_Mo_does_606 (a1 : Int32) (a2 : Int32) {q : Int32 × Mem}  (μ : Mem) (h : mj_Mo_does_606 a1 a2  μ = some q) : Un [381, 383, 384, 388, 389, 390, 391, 2242, 2245, 2252] μ q.2 := by
  unfold mj_Mo_does_606 at h
  have uμ : Un [381, 383, 384, 388, 389, 390, 391, 2242, 2245, 2252] μ μ := Un.rf
  obtain ⟨hi18, h⟩ := gu_some h
  obtain rfl := Option.some.inj h
  exact uμ
theorem fj_Mo_does_93 (a1 : Int32) (a2 : Int32) {q : Int32 × Mem}  (y3 : Int32) (y4 : Int32) (μ : Mem) (h : mj_Mo_does_93 a1 a2 y3 y4 μ = some q) : Un [381, 383, 384, 388, 389, 390, 391, 2242, 2245, 2252] μ q.2 := by
  unfold mj_Mo_does_93 at h
  have uμ : Un [381, 383, 384, 388, 389, 390, 391, 2242, 2245, 2252] μ μ := Un.rf
  by_cases hk0 : y3 = (0 : Int32)
  · rw [if_pos hk0] at h
    obtain ⟨r7, hr7, h⟩ := bd_some h
    have ur7 : Un [381, 383, 384, 388, 389, 390, 391, 2242, 2245, 2252] μ r7 := uμ.tr ((fm_Mo_push hr7).mono (by simp))
    exact ur7.tr (fj_Mo_does_613 a1 a2 _ h)
  rw [if_neg hk0] at h
  by_cases hk1 : y3 = (1 : Int32)
  · rw [if_pos hk1] at h
    obtain ⟨hi8, h⟩ := gu_some h
    obtain ⟨r9, hr9, h⟩ := bd_some h
    have ur9 : Un [381, 383, 384, 388, 389, 390, 391, 2242, 2245, 2252] μ r9 := uμ.tr ((fm_Mo_push hr9).mono (by simp))
    exact ur9.tr (fj_Mo_does_613 a1 a2 _ h)
  rw [if_neg hk1] at h
  by_cases hk2 : y3 = (2 : Int32)
  · rw [if_pos hk2] at h
    obtain ⟨μ10, hμ10, h⟩ := ap_eq h
    have uμ10 : Un [381, 383, 384, 388, 389, 390, 391, 2242, 2245, 2252] μ μ10 := uμ.tr (by rw [hμ10]; exact un_sI (Or.inr ⟨by decide, by simp⟩) (by simp <;> omega))
    exact uμ10.tr (fj_Mo_does_613 a1 a2 _ h)
  rw [if_neg hk2] at h
  by_cases hk3 : y3 = (3 : Int32)
  · rw [if_pos hk3] at h
    obtain ⟨hi11, h⟩ := gu_some h
    obtain ⟨x12, hx12, h⟩ := ap_eq h
    obtain ⟨hi13, h⟩ := gu_some h
    obtain ⟨hi14, h⟩ := gu_some h
    obtain ⟨μ15, hμ15, h⟩ := ap_eq h
    have uμ15 : Un [381, 383, 384, 388, 389, 390, 391, 2242, 2245, 2252] μ μ15 := uμ.tr (by rw [hμ15]; exact un_sL (Or.inl (by simp)) (fun _ => by decide))
    obtain ⟨hi16, h⟩ := gu_some h
    obtain ⟨μ17, hμ17, h⟩ := ap_eq h
    have uμ17 : Un [381, 383, 384, 388, 389, 390, 391, 2242, 2245, 2252] μ μ17 := uμ15.tr (by rw [hμ17]; exact un_sL (Or.inl (by simp)) (fun _ => by decide))
    exact uμ17.tr (fj_Mo_does_613 a1 a2 _ h)
  rw [if_neg hk3] at h
  by_cases hk4 : y3 = (4 : Int32)
  · rw [if_pos hk4] at h
    exact uμ.tr (fj_Mo_does_606 a1 a2 _ h)
  rw [if_neg hk4] at h
  by_cases hk5 : y3 = (5 : Int32)
  · rw [if_pos hk5] at h
    exact uμ.tr (fj_Mo_does_606 a1 a2 _ h)
  rw [if_neg hk5] at h
  by_cases hk6 : y3 = (6 : Int32)
  · rw [if_pos hk6] at h
    exact uμ.tr (fj_Mo_does_606 a1 a2 _ h)
  rw [if_neg hk6] at h
  by_cases hk7 : y3 = (7 : Int32)
  · rw [if_pos hk7] at h
    exact uμ.tr (fj_Mo_does_606 a1 a2 _ h)
  rw [if_neg hk7] at h
  by_cases hk8 : y3 = (8 : Int32)
  · rw [if_pos hk8] at h
    exact uμ.tr (fj_Mo_does_606 a1 a2 _ h)
  rw [if_neg hk8] at h
  by_cases hk9 : y3 = (9 : Int32)
  · rw [if_pos hk9] at h
    exact uμ.tr (fj_Mo_does_606 a1 a2 _ h)
  rw [if_neg hk9] at h
  by_cases hk10 : y3 = (10 : Int32)
  · rw [if_pos hk10] at h
    exact uμ.tr (fj_Mo_does_606 a1 a2 _ h)
  rw [if_neg hk10] at h
  by_cases hk11 : y3 = (11 : Int32)
  · rw [if_pos hk11] at h
    exact uμ.tr (fj_Mo_does_606 a1 a2 _ h)
  rw [if_neg hk11] at h
  by_cases hk12 : y3 = (12 : Int32)
  · rw [if_pos hk12] at h
    exact uμ.tr (fj_Mo_does_606 a1 a2 _ h)
  rw [if_neg hk12] at h
  by_cases hk13 : y3 = (13 : Int32)
  · rw [if_pos hk13] at h
    exact uμ.tr (fj_Mo_does_606 a1 a2 _ h)
  rw [if_neg hk13] at h
  by_cases hk14 : y3 = (14 : Int32)
  · rw [if_pos hk14] at h
    exact uμ.tr (fj_Mo_does_606 a1 a2 _ h)
  rw [if_neg hk14] at h
  by_cases hk15 : y3 = (15 : Int32)
  · rw [if_pos hk15] at h
    exact uμ.tr (fj_Mo_does_606 a1 a2 _ h)
  rw [if_neg hk15] at h
  by_cases hk16 : y3 = (16 : Int32)
  · rw [if_pos hk16] at h
    obtain rfl := Option.some.inj h
    exact uμ
  rw [if_neg hk16] at h
  by_cases hk17 : y3 = (17 : Int32)
  · rw [if_pos hk17] at h
    obtain ⟨r19, hr19, h⟩ := bd_some h
    obtain ⟨μ20, hμ20, h⟩ := ap_eq h
    have uμ20 : Un [381, 383, 384, 388, 389, 390, 391, 2242, 2245, 2252] μ μ20 := by rw [hμ20]; exact uμ.tr ((fm_Mo_pop hr19).mono (by simp))
    obtain ⟨x21, hx21, h⟩ := ap_eq h
    rcases (Classical.em (x21 = (0 : Int64))).symm with hc | hc
    · rw [if_neg hc] at h
      obtain rfl := Option.some.inj h
      exact uμ20
    · rw [if_pos hc] at h
      obtain rfl := Option.some.inj h
      exact uμ20
  rw [if_neg hk17] at h
  by_cases hk18 : y3 = (18 : Int32)
  · rw [if_pos hk18] at h
    obtain ⟨hi22, h⟩ := gu_some h
    obtain ⟨μ23, hμ23, h⟩ := ap_eq h
    have uμ23 : Un [381, 383, 384, 388, 389, 390, 391, 2242, 2245, 2252] μ μ23 := uμ.tr (by rw [hμ23]; exact un_sI (Or.inl (by simp)) (fun _ => by decide))
    obtain ⟨μ24, hμ24, h⟩ := ap_eq h
    have uμ24 : Un [381, 383, 384, 388, 389, 390, 391, 2242, 2245, 2252] μ μ24 := uμ23.tr (by rw [hμ24]; exact un_sI (Or.inr ⟨by decide, by simp⟩) (by simp <;> omega))
    obtain rfl := Option.some.inj h
    exact uμ24
  rw [if_neg hk18] at h
  by_cases hk19 : y3 = (19 : Int32)
  · rw [if_pos hk19] at h
    rcases (Classical.em (gI μ 12 (0) 45 = 0)).symm with hc | hc
    · rw [if_neg hc] at h
      obtain ⟨μ25, hμ25, h⟩ := ap_eq h
      have uμ25 : Un [381, 383, 384, 388, 389, 390, 391, 2242, 2245, 2252] μ μ25 := uμ.tr (by rw [hμ25]; exact un_sI (Or.inr ⟨by decide, by simp⟩) (by simp <;> omega))
      obtain ⟨hi26, h⟩ := gu_some h
      obtain rfl := Option.some.inj h
      exact uμ25
    · rw [if_pos hc] at h
      obtain ⟨hi27, h⟩ := gu_some h
      obtain rfl := Option.some.inj h
      exact uμ
  rw [if_neg hk19] at h
  by_cases hk20 : y3 = (20 : Int32)
  · rw [if_pos hk20] at h
    obtain ⟨r28, hr28, h⟩ := bd_some h
    obtain ⟨μ29, hμ29, h⟩ := ap_eq h
    have uμ29 : Un [381, 383, 384, 388, 389, 390, 391, 2242, 2245, 2252] μ μ29 := by rw [hμ29]; exact uμ.tr ((fm_Mo_pop hr28).mono (by simp))
    obtain ⟨x30, hx30, h⟩ := ap_eq h
    obtain ⟨hi31, h⟩ := gu_some h
    obtain ⟨μ32, hμ32, h⟩ := ap_eq h
    have uμ32 : Un [381, 383, 384, 388, 389, 390, 391, 2242, 2245, 2252] μ μ32 := uμ29.tr (by rw [hμ32]; exact un_sL (Or.inl (by simp)) (fun _ => by decide))
    exact uμ32.tr (fj_Mo_does_613 a1 a2 _ h)
  rw [if_neg hk20] at h
  by_cases hk21 : y3 = (21 : Int32)
  · rw [if_pos hk21] at h
    obtain ⟨hi33, h⟩ := gu_some h
    obtain ⟨r34, hr34, h⟩ := bd_some h
    have ur34 : Un [381, 383, 384, 388, 389, 390, 391, 2242, 2245, 2252] μ r34 := uμ.tr ((fm_Mo_push hr34).mono (by simp))
    exact ur34.tr (fj_Mo_does_613 a1 a2 _ h)
  rw [if_neg hk21] at h
  by_cases hk22 : y3 = (22 : Int32)
  · rw [if_pos hk22] at h
    obtain ⟨hi35, h⟩ := gu_some h
    obtain ⟨r36, hr36, h⟩ := bd_some h
    have ur36 : Un [381, 383, 384, 388, 389, 390, 391, 2242, 2245, 2252] μ r36 := uμ.tr ((fm_Mo_push hr36).mono (by simp))
    exact ur36.tr (fj_Mo_does_613 a1 a2 _ h)
  rw [if_neg hk22] at h
  by_cases hk23 : y3 = (23 : Int32)
  · rw [if_pos hk23] at h
    obtain ⟨r37, hr37, h⟩ := bd_some h
    obtain ⟨μ38, hμ38, h⟩ := ap_eq h
    have uμ38 : Un [381, 383, 384, 388, 389, 390, 391, 2242, 2245, 2252] μ μ38 := by rw [hμ38]; exact uμ.tr ((fm_Mo_pop hr37).mono (by simp))
    obtain ⟨x39, hx39, h⟩ := ap_eq h
    obtain ⟨r40, hr40, h⟩ := bd_some h
    have ur40 : Un [381, 383, 384, 388, 389, 390, 391, 2242, 2245, 2252] μ r40 := uμ38.tr ((fm_Mo_puts (by decide) (by decide) hr40).mono (by simp))
    exact ur40.tr (fj_Mo_does_613 a1 a2 _ h)
  rw [if_neg hk23] at h
  by_cases hk24 : y3 = (24 : Int32)
  · rw [if_pos hk24] at h
    obtain ⟨hi41, h⟩ := gu_some h
    obtain ⟨r42, hr42, h⟩ := bd_some h
    have ur42 : Un [381, 383, 384, 388, 389, 390, 391, 2242, 2245, 2252] μ r42 := uμ.tr ((fm_Mo_push hr42).mono (by simp))
    exact ur42.tr (fj_Mo_does_613 a1 a2 _ h)
  rw [if_neg hk24] at h
  by_cases hk25 : y3 = (25 : Int32)
  · rw [if_pos hk25] at h
    obtain ⟨r43, hr43, h⟩ := bd_some h
    obtain ⟨μ44, hμ44, h⟩ := ap_eq h
    have uμ44 : Un [381, 383, 384, 388, 389, 390, 391, 2242, 2245, 2252] μ μ44 := by rw [hμ44]; exact uμ.tr ((fm_Mo_pop hr43).mono (by simp))
    obtain ⟨x45, hx45, h⟩ := ap_eq h
    obtain ⟨r46, hr46, h⟩ := bd_some h
    have ur46 : Un [381, 383, 384, 388, 389, 390, 391, 2242, 2245, 2252] μ r46 := uμ44.tr ((fm_Mo_puts (by decide) (by decide) hr46).mono (by simp))
    exact ur46.tr (fj_Mo_does_613 a1 a2 _ h)
  rw [if_neg hk25] at h
  by_cases hk26 : y3 = (26 : Int32)
  · rw [if_pos hk26] at h
    obtain ⟨hi47, h⟩ := gu_some h
    obtain ⟨r48, hr48, h⟩ := bd_some h
    obtain ⟨r49, hr49, h⟩ := bd_some h
    have ur49 : Un [381, 383, 384, 388, 389, 390, 391, 2242, 2245, 2252] μ r49 := uμ.tr ((fm_Mo_puts (by decide) (by decide) hr49).mono (by simp))
    exact ur49.tr (fj_Mo_does_613 a1 a2 _ h)
  rw [if_neg hk26] at h
  by_cases hk27 : y3 = (27 : Int32)
  · rw [if_pos hk27] at h
    obtain ⟨hi50, h⟩ := gu_some h
    obtain ⟨r51, hr51, h⟩ := bd_some h
    obtain ⟨r52, hr52, h⟩ := bd_some h
    have ur52 : Un [381, 383, 384, 388, 389, 390, 391, 2242, 2245, 2252] μ r52 := uμ.tr ((fm_Mo_puts (by decide) (by decide) hr52).mono (by simp))
    exact ur52.tr (fj_Mo_does_613 a1 a2 _ h)
  rw [if_neg hk27] at h
  by_cases hk28 : y3 = (28 : Int32)
  · rw [if_pos hk28] at h
    obtain ⟨r53, hr53, h⟩ := bd_some h
    have ur53 : Un [381, 383, 384, 388, 389, 390, 391, 2242, 2245, 2252] μ r53 := uμ.tr ((fm_Mo_fits (by decide) hr53).mono (by simp))
    exact ur53.tr (fj_Mo_does_613 a1 a2 _ h)
  rw [if_neg hk28] at h
  by_cases hk29 : y3 = (29 : Int32)
  · rw [if_pos hk29] at h
    obtain ⟨r54, hr54, h⟩ := bd_some h
    have ur54 : Un [381, 383, 384, 388, 389, 390, 391, 2242, 2245, 2252] μ r54 := uμ.tr ((fm_Mo_fits (by decide) hr54).mono (by simp))
    exact ur54.tr (fj_Mo_does_613 a1 a2 _ h)
  rw [if_neg hk29] at h
  exact uμ.tr (fj_Mo_does_606 a1 a2 _ h)
theorem fj_Mo_does_81 (a1 : Int32) (a2 : Int32) {q : Int32 × Mem}  (y5 : Int64) (z0 : Int64) (z1 : Int32) (μ : Mem) (h : mj_Mo_does_81 a1 a2 y5 z0 z1 μ = some q) : Un [381, 383, 384, 388, 389, 390, 391, 2242, 2245, 2252] μ q.2 := by
  unfold mj_Mo_does_81 at h
  have uμ : Un [381, 383, 384, 388, 389, 390, 391, 2242, 2245, 2252] μ μ := Un.rf
  obtain ⟨r58, hr58, h⟩ := bd_some h
  obtain ⟨r59, hr59, h⟩ := bd_some h
  have ur59 : Un [381, 383, 384, 388, 389, 390, 391, 2242, 2245, 2252] μ r59 := uμ.tr ((fm_Mo_push hr59).mono (by simp))
  obtain rfl := Option.some.inj h
  exact ur59
theorem fm_Mo_does {a1 : Int32} {a2 : Int32} {μ : Mem} {q : Int32 × Mem} (h : m_Mo_does a1 a2 μ = some q) : Un [381, 383, 384, 388, 389, 390, 391, 2242, 2245, 2252] μ q.2 := by
  unfold m_Mo_does at h
  have uμ : Un [381, 383, 384, 388, 389, 390, 391, 2242, 2245, 2252] μ μ := Un.rf
  obtain ⟨hi1, h⟩ := gu_some h
  obtain ⟨x2, hx2, h⟩ := ap_eq h
  obtain ⟨hi3, h⟩ := gu_some h
  obtain ⟨x4, hx4, h⟩ := ap_eq h
  obtain ⟨r5, hr5, h⟩ := bd_some h
  obtain ⟨μ6, hμ6, h⟩ := ap_eq h
  have uμ6 : Un [381, 383, 384, 388, 389, 390, 391, 2242, 2245, 2252] μ μ6 := uμ.tr (by rw [hμ6]; exact un_sI (Or.inr ⟨by decide, by simp⟩) (by simp <;> omega))
  rcases (Classical.em (gI μ6 12 (0) 52 ≤ 0)) with hc | hc
  · rw [if_pos hc] at h
    rcases (Classical.em (x2 < (4 : Int32))) with hc | hc
    · rw [if_pos hc] at h
      exact uμ6.tr (fj_Mo_does_93 a1 a2 _ _ _ h)
    · rw [if_neg hc] at h
      rcases (Classical.em ((15 : Int32) < x2)) with hc | hc
      · rw [if_pos hc] at h
        exact uμ6.tr (fj_Mo_does_93 a1 a2 _ _ _ h)
      · rw [if_neg hc] at h
        obtain ⟨r55, hr55, h⟩ := bd_some h
        obtain ⟨μ56, hμ56, h⟩ := ap_eq h
        have uμ56 : Un [381, 383, 384, 388, 389, 390, 391, 2242, 2245, 2252] μ μ56 := by rw [hμ56]; exact uμ6.tr ((fm_Mo_pop hr55).mono (by simp))
        obtain ⟨x57, hx57, h⟩ := ap_eq h
        rcases (Classical.em ((m_Mo_wants (x2) μ56) = (2 : Int32))).symm with hc | hc
        · rw [if_neg hc] at h
          exact uμ56.tr (fj_Mo_does_81 a1 a2 _ _ _ _ h)
        · rw [if_pos hc] at h
          obtain ⟨r60, hr60, h⟩ := bd_some h
          obtain ⟨μ61, hμ61, h⟩ := ap_eq h
          have uμ61 : Un [381, 383, 384, 388, 389, 390, 391, 2242, 2245, 2252] μ μ61 := by rw [hμ61]; exact uμ56.tr ((fm_Mo_pop hr60).mono (by simp))
          obtain ⟨x62, hx62, h⟩ := ap_eq h
          exact uμ61.tr (fj_Mo_does_81 a1 a2 _ _ _ _ h)
  · rw [if_neg hc] at h
    obtain rfl := Option.some.inj h
    exact uμ6
theorem fl_Mo_run_39 (a1 : Int32) (a2 : Int32) {q : Int32 × Mem} {c_161 : Int32 → Mem → Option (Int32 × Mem)} (hf_161 : ∀ (y3 : Int32) (μ : Mem), c_161 y3 μ = some q → Un [381, 383, 384, 386, 387, 388, 389, 390, 391, 394, 395, 396, 397, 2242, 2245, 2252, 2253] μ q.2) : ∀ (n : Nat) (y3 : Int32) (y4 : Int32) (μ : Mem), lp_Mo_run_39 a1 a2 c_161 n y3 y4 μ = some q → Un [381, 383, 384, 386, 387, 388, 389, 390, 391, 394, 395, 396, 397, 2242, 2245, 2252, 2253] μ q.2 := by
  intro n
  induction n with
  | zero => intro _ _ _ h; cases h
  | succ n ih =>
    intro y3 y4 μ h
    unfold lp_Mo_run_39 at h
    have uμ : Un [381, 383, 384, 386, 387, 388, 389, 390, 391, 394, 395, 396, 397, 2242, 2245, 2252, 2253] μ μ := Un.rf
    rcases (Classical.em (y3 ≤ y4)) with hc | hc
    · rw [if_pos hc] at h
      exact uμ.tr (hf_161 _ _ h)
    · rw [if_neg hc] at h
      obtain ⟨hi22, h⟩ := gu_some h
      obtain ⟨r23, hr23, h⟩ := bd_some h
      obtain ⟨hi24, h⟩ := gu_some h
      obtain ⟨μ25, hμ25, h⟩ := ap_eq h
      have uμ25 : Un [381, 383, 384, 386, 387, 388, 389, 390, 391, 394, 395, 396, 397, 2242, 2245, 2252, 2253] μ μ25 := uμ.tr (by rw [hμ25]; exact un_sL (Or.inl (by simp)) (fun _ => by decide))
      obtain ⟨hi26, h⟩ := gu_some h
      obtain ⟨r27, hr27, h⟩ := bd_some h
      obtain ⟨hi28, h⟩ := gu_some h
      obtain ⟨μ29, hμ29, h⟩ := ap_eq h
      have uμ29 : Un [381, 383, 384, 386, 387, 388, 389, 390, 391, 394, 395, 396, 397, 2242, 2245, 2252, 2253] μ μ29 := uμ25.tr (by rw [hμ29]; exact un_sL (Or.inl (by simp)) (fun _ => by decide))
      obtain ⟨hi30, h⟩ := gu_some h
      obtain ⟨hi31, h⟩ := gu_some h
      obtain ⟨μ32, hμ32, h⟩ := ap_eq h
      have uμ32 : Un [381, 383, 384, 386, 387, 388, 389, 390, 391, 394, 395, 396, 397, 2242, 2245, 2252, 2253] μ μ32 := uμ29.tr (by rw [hμ32]; exact un_sL (Or.inl (by simp)) (fun _ => by decide))
      obtain ⟨hi33, h⟩ := gu_some h
      obtain ⟨hi34, h⟩ := gu_some h
      obtain ⟨μ35, hμ35, h⟩ := ap_eq h
      have uμ35 : Un [381, 383, 384, 386, 387, 388, 389, 390, 391, 394, 395, 396, 397, 2242, 2245, 2252, 2253] μ μ35 := uμ32.tr (by rw [hμ35]; exact un_sL (Or.inl (by simp)) (fun _ => by decide))
      obtain ⟨hi36, h⟩ := gu_some h
      obtain ⟨μ37, hμ37, h⟩ := ap_eq h
      have uμ37 : Un [381, 383, 384, 386, 387, 388, 389, 390, 391, 394, 395, 396, 397, 2242, 2245, 2252, 2253] μ μ37 := uμ35.tr (by rw [hμ37]; exact un_sI (Or.inl (by simp)) (fun _ => by decide))
      obtain ⟨hi38, h⟩ := gu_some h
      obtain ⟨μ39, hμ39, h⟩ := ap_eq h
      have uμ39 : Un [381, 383, 384, 386, 387, 388, 389, 390, 391, 394, 395, 396, 397, 2242, 2245, 2252, 2253] μ μ39 := uμ37.tr (by rw [hμ39]; exact un_sI (Or.inl (by simp)) (fun _ => by decide))
      obtain ⟨x40, hx40, h⟩ := ap_eq h
      exact uμ39.tr (ih _ _ _ h)
theorem fl_Mo_run_164 (a1 : Int32) (a2 : Int32) {q : Int32 × Mem} {c_185 : Int32 → Mem → Option (Int32 × Mem)} (hf_185 : ∀ (y3 : Int32) (μ : Mem), c_185 y3 μ = some q → Un [381, 383, 384, 386, 387, 388, 389, 390, 391, 394, 395, 396, 397, 2242, 2245, 2252, 2253] μ q.2) : ∀ (n : Nat) (y3 : Int32) (y4 : Int32) (μ : Mem), lp_Mo_run_164 a1 a2 c_185 n y3 y4 μ = some q → Un [381, 383, 384, 386, 387, 388, 389, 390, 391, 394, 395, 396, 397, 2242, 2245, 2252, 2253] μ q.2 := by
  intro n
  induction n with
  | zero => intro _ _ _ h; cases h
  | succ n ih =>
    intro y3 y4 μ h
    unfold lp_Mo_run_164 at h
    have uμ : Un [381, 383, 384, 386, 387, 388, 389, 390, 391, 394, 395, 396, 397, 2242, 2245, 2252, 2253] μ μ := Un.rf
    rcases (Classical.em ((16 : Int32) ≤ y4)) with hc | hc
    · rw [if_pos hc] at h
      exact uμ.tr (hf_185 _ _ h)
    · rw [if_neg hc] at h
      obtain ⟨hi44, h⟩ := gu_some h
      obtain ⟨μ45, hμ45, h⟩ := ap_eq h
      have uμ45 : Un [381, 383, 384, 386, 387, 388, 389, 390, 391, 394, 395, 396, 397, 2242, 2245, 2252, 2253] μ μ45 := uμ.tr (by rw [hμ45]; exact un_sL (Or.inl (by simp)) (fun _ => by decide))
      obtain ⟨x46, hx46, h⟩ := ap_eq h
      exact uμ45.tr (ih _ _ _ h)
theorem fj_Mo_run_250 (a1 : Int32) (a2 : Int32) {q : Int32 × Mem} {c_206 : Int32 → Int32 → Int32 → Mem → Option (Int32 × Mem)} (hf_206 : ∀ (y3 : Int32) (y4 : Int32) (y5 : Int32) (μ : Mem), c_206 y3 y4 y5 μ = some q → Un [381, 383, 384, 386, 387, 388, 389, 390, 391, 394, 395, 396, 397, 2242, 2245, 2252, 2253] μ q.2) (y3 : Int32) (y4 : Int32) (y5 : Int32) (μ : Mem) (h : mj_Mo_run_250 a1 a2 c_206 y3 y4 y5 μ = some q) : Un [381, 383, 384, 386, 387, 388, 389, 390, 391, 394, 395, 396, 397, 2242, 2245, 2252, 2253] μ q.2 := by
  unfold mj_Mo_run_250 at h
  have uμ : Un [381, 383, 384, 386, 387, 388, 389, 390, 391, 394, 395, 396, 397, 2242, 2245, 2252, 2253] μ μ := Un.rf
  obtain ⟨x54, hx54, h⟩ := ap_eq h
  exact uμ.tr (hf_206 _ _ _ _ h)
theorem fl_Mo_run_206 (a1 : Int32) (a2 : Int32) {q : Int32 × Mem} {c_256 : Int32 → Mem → Option (Int32 × Mem)} (hf_256 : ∀ (y3 : Int32) (μ : Mem), c_256 y3 μ = some q → Un [381, 383, 384, 386, 387, 388, 389, 390, 391, 394, 395, 396, 397, 2242, 2245, 2252, 2253] μ q.2) : ∀ (n : Nat) (y3 : Int32) (y4 : Int32) (y5 : Int32) (μ : Mem), lp_Mo_run_206 a1 a2 c_256 n y3 y4 y5 μ = some q → Un [381, 383, 384, 386, 387, 388, 389, 390, 391, 394, 395, 396, 397, 2242, 2245, 2252, 2253] μ q.2 := by
  intro n
  induction n with
  | zero => intro _ _ _ _ h; cases h
  | succ n ih =>
    intro y3 y4 y5 μ h
    unfold lp_Mo_run_206 at h
    have uμ : Un [381, 383, 384, 386, 387, 388, 389, 390, 391, 394, 395, 396, 397, 2242, 2245, 2252, 2253] μ μ := Un.rf
    obtain ⟨hi56, h⟩ := gu_some h
    rcases (Classical.em (gI μ 357 (0) a1.toNatClampNeg ≤ y4)) with hc | hc
    · rw [if_pos hc] at h
      exact uμ.tr (hf_256 _ _ h)
    · rw [if_neg hc] at h
      rcases (Classical.em (gI μ 12 (0) 52 = 0)).symm with hc | hc
      · rw [if_neg hc] at h
        exact uμ.tr (hf_256 _ _ h)
      · rw [if_pos hc] at h
        rcases (Classical.em (y5 = (1000 : Int32))).symm with hc | hc
        · rw [if_neg hc] at h
          obtain ⟨r57, hr57, h⟩ := bd_some h
          obtain ⟨μ58, hμ58, h⟩ := ap_eq h
          have uμ58 : Un [381, 383, 384, 386, 387, 388, 389, 390, 391, 394, 395, 396, 397, 2242, 2245, 2252, 2253] μ μ58 := by rw [hμ58]; exact uμ.tr ((fm_Mo_does hr57).mono (by simp))
          obtain ⟨x59, hx59, h⟩ := ap_eq h
          exact uμ58.tr (fj_Mo_run_250 a1 a2 ih _ _ _ _ h)
        · rw [if_pos hc] at h
          obtain ⟨μ60, hμ60, h⟩ := ap_eq h
          have uμ60 : Un [381, 383, 384, 386, 387, 388, 389, 390, 391, 394, 395, 396, 397, 2242, 2245, 2252, 2253] μ μ60 := uμ.tr (by rw [hμ60]; exact un_sI (Or.inr ⟨by decide, by simp⟩) (by simp <;> omega))
          exact uμ60.tr (fj_Mo_run_250 a1 a2 ih _ _ _ _ h)
theorem fl_Mo_run_276 (a1 : Int32) (a2 : Int32) {q : Int32 × Mem}  : ∀ (n : Nat) (y3 : Int32) (y6 : Int32) (μ : Mem), lp_Mo_run_276 a1 a2 n y3 y6 μ = some q → Un [381, 383, 384, 386, 387, 388, 389, 390, 391, 394, 395, 396, 397, 2242, 2245, 2252, 2253] μ q.2 := by
  intro n
  induction n with
  | zero => intro _ _ _ h; cases h
  | succ n ih =>
    intro y3 y6 μ h
    unfold lp_Mo_run_276 at h
    have uμ : Un [381, 383, 384, 386, 387, 388, 389, 390, 391, 394, 395, 396, 397, 2242, 2245, 2252, 2253] μ μ := Un.rf
    rcases (Classical.em (y3 ≤ y6)) with hc | hc
    · rw [if_pos hc] at h
      obtain rfl := Option.some.inj h
      exact uμ
    · rw [if_neg hc] at h
      obtain ⟨hi77, h⟩ := gu_some h
      obtain ⟨hi78, h⟩ := gu_some h
      obtain ⟨μ79, hμ79, h⟩ := ap_eq h
      have uμ79 : Un [381, 383, 384, 386, 387, 388, 389, 390, 391, 394, 395, 396, 397, 2242, 2245, 2252, 2253] μ μ79 := uμ.tr (by rw [hμ79]; exact un_sI (Or.inl (by simp)) (fun _ => by decide))
      obtain ⟨hi80, h⟩ := gu_some h
      obtain ⟨hi81, h⟩ := gu_some h
      obtain ⟨μ82, hμ82, h⟩ := ap_eq h
      have uμ82 : Un [381, 383, 384, 386, 387, 388, 389, 390, 391, 394, 395, 396, 397, 2242, 2245, 2252, 2253] μ μ82 := uμ79.tr (by rw [hμ82]; exact un_sI (Or.inl (by simp)) (fun _ => by decide))
      obtain ⟨hi83, h⟩ := gu_some h
      obtain ⟨hi84, h⟩ := gu_some h
      obtain ⟨hg85, h⟩ := z01_some h
      obtain ⟨μ86, hμ86, h⟩ := ap_eq h
      have uμ86 : Un [381, 383, 384, 386, 387, 388, 389, 390, 391, 394, 395, 396, 397, 2242, 2245, 2252, 2253] μ μ86 := uμ82.tr (by rw [hμ86]; exact un_sI (Or.inl (by simp)) (fun _ => by decide))
      obtain ⟨hi87, h⟩ := gu_some h
      obtain ⟨hi88, h⟩ := gu_some h
      obtain ⟨hg89, h⟩ := z01_some h
      obtain ⟨μ90, hμ90, h⟩ := ap_eq h
      have uμ90 : Un [381, 383, 384, 386, 387, 388, 389, 390, 391, 394, 395, 396, 397, 2242, 2245, 2252, 2253] μ μ90 := uμ86.tr (by rw [hμ90]; exact un_sI (Or.inl (by simp)) (fun _ => by decide))
      obtain ⟨x91, hx91, h⟩ := ap_eq h
      exact uμ90.tr (ih _ _ _ h)
theorem fj_Mo_run_256 (a1 : Int32) (a2 : Int32) {q : Int32 × Mem}  (y3 : Int32) (μ : Mem) (h : mj_Mo_run_256 a1 a2 y3 μ = some q) : Un [381, 383, 384, 386, 387, 388, 389, 390, 391, 394, 395, 396, 397, 2242, 2245, 2252, 2253] μ q.2 := by
  unfold mj_Mo_run_256 at h
  have uμ : Un [381, 383, 384, 386, 387, 388, 389, 390, 391, 394, 395, 396, 397, 2242, 2245, 2252, 2253] μ μ := Un.rf
  rcases (Classical.em (gI μ 12 (0) 52 ≤ 0)) with hc | hc
  · rw [if_pos hc] at h
    obtain ⟨μ61, hμ61, h⟩ := ap_eq h
    have uμ61 : Un [381, 383, 384, 386, 387, 388, 389, 390, 391, 394, 395, 396, 397, 2242, 2245, 2252, 2253] μ μ61 := uμ.tr (by rw [hμ61]; exact un_sI (Or.inr ⟨by decide, by simp⟩) (by simp <;> omega))
    exact uμ61.tr (fl_Mo_run_276 a1 a2 FU _ _ _ h)
  · rw [if_neg hc] at h
    obtain rfl := Option.some.inj h
    exact uμ
theorem fj_Mo_run_185 (a1 : Int32) (a2 : Int32) {q : Int32 × Mem}  (y3 : Int32) (μ : Mem) (h : mj_Mo_run_185 a1 a2 y3 μ = some q) : Un [381, 383, 384, 386, 387, 388, 389, 390, 391, 394, 395, 396, 397, 2242, 2245, 2252, 2253] μ q.2 := by
  unfold mj_Mo_run_185 at h
  have uμ : Un [381, 383, 384, 386, 387, 388, 389, 390, 391, 394, 395, 396, 397, 2242, 2245, 2252, 2253] μ μ := Un.rf
  obtain ⟨μ47, hμ47, h⟩ := ap_eq h
  have uμ47 : Un [381, 383, 384, 386, 387, 388, 389, 390, 391, 394, 395, 396, 397, 2242, 2245, 2252, 2253] μ μ47 := uμ.tr (by rw [hμ47]; exact un_sI (Or.inr ⟨by decide, by simp⟩) (by simp <;> omega))
  obtain ⟨μ48, hμ48, h⟩ := ap_eq h
  have uμ48 : Un [381, 383, 384, 386, 387, 388, 389, 390, 391, 394, 395, 396, 397, 2242, 2245, 2252, 2253] μ μ48 := uμ47.tr (by rw [hμ48]; exact un_sI (Or.inr ⟨by decide, by simp⟩) (by simp <;> omega))
  obtain ⟨μ49, hμ49, h⟩ := ap_eq h
  have uμ49 : Un [381, 383, 384, 386, 387, 388, 389, 390, 391, 394, 395, 396, 397, 2242, 2245, 2252, 2253] μ μ49 := uμ48.tr (by rw [hμ49]; exact un_sI (Or.inr ⟨by decide, by simp⟩) (by simp <;> omega))
  exact uμ49.tr (fl_Mo_run_206 a1 a2 (fun _ _ h => fj_Mo_run_256 a1 a2 _ _ h) FU _ _ _ _ h)
theorem fj_Mo_run_161 (a1 : Int32) (a2 : Int32) {q : Int32 × Mem}  (y3 : Int32) (μ : Mem) (h : mj_Mo_run_161 a1 a2 y3 μ = some q) : Un [381, 383, 384, 386, 387, 388, 389, 390, 391, 394, 395, 396, 397, 2242, 2245, 2252, 2253] μ q.2 := by
  unfold mj_Mo_run_161 at h
  have uμ : Un [381, 383, 384, 386, 387, 388, 389, 390, 391, 394, 395, 396, 397, 2242, 2245, 2252, 2253] μ μ := Un.rf
  exact uμ.tr (fl_Mo_run_164 a1 a2 (fun _ _ h => fj_Mo_run_185 a1 a2 _ _ h) FU _ _ _ h)
theorem fm_Mo_run {a1 : Int32} {a2 : Int32} {μ : Mem} {q : Int32 × Mem} (h : m_Mo_run a1 a2 μ = some q) : Un [381, 383, 384, 386, 387, 388, 389, 390, 391, 394, 395, 396, 397, 2242, 2245, 2252, 2253] μ q.2 := by
  unfold m_Mo_run at h
  have uμ : Un [381, 383, 384, 386, 387, 388, 389, 390, 391, 394, 395, 396, 397, 2242, 2245, 2252, 2253] μ μ := Un.rf
  rcases bcase_f ((m_Mo_isLetter (a1) μ)) with hb | hb
  · rw [iB_f hb] at h
    obtain rfl := Option.some.inj h
    exact uμ
  · rw [iB_t hb] at h
    obtain ⟨hi1, h⟩ := gu_some h
    rcases (Classical.em (0 < gI μ 352 (0) a1.toNatClampNeg)) with hc | hc
    · rw [if_pos hc] at h
      obtain rfl := Option.some.inj h
      exact uμ
    · rw [if_neg hc] at h
      rcases (Classical.em (a2 < (4 : Int32))) with hc | hc
      · rw [if_pos hc] at h
        obtain rfl := Option.some.inj h
        exact uμ
      · rw [if_neg hc] at h
        rcases (Classical.em (a2 ≤ (32 : Int32))) with hc | hc
        · rw [if_pos hc] at h
          obtain ⟨r2, hr2, h⟩ := bd_some h
          exact uμ.tr (fl_Mo_run_39 a1 a2 (fun _ _ h => fj_Mo_run_161 a1 a2 _ _ h) FU _ _ _ h)
        · rw [if_neg hc] at h
          obtain rfl := Option.some.inj h
          exact uμ
theorem fm_Mo_delta {a1 : Int32} {a2 : Int32} {a3 : Int32} {a4 : Int32} {a5 : Int32} {μ : Mem} {q : Bool × Mem} (h : m_Mo_delta a1 a2 a3 a4 a5 μ = some q) : Un [350, 351] μ q.2 := by
  unfold m_Mo_delta at h
  have uμ : Un [350, 351] μ μ := Un.rf
  obtain ⟨r1, hr1, h⟩ := bd_some h
  rcases bcase_f (r1) with hb | hb
  · rw [iB_f hb] at h
    obtain rfl := Option.some.inj h
    exact uμ
  · rw [iB_t hb] at h
    rcases (Classical.em (a2 < 0)) with hc | hc
    · rw [if_pos hc] at h
      obtain rfl := Option.some.inj h
      exact uμ
    · rw [if_neg hc] at h
      rcases (Classical.em ((2 : Int32) < a2)) with hc | hc
      · rw [if_pos hc] at h
        obtain rfl := Option.some.inj h
        exact uμ
      · rw [if_neg hc] at h
        rcases (Classical.em (a4 < (-2000 : Int32))) with hc | hc
        · rw [if_pos hc] at h
          obtain rfl := Option.some.inj h
          exact uμ
        · rw [if_neg hc] at h
          rcases (Classical.em ((2000 : Int32) < a4)) with hc | hc
          · rw [if_pos hc] at h
            obtain rfl := Option.some.inj h
            exact uμ
          · rw [if_neg hc] at h
            rcases (Classical.em (a5 < (-2000 : Int32))) with hc | hc
            · rw [if_pos hc] at h
              obtain rfl := Option.some.inj h
              exact uμ
            · rw [if_neg hc] at h
              rcases (Classical.em (a5 ≤ (2000 : Int32))) with hc | hc
              · rw [if_pos hc] at h
                obtain ⟨hi2, h⟩ := gu_some h
                obtain ⟨μ3, hμ3, h⟩ := ap_eq h
                have uμ3 : Un [350, 351] μ μ3 := uμ.tr (by rw [hμ3]; exact un_sI (Or.inl (by simp)) (fun _ => by decide))
                obtain ⟨hi4, h⟩ := gu_some h
                obtain ⟨μ5, hμ5, h⟩ := ap_eq h
                have uμ5 : Un [350, 351] μ μ5 := uμ3.tr (by rw [hμ5]; exact un_sI (Or.inl (by simp)) (fun _ => by decide))
                obtain rfl := Option.some.inj h
                exact uμ5
              · rw [if_neg hc] at h
                obtain rfl := Option.some.inj h
                exact uμ
theorem fm_Mo_weight {a1 : Int32} {a2 : Int32} {μ : Mem} {q : Bool × Mem} (h : m_Mo_weight a1 a2 μ = some q) : Un [398] μ q.2 := by
  unfold m_Mo_weight at h
  have uμ : Un [398] μ μ := Un.rf
  rcases (Classical.em (a1 < 0)) with hc | hc
  · rw [if_pos hc] at h
    obtain rfl := Option.some.inj h
    exact uμ
  · rw [if_neg hc] at h
    rcases (Classical.em ((2 : Int32) < a1)) with hc | hc
    · rw [if_pos hc] at h
      obtain rfl := Option.some.inj h
      exact uμ
    · rw [if_neg hc] at h
      rcases bcase_t ((m_Mo_isShort (a2) μ)) with hb | hb
      · rw [iB_t hb] at h
        obtain ⟨hi1, h⟩ := gu_some h
        obtain ⟨μ2, hμ2, h⟩ := ap_eq h
        have uμ2 : Un [398] μ μ2 := uμ.tr (by rw [hμ2]; exact un_sI (Or.inl (by simp)) (fun _ => by decide))
        obtain rfl := Option.some.inj h
        exact uμ2
      · rw [iB_f hb] at h
        obtain rfl := Option.some.inj h
        exact uμ
theorem fj_Mo_classOf_17 (a1 : Int32) (a2 : Int32) (a3 : Int32) {q : Bool × Mem}  (μ : Mem) (h : mj_Mo_classOf_17 a1 a2 a3  μ = some q) : Un [399, 400] μ q.2 := by
  unfold mj_Mo_classOf_17 at h
  have uμ : Un [399, 400] μ μ := Un.rf
  rcases (Classical.em (a3 < 0)) with hc | hc
  · rw [if_pos hc] at h
    obtain rfl := Option.some.inj h
    exact uμ
  · rw [if_neg hc] at h
    rcases (Classical.em (a3 ≤ (15 : Int32))) with hc | hc
    · rw [if_pos hc] at h
      rcases (Classical.em (a2 = 0)).symm with hc | hc
      · rw [if_neg hc] at h
        obtain ⟨hi1, h⟩ := gu_some h
        obtain ⟨μ2, hμ2, h⟩ := ap_eq h
        have uμ2 : Un [399, 400] μ μ2 := uμ.tr (by rw [hμ2]; exact un_sI (Or.inl (by simp)) (fun _ => by decide))
        obtain rfl := Option.some.inj h
        exact uμ2
      · rw [if_pos hc] at h
        obtain ⟨hi3, h⟩ := gu_some h
        obtain ⟨μ4, hμ4, h⟩ := ap_eq h
        have uμ4 : Un [399, 400] μ μ4 := uμ.tr (by rw [hμ4]; exact un_sI (Or.inl (by simp)) (fun _ => by decide))
        obtain rfl := Option.some.inj h
        exact uμ4
    · rw [if_neg hc] at h
      obtain rfl := Option.some.inj h
      exact uμ
theorem fm_Mo_classOf {a1 : Int32} {a2 : Int32} {a3 : Int32} {μ : Mem} {q : Bool × Mem} (h : m_Mo_classOf a1 a2 a3 μ = some q) : Un [399, 400] μ q.2 := by
  unfold m_Mo_classOf at h
  have uμ : Un [399, 400] μ μ := Un.rf
  rcases bcase_f ((m_Mo_isLetter (a1) μ)) with hb | hb
  · rw [iB_f hb] at h
    obtain rfl := Option.some.inj h
    exact uμ
  · rw [iB_t hb] at h
    rcases (Classical.em (a2 = 0)) with hc | hc
    · rw [if_pos hc] at h
      exact uμ.tr (fj_Mo_classOf_17 a1 a2 a3 _ h)
    · rw [if_neg hc] at h
      rcases (Classical.em (a2 = (1 : Int32))).symm with hc | hc
      · rw [if_neg hc] at h
        obtain rfl := Option.some.inj h
        exact uμ
      · rw [if_pos hc] at h
        exact uμ.tr (fj_Mo_classOf_17 a1 a2 a3 _ h)
theorem fm_Mo_kern {a1 : Int32} {a2 : Int32} {a3 : Int32} {μ : Mem} {q : Bool × Mem} (h : m_Mo_kern a1 a2 a3 μ = some q) : Un [401] μ q.2 := by
  unfold m_Mo_kern at h
  have uμ : Un [401] μ μ := Un.rf
  rcases (Classical.em (a1 < 0)) with hc | hc
  · rw [if_pos hc] at h
    obtain rfl := Option.some.inj h
    exact uμ
  · rw [if_neg hc] at h
    rcases (Classical.em ((15 : Int32) < a1)) with hc | hc
    · rw [if_pos hc] at h
      obtain rfl := Option.some.inj h
      exact uμ
    · rw [if_neg hc] at h
      rcases (Classical.em (a2 < 0)) with hc | hc
      · rw [if_pos hc] at h
        obtain rfl := Option.some.inj h
        exact uμ
      · rw [if_neg hc] at h
        rcases (Classical.em ((15 : Int32) < a2)) with hc | hc
        · rw [if_pos hc] at h
          obtain rfl := Option.some.inj h
          exact uμ
        · rw [if_neg hc] at h
          rcases bcase_t ((m_Mo_isKern (a3) μ)) with hb | hb
          · rw [iB_t hb] at h
            obtain ⟨hi1, h⟩ := gu_some h
            obtain ⟨μ2, hμ2, h⟩ := ap_eq h
            have uμ2 : Un [401] μ μ2 := uμ.tr (by rw [hμ2]; exact un_sI (Or.inl (by simp)) (fun _ => by decide))
            obtain rfl := Option.some.inj h
            exact uμ2
          · rw [iB_f hb] at h
            obtain rfl := Option.some.inj h
            exact uμ
theorem fj_Mo_exception_54 (a1 : Int32) (a2 : Int32) (a3 : Int32) {q : Bool × Mem}  (z0 : Int32) (z1 : Int32) (μ : Mem) (h : mj_Mo_exception_54 a1 a2 a3 z0 z1 μ = some q) : Un [402, 403] μ q.2 := by
  unfold mj_Mo_exception_54 at h
  have uμ : Un [402, 403] μ μ := Un.rf
  obtain ⟨hi1, h⟩ := gu_some h
  obtain ⟨hg2, h⟩ := z01_some h
  obtain ⟨μ3, hμ3, h⟩ := ap_eq h
  have uμ3 : Un [402, 403] μ μ3 := uμ.tr (by rw [hμ3]; exact un_sI (Or.inl (by simp)) (fun _ => by decide))
  obtain ⟨hi4, h⟩ := gu_some h
  obtain ⟨μ5, hμ5, h⟩ := ap_eq h
  have uμ5 : Un [402, 403] μ μ5 := uμ3.tr (by rw [hμ5]; exact un_sI (Or.inl (by simp)) (fun _ => by decide))
  obtain rfl := Option.some.inj h
  exact uμ5
theorem fj_Mo_exception_32 (a1 : Int32) (a2 : Int32) (a3 : Int32) {q : Bool × Mem}  (μ : Mem) (h : mj_Mo_exception_32 a1 a2 a3  μ = some q) : Un [402, 403] μ q.2 := by
  unfold mj_Mo_exception_32 at h
  have uμ : Un [402, 403] μ μ := Un.rf
  rcases (Classical.em (a3 = (10000 : Int32))) with hc | hc
  · rw [if_pos hc] at h
    exact uμ.tr (fj_Mo_exception_54 a1 a2 a3 _ _ _ h)
  · rw [if_neg hc] at h
    exact uμ.tr (fj_Mo_exception_54 a1 a2 a3 _ _ _ h)
theorem fm_Mo_exception {a1 : Int32} {a2 : Int32} {a3 : Int32} {μ : Mem} {q : Bool × Mem} (h : m_Mo_exception a1 a2 a3 μ = some q) : Un [402, 403] μ q.2 := by
  unfold m_Mo_exception at h
  have uμ : Un [402, 403] μ μ := Un.rf
  rcases bcase_f ((m_Mo_isLetter (a1) μ)) with hb | hb
  · rw [iB_f hb] at h
    obtain rfl := Option.some.inj h
    exact uμ
  · rw [iB_t hb] at h
    rcases bcase_f ((m_Mo_isLetter (a2) μ)) with hb | hb
    · rw [iB_f hb] at h
      obtain rfl := Option.some.inj h
      exact uμ
    · rw [iB_t hb] at h
      rcases bcase_t ((m_Mo_isKern (a3) μ)) with hb | hb
      · rw [iB_t hb] at h
        exact uμ.tr (fj_Mo_exception_32 a1 a2 a3 _ h)
      · rw [iB_f hb] at h
        rcases (Classical.em (a3 = (10000 : Int32))) with hc | hc
        · rw [if_pos hc] at h
          exact uμ.tr (fj_Mo_exception_32 a1 a2 a3 _ h)
        · rw [if_neg hc] at h
          obtain rfl := Option.some.inj h
          exact uμ
theorem fj_Mo_join_26 (a1 : Int32) (a2 : Int32) (a3 : Int32) (a4 : Int32) {q : Int32 × Mem}  (μ : Mem) (h : mj_Mo_join_26 a1 a2 a3 a4  μ = some q) : Un [405, 2264] μ q.2 := by
  unfold mj_Mo_join_26 at h
  have uμ : Un [405, 2264] μ μ := Un.rf
  rcases bcase_f ((m_Mo_isCode (a4) μ)) with hb | hb
  · rw [iB_f hb] at h
    obtain rfl := Option.some.inj h
    exact uμ
  · rw [iB_t hb] at h
    rcases (Classical.em (gI μ 12 (0) 64 = (40 : Int32))).symm with hc | hc
    · rw [if_neg hc] at h
      obtain ⟨hi1, h⟩ := gu_some h
      obtain ⟨μ2, hμ2, h⟩ := ap_eq h
      have uμ2 : Un [405, 2264] μ μ2 := uμ.tr (by rw [hμ2]; exact un_sI (Or.inl (by simp)) (fun _ => by decide))
      obtain ⟨hi3, h⟩ := gu_some h
      obtain ⟨μ4, hμ4, h⟩ := ap_eq h
      have uμ4 : Un [405, 2264] μ μ4 := uμ2.tr (by rw [hμ4]; exact un_sI (Or.inl (by simp)) (fun _ => by decide))
      obtain ⟨hi5, h⟩ := gu_some h
      obtain ⟨μ6, hμ6, h⟩ := ap_eq h
      have uμ6 : Un [405, 2264] μ μ6 := uμ4.tr (by rw [hμ6]; exact un_sI (Or.inl (by simp)) (fun _ => by decide))
      obtain ⟨hi7, h⟩ := gu_some h
      obtain ⟨μ8, hμ8, h⟩ := ap_eq h
      have uμ8 : Un [405, 2264] μ μ8 := uμ6.tr (by rw [hμ8]; exact un_sI (Or.inl (by simp)) (fun _ => by decide))
      obtain ⟨μ9, hμ9, h⟩ := ap_eq h
      have uμ9 : Un [405, 2264] μ μ9 := uμ8.tr (by rw [hμ9]; exact un_sI (Or.inr ⟨by decide, by simp⟩) (by simp <;> omega))
      obtain rfl := Option.some.inj h
      exact uμ9
    · rw [if_pos hc] at h
      obtain rfl := Option.some.inj h
      exact uμ
theorem fm_Mo_join {a1 : Int32} {a2 : Int32} {a3 : Int32} {a4 : Int32} {μ : Mem} {q : Int32 × Mem} (h : m_Mo_join a1 a2 a3 a4 μ = some q) : Un [405, 2264] μ q.2 := by
  unfold m_Mo_join at h
  have uμ : Un [405, 2264] μ μ := Un.rf
  rcases bcase_f ((m_Mo_isCode (a1) μ)) with hb | hb
  · rw [iB_f hb] at h
    obtain rfl := Option.some.inj h
    exact uμ
  · rw [iB_t hb] at h
    rcases bcase_f ((m_Mo_isCode (a2) μ)) with hb | hb
    · rw [iB_f hb] at h
      obtain rfl := Option.some.inj h
      exact uμ
    · rw [iB_t hb] at h
      rcases (Classical.em (a3 = (-1 : Int32))) with hc | hc
      · rw [if_pos hc] at h
        exact uμ.tr (fj_Mo_join_26 a1 a2 a3 a4 _ h)
      · rw [if_neg hc] at h
        rcases bcase_f ((m_Mo_isCode (a3) μ)) with hb | hb
        · rw [iB_f hb] at h
          obtain rfl := Option.some.inj h
          exact uμ
        · rw [iB_t hb] at h
          exact uμ.tr (fj_Mo_join_26 a1 a2 a3 a4 _ h)
theorem fm_Mo_sign {a1 : Int32} {μ : Mem} {q : Int32 × Mem} (h : m_Mo_sign a1 μ = some q) : Un [407, 2266] μ q.2 := by
  unfold m_Mo_sign at h
  have uμ : Un [407, 2266] μ μ := Un.rf
  rcases bcase_f ((m_Mo_isCode (a1) μ)) with hb | hb
  · rw [iB_f hb] at h
    obtain rfl := Option.some.inj h
    exact uμ
  · rw [iB_t hb] at h
    rcases (Classical.em (gI μ 12 (0) 66 = (60 : Int32))).symm with hc | hc
    · rw [if_neg hc] at h
      obtain ⟨hi1, h⟩ := gu_some h
      obtain ⟨μ2, hμ2, h⟩ := ap_eq h
      have uμ2 : Un [407, 2266] μ μ2 := uμ.tr (by rw [hμ2]; exact un_sI (Or.inl (by simp)) (fun _ => by decide))
      obtain ⟨μ3, hμ3, h⟩ := ap_eq h
      have uμ3 : Un [407, 2266] μ μ3 := uμ2.tr (by rw [hμ3]; exact un_sI (Or.inr ⟨by decide, by simp⟩) (by simp <;> omega))
      obtain rfl := Option.some.inj h
      exact uμ3
    · rw [if_pos hc] at h
      obtain rfl := Option.some.inj h
      exact uμ
theorem fj_Mo_set_163 {q : Int32 × Mem} {c_7 : Int32 → Mem → Option (Int32 × Mem)} (hf_7 : ∀ (y1 : Int32) (μ : Mem), c_7 y1 μ = some q → Un [409, 410, 411, 2266, 2268] μ q.2) (z0 : Int32) (z1 : Int32) (μ : Mem) (h : mj_Mo_set_163 c_7 z0 z1 μ = some q) : Un [409, 410, 411, 2266, 2268] μ q.2 := by
  unfold mj_Mo_set_163 at h
  have uμ : Un [409, 410, 411, 2266, 2268] μ μ := Un.rf
  obtain ⟨x6, hx6, h⟩ := ap_eq h
  exact uμ.tr (hf_7 _ _ h)
theorem fj_Mo_set_148 {q : Int32 × Mem} {c_7 : Int32 → Mem → Option (Int32 × Mem)} (hf_7 : ∀ (y1 : Int32) (μ : Mem), c_7 y1 μ = some q → Un [409, 410, 411, 2266, 2268] μ q.2) (y1 : Int32) (y2 : Int32) (μ : Mem) (h : mj_Mo_set_148 c_7 y1 y2 μ = some q) : Un [409, 410, 411, 2266, 2268] μ q.2 := by
  unfold mj_Mo_set_148 at h
  have uμ : Un [409, 410, 411, 2266, 2268] μ μ := Un.rf
  rcases (Classical.em (y2 = (-1 : Int32))).symm with hc | hc
  · rw [if_neg hc] at h
    obtain ⟨r5, hr5, h⟩ := bd_some h
    exact uμ.tr (fj_Mo_set_163 hf_7 _ _ _ h)
  · rw [if_pos hc] at h
    exact uμ.tr (fj_Mo_set_163 hf_7 _ _ _ h)
theorem fj_Mo_set_129 {q : Int32 × Mem} {c_7 : Int32 → Mem → Option (Int32 × Mem)} (hf_7 : ∀ (y1 : Int32) (μ : Mem), c_7 y1 μ = some q → Un [409, 410, 411, 2266, 2268] μ q.2) (y1 : Int32) (y2 : Int32) (y4 : Int32) (z0 : Int32) (z1 : Int32) (μ : Mem) (h : mj_Mo_set_129 c_7 y1 y2 y4 z0 z1 μ = some q) : Un [409, 410, 411, 2266, 2268] μ q.2 := by
  unfold mj_Mo_set_129 at h
  have uμ : Un [409, 410, 411, 2266, 2268] μ μ := Un.rf
  obtain ⟨hi14, h⟩ := gu_some h
  obtain ⟨μ15, hμ15, h⟩ := ap_eq h
  have uμ15 : Un [409, 410, 411, 2266, 2268] μ μ15 := uμ.tr (by rw [hμ15]; exact un_sI (Or.inl (by simp)) (fun _ => by decide))
  obtain ⟨hi16, h⟩ := gu_some h
  obtain ⟨μ17, hμ17, h⟩ := ap_eq h
  have uμ17 : Un [409, 410, 411, 2266, 2268] μ μ17 := uμ15.tr (by rw [hμ17]; exact un_sI (Or.inl (by simp)) (fun _ => by decide))
  obtain ⟨μ18, hμ18, h⟩ := ap_eq h
  have uμ18 : Un [409, 410, 411, 2266, 2268] μ μ18 := uμ17.tr (by rw [hμ18]; exact un_sI (Or.inr ⟨by decide, by simp⟩) (by simp <;> omega))
  exact uμ18.tr (fj_Mo_set_148 hf_7 _ _ _ h)
theorem fj_Mo_set_79 {q : Int32 × Mem} {c_7 : Int32 → Mem → Option (Int32 × Mem)} (hf_7 : ∀ (y1 : Int32) (μ : Mem), c_7 y1 μ = some q → Un [409, 410, 411, 2266, 2268] μ q.2) (y1 : Int32) (y2 : Int32) (y3 : Int32) (y4 : Int32) (z0 : Int32) (μ : Mem) (h : mj_Mo_set_79 c_7 y1 y2 y3 y4 z0 μ = some q) : Un [409, 410, 411, 2266, 2268] μ q.2 := by
  unfold mj_Mo_set_79 at h
  have uμ : Un [409, 410, 411, 2266, 2268] μ μ := Un.rf
  obtain ⟨hi9, h⟩ := gu_some h
  obtain ⟨μ10, hμ10, h⟩ := ap_eq h
  have uμ10 : Un [409, 410, 411, 2266, 2268] μ μ10 := uμ.tr (by rw [hμ10]; exact un_sI (Or.inl (by simp)) (fun _ => by decide))
  rcases (Classical.em (y4 = 0)).symm with hc | hc
  · rw [if_neg hc] at h
    obtain ⟨hi11, h⟩ := gu_some h
    obtain ⟨hi12, h⟩ := gu_some h
    obtain ⟨r13, hr13, h⟩ := bd_some h
    exact uμ10.tr (fj_Mo_set_129 hf_7 _ _ _ _ _ _ h)
  · rw [if_pos hc] at h
    exact uμ10.tr (fj_Mo_set_129 hf_7 _ _ _ _ _ _ h)
theorem fj_Mo_set_46 {q : Int32 × Mem} {c_7 : Int32 → Mem → Option (Int32 × Mem)} (hf_7 : ∀ (y1 : Int32) (μ : Mem), c_7 y1 μ = some q → Un [409, 410, 411, 2266, 2268] μ q.2) (y1 : Int32) (y2 : Int32) (z0 : Int32) (μ : Mem) (h : mj_Mo_set_46 c_7 y1 y2 z0 μ = some q) : Un [409, 410, 411, 2266, 2268] μ q.2 := by
  unfold mj_Mo_set_46 at h
  have uμ : Un [409, 410, 411, 2266, 2268] μ μ := Un.rf
  obtain ⟨r4, hr4, h⟩ := bd_some h
  rcases (Classical.em (r4 = (-1 : Int32))) with hc | hc
  · rw [if_pos hc] at h
    exact uμ.tr (fj_Mo_set_148 hf_7 _ _ _ h)
  · rw [if_neg hc] at h
    obtain ⟨x7, hx7, h⟩ := ap_eq h
    rcases (Classical.em (x7 = 0)).symm with hc | hc
    · rw [if_neg hc] at h
      obtain ⟨hi8, h⟩ := gu_some h
      exact uμ.tr (fj_Mo_set_79 hf_7 _ _ _ _ _ _ h)
    · rw [if_pos hc] at h
      exact uμ.tr (fj_Mo_set_79 hf_7 _ _ _ _ _ _ h)
theorem fl_Mo_set_7 {q : Int32 × Mem} {c_168 : Mem → Option (Int32 × Mem)} (hf_168 : ∀ (μ : Mem), c_168  μ = some q → Un [409, 410, 411, 2266, 2268] μ q.2) : ∀ (n : Nat) (y1 : Int32) (μ : Mem), lp_Mo_set_7 c_168 n y1 μ = some q → Un [409, 410, 411, 2266, 2268] μ q.2 := by
  intro n
  induction n with
  | zero => intro _ _ h; cases h
  | succ n ih =>
    intro y1 μ h
    unfold lp_Mo_set_7 at h
    have uμ : Un [409, 410, 411, 2266, 2268] μ μ := Un.rf
    rcases (Classical.em (gI μ 12 (0) 66 ≤ y1)) with hc | hc
    · rw [if_pos hc] at h
      exact uμ.tr (hf_168 _ h)
    · rw [if_neg hc] at h
      obtain ⟨r20, hr20, h⟩ := bd_some h
      rcases (Classical.em (r20 = (-1 : Int32))).symm with hc | hc
      · rw [if_neg hc] at h
        obtain ⟨hi21, h⟩ := gu_some h
        exact uμ.tr (fj_Mo_set_46 ih _ _ _ _ h)
      · rw [if_pos hc] at h
        obtain ⟨hi22, h⟩ := gu_some h
        exact uμ.tr (fj_Mo_set_46 ih _ _ _ _ h)
theorem fj_Mo_set_168 {q : Int32 × Mem}  (μ : Mem) (h : mj_Mo_set_168  μ = some q) : Un [409, 410, 411, 2266, 2268] μ q.2 := by
  unfold mj_Mo_set_168 at h
  have uμ : Un [409, 410, 411, 2266, 2268] μ μ := Un.rf
  obtain ⟨μ23, hμ23, h⟩ := ap_eq h
  have uμ23 : Un [409, 410, 411, 2266, 2268] μ μ23 := uμ.tr (by rw [hμ23]; exact un_sI (Or.inr ⟨by decide, by simp⟩) (by simp <;> omega))
  obtain rfl := Option.some.inj h
  exact uμ23
theorem fm_Mo_set {μ : Mem} {q : Int32 × Mem} (h : m_Mo_set  μ = some q) : Un [409, 410, 411, 2266, 2268] μ q.2 := by
  unfold m_Mo_set at h
  have uμ : Un [409, 410, 411, 2266, 2268] μ μ := Un.rf
  obtain ⟨μ1, hμ1, h⟩ := ap_eq h
  have uμ1 : Un [409, 410, 411, 2266, 2268] μ μ1 := uμ.tr (by rw [hμ1]; exact un_sI (Or.inr ⟨by decide, by simp⟩) (by simp <;> omega))
  exact uμ1.tr (fl_Mo_set_7 (fun _ h => fj_Mo_set_168 _ h) FU _ _ h)
