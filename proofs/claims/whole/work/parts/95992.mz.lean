/-- what holds between two calls -/
def IZ (μ : Mem) : Prop := ∃ n, InvN n μ ∧ MZ n μ
theorem mz_sI {n : Nat} {μ : Mem} {k l j : Nat} {v : Int32} (Z : MZ n μ) (h : j < n ∨ (k ≠ 343 ∧ k ≠ 344 ∧ k ≠ 345 ∧ k ≠ 352 ∧ k ≠ 357 ∧ k ≠ 399 ∧ k ≠ 400)) : MZ n (sI μ k l j v) := by
  intro x hx
  have e : ∀ a, (a = 343 ∨ a = 344 ∨ a = 345 ∨ a = 352 ∨ a = 357 ∨ a = 399 ∨ a = 400) → gI (sI μ k l j v) a 0 x = gI μ a 0 x := fun a ha => by
    rw [gI_sI, if_neg (by omega)]
  rw [e 343 (by omega), e 344 (by omega), e 345 (by omega), e 352 (by omega), e 357 (by omega), e 399 (by omega), e 400 (by omega)]
  exact Z x hx
def KZ (n : Nat) (μ ν : Mem) : Prop := MZ n μ → MZ n ν
theorem KZ.rf {n : Nat} {μ : Mem} : KZ n μ μ := fun h => h
theorem KZ.tr {n : Nat} {μ ν ξ : Mem} (h : KZ n μ ν) (g : KZ n ν ξ) : KZ n μ ξ := fun z => g (h z)
theorem kz_sI {n : Nat} {μ : Mem} {k l j : Nat} {v : Int32} (h : j < n ∨ (k ≠ 343 ∧ k ≠ 344 ∧ k ≠ 345 ∧ k ≠ 352 ∧ k ≠ 357 ∧ k ≠ 399 ∧ k ≠ 400)) : KZ n μ (sI μ k l j v) := fun z => mz_sI z h
theorem isl {n : Nat} {ν : Mem} {x : Int32} (h32 : n ≤ 32) (a2 : gI ν 12 0 0 = nI n) (h : m_Mo_isLetter x ν = true) : x.toNatClampNeg < n := by
  rw [isLetter_b h32 a2, decide_eq_true_iff] at h
  obtain ⟨l, hl, rfl⟩ := ix_of h.1 h.2 (by omega)
  rw [nI_clamp (by omega)]; exact hl
theorem zm_Mo_outline {n : Nat} (h32 : n ≤ 32) {a1 : Int32} {μ : Mem} {q : Int32 × Mem} (hn : gI μ 12 0 0 = nI n) (h : m_Mo_outline a1 μ = some q) : KZ n μ q.2 := by
  unfold m_Mo_outline at h
  have uμ : KZ n μ μ := KZ.rf
  rcases bcase_f ((m_Mo_isLetter (a1) μ)) with hb | hb
  · rw [iB_f hb] at h
    obtain rfl := Option.some.inj h
    exact uμ
  · rw [iB_t hb] at h
    have hl := isl h32 hn hb
    obtain ⟨hi1, h⟩ := gu_some h
    rcases (Classical.em (gI μ 344 (0) a1.toNatClampNeg = 0)).symm with hc | hc
    · rw [if_neg hc] at h
      obtain rfl := Option.some.inj h
      exact uμ
    · rw [if_pos hc] at h
      obtain ⟨hi2, h⟩ := gu_some h
      rcases (Classical.em (0 < gI μ 352 (0) a1.toNatClampNeg)) with hc | hc
      · rw [if_pos hc] at h
        obtain rfl := Option.some.inj h
        exact uμ
      · rw [if_neg hc] at h
        obtain ⟨hi3, h⟩ := gu_some h
        rcases (Classical.em (gI μ 343 (0) a1.toNatClampNeg = (8 : Int32))).symm with hc | hc
        · rw [if_neg hc] at h
          obtain ⟨hi4, h⟩ := gu_some h
          obtain ⟨μ5, hμ5, h⟩ := ap_eq h
          have uμ5 : KZ n μ μ5 := uμ.tr (by rw [hμ5]; exact kz_sI (by omega))
          obtain ⟨hi6, h⟩ := gu_some h
          obtain rfl := Option.some.inj h
          exact uμ5
        · rw [if_pos hc] at h
          obtain rfl := Option.some.inj h
          exact uμ
theorem zl_Mo_point_96 {nn : Nat} (a1 : Int32) (a2 : Int32) (a3 : Int32) (a4 : Int32) (hl : a1.toNatClampNeg < nn) {q : Int32 × Mem} {c_134 : Mem → Option (Int32 × Mem)} (hf_134 : ∀ (μ : Mem), c_134  μ = some q → KZ nn μ q.2) : ∀ (n : Nat) (y5 : Int32) (y6 : Int32) (μ : Mem), lp_Mo_point_96 a1 a2 a3 a4 c_134 n y5 y6 μ = some q → KZ nn μ q.2 := by
  intro n
  induction n with
  | zero => intro _ _ _ h; cases h
  | succ n ih =>
    intro y5 y6 μ h
    unfold lp_Mo_point_96 at h
    have uμ : KZ nn μ μ := KZ.rf
    rcases (Classical.em ((3 : Int32) ≤ y6)) with hc | hc
    · rw [if_pos hc] at h
      exact uμ.tr (hf_134 _ h)
    · rw [if_neg hc] at h
      obtain ⟨hi16, h⟩ := gu_some h
      obtain ⟨μ17, hμ17, h⟩ := ap_eq h
      have uμ17 : KZ nn μ μ17 := uμ.tr (by rw [hμ17]; exact kz_sI (by omega))
      obtain ⟨hi18, h⟩ := gu_some h
      obtain ⟨μ19, hμ19, h⟩ := ap_eq h
      have uμ19 : KZ nn μ μ19 := uμ17.tr (by rw [hμ19]; exact kz_sI (by omega))
      obtain ⟨x20, hx20, h⟩ := ap_eq h
      exact uμ19.tr (ih _ _ _ h)
theorem zj_Mo_point_134 {n : Nat} (a1 : Int32) (a2 : Int32) (a3 : Int32) (a4 : Int32) (hl : a1.toNatClampNeg < n) {q : Int32 × Mem}  (μ : Mem) (h : mj_Mo_point_134 a1 a2 a3 a4  μ = some q) : KZ n μ q.2 := by
  unfold mj_Mo_point_134 at h
  have uμ : KZ n μ μ := KZ.rf
  obtain ⟨hi21, h⟩ := gu_some h
  obtain ⟨hi22, h⟩ := gu_some h
  obtain ⟨μ23, hμ23, h⟩ := ap_eq h
  have uμ23 : KZ n μ μ23 := uμ.tr (by rw [hμ23]; exact kz_sI (by omega))
  obtain ⟨hi24, h⟩ := gu_some h
  obtain ⟨r25, hr25, h⟩ := bd_some h
  obtain rfl := Option.some.inj h
  exact uμ23
theorem zm_Mo_point {n : Nat} (h32 : n ≤ 32) {a1 : Int32} {a2 : Int32} {a3 : Int32} {a4 : Int32} {μ : Mem} {q : Int32 × Mem} (hn : gI μ 12 0 0 = nI n) (h : m_Mo_point a1 a2 a3 a4 μ = some q) : KZ n μ q.2 := by
  unfold m_Mo_point at h
  have uμ : KZ n μ μ := KZ.rf
  rcases bcase_f ((m_Mo_isLetter (a1) μ)) with hb | hb
  · rw [iB_f hb] at h
    obtain rfl := Option.some.inj h
    exact uμ
  · rw [iB_t hb] at h
    have hl := isl h32 hn hb
    obtain ⟨hi1, h⟩ := gu_some h
    rcases (Classical.em (gI μ 344 (0) a1.toNatClampNeg = 0)) with hc | hc
    · rw [if_pos hc] at h
      obtain rfl := Option.some.inj h
      exact uμ
    · rw [if_neg hc] at h
      rcases bcase_f ((m_Mo_isPlace (a2) μ)) with hb | hb
      · rw [iB_f hb] at h
        obtain rfl := Option.some.inj h
        exact uμ
      · rw [iB_t hb] at h
        rcases bcase_f ((m_Mo_isPlace (a3) μ)) with hb | hb
        · rw [iB_f hb] at h
          obtain rfl := Option.some.inj h
          exact uμ
        · rw [iB_t hb] at h
          rcases (Classical.em (a4 < 0)) with hc | hc
          · rw [if_pos hc] at h
            obtain rfl := Option.some.inj h
            exact uμ
          · rw [if_neg hc] at h
            rcases (Classical.em ((2 : Int32) < a4)) with hc | hc
            · rw [if_pos hc] at h
              obtain rfl := Option.some.inj h
              exact uμ
            · rw [if_neg hc] at h
              obtain ⟨hi2, h⟩ := gu_some h
              rcases (Classical.em (gI μ 345 (0) a1.toNatClampNeg = (100 : Int32))).symm with hc | hc
              · rw [if_neg hc] at h
                obtain ⟨hi3, h⟩ := gu_some h
                obtain ⟨x4, hx4, h⟩ := ap_eq h
                obtain ⟨hi5, h⟩ := gu_some h
                obtain ⟨μ6, hμ6, h⟩ := ap_eq h
                have uμ6 : KZ n μ μ6 := uμ.tr (by rw [hμ6]; exact kz_sI (by omega))
                obtain ⟨hi7, h⟩ := gu_some h
                obtain ⟨μ8, hμ8, h⟩ := ap_eq h
                have uμ8 : KZ n μ μ8 := uμ6.tr (by rw [hμ8]; exact kz_sI (by omega))
                obtain ⟨hi9, h⟩ := gu_some h
                obtain ⟨μ10, hμ10, h⟩ := ap_eq h
                have uμ10 : KZ n μ μ10 := uμ8.tr (by rw [hμ10]; exact kz_sI (by omega))
                exact uμ10.tr (zl_Mo_point_96 (hl := hl) a1 a2 a3 a4 (fun _ h => zj_Mo_point_134 (hl := hl) a1 a2 a3 a4 _ h) FU _ _ _ h)
              · rw [if_pos hc] at h
                obtain rfl := Option.some.inj h
                exact uμ
theorem zm_Mo_close {n : Nat} (h32 : n ≤ 32) {a1 : Int32} {μ : Mem} {q : Int32 × Mem} (hn : gI μ 12 0 0 = nI n) (h : m_Mo_close a1 μ = some q) : KZ n μ q.2 := by
  unfold m_Mo_close at h
  have uμ : KZ n μ μ := KZ.rf
  rcases bcase_f ((m_Mo_isLetter (a1) μ)) with hb | hb
  · rw [iB_f hb] at h
    obtain rfl := Option.some.inj h
    exact uμ
  · rw [iB_t hb] at h
    have hl := isl h32 hn hb
    obtain ⟨hi1, h⟩ := gu_some h
    rcases (Classical.em (gI μ 344 (0) a1.toNatClampNeg = 0)).symm with hc | hc
    · rw [if_neg hc] at h
      obtain ⟨r2, hr2, h⟩ := bd_some h
      rcases (Classical.em (r2 = (-1 : Int32))) with hc | hc
      · rw [if_pos hc] at h
        obtain ⟨hi3, h⟩ := gu_some h
        obtain ⟨hi4, h⟩ := gu_some h
        obtain ⟨hi5, h⟩ := gu_some h
        obtain ⟨μ6, hμ6, h⟩ := ap_eq h
        have uμ6 : KZ n μ μ6 := uμ.tr (by rw [hμ6]; exact kz_sI (by omega))
        obtain ⟨hi7, h⟩ := gu_some h
        obtain ⟨hi8, h⟩ := gu_some h
        obtain ⟨μ9, hμ9, h⟩ := ap_eq h
        have uμ9 : KZ n μ μ9 := uμ6.tr (by rw [hμ9]; exact kz_sI (by omega))
        obtain ⟨hi10, h⟩ := gu_some h
        obtain ⟨μ11, hμ11, h⟩ := ap_eq h
        have uμ11 : KZ n μ μ11 := uμ9.tr (by rw [hμ11]; exact kz_sI (by omega))
        obtain rfl := Option.some.inj h
        exact uμ11
      · rw [if_neg hc] at h
        obtain rfl := Option.some.inj h
        exact uμ
    · rw [if_pos hc] at h
      obtain rfl := Option.some.inj h
      exact uμ
theorem zj_Mo_drop_57 {n : Nat} (a1 : Int32) (hl : a1.toNatClampNeg < n) {q : Int32 × Mem}  (μ : Mem) (h : mj_Mo_drop_57 a1  μ = some q) : KZ n μ q.2 := by
  unfold mj_Mo_drop_57 at h
  have uμ : KZ n μ μ := KZ.rf
  obtain ⟨r6, hr6, h⟩ := bd_some h
  obtain ⟨hi7, h⟩ := gu_some h
  obtain ⟨μ8, hμ8, h⟩ := ap_eq h
  have uμ8 : KZ n μ μ8 := uμ.tr (by rw [hμ8]; exact kz_sI (by omega))
  obtain ⟨hi9, h⟩ := gu_some h
  obtain rfl := Option.some.inj h
  exact uμ8
theorem zj_Mo_drop_28 {n : Nat} (a1 : Int32) (hl : a1.toNatClampNeg < n) {q : Int32 × Mem}  (μ : Mem) (h : mj_Mo_drop_28 a1  μ = some q) : KZ n μ q.2 := by
  unfold mj_Mo_drop_28 at h
  have uμ : KZ n μ μ := KZ.rf
  obtain ⟨hi2, h⟩ := gu_some h
  rcases (Classical.em (gI μ 344 (0) a1.toNatClampNeg = 0)) with hc | hc
  · rw [if_pos hc] at h
    obtain ⟨hi3, h⟩ := gu_some h
    obtain ⟨hi4, h⟩ := gu_some h
    obtain ⟨μ5, hμ5, h⟩ := ap_eq h
    have uμ5 : KZ n μ μ5 := uμ.tr (by rw [hμ5]; exact kz_sI (by omega))
    exact uμ5.tr (zj_Mo_drop_57 (hl := hl) a1 _ h)
  · rw [if_neg hc] at h
    obtain ⟨hi10, h⟩ := gu_some h
    obtain ⟨μ11, hμ11, h⟩ := ap_eq h
    have uμ11 : KZ n μ μ11 := uμ.tr (by rw [hμ11]; exact kz_sI (by omega))
    exact uμ11.tr (zj_Mo_drop_57 (hl := hl) a1 _ h)
theorem zm_Mo_drop {n : Nat} (h32 : n ≤ 32) {a1 : Int32} {μ : Mem} {q : Int32 × Mem} (hn : gI μ 12 0 0 = nI n) (h : m_Mo_drop a1 μ = some q) : KZ n μ q.2 := by
  unfold m_Mo_drop at h
  have uμ : KZ n μ μ := KZ.rf
  rcases bcase_f ((m_Mo_isLetter (a1) μ)) with hb | hb
  · rw [iB_f hb] at h
    obtain rfl := Option.some.inj h
    exact uμ
  · rw [iB_t hb] at h
    have hl := isl h32 hn hb
    obtain ⟨hi1, h⟩ := gu_some h
    rcases (Classical.em (gI μ 343 (0) a1.toNatClampNeg = 0)).symm with hc | hc
    · rw [if_neg hc] at h
      exact uμ.tr (zj_Mo_drop_28 (hl := hl) a1 _ h)
    · rw [if_pos hc] at h
      obtain ⟨hi12, h⟩ := gu_some h
      rcases (Classical.em (gI μ 344 (0) a1.toNatClampNeg = 0)).symm with hc | hc
      · rw [if_neg hc] at h
        exact uμ.tr (zj_Mo_drop_28 (hl := hl) a1 _ h)
      · rw [if_pos hc] at h
        obtain rfl := Option.some.inj h
        exact uμ
theorem zm_Mo_act {n : Nat} (h32 : n ≤ 32) {a1 : Int32} {a2 : Int32} {a3 : Int32} {μ : Mem} {q : Int32 × Mem} (hn : gI μ 12 0 0 = nI n) (h : m_Mo_act a1 a2 a3 μ = some q) : KZ n μ q.2 := by
  unfold m_Mo_act at h
  have uμ : KZ n μ μ := KZ.rf
  rcases bcase_f ((m_Mo_isLetter (a1) μ)) with hb | hb
  · rw [iB_f hb] at h
    obtain rfl := Option.some.inj h
    exact uμ
  · rw [iB_t hb] at h
    have hl := isl h32 hn hb
    obtain ⟨hi1, h⟩ := gu_some h
    rcases (Classical.em (0 < gI μ 352 (0) a1.toNatClampNeg)) with hc | hc
    · rw [if_pos hc] at h
      obtain rfl := Option.some.inj h
      exact uμ
    · rw [if_neg hc] at h
      rcases (Classical.em (a2 < 0)) with hc | hc
      · rw [if_pos hc] at h
        obtain rfl := Option.some.inj h
        exact uμ
      · rw [if_neg hc] at h
        rcases (Classical.em ((30 : Int32) < a2)) with hc | hc
        · rw [if_pos hc] at h
          obtain rfl := Option.some.inj h
          exact uμ
        · rw [if_neg hc] at h
          rcases (Classical.em (a3 < (-100000 : Int32))) with hc | hc
          · rw [if_pos hc] at h
            obtain rfl := Option.some.inj h
            exact uμ
          · rw [if_neg hc] at h
            rcases (Classical.em ((100000 : Int32) < a3)) with hc | hc
            · rw [if_pos hc] at h
              obtain rfl := Option.some.inj h
              exact uμ
            · rw [if_neg hc] at h
              obtain ⟨hi2, h⟩ := gu_some h
              rcases (Classical.em (gI μ 357 (0) a1.toNatClampNeg = (100 : Int32))).symm with hc | hc
              · rw [if_neg hc] at h
                obtain ⟨hi3, h⟩ := gu_some h
                obtain ⟨hi4, h⟩ := gu_some h
                obtain ⟨μ5, hμ5, h⟩ := ap_eq h
                have uμ5 : KZ n μ μ5 := uμ.tr (by rw [hμ5]; exact kz_sI (by omega))
                obtain ⟨hi6, h⟩ := gu_some h
                obtain ⟨hi7, h⟩ := gu_some h
                obtain ⟨μ8, hμ8, h⟩ := ap_eq h
                have uμ8 : KZ n μ μ8 := uμ5.tr (by rw [hμ8]; exact kz_sI (by omega))
                obtain ⟨hi9, h⟩ := gu_some h
                obtain ⟨hi10, h⟩ := gu_some h
                obtain ⟨μ11, hμ11, h⟩ := ap_eq h
                have uμ11 : KZ n μ μ11 := uμ8.tr (by rw [hμ11]; exact kz_sI (by omega))
                obtain ⟨hi12, h⟩ := gu_some h
                obtain rfl := Option.some.inj h
                exact uμ11
              · rw [if_pos hc] at h
                obtain rfl := Option.some.inj h
                exact uμ
theorem zm_Mo_wipe {n : Nat} (h32 : n ≤ 32) {a1 : Int32} {μ : Mem} {q : Int32 × Mem} (hn : gI μ 12 0 0 = nI n) (h : m_Mo_wipe a1 μ = some q) : KZ n μ q.2 := by
  unfold m_Mo_wipe at h
  have uμ : KZ n μ μ := KZ.rf
  rcases bcase_t ((m_Mo_isLetter (a1) μ)) with hb | hb
  · rw [iB_t hb] at h
    have hl := isl h32 hn hb
    obtain ⟨hi1, h⟩ := gu_some h
    obtain ⟨x2, hx2, h⟩ := ap_eq h
    obtain ⟨hi3, h⟩ := gu_some h
    obtain ⟨μ4, hμ4, h⟩ := ap_eq h
    have uμ4 : KZ n μ μ4 := uμ.tr (by rw [hμ4]; exact kz_sI (by omega))
    obtain rfl := Option.some.inj h
    exact uμ4
  · rw [iB_f hb] at h
    obtain rfl := Option.some.inj h
    exact uμ
theorem zj_Mo_classOf_17 {n : Nat} (a1 : Int32) (a2 : Int32) (a3 : Int32) (hl : a1.toNatClampNeg < n) {q : Bool × Mem}  (μ : Mem) (h : mj_Mo_classOf_17 a1 a2 a3  μ = some q) : KZ n μ q.2 := by
  unfold mj_Mo_classOf_17 at h
  have uμ : KZ n μ μ := KZ.rf
  rcases (Classical.em (a3 < 0)) with hc | hc
  · rw [if_pos hc] at h
    obtain rfl := Option.some.inj h
    exact uμ
  · rw [if_neg hc] at h
    rcases (Classical.em (a3 ≤ (15 : Int32))) with hc | hc
    · rw [if_pos hc] at h
      rcases (Classical.em (a2 = 0)).symm with hc | hc
      · rw [if_neg hc] at h
        obtain ⟨hi1, h⟩ := gu_some h
        obtain ⟨μ2, hμ2, h⟩ := ap_eq h
        have uμ2 : KZ n μ μ2 := uμ.tr (by rw [hμ2]; exact kz_sI (by omega))
        obtain rfl := Option.some.inj h
        exact uμ2
      · rw [if_pos hc] at h
        obtain ⟨hi3, h⟩ := gu_some h
        obtain ⟨μ4, hμ4, h⟩ := ap_eq h
        have uμ4 : KZ n μ μ4 := uμ.tr (by rw [hμ4]; exact kz_sI (by omega))
        obtain rfl := Option.some.inj h
        exact uμ4
    · rw [if_neg hc] at h
      obtain rfl := Option.some.inj h
      exact uμ
theorem zm_Mo_classOf {n : Nat} (h32 : n ≤ 32) {a1 : Int32} {a2 : Int32} {a3 : Int32} {μ : Mem} {q : Bool × Mem} (hn : gI μ 12 0 0 = nI n) (h : m_Mo_classOf a1 a2 a3 μ = some q) : KZ n μ q.2 := by
  unfold m_Mo_classOf at h
  have uμ : KZ n μ μ := KZ.rf
  rcases bcase_f ((m_Mo_isLetter (a1) μ)) with hb | hb
  · rw [iB_f hb] at h
    obtain rfl := Option.some.inj h
    exact uμ
  · rw [iB_t hb] at h
    have hl := isl h32 hn hb
    rcases (Classical.em (a2 = 0)) with hc | hc
    · rw [if_pos hc] at h
      exact uμ.tr (zj_Mo_classOf_17 (hl := hl) a1 a2 a3 _ h)
    · rw [if_neg hc] at h
      rcases (Classical.em (a2 = (1 : Int32))).symm with hc | hc
      · rw [if_neg hc] at h
        obtain rfl := Option.some.inj h
        exact uμ
      · rw [if_pos hc] at h
        exact uμ.tr (zj_Mo_classOf_17 (hl := hl) a1 a2 a3 _ h)
theorem oz_weight {μ : Mem} (I : IZ μ) (a b : Int32) : ∃ r ν1 ν2, m_Fo_weight a b μ = some (r, ν1) ∧ m_Mo_weight a b ν1 = some (r, ν2) ∧ IZ ν2 := by
  obtain ⟨n, I, Z⟩ := I
  obtain ⟨r, ν1, ν2, e1, e2, e3⟩ := op_weight I a b
  have u := fm_Fo_weight e1
  have Z1 : MZ n ν1 := MZ_fr (by decide) u Z
  exact ⟨r, ν1, ν2, e1, e2, n, e3, MZ_fr (by decide) (fm_Mo_weight e2) Z1⟩
theorem oz_kern {μ : Mem} (I : IZ μ) (a b d : Int32) : ∃ r ν1 ν2, m_Fo_kern a b d μ = some (r, ν1) ∧ m_Mo_kern a b d ν1 = some (r, ν2) ∧ IZ ν2 := by
  obtain ⟨n, I, Z⟩ := I
  obtain ⟨r, ν1, ν2, e1, e2, e3⟩ := op_kern I a b d
  have u := fm_Fo_kern e1
  have Z1 : MZ n ν1 := MZ_fr (by decide) u Z
  exact ⟨r, ν1, ν2, e1, e2, n, e3, MZ_fr (by decide) (fm_Mo_kern e2) Z1⟩
theorem oz_exception {μ : Mem} (I : IZ μ) (a b d : Int32) : ∃ r ν1 ν2, m_Fo_exception a b d μ = some (r, ν1) ∧ m_Mo_exception a b d ν1 = some (r, ν2) ∧ IZ ν2 := by
  obtain ⟨n, I, Z⟩ := I
  obtain ⟨r, ν1, ν2, e1, e2, e3⟩ := op_exception I a b d
  have u := fm_Fo_exception e1
  have Z1 : MZ n ν1 := MZ_fr (by decide) u Z
  exact ⟨r, ν1, ν2, e1, e2, n, e3, MZ_fr (by decide) (fm_Mo_exception e2) Z1⟩
theorem oz_classOf {μ : Mem} (I : IZ μ) (a b d : Int32) : ∃ r ν1 ν2, m_Fo_classOf a b d μ = some (r, ν1) ∧ m_Mo_classOf a b d ν1 = some (r, ν2) ∧ IZ ν2 := by
  obtain ⟨n, I, Z⟩ := I
  obtain ⟨r, ν1, ν2, e1, e2, e3⟩ := op_classOf I a b d
  have u := fm_Fo_classOf e1
  have Z1 : MZ n ν1 := MZ_fr (by decide) u Z
  exact ⟨r, ν1, ν2, e1, e2, n, e3, zm_Mo_classOf I.1.1 ((eqF u 12 0 (by decide) (by decide) 0).1.trans I.1.2.2.1) e2 Z1⟩
theorem oz_sign {μ : Mem} (I : IZ μ) (a : Int32) : ∃ r ν1 ν2, m_Fo_sign a μ = some (r, ν1) ∧ m_Mo_sign a ν1 = some (r, ν2) ∧ IZ ν2 := by
  obtain ⟨n, I, Z⟩ := I
  obtain ⟨r, ν1, ν2, e1, e2, e3⟩ := op_sign I a
  have u := fm_Fo_sign e1
  have Z1 : MZ n ν1 := MZ_fr (by decide) u Z
  exact ⟨r, ν1, ν2, e1, e2, n, e3, MZ_fr (by decide) (fm_Mo_sign e2) Z1⟩
theorem oz_join {μ : Mem} (I : IZ μ) (a b c d : Int32) : ∃ r ν1 ν2, m_Fo_join a b c d μ = some (r, ν1) ∧ m_Mo_join a b c d ν1 = some (r, ν2) ∧ IZ ν2 := by
  obtain ⟨n, I, Z⟩ := I
  obtain ⟨r, ν1, ν2, e1, e2, e3⟩ := op_join I a b c d
  have u := fm_Fo_join e1
  have Z1 : MZ n ν1 := MZ_fr (by decide) u Z
  exact ⟨r, ν1, ν2, e1, e2, n, e3, MZ_fr (by decide) (fm_Mo_join e2) Z1⟩
theorem oz_act {μ : Mem} (I : IZ μ) (a b d : Int32) : ∃ r ν1 ν2, m_Fo_act a b d μ = some (r, ν1) ∧ m_Mo_act a b d ν1 = some (r, ν2) ∧ IZ ν2 := by
  obtain ⟨n, I, Z⟩ := I
  obtain ⟨r, ν1, ν2, e1, e2, e3⟩ := op_act I a b d
  have u := fm_Fo_act e1
  have Z1 : MZ n ν1 := MZ_fr (by decide) u Z
  exact ⟨r, ν1, ν2, e1, e2, n, e3, zm_Mo_act I.1.1 ((eqF u 12 0 (by decide) (by decide) 0).1.trans I.1.2.2.1) e2 Z1⟩
theorem oz_wipe {μ : Mem} (I : IZ μ) (a : Int32) : ∃ r ν1 ν2, m_Fo_wipe a μ = some (r, ν1) ∧ m_Mo_wipe a ν1 = some (r, ν2) ∧ IZ ν2 := by
  obtain ⟨n, I, Z⟩ := I
  obtain ⟨r, ν1, ν2, e1, e2, e3⟩ := op_wipe I a
  have u := fm_Fo_wipe e1
  have Z1 : MZ n ν1 := MZ_fr (by decide) u Z
  exact ⟨r, ν1, ν2, e1, e2, n, e3, zm_Mo_wipe I.1.1 ((eqF u 12 0 (by decide) (by decide) 0).1.trans I.1.2.2.1) e2 Z1⟩
theorem oz_outline {μ : Mem} (I : IZ μ) (a : Int32) : ∃ r ν1 ν2, m_Fo_outline a μ = some (r, ν1) ∧ m_Mo_outline a ν1 = some (r, ν2) ∧ IZ ν2 := by
  obtain ⟨n, I, Z⟩ := I
  obtain ⟨r, ν1, ν2, e1, e2, e3⟩ := op_outline I a
  have u := fm_Fo_outline e1
  have Z1 : MZ n ν1 := MZ_fr (by decide) u Z
  exact ⟨r, ν1, ν2, e1, e2, n, e3, zm_Mo_outline I.1.1 ((eqF u 12 0 (by decide) (by decide) 0).1.trans I.1.2.2.1) e2 Z1⟩
theorem oz_drop {μ : Mem} (I : IZ μ) (a : Int32) : ∃ r ν1 ν2, m_Fo_drop a μ = some (r, ν1) ∧ m_Mo_drop a ν1 = some (r, ν2) ∧ IZ ν2 := by
  obtain ⟨n, I, Z⟩ := I
  obtain ⟨r, ν1, ν2, e1, e2, e3⟩ := op_drop I a
  have u := fm_Fo_drop e1
  have Z1 : MZ n ν1 := MZ_fr (by decide) u Z
  exact ⟨r, ν1, ν2, e1, e2, n, e3, zm_Mo_drop I.1.1 ((eqF u 12 0 (by decide) (by decide) 0).1.trans I.1.2.2.1) e2 Z1⟩
theorem oz_move {μ : Mem} (I : IZ μ) (a b d f : Int32) : ∃ r ν1 ν2, m_Fo_move a b d f μ = some (r, ν1) ∧ m_Mo_move a b d f ν1 = some (r, ν2) ∧ IZ ν2 := by
  obtain ⟨n, I, Z⟩ := I
  obtain ⟨r, ν1, ν2, e1, e2, e3⟩ := op_move I a b d f
  have u := fm_Fo_move e1
  have Z1 : MZ n ν1 := MZ_fr (by decide) u Z
  exact ⟨r, ν1, ν2, e1, e2, n, e3, MZ_fr (by decide) (fm_Mo_move e2) Z1⟩
theorem oz_delta {μ : Mem} (I : IZ μ) (a m b d f : Int32) : ∃ r ν1 ν2, m_Fo_delta a m b d f μ = some (r, ν1) ∧ m_Mo_delta a m b d f ν1 = some (r, ν2) ∧ IZ ν2 := by
  obtain ⟨n, I, Z⟩ := I
  obtain ⟨r, ν1, ν2, e1, e2, e3⟩ := op_delta I a m b d f
  have u := fm_Fo_delta e1
  have Z1 : MZ n ν1 := MZ_fr (by decide) u Z
  exact ⟨r, ν1, ν2, e1, e2, n, e3, MZ_fr (by decide) (fm_Mo_delta e2) Z1⟩
theorem oz_point {μ : Mem} (I : IZ μ) (a b d f : Int32) : ∃ r ν1 ν2, m_Fo_point a b d f μ = some (r, ν1) ∧ m_Mo_point a b d f ν1 = some (r, ν2) ∧ IZ ν2 := by
  obtain ⟨n, I, Z⟩ := I
  obtain ⟨r, ν1, ν2, e1, e2, e3⟩ := op_point I a b d f
  have u := fm_Fo_point e1
  have Z1 : MZ n ν1 := MZ_fr (by decide) u Z
  exact ⟨r, ν1, ν2, e1, e2, n, e3, zm_Mo_point I.1.1 ((eqF u 12 0 (by decide) (by decide) 0).1.trans I.1.2.2.1) e2 Z1⟩
theorem oz_close {μ : Mem} (I : IZ μ) (a : Int32) : ∃ r ν1 ν2, m_Fo_close a μ = some (r, ν1) ∧ m_Mo_close a ν1 = some (r, ν2) ∧ IZ ν2 := by
  obtain ⟨n, I, Z⟩ := I
  obtain ⟨r, ν1, ν2, e1, e2, e3⟩ := op_close I a
  have u := fm_Fo_close e1
  have Z1 : MZ n ν1 := MZ_fr (by decide) u Z
  exact ⟨r, ν1, ν2, e1, e2, n, e3, zm_Mo_close I.1.1 ((eqF u 12 0 (by decide) (by decide) 0).1.trans I.1.2.2.1) e2 Z1⟩
theorem oz_matrix {μ : Mem} (I : IZ μ) (a b c1 c2 c3 c4 : Int32) : ∃ r ν1 ν2, m_Fo_matrix a b c1 c2 c3 c4 μ = some (r, ν1) ∧ m_Mo_matrix a b c1 c2 c3 c4 ν1 = some (r, ν2) ∧ IZ ν2 := by
  obtain ⟨n, I, Z⟩ := I
  obtain ⟨r, ν1, ν2, e1, e2, e3⟩ := op_matrix I a b c1 c2 c3 c4
  have u := fm_Fo_matrix e1
  have Z1 : MZ n ν1 := MZ_fr (by decide) u Z
  exact ⟨r, ν1, ν2, e1, e2, n, e3, MZ_fr (by decide) (fm_Mo_matrix e2) Z1⟩
theorem oz_reverse {μ : Mem} (I : IZ μ) (a b : Int32) : ∃ r ν1 ν2, m_Fo_reverse a b μ = some (r, ν1) ∧ m_Mo_reverse a b ν1 = some (r, ν2) ∧ IZ ν2 := by
  obtain ⟨n, I, Z⟩ := I
  obtain ⟨r, ν1, ν2, e1, e2, e3⟩ := op_reverse I a b
  have u := fm_Fo_reverse e1
  have Z1 : MZ n ν1 := MZ_fr (by decide) u Z
  exact ⟨r, ν1, ν2, e1, e2, n, e3, MZ_fr (by decide) (fm_Mo_reverse e2) Z1⟩
theorem oz_set {μ : Mem} (I : IZ μ) : ∃ r ν1 ν2, m_Fo_set  μ = some (r, ν1) ∧ m_Mo_set  ν1 = some (r, ν2) ∧ IZ ν2 := by
  obtain ⟨n, I, Z⟩ := I
  obtain ⟨r, ν1, ν2, e1, e2, e3⟩ := op_set I 
  have u := fm_Fo_set e1
  have Z1 : MZ n ν1 := MZ_fr (by decide) u Z
  exact ⟨r, ν1, ν2, e1, e2, n, e3, MZ_fr (by decide) (fm_Mo_set e2) Z1⟩
theorem oz_run {μ : Mem} (I : IZ μ) (a s : Int32) : ∃ r ν1 ν2, m_Fo_run a s μ = some (r, ν1) ∧ m_Mo_run a s ν1 = some (r, ν2) ∧ IZ ν2 := by
  obtain ⟨n, I, Z⟩ := I
  obtain ⟨r, ν1, ν2, e1, e2, e3⟩ := op_run I a s
  have u := fm_Fo_run e1
  have Z1 : MZ n ν1 := MZ_fr (by decide) u Z
  exact ⟨r, ν1, ν2, e1, e2, n, e3, MZ_fr (by decide) (fm_Mo_run e2) Z1⟩
theorem oz_flatten {μ : Mem} (I : IZ μ) (a t : Int32) : ∃ r ν1 ν2, m_Fo_flatten a t μ = some (r, ν1) ∧ m_Mo_flatten a t ν1 = some (r, ν2) ∧ IZ ν2 := by
  obtain ⟨n, I, Z⟩ := I
  obtain ⟨r, ν1, ν2, e1, e2, e3⟩ := op_flatten I a t
  have u := fm_Fo_flatten e1
  have Z1 : MZ n ν1 := MZ_fr (by decide) u Z
  exact ⟨r, ν1, ν2, e1, e2, n, e3, MZ_fr (by decide) (fm_Mo_flatten e2) Z1⟩
theorem oz_image {μ : Mem} (I : IZ μ) (a t s rule : Int32) : ∃ r ν1 ν2, m_Fo_image a t s rule μ = some (r, ν1) ∧ m_Mo_image a t s rule ν1 = some (r, ν2) ∧ IZ ν2 := by
  obtain ⟨n, I, Z⟩ := I
  obtain ⟨r, ν1, ν2, e1, e2, e3⟩ := op_image I a t s rule
  have u := fm_Fo_image e1
  have Z1 : MZ n ν1 := MZ_fr (by decide) u Z
  exact ⟨r, ν1, ν2, e1, e2, n, e3, MZ_fr (by decide) (fm_Mo_image e2) Z1⟩
theorem oz_letter {μ : Mem} (I : IZ μ) (a b : Int32) : ∃ r ν1 ν2, m_Fo_letter a b μ = some (r, ν1) ∧ m_Mo_letter a b ν1 = some (r, ν2) ∧ IZ ν2 := by
  obtain ⟨n, I, Z⟩ := I
  obtain ⟨m, r, ν1, ν2, e1, e2, e3, e4⟩ := op_letter I Z a b
  exact ⟨r, ν1, ν2, e1, e2, m, e3, e4⟩
theorem oz_part {μ : Mem} (I : IZ μ) (a b d f : Int32) : ∃ r ν1 ν2, m_Fo_part a b d f μ = some (r, ν1) ∧ m_Mo_part a b d f ν1 = some (r, ν2) ∧ IZ ν2 := by
  obtain ⟨n, I, Z⟩ := I
  obtain ⟨r, ν1, ν2, e1, e2, e3, e4⟩ := op_part I Z a b d f
  exact ⟨r, ν1, ν2, e1, e2, n, e3, e4⟩
theorem oz_info {μ : Mem} (I : IZ μ) (a b : Int32) : ∃ r ν, m_Fo_info a b μ = some r ∧ m_Mo_info a b μ = some (r, ν) ∧ IZ ν := by
  obtain ⟨n, I, Z⟩ := I
  obtain ⟨r, ν, e1, e2, e3⟩ := op_info I a b
  exact ⟨r, ν, e1, e2, n, e3, MZ_fr (by decide) (fm_Mo_info e2) Z⟩
