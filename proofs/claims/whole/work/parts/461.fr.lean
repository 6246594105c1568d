theorem fl_Ar_fill_5 (a1k : Nat) (a1l : Nat) (a1n : Nat) (a1z : Nat) (a2 : Int32) (h13a1k : 13 ≤ a1k) {q : Mem}  : ∀ (n : Nat) (y2 : Int32) (y3 : Int32) (μ : Mem), lp_Ar_fill_5 a1k a1l a1n a1z a2 n y2 y3 μ = some q → Un [a1k] μ q := by
  intro n
  induction n with
  | zero => intro _ _ _ h; cases h
  | succ n ih =>
    intro y2 y3 μ h
    unfold lp_Ar_fill_5 at h
    have uμ : Un [a1k] μ μ := Un.rf
    rcases (Classical.em (y3 ≤ y2)) with hc | hc
    · rw [if_pos hc] at h
      obtain rfl := Option.some.inj h
      exact uμ
    · rw [if_neg hc] at h
      obtain ⟨hi5, h⟩ := gu_some h
      obtain ⟨μ6, hμ6, h⟩ := ap_eq h
      have uμ6 : Un [a1k] μ μ6 := uμ.tr (by rw [hμ6]; exact un_sI (Or.inl (by simp)) (fun _ => h13a1k))
      obtain ⟨x7, hx7, h⟩ := ap_eq h
      exact uμ6.tr (ih _ _ _ h)
theorem fm_Ar_fill {a1k : Nat} {a1l : Nat} {a1n : Nat} {a1z : Nat} {a2 : Int32} {μ : Mem} {q : Mem} (h13a1k : 13 ≤ a1k) (h : m_Ar_fill a1k a1l a1n a1z a2 μ = some q) : Un [a1k] μ q := by
  unfold m_Ar_fill at h
  have uμ : Un [a1k] μ μ := Un.rf
  obtain ⟨x1, hx1, h⟩ := ap_eq h
  exact uμ.tr (fl_Ar_fill_5 a1k a1l a1n a1z a2 h13a1k FU _ _ _ h)
theorem fm_Sh_begin {o : Nat} {μ : Mem} {q : Int32 × Mem} (h : m_Sh_begin o μ = q) : Un [2007] μ q.2 := by
  unfold m_Sh_begin at h
  have uμ : Un [2007] μ μ := Un.rf
  rcases (Classical.em (gI μ 10 (o) 7 = 0)).symm with hc | hc
  · rw [if_neg hc] at h
    subst h
    exact uμ
  · rw [if_pos hc] at h
    rcases (Classical.em (gI μ 10 (o) 6 < (8 : Int32))) with hc | hc
    · rw [if_pos hc] at h
      obtain ⟨μ1, hμ1, h⟩ := ap_eq h
      have uμ1 : Un [2007] μ μ1 := uμ.tr (by rw [hμ1]; exact un_sI (Or.inr ⟨by decide, by simp⟩) (by simp <;> omega))
      subst h
      exact uμ1
    · rw [if_neg hc] at h
      subst h
      exact uμ
theorem fm_Fo_outline {a1 : Int32} {μ : Mem} {q : Int32 × Mem} (h : m_Fo_outline a1 μ = some q) : Un [2007] μ q.2 := by
  unfold m_Fo_outline at h
  have uμ : Un [2007] μ μ := Un.rf
  obtain ⟨r1, hr1, h⟩ := bd_some h
  rcases ocase_n r1 with ho | ⟨y2, ho⟩
  · subst ho
    rw [oc_none] at h
    obtain rfl := Option.some.inj h
    exact uμ
  · subst ho
    rw [oc_some] at h
    rcases (Classical.em (gI μ 4 (y2) 5 ≤ 0)) with hc | hc
    · rw [if_pos hc] at h
      obtain ⟨r3, hr3, h⟩ := ap_eq h
      obtain ⟨μ4, hμ4, h⟩ := ap_eq h
      have uμ4 : Un [2007] μ μ4 := by rw [hμ4]; exact uμ.tr ((fm_Sh_begin hr3.symm).mono (by simp))
      obtain rfl := Option.some.inj h
      exact uμ4
    · rw [if_neg hc] at h
      obtain rfl := Option.some.inj h
      exact uμ
theorem fl_Sh_add_51 (o : Nat) (a1 : Int32) (a2 : Int32) (a3 : Int32) {q : Int32 × Mem} {c_89 : Mem → Option (Int32 × Mem)} (hf_89 : ∀ (μ : Mem), c_89  μ = some q → Un [300, 301, 302, 703, 704, 2008] μ q.2) : ∀ (n : Nat) (y4 : Int32) (μ : Mem), lp_Sh_add_51 o a1 a2 a3 c_89 n y4 μ = some q → Un [300, 301, 302, 703, 704, 2008] μ q.2 := by
  intro n
  induction n with
  | zero => intro _ _ h; cases h
  | succ n ih =>
    intro y4 μ h
    unfold lp_Sh_add_51 at h
    have uμ : Un [300, 301, 302, 703, 704, 2008] μ μ := Un.rf
    rcases (Classical.em ((3 : Int32) ≤ y4)) with hc | hc
    · rw [if_pos hc] at h
      exact uμ.tr (hf_89 _ h)
    · rw [if_neg hc] at h
      obtain ⟨hi14, h⟩ := gu_some h
      obtain ⟨hi15, h⟩ := gu_some h
      obtain ⟨μ16, hμ16, h⟩ := ap_eq h
      have uμ16 : Un [300, 301, 302, 703, 704, 2008] μ μ16 := uμ.tr (by rw [hμ16]; exact un_sI (Or.inl (by simp)) (fun _ => by decide))
      obtain ⟨hi17, h⟩ := gu_some h
      obtain ⟨hi18, h⟩ := gu_some h
      obtain ⟨μ19, hμ19, h⟩ := ap_eq h
      have uμ19 : Un [300, 301, 302, 703, 704, 2008] μ μ19 := uμ16.tr (by rw [hμ19]; exact un_sI (Or.inl (by simp)) (fun _ => by decide))
      obtain ⟨x20, hx20, h⟩ := ap_eq h
      exact uμ19.tr (ih _ _ h)
theorem fj_Sh_add_89 (o : Nat) (a1 : Int32) (a2 : Int32) (a3 : Int32) {q : Int32 × Mem}  (μ : Mem) (h : mj_Sh_add_89 o a1 a2 a3  μ = some q) : Un [300, 301, 302, 703, 704, 2008] μ q.2 := by
  unfold mj_Sh_add_89 at h
  have uμ : Un [300, 301, 302, 703, 704, 2008] μ μ := Un.rf
  obtain ⟨μ21, hμ21, h⟩ := ap_eq h
  have uμ21 : Un [300, 301, 302, 703, 704, 2008] μ μ21 := uμ.tr (by rw [hμ21]; exact un_sI (Or.inr ⟨by decide, by simp⟩) (by simp <;> omega))
  obtain ⟨r22, hr22, h⟩ := bd_some h
  obtain rfl := Option.some.inj h
  exact uμ21
theorem fm_Sh_add {o : Nat} {a1 : Int32} {a2 : Int32} {a3 : Int32} {μ : Mem} {q : Int32 × Mem} (h : m_Sh_add o a1 a2 a3 μ = some q) : Un [300, 301, 302, 703, 704, 2008] μ q.2 := by
  unfold m_Sh_add at h
  have uμ : Un [300, 301, 302, 703, 704, 2008] μ μ := Un.rf
  rcases (Classical.em (gI μ 10 (o) 7 = 0)) with hc | hc
  · rw [if_pos hc] at h
    obtain rfl := Option.some.inj h
    exact uμ
  · rw [if_neg hc] at h
    rcases (Classical.em (gI μ 10 (o) 8 < (100 : Int32))) with hc | hc
    · rw [if_pos hc] at h
      obtain ⟨hi1, h⟩ := gu_some h
      obtain ⟨μ2, hμ2, h⟩ := ap_eq h
      have uμ2 : Un [300, 301, 302, 703, 704, 2008] μ μ2 := uμ.tr (by rw [hμ2]; exact un_sI (Or.inl (by simp)) (fun _ => by decide))
      obtain ⟨hi3, h⟩ := gu_some h
      obtain ⟨μ4, hμ4, h⟩ := ap_eq h
      have uμ4 : Un [300, 301, 302, 703, 704, 2008] μ μ4 := uμ2.tr (by rw [hμ4]; exact un_sI (Or.inl (by simp)) (fun _ => by decide))
      obtain ⟨hi5, h⟩ := gu_some h
      obtain ⟨μ6, hμ6, h⟩ := ap_eq h
      have uμ6 : Un [300, 301, 302, 703, 704, 2008] μ μ6 := uμ4.tr (by rw [hμ6]; exact un_sI (Or.inl (by simp)) (fun _ => by decide))
      exact uμ6.tr (fl_Sh_add_51 o a1 a2 a3 (fun _ h => fj_Sh_add_89 o a1 a2 a3 _ h) FU _ _ h)
    · rw [if_neg hc] at h
      obtain rfl := Option.some.inj h
      exact uμ
theorem fm_Fo_point {a1 : Int32} {a2 : Int32} {a3 : Int32} {a4 : Int32} {μ : Mem} {q : Int32 × Mem} (h : m_Fo_point a1 a2 a3 a4 μ = some q) : Un [300, 301, 302, 703, 704, 2008] μ q.2 := by
  unfold m_Fo_point at h
  have uμ : Un [300, 301, 302, 703, 704, 2008] μ μ := Un.rf
  obtain ⟨r1, hr1, h⟩ := bd_some h
  rcases ocase_n r1 with ho | ⟨y2, ho⟩
  · subst ho
    rw [oc_none] at h
    obtain rfl := Option.some.inj h
    exact uμ
  · subst ho
    rw [oc_some] at h
    rcases bcase_f ((m_Fo_isPlace (a2) (a3) μ)) with hb | hb
    · rw [iB_f hb] at h
      obtain rfl := Option.some.inj h
      exact uμ
    · rw [iB_t hb] at h
      rcases bcase_t ((m_Fo_within ((a4).toInt64) ((0 : Int64)) ((2 : Int64)) μ)) with hb | hb
      · rw [iB_t hb] at h
        obtain ⟨r3, hr3, h⟩ := bd_some h
        obtain ⟨μ4, hμ4, h⟩ := ap_eq h
        have uμ4 : Un [300, 301, 302, 703, 704, 2008] μ μ4 := by rw [hμ4]; exact uμ.tr ((fm_Sh_add hr3).mono (by simp))
        obtain ⟨x5, hx5, h⟩ := ap_eq h
        obtain rfl := Option.some.inj h
        exact uμ4
      · rw [iB_f hb] at h
        obtain rfl := Option.some.inj h
        exact uμ
theorem fm_Sh_finish {o : Nat} {μ : Mem} {q : Int32 × Mem} (h : m_Sh_finish o μ = some q) : Un [305, 2006, 2007] μ q.2 := by
  unfold m_Sh_finish at h
  have uμ : Un [305, 2006, 2007] μ μ := Un.rf
  obtain ⟨r1, hr1, h⟩ := bd_some h
  rcases (Classical.em (r1 = (-1 : Int32))) with hc | hc
  · rw [if_pos hc] at h
    rcases (Classical.em (gI μ 10 (o) 6 < (8 : Int32))) with hc | hc
    · rw [if_pos hc] at h
      obtain ⟨hi2, h⟩ := gu_some h
      obtain ⟨μ3, hμ3, h⟩ := ap_eq h
      have uμ3 : Un [305, 2006, 2007] μ μ3 := uμ.tr (by rw [hμ3]; exact un_sI (Or.inl (by simp)) (fun _ => by decide))
      obtain ⟨μ4, hμ4, h⟩ := ap_eq h
      have uμ4 : Un [305, 2006, 2007] μ μ4 := uμ3.tr (by rw [hμ4]; exact un_sI (Or.inr ⟨by decide, by simp⟩) (by simp <;> omega))
      obtain ⟨μ5, hμ5, h⟩ := ap_eq h
      have uμ5 : Un [305, 2006, 2007] μ μ5 := uμ4.tr (by rw [hμ5]; exact un_sI (Or.inr ⟨by decide, by simp⟩) (by simp <;> omega))
      obtain rfl := Option.some.inj h
      exact uμ5
    · rw [if_neg hc] at h
      obtain rfl := Option.some.inj h
      exact uμ
  · rw [if_neg hc] at h
    obtain rfl := Option.some.inj h
    exact uμ
theorem fm_Fo_close {a1 : Int32} {μ : Mem} {q : Int32 × Mem} (h : m_Fo_close a1 μ = some q) : Un [305, 2006, 2007] μ q.2 := by
  unfold m_Fo_close at h
  have uμ : Un [305, 2006, 2007] μ μ := Un.rf
  obtain ⟨r1, hr1, h⟩ := bd_some h
  rcases ocase_n r1 with ho | ⟨y2, ho⟩
  · subst ho
    rw [oc_none] at h
    obtain rfl := Option.some.inj h
    exact uμ
  · subst ho
    rw [oc_some] at h
    rcases (Classical.em (gI μ 10 (y2) 7 = 0)).symm with hc | hc
    · rw [if_neg hc] at h
      obtain ⟨r3, hr3, h⟩ := bd_some h
      obtain ⟨μ4, hμ4, h⟩ := ap_eq h
      have uμ4 : Un [305, 2006, 2007] μ μ4 := by rw [hμ4]; exact uμ.tr ((fm_Sh_finish hr3).mono (by simp))
      obtain ⟨x5, hx5, h⟩ := ap_eq h
      obtain rfl := Option.some.inj h
      exact uμ4
    · rw [if_pos hc] at h
      obtain rfl := Option.some.inj h
      exact uμ
theorem fj_Sh_removeLast_34 (o : Nat) {q : Int32 × Mem}  (μ : Mem) (h : mj_Sh_removeLast_34 o  μ = some q) : Un [2006, 2007, 2008] μ q.2 := by
  unfold mj_Sh_removeLast_34 at h
  have uμ : Un [2006, 2007, 2008] μ μ := Un.rf
  obtain ⟨r2, hr2, h⟩ := bd_some h
  obtain ⟨μ3, hμ3, h⟩ := ap_eq h
  have uμ3 : Un [2006, 2007, 2008] μ μ3 := uμ.tr (by rw [hμ3]; exact un_sI (Or.inr ⟨by decide, by simp⟩) (by simp <;> omega))
  obtain rfl := Option.some.inj h
  exact uμ3
theorem fm_Sh_removeLast {o : Nat} {μ : Mem} {q : Int32 × Mem} (h : m_Sh_removeLast o μ = some q) : Un [2006, 2007, 2008] μ q.2 := by
  unfold m_Sh_removeLast at h
  have uμ : Un [2006, 2007, 2008] μ μ := Un.rf
  rcases bcase_t ((m_Sh_hasAny (o) μ)) with hb | hb
  · rw [iB_t hb] at h
    rcases (Classical.em (gI μ 10 (o) 7 = 0)) with hc | hc
    · rw [if_pos hc] at h
      obtain ⟨μ1, hμ1, h⟩ := ap_eq h
      have uμ1 : Un [2006, 2007, 2008] μ μ1 := uμ.tr (by rw [hμ1]; exact un_sI (Or.inr ⟨by decide, by simp⟩) (by simp <;> omega))
      exact uμ1.tr (fj_Sh_removeLast_34 o _ h)
    · rw [if_neg hc] at h
      obtain ⟨μ4, hμ4, h⟩ := ap_eq h
      have uμ4 : Un [2006, 2007, 2008] μ μ4 := uμ.tr (by rw [hμ4]; exact un_sI (Or.inr ⟨by decide, by simp⟩) (by simp <;> omega))
      exact uμ4.tr (fj_Sh_removeLast_34 o _ h)
  · rw [iB_f hb] at h
    obtain rfl := Option.some.inj h
    exact uμ
theorem fm_Fo_drop {a1 : Int32} {μ : Mem} {q : Int32 × Mem} (h : m_Fo_drop a1 μ = some q) : Un [2006, 2007, 2008] μ q.2 := by
  unfold m_Fo_drop at h
  have uμ : Un [2006, 2007, 2008] μ μ := Un.rf
  obtain ⟨r1, hr1, h⟩ := bd_some h
  rcases ocase_s r1 with ⟨y2, ho⟩ | ho
  · subst ho
    rw [oc_some] at h
    obtain ⟨r3, hr3, h⟩ := bd_some h
    obtain ⟨μ4, hμ4, h⟩ := ap_eq h
    have uμ4 : Un [2006, 2007, 2008] μ μ4 := by rw [hμ4]; exact uμ.tr ((fm_Sh_removeLast hr3).mono (by simp))
    obtain ⟨x5, hx5, h⟩ := ap_eq h
    obtain rfl := Option.some.inj h
    exact uμ4
  · subst ho
    rw [oc_none] at h
    obtain rfl := Option.some.inj h
    exact uμ
theorem fm_Fo_move {a1 : Int32} {a2 : Int32} {a3 : Int32} {a4 : Int32} {μ : Mem} {q : Bool × Mem} (h : m_Fo_move a1 a2 a3 a4 μ = some q) : Un [300, 301] μ q.2 := by
  unfold m_Fo_move at h
  have uμ : Un [300, 301] μ μ := Un.rf
  obtain ⟨r1, hr1, h⟩ := bd_some h
  rcases ocase_n r1 with ho | ⟨y2, ho⟩
  · subst ho
    rw [oc_none] at h
    obtain rfl := Option.some.inj h
    exact uμ
  · subst ho
    rw [oc_some] at h
    obtain ⟨r3, hr3, h⟩ := bd_some h
    rcases bcase_f (r3) with hb | hb
    · rw [iB_f hb] at h
      obtain rfl := Option.some.inj h
      exact uμ
    · rw [iB_t hb] at h
      rcases bcase_t ((m_Fo_isPlace (a3) (a4) μ)) with hb | hb
      · rw [iB_t hb] at h
        obtain ⟨hi4, h⟩ := gu_some h
        obtain ⟨μ5, hμ5, h⟩ := ap_eq h
        have uμ5 : Un [300, 301] μ μ5 := uμ.tr (by rw [hμ5]; exact un_sI (Or.inl (by simp)) (fun _ => by decide))
        obtain ⟨hi6, h⟩ := gu_some h
        obtain ⟨μ7, hμ7, h⟩ := ap_eq h
        have uμ7 : Un [300, 301] μ μ7 := uμ5.tr (by rw [hμ7]; exact un_sI (Or.inl (by simp)) (fun _ => by decide))
        obtain rfl := Option.some.inj h
        exact uμ7
      · rw [iB_f hb] at h
        obtain rfl := Option.some.inj h
        exact uμ
theorem fm_Sh_swap {a1k : Nat} {a1l : Nat} {a1n : Nat} {a1z : Nat} {a2 : Int32} {a3 : Int32} {μ : Mem} {q : Mem} (h13a1k : 13 ≤ a1k) (h : m_Sh_swap a1k a1l a1n a1z a2 a3 μ = some q) : Un [a1k] μ q := by
  unfold m_Sh_swap at h
  have uμ : Un [a1k] μ μ := Un.rf
  obtain ⟨hi1, h⟩ := gu_some h
  obtain ⟨x2, hx2, h⟩ := ap_eq h
  obtain ⟨hi3, h⟩ := gu_some h
  obtain ⟨hi4, h⟩ := gu_some h
  obtain ⟨μ5, hμ5, h⟩ := ap_eq h
  have uμ5 : Un [a1k] μ μ5 := uμ.tr (by rw [hμ5]; exact un_sI (Or.inl (by simp)) (fun _ => h13a1k))
  obtain ⟨hi6, h⟩ := gu_some h
  obtain ⟨μ7, hμ7, h⟩ := ap_eq h
  have uμ7 : Un [a1k] μ μ7 := uμ5.tr (by rw [hμ7]; exact un_sI (Or.inl (by simp)) (fun _ => h13a1k))
  obtain rfl := Option.some.inj h
  exact uμ7
theorem fl_Sh_exchange_29 (o : Nat) (a1 : Int32) (a2 : Int32) {q : Mem}  : ∀ (n : Nat) (y3 : Int32) (μ : Mem), lp_Sh_exchange_29 o a1 a2 n y3 μ = some q → Un [300, 301, 302, 703, 704] μ q := by
  intro n
  induction n with
  | zero => intro _ _ h; cases h
  | succ n ih =>
    intro y3 μ h
    unfold lp_Sh_exchange_29 at h
    have uμ : Un [300, 301, 302, 703, 704] μ μ := Un.rf
    rcases (Classical.em ((3 : Int32) ≤ y3)) with hc | hc
    · rw [if_pos hc] at h
      obtain rfl := Option.some.inj h
      exact uμ
    · rw [if_neg hc] at h
      obtain ⟨hi9, h⟩ := gu_some h
      obtain ⟨r10, hr10, h⟩ := bd_some h
      have ur10 : Un [300, 301, 302, 703, 704] μ r10 := uμ.tr ((fm_Sh_swap (by decide) hr10).mono (by simp))
      obtain ⟨hi11, h⟩ := gu_some h
      obtain ⟨r12, hr12, h⟩ := bd_some h
      have ur12 : Un [300, 301, 302, 703, 704] μ r12 := ur10.tr ((fm_Sh_swap (by decide) hr12).mono (by simp))
      obtain ⟨x13, hx13, h⟩ := ap_eq h
      exact ur12.tr (ih _ _ h)
theorem fm_Sh_exchange {o : Nat} {a1 : Int32} {a2 : Int32} {μ : Mem} {q : Mem} (h : m_Sh_exchange o a1 a2 μ = some q) : Un [300, 301, 302, 703, 704] μ q := by
  unfold m_Sh_exchange at h
  have uμ : Un [300, 301, 302, 703, 704] μ μ := Un.rf
  obtain ⟨r1, hr1, h⟩ := bd_some h
  have ur1 : Un [300, 301, 302, 703, 704] μ r1 := uμ.tr ((fm_Sh_swap (by decide) hr1).mono (by simp))
  obtain ⟨r2, hr2, h⟩ := bd_some h
  have ur2 : Un [300, 301, 302, 703, 704] μ r2 := ur1.tr ((fm_Sh_swap (by decide) hr2).mono (by simp))
  obtain ⟨r3, hr3, h⟩ := bd_some h
  have ur3 : Un [300, 301, 302, 703, 704] μ r3 := ur2.tr ((fm_Sh_swap (by decide) hr3).mono (by simp))
  exact ur3.tr (fl_Sh_exchange_29 o a1 a2 FU _ _ h)
theorem fl_Sh_turn_16 (o : Nat) (a1 : Int32) {q : Mem}  : ∀ (n : Nat) (y2 : Int32) (y3 : Int32) (μ : Mem), lp_Sh_turn_16 o a1 n y2 y3 μ = some q → Un [300, 301, 302, 703, 704] μ q := by
  intro n
  induction n with
  | zero => intro _ _ _ h; cases h
  | succ n ih =>
    intro y2 y3 μ h
    unfold lp_Sh_turn_16 at h
    have uμ : Un [300, 301, 302, 703, 704] μ μ := Un.rf
    rcases (Classical.em (y3 ≤ y2)) with hc | hc
    · rw [if_pos hc] at h
      obtain rfl := Option.some.inj h
      exact uμ
    · rw [if_neg hc] at h
      obtain ⟨r8, hr8, h⟩ := bd_some h
      have ur8 : Un [300, 301, 302, 703, 704] μ r8 := uμ.tr ((fm_Sh_exchange hr8).mono (by simp))
      obtain ⟨x9, hx9, h⟩ := ap_eq h
      obtain ⟨x10, hx10, h⟩ := ap_eq h
      exact ur8.tr (ih _ _ _ h)
theorem fm_Sh_turn {o : Nat} {a1 : Int32} {μ : Mem} {q : Mem} (h : m_Sh_turn o a1 μ = some q) : Un [300, 301, 302, 703, 704] μ q := by
  unfold m_Sh_turn at h
  have uμ : Un [300, 301, 302, 703, 704] μ μ := Un.rf
  obtain ⟨r1, hr1, h⟩ := bd_some h
  obtain ⟨x2, hx2, h⟩ := ap_eq h
  obtain ⟨r3, hr3, h⟩ := bd_some h
  obtain ⟨x4, hx4, h⟩ := ap_eq h
  exact uμ.tr (fl_Sh_turn_16 o a1 FU _ _ _ h)
theorem fm_Fo_reverse {a1 : Int32} {a2 : Int32} {μ : Mem} {q : Bool × Mem} (h : m_Fo_reverse a1 a2 μ = some q) : Un [300, 301, 302, 703, 704] μ q.2 := by
  unfold m_Fo_reverse at h
  have uμ : Un [300, 301, 302, 703, 704] μ μ := Un.rf
  obtain ⟨r1, hr1, h⟩ := bd_some h
  rcases ocase_n r1 with ho | ⟨y2, ho⟩
  · subst ho
    rw [oc_none] at h
    obtain rfl := Option.some.inj h
    exact uμ
  · subst ho
    rw [oc_some] at h
    rcases bcase_t ((m_Fo_within ((a2).toInt64) ((0 : Int64)) (((gI μ 10 (y2) 6) - ((1 : Int32))).toInt64) μ)) with hb | hb
    · rw [iB_t hb] at h
      obtain ⟨r3, hr3, h⟩ := bd_some h
      have ur3 : Un [300, 301, 302, 703, 704] μ r3 := uμ.tr ((fm_Sh_turn hr3).mono (by simp))
      obtain rfl := Option.some.inj h
      exact ur3
    · rw [iB_f hb] at h
      obtain rfl := Option.some.inj h
      exact uμ
theorem fm_Pa_turnBy {o : Nat} {a1 : Int32} {a2 : Int32} {a3 : Int32} {a4 : Int32} {μ : Mem} {q : Mem} (h : m_Pa_turnBy o a1 a2 a3 a4 μ = q) : Un [1603, 1604, 1605, 1606] μ q := by
  unfold m_Pa_turnBy at h
  have uμ : Un [1603, 1604, 1605, 1606] μ μ := Un.rf
  obtain ⟨μ1, hμ1, h⟩ := ap_eq h
  have uμ1 : Un [1603, 1604, 1605, 1606] μ μ1 := uμ.tr (by rw [hμ1]; exact un_sI (Or.inr ⟨by decide, by simp⟩) (by simp <;> omega))
  obtain ⟨μ2, hμ2, h⟩ := ap_eq h
  have uμ2 : Un [1603, 1604, 1605, 1606] μ μ2 := uμ1.tr (by rw [hμ2]; exact un_sI (Or.inr ⟨by decide, by simp⟩) (by simp <;> omega))
  obtain ⟨μ3, hμ3, h⟩ := ap_eq h
  have uμ3 : Un [1603, 1604, 1605, 1606] μ μ3 := uμ2.tr (by rw [hμ3]; exact un_sI (Or.inr ⟨by decide, by simp⟩) (by simp <;> omega))
  obtain ⟨μ4, hμ4, h⟩ := ap_eq h
  have uμ4 : Un [1603, 1604, 1605, 1606] μ μ4 := uμ3.tr (by rw [hμ4]; exact un_sI (Or.inr ⟨by decide, by simp⟩) (by simp <;> omega))
  subst h
  exact uμ4
theorem fj_Fo_matrix_22 (a1 : Int32) (a2 : Int32) (a3 : Int32) (a4 : Int32) (a5 : Int32) (a6 : Int32) {q : Bool × Mem}  (z0 : Option Nat) (μ : Mem) (h : mj_Fo_matrix_22 a1 a2 a3 a4 a5 a6 z0 μ = some q) : Un [1603, 1604, 1605, 1606] μ q.2 := by
  unfold mj_Fo_matrix_22 at h
  have uμ : Un [1603, 1604, 1605, 1606] μ μ := Un.rf
  rcases ocase_n z0 with ho | ⟨y3, ho⟩
  · subst ho
    rw [oc_none] at h
    obtain rfl := Option.some.inj h
    exact uμ
  · subst ho
    rw [oc_some] at h
    rcases bcase_f ((m_Fo_isShort (a3) μ)) with hb | hb
    · rw [iB_f hb] at h
      obtain rfl := Option.some.inj h
      exact uμ
    · rw [iB_t hb] at h
      rcases bcase_f ((m_Fo_isShort (a4) μ)) with hb | hb
      · rw [iB_f hb] at h
        obtain rfl := Option.some.inj h
        exact uμ
      · rw [iB_t hb] at h
        rcases bcase_f ((m_Fo_isShort (a5) μ)) with hb | hb
        · rw [iB_f hb] at h
          obtain rfl := Option.some.inj h
          exact uμ
        · rw [iB_t hb] at h
          rcases bcase_t ((m_Fo_isShort (a6) μ)) with hb | hb
          · rw [iB_t hb] at h
            obtain ⟨r4, hr4, h⟩ := ap_eq h
            have ur4 : Un [1603, 1604, 1605, 1606] μ r4 := uμ.tr ((fm_Pa_turnBy hr4.symm).mono (by simp))
            obtain rfl := Option.some.inj h
            exact ur4
          · rw [iB_f hb] at h
            obtain rfl := Option.some.inj h
            exact uμ
theorem fm_Fo_matrix {a1 : Int32} {a2 : Int32} {a3 : Int32} {a4 : Int32} {a5 : Int32} {a6 : Int32} {μ : Mem} {q : Bool × Mem} (h : m_Fo_matrix a1 a2 a3 a4 a5 a6 μ = some q) : Un [1603, 1604, 1605, 1606] μ q.2 := by
  unfold m_Fo_matrix at h
  have uμ : Un [1603, 1604, 1605, 1606] μ μ := Un.rf
  obtain ⟨r1, hr1, h⟩ := bd_some h
  rcases ocase_s r1 with ⟨y2, ho⟩ | ho
  · subst ho
    rw [oc_some] at h
    obtain ⟨r5, hr5, h⟩ := bd_some h
    exact uμ.tr (fj_Fo_matrix_22 a1 a2 a3 a4 a5 a6 _ _ h)
  · subst ho
    rw [oc_none] at h
    exact uμ.tr (fj_Fo_matrix_22 a1 a2 a3 a4 a5 a6 _ _ h)
theorem fm_Fo_takeSparePolygons {μ : Mem} {q : Mem} (h : m_Fo_takeSparePolygons  μ = q) : Un [2103, 2104] μ q := by
  unfold m_Fo_takeSparePolygons at h
  have uμ : Un [2103, 2104] μ μ := Un.rf
  obtain ⟨o1, ho1, h⟩ := ap_eq h
  obtain ⟨o2, ho2, h⟩ := ap_eq h
  obtain ⟨μ3, hμ3, h⟩ := ap_eq h
  have uμ3 : Un [2103, 2104] μ μ3 := uμ.tr (by rw [hμ3]; exact un_sR (Or.inr ⟨by decide, by simp⟩) (by simp <;> omega))
  obtain ⟨μ4, hμ4, h⟩ := ap_eq h
  have uμ4 : Un [2103, 2104] μ μ4 := uμ3.tr (by rw [hμ4]; exact un_sR (Or.inr ⟨by decide, by simp⟩) (by simp <;> omega))
  subst h
  exact uμ4
theorem fl_Fl_firstHalf_32 (a1k : Nat) (a1l : Nat) (a1n : Nat) (a1z : Nat) (a2 : Int32) (h13a1k : 13 ≤ a1k) {q : Mem} {c_64 : Int32 → Int32 → Mem → Option (Mem)} (hf_64 : ∀ (y3 : Int32) (y4 : Int32) (μ : Mem), c_64 y3 y4 μ = some q → Un [a1k] μ q) : ∀ (n : Nat) (y3 : Int32) (y4 : Int32) (y5 : Int32) (μ : Mem), lp_Fl_firstHalf_32 a1k a1l a1n a1z a2 c_64 n y3 y4 y5 μ = some q → Un [a1k] μ q := by
  intro n
  induction n with
  | zero => intro _ _ _ _ h; cases h
  | succ n ih =>
    intro y3 y4 y5 μ h
    unfold lp_Fl_firstHalf_32 at h
    have uμ : Un [a1k] μ μ := Un.rf
    rcases (Classical.em (y5 < y3 + y4)) with hc | hc
    · rw [if_pos hc] at h
      exact uμ.tr (hf_64 _ _ _ h)
    · rw [if_neg hc] at h
      obtain ⟨hi10, h⟩ := gu_some h
      obtain ⟨hi11, h⟩ := gu_some h
      obtain ⟨hi12, h⟩ := gu_some h
      obtain ⟨μ13, hμ13, h⟩ := ap_eq h
      have uμ13 : Un [a1k] μ μ13 := uμ.tr (by rw [hμ13]; exact un_sL (Or.inl (by simp)) (fun _ => h13a1k))
      obtain ⟨x14, hx14, h⟩ := ap_eq h
      exact uμ13.tr (ih _ _ _ _ h)
theorem fj_Fl_firstHalf_64 (a1k : Nat) (a1l : Nat) (a1n : Nat) (a1z : Nat) (a2 : Int32) (h13a1k : 13 ≤ a1k) {q : Mem} {c_15 : Int32 → Int32 → Mem → Option (Mem)} (hf_15 : ∀ (y3 : Int32) (y4 : Int32) (μ : Mem), c_15 y3 y4 μ = some q → Un [a1k] μ q) (y3 : Int32) (y4 : Int32) (μ : Mem) (h : mj_Fl_firstHalf_64 a1k a1l a1n a1z a2 c_15 y3 y4 μ = some q) : Un [a1k] μ q := by
  unfold mj_Fl_firstHalf_64 at h
  have uμ : Un [a1k] μ μ := Un.rf
  obtain ⟨x15, hx15, h⟩ := ap_eq h
  exact uμ.tr (hf_15 _ _ _ h)
theorem fl_Fl_firstHalf_15 (a1k : Nat) (a1l : Nat) (a1n : Nat) (a1z : Nat) (a2 : Int32) (h13a1k : 13 ≤ a1k) {q : Mem}  : ∀ (n : Nat) (y3 : Int32) (y4 : Int32) (μ : Mem), lp_Fl_firstHalf_15 a1k a1l a1n a1z a2 n y3 y4 μ = some q → Un [a1k] μ q := by
  intro n
  induction n with
  | zero => intro _ _ _ h; cases h
  | succ n ih =>
    intro y3 y4 μ h
    unfold lp_Fl_firstHalf_15 at h
    have uμ : Un [a1k] μ μ := Un.rf
    rcases (Classical.em (gI μ 1 (0) 6 < y4)) with hc | hc
    · rw [if_pos hc] at h
      obtain rfl := Option.some.inj h
      exact uμ
    · rw [if_neg hc] at h
      obtain ⟨x16, hx16, h⟩ := ap_eq h
      exact uμ.tr (fl_Fl_firstHalf_32 a1k a1l a1n a1z a2 h13a1k (fun _ _ _ h => fj_Fl_firstHalf_64 a1k a1l a1n a1z a2 h13a1k ih _ _ _ h) FU _ _ _ _ h)
theorem fm_Fl_firstHalf {a1k : Nat} {a1l : Nat} {a1n : Nat} {a1z : Nat} {a2 : Int32} {μ : Mem} {q : Mem} (h13a1k : 13 ≤ a1k) (h : m_Fl_firstHalf a1k a1l a1n a1z a2 μ = some q) : Un [a1k] μ q := by
  unfold m_Fl_firstHalf at h
  have uμ : Un [a1k] μ μ := Un.rf
  obtain ⟨x1, hx1, h⟩ := ap_eq h
  obtain ⟨⟨⟨hc21, hc22, hc23⟩, hc24, hc25⟩, h⟩ := gcp_some h
  obtain ⟨μ3, hμ3, h⟩ := ap_eq h
  have uμ3 : Un [a1k] μ μ3 := uμ.tr (by rw [hμ3]; exact un_cpL (by simp) (fun _ => h13a1k))
  exact uμ3.tr (fl_Fl_firstHalf_15 a1k a1l a1n a1z a2 h13a1k FU _ _ _ h)
theorem fl_Fl_secondHalf_27 (a1k : Nat) (a1l : Nat) (a1n : Nat) (a1z : Nat) (a2 : Int32) (h13a1k : 13 ≤ a1k) {q : Mem} {c_64 : Int32 → Int32 → Mem → Option (Mem)} (hf_64 : ∀ (y3 : Int32) (y4 : Int32) (μ : Mem), c_64 y3 y4 μ = some q → Un [a1k] μ q) : ∀ (n : Nat) (y3 : Int32) (y4 : Int32) (y5 : Int32) (μ : Mem), lp_Fl_secondHalf_27 a1k a1l a1n a1z a2 c_64 n y3 y4 y5 μ = some q → Un [a1k] μ q := by
  intro n
  induction n with
  | zero => intro _ _ _ _ h; cases h
  | succ n ih =>
    intro y3 y4 y5 μ h
    unfold lp_Fl_secondHalf_27 at h
    have uμ : Un [a1k] μ μ := Un.rf
    rcases (Classical.em (((y3) + (gI μ 1 (0) 6)) - (y4) < y5)) with hc | hc
    · rw [if_pos hc] at h
      exact uμ.tr (hf_64 _ _ _ h)
    · rw [if_neg hc] at h
      obtain ⟨hi9, h⟩ := gu_some h
      obtain ⟨hi10, h⟩ := gu_some h
      obtain ⟨hi11, h⟩ := gu_some h
      obtain ⟨μ12, hμ12, h⟩ := ap_eq h
      have uμ12 : Un [a1k] μ μ12 := uμ.tr (by rw [hμ12]; exact un_sL (Or.inl (by simp)) (fun _ => h13a1k))
      obtain ⟨x13, hx13, h⟩ := ap_eq h
      exact uμ12.tr (ih _ _ _ _ h)
theorem fj_Fl_secondHalf_64 (a1k : Nat) (a1l : Nat) (a1n : Nat) (a1z : Nat) (a2 : Int32) (h13a1k : 13 ≤ a1k) {q : Mem} {c_15 : Int32 → Int32 → Mem → Option (Mem)} (hf_15 : ∀ (y3 : Int32) (y4 : Int32) (μ : Mem), c_15 y3 y4 μ = some q → Un [a1k] μ q) (y3 : Int32) (y4 : Int32) (μ : Mem) (h : mj_Fl_secondHalf_64 a1k a1l a1n a1z a2 c_15 y3 y4 μ = some q) : Un [a1k] μ q := by
  unfold mj_Fl_secondHalf_64 at h
  have uμ : Un [a1k] μ μ := Un.rf
  obtain ⟨x14, hx14, h⟩ := ap_eq h
  exact uμ.tr (hf_15 _ _ _ h)
theorem fl_Fl_secondHalf_15 (a1k : Nat) (a1l : Nat) (a1n : Nat) (a1z : Nat) (a2 : Int32) (h13a1k : 13 ≤ a1k) {q : Mem}  : ∀ (n : Nat) (y3 : Int32) (y4 : Int32) (μ : Mem), lp_Fl_secondHalf_15 a1k a1l a1n a1z a2 n y3 y4 μ = some q → Un [a1k] μ q := by
  intro n
  induction n with
  | zero => intro _ _ _ h; cases h
  | succ n ih =>
    intro y3 y4 μ h
    unfold lp_Fl_secondHalf_15 at h
    have uμ : Un [a1k] μ μ := Un.rf
    rcases (Classical.em (gI μ 1 (0) 6 < y4)) with hc | hc
    · rw [if_pos hc] at h
      obtain rfl := Option.some.inj h
      exact uμ
    · rw [if_neg hc] at h
      exact uμ.tr (fl_Fl_secondHalf_27 a1k a1l a1n a1z a2 h13a1k (fun _ _ _ h => fj_Fl_secondHalf_64 a1k a1l a1n a1z a2 h13a1k ih _ _ _ h) FU _ _ _ _ h)
theorem fm_Fl_secondHalf {a1k : Nat} {a1l : Nat} {a1n : Nat} {a1z : Nat} {a2 : Int32} {μ : Mem} {q : Mem} (h13a1k : 13 ≤ a1k) (h : m_Fl_secondHalf a1k a1l a1n a1z a2 μ = some q) : Un [a1k] μ q := by
  unfold m_Fl_secondHalf at h
  have uμ : Un [a1k] μ μ := Un.rf
  obtain ⟨x1, hx1, h⟩ := ap_eq h
  obtain ⟨⟨⟨hc21, hc22, hc23⟩, hc24, hc25⟩, h⟩ := gcp_some h
  obtain ⟨μ3, hμ3, h⟩ := ap_eq h
  have uμ3 : Un [a1k] μ μ3 := uμ.tr (by rw [hμ3]; exact un_cpL (by simp) (fun _ => h13a1k))
  exact uμ3.tr (fl_Fl_secondHalf_15 a1k a1l a1n a1z a2 h13a1k FU _ _ _ h)
theorem fj_Po_add_39 (o : Nat) (a1 : Int64) (a2 : Int64) {q : Mem}  (μ : Mem) (h : mj_Po_add_39 o a1 a2  μ = some q) : Un [240, 241, 242, 243, 1704, 1705, 1706] μ q := by
  unfold mj_Po_add_39 at h
  have uμ : Un [240, 241, 242, 243, 1704, 1705, 1706] μ μ := Un.rf
  rcases (Classical.em (gI μ 7 (o) 5 = 0)) with hc | hc
  · rw [if_pos hc] at h
    obtain rfl := Option.some.inj h
    exact uμ
  · rw [if_neg hc] at h
    obtain ⟨r3, hr3, h⟩ := bd_some h
    rcases bcase_f (r3) with hb | hb
    · rw [iB_f hb] at h
      obtain ⟨hi4, h⟩ := gu_some h
      obtain ⟨μ5, hμ5, h⟩ := ap_eq h
      have uμ5 : Un [240, 241, 242, 243, 1704, 1705, 1706] μ μ5 := uμ.tr (by rw [hμ5]; exact un_sI (Or.inl (by simp)) (fun _ => by decide))
      obtain ⟨hi6, h⟩ := gu_some h
      obtain ⟨μ7, hμ7, h⟩ := ap_eq h
      have uμ7 : Un [240, 241, 242, 243, 1704, 1705, 1706] μ μ7 := uμ5.tr (by rw [hμ7]; exact un_sI (Or.inl (by simp)) (fun _ => by decide))
      obtain ⟨hi8, h⟩ := gu_some h
      obtain ⟨μ9, hμ9, h⟩ := ap_eq h
      have uμ9 : Un [240, 241, 242, 243, 1704, 1705, 1706] μ μ9 := uμ7.tr (by rw [hμ9]; exact un_sI (Or.inl (by simp)) (fun _ => by decide))
      obtain ⟨hi10, h⟩ := gu_some h
      obtain ⟨μ11, hμ11, h⟩ := ap_eq h
      have uμ11 : Un [240, 241, 242, 243, 1704, 1705, 1706] μ μ11 := uμ9.tr (by rw [hμ11]; exact un_sI (Or.inl (by simp)) (fun _ => by decide))
      obtain ⟨μ12, hμ12, h⟩ := ap_eq h
      have uμ12 : Un [240, 241, 242, 243, 1704, 1705, 1706] μ μ12 := uμ11.tr (by rw [hμ12]; exact un_sI (Or.inr ⟨by decide, by simp⟩) (by simp <;> omega))
      obtain rfl := Option.some.inj h
      exact uμ12
    · rw [iB_t hb] at h
      obtain rfl := Option.some.inj h
      exact uμ
theorem fj_Po_add_34 (o : Nat) (a1 : Int64) (a2 : Int64) {q : Mem}  (μ : Mem) (h : mj_Po_add_34 o a1 a2  μ = some q) : Un [240, 241, 242, 243, 1704, 1705, 1706] μ q := by
  unfold mj_Po_add_34 at h
  have uμ : Un [240, 241, 242, 243, 1704, 1705, 1706] μ μ := Un.rf
  obtain ⟨μ2, hμ2, h⟩ := ap_eq h
  have uμ2 : Un [240, 241, 242, 243, 1704, 1705, 1706] μ μ2 := uμ.tr (by rw [hμ2]; exact un_sI (Or.inr ⟨by decide, by simp⟩) (by simp <;> omega))
  exact uμ2.tr (fj_Po_add_39 o a1 a2 _ h)
theorem fm_Po_add {o : Nat} {a1 : Int64} {a2 : Int64} {μ : Mem} {q : Mem} (h : m_Po_add o a1 a2 μ = some q) : Un [240, 241, 242, 243, 1704, 1705, 1706] μ q := by
  unfold m_Po_add at h
  have uμ : Un [240, 241, 242, 243, 1704, 1705, 1706] μ μ := Un.rf
  obtain ⟨μ1, hμ1, h⟩ := ap_eq h
  have uμ1 : Un [240, 241, 242, 243, 1704, 1705, 1706] μ μ1 := uμ.tr (by rw [hμ1]; exact un_sI (Or.inr ⟨by decide, by simp⟩) (by simp <;> omega))
  rcases (Classical.em ((500 : Int32) < gI μ1 7 (o) 6)) with hc | hc
  · rw [if_pos hc] at h
    exact uμ1.tr (fj_Po_add_34 o a1 a2 _ h)
  · rw [if_neg hc] at h
    rcases bcase_f ((m_Po_isNear (a1) μ1)) with hb | hb
    · rw [iB_f hb] at h
      exact uμ1.tr (fj_Po_add_34 o a1 a2 _ h)
    · rw [iB_t hb] at h
      rcases bcase_t ((m_Po_isNear (a2) μ1)) with hb | hb
      · rw [iB_t hb] at h
        exact uμ1.tr (fj_Po_add_39 o a1 a2 _ h)
      · rw [iB_f hb] at h
        exact uμ1.tr (fj_Po_add_34 o a1 a2 _ h)
theorem fj_Fl_addPiece_26 (f : Nat) (sf : Int32 → Nat → Mem → Option (Mem)) (a1 : Int32) (a2 : Nat) (hsu : ∀ (a1 : Int32) (a2 : Nat) (μ : Mem) (q : Mem), sf a1 a2 μ = some q → Un [120, 121, 240, 241, 242, 243, 1704, 1705, 1706] μ q) {q : Mem}  (y3 : Int32) (μ : Mem) (h : mj_Fl_addPiece_26 f sf a1 a2 y3 μ = some q) : Un [120, 121, 240, 241, 242, 243, 1704, 1705, 1706] μ q := by
  unfold mj_Fl_addPiece_26 at h
  have uμ : Un [120, 121, 240, 241, 242, 243, 1704, 1705, 1706] μ μ := Un.rf
  obtain ⟨hi2, h⟩ := gu_some h
  obtain ⟨r3, hr3, h⟩ := bd_some h
  obtain ⟨hi4, h⟩ := gu_some h
  obtain ⟨r5, hr5, h⟩ := bd_some h
  obtain ⟨r6, hr6, h⟩ := bd_some h
  have ur6 : Un [120, 121, 240, 241, 242, 243, 1704, 1705, 1706] μ r6 := uμ.tr ((fm_Po_add hr6).mono (by simp))
  obtain rfl := Option.some.inj h
  exact ur6
theorem fm_Fl_addPiece : ∀ (f : Nat) (a1 : Int32) (a2 : Nat) (μ : Mem) (q : Mem), m_Fl_addPiece f a1 a2 μ = some q → Un [120, 121, 240, 241, 242, 243, 1704, 1705, 1706] μ q := by
  intro f
  induction f with
  | zero => intro _ _ _ _ h; cases h
  | succ f ih =>
    intro a1 a2 μ q h
    unfold m_Fl_addPiece at h
    obtain ⟨sf, hsf0, h⟩ := ap_eq h
    have hsu := ih
    rw [← hsf0] at hsu
    have uμ : Un [120, 121, 240, 241, 242, 243, 1704, 1705, 1706] μ μ := Un.rf
    rcases (Classical.em (gI μ 7 (a2) 5 = 0)).symm with hc | hc
    · rw [if_neg hc] at h
      obtain ⟨x1, hx1, h⟩ := ap_eq h
      rcases (Classical.em ((10 : Int32) ≤ a1)) with hc | hc
      · rw [if_pos hc] at h
        exact uμ.tr (fj_Fl_addPiece_26 f sf a1 a2 hsu _ _ h)
      · rw [if_neg hc] at h
        obtain ⟨r7, hr7, h⟩ := bd_some h
        rcases bcase_f (r7) with hb | hb
        · rw [iB_f hb] at h
          obtain ⟨r8, hr8, h⟩ := bd_some h
          have ur8 : Un [120, 121, 240, 241, 242, 243, 1704, 1705, 1706] μ r8 := uμ.tr ((fm_Fl_firstHalf (by decide) hr8).mono (by simp))
          obtain ⟨r9, hr9, h⟩ := bd_some h
          have ur9 : Un [120, 121, 240, 241, 242, 243, 1704, 1705, 1706] μ r9 := ur8.tr ((fm_Fl_firstHalf (by decide) hr9).mono (by simp))
          obtain ⟨r10, hr10, h⟩ := bd_some h
          have ur10 : Un [120, 121, 240, 241, 242, 243, 1704, 1705, 1706] μ r10 := ur9.tr ((hsu (a1 + (1 : Int32)) (a2) r9 _ hr10).mono (by simp))
          obtain ⟨r11, hr11, h⟩ := bd_some h
          have ur11 : Un [120, 121, 240, 241, 242, 243, 1704, 1705, 1706] μ r11 := ur10.tr ((fm_Fl_secondHalf (by decide) hr11).mono (by simp))
          obtain ⟨r12, hr12, h⟩ := bd_some h
          have ur12 : Un [120, 121, 240, 241, 242, 243, 1704, 1705, 1706] μ r12 := ur11.tr ((fm_Fl_secondHalf (by decide) hr12).mono (by simp))
          obtain ⟨r13, hr13, h⟩ := bd_some h
          have ur13 : Un [120, 121, 240, 241, 242, 243, 1704, 1705, 1706] μ r13 := ur12.tr ((hsu (a1 + (1 : Int32)) (a2) r12 _ hr13).mono (by simp))
          obtain rfl := Option.some.inj h
          exact ur13
        · rw [iB_t hb] at h
          exact uμ.tr (fj_Fl_addPiece_26 f sf a1 a2 hsu _ _ h)
    · rw [if_pos hc] at h
      obtain rfl := Option.some.inj h
      exact uμ
theorem fj_Fl_place_68 (a1 : Nat) (a2 : Int32) (a3 : Int32) {q : Mem} {c_23 : Int64 → Int64 → Int32 → Mem → Option (Mem)} (hf_23 : ∀ (y4 : Int64) (y6 : Int64) (y8 : Int32) (μ : Mem), c_23 y4 y6 y8 μ = some q → Un [122, 123] μ q) (y4 : Int64) (y6 : Int64) (y8 : Int32) (μ : Mem) (h : mj_Fl_place_68 a1 a2 a3 c_23 y4 y6 y8 μ = some q) : Un [122, 123] μ q := by
  unfold mj_Fl_place_68 at h
  have uμ : Un [122, 123] μ μ := Un.rf
  obtain ⟨x9, hx9, h⟩ := ap_eq h
  exact uμ.tr (hf_23 _ _ _ _ h)
theorem fl_Fl_place_23 (a1 : Nat) (a2 : Int32) (a3 : Int32) {q : Mem} {c_74 : Int64 → Int64 → Mem → Option (Mem)} (hf_74 : ∀ (y4 : Int64) (y6 : Int64) (μ : Mem), c_74 y4 y6 μ = some q → Un [122, 123] μ q) : ∀ (n : Nat) (y4 : Int64) (y6 : Int64) (y8 : Int32) (μ : Mem), lp_Fl_place_23 a1 a2 a3 c_74 n y4 y6 y8 μ = some q → Un [122, 123] μ q := by
  intro n
  induction n with
  | zero => intro _ _ _ _ h; cases h
  | succ n ih =>
    intro y4 y6 y8 μ h
    unfold lp_Fl_place_23 at h
    have uμ : Un [122, 123] μ μ := Un.rf
    rcases (Classical.em (y8 < 0)) with hc | hc
    · rw [if_pos hc] at h
      exact uμ.tr (hf_74 _ _ _ h)
    · rw [if_neg hc] at h
      obtain ⟨hi12, h⟩ := gu_some h
      obtain ⟨o13, ho13, h⟩ := ap_eq h
      rcases ocase_n o13 with ho | ⟨y14, ho⟩
      · subst ho
        rw [oc_none] at h
        exact uμ.tr (fj_Fl_place_68 a1 a2 a3 ih _ _ _ _ h)
      · subst ho
        rw [oc_some] at h
        obtain ⟨r15, hr15, h⟩ := bd_some h
        obtain ⟨r16, hr16, h⟩ := bd_some h
        exact uμ.tr (fj_Fl_place_68 a1 a2 a3 ih _ _ _ _ h)
theorem fj_Fl_place_74 (a1 : Nat) (a2 : Int32) (a3 : Int32) {q : Mem}  (y4 : Int64) (y6 : Int64) (μ : Mem) (h : mj_Fl_place_74 a1 a2 a3 y4 y6 μ = some q) : Un [122, 123] μ q := by
  unfold mj_Fl_place_74 at h
  have uμ : Un [122, 123] μ μ := Un.rf
  obtain ⟨hi17, h⟩ := gu_some h
  obtain ⟨μ18, hμ18, h⟩ := ap_eq h
  have uμ18 : Un [122, 123] μ μ18 := uμ.tr (by rw [hμ18]; exact un_sL (Or.inl (by simp)) (fun _ => by decide))
  obtain ⟨hi19, h⟩ := gu_some h
  obtain ⟨μ20, hμ20, h⟩ := ap_eq h
  have uμ20 : Un [122, 123] μ μ20 := uμ18.tr (by rw [hμ20]; exact un_sL (Or.inl (by simp)) (fun _ => by decide))
  obtain rfl := Option.some.inj h
  exact uμ20
theorem fm_Fl_place {a1 : Nat} {a2 : Int32} {a3 : Int32} {μ : Mem} {q : Mem} (h : m_Fl_place a1 a2 a3 μ = some q) : Un [122, 123] μ q := by
  unfold m_Fl_place at h
  have uμ : Un [122, 123] μ μ := Un.rf
  obtain ⟨hi1, h⟩ := gu_some h
  obtain ⟨x2, hx2, h⟩ := ap_eq h
  obtain ⟨hi3, h⟩ := gu_some h
  obtain ⟨x4, hx4, h⟩ := ap_eq h
  obtain ⟨x5, hx5, h⟩ := ap_eq h
  exact uμ.tr (fl_Fl_place_23 a1 a2 a3 (fun _ _ _ h => fj_Fl_place_74 a1 a2 a3 _ _ _ h) FU _ _ _ _ h)
theorem fl_Po_finish_12 (o : Nat) {q : Mem} {c_65 : Mem → Option (Mem)} (hf_65 : ∀ (μ : Mem), c_65  μ = some q → Un [243, 1704, 1707, 1708] μ q) : ∀ (n : Nat) (μ : Mem), lp_Po_finish_12 o c_65 n μ = some q → Un [243, 1704, 1707, 1708] μ q := by
  intro n
  induction n with
  | zero => intro _ h; cases h
  | succ n ih =>
    intro μ h
    unfold lp_Po_finish_12 at h
    have uμ : Un [243, 1704, 1707, 1708] μ μ := Un.rf
    rcases (Classical.em ((gI μ 7 (o) 4) - (gI μ 7 (o) 7) ≤ (1 : Int32))) with hc | hc
    · rw [if_pos hc] at h
      exact uμ.tr (hf_65 _ h)
    · rw [if_neg hc] at h
      obtain ⟨hi5, h⟩ := gu_some h
      obtain ⟨hi6, h⟩ := gu_some h
      obtain ⟨r7, hr7, h⟩ := bd_some h
      rcases bcase_f (r7) with hb | hb
      · rw [iB_f hb] at h
        exact uμ.tr (hf_65 _ h)
      · rw [iB_t hb] at h
        obtain ⟨μ8, hμ8, h⟩ := ap_eq h
        have uμ8 : Un [243, 1704, 1707, 1708] μ μ8 := uμ.tr (by rw [hμ8]; exact un_sI (Or.inr ⟨by decide, by simp⟩) (by simp <;> omega))
        exact uμ8.tr (ih _ h)
theorem fj_Po_finish_65 (o : Nat) {q : Mem}  (μ : Mem) (h : mj_Po_finish_65 o  μ = some q) : Un [243, 1704, 1707, 1708] μ q := by
  unfold mj_Po_finish_65 at h
  have uμ : Un [243, 1704, 1707, 1708] μ μ := Un.rf
  rcases (Classical.em ((gI μ 7 (o) 4) - (gI μ 7 (o) 7) = (1 : Int32))).symm with hc | hc
  · rw [if_neg hc] at h
    obtain ⟨hi9, h⟩ := gu_some h
    obtain ⟨μ10, hμ10, h⟩ := ap_eq h
    have uμ10 : Un [243, 1704, 1707, 1708] μ μ10 := uμ.tr (by rw [hμ10]; exact un_sI (Or.inl (by simp)) (fun _ => by decide))
    obtain ⟨μ11, hμ11, h⟩ := ap_eq h
    have uμ11 : Un [243, 1704, 1707, 1708] μ μ11 := uμ10.tr (by rw [hμ11]; exact un_sI (Or.inr ⟨by decide, by simp⟩) (by simp <;> omega))
    obtain ⟨μ12, hμ12, h⟩ := ap_eq h
    have uμ12 : Un [243, 1704, 1707, 1708] μ μ12 := uμ11.tr (by rw [hμ12]; exact un_sI (Or.inr ⟨by decide, by simp⟩) (by simp <;> omega))
    obtain rfl := Option.some.inj h
    exact uμ12
  · rw [if_pos hc] at h
    obtain ⟨μ13, hμ13, h⟩ := ap_eq h
    have uμ13 : Un [243, 1704, 1707, 1708] μ μ13 := uμ.tr (by rw [hμ13]; exact un_sI (Or.inr ⟨by decide, by simp⟩) (by simp <;> omega))
    obtain rfl := Option.some.inj h
    exact uμ13
theorem fm_Po_finish {o : Nat} {μ : Mem} {q : Mem} (h : m_Po_finish o μ = some q) : Un [243, 1704, 1707, 1708] μ q := by
  unfold m_Po_finish at h
  have uμ : Un [243, 1704, 1707, 1708] μ μ := Un.rf
  rcases (Classical.em (gI μ 7 (o) 7 < gI μ 7 (o) 4)) with hc | hc
  · rw [if_pos hc] at h
    exact uμ.tr (fl_Po_finish_12 o (fun _ h => fj_Po_finish_65 o _ h) FU _ h)
  · rw [if_neg hc] at h
    obtain rfl := Option.some.inj h
    exact uμ
theorem fl_Fl_addOutline_18 (a1 : Nat) (a2 : Int32) (a3 : Int32) (a4 : Nat) {q : Mem} {c_39 : Int32 → Int32 → Mem → Option (Mem)} (hf_39 : ∀ (y5 : Int32) (y6 : Int32) (μ : Mem), c_39 y5 y6 μ = some q → Un [120, 121, 122, 123, 240, 241, 242, 243, 1106, 1704, 1705, 1706, 1707, 1708] μ q) : ∀ (n : Nat) (y5 : Int32) (y6 : Int32) (y7 : Int32) (μ : Mem), lp_Fl_addOutline_18 a1 a2 a3 a4 c_39 n y5 y6 y7 μ = some q → Un [120, 121, 122, 123, 240, 241, 242, 243, 1106, 1704, 1705, 1706, 1707, 1708] μ q := by
  intro n
  induction n with
  | zero => intro _ _ _ _ h; cases h
  | succ n ih =>
    intro y5 y6 y7 μ h
    unfold lp_Fl_addOutline_18 at h
    have uμ : Un [120, 121, 122, 123, 240, 241, 242, 243, 1106, 1704, 1705, 1706, 1707, 1708] μ μ := Un.rf
    rcases (Classical.em (y6 ≤ y7)) with hc | hc
    · rw [if_pos hc] at h
      exact uμ.tr (hf_39 _ _ _ h)
    · rw [if_neg hc] at h
      obtain ⟨r5, hr5, h⟩ := bd_some h
      have ur5 : Un [120, 121, 122, 123, 240, 241, 242, 243, 1106, 1704, 1705, 1706, 1707, 1708] μ r5 := uμ.tr ((fm_Fl_place hr5).mono (by simp))
      obtain ⟨x6, hx6, h⟩ := ap_eq h
      exact ur5.tr (ih _ _ _ _ h)
theorem fj_Fl_addOutline_137 (a1 : Nat) (a2 : Int32) (a3 : Int32) (a4 : Nat) {q : Mem} {c_108 : Int32 → Int32 → Int32 → Int32 → Mem → Option (Mem)} (hf_108 : ∀ (y5 : Int32) (y6 : Int32) (y7 : Int32) (y8 : Int32) (μ : Mem), c_108 y5 y6 y7 y8 μ = some q → Un [120, 121, 122, 123, 240, 241, 242, 243, 1106, 1704, 1705, 1706, 1707, 1708] μ q) (y5 : Int32) (y6 : Int32) (y7 : Int32) (y8 : Int32) (z0 : Int32) (μ : Mem) (h : mj_Fl_addOutline_137 a1 a2 a3 a4 c_108 y5 y6 y7 y8 z0 μ = some q) : Un [120, 121, 122, 123, 240, 241, 242, 243, 1106, 1704, 1705, 1706, 1707, 1708] μ q := by
  unfold mj_Fl_addOutline_137 at h
  have uμ : Un [120, 121, 122, 123, 240, 241, 242, 243, 1106, 1704, 1705, 1706, 1707, 1708] μ μ := Un.rf
  obtain ⟨hi11, h⟩ := gu_some h
  obtain ⟨hi12, h⟩ := gu_some h
  obtain ⟨μ13, hμ13, h⟩ := ap_eq h
  have uμ13 : Un [120, 121, 122, 123, 240, 241, 242, 243, 1106, 1704, 1705, 1706, 1707, 1708] μ μ13 := uμ.tr (by rw [hμ13]; exact un_sL (Or.inl (by simp)) (fun _ => by decide))
  obtain ⟨hi14, h⟩ := gu_some h
  obtain ⟨hi15, h⟩ := gu_some h
  obtain ⟨μ16, hμ16, h⟩ := ap_eq h
  have uμ16 : Un [120, 121, 122, 123, 240, 241, 242, 243, 1106, 1704, 1705, 1706, 1707, 1708] μ μ16 := uμ13.tr (by rw [hμ16]; exact un_sL (Or.inl (by simp)) (fun _ => by decide))
  obtain ⟨x17, hx17, h⟩ := ap_eq h
  exact uμ16.tr (hf_108 _ _ _ _ _ h)
theorem fl_Fl_addOutline_108 (a1 : Nat) (a2 : Int32) (a3 : Int32) (a4 : Nat) {q : Mem} {c_179 : Int32 → Int32 → Int32 → Mem → Option (Mem)} (hf_179 : ∀ (y5 : Int32) (y6 : Int32) (y7 : Int32) (μ : Mem), c_179 y5 y6 y7 μ = some q → Un [120, 121, 122, 123, 240, 241, 242, 243, 1106, 1704, 1705, 1706, 1707, 1708] μ q) : ∀ (n : Nat) (y5 : Int32) (y6 : Int32) (y7 : Int32) (y8 : Int32) (μ : Mem), lp_Fl_addOutline_108 a1 a2 a3 a4 c_179 n y5 y6 y7 y8 μ = some q → Un [120, 121, 122, 123, 240, 241, 242, 243, 1106, 1704, 1705, 1706, 1707, 1708] μ q := by
  intro n
  induction n with
  | zero => intro _ _ _ _ _ h; cases h
  | succ n ih =>
    intro y5 y6 y7 y8 μ h
    unfold lp_Fl_addOutline_108 at h
    have uμ : Un [120, 121, 122, 123, 240, 241, 242, 243, 1106, 1704, 1705, 1706, 1707, 1708] μ μ := Un.rf
    rcases (Classical.em (gI μ 1 (0) 6 < y8)) with hc | hc
    · rw [if_pos hc] at h
      exact uμ.tr (hf_179 _ _ _ _ h)
    · rw [if_neg hc] at h
      rcases (Classical.em (y6 ≤ y7 + y8)) with hc | hc
      · rw [if_pos hc] at h
        exact uμ.tr (fj_Fl_addOutline_137 a1 a2 a3 a4 ih _ _ _ _ _ _ h)
      · rw [if_neg hc] at h
        exact uμ.tr (fj_Fl_addOutline_137 a1 a2 a3 a4 ih _ _ _ _ _ _ h)
theorem fj_Fl_addOutline_179 (a1 : Nat) (a2 : Int32) (a3 : Int32) (a4 : Nat) {q : Mem} {c_62 : Int32 → Int32 → Int32 → Mem → Option (Mem)} (hf_62 : ∀ (y5 : Int32) (y6 : Int32) (y7 : Int32) (μ : Mem), c_62 y5 y6 y7 μ = some q → Un [120, 121, 122, 123, 240, 241, 242, 243, 1106, 1704, 1705, 1706, 1707, 1708] μ q) (y5 : Int32) (y6 : Int32) (y7 : Int32) (μ : Mem) (h : mj_Fl_addOutline_179 a1 a2 a3 a4 c_62 y5 y6 y7 μ = some q) : Un [120, 121, 122, 123, 240, 241, 242, 243, 1106, 1704, 1705, 1706, 1707, 1708] μ q := by
  unfold mj_Fl_addOutline_179 at h
  have uμ : Un [120, 121, 122, 123, 240, 241, 242, 243, 1106, 1704, 1705, 1706, 1707, 1708] μ μ := Un.rf
  obtain ⟨r18, hr18, h⟩ := bd_some h
  have ur18 : Un [120, 121, 122, 123, 240, 241, 242, 243, 1106, 1704, 1705, 1706, 1707, 1708] μ r18 := uμ.tr ((fm_Fl_addPiece 12 _ _ _ _ hr18).mono (by simp))
  obtain ⟨x19, hx19, h⟩ := ap_eq h
  exact ur18.tr (hf_62 _ _ _ _ h)
theorem fj_Fl_addOutline_102 (a1 : Nat) (a2 : Int32) (a3 : Int32) (a4 : Nat) {q : Mem} {c_62 : Int32 → Int32 → Int32 → Mem → Option (Mem)} (hf_62 : ∀ (y5 : Int32) (y6 : Int32) (y7 : Int32) (μ : Mem), c_62 y5 y6 y7 μ = some q → Un [120, 121, 122, 123, 240, 241, 242, 243, 1106, 1704, 1705, 1706, 1707, 1708] μ q) (y5 : Int32) (y6 : Int32) (y7 : Int32) (z0 : Int32) (μ : Mem) (h : mj_Fl_addOutline_102 a1 a2 a3 a4 c_62 y5 y6 y7 z0 μ = some q) : Un [120, 121, 122, 123, 240, 241, 242, 243, 1106, 1704, 1705, 1706, 1707, 1708] μ q := by
  unfold mj_Fl_addOutline_102 at h
  have uμ : Un [120, 121, 122, 123, 240, 241, 242, 243, 1106, 1704, 1705, 1706, 1707, 1708] μ μ := Un.rf
  obtain ⟨μ10, hμ10, h⟩ := ap_eq h
  have uμ10 : Un [120, 121, 122, 123, 240, 241, 242, 243, 1106, 1704, 1705, 1706, 1707, 1708] μ μ10 := uμ.tr (by rw [hμ10]; exact un_sI (Or.inr ⟨by decide, by simp⟩) (by simp <;> omega))
  exact uμ10.tr (fl_Fl_addOutline_108 a1 a2 a3 a4 (fun _ _ _ _ h => fj_Fl_addOutline_179 a1 a2 a3 a4 hf_62 _ _ _ _ h) FU _ _ _ _ _ h)
theorem fl_Fl_addOutline_62 (a1 : Nat) (a2 : Int32) (a3 : Int32) (a4 : Nat) {q : Mem} {c_202 : Mem → Option (Mem)} (hf_202 : ∀ (μ : Mem), c_202  μ = some q → Un [120, 121, 122, 123, 240, 241, 242, 243, 1106, 1704, 1705, 1706, 1707, 1708] μ q) : ∀ (n : Nat) (y5 : Int32) (y6 : Int32) (y7 : Int32) (μ : Mem), lp_Fl_addOutline_62 a1 a2 a3 a4 c_202 n y5 y6 y7 μ = some q → Un [120, 121, 122, 123, 240, 241, 242, 243, 1106, 1704, 1705, 1706, 1707, 1708] μ q := by
  intro n
  induction n with
  | zero => intro _ _ _ _ h; cases h
  | succ n ih =>
    intro y5 y6 y7 μ h
    unfold lp_Fl_addOutline_62 at h
    have uμ : Un [120, 121, 122, 123, 240, 241, 242, 243, 1106, 1704, 1705, 1706, 1707, 1708] μ μ := Un.rf
    rcases (Classical.em (y6 ≤ y7)) with hc | hc
    · rw [if_pos hc] at h
      exact uμ.tr (hf_202 _ h)
    · rw [if_neg hc] at h
      rcases (Classical.em (gI μ 7 (a4) 5 = 0)) with hc | hc
      · rw [if_pos hc] at h
        exact uμ.tr (hf_202 _ h)
      · rw [if_neg hc] at h
        rcases (Classical.em (y6 ≤ y7 + (1 : Int32))) with hc | hc
        · rw [if_pos hc] at h
          exact uμ.tr (fj_Fl_addOutline_102 a1 a2 a3 a4 ih _ _ _ _ _ h)
        · rw [if_neg hc] at h
          obtain ⟨hi21, h⟩ := gu_some h
          exact uμ.tr (fj_Fl_addOutline_102 a1 a2 a3 a4 ih _ _ _ _ _ h)
theorem fj_Fl_addOutline_202 (a1 : Nat) (a2 : Int32) (a3 : Int32) (a4 : Nat) {q : Mem}  (μ : Mem) (h : mj_Fl_addOutline_202 a1 a2 a3 a4  μ = some q) : Un [120, 121, 122, 123, 240, 241, 242, 243, 1106, 1704, 1705, 1706, 1707, 1708] μ q := by
  unfold mj_Fl_addOutline_202 at h
  have uμ : Un [120, 121, 122, 123, 240, 241, 242, 243, 1106, 1704, 1705, 1706, 1707, 1708] μ μ := Un.rf
  obtain ⟨r22, hr22, h⟩ := bd_some h
  have ur22 : Un [120, 121, 122, 123, 240, 241, 242, 243, 1106, 1704, 1705, 1706, 1707, 1708] μ r22 := uμ.tr ((fm_Po_finish hr22).mono (by simp))
  obtain rfl := Option.some.inj h
  exact ur22
theorem fj_Fl_addOutline_39 (a1 : Nat) (a2 : Int32) (a3 : Int32) (a4 : Nat) {q : Mem}  (y5 : Int32) (y6 : Int32) (μ : Mem) (h : mj_Fl_addOutline_39 a1 a2 a3 a4 y5 y6 μ = some q) : Un [120, 121, 122, 123, 240, 241, 242, 243, 1106, 1704, 1705, 1706, 1707, 1708] μ q := by
  unfold mj_Fl_addOutline_39 at h
  have uμ : Un [120, 121, 122, 123, 240, 241, 242, 243, 1106, 1704, 1705, 1706, 1707, 1708] μ μ := Un.rf
  obtain ⟨hi7, h⟩ := gu_some h
  obtain ⟨hi8, h⟩ := gu_some h
  obtain ⟨r9, hr9, h⟩ := bd_some h
  have ur9 : Un [120, 121, 122, 123, 240, 241, 242, 243, 1106, 1704, 1705, 1706, 1707, 1708] μ r9 := uμ.tr ((fm_Po_add hr9).mono (by simp))
  exact ur9.tr (fl_Fl_addOutline_62 a1 a2 a3 a4 (fun _ h => fj_Fl_addOutline_202 a1 a2 a3 a4 _ h) FU _ _ _ _ h)
theorem fm_Fl_addOutline {a1 : Nat} {a2 : Int32} {a3 : Int32} {a4 : Nat} {μ : Mem} {q : Mem} (h : m_Fl_addOutline a1 a2 a3 a4 μ = some q) : Un [120, 121, 122, 123, 240, 241, 242, 243, 1106, 1704, 1705, 1706, 1707, 1708] μ q := by
  unfold m_Fl_addOutline at h
  have uμ : Un [120, 121, 122, 123, 240, 241, 242, 243, 1106, 1704, 1705, 1706, 1707, 1708] μ μ := Un.rf
  obtain ⟨r1, hr1, h⟩ := bd_some h
  obtain ⟨r2, hr2, h⟩ := bd_some h
  exact uμ.tr (fl_Fl_addOutline_18 a1 a2 a3 a4 (fun _ _ _ h => fj_Fl_addOutline_39 a1 a2 a3 a4 _ _ _ h) FU _ _ _ _ h)
theorem fl_Fl_addLetter_3 (f : Nat) (sf : Nat → Int32 → Nat → Mem → Option (Mem)) (a1 : Nat) (a2 : Int32) (a3 : Nat) (hsu : ∀ (a1 : Nat) (a2 : Int32) (a3 : Nat) (μ : Mem) (q : Mem), sf a1 a2 a3 μ = some q → Un [120, 121, 122, 123, 124, 240, 241, 242, 243, 1106, 1704, 1705, 1706, 1707, 1708] μ q) {q : Mem} {c_40 : Mem → Option (Mem)} (hf_40 : ∀ (μ : Mem), c_40  μ = some q → Un [120, 121, 122, 123, 124, 240, 241, 242, 243, 1106, 1704, 1705, 1706, 1707, 1708] μ q) : ∀ (n : Nat) (y4 : Int32) (μ : Mem), lp_Fl_addLetter_3 f sf a1 a2 a3 c_40 n y4 μ = some q → Un [120, 121, 122, 123, 124, 240, 241, 242, 243, 1106, 1704, 1705, 1706, 1707, 1708] μ q := by
  intro n
  induction n with
  | zero => intro _ _ h; cases h
  | succ n ih =>
    intro y4 μ h
    unfold lp_Fl_addLetter_3 at h
    have uμ : Un [120, 121, 122, 123, 124, 240, 241, 242, 243, 1106, 1704, 1705, 1706, 1707, 1708] μ μ := Un.rf
    rcases (Classical.em (gI μ 10 (a1) 6 ≤ y4)) with hc | hc
    · rw [if_pos hc] at h
      exact uμ.tr (hf_40 _ h)
    · rw [if_neg hc] at h
      rcases (Classical.em (gI μ 7 (a3) 5 = 0)) with hc | hc
      · rw [if_pos hc] at h
        exact uμ.tr (hf_40 _ h)
      · rw [if_neg hc] at h
        obtain ⟨r3, hr3, h⟩ := bd_some h
        have ur3 : Un [120, 121, 122, 123, 124, 240, 241, 242, 243, 1106, 1704, 1705, 1706, 1707, 1708] μ r3 := uμ.tr ((fm_Fl_addOutline hr3).mono (by simp))
        obtain ⟨x4, hx4, h⟩ := ap_eq h
        exact ur3.tr (ih _ _ h)
theorem fj_Fl_addLetter_100 (f : Nat) (sf : Nat → Int32 → Nat → Mem → Option (Mem)) (a1 : Nat) (a2 : Int32) (a3 : Nat) (hsu : ∀ (a1 : Nat) (a2 : Int32) (a3 : Nat) (μ : Mem) (q : Mem), sf a1 a2 a3 μ = some q → Un [120, 121, 122, 123, 124, 240, 241, 242, 243, 1106, 1704, 1705, 1706, 1707, 1708] μ q) {q : Mem} {c_49 : Int32 → Mem → Option (Mem)} (hf_49 : ∀ (y4 : Int32) (μ : Mem), c_49 y4 μ = some q → Un [120, 121, 122, 123, 124, 240, 241, 242, 243, 1106, 1704, 1705, 1706, 1707, 1708] μ q) (y4 : Int32) (μ : Mem) (h : mj_Fl_addLetter_100 f sf a1 a2 a3 c_49 y4 μ = some q) : Un [120, 121, 122, 123, 124, 240, 241, 242, 243, 1106, 1704, 1705, 1706, 1707, 1708] μ q := by
  unfold mj_Fl_addLetter_100 at h
  have uμ : Un [120, 121, 122, 123, 124, 240, 241, 242, 243, 1106, 1704, 1705, 1706, 1707, 1708] μ μ := Un.rf
  obtain ⟨x8, hx8, h⟩ := ap_eq h
  exact uμ.tr (hf_49 _ _ h)
theorem fl_Fl_addLetter_49 (f : Nat) (sf : Nat → Int32 → Nat → Mem → Option (Mem)) (a1 : Nat) (a2 : Int32) (a3 : Nat) (hsu : ∀ (a1 : Nat) (a2 : Int32) (a3 : Nat) (μ : Mem) (q : Mem), sf a1 a2 a3 μ = some q → Un [120, 121, 122, 123, 124, 240, 241, 242, 243, 1106, 1704, 1705, 1706, 1707, 1708] μ q) {q : Mem}  : ∀ (n : Nat) (y4 : Int32) (μ : Mem), lp_Fl_addLetter_49 f sf a1 a2 a3 n y4 μ = some q → Un [120, 121, 122, 123, 124, 240, 241, 242, 243, 1106, 1704, 1705, 1706, 1707, 1708] μ q := by
  intro n
  induction n with
  | zero => intro _ _ h; cases h
  | succ n ih =>
    intro y4 μ h
    unfold lp_Fl_addLetter_49 at h
    have uμ : Un [120, 121, 122, 123, 124, 240, 241, 242, 243, 1106, 1704, 1705, 1706, 1707, 1708] μ μ := Un.rf
    rcases (Classical.em (gI μ 4 (a1) 5 ≤ y4)) with hc | hc
    · rw [if_pos hc] at h
      obtain rfl := Option.some.inj h
      exact uμ
    · rw [if_neg hc] at h
      rcases (Classical.em (gI μ 7 (a3) 5 = 0)) with hc | hc
      · rw [if_pos hc] at h
        obtain rfl := Option.some.inj h
        exact uμ
      · rw [if_neg hc] at h
        obtain ⟨hi14, h⟩ := gu_some h
        obtain ⟨o15, ho15, h⟩ := ap_eq h
        rcases ocase_n o15 with ho | ⟨y16, ho⟩
        · subst ho
          rw [oc_none] at h
          exact uμ.tr (fj_Fl_addLetter_100 f sf a1 a2 a3 hsu ih _ _ h)
        · subst ho
          rw [oc_some] at h
          obtain ⟨hi17, h⟩ := gu_some h
          obtain ⟨μ18, hμ18, h⟩ := ap_eq h
          have uμ18 : Un [120, 121, 122, 123, 124, 240, 241, 242, 243, 1106, 1704, 1705, 1706, 1707, 1708] μ μ18 := uμ.tr (by rw [hμ18]; exact un_sR (Or.inl (by simp)) (fun _ => by decide))
          obtain ⟨o19, ho19, h⟩ := ap_eq h
          replace h := bd_some h
          obtain ⟨y20, hy20, h⟩ := h
          subst hy20
          obtain ⟨r21, hr21, h⟩ := bd_some h
          have ur21 : Un [120, 121, 122, 123, 124, 240, 241, 242, 243, 1106, 1704, 1705, 1706, 1707, 1708] μ r21 := uμ18.tr ((hsu (y20) (a2 + (1 : Int32)) (a3) μ18 _ hr21).mono (by simp))
          exact ur21.tr (fj_Fl_addLetter_100 f sf a1 a2 a3 hsu ih _ _ h)
theorem fj_Fl_addLetter_40 (f : Nat) (sf : Nat → Int32 → Nat → Mem → Option (Mem)) (a1 : Nat) (a2 : Int32) (a3 : Nat) (hsu : ∀ (a1 : Nat) (a2 : Int32) (a3 : Nat) (μ : Mem) (q : Mem), sf a1 a2 a3 μ = some q → Un [120, 121, 122, 123, 124, 240, 241, 242, 243, 1106, 1704, 1705, 1706, 1707, 1708] μ q) {q : Mem}  (μ : Mem) (h : mj_Fl_addLetter_40 f sf a1 a2 a3  μ = some q) : Un [120, 121, 122, 123, 124, 240, 241, 242, 243, 1106, 1704, 1705, 1706, 1707, 1708] μ q := by
  unfold mj_Fl_addLetter_40 at h
  have uμ : Un [120, 121, 122, 123, 124, 240, 241, 242, 243, 1106, 1704, 1705, 1706, 1707, 1708] μ μ := Un.rf
  rcases (Classical.em (a2 < (4 : Int32))) with hc | hc
  · rw [if_pos hc] at h
    exact uμ.tr (fl_Fl_addLetter_49 f sf a1 a2 a3 hsu FU _ _ h)
  · rw [if_neg hc] at h
    obtain rfl := Option.some.inj h
    exact uμ
theorem fm_Fl_addLetter : ∀ (f : Nat) (a1 : Nat) (a2 : Int32) (a3 : Nat) (μ : Mem) (q : Mem), m_Fl_addLetter f a1 a2 a3 μ = some q → Un [120, 121, 122, 123, 124, 240, 241, 242, 243, 1106, 1704, 1705, 1706, 1707, 1708] μ q := by
  intro f
  induction f with
  | zero => intro _ _ _ _ _ h; cases h
  | succ f ih =>
    intro a1 a2 a3 μ q h
    unfold m_Fl_addLetter at h
    obtain ⟨sf, hsf0, h⟩ := ap_eq h
    have hsu := ih
    rw [← hsf0] at hsu
    have uμ : Un [120, 121, 122, 123, 124, 240, 241, 242, 243, 1106, 1704, 1705, 1706, 1707, 1708] μ μ := Un.rf
    exact uμ.tr (fl_Fl_addLetter_3 f sf a1 a2 a3 hsu (fun _ h => fj_Fl_addLetter_40 f sf a1 a2 a3 hsu _ h) FU _ _ h)
theorem fm_Po_clear {o : Nat} {μ : Mem} {q : Mem} (h : m_Po_clear o μ = q) : Un [1704, 1705, 1706, 1707, 1708] μ q := by
  unfold m_Po_clear at h
  have uμ : Un [1704, 1705, 1706, 1707, 1708] μ μ := Un.rf
  obtain ⟨μ1, hμ1, h⟩ := ap_eq h
  have uμ1 : Un [1704, 1705, 1706, 1707, 1708] μ μ1 := uμ.tr (by rw [hμ1]; exact un_sI (Or.inr ⟨by decide, by simp⟩) (by simp <;> omega))
  obtain ⟨μ2, hμ2, h⟩ := ap_eq h
  have uμ2 : Un [1704, 1705, 1706, 1707, 1708] μ μ2 := uμ1.tr (by rw [hμ2]; exact un_sI (Or.inr ⟨by decide, by simp⟩) (by simp <;> omega))
  obtain ⟨μ3, hμ3, h⟩ := ap_eq h
  have uμ3 : Un [1704, 1705, 1706, 1707, 1708] μ μ3 := uμ2.tr (by rw [hμ3]; exact un_sI (Or.inr ⟨by decide, by simp⟩) (by simp <;> omega))
  obtain ⟨μ4, hμ4, h⟩ := ap_eq h
  have uμ4 : Un [1704, 1705, 1706, 1707, 1708] μ μ4 := uμ3.tr (by rw [hμ4]; exact un_sI (Or.inr ⟨by decide, by simp⟩) (by simp <;> omega))
  obtain ⟨μ5, hμ5, h⟩ := ap_eq h
  have uμ5 : Un [1704, 1705, 1706, 1707, 1708] μ μ5 := uμ4.tr (by rw [hμ5]; exact un_sI (Or.inr ⟨by decide, by simp⟩) (by simp <;> omega))
  subst h
  exact uμ5
theorem fm_Fl_fill {a1 : Option Nat} {a2 : Int32} {a3 : Nat} {μ : Mem} {q : Bool × Mem} (h : m_Fl_fill a1 a2 a3 μ = some q) : Un [120, 121, 122, 123, 124, 240, 241, 242, 243, 1105, 1106, 1704, 1705, 1706, 1707, 1708] μ q.2 := by
  unfold m_Fl_fill at h
  have uμ : Un [120, 121, 122, 123, 124, 240, 241, 242, 243, 1105, 1106, 1704, 1705, 1706, 1707, 1708] μ μ := Un.rf
  rcases ocase_n a1 with ho | ⟨y1, ho⟩
  · subst ho
    rw [oc_none] at h
    obtain rfl := Option.some.inj h
    exact uμ
  · subst ho
    rw [oc_some] at h
    rcases bcase_t ((m_Fo_within ((a2).toInt64) ((1 : Int64)) ((256 : Int64)) μ)) with hb | hb
    · rw [iB_t hb] at h
      obtain ⟨μ2, hμ2, h⟩ := ap_eq h
      have uμ2 : Un [120, 121, 122, 123, 124, 240, 241, 242, 243, 1105, 1106, 1704, 1705, 1706, 1707, 1708] μ μ2 := uμ.tr (by rw [hμ2]; exact un_sL (Or.inr ⟨by decide, by simp⟩) (by simp <;> omega))
      obtain ⟨r3, hr3, h⟩ := ap_eq h
      have ur3 : Un [120, 121, 122, 123, 124, 240, 241, 242, 243, 1105, 1106, 1704, 1705, 1706, 1707, 1708] μ r3 := uμ2.tr ((fm_Po_clear hr3.symm).mono (by simp))
      obtain ⟨r4, hr4, h⟩ := bd_some h
      have ur4 : Un [120, 121, 122, 123, 124, 240, 241, 242, 243, 1105, 1106, 1704, 1705, 1706, 1707, 1708] μ r4 := ur3.tr ((fm_Fl_addLetter 6 _ _ _ _ _ hr4).mono (by simp))
      obtain ⟨B5, hB5, h⟩ := zb_some h
      obtain rfl := Option.some.inj h
      exact ur4
    · rw [iB_f hb] at h
      obtain rfl := Option.some.inj h
      exact uμ
theorem fm_Fo_flatten {a1 : Int32} {a2 : Int32} {μ : Mem} {q : Int32 × Mem} (h : m_Fo_flatten a1 a2 μ = some q) : Un [120, 121, 122, 123, 124, 240, 241, 242, 243, 1105, 1106, 1704, 1705, 1706, 1707, 1708, 2103, 2104] μ q.2 := by
  unfold m_Fo_flatten at h
  have uμ : Un [120, 121, 122, 123, 124, 240, 241, 242, 243, 1105, 1106, 1704, 1705, 1706, 1707, 1708, 2103, 2104] μ μ := Un.rf
  obtain ⟨r1, hr1, h⟩ := bd_some h
  obtain ⟨o2, ho2, h⟩ := ap_eq h
  replace h := bd_some h
  obtain ⟨y3, hy3, h⟩ := h
  subst hy3
  obtain ⟨r4, hr4, h⟩ := bd_some h
  obtain ⟨μ5, hμ5, h⟩ := ap_eq h
  have uμ5 : Un [120, 121, 122, 123, 124, 240, 241, 242, 243, 1105, 1106, 1704, 1705, 1706, 1707, 1708, 2103, 2104] μ μ5 := by rw [hμ5]; exact uμ.tr ((fm_Fl_fill hr4).mono (by simp))
  rcases bcase_t (r4.1) with hb | hb
  · rw [iB_t hb] at h
    obtain ⟨r6, hr6, h⟩ := ap_eq h
    have ur6 : Un [120, 121, 122, 123, 124, 240, 241, 242, 243, 1105, 1106, 1704, 1705, 1706, 1707, 1708, 2103, 2104] μ r6 := uμ5.tr ((fm_Fo_takeSparePolygons hr6.symm).mono (by simp))
    obtain ⟨o7, ho7, h⟩ := ap_eq h
    replace h := bd_some h
    obtain ⟨y8, hy8, h⟩ := h
    subst hy8
    obtain rfl := Option.some.inj h
    exact ur6
  · rw [iB_f hb] at h
    obtain rfl := Option.some.inj h
    exact uμ5
theorem fj_Im_countRow_97 (a1 : Int32) (a2 : Int32) {q : Mem} {c_8 : Int32 → Int32 → Mem → Option (Mem)} (hf_8 : ∀ (y3 : Int32) (y4 : Int32) (μ : Mem), c_8 y3 y4 μ = some q → Un [140, 141] μ q) (y3 : Int32) (y4 : Int32) (μ : Mem) (h : mj_Im_countRow_97 a1 a2 c_8 y3 y4 μ = some q) : Un [140, 141] μ q := by
  unfold mj_Im_countRow_97 at h
  have uμ : Un [140, 141] μ μ := Un.rf
  obtain ⟨x6, hx6, h⟩ := ap_eq h
  exact uμ.tr (hf_8 _ _ _ h)
theorem fj_Im_countRow_67 (a1 : Int32) (a2 : Int32) {q : Mem} {c_8 : Int32 → Int32 → Mem → Option (Mem)} (hf_8 : ∀ (y3 : Int32) (y4 : Int32) (μ : Mem), c_8 y3 y4 μ = some q → Un [140, 141] μ q) (y3 : Int32) (y4 : Int32) (z0 : Int32) (μ : Mem) (h : mj_Im_countRow_67 a1 a2 c_8 y3 y4 z0 μ = some q) : Un [140, 141] μ q := by
  unfold mj_Im_countRow_67 at h
  have uμ : Un [140, 141] μ μ := Un.rf
  rcases (Classical.em (z0 = 0)) with hc | hc
  · rw [if_pos hc] at h
    exact uμ.tr (fj_Im_countRow_97 a1 a2 hf_8 _ _ _ h)
  · rw [if_neg hc] at h
    rcases (Classical.em (y4 ≤ 0)) with hc | hc
    · rw [if_pos hc] at h
      exact uμ.tr (fj_Im_countRow_97 a1 a2 hf_8 _ _ _ h)
    · rw [if_neg hc] at h
      obtain ⟨hi7, h⟩ := gu_some h
      obtain ⟨hi8, h⟩ := gu_some h
      obtain ⟨μ9, hμ9, h⟩ := ap_eq h
      have uμ9 : Un [140, 141] μ μ9 := uμ.tr (by rw [hμ9]; exact un_sI (Or.inl (by simp)) (fun _ => by decide))
      exact uμ9.tr (fj_Im_countRow_97 a1 a2 hf_8 _ _ _ h)
theorem fl_Im_countRow_8 (a1 : Int32) (a2 : Int32) {q : Mem}  : ∀ (n : Nat) (y3 : Int32) (y4 : Int32) (μ : Mem), lp_Im_countRow_8 a1 a2 n y3 y4 μ = some q → Un [140, 141] μ q := by
  intro n
  induction n with
  | zero => intro _ _ _ h; cases h
  | succ n ih =>
    intro y3 y4 μ h
    unfold lp_Im_countRow_8 at h
    have uμ : Un [140, 141] μ μ := Un.rf
    rcases (Classical.em (y4 < gI μ 2 (0) 2)) with hc | hc
    · rw [if_pos hc] at h
      obtain rfl := Option.some.inj h
      exact uμ
    · rw [if_neg hc] at h
      rcases (Classical.em (y4 < 0)) with hc | hc
      · rw [if_pos hc] at h
        obtain rfl := Option.some.inj h
        exact uμ
      · rw [if_neg hc] at h
        obtain ⟨hi10, h⟩ := gu_some h
        obtain ⟨x11, hx11, h⟩ := ap_eq h
        obtain ⟨hi12, h⟩ := gu_some h
        obtain ⟨μ13, hμ13, h⟩ := ap_eq h
        have uμ13 : Un [140, 141] μ μ13 := uμ.tr (by rw [hμ13]; exact un_sI (Or.inl (by simp)) (fun _ => by decide))
        rcases (Classical.em (a2 = 0)).symm with hc | hc
        · rw [if_neg hc] at h
          rcases (Classical.em (x11 &&& (1 : Int32) = 0)) with hc | hc
          · rw [if_pos hc] at h
            exact uμ13.tr (fj_Im_countRow_67 a1 a2 ih _ _ _ _ h)
          · rw [if_neg hc] at h
            exact uμ13.tr (fj_Im_countRow_67 a1 a2 ih _ _ _ _ h)
        · rw [if_pos hc] at h
          rcases (Classical.em (x11 = 0)) with hc | hc
          · rw [if_pos hc] at h
            exact uμ13.tr (fj_Im_countRow_67 a1 a2 ih _ _ _ _ h)
          · rw [if_neg hc] at h
            exact uμ13.tr (fj_Im_countRow_67 a1 a2 ih _ _ _ _ h)
theorem fm_Im_countRow {a1 : Int32} {a2 : Int32} {μ : Mem} {q : Mem} (h : m_Im_countRow a1 a2 μ = some q) : Un [140, 141] μ q := by
  unfold m_Im_countRow at h
  have uμ : Un [140, 141] μ μ := Un.rf
  obtain ⟨x1, hx1, h⟩ := ap_eq h
  exact uμ.tr (fl_Im_countRow_8 a1 a2 FU _ _ _ h)
theorem fm_Im_mark {a1 : Int32} {a2 : Int32} {μ : Mem} {q : Mem} (h : m_Im_mark a1 a2 μ = some q) : Un [141, 1202, 1203] μ q := by
  unfold m_Im_mark at h
  have uμ : Un [141, 1202, 1203] μ μ := Un.rf
  obtain ⟨hi1, h⟩ := gu_some h
  obtain ⟨hi2, h⟩ := gu_some h
  obtain ⟨μ3, hμ3, h⟩ := ap_eq h
  have uμ3 : Un [141, 1202, 1203] μ μ3 := uμ.tr (by rw [hμ3]; exact un_sI (Or.inl (by simp)) (fun _ => by decide))
  obtain ⟨μ4, hμ4, h⟩ := ap_eq h
  have uμ4 : Un [141, 1202, 1203] μ μ4 := uμ3.tr (by rw [hμ4]; exact un_sI (Or.inr ⟨by decide, by simp⟩) (by simp <;> omega))
  obtain ⟨μ5, hμ5, h⟩ := ap_eq h
  have uμ5 : Un [141, 1202, 1203] μ μ5 := uμ4.tr (by rw [hμ5]; exact un_sI (Or.inr ⟨by decide, by simp⟩) (by simp <;> omega))
  obtain rfl := Option.some.inj h
  exact uμ5
theorem fj_Im_markRow_153 (a1 : Nat) (a2 : Int32) (a3 : Int32) {q : Mem} {c_32 : Int64 → Int32 → Mem → Option (Mem)} (hf_32 : ∀ (y4 : Int64) (y6 : Int32) (μ : Mem), c_32 y4 y6 μ = some q → Un [141, 1202, 1203] μ q) (y4 : Int64) (y6 : Int32) (μ : Mem) (h : mj_Im_markRow_153 a1 a2 a3 c_32 y4 y6 μ = some q) : Un [141, 1202, 1203] μ q := by
  unfold mj_Im_markRow_153 at h
  have uμ : Un [141, 1202, 1203] μ μ := Un.rf
  obtain ⟨x8, hx8, h⟩ := ap_eq h
  exact uμ.tr (hf_32 _ _ _ h)
theorem fj_Im_markRow_127 (a1 : Nat) (a2 : Int32) (a3 : Int32) {q : Mem} {c_32 : Int64 → Int32 → Mem → Option (Mem)} (hf_32 : ∀ (y4 : Int64) (y6 : Int32) (μ : Mem), c_32 y4 y6 μ = some q → Un [141, 1202, 1203] μ q) (y4 : Int64) (y6 : Int32) (y7 : Int32) (y8 : Int32) (y9 : Int32) (μ : Mem) (h : mj_Im_markRow_127 a1 a2 a3 c_32 y4 y6 y7 y8 y9 μ = some q) : Un [141, 1202, 1203] μ q := by
  unfold mj_Im_markRow_127 at h
  have uμ : Un [141, 1202, 1203] μ μ := Un.rf
  rcases (Classical.em (y9 = 0)) with hc | hc
  · rw [if_pos hc] at h
    exact uμ.tr (fj_Im_markRow_153 a1 a2 a3 hf_32 _ _ _ h)
  · rw [if_neg hc] at h
    rcases (Classical.em (y8 = 0)).symm with hc | hc
    · rw [if_neg hc] at h
      exact uμ.tr (fj_Im_markRow_153 a1 a2 a3 hf_32 _ _ _ h)
    · rw [if_pos hc] at h
      obtain ⟨r9, hr9, h⟩ := bd_some h
      obtain ⟨r10, hr10, h⟩ := bd_some h
      have ur10 : Un [141, 1202, 1203] μ r10 := uμ.tr ((fm_Im_mark hr10).mono (by simp))
      exact ur10.tr (fj_Im_markRow_153 a1 a2 a3 hf_32 _ _ _ h)
theorem fj_Im_markRow_96 (a1 : Nat) (a2 : Int32) (a3 : Int32) {q : Mem} {c_32 : Int64 → Int32 → Mem → Option (Mem)} (hf_32 : ∀ (y4 : Int64) (y6 : Int32) (μ : Mem), c_32 y4 y6 μ = some q → Un [141, 1202, 1203] μ q) (y4 : Int64) (y6 : Int32) (y7 : Int32) (y8 : Int32) (z0 : Int32) (μ : Mem) (h : mj_Im_markRow_96 a1 a2 a3 c_32 y4 y6 y7 y8 z0 μ = some q) : Un [141, 1202, 1203] μ q := by
  unfold mj_Im_markRow_96 at h
  have uμ : Un [141, 1202, 1203] μ μ := Un.rf
  rcases (Classical.em (y8 = 0)) with hc | hc
  · rw [if_pos hc] at h
    exact uμ.tr (fj_Im_markRow_127 a1 a2 a3 hf_32 _ _ _ _ _ _ h)
  · rw [if_neg hc] at h
    rcases (Classical.em (z0 = 0)).symm with hc | hc
    · rw [if_neg hc] at h
      exact uμ.tr (fj_Im_markRow_127 a1 a2 a3 hf_32 _ _ _ _ _ _ h)
    · rw [if_pos hc] at h
      obtain ⟨r11, hr11, h⟩ := bd_some h
      obtain ⟨r12, hr12, h⟩ := bd_some h
      have ur12 : Un [141, 1202, 1203] μ r12 := uμ.tr ((fm_Im_mark hr12).mono (by simp))
      exact ur12.tr (fj_Im_markRow_153 a1 a2 a3 hf_32 _ _ _ h)
theorem fj_Im_markRow_72 (a1 : Nat) (a2 : Int32) (a3 : Int32) {q : Mem} {c_32 : Int64 → Int32 → Mem → Option (Mem)} (hf_32 : ∀ (y4 : Int64) (y6 : Int32) (μ : Mem), c_32 y4 y6 μ = some q → Un [141, 1202, 1203] μ q) (y4 : Int64) (y6 : Int32) (y7 : Int32) (z0 : Int32) (μ : Mem) (h : mj_Im_markRow_72 a1 a2 a3 c_32 y4 y6 y7 z0 μ = some q) : Un [141, 1202, 1203] μ q := by
  unfold mj_Im_markRow_72 at h
  have uμ : Un [141, 1202, 1203] μ μ := Un.rf
  obtain ⟨hi7, h⟩ := gu_some h
  rcases (Classical.em (y4 < ((a2).toInt64) * ((gI μ 241 (a1) y7.toNatClampNeg).toInt64))) with hc | hc
  · rw [if_pos hc] at h
    exact uμ.tr (fj_Im_markRow_96 a1 a2 a3 hf_32 _ _ _ _ _ _ h)
  · rw [if_neg hc] at h
    exact uμ.tr (fj_Im_markRow_96 a1 a2 a3 hf_32 _ _ _ _ _ _ h)
theorem fl_Im_markRow_32 (a1 : Nat) (a2 : Int32) (a3 : Int32) {q : Mem}  : ∀ (n : Nat) (y4 : Int64) (y6 : Int32) (μ : Mem), lp_Im_markRow_32 a1 a2 a3 n y4 y6 μ = some q → Un [141, 1202, 1203] μ q := by
  intro n
  induction n with
  | zero => intro _ _ _ h; cases h
  | succ n ih =>
    intro y4 y6 μ h
    unfold lp_Im_markRow_32 at h
    have uμ : Un [141, 1202, 1203] μ μ := Un.rf
    rcases (Classical.em (gI μ 7 (a1) 4 ≤ y6)) with hc | hc
    · rw [if_pos hc] at h
      obtain rfl := Option.some.inj h
      exact uμ
    · rw [if_neg hc] at h
      obtain ⟨hi13, h⟩ := gu_some h
      obtain ⟨x14, hx14, h⟩ := ap_eq h
      obtain ⟨hi15, h⟩ := gu_some h
      rcases (Classical.em (y4 < ((a2).toInt64) * ((gI μ 241 (a1) y6.toNatClampNeg).toInt64))) with hc | hc
      · rw [if_pos hc] at h
        exact uμ.tr (fj_Im_markRow_72 a1 a2 a3 ih _ _ _ _ _ h)
      · rw [if_neg hc] at h
        exact uμ.tr (fj_Im_markRow_72 a1 a2 a3 ih _ _ _ _ _ h)
theorem fm_Im_markRow {a1 : Nat} {a2 : Int32} {a3 : Int32} {μ : Mem} {q : Mem} (h : m_Im_markRow a1 a2 a3 μ = some q) : Un [141, 1202, 1203] μ q := by
  unfold m_Im_markRow at h
  have uμ : Un [141, 1202, 1203] μ μ := Un.rf
  obtain ⟨μ1, hμ1, h⟩ := ap_eq h
  have uμ1 : Un [141, 1202, 1203] μ μ1 := uμ.tr (by rw [hμ1]; exact un_sI (Or.inr ⟨by decide, by simp⟩) (by simp <;> omega))
  obtain ⟨μ2, hμ2, h⟩ := ap_eq h
  have uμ2 : Un [141, 1202, 1203] μ μ2 := uμ1.tr (by rw [hμ2]; exact un_sI (Or.inr ⟨by decide, by simp⟩) (by simp <;> omega))
  obtain ⟨x3, hx3, h⟩ := ap_eq h
  exact uμ2.tr (fl_Im_markRow_32 a1 a2 a3 FU _ _ _ h)
theorem fj_Im_measure_131 {q : Mem} {c_31 : Int32 → Mem → Option (Mem)} (hf_31 : ∀ (y1 : Int32) (μ : Mem), c_31 y1 μ = some q → Un [1204, 1205, 1206, 1207, 1208] μ q) (y1 : Int32) (μ : Mem) (h : mj_Im_measure_131 c_31 y1 μ = some q) : Un [1204, 1205, 1206, 1207, 1208] μ q := by
  unfold mj_Im_measure_131 at h
  have uμ : Un [1204, 1205, 1206, 1207, 1208] μ μ := Un.rf
  obtain ⟨x7, hx7, h⟩ := ap_eq h
  exact uμ.tr (hf_31 _ _ h)
theorem fl_Im_measure_31 {q : Mem}  : ∀ (n : Nat) (y1 : Int32) (μ : Mem), lp_Im_measure_31 n y1 μ = some q → Un [1204, 1205, 1206, 1207, 1208] μ q := by
  intro n
  induction n with
  | zero => intro _ _ h; cases h
  | succ n ih =>
    intro y1 μ h
    unfold lp_Im_measure_31 at h
    have uμ : Un [1204, 1205, 1206, 1207, 1208] μ μ := Un.rf
    rcases (Classical.em ((4096 : Int32) ≤ y1)) with hc | hc
    · rw [if_pos hc] at h
      obtain rfl := Option.some.inj h
      exact uμ
    · rw [if_neg hc] at h
      obtain ⟨hi15, h⟩ := gu_some h
      rcases (Classical.em (gI μ 140 (0) y1.toNatClampNeg ≤ 0)) with hc | hc
      · rw [if_pos hc] at h
        exact uμ.tr (fj_Im_measure_131 ih _ _ h)
      · rw [if_neg hc] at h
        obtain ⟨μ16, hμ16, h⟩ := ap_eq h
        have uμ16 : Un [1204, 1205, 1206, 1207, 1208] μ μ16 := uμ.tr (by rw [hμ16]; exact un_sI (Or.inr ⟨by decide, by simp⟩) (by simp <;> omega))
        obtain ⟨x17, hx17, h⟩ := ap_eq h
        obtain ⟨μ18, hμ18, h⟩ := ap_eq h
        have uμ18 : Un [1204, 1205, 1206, 1207, 1208] μ μ18 := uμ16.tr (by rw [hμ18]; exact un_sI (Or.inr ⟨by decide, by simp⟩) (by simp <;> omega))
        obtain ⟨x19, hx19, h⟩ := ap_eq h
        obtain ⟨μ20, hμ20, h⟩ := ap_eq h
        have uμ20 : Un [1204, 1205, 1206, 1207, 1208] μ μ20 := uμ18.tr (by rw [hμ20]; exact un_sI (Or.inr ⟨by decide, by simp⟩) (by simp <;> omega))
        obtain ⟨μ21, hμ21, h⟩ := ap_eq h
        have uμ21 : Un [1204, 1205, 1206, 1207, 1208] μ μ21 := uμ20.tr (by rw [hμ21]; exact un_sI (Or.inr ⟨by decide, by simp⟩) (by simp <;> omega))
        obtain ⟨μ22, hμ22, h⟩ := ap_eq h
        have uμ22 : Un [1204, 1205, 1206, 1207, 1208] μ μ22 := uμ21.tr (by rw [hμ22]; exact un_sI (Or.inr ⟨by decide, by simp⟩) (by simp <;> omega))
        exact uμ22.tr (fj_Im_measure_131 ih _ _ h)
theorem fm_Im_measure {μ : Mem} {q : Mem} (h : m_Im_measure  μ = some q) : Un [1204, 1205, 1206, 1207, 1208] μ q := by
  unfold m_Im_measure at h
  have uμ : Un [1204, 1205, 1206, 1207, 1208] μ μ := Un.rf
  obtain ⟨μ1, hμ1, h⟩ := ap_eq h
  have uμ1 : Un [1204, 1205, 1206, 1207, 1208] μ μ1 := uμ.tr (by rw [hμ1]; exact un_sI (Or.inr ⟨by decide, by simp⟩) (by simp <;> omega))
  obtain ⟨μ2, hμ2, h⟩ := ap_eq h
  have uμ2 : Un [1204, 1205, 1206, 1207, 1208] μ μ2 := uμ1.tr (by rw [hμ2]; exact un_sI (Or.inr ⟨by decide, by simp⟩) (by simp <;> omega))
  obtain ⟨μ3, hμ3, h⟩ := ap_eq h
  have uμ3 : Un [1204, 1205, 1206, 1207, 1208] μ μ3 := uμ2.tr (by rw [hμ3]; exact un_sI (Or.inr ⟨by decide, by simp⟩) (by simp <;> omega))
  obtain ⟨μ4, hμ4, h⟩ := ap_eq h
  have uμ4 : Un [1204, 1205, 1206, 1207, 1208] μ μ4 := uμ3.tr (by rw [hμ4]; exact un_sI (Or.inr ⟨by decide, by simp⟩) (by simp <;> omega))
  obtain ⟨μ5, hμ5, h⟩ := ap_eq h
  have uμ5 : Un [1204, 1205, 1206, 1207, 1208] μ μ5 := uμ4.tr (by rw [hμ5]; exact un_sI (Or.inr ⟨by decide, by simp⟩) (by simp <;> omega))
  exact uμ5.tr (fl_Im_measure_31 FU _ _ h)
theorem fl_Im_draw_11 (a1 : Nat) (a2 : Int32) (a3 : Int32) {q : Mem} {c_46 : Mem → Option (Mem)} (hf_46 : ∀ (μ : Mem), c_46  μ = some q → Un [140, 141, 1202, 1203, 1204, 1205, 1206, 1207, 1208] μ q) : ∀ (n : Nat) (y4 : Int32) (μ : Mem), lp_Im_draw_11 a1 a2 a3 c_46 n y4 μ = some q → Un [140, 141, 1202, 1203, 1204, 1205, 1206, 1207, 1208] μ q := by
  intro n
  induction n with
  | zero => intro _ _ h; cases h
  | succ n ih =>
    intro y4 μ h
    unfold lp_Im_draw_11 at h
    have uμ : Un [140, 141, 1202, 1203, 1204, 1205, 1206, 1207, 1208] μ μ := Un.rf
    rcases (Classical.em ((512 : Int32) ≤ y4)) with hc | hc
    · rw [if_pos hc] at h
      exact uμ.tr (hf_46 _ h)
    · rw [if_neg hc] at h
      obtain ⟨r5, hr5, h⟩ := bd_some h
      have ur5 : Un [140, 141, 1202, 1203, 1204, 1205, 1206, 1207, 1208] μ r5 := uμ.tr ((fm_Im_markRow hr5).mono (by simp))
      obtain ⟨r6, hr6, h⟩ := bd_some h
      have ur6 : Un [140, 141, 1202, 1203, 1204, 1205, 1206, 1207, 1208] μ r6 := ur5.tr ((fm_Im_countRow hr6).mono (by simp))
      obtain ⟨x7, hx7, h⟩ := ap_eq h
      exact ur6.tr (ih _ _ h)
theorem fj_Im_draw_46 (a1 : Nat) (a2 : Int32) (a3 : Int32) {q : Mem}  (μ : Mem) (h : mj_Im_draw_46 a1 a2 a3  μ = some q) : Un [140, 141, 1202, 1203, 1204, 1205, 1206, 1207, 1208] μ q := by
  unfold mj_Im_draw_46 at h
  have uμ : Un [140, 141, 1202, 1203, 1204, 1205, 1206, 1207, 1208] μ μ := Un.rf
  obtain ⟨r8, hr8, h⟩ := bd_some h
  have ur8 : Un [140, 141, 1202, 1203, 1204, 1205, 1206, 1207, 1208] μ r8 := uμ.tr ((fm_Im_measure hr8).mono (by simp))
  obtain rfl := Option.some.inj h
  exact ur8
theorem fm_Im_draw {a1 : Nat} {a2 : Int32} {a3 : Int32} {μ : Mem} {q : Mem} (h : m_Im_draw a1 a2 a3 μ = some q) : Un [140, 141, 1202, 1203, 1204, 1205, 1206, 1207, 1208] μ q := by
  unfold m_Im_draw at h
  have uμ : Un [140, 141, 1202, 1203, 1204, 1205, 1206, 1207, 1208] μ μ := Un.rf
  obtain ⟨r1, hr1, h⟩ := bd_some h
  have ur1 : Un [140, 141, 1202, 1203, 1204, 1205, 1206, 1207, 1208] μ r1 := uμ.tr ((fm_Ar_fill (by decide) hr1).mono (by simp))
  exact ur1.tr (fl_Im_draw_11 a1 a2 a3 (fun _ h => fj_Im_draw_46 a1 a2 a3 _ h) FU _ _ h)
theorem fm_Fo_image {a1 : Int32} {a2 : Int32} {a3 : Int32} {a4 : Int32} {μ : Mem} {q : Int32 × Mem} (h : m_Fo_image a1 a2 a3 a4 μ = some q) : Un [120, 121, 122, 123, 124, 140, 141, 240, 241, 242, 243, 1105, 1106, 1202, 1203, 1204, 1205, 1206, 1207, 1208, 1704, 1705, 1706, 1707, 1708, 2103, 2104] μ q.2 := by
  unfold m_Fo_image at h
  have uμ : Un [120, 121, 122, 123, 124, 140, 141, 240, 241, 242, 243, 1105, 1106, 1202, 1203, 1204, 1205, 1206, 1207, 1208, 1704, 1705, 1706, 1707, 1708, 2103, 2104] μ μ := Un.rf
  rcases bcase_f ((m_Fo_isDots (a3) μ)) with hb | hb
  · rw [iB_f hb] at h
    obtain rfl := Option.some.inj h
    exact uμ
  · rw [iB_t hb] at h
    rcases bcase_t ((m_Fo_within ((a4).toInt64) ((0 : Int64)) ((1 : Int64)) μ)) with hb | hb
    · rw [iB_t hb] at h
      obtain ⟨r1, hr1, h⟩ := bd_some h
      obtain ⟨o2, ho2, h⟩ := ap_eq h
      replace h := bd_some h
      obtain ⟨y3, hy3, h⟩ := h
      subst hy3
      obtain ⟨r4, hr4, h⟩ := bd_some h
      obtain ⟨μ5, hμ5, h⟩ := ap_eq h
      have uμ5 : Un [120, 121, 122, 123, 124, 140, 141, 240, 241, 242, 243, 1105, 1106, 1202, 1203, 1204, 1205, 1206, 1207, 1208, 1704, 1705, 1706, 1707, 1708, 2103, 2104] μ μ5 := by rw [hμ5]; exact uμ.tr ((fm_Fl_fill hr4).mono (by simp))
      rcases bcase_f (r4.1) with hb | hb
      · rw [iB_f hb] at h
        obtain rfl := Option.some.inj h
        exact uμ5
      · rw [iB_t hb] at h
        obtain ⟨o6, ho6, h⟩ := ap_eq h
        replace h := bd_some h
        obtain ⟨y7, hy7, h⟩ := h
        subst hy7
        obtain ⟨r8, hr8, h⟩ := bd_some h
        rcases bcase_t (r8) with hb | hb
        · rw [iB_t hb] at h
          obtain ⟨r9, hr9, h⟩ := ap_eq h
          have ur9 : Un [120, 121, 122, 123, 124, 140, 141, 240, 241, 242, 243, 1105, 1106, 1202, 1203, 1204, 1205, 1206, 1207, 1208, 1704, 1705, 1706, 1707, 1708, 2103, 2104] μ r9 := uμ5.tr ((fm_Fo_takeSparePolygons hr9.symm).mono (by simp))
          obtain ⟨o10, ho10, h⟩ := ap_eq h
          replace h := bd_some h
          obtain ⟨y11, hy11, h⟩ := h
          subst hy11
          obtain ⟨r12, hr12, h⟩ := bd_some h
          have ur12 : Un [120, 121, 122, 123, 124, 140, 141, 240, 241, 242, 243, 1105, 1106, 1202, 1203, 1204, 1205, 1206, 1207, 1208, 1704, 1705, 1706, 1707, 1708, 2103, 2104] μ r12 := ur9.tr ((fm_Im_draw hr12).mono (by simp))
          obtain rfl := Option.some.inj h
          exact ur12
        · rw [iB_f hb] at h
          obtain rfl := Option.some.inj h
          exact uμ5
    · rw [iB_f hb] at h
      obtain rfl := Option.some.inj h
      exact uμ
theorem fm_Pr_add {o : Nat} {a1 : Int32} {a2 : Int32} {μ : Mem} {q : Int32 × Mem} (h : m_Pr_add o a1 a2 μ = some q) : Un [260, 261, 1802] μ q.2 := by
  unfold m_Pr_add at h
  have uμ : Un [260, 261, 1802] μ μ := Un.rf
  rcases (Classical.em (gI μ 8 (o) 2 < (100 : Int32))) with hc | hc
  · rw [if_pos hc] at h
    obtain ⟨hi1, h⟩ := gu_some h
    obtain ⟨μ2, hμ2, h⟩ := ap_eq h
    have uμ2 : Un [260, 261, 1802] μ μ2 := uμ.tr (by rw [hμ2]; exact un_sI (Or.inl (by simp)) (fun _ => by decide))
    obtain ⟨hi3, h⟩ := gu_some h
    obtain ⟨μ4, hμ4, h⟩ := ap_eq h
    have uμ4 : Un [260, 261, 1802] μ μ4 := uμ2.tr (by rw [hμ4]; exact un_sI (Or.inl (by simp)) (fun _ => by decide))
    obtain ⟨μ5, hμ5, h⟩ := ap_eq h
    have uμ5 : Un [260, 261, 1802] μ μ5 := uμ4.tr (by rw [hμ5]; exact un_sI (Or.inr ⟨by decide, by simp⟩) (by simp <;> omega))
    obtain rfl := Option.some.inj h
    exact uμ5
  · rw [if_neg hc] at h
    obtain rfl := Option.some.inj h
    exact uμ
theorem fm_Fo_act {a1 : Int32} {a2 : Int32} {a3 : Int32} {μ : Mem} {q : Int32 × Mem} (h : m_Fo_act a1 a2 a3 μ = some q) : Un [260, 261, 1802] μ q.2 := by
  unfold m_Fo_act at h
  have uμ : Un [260, 261, 1802] μ μ := Un.rf
  obtain ⟨r1, hr1, h⟩ := bd_some h
  rcases ocase_n r1 with ho | ⟨y2, ho⟩
  · subst ho
    rw [oc_none] at h
    obtain rfl := Option.some.inj h
    exact uμ
  · subst ho
    rw [oc_some] at h
    rcases (Classical.em (gI μ 4 (y2) 5 ≤ 0)) with hc | hc
    · rw [if_pos hc] at h
      rcases bcase_f ((m_Fo_within ((a2).toInt64) ((0 : Int64)) ((30 : Int64)) μ)) with hb | hb
      · rw [iB_f hb] at h
        obtain rfl := Option.some.inj h
        exact uμ
      · rw [iB_t hb] at h
        rcases bcase_t ((m_Fo_within ((a3).toInt64) ((-100000 : Int64)) ((100000 : Int64)) μ)) with hb | hb
        · rw [iB_t hb] at h
          obtain ⟨r3, hr3, h⟩ := bd_some h
          obtain ⟨μ4, hμ4, h⟩ := ap_eq h
          have uμ4 : Un [260, 261, 1802] μ μ4 := by rw [hμ4]; exact uμ.tr ((fm_Pr_add hr3).mono (by simp))
          obtain ⟨x5, hx5, h⟩ := ap_eq h
          obtain rfl := Option.some.inj h
          exact uμ4
        · rw [iB_f hb] at h
          obtain rfl := Option.some.inj h
          exact uμ
    · rw [if_neg hc] at h
      obtain rfl := Option.some.inj h
      exact uμ
theorem fm_Pr_clear {o : Nat} {μ : Mem} {q : Int32 × Mem} (h : m_Pr_clear o μ = q) : Un [1802] μ q.2 := by
  unfold m_Pr_clear at h
  have uμ : Un [1802] μ μ := Un.rf
  obtain ⟨x1, hx1, h⟩ := ap_eq h
  obtain ⟨μ2, hμ2, h⟩ := ap_eq h
  have uμ2 : Un [1802] μ μ2 := uμ.tr (by rw [hμ2]; exact un_sI (Or.inr ⟨by decide, by simp⟩) (by simp <;> omega))
  subst h
  exact uμ2
theorem fm_Fo_wipe {a1 : Int32} {μ : Mem} {q : Int32 × Mem} (h : m_Fo_wipe a1 μ = some q) : Un [1802] μ q.2 := by
  unfold m_Fo_wipe at h
  have uμ : Un [1802] μ μ := Un.rf
  obtain ⟨r1, hr1, h⟩ := bd_some h
  rcases ocase_s r1 with ⟨y2, ho⟩ | ho
  · subst ho
    rw [oc_some] at h
    obtain ⟨r3, hr3, h⟩ := ap_eq h
    obtain ⟨μ4, hμ4, h⟩ := ap_eq h
    have uμ4 : Un [1802] μ μ4 := by rw [hμ4]; exact uμ.tr ((fm_Pr_clear hr3.symm).mono (by simp))
    obtain rfl := Option.some.inj h
    exact uμ4
  · subst ho
    rw [oc_none] at h
    obtain rfl := Option.some.inj h
    exact uμ
theorem fl_Fit_start_18 (o : Nat) (a1 : Nat) (a2 : Int32) {q : Mem} {c_43 : Mem → Option (Mem)} (hf_43 : ∀ (μ : Mem), c_43  μ = some q → Un [103, 500, 501, 502, 1004, 1005] μ q) : ∀ (n : Nat) (y3 : Int32) (μ : Mem), lp_Fit_start_18 o a1 a2 c_43 n y3 μ = some q → Un [103, 500, 501, 502, 1004, 1005] μ q := by
  intro n
  induction n with
  | zero => intro _ _ h; cases h
  | succ n ih =>
    intro y3 μ h
    unfold lp_Fit_start_18 at h
    have uμ : Un [103, 500, 501, 502, 1004, 1005] μ μ := Un.rf
    rcases (Classical.em (gI μ 0 (o) 4 ≤ y3)) with hc | hc
    · rw [if_pos hc] at h
      exact uμ.tr (hf_43 _ h)
    · rw [if_neg hc] at h
      obtain ⟨r8, hr8, h⟩ := bd_some h
      obtain ⟨hi9, h⟩ := gu_some h
      obtain ⟨μ10, hμ10, h⟩ := ap_eq h
      have uμ10 : Un [103, 500, 501, 502, 1004, 1005] μ μ10 := uμ.tr (by rw [hμ10]; exact un_sI (Or.inl (by simp)) (fun _ => by decide))
      obtain ⟨x11, hx11, h⟩ := ap_eq h
      exact uμ10.tr (ih _ _ h)
theorem fl_Fit_start_114 (o : Nat) (a1 : Nat) (a2 : Int32) {q : Mem} {c_154 : Int32 → Mem → Option (Mem)} (hf_154 : ∀ (y3 : Int32) (μ : Mem), c_154 y3 μ = some q → Un [103, 500, 501, 502, 1004, 1005] μ q) : ∀ (n : Nat) (y3 : Int32) (y4 : Int32) (μ : Mem), lp_Fit_start_114 o a1 a2 c_154 n y3 y4 μ = some q → Un [103, 500, 501, 502, 1004, 1005] μ q := by
  intro n
  induction n with
  | zero => intro _ _ _ h; cases h
  | succ n ih =>
    intro y3 y4 μ h
    unfold lp_Fit_start_114 at h
    have uμ : Un [103, 500, 501, 502, 1004, 1005] μ μ := Un.rf
    rcases (Classical.em ((2 : Int32) ≤ y4)) with hc | hc
    · rw [if_pos hc] at h
      exact uμ.tr (hf_154 _ _ h)
    · rw [if_neg hc] at h
      obtain ⟨hi31, h⟩ := gu_some h
      obtain ⟨hi32, h⟩ := gu_some h
      obtain ⟨hi33, h⟩ := gu_some h
      obtain ⟨hi34, h⟩ := gu_some h
      obtain ⟨μ35, hμ35, h⟩ := ap_eq h
      have uμ35 : Un [103, 500, 501, 502, 1004, 1005] μ μ35 := uμ.tr (by rw [hμ35]; exact un_sI (Or.inl (by simp)) (fun _ => by decide))
      obtain ⟨hi36, h⟩ := gu_some h
      obtain ⟨hi37, h⟩ := gu_some h
      obtain ⟨μ38, hμ38, h⟩ := ap_eq h
      have uμ38 : Un [103, 500, 501, 502, 1004, 1005] μ μ38 := uμ35.tr (by rw [hμ38]; exact un_sI (Or.inl (by simp)) (fun _ => by decide))
      obtain ⟨x39, hx39, h⟩ := ap_eq h
      exact uμ38.tr (ih _ _ _ h)
theorem fj_Fit_start_154 (o : Nat) (a1 : Nat) (a2 : Int32) {q : Mem} {c_45 : Int32 → Mem → Option (Mem)} (hf_45 : ∀ (y3 : Int32) (μ : Mem), c_45 y3 μ = some q → Un [103, 500, 501, 502, 1004, 1005] μ q) (y3 : Int32) (μ : Mem) (h : mj_Fit_start_154 o a1 a2 c_45 y3 μ = some q) : Un [103, 500, 501, 502, 1004, 1005] μ q := by
  unfold mj_Fit_start_154 at h
  have uμ : Un [103, 500, 501, 502, 1004, 1005] μ μ := Un.rf
  obtain ⟨x40, hx40, h⟩ := ap_eq h
  exact uμ.tr (hf_45 _ _ h)
theorem fl_Fit_start_45 (o : Nat) (a1 : Nat) (a2 : Int32) {q : Mem}  : ∀ (n : Nat) (y3 : Int32) (μ : Mem), lp_Fit_start_45 o a1 a2 n y3 μ = some q → Un [103, 500, 501, 502, 1004, 1005] μ q := by
  intro n
  induction n with
  | zero => intro _ _ h; cases h
  | succ n ih =>
    intro y3 μ h
    unfold lp_Fit_start_45 at h
    have uμ : Un [103, 500, 501, 502, 1004, 1005] μ μ := Un.rf
    rcases (Classical.em (gI μ 0 (o) 5 ≤ y3)) with hc | hc
    · rw [if_pos hc] at h
      obtain rfl := Option.some.inj h
      exact uμ
    · rw [if_neg hc] at h
      obtain ⟨hi41, h⟩ := gu_some h
      obtain ⟨hi42, h⟩ := gu_some h
      obtain ⟨r43, hr43, h⟩ := bd_some h
      obtain ⟨hi44, h⟩ := gu_some h
      obtain ⟨μ45, hμ45, h⟩ := ap_eq h
      have uμ45 : Un [103, 500, 501, 502, 1004, 1005] μ μ45 := uμ.tr (by rw [hμ45]; exact un_sI (Or.inl (by simp)) (fun _ => by decide))
      obtain ⟨hi46, h⟩ := gu_some h
      obtain ⟨hi47, h⟩ := gu_some h
      obtain ⟨r48, hr48, h⟩ := bd_some h
      obtain ⟨hi49, h⟩ := gu_some h
      obtain ⟨μ50, hμ50, h⟩ := ap_eq h
      have uμ50 : Un [103, 500, 501, 502, 1004, 1005] μ μ50 := uμ45.tr (by rw [hμ50]; exact un_sI (Or.inl (by simp)) (fun _ => by decide))
      exact uμ50.tr (fl_Fit_start_114 o a1 a2 (fun _ _ h => fj_Fit_start_154 o a1 a2 ih _ _ h) FU _ _ _ h)
theorem fj_Fit_start_43 (o : Nat) (a1 : Nat) (a2 : Int32) {q : Mem}  (μ : Mem) (h : mj_Fit_start_43 o a1 a2  μ = some q) : Un [103, 500, 501, 502, 1004, 1005] μ q := by
  unfold mj_Fit_start_43 at h
  have uμ : Un [103, 500, 501, 502, 1004, 1005] μ μ := Un.rf
  exact uμ.tr (fl_Fit_start_45 o a1 a2 FU _ _ h)
theorem fm_Fit_start {o : Nat} {a1 : Nat} {a2 : Int32} {μ : Mem} {q : Mem} (h : m_Fit_start o a1 a2 μ = some q) : Un [103, 500, 501, 502, 1004, 1005] μ q := by
  unfold m_Fit_start at h
  have uμ : Un [103, 500, 501, 502, 1004, 1005] μ μ := Un.rf
  obtain ⟨r1, hr1, h⟩ := bd_some h
  obtain ⟨μ2, hμ2, h⟩ := ap_eq h
  have uμ2 : Un [103, 500, 501, 502, 1004, 1005] μ μ2 := uμ.tr (by rw [hμ2]; exact un_sI (Or.inr ⟨by decide, by simp⟩) (by simp <;> omega))
  obtain ⟨μ3, hμ3, h⟩ := ap_eq h
  have uμ3 : Un [103, 500, 501, 502, 1004, 1005] μ μ3 := uμ2.tr (by rw [hμ3]; exact un_sI (Or.inr ⟨by decide, by simp⟩) (by simp <;> omega))
  exact uμ3.tr (fl_Fit_start_18 o a1 a2 (fun _ h => fj_Fit_start_43 o a1 a2 _ h) FU _ _ h)
theorem fl_Fit_fitOutline_3 (o : Nat) (a1 : Int32) (a2 : Int32) (a3 : Int32) {q : Bool × Mem} {c_27 : Int32 → Mem → Option (Bool × Mem)} (hf_27 : ∀ (y4 : Int32) (μ : Mem), c_27 y4 μ = some q → Un [501] μ q.2) : ∀ (n : Nat) (y4 : Int32) (μ : Mem), lp_Fit_fitOutline_3 o a1 a2 a3 c_27 n y4 μ = some q → Un [501] μ q.2 := by
  intro n
  induction n with
  | zero => intro _ _ h; cases h
  | succ n ih =>
    intro y4 μ h
    unfold lp_Fit_fitOutline_3 at h
    have uμ : Un [501] μ μ := Un.rf
    rcases (Classical.em (a3 ≤ y4)) with hc | hc
    · rw [if_pos hc] at h
      exact uμ.tr (hf_27 _ _ h)
    · rw [if_neg hc] at h
      obtain ⟨hi4, h⟩ := gu_some h
      obtain ⟨hi5, h⟩ := gu_some h
      rcases (Classical.em (gI μ 502 (2 * o + a1.toNatClampNeg) y4.toNatClampNeg = 0)).symm with hc | hc
      · rw [if_neg hc] at h
        exact uμ.tr (hf_27 _ _ h)
      · rw [if_pos hc] at h
        obtain ⟨x6, hx6, h⟩ := ap_eq h
        exact uμ.tr (ih _ _ h)
theorem fj_Fit_fitOutline_172 (o : Nat) (a1 : Int32) (a2 : Int32) (a3 : Int32) {q : Bool × Mem} {c_41 : Int32 → Int32 → Int32 → Int32 → Int32 → Mem → Option (Bool × Mem)} (hf_41 : ∀ (y4 : Int32) (y5 : Int32) (y6 : Int32) (y7 : Int32) (y8 : Int32) (μ : Mem), c_41 y4 y5 y6 y7 y8 μ = some q → Un [501] μ q.2) (y4 : Int32) (y5 : Int32) (y6 : Int32) (y7 : Int32) (y8 : Int32) (μ : Mem) (h : mj_Fit_fitOutline_172 o a1 a2 a3 c_41 y4 y5 y6 y7 y8 μ = some q) : Un [501] μ q.2 := by
  unfold mj_Fit_fitOutline_172 at h
  have uμ : Un [501] μ μ := Un.rf
  obtain ⟨x17, hx17, h⟩ := ap_eq h
  exact uμ.tr (hf_41 _ _ _ _ _ _ h)
theorem fj_Fit_fitOutline_158 (o : Nat) (a1 : Int32) (a2 : Int32) (a3 : Int32) {q : Bool × Mem} {c_41 : Int32 → Int32 → Int32 → Int32 → Int32 → Mem → Option (Bool × Mem)} (hf_41 : ∀ (y4 : Int32) (y5 : Int32) (y6 : Int32) (y7 : Int32) (y8 : Int32) (μ : Mem), c_41 y4 y5 y6 y7 y8 μ = some q → Un [501] μ q.2) (y4 : Int32) (y6 : Int32) (y7 : Int32) (y8 : Int32) (y9 : Int32) (y10 : Int64) (z0 : Int32) (μ : Mem) (h : mj_Fit_fitOutline_158 o a1 a2 a3 c_41 y4 y6 y7 y8 y9 y10 z0 μ = some q) : Un [501] μ q.2 := by
  unfold mj_Fit_fitOutline_158 at h
  have uμ : Un [501] μ μ := Un.rf
  obtain ⟨hi14, h⟩ := gu_some h
  obtain ⟨hi15, h⟩ := gu_some h
  obtain ⟨μ16, hμ16, h⟩ := ap_eq h
  have uμ16 : Un [501] μ μ16 := uμ.tr (by rw [hμ16]; exact un_sI (Or.inl (by simp)) (fun _ => by decide))
  exact uμ16.tr (fj_Fit_fitOutline_172 o a1 a2 a3 hf_41 _ _ _ _ _ _ h)
theorem fj_Fit_fitOutline_157 (o : Nat) (a1 : Int32) (a2 : Int32) (a3 : Int32) {q : Bool × Mem} {c_41 : Int32 → Int32 → Int32 → Int32 → Int32 → Mem → Option (Bool × Mem)} (hf_41 : ∀ (y4 : Int32) (y5 : Int32) (y6 : Int32) (y7 : Int32) (y8 : Int32) (μ : Mem), c_41 y4 y5 y6 y7 y8 μ = some q → Un [501] μ q.2) (y4 : Int32) (y6 : Int32) (y7 : Int32) (y8 : Int32) (y9 : Int32) (y10 : Int64) (μ : Mem) (h : mj_Fit_fitOutline_157 o a1 a2 a3 c_41 y4 y6 y7 y8 y9 y10 μ = some q) : Un [501] μ q.2 := by
  unfold mj_Fit_fitOutline_157 at h
  have uμ : Un [501] μ μ := Un.rf
  exact uμ.tr (fj_Fit_fitOutline_158 o a1 a2 a3 hf_41 _ _ _ _ _ _ _ _ h)
theorem fj_Fit_fitOutline_81 (o : Nat) (a1 : Int32) (a2 : Int32) (a3 : Int32) {q : Bool × Mem} {c_41 : Int32 → Int32 → Int32 → Int32 → Int32 → Mem → Option (Bool × Mem)} (hf_41 : ∀ (y4 : Int32) (y5 : Int32) (y6 : Int32) (y7 : Int32) (y8 : Int32) (μ : Mem), c_41 y4 y5 y6 y7 y8 μ = some q → Un [501] μ q.2) (y4 : Int32) (y5 : Int32) (y6 : Int32) (y7 : Int32) (y8 : Int32) (z0 : Int32) (μ : Mem) (h : mj_Fit_fitOutline_81 o a1 a2 a3 c_41 y4 y5 y6 y7 y8 z0 μ = some q) : Un [501] μ q.2 := by
  unfold mj_Fit_fitOutline_81 at h
  have uμ : Un [501] μ μ := Un.rf
  obtain ⟨hi9, h⟩ := gu_some h
  obtain ⟨hi10, h⟩ := gu_some h
  rcases (Classical.em (gI μ 502 (2 * o + a1.toNatClampNeg) z0.toNatClampNeg = 0)) with hc | hc
  · rw [if_pos hc] at h
    obtain ⟨hi11, h⟩ := gu_some h
    obtain ⟨hi12, h⟩ := gu_some h
    obtain ⟨r13, hr13, h⟩ := bd_some h
    rcases (Classical.em (y5 = 0)) with hc | hc
    · rw [if_pos hc] at h
      exact uμ.tr (fj_Fit_fitOutline_157 o a1 a2 a3 hf_41 _ _ _ _ _ _ _ h)
    · rw [if_neg hc] at h
      rcases bcase_f ((m_Fo_within (r13) ((-1000000000 : Int64)) ((1000000000 : Int64)) μ)) with hb | hb
      · rw [iB_f hb] at h
        exact uμ.tr (fj_Fit_fitOutline_157 o a1 a2 a3 hf_41 _ _ _ _ _ _ _ h)
      · rw [iB_t hb] at h
        exact uμ.tr (fj_Fit_fitOutline_158 o a1 a2 a3 hf_41 _ _ _ _ _ _ _ _ h)
  · rw [if_neg hc] at h
    obtain ⟨r18, hr18, h⟩ := bd_some h
    exact uμ.tr (fj_Fit_fitOutline_172 o a1 a2 a3 hf_41 _ _ _ _ _ _ h)
theorem fl_Fit_fitOutline_41 (o : Nat) (a1 : Int32) (a2 : Int32) (a3 : Int32) {q : Bool × Mem}  : ∀ (n : Nat) (y4 : Int32) (y5 : Int32) (y6 : Int32) (y7 : Int32) (y8 : Int32) (μ : Mem), lp_Fit_fitOutline_41 o a1 a2 a3 n y4 y5 y6 y7 y8 μ = some q → Un [501] μ q.2 := by
  intro n
  induction n with
  | zero => intro _ _ _ _ _ _ h; cases h
  | succ n ih =>
    intro y4 y5 y6 y7 y8 μ h
    unfold lp_Fit_fitOutline_41 at h
    have uμ : Un [501] μ μ := Un.rf
    rcases (Classical.em (a3 ≤ y4)) with hc | hc
    · rw [if_pos hc] at h
      obtain ⟨B19, hB19, h⟩ := zb_some h
      obtain rfl := Option.some.inj h
      exact uμ
    · rw [if_neg hc] at h
      rcases (Classical.em (a3 - a2 ≤ y8)) with hc | hc
      · rw [if_pos hc] at h
        obtain ⟨B20, hB20, h⟩ := zb_some h
        obtain rfl := Option.some.inj h
        exact uμ
      · rw [if_neg hc] at h
        rcases (Classical.em (a3 ≤ y4 + y8)) with hc | hc
        · rw [if_pos hc] at h
          exact uμ.tr (fj_Fit_fitOutline_81 o a1 a2 a3 ih _ _ _ _ _ _ _ h)
        · rw [if_neg hc] at h
          exact uμ.tr (fj_Fit_fitOutline_81 o a1 a2 a3 ih _ _ _ _ _ _ _ h)
theorem fj_Fit_fitOutline_27 (o : Nat) (a1 : Int32) (a2 : Int32) (a3 : Int32) {q : Bool × Mem}  (y4 : Int32) (μ : Mem) (h : mj_Fit_fitOutline_27 o a1 a2 a3 y4 μ = some q) : Un [501] μ q.2 := by
  unfold mj_Fit_fitOutline_27 at h
  have uμ : Un [501] μ μ := Un.rf
  exact uμ.tr (fl_Fit_fitOutline_41 o a1 a2 a3 FU _ _ _ _ _ _ h)
theorem fm_Fit_fitOutline {o : Nat} {a1 : Int32} {a2 : Int32} {a3 : Int32} {μ : Mem} {q : Bool × Mem} (h : m_Fit_fitOutline o a1 a2 a3 μ = some q) : Un [501] μ q.2 := by
  unfold m_Fit_fitOutline at h
  have uμ : Un [501] μ μ := Un.rf
  exact uμ.tr (fl_Fit_fitOutline_3 o a1 a2 a3 (fun _ _ h => fj_Fit_fitOutline_27 o a1 a2 a3 _ _ h) FU _ _ h)
theorem fj_Fit_fitAll_41 (o : Nat) (a1 : Int32) {q : Bool × Mem} {c_7 : Int32 → Int32 → Int32 → Mem → Option (Bool × Mem)} (hf_7 : ∀ (y2 : Int32) (y3 : Int32) (y4 : Int32) (μ : Mem), c_7 y2 y3 y4 μ = some q → Un [501] μ q.2) (y4 : Int32) (z0 : Int32) (μ : Mem) (h : mj_Fit_fitAll_41 o a1 c_7 y4 z0 μ = some q) : Un [501] μ q.2 := by
  unfold mj_Fit_fitAll_41 at h
  have uμ : Un [501] μ μ := Un.rf
  obtain ⟨hi5, h⟩ := gu_some h
  obtain ⟨x6, hx6, h⟩ := ap_eq h
  obtain ⟨x7, hx7, h⟩ := ap_eq h
  exact uμ.tr (hf_7 _ _ _ _ h)
theorem fj_Fit_fitAll_40 (o : Nat) (a1 : Int32) {q : Bool × Mem} {c_7 : Int32 → Int32 → Int32 → Mem → Option (Bool × Mem)} (hf_7 : ∀ (y2 : Int32) (y3 : Int32) (y4 : Int32) (μ : Mem), c_7 y2 y3 y4 μ = some q → Un [501] μ q.2) (y4 : Int32) (μ : Mem) (h : mj_Fit_fitAll_40 o a1 c_7 y4 μ = some q) : Un [501] μ q.2 := by
  unfold mj_Fit_fitAll_40 at h
  have uμ : Un [501] μ μ := Un.rf
  exact uμ.tr (fj_Fit_fitAll_41 o a1 hf_7 _ _ _ h)
theorem fl_Fit_fitAll_7 (o : Nat) (a1 : Int32) {q : Bool × Mem}  : ∀ (n : Nat) (y2 : Int32) (y3 : Int32) (y4 : Int32) (μ : Mem), lp_Fit_fitAll_7 o a1 n y2 y3 y4 μ = some q → Un [501] μ q.2 := by
  intro n
  induction n with
  | zero => intro _ _ _ _ h; cases h
  | succ n ih =>
    intro y2 y3 y4 μ h
    unfold lp_Fit_fitAll_7 at h
    have uμ : Un [501] μ μ := Un.rf
    rcases (Classical.em (gI μ 0 (o) 4 ≤ y4)) with hc | hc
    · rw [if_pos hc] at h
      obtain ⟨B8, hB8, h⟩ := zb_some h
      obtain rfl := Option.some.inj h
      exact uμ
    · rw [if_neg hc] at h
      obtain ⟨hi9, h⟩ := gu_some h
      obtain ⟨r10, hr10, h⟩ := bd_some h
      obtain ⟨μ11, hμ11, h⟩ := ap_eq h
      have uμ11 : Un [501] μ μ11 := by rw [hμ11]; exact uμ.tr ((fm_Fit_fitOutline hr10).mono (by simp))
      rcases bcase_f (r10.1) with hb | hb
      · rw [iB_f hb] at h
        exact uμ11.tr (fj_Fit_fitAll_40 o a1 ih _ _ h)
      · rw [iB_t hb] at h
        rcases (Classical.em (y2 = 0)) with hc | hc
        · rw [if_pos hc] at h
          exact uμ11.tr (fj_Fit_fitAll_40 o a1 ih _ _ h)
        · rw [if_neg hc] at h
          exact uμ11.tr (fj_Fit_fitAll_41 o a1 ih _ _ _ h)
theorem fm_Fit_fitAll {o : Nat} {a1 : Int32} {μ : Mem} {q : Bool × Mem} (h : m_Fit_fitAll o a1 μ = some q) : Un [501] μ q.2 := by
  unfold m_Fit_fitAll at h
  have uμ : Un [501] μ μ := Un.rf
  exact uμ.tr (fl_Fit_fitAll_7 o a1 FU _ _ _ _ h)
theorem fm_Ru_pop {μ : Mem} {q : Int32 × Mem} (h : m_Ru_pop  μ = some q) : Un [1903] μ q.2 := by
  unfold m_Ru_pop at h
  have uμ : Un [1903] μ μ := Un.rf
  rcases (Classical.em (0 < gI μ 9 (0) 3)) with hc | hc
  · rw [if_pos hc] at h
    obtain ⟨μ1, hμ1, h⟩ := ap_eq h
    have uμ1 : Un [1903] μ μ1 := uμ.tr (by rw [hμ1]; exact un_sI (Or.inr ⟨by decide, by simp⟩) (by simp <;> omega))
    obtain ⟨hi2, h⟩ := gu_some h
    obtain rfl := Option.some.inj h
    exact uμ1
  · rw [if_neg hc] at h
    obtain rfl := Option.some.inj h
    exact uμ
theorem fm_Ru_push {a1 : Int32} {μ : Mem} {q : Mem} (h : m_Ru_push a1 μ = some q) : Un [280, 1903] μ q := by
  unfold m_Ru_push at h
  have uμ : Un [280, 1903] μ μ := Un.rf
  rcases (Classical.em ((32 : Int32) ≤ gI μ 9 (0) 3)) with hc | hc
  · rw [if_pos hc] at h
    obtain rfl := Option.some.inj h
    exact uμ
  · rw [if_neg hc] at h
    obtain ⟨hi1, h⟩ := gu_some h
    obtain ⟨μ2, hμ2, h⟩ := ap_eq h
    have uμ2 : Un [280, 1903] μ μ2 := uμ.tr (by rw [hμ2]; exact un_sI (Or.inl (by simp)) (fun _ => by decide))
    obtain ⟨μ3, hμ3, h⟩ := ap_eq h
    have uμ3 : Un [280, 1903] μ μ3 := uμ2.tr (by rw [hμ3]; exact un_sI (Or.inr ⟨by decide, by simp⟩) (by simp <;> omega))
    obtain rfl := Option.some.inj h
    exact uμ3
theorem fm_Ru_changeTwo {μ : Mem} {q : Mem} (h : m_Ru_changeTwo  μ = some q) : Un [280, 1903] μ q := by
  unfold m_Ru_changeTwo at h
  have uμ : Un [280, 1903] μ μ := Un.rf
  obtain ⟨r1, hr1, h⟩ := bd_some h
  obtain ⟨μ2, hμ2, h⟩ := ap_eq h
  have uμ2 : Un [280, 1903] μ μ2 := by rw [hμ2]; exact uμ.tr ((fm_Ru_pop hr1).mono (by simp))
  obtain ⟨x3, hx3, h⟩ := ap_eq h
  obtain ⟨r4, hr4, h⟩ := bd_some h
  obtain ⟨μ5, hμ5, h⟩ := ap_eq h
  have uμ5 : Un [280, 1903] μ μ5 := by rw [hμ5]; exact uμ2.tr ((fm_Ru_pop hr4).mono (by simp))
  obtain ⟨x6, hx6, h⟩ := ap_eq h
  obtain ⟨r7, hr7, h⟩ := bd_some h
  have ur7 : Un [280, 1903] μ r7 := uμ5.tr ((fm_Ru_push hr7).mono (by simp))
  obtain ⟨r8, hr8, h⟩ := bd_some h
  have ur8 : Un [280, 1903] μ r8 := ur7.tr ((fm_Ru_push hr8).mono (by simp))
  obtain rfl := Option.some.inj h
  exact ur8
theorem fm_Ru_carry {a1 : Int32} {a2 : Int32} {μ : Mem} {q : Mem} (h : m_Ru_carry a1 a2 μ = some q) : Un [280, 281, 1903] μ q := by
  unfold m_Ru_carry at h
  have uμ : Un [280, 281, 1903] μ μ := Un.rf
  by_cases hk0 : a1 = (0 : Int32)
  · rw [if_pos hk0] at h
    obtain ⟨r1, hr1, h⟩ := bd_some h
    have ur1 : Un [280, 281, 1903] μ r1 := uμ.tr ((fm_Ru_push hr1).mono (by simp))
    obtain rfl := Option.some.inj h
    exact ur1
  rw [if_neg hk0] at h
  by_cases hk1 : a1 = (1 : Int32)
  · rw [if_pos hk1] at h
    obtain ⟨hi2, h⟩ := gu_some h
    obtain ⟨r3, hr3, h⟩ := bd_some h
    have ur3 : Un [280, 281, 1903] μ r3 := uμ.tr ((fm_Ru_push hr3).mono (by simp))
    obtain rfl := Option.some.inj h
    exact ur3
  rw [if_neg hk1] at h
  by_cases hk2 : a1 = (2 : Int32)
  · rw [if_pos hk2] at h
    obtain ⟨r4, hr4, h⟩ := bd_some h
    obtain ⟨μ5, hμ5, h⟩ := ap_eq h
    have uμ5 : Un [280, 281, 1903] μ μ5 := by rw [hμ5]; exact uμ.tr ((fm_Ru_pop hr4).mono (by simp))
    obtain ⟨x6, hx6, h⟩ := ap_eq h
    obtain rfl := Option.some.inj h
    exact uμ5
  rw [if_neg hk2] at h
  by_cases hk3 : a1 = (3 : Int32)
  · rw [if_pos hk3] at h
    obtain ⟨r7, hr7, h⟩ := bd_some h
    have ur7 : Un [280, 281, 1903] μ r7 := uμ.tr ((fm_Ru_changeTwo hr7).mono (by simp))
    obtain rfl := Option.some.inj h
    exact ur7
  rw [if_neg hk3] at h
  by_cases hk4 : a1 = (20 : Int32)
  · rw [if_pos hk4] at h
    obtain ⟨r8, hr8, h⟩ := bd_some h
    obtain ⟨μ9, hμ9, h⟩ := ap_eq h
    have uμ9 : Un [280, 281, 1903] μ μ9 := by rw [hμ9]; exact uμ.tr ((fm_Ru_pop hr8).mono (by simp))
    obtain ⟨x10, hx10, h⟩ := ap_eq h
    obtain ⟨hi11, h⟩ := gu_some h
    obtain ⟨μ12, hμ12, h⟩ := ap_eq h
    have uμ12 : Un [280, 281, 1903] μ μ12 := uμ9.tr (by rw [hμ12]; exact un_sI (Or.inl (by simp)) (fun _ => by decide))
    obtain rfl := Option.some.inj h
    exact uμ12
  rw [if_neg hk4] at h
  obtain ⟨hi13, h⟩ := gu_some h
  obtain ⟨r14, hr14, h⟩ := bd_some h
  have ur14 : Un [280, 281, 1903] μ r14 := uμ.tr ((fm_Ru_push hr14).mono (by simp))
  obtain rfl := Option.some.inj h
  exact ur14
theorem fj_Ru_go_19 (a1 : Int32) (a2 : Int32) (a3 : Int32) {q : Mem}  (μ : Mem) (h : mj_Ru_go_19 a1 a2 a3  μ = some q) : Un [282, 1903, 1904, 1905] μ q := by
  unfold mj_Ru_go_19 at h
  have uμ : Un [282, 1903, 1904, 1905] μ μ := Un.rf
  obtain ⟨μ1, hμ1, h⟩ := ap_eq h
  have uμ1 : Un [282, 1903, 1904, 1905] μ μ1 := uμ.tr (by rw [hμ1]; exact un_sI (Or.inr ⟨by decide, by simp⟩) (by simp <;> omega))
  obtain rfl := Option.some.inj h
  exact uμ1
theorem fj_Ru_go_115 (a1 : Int32) (a2 : Int32) (a3 : Int32) {q : Mem}  (μ : Mem) (h : mj_Ru_go_115 a1 a2 a3  μ = some q) : Un [282, 1903, 1904, 1905] μ q := by
  unfold mj_Ru_go_115 at h
  have uμ : Un [282, 1903, 1904, 1905] μ μ := Un.rf
  obtain ⟨μ2, hμ2, h⟩ := ap_eq h
  have uμ2 : Un [282, 1903, 1904, 1905] μ μ2 := uμ.tr (by rw [hμ2]; exact un_sI (Or.inr ⟨by decide, by simp⟩) (by simp <;> omega))
  obtain rfl := Option.some.inj h
  exact uμ2
theorem fj_Ru_go_103 (a1 : Int32) (a2 : Int32) (a3 : Int32) {q : Mem}  (μ : Mem) (h : mj_Ru_go_103 a1 a2 a3  μ = some q) : Un [282, 1903, 1904, 1905] μ q := by
  unfold mj_Ru_go_103 at h
  have uμ : Un [282, 1903, 1904, 1905] μ μ := Un.rf
  rcases (Classical.em (a1 = (19 : Int32))) with hc | hc
  · rw [if_pos hc] at h
    exact uμ.tr (fj_Ru_go_115 a1 a2 a3 _ h)
  · rw [if_neg hc] at h
    rcases (Classical.em (a1 = (30 : Int32))).symm with hc | hc
    · rw [if_neg hc] at h
      obtain rfl := Option.some.inj h
      exact uμ
    · rw [if_pos hc] at h
      exact uμ.tr (fj_Ru_go_115 a1 a2 a3 _ h)
theorem fj_Ru_go_27 (a1 : Int32) (a2 : Int32) (a3 : Int32) {q : Mem}  (μ : Mem) (h : mj_Ru_go_27 a1 a2 a3  μ = some q) : Un [282, 1903, 1904, 1905] μ q := by
  unfold mj_Ru_go_27 at h
  have uμ : Un [282, 1903, 1904, 1905] μ μ := Un.rf
  rcases (Classical.em (a1 = (18 : Int32))).symm with hc | hc
  · rw [if_neg hc] at h
    rcases (Classical.em (a1 = (19 : Int32))).symm with hc | hc
    · rw [if_neg hc] at h
      exact uμ.tr (fj_Ru_go_103 a1 a2 a3 _ h)
    · rw [if_pos hc] at h
      rcases (Classical.em (gI μ 9 (0) 4 ≤ 0)) with hc | hc
      · rw [if_pos hc] at h
        exact uμ.tr (fj_Ru_go_103 a1 a2 a3 _ h)
      · rw [if_neg hc] at h
        obtain ⟨μ3, hμ3, h⟩ := ap_eq h
        have uμ3 : Un [282, 1903, 1904, 1905] μ μ3 := uμ.tr (by rw [hμ3]; exact un_sI (Or.inr ⟨by decide, by simp⟩) (by simp <;> omega))
        obtain ⟨hi4, h⟩ := gu_some h
        obtain ⟨μ5, hμ5, h⟩ := ap_eq h
        have uμ5 : Un [282, 1903, 1904, 1905] μ μ5 := uμ3.tr (by rw [hμ5]; exact un_sI (Or.inr ⟨by decide, by simp⟩) (by simp <;> omega))
        obtain rfl := Option.some.inj h
        exact uμ5
  · rw [if_pos hc] at h
    obtain ⟨hi6, h⟩ := gu_some h
    obtain ⟨μ7, hμ7, h⟩ := ap_eq h
    have uμ7 : Un [282, 1903, 1904, 1905] μ μ7 := uμ.tr (by rw [hμ7]; exact un_sI (Or.inl (by simp)) (fun _ => by decide))
    obtain ⟨μ8, hμ8, h⟩ := ap_eq h
    have uμ8 : Un [282, 1903, 1904, 1905] μ μ8 := uμ7.tr (by rw [hμ8]; exact un_sI (Or.inr ⟨by decide, by simp⟩) (by simp <;> omega))
    obtain ⟨μ9, hμ9, h⟩ := ap_eq h
    have uμ9 : Un [282, 1903, 1904, 1905] μ μ9 := uμ8.tr (by rw [hμ9]; exact un_sI (Or.inr ⟨by decide, by simp⟩) (by simp <;> omega))
    obtain rfl := Option.some.inj h
    exact uμ9
theorem fm_Ru_go {a1 : Int32} {a2 : Int32} {a3 : Int32} {μ : Mem} {q : Mem} (h : m_Ru_go a1 a2 a3 μ = some q) : Un [282, 1903, 1904, 1905] μ q := by
  unfold m_Ru_go at h
  have uμ : Un [282, 1903, 1904, 1905] μ μ := Un.rf
  rcases (Classical.em (a1 = (16 : Int32))) with hc | hc
  · rw [if_pos hc] at h
    exact uμ.tr (fj_Ru_go_19 a1 a2 a3 _ h)
  · rw [if_neg hc] at h
    rcases (Classical.em (a1 = (17 : Int32))).symm with hc | hc
    · rw [if_neg hc] at h
      exact uμ.tr (fj_Ru_go_27 a1 a2 a3 _ h)
    · rw [if_pos hc] at h
      obtain ⟨r10, hr10, h⟩ := bd_some h
      obtain ⟨μ11, hμ11, h⟩ := ap_eq h
      have uμ11 : Un [282, 1903, 1904, 1905] μ μ11 := by rw [hμ11]; exact uμ.tr ((fm_Ru_pop hr10).mono (by simp))
      obtain ⟨x12, hx12, h⟩ := ap_eq h
      rcases (Classical.em (x12 = 0)).symm with hc | hc
      · rw [if_neg hc] at h
        exact uμ11.tr (fj_Ru_go_27 a1 a2 a3 _ h)
      · rw [if_pos hc] at h
        exact uμ11.tr (fj_Ru_go_19 a1 a2 a3 _ h)
theorem fm_Ru_pushNumber {a1 : Int64} {μ : Mem} {q : Int32 × Mem} (h : m_Ru_pushNumber a1 μ = some q) : Un [280, 1903] μ q.2 := by
  unfold m_Ru_pushNumber at h
  have uμ : Un [280, 1903] μ μ := Un.rf
  rcases bcase_t ((m_Fo_within (a1) ((-1000000000 : Int64)) ((1000000000 : Int64)) μ)) with hb | hb
  · rw [iB_t hb] at h
    obtain ⟨r1, hr1, h⟩ := bd_some h
    have ur1 : Un [280, 1903] μ r1 := uμ.tr ((fm_Ru_push hr1).mono (by simp))
    obtain rfl := Option.some.inj h
    exact ur1
  · rw [iB_f hb] at h
    obtain rfl := Option.some.inj h
    exact uμ
theorem fm_Ru_reckonTwo {a1 : Int32} {μ : Mem} {q : Int32 × Mem} (h : m_Ru_reckonTwo a1 μ = some q) : Un [280, 1903] μ q.2 := by
  unfold m_Ru_reckonTwo at h
  have uμ : Un [280, 1903] μ μ := Un.rf
  obtain ⟨r1, hr1, h⟩ := bd_some h
  obtain ⟨μ2, hμ2, h⟩ := ap_eq h
  have uμ2 : Un [280, 1903] μ μ2 := by rw [hμ2]; exact uμ.tr ((fm_Ru_pop hr1).mono (by simp))
  obtain ⟨x3, hx3, h⟩ := ap_eq h
  obtain ⟨x4, hx4, h⟩ := ap_eq h
  obtain ⟨r5, hr5, h⟩ := bd_some h
  obtain ⟨μ6, hμ6, h⟩ := ap_eq h
  have uμ6 : Un [280, 1903] μ μ6 := by rw [hμ6]; exact uμ2.tr ((fm_Ru_pop hr5).mono (by simp))
  obtain ⟨x7, hx7, h⟩ := ap_eq h
  obtain ⟨x8, hx8, h⟩ := ap_eq h
  obtain ⟨r9, hr9, h⟩ := bd_some h
  obtain ⟨r10, hr10, h⟩ := bd_some h
  obtain ⟨μ11, hμ11, h⟩ := ap_eq h
  have uμ11 : Un [280, 1903] μ μ11 := by rw [hμ11]; exact uμ6.tr ((fm_Ru_pushNumber hr10).mono (by simp))
  obtain ⟨x12, hx12, h⟩ := ap_eq h
  obtain rfl := Option.some.inj h
  exact uμ11
theorem fm_Fit_touch {o : Nat} {a1 : Int32} {a2 : Int32} {a3 : Int32} {μ : Mem} {q : Mem} (h : m_Fit_touch o a1 a2 a3 μ = some q) : Un [501, 502] μ q := by
  unfold m_Fit_touch at h
  have uμ : Un [501, 502] μ μ := Un.rf
  obtain ⟨hi1, h⟩ := gu_some h
  obtain ⟨hi2, h⟩ := gu_some h
  obtain ⟨μ3, hμ3, h⟩ := ap_eq h
  have uμ3 : Un [501, 502] μ μ3 := uμ.tr (by rw [hμ3]; exact un_sI (Or.inl (by simp)) (fun _ => by decide))
  obtain ⟨hi4, h⟩ := gu_some h
  obtain ⟨hi5, h⟩ := gu_some h
  obtain ⟨μ6, hμ6, h⟩ := ap_eq h
  have uμ6 : Un [501, 502] μ μ6 := uμ3.tr (by rw [hμ6]; exact un_sI (Or.inl (by simp)) (fun _ => by decide))
  obtain rfl := Option.some.inj h
  exact uμ6
theorem fm_Ru_usePoint {a1 : Int32} {a2 : Int32} {a3 : Nat} {μ : Mem} {q : Mem} (h : m_Ru_usePoint a1 a2 a3 μ = some q) : Un [280, 501, 502, 1903] μ q := by
  unfold m_Ru_usePoint at h
  have uμ : Un [280, 501, 502, 1903] μ μ := Un.rf
  by_cases hk0 : a1 = (22 : Int32)
  · rw [if_pos hk0] at h
    obtain ⟨hi1, h⟩ := gu_some h
    obtain ⟨hi2, h⟩ := gu_some h
    obtain ⟨r3, hr3, h⟩ := bd_some h
    have ur3 : Un [280, 501, 502, 1903] μ r3 := uμ.tr ((fm_Ru_push hr3).mono (by simp))
    obtain rfl := Option.some.inj h
    exact ur3
  rw [if_neg hk0] at h
  by_cases hk1 : a1 = (23 : Int32)
  · rw [if_pos hk1] at h
    obtain ⟨r4, hr4, h⟩ := bd_some h
    obtain ⟨μ5, hμ5, h⟩ := ap_eq h
    have uμ5 : Un [280, 501, 502, 1903] μ μ5 := by rw [hμ5]; exact uμ.tr ((fm_Ru_pop hr4).mono (by simp))
    obtain ⟨x6, hx6, h⟩ := ap_eq h
    obtain ⟨r7, hr7, h⟩ := bd_some h
    have ur7 : Un [280, 501, 502, 1903] μ r7 := uμ5.tr ((fm_Fit_touch hr7).mono (by simp))
    obtain rfl := Option.some.inj h
    exact ur7
  rw [if_neg hk1] at h
  by_cases hk2 : a1 = (24 : Int32)
  · rw [if_pos hk2] at h
    obtain ⟨hi8, h⟩ := gu_some h
    obtain ⟨hi9, h⟩ := gu_some h
    obtain ⟨r10, hr10, h⟩ := bd_some h
    have ur10 : Un [280, 501, 502, 1903] μ r10 := uμ.tr ((fm_Ru_push hr10).mono (by simp))
    obtain rfl := Option.some.inj h
    exact ur10
  rw [if_neg hk2] at h
  by_cases hk3 : a1 = (25 : Int32)
  · rw [if_pos hk3] at h
    obtain ⟨r11, hr11, h⟩ := bd_some h
    obtain ⟨μ12, hμ12, h⟩ := ap_eq h
    have uμ12 : Un [280, 501, 502, 1903] μ μ12 := by rw [hμ12]; exact uμ.tr ((fm_Ru_pop hr11).mono (by simp))
    obtain ⟨x13, hx13, h⟩ := ap_eq h
    obtain ⟨r14, hr14, h⟩ := bd_some h
    have ur14 : Un [280, 501, 502, 1903] μ r14 := uμ12.tr ((fm_Fit_touch hr14).mono (by simp))
    obtain rfl := Option.some.inj h
    exact ur14
  rw [if_neg hk3] at h
  by_cases hk4 : a1 = (26 : Int32)
  · rw [if_pos hk4] at h
    obtain ⟨hi15, h⟩ := gu_some h
    obtain ⟨hi16, h⟩ := gu_some h
    obtain ⟨r17, hr17, h⟩ := bd_some h
    obtain ⟨r18, hr18, h⟩ := bd_some h
    have ur18 : Un [280, 501, 502, 1903] μ r18 := uμ.tr ((fm_Fit_touch hr18).mono (by simp))
    obtain rfl := Option.some.inj h
    exact ur18
  rw [if_neg hk4] at h
  obtain ⟨hi19, h⟩ := gu_some h
  obtain ⟨hi20, h⟩ := gu_some h
  obtain ⟨r21, hr21, h⟩ := bd_some h
  obtain ⟨r22, hr22, h⟩ := bd_some h
  have ur22 : Un [280, 501, 502, 1903] μ r22 := uμ.tr ((fm_Fit_touch hr22).mono (by simp))
  obtain rfl := Option.some.inj h
  exact ur22
theorem fj_Ru_step_70 (a1 : Nat) (a2 : Nat) {q : Int32 × Mem}  (y3 : Int32) (y4 : Int32) (μ : Mem) (h : mj_Ru_step_70 a1 a2 y3 y4 μ = some q) : Un [280, 281, 282, 501, 502, 1903, 1904, 1905] μ q.2 := by
  unfold mj_Ru_step_70 at h
  have uμ : Un [280, 281, 282, 501, 502, 1903, 1904, 1905] μ μ := Un.rf
  obtain ⟨r7, hr7, h⟩ := bd_some h
  have ur7 : Un [280, 281, 282, 501, 502, 1903, 1904, 1905] μ r7 := uμ.tr ((fm_Ru_carry hr7).mono (by simp))
  obtain rfl := Option.some.inj h
  exact ur7
theorem fj_Ru_step_128 (a1 : Nat) (a2 : Nat) {q : Int32 × Mem}  (y3 : Int32) (y4 : Int32) (μ : Mem) (h : mj_Ru_step_128 a1 a2 y3 y4 μ = some q) : Un [280, 281, 282, 501, 502, 1903, 1904, 1905] μ q.2 := by
  unfold mj_Ru_step_128 at h
  have uμ : Un [280, 281, 282, 501, 502, 1903, 1904, 1905] μ μ := Un.rf
  obtain ⟨r8, hr8, h⟩ := bd_some h
  have ur8 : Un [280, 281, 282, 501, 502, 1903, 1904, 1905] μ r8 := uμ.tr ((fm_Ru_go hr8).mono (by simp))
  obtain rfl := Option.some.inj h
  exact ur8
theorem fm_Ru_step {a1 : Nat} {a2 : Nat} {μ : Mem} {q : Int32 × Mem} (h : m_Ru_step a1 a2 μ = some q) : Un [280, 281, 282, 501, 502, 1903, 1904, 1905] μ q.2 := by
  unfold m_Ru_step at h
  have uμ : Un [280, 281, 282, 501, 502, 1903, 1904, 1905] μ μ := Un.rf
  obtain ⟨hi1, h⟩ := gu_some h
  obtain ⟨x2, hx2, h⟩ := ap_eq h
  obtain ⟨hi3, h⟩ := gu_some h
  obtain ⟨x4, hx4, h⟩ := ap_eq h
  obtain ⟨r5, hr5, h⟩ := bd_some h
  rcases (Classical.em (r5 = 0)) with hc | hc
  · rw [if_pos hc] at h
    obtain ⟨μ6, hμ6, h⟩ := ap_eq h
    have uμ6 : Un [280, 281, 282, 501, 502, 1903, 1904, 1905] μ μ6 := uμ.tr (by rw [hμ6]; exact un_sI (Or.inr ⟨by decide, by simp⟩) (by simp <;> omega))
    rcases (Classical.em (x2 ≤ (3 : Int32))) with hc | hc
    · rw [if_pos hc] at h
      exact uμ6.tr (fj_Ru_step_70 a1 a2 _ _ _ h)
    · rw [if_neg hc] at h
      rcases (Classical.em (x2 = (20 : Int32))) with hc | hc
      · rw [if_pos hc] at h
        exact uμ6.tr (fj_Ru_step_70 a1 a2 _ _ _ h)
      · rw [if_neg hc] at h
        rcases (Classical.em (x2 = (21 : Int32))).symm with hc | hc
        · rw [if_neg hc] at h
          rcases (Classical.em ((15 : Int32) < x2)) with hc | hc
          · rw [if_pos hc] at h
            rcases (Classical.em (x2 ≤ (19 : Int32))) with hc | hc
            · rw [if_pos hc] at h
              exact uμ6.tr (fj_Ru_step_128 a1 a2 _ _ _ h)
            · rw [if_neg hc] at h
              rcases (Classical.em (x2 = (30 : Int32))).symm with hc | hc
              · rw [if_neg hc] at h
                rcases (Classical.em ((27 : Int32) < x2)) with hc | hc
                · rw [if_pos hc] at h
                  obtain ⟨r9, hr9, h⟩ := bd_some h
                  obtain ⟨μ10, hμ10, h⟩ := ap_eq h
                  have uμ10 : Un [280, 281, 282, 501, 502, 1903, 1904, 1905] μ μ10 := by rw [hμ10]; exact uμ6.tr ((fm_Fit_fitAll hr9).mono (by simp))
                  rcases bcase_f (r9.1) with hb | hb
                  · rw [iB_f hb] at h
                    obtain rfl := Option.some.inj h
                    exact uμ10
                  · rw [iB_t hb] at h
                    obtain rfl := Option.some.inj h
                    exact uμ10
                · rw [if_neg hc] at h
                  obtain ⟨r11, hr11, h⟩ := bd_some h
                  have ur11 : Un [280, 281, 282, 501, 502, 1903, 1904, 1905] μ r11 := uμ6.tr ((fm_Ru_usePoint hr11).mono (by simp))
                  obtain rfl := Option.some.inj h
                  exact ur11
              · rw [if_pos hc] at h
                exact uμ6.tr (fj_Ru_step_128 a1 a2 _ _ _ h)
          · rw [if_neg hc] at h
            obtain ⟨hi12, h⟩ := gu_some h
            rcases (Classical.em (takes x2.toNatClampNeg = (1 : Int32))).symm with hc | hc
            · rw [if_neg hc] at h
              obtain ⟨r13, hr13, h⟩ := bd_some h
              obtain ⟨μ14, hμ14, h⟩ := ap_eq h
              have uμ14 : Un [280, 281, 282, 501, 502, 1903, 1904, 1905] μ μ14 := by rw [hμ14]; exact uμ6.tr ((fm_Ru_reckonTwo hr13).mono (by simp))
              obtain ⟨x15, hx15, h⟩ := ap_eq h
              obtain rfl := Option.some.inj h
              exact uμ14
            · rw [if_pos hc] at h
              obtain ⟨r16, hr16, h⟩ := bd_some h
              obtain ⟨μ17, hμ17, h⟩ := ap_eq h
              have uμ17 : Un [280, 281, 282, 501, 502, 1903, 1904, 1905] μ μ17 := by rw [hμ17]; exact uμ6.tr ((fm_Ru_pop hr16).mono (by simp))
              obtain ⟨x18, hx18, h⟩ := ap_eq h
              obtain ⟨r19, hr19, h⟩ := bd_some h
              obtain ⟨r20, hr20, h⟩ := bd_some h
              obtain ⟨μ21, hμ21, h⟩ := ap_eq h
              have uμ21 : Un [280, 281, 282, 501, 502, 1903, 1904, 1905] μ μ21 := by rw [hμ21]; exact uμ17.tr ((fm_Ru_pushNumber hr20).mono (by simp))
              obtain ⟨x22, hx22, h⟩ := ap_eq h
              obtain rfl := Option.some.inj h
              exact uμ21
        · rw [if_pos hc] at h
          exact uμ6.tr (fj_Ru_step_70 a1 a2 _ _ _ h)
  · rw [if_neg hc] at h
    obtain rfl := Option.some.inj h
    exact uμ
theorem fl_Ru_perform_25 (a1 : Nat) (a2 : Nat) {q : Int32 × Mem} {c_75 : Mem → Option (Int32 × Mem)} (hf_75 : ∀ (μ : Mem), c_75  μ = some q → Un [280, 281, 282, 501, 502, 1903, 1904, 1905] μ q.2) : ∀ (n : Nat) (y3 : Int32) (μ : Mem), lp_Ru_perform_25 a1 a2 c_75 n y3 μ = some q → Un [280, 281, 282, 501, 502, 1903, 1904, 1905] μ q.2 := by
  intro n
  induction n with
  | zero => intro _ _ h; cases h
  | succ n ih =>
    intro y3 μ h
    unfold lp_Ru_perform_25 at h
    have uμ : Un [280, 281, 282, 501, 502, 1903, 1904, 1905] μ μ := Un.rf
    rcases (Classical.em ((1000 : Int32) ≤ y3)) with hc | hc
    · rw [if_pos hc] at h
      exact uμ.tr (hf_75 _ h)
    · rw [if_neg hc] at h
      rcases bcase_t ((m_Fo_within ((gI μ 9 (0) 5).toInt64) ((0 : Int64)) (((gI μ 8 (a1) 2) - ((1 : Int32))).toInt64) μ)) with hb | hb
      · rw [iB_t hb] at h
        obtain ⟨r9, hr9, h⟩ := bd_some h
        obtain ⟨μ10, hμ10, h⟩ := ap_eq h
        have uμ10 : Un [280, 281, 282, 501, 502, 1903, 1904, 1905] μ μ10 := by rw [hμ10]; exact uμ.tr ((fm_Ru_step hr9).mono (by simp))
        obtain ⟨x11, hx11, h⟩ := ap_eq h
        rcases (Classical.em (x11 = 0)) with hc | hc
        · rw [if_pos hc] at h
          obtain ⟨x12, hx12, h⟩ := ap_eq h
          exact uμ10.tr (ih _ _ h)
        · rw [if_neg hc] at h
          obtain rfl := Option.some.inj h
          exact uμ10
      · rw [iB_f hb] at h
        obtain rfl := Option.some.inj h
        exact uμ
theorem fj_Ru_perform_75 (a1 : Nat) (a2 : Nat) {q : Int32 × Mem}  (μ : Mem) (h : mj_Ru_perform_75 a1 a2  μ = some q) : Un [280, 281, 282, 501, 502, 1903, 1904, 1905] μ q.2 := by
  unfold mj_Ru_perform_75 at h
  have uμ : Un [280, 281, 282, 501, 502, 1903, 1904, 1905] μ μ := Un.rf
  rcases (Classical.em (gI μ 8 (a1) 2 ≤ gI μ 9 (0) 5)) with hc | hc
  · rw [if_pos hc] at h
    obtain rfl := Option.some.inj h
    exact uμ
  · rw [if_neg hc] at h
    obtain rfl := Option.some.inj h
    exact uμ
theorem fm_Ru_perform {a1 : Nat} {a2 : Nat} {μ : Mem} {q : Int32 × Mem} (h : m_Ru_perform a1 a2 μ = some q) : Un [280, 281, 282, 501, 502, 1903, 1904, 1905] μ q.2 := by
  unfold m_Ru_perform at h
  have uμ : Un [280, 281, 282, 501, 502, 1903, 1904, 1905] μ μ := Un.rf
  obtain ⟨r1, hr1, h⟩ := bd_some h
  have ur1 : Un [280, 281, 282, 501, 502, 1903, 1904, 1905] μ r1 := uμ.tr ((fm_Ar_fill (by decide) hr1).mono (by simp))
  obtain ⟨μ2, hμ2, h⟩ := ap_eq h
  have uμ2 : Un [280, 281, 282, 501, 502, 1903, 1904, 1905] μ μ2 := ur1.tr (by rw [hμ2]; exact un_sI (Or.inr ⟨by decide, by simp⟩) (by simp <;> omega))
  obtain ⟨μ3, hμ3, h⟩ := ap_eq h
  have uμ3 : Un [280, 281, 282, 501, 502, 1903, 1904, 1905] μ μ3 := uμ2.tr (by rw [hμ3]; exact un_sI (Or.inr ⟨by decide, by simp⟩) (by simp <;> omega))
  obtain ⟨μ4, hμ4, h⟩ := ap_eq h
  have uμ4 : Un [280, 281, 282, 501, 502, 1903, 1904, 1905] μ μ4 := uμ3.tr (by rw [hμ4]; exact un_sI (Or.inr ⟨by decide, by simp⟩) (by simp <;> omega))
  exact uμ4.tr (fl_Ru_perform_25 a1 a2 (fun _ h => fj_Ru_perform_75 a1 a2 _ h) FU _ _ h)
theorem fm_Fo_run {a1 : Int32} {a2 : Int32} {μ : Mem} {q : Int32 × Mem} (h : m_Fo_run a1 a2 μ = some q) : Un [103, 280, 281, 282, 500, 501, 502, 1004, 1005, 1903, 1904, 1905, 2107, 2108] μ q.2 := by
  unfold m_Fo_run at h
  have uμ : Un [103, 280, 281, 282, 500, 501, 502, 1004, 1005, 1903, 1904, 1905, 2107, 2108] μ μ := Un.rf
  obtain ⟨r1, hr1, h⟩ := bd_some h
  rcases ocase_n r1 with ho | ⟨y2, ho⟩
  · subst ho
    rw [oc_none] at h
    obtain rfl := Option.some.inj h
    exact uμ
  · subst ho
    rw [oc_some] at h
    rcases (Classical.em (0 < gI μ 4 (y2) 5)) with hc | hc
    · rw [if_pos hc] at h
      obtain rfl := Option.some.inj h
      exact uμ
    · rw [if_neg hc] at h
      rcases bcase_t ((m_Fo_isDots (a2) μ)) with hb | hb
      · rw [iB_t hb] at h
        obtain ⟨o3, ho3, h⟩ := ap_eq h
        replace h := bd_some h
        obtain ⟨y4, hy4, h⟩ := h
        subst hy4
        obtain ⟨r5, hr5, h⟩ := bd_some h
        have ur5 : Un [103, 280, 281, 282, 500, 501, 502, 1004, 1005, 1903, 1904, 1905, 2107, 2108] μ r5 := uμ.tr ((fm_Fit_start hr5).mono (by simp))
        obtain ⟨o6, ho6, h⟩ := ap_eq h
        replace h := bd_some h
        obtain ⟨y7, hy7, h⟩ := h
        subst hy7
        obtain ⟨r8, hr8, h⟩ := bd_some h
        obtain ⟨μ9, hμ9, h⟩ := ap_eq h
        have uμ9 : Un [103, 280, 281, 282, 500, 501, 502, 1004, 1005, 1903, 1904, 1905, 2107, 2108] μ μ9 := by rw [hμ9]; exact ur5.tr ((fm_Ru_perform hr8).mono (by simp))
        obtain ⟨x10, hx10, h⟩ := ap_eq h
        rcases (Classical.em (x10 = 0)).symm with hc | hc
        · rw [if_neg hc] at h
          obtain rfl := Option.some.inj h
          exact uμ9
        · rw [if_pos hc] at h
          obtain ⟨o11, ho11, h⟩ := ap_eq h
          obtain ⟨o12, ho12, h⟩ := ap_eq h
          obtain ⟨μ13, hμ13, h⟩ := ap_eq h
          have uμ13 : Un [103, 280, 281, 282, 500, 501, 502, 1004, 1005, 1903, 1904, 1905, 2107, 2108] μ μ13 := uμ9.tr (by rw [hμ13]; exact un_sR (Or.inr ⟨by decide, by simp⟩) (by simp <;> omega))
          obtain ⟨μ14, hμ14, h⟩ := ap_eq h
          have uμ14 : Un [103, 280, 281, 282, 500, 501, 502, 1004, 1005, 1903, 1904, 1905, 2107, 2108] μ μ14 := uμ13.tr (by rw [hμ14]; exact un_sR (Or.inr ⟨by decide, by simp⟩) (by simp <;> omega))
          obtain rfl := Option.some.inj h
          exact uμ14
      · rw [iB_f hb] at h
        obtain rfl := Option.some.inj h
        exact uμ
theorem fm_Fo_delta {a1 : Int32} {a2 : Int32} {a3 : Int32} {a4 : Int32} {a5 : Int32} {μ : Mem} {q : Bool × Mem} (h : m_Fo_delta a1 a2 a3 a4 a5 μ = some q) : Un [703, 704] μ q.2 := by
  unfold m_Fo_delta at h
  have uμ : Un [703, 704] μ μ := Un.rf
  obtain ⟨r1, hr1, h⟩ := bd_some h
  rcases ocase_n r1 with ho | ⟨y2, ho⟩
  · subst ho
    rw [oc_none] at h
    obtain rfl := Option.some.inj h
    exact uμ
  · subst ho
    rw [oc_some] at h
    rcases bcase_f ((m_Fo_isMaster (a2) μ)) with hb | hb
    · rw [iB_f hb] at h
      obtain rfl := Option.some.inj h
      exact uμ
    · rw [iB_t hb] at h
      obtain ⟨r3, hr3, h⟩ := bd_some h
      rcases bcase_t (r3) with hb | hb
      · rw [iB_t hb] at h
        rcases bcase_f ((m_Fo_isBy (a4) μ)) with hb | hb
        · rw [iB_f hb] at h
          obtain rfl := Option.some.inj h
          exact uμ
        · rw [iB_t hb] at h
          rcases bcase_t ((m_Fo_isBy (a5) μ)) with hb | hb
          · rw [iB_t hb] at h
            obtain ⟨hi4, h⟩ := gu_some h
            obtain ⟨hi5, h⟩ := gu_some h
            obtain ⟨μ6, hμ6, h⟩ := ap_eq h
            have uμ6 : Un [703, 704] μ μ6 := uμ.tr (by rw [hμ6]; exact un_sI (Or.inl (by simp)) (fun _ => by decide))
            obtain ⟨hi7, h⟩ := gu_some h
            obtain ⟨hi8, h⟩ := gu_some h
            obtain ⟨μ9, hμ9, h⟩ := ap_eq h
            have uμ9 : Un [703, 704] μ μ9 := uμ6.tr (by rw [hμ9]; exact un_sI (Or.inl (by simp)) (fun _ => by decide))
            obtain rfl := Option.some.inj h
            exact uμ9
          · rw [iB_f hb] at h
            obtain rfl := Option.some.inj h
            exact uμ
      · rw [iB_f hb] at h
        obtain rfl := Option.some.inj h
        exact uμ
theorem fm_Fo_weight {a1 : Int32} {a2 : Int32} {μ : Mem} {q : Bool × Mem} (h : m_Fo_weight a1 a2 μ = some q) : Un [329] μ q.2 := by
  unfold m_Fo_weight at h
  have uμ : Un [329] μ μ := Un.rf
  rcases bcase_f ((m_Fo_isMaster (a1) μ)) with hb | hb
  · rw [iB_f hb] at h
    obtain rfl := Option.some.inj h
    exact uμ
  · rw [iB_t hb] at h
    rcases bcase_t ((m_Fo_isShort (a2) μ)) with hb | hb
    · rw [iB_t hb] at h
      obtain ⟨hi1, h⟩ := gu_some h
      obtain ⟨μ2, hμ2, h⟩ := ap_eq h
      have uμ2 : Un [329] μ μ2 := uμ.tr (by rw [hμ2]; exact un_sI (Or.inl (by simp)) (fun _ => by decide))
      obtain rfl := Option.some.inj h
      exact uμ2
    · rw [iB_f hb] at h
      obtain rfl := Option.some.inj h
      exact uμ
theorem fm_Fo_classOf {a1 : Int32} {a2 : Int32} {a3 : Int32} {μ : Mem} {q : Bool × Mem} (h : m_Fo_classOf a1 a2 a3 μ = some q) : Un [1408, 1409] μ q.2 := by
  unfold m_Fo_classOf at h
  have uμ : Un [1408, 1409] μ μ := Un.rf
  obtain ⟨r1, hr1, h⟩ := bd_some h
  rcases ocase_n r1 with ho | ⟨y2, ho⟩
  · subst ho
    rw [oc_none] at h
    obtain rfl := Option.some.inj h
    exact uμ
  · subst ho
    rw [oc_some] at h
    rcases bcase_f ((m_Fo_within ((a2).toInt64) ((0 : Int64)) ((1 : Int64)) μ)) with hb | hb
    · rw [iB_f hb] at h
      obtain rfl := Option.some.inj h
      exact uμ
    · rw [iB_t hb] at h
      rcases bcase_t ((m_Fo_isClass (a3) μ)) with hb | hb
      · rw [iB_t hb] at h
        rcases (Classical.em (a2 = 0)).symm with hc | hc
        · rw [if_neg hc] at h
          obtain ⟨μ3, hμ3, h⟩ := ap_eq h
          have uμ3 : Un [1408, 1409] μ μ3 := uμ.tr (by rw [hμ3]; exact un_sI (Or.inr ⟨by decide, by simp⟩) (by simp <;> omega))
          obtain rfl := Option.some.inj h
          exact uμ3
        · rw [if_pos hc] at h
          obtain ⟨μ4, hμ4, h⟩ := ap_eq h
          have uμ4 : Un [1408, 1409] μ μ4 := uμ.tr (by rw [hμ4]; exact un_sI (Or.inr ⟨by decide, by simp⟩) (by simp <;> omega))
          obtain rfl := Option.some.inj h
          exact uμ4
      · rw [iB_f hb] at h
        obtain rfl := Option.some.inj h
        exact uμ
theorem fm_Fo_kern {a1 : Int32} {a2 : Int32} {a3 : Int32} {μ : Mem} {q : Bool × Mem} (h : m_Fo_kern a1 a2 a3 μ = some q) : Un [560] μ q.2 := by
  unfold m_Fo_kern at h
  have uμ : Un [560] μ μ := Un.rf
  rcases bcase_f ((m_Fo_isClass (a1) μ)) with hb | hb
  · rw [iB_f hb] at h
    obtain rfl := Option.some.inj h
    exact uμ
  · rw [iB_t hb] at h
    rcases bcase_f ((m_Fo_isClass (a2) μ)) with hb | hb
    · rw [iB_f hb] at h
      obtain rfl := Option.some.inj h
      exact uμ
    · rw [iB_t hb] at h
      rcases bcase_t ((m_Fo_isBy (a3) μ)) with hb | hb
      · rw [iB_t hb] at h
        obtain ⟨hi1, h⟩ := gu_some h
        obtain ⟨hi2, h⟩ := gu_some h
        obtain ⟨μ3, hμ3, h⟩ := ap_eq h
        have uμ3 : Un [560] μ μ3 := uμ.tr (by rw [hμ3]; exact un_sI (Or.inl (by simp)) (fun _ => by decide))
        obtain rfl := Option.some.inj h
        exact uμ3
      · rw [iB_f hb] at h
        obtain rfl := Option.some.inj h
        exact uμ
theorem fj_Fo_exception_34 (a1 : Int32) (a2 : Int32) (a3 : Int32) {q : Bool × Mem}  (μ : Mem) (h : mj_Fo_exception_34 a1 a2 a3  μ = some q) : Un [561] μ q.2 := by
  unfold mj_Fo_exception_34 at h
  have uμ : Un [561] μ μ := Un.rf
  obtain ⟨hi5, h⟩ := gu_some h
  obtain ⟨hi6, h⟩ := gu_some h
  obtain ⟨μ7, hμ7, h⟩ := ap_eq h
  have uμ7 : Un [561] μ μ7 := uμ.tr (by rw [hμ7]; exact un_sI (Or.inl (by simp)) (fun _ => by decide))
  obtain rfl := Option.some.inj h
  exact uμ7
theorem fm_Fo_exception {a1 : Int32} {a2 : Int32} {a3 : Int32} {μ : Mem} {q : Bool × Mem} (h : m_Fo_exception a1 a2 a3 μ = some q) : Un [561] μ q.2 := by
  unfold m_Fo_exception at h
  have uμ : Un [561] μ μ := Un.rf
  obtain ⟨r1, hr1, h⟩ := bd_some h
  rcases ocase_n r1 with ho | ⟨y2, ho⟩
  · subst ho
    rw [oc_none] at h
    obtain rfl := Option.some.inj h
    exact uμ
  · subst ho
    rw [oc_some] at h
    obtain ⟨r3, hr3, h⟩ := bd_some h
    rcases ocase_s r3 with ⟨y4, ho⟩ | ho
    · subst ho
      rw [oc_some] at h
      rcases bcase_t ((m_Fo_isBy (a3) μ)) with hb | hb
      · rw [iB_t hb] at h
        exact uμ.tr (fj_Fo_exception_34 a1 a2 a3 _ h)
      · rw [iB_f hb] at h
        rcases (Classical.em (a3 = (10000 : Int32))) with hc | hc
        · rw [if_pos hc] at h
          exact uμ.tr (fj_Fo_exception_34 a1 a2 a3 _ h)
        · rw [if_neg hc] at h
          obtain rfl := Option.some.inj h
          exact uμ
    · subst ho
      rw [oc_none] at h
      obtain rfl := Option.some.inj h
      exact uμ
theorem fm_Li_addRule {a1 : Int32} {a2 : Int32} {a3 : Int32} {a4 : Int32} {μ : Mem} {q : Int32 × Mem} (h : m_Li_addRule a1 a2 a3 a4 μ = some q) : Un [201, 600, 1502] μ q.2 := by
  unfold m_Li_addRule at h
  have uμ : Un [201, 600, 1502] μ μ := Un.rf
  rcases (Classical.em (gI μ 5 (0) 2 < (40 : Int32))) with hc | hc
  · rw [if_pos hc] at h
    obtain ⟨hi1, h⟩ := gu_some h
    obtain ⟨hi2, h⟩ := gu_some h
    obtain ⟨μ3, hμ3, h⟩ := ap_eq h
    have uμ3 : Un [201, 600, 1502] μ μ3 := uμ.tr (by rw [hμ3]; exact un_sI (Or.inl (by simp)) (fun _ => by decide))
    obtain ⟨hi4, h⟩ := gu_some h
    obtain ⟨hi5, h⟩ := gu_some h
    obtain ⟨μ6, hμ6, h⟩ := ap_eq h
    have uμ6 : Un [201, 600, 1502] μ μ6 := uμ3.tr (by rw [hμ6]; exact un_sI (Or.inl (by simp)) (fun _ => by decide))
    obtain ⟨hi7, h⟩ := gu_some h
    obtain ⟨hi8, h⟩ := gu_some h
    obtain ⟨μ9, hμ9, h⟩ := ap_eq h
    have uμ9 : Un [201, 600, 1502] μ μ9 := uμ6.tr (by rw [hμ9]; exact un_sI (Or.inl (by simp)) (fun _ => by decide))
    obtain ⟨hi10, h⟩ := gu_some h
    obtain ⟨μ11, hμ11, h⟩ := ap_eq h
    have uμ11 : Un [201, 600, 1502] μ μ11 := uμ9.tr (by rw [hμ11]; exact un_sI (Or.inl (by simp)) (fun _ => by decide))
    obtain ⟨μ12, hμ12, h⟩ := ap_eq h
    have uμ12 : Un [201, 600, 1502] μ μ12 := uμ11.tr (by rw [hμ12]; exact un_sI (Or.inr ⟨by decide, by simp⟩) (by simp <;> omega))
    obtain rfl := Option.some.inj h
    exact uμ12
  · rw [if_neg hc] at h
    obtain rfl := Option.some.inj h
    exact uμ
theorem fj_Fo_join_36 (a1 : Int32) (a2 : Int32) (a3 : Int32) (a4 : Int32) {q : Int32 × Mem}  (μ : Mem) (h : mj_Fo_join_36 a1 a2 a3 a4  μ = some q) : Un [201, 600, 1502] μ q.2 := by
  unfold mj_Fo_join_36 at h
  have uμ : Un [201, 600, 1502] μ μ := Un.rf
  obtain ⟨r1, hr1, h⟩ := bd_some h
  obtain ⟨μ2, hμ2, h⟩ := ap_eq h
  have uμ2 : Un [201, 600, 1502] μ μ2 := by rw [hμ2]; exact uμ.tr ((fm_Li_addRule hr1).mono (by simp))
  obtain ⟨x3, hx3, h⟩ := ap_eq h
  obtain rfl := Option.some.inj h
  exact uμ2
theorem fm_Fo_join {a1 : Int32} {a2 : Int32} {a3 : Int32} {a4 : Int32} {μ : Mem} {q : Int32 × Mem} (h : m_Fo_join a1 a2 a3 a4 μ = some q) : Un [201, 600, 1502] μ q.2 := by
  unfold m_Fo_join at h
  have uμ : Un [201, 600, 1502] μ μ := Un.rf
  rcases bcase_f ((m_Fo_isCode (a1) μ)) with hb | hb
  · rw [iB_f hb] at h
    obtain rfl := Option.some.inj h
    exact uμ
  · rw [iB_t hb] at h
    rcases bcase_f ((m_Fo_isCode (a2) μ)) with hb | hb
    · rw [iB_f hb] at h
      obtain rfl := Option.some.inj h
      exact uμ
    · rw [iB_t hb] at h
      rcases bcase_f ((m_Fo_isCode (a4) μ)) with hb | hb
      · rw [iB_f hb] at h
        obtain rfl := Option.some.inj h
        exact uμ
      · rw [iB_t hb] at h
        rcases bcase_t ((m_Fo_isCode (a3) μ)) with hb | hb
        · rw [iB_t hb] at h
          exact uμ.tr (fj_Fo_join_36 a1 a2 a3 a4 _ h)
        · rw [iB_f hb] at h
          rcases (Classical.em (a3 = (-1 : Int32))) with hc | hc
          · rw [if_pos hc] at h
            exact uμ.tr (fj_Fo_join_36 a1 a2 a3 a4 _ h)
          · rw [if_neg hc] at h
            obtain rfl := Option.some.inj h
            exact uμ
theorem fm_Li_addSign {a1 : Int32} {μ : Mem} {q : Int32 × Mem} (h : m_Li_addSign a1 μ = some q) : Un [203, 1504] μ q.2 := by
  unfold m_Li_addSign at h
  have uμ : Un [203, 1504] μ μ := Un.rf
  rcases (Classical.em (gI μ 5 (0) 4 < (60 : Int32))) with hc | hc
  · rw [if_pos hc] at h
    obtain ⟨hi1, h⟩ := gu_some h
    obtain ⟨μ2, hμ2, h⟩ := ap_eq h
    have uμ2 : Un [203, 1504] μ μ2 := uμ.tr (by rw [hμ2]; exact un_sI (Or.inl (by simp)) (fun _ => by decide))
    obtain ⟨μ3, hμ3, h⟩ := ap_eq h
    have uμ3 : Un [203, 1504] μ μ3 := uμ2.tr (by rw [hμ3]; exact un_sI (Or.inr ⟨by decide, by simp⟩) (by simp <;> omega))
    obtain rfl := Option.some.inj h
    exact uμ3
  · rw [if_neg hc] at h
    obtain rfl := Option.some.inj h
    exact uμ
theorem fm_Fo_sign {a1 : Int32} {μ : Mem} {q : Int32 × Mem} (h : m_Fo_sign a1 μ = some q) : Un [203, 1504] μ q.2 := by
  unfold m_Fo_sign at h
  have uμ : Un [203, 1504] μ μ := Un.rf
  rcases bcase_f ((m_Fo_isCode (a1) μ)) with hb | hb
  · rw [iB_f hb] at h
    obtain rfl := Option.some.inj h
    exact uμ
  · rw [iB_t hb] at h
    obtain ⟨r1, hr1, h⟩ := bd_some h
    obtain ⟨μ2, hμ2, h⟩ := ap_eq h
    have uμ2 : Un [203, 1504] μ μ2 := by rw [hμ2]; exact uμ.tr ((fm_Li_addSign hr1).mono (by simp))
    obtain ⟨x3, hx3, h⟩ := ap_eq h
    obtain rfl := Option.some.inj h
    exact uμ2
theorem fj_Li_place_52 (a2 : Int32) (a3 : Int32) {q : Mem}  (y5 : Int32) (μ : Mem) (h : mj_Li_place_52 a2 a3 y5 μ = some q) : Un [205, 206, 207, 1508, 1509] μ q := by
  unfold mj_Li_place_52 at h
  have uμ : Un [205, 206, 207, 1508, 1509] μ μ := Un.rf
  obtain ⟨hi5, h⟩ := gu_some h
  obtain ⟨μ6, hμ6, h⟩ := ap_eq h
  have uμ6 : Un [205, 206, 207, 1508, 1509] μ μ6 := uμ.tr (by rw [hμ6]; exact un_sI (Or.inl (by simp)) (fun _ => by decide))
  obtain ⟨hi7, h⟩ := gu_some h
  obtain ⟨μ8, hμ8, h⟩ := ap_eq h
  have uμ8 : Un [205, 206, 207, 1508, 1509] μ μ8 := uμ6.tr (by rw [hμ8]; exact un_sI (Or.inl (by simp)) (fun _ => by decide))
  obtain ⟨hi9, h⟩ := gu_some h
  obtain ⟨μ10, hμ10, h⟩ := ap_eq h
  have uμ10 : Un [205, 206, 207, 1508, 1509] μ μ10 := uμ8.tr (by rw [hμ10]; exact un_sI (Or.inl (by simp)) (fun _ => by decide))
  obtain ⟨μ11, hμ11, h⟩ := ap_eq h
  have uμ11 : Un [205, 206, 207, 1508, 1509] μ μ11 := uμ10.tr (by rw [hμ11]; exact un_sI (Or.inr ⟨by decide, by simp⟩) (by simp <;> omega))
  obtain ⟨hi12, h⟩ := gu_some h
  obtain ⟨o13, ho13, h⟩ := ap_eq h
  replace h := bd_some h
  obtain ⟨y14, hy14, h⟩ := h
  subst hy14
  obtain ⟨μ15, hμ15, h⟩ := ap_eq h
  have uμ15 : Un [205, 206, 207, 1508, 1509] μ μ15 := uμ11.tr (by rw [hμ15]; exact un_sI (Or.inr ⟨by decide, by simp⟩) (by simp <;> omega))
  obtain rfl := Option.some.inj h
  exact uμ15
theorem fm_Li_place {a2 : Int32} {a3 : Int32} {μ : Mem} {q : Mem} (h : m_Li_place a2 a3 μ = some q) : Un [205, 206, 207, 1508, 1509] μ q := by
  unfold m_Li_place at h
  have uμ : Un [205, 206, 207, 1508, 1509] μ μ := Un.rf
  rcases (Classical.em ((60 : Int32) ≤ gI μ 5 (0) 8)) with hc | hc
  · rw [if_pos hc] at h
    obtain rfl := Option.some.inj h
    exact uμ
  · rw [if_neg hc] at h
    obtain ⟨hi1, h⟩ := gu_some h
    obtain ⟨o2, ho2, h⟩ := ap_eq h
    rcases ocase_s o2 with ⟨y3, ho⟩ | ho
    · subst ho
      rw [oc_some] at h
      obtain ⟨x4, hx4, h⟩ := ap_eq h
      rcases (Classical.em (gI μ 5 (0) 8 ≤ 0)) with hc | hc
      · rw [if_pos hc] at h
        exact uμ.tr (fj_Li_place_52 a2 a3 _ _ h)
      · rw [if_neg hc] at h
        obtain ⟨hi16, h⟩ := gu_some h
        obtain ⟨r17, hr17, h⟩ := bd_some h
        obtain ⟨x18, hx18, h⟩ := ap_eq h
        exact uμ.tr (fj_Li_place_52 a2 a3 _ _ h)
    · subst ho
      rw [oc_none] at h
      obtain rfl := Option.some.inj h
      exact uμ
theorem fj_Li_compose_112 (a2 : Int32) {q : Mem} {c_13 : Int32 → Mem → Option (Mem)} (hf_13 : ∀ (y4 : Int32) (μ : Mem), c_13 y4 μ = some q → Un [205, 206, 207, 1504, 1508, 1509] μ q) (z0 : Int32) (z1 : Int32) (μ : Mem) (h : mj_Li_compose_112 a2 c_13 z0 z1 μ = some q) : Un [205, 206, 207, 1504, 1508, 1509] μ q := by
  unfold mj_Li_compose_112 at h
  have uμ : Un [205, 206, 207, 1504, 1508, 1509] μ μ := Un.rf
  obtain ⟨x7, hx7, h⟩ := ap_eq h
  exact uμ.tr (hf_13 _ _ h)
theorem fj_Li_compose_94 (a2 : Int32) {q : Mem} {c_13 : Int32 → Mem → Option (Mem)} (hf_13 : ∀ (y4 : Int32) (μ : Mem), c_13 y4 μ = some q → Un [205, 206, 207, 1504, 1508, 1509] μ q) (y4 : Int32) (y5 : Int32) (μ : Mem) (h : mj_Li_compose_94 a2 c_13 y4 y5 μ = some q) : Un [205, 206, 207, 1504, 1508, 1509] μ q := by
  unfold mj_Li_compose_94 at h
  have uμ : Un [205, 206, 207, 1504, 1508, 1509] μ μ := Un.rf
  rcases (Classical.em (y5 = (-1 : Int32))).symm with hc | hc
  · rw [if_neg hc] at h
    obtain ⟨r6, hr6, h⟩ := bd_some h
    exact uμ.tr (fj_Li_compose_112 a2 hf_13 _ _ _ h)
  · rw [if_pos hc] at h
    exact uμ.tr (fj_Li_compose_112 a2 hf_13 _ _ _ h)
theorem fj_Li_compose_78 (a2 : Int32) {q : Mem} {c_13 : Int32 → Mem → Option (Mem)} (hf_13 : ∀ (y4 : Int32) (μ : Mem), c_13 y4 μ = some q → Un [205, 206, 207, 1504, 1508, 1509] μ q) (y4 : Int32) (y5 : Int32) (y7 : Int32) (μ : Mem) (h : mj_Li_compose_78 a2 c_13 y4 y5 y7 μ = some q) : Un [205, 206, 207, 1504, 1508, 1509] μ q := by
  unfold mj_Li_compose_78 at h
  have uμ : Un [205, 206, 207, 1504, 1508, 1509] μ μ := Un.rf
  rcases (Classical.em (y7 = (-1 : Int32))) with hc | hc
  · rw [if_pos hc] at h
    exact uμ.tr (fj_Li_compose_94 a2 hf_13 _ _ _ h)
  · rw [if_neg hc] at h
    obtain ⟨r8, hr8, h⟩ := bd_some h
    have ur8 : Un [205, 206, 207, 1504, 1508, 1509] μ r8 := uμ.tr ((fm_Li_place hr8).mono (by simp))
    exact ur8.tr (fj_Li_compose_94 a2 hf_13 _ _ _ h)
theorem fj_Li_compose_53 (a2 : Int32) {q : Mem} {c_13 : Int32 → Mem → Option (Mem)} (hf_13 : ∀ (y4 : Int32) (μ : Mem), c_13 y4 μ = some q → Un [205, 206, 207, 1504, 1508, 1509] μ q) (y4 : Int32) (y5 : Int32) (z0 : Int32) (μ : Mem) (h : mj_Li_compose_53 a2 c_13 y4 y5 z0 μ = some q) : Un [205, 206, 207, 1504, 1508, 1509] μ q := by
  unfold mj_Li_compose_53 at h
  have uμ : Un [205, 206, 207, 1504, 1508, 1509] μ μ := Un.rf
  obtain ⟨r5, hr5, h⟩ := bd_some h
  rcases (Classical.em (r5 = (-1 : Int32))).symm with hc | hc
  · rw [if_neg hc] at h
    exact uμ.tr (fj_Li_compose_78 a2 hf_13 _ _ _ _ h)
  · rw [if_pos hc] at h
    obtain ⟨r9, hr9, h⟩ := bd_some h
    exact uμ.tr (fj_Li_compose_78 a2 hf_13 _ _ _ _ h)
theorem fl_Li_compose_13 (a2 : Int32) {q : Mem} {c_118 : Mem → Option (Mem)} (hf_118 : ∀ (μ : Mem), c_118  μ = some q → Un [205, 206, 207, 1504, 1508, 1509] μ q) : ∀ (n : Nat) (y4 : Int32) (μ : Mem), lp_Li_compose_13 a2 c_118 n y4 μ = some q → Un [205, 206, 207, 1504, 1508, 1509] μ q := by
  intro n
  induction n with
  | zero => intro _ _ h; cases h
  | succ n ih =>
    intro y4 μ h
    unfold lp_Li_compose_13 at h
    have uμ : Un [205, 206, 207, 1504, 1508, 1509] μ μ := Un.rf
    rcases (Classical.em (gI μ 5 (0) 4 ≤ y4)) with hc | hc
    · rw [if_pos hc] at h
      exact uμ.tr (hf_118 _ h)
    · rw [if_neg hc] at h
      obtain ⟨r11, hr11, h⟩ := bd_some h
      rcases (Classical.em (r11 = (-1 : Int32))).symm with hc | hc
      · rw [if_neg hc] at h
        obtain ⟨hi12, h⟩ := gu_some h
        exact uμ.tr (fj_Li_compose_53 a2 ih _ _ _ _ h)
      · rw [if_pos hc] at h
        obtain ⟨hi13, h⟩ := gu_some h
        exact uμ.tr (fj_Li_compose_53 a2 ih _ _ _ _ h)
theorem fj_Li_compose_118 (a2 : Int32) {q : Mem}  (μ : Mem) (h : mj_Li_compose_118 a2  μ = some q) : Un [205, 206, 207, 1504, 1508, 1509] μ q := by
  unfold mj_Li_compose_118 at h
  have uμ : Un [205, 206, 207, 1504, 1508, 1509] μ μ := Un.rf
  obtain ⟨μ14, hμ14, h⟩ := ap_eq h
  have uμ14 : Un [205, 206, 207, 1504, 1508, 1509] μ μ14 := uμ.tr (by rw [hμ14]; exact un_sI (Or.inr ⟨by decide, by simp⟩) (by simp <;> omega))
  obtain rfl := Option.some.inj h
  exact uμ14
theorem fm_Li_compose {a2 : Int32} {μ : Mem} {q : Mem} (h : m_Li_compose a2 μ = some q) : Un [205, 206, 207, 1504, 1508, 1509] μ q := by
  unfold m_Li_compose at h
  have uμ : Un [205, 206, 207, 1504, 1508, 1509] μ μ := Un.rf
  obtain ⟨μ1, hμ1, h⟩ := ap_eq h
  have uμ1 : Un [205, 206, 207, 1504, 1508, 1509] μ μ1 := uμ.tr (by rw [hμ1]; exact un_sI (Or.inr ⟨by decide, by simp⟩) (by simp <;> omega))
  obtain ⟨μ2, hμ2, h⟩ := ap_eq h
  have uμ2 : Un [205, 206, 207, 1504, 1508, 1509] μ μ2 := uμ1.tr (by rw [hμ2]; exact un_sI (Or.inr ⟨by decide, by simp⟩) (by simp <;> omega))
  exact uμ2.tr (fl_Li_compose_13 a2 (fun _ h => fj_Li_compose_118 a2 _ h) FU _ _ h)
theorem fm_Fo_set {μ : Mem} {q : Int32 × Mem} (h : m_Fo_set  μ = some q) : Un [205, 206, 207, 1504, 1508, 1509] μ q.2 := by
  unfold m_Fo_set at h
  have uμ : Un [205, 206, 207, 1504, 1508, 1509] μ μ := Un.rf
  obtain ⟨r1, hr1, h⟩ := bd_some h
  have ur1 : Un [205, 206, 207, 1504, 1508, 1509] μ r1 := uμ.tr ((fm_Li_compose hr1).mono (by simp))
  obtain rfl := Option.some.inj h
  exact ur1
theorem fj_Mo_letter_34 (a1 : Int32) (a2 : Int32) {q : Int32 × Mem} {c_5 : Int32 → Int32 → Mem → Option (Int32 × Mem)} (hf_5 : ∀ (y3 : Int32) (y4 : Int32) (μ : Mem), c_5 y3 y4 μ = some q → Un [341, 342, 2200] μ q.2) (y4 : Int32) (z0 : Int32) (μ : Mem) (h : mj_Mo_letter_34 a1 a2 c_5 y4 z0 μ = some q) : Un [341, 342, 2200] μ q.2 := by
  unfold mj_Mo_letter_34 at h
  have uμ : Un [341, 342, 2200] μ μ := Un.rf
  obtain ⟨x1, hx1, h⟩ := ap_eq h
  exact uμ.tr (hf_5 _ _ _ h)
theorem fj_Mo_letter_29 (a1 : Int32) (a2 : Int32) {q : Int32 × Mem} {c_5 : Int32 → Int32 → Mem → Option (Int32 × Mem)} (hf_5 : ∀ (y3 : Int32) (y4 : Int32) (μ : Mem), c_5 y3 y4 μ = some q → Un [341, 342, 2200] μ q.2) (y4 : Int32) (μ : Mem) (h : mj_Mo_letter_29 a1 a2 c_5 y4 μ = some q) : Un [341, 342, 2200] μ q.2 := by
  unfold mj_Mo_letter_29 at h
  have uμ : Un [341, 342, 2200] μ μ := Un.rf
  exact uμ.tr (fj_Mo_letter_34 a1 a2 hf_5 _ _ _ h)
theorem fl_Mo_letter_5 (a1 : Int32) (a2 : Int32) {q : Int32 × Mem} {c_41 : Int32 → Mem → Option (Int32 × Mem)} (hf_41 : ∀ (y3 : Int32) (μ : Mem), c_41 y3 μ = some q → Un [341, 342, 2200] μ q.2) : ∀ (n : Nat) (y3 : Int32) (y4 : Int32) (μ : Mem), lp_Mo_letter_5 a1 a2 c_41 n y3 y4 μ = some q → Un [341, 342, 2200] μ q.2 := by
  intro n
  induction n with
  | zero => intro _ _ _ h; cases h
  | succ n ih =>
    intro y3 y4 μ h
    unfold lp_Mo_letter_5 at h
    have uμ : Un [341, 342, 2200] μ μ := Un.rf
    rcases (Classical.em (gI μ 12 (0) 0 ≤ y4)) with hc | hc
    · rw [if_pos hc] at h
      exact uμ.tr (hf_41 _ _ h)
    · rw [if_neg hc] at h
      rcases (Classical.em (y3 = 0)).symm with hc | hc
      · rw [if_neg hc] at h
        exact uμ.tr (fj_Mo_letter_29 a1 a2 ih _ _ h)
      · rw [if_pos hc] at h
        obtain ⟨hi3, h⟩ := gu_some h
        rcases (Classical.em (gI μ 341 (0) y4.toNatClampNeg = a1)).symm with hc | hc
        · rw [if_neg hc] at h
          exact uμ.tr (fj_Mo_letter_34 a1 a2 ih _ _ _ h)
        · rw [if_pos hc] at h
          exact uμ.tr (fj_Mo_letter_29 a1 a2 ih _ _ h)
theorem fj_Mo_letter_41 (a1 : Int32) (a2 : Int32) {q : Int32 × Mem}  (y3 : Int32) (μ : Mem) (h : mj_Mo_letter_41 a1 a2 y3 μ = some q) : Un [341, 342, 2200] μ q.2 := by
  unfold mj_Mo_letter_41 at h
  have uμ : Un [341, 342, 2200] μ μ := Un.rf
  rcases (Classical.em (y3 = 0)).symm with hc | hc
  · rw [if_neg hc] at h
    obtain rfl := Option.some.inj h
    exact uμ
  · rw [if_pos hc] at h
    rcases bcase_f ((m_Mo_isCode (a1) μ)) with hb | hb
    · rw [iB_f hb] at h
      obtain rfl := Option.some.inj h
      exact uμ
    · rw [iB_t hb] at h
      rcases (Classical.em (a2 < 0)) with hc | hc
      · rw [if_pos hc] at h
        obtain rfl := Option.some.inj h
        exact uμ
      · rw [if_neg hc] at h
        rcases (Classical.em ((32000 : Int32) < a2)) with hc | hc
        · rw [if_pos hc] at h
          obtain rfl := Option.some.inj h
          exact uμ
        · rw [if_neg hc] at h
          rcases (Classical.em (gI μ 12 (0) 0 = (32 : Int32))).symm with hc | hc
          · rw [if_neg hc] at h
            obtain ⟨hi4, h⟩ := gu_some h
            obtain ⟨μ5, hμ5, h⟩ := ap_eq h
            have uμ5 : Un [341, 342, 2200] μ μ5 := uμ.tr (by rw [hμ5]; exact un_sI (Or.inl (by simp)) (fun _ => by decide))
            obtain ⟨hi6, h⟩ := gu_some h
            obtain ⟨μ7, hμ7, h⟩ := ap_eq h
            have uμ7 : Un [341, 342, 2200] μ μ7 := uμ5.tr (by rw [hμ7]; exact un_sI (Or.inl (by simp)) (fun _ => by decide))
            obtain ⟨μ8, hμ8, h⟩ := ap_eq h
            have uμ8 : Un [341, 342, 2200] μ μ8 := uμ7.tr (by rw [hμ8]; exact un_sI (Or.inr ⟨by decide, by simp⟩) (by simp <;> omega))
            obtain rfl := Option.some.inj h
            exact uμ8
          · rw [if_pos hc] at h
            obtain rfl := Option.some.inj h
            exact uμ
theorem fm_Mo_letter {a1 : Int32} {a2 : Int32} {μ : Mem} {q : Int32 × Mem} (h : m_Mo_letter a1 a2 μ = some q) : Un [341, 342, 2200] μ q.2 := by
  unfold m_Mo_letter at h
  have uμ : Un [341, 342, 2200] μ μ := Un.rf
  exact uμ.tr (fl_Mo_letter_5 a1 a2 (fun _ _ h => fj_Mo_letter_41 a1 a2 _ _ h) FU _ _ _ h)
theorem fm_Mo_outline {a1 : Int32} {μ : Mem} {q : Int32 × Mem} (h : m_Mo_outline a1 μ = some q) : Un [344] μ q.2 := by
  unfold m_Mo_outline at h
  have uμ : Un [344] μ μ := Un.rf
  rcases bcase_f ((m_Mo_isLetter (a1) μ)) with hb | hb
  · rw [iB_f hb] at h
    obtain rfl := Option.some.inj h
    exact uμ
  · rw [iB_t hb] at h
    obtain ⟨hi1, h⟩ := gu_some h
    rcases (Classical.em (gI μ 344 (0) a1.toNatClampNeg = 0)).symm with hc | hc
    · rw [if_neg hc] at h
      obtain rfl := Option.some.inj h
      exact uμ
    · rw [if_pos hc] at h
      obtain ⟨hi2, h⟩ := gu_some h
      rcases (Classical.em (0 < gI μ 352 (0) a1.toNatClampNeg)) with hc | hc
      · rw [if_pos hc] at h
        obtain rfl := Option.some.inj h
        exact uμ
      · rw [if_neg hc] at h
        obtain ⟨hi3, h⟩ := gu_some h
        rcases (Classical.em (gI μ 343 (0) a1.toNatClampNeg = (8 : Int32))).symm with hc | hc
        · rw [if_neg hc] at h
          obtain ⟨hi4, h⟩ := gu_some h
          obtain ⟨μ5, hμ5, h⟩ := ap_eq h
          have uμ5 : Un [344] μ μ5 := uμ.tr (by rw [hμ5]; exact un_sI (Or.inl (by simp)) (fun _ => by decide))
          obtain ⟨hi6, h⟩ := gu_some h
          obtain rfl := Option.some.inj h
          exact uμ5
        · rw [if_pos hc] at h
          obtain rfl := Option.some.inj h
          exact uμ
theorem fl_Mo_point_96 (a1 : Int32) (a2 : Int32) (a3 : Int32) (a4 : Int32) {q : Int32 × Mem} {c_134 : Mem → Option (Int32 × Mem)} (hf_134 : ∀ (μ : Mem), c_134  μ = some q → Un [345, 347, 348, 349, 350, 351] μ q.2) : ∀ (n : Nat) (y5 : Int32) (y6 : Int32) (μ : Mem), lp_Mo_point_96 a1 a2 a3 a4 c_134 n y5 y6 μ = some q → Un [345, 347, 348, 349, 350, 351] μ q.2 := by
  intro n
  induction n with
  | zero => intro _ _ _ h; cases h
  | succ n ih =>
    intro y5 y6 μ h
    unfold lp_Mo_point_96 at h
    have uμ : Un [345, 347, 348, 349, 350, 351] μ μ := Un.rf
    rcases (Classical.em ((3 : Int32) ≤ y6)) with hc | hc
    · rw [if_pos hc] at h
      exact uμ.tr (hf_134 _ h)
    · rw [if_neg hc] at h
      obtain ⟨hi16, h⟩ := gu_some h
      obtain ⟨μ17, hμ17, h⟩ := ap_eq h
      have uμ17 : Un [345, 347, 348, 349, 350, 351] μ μ17 := uμ.tr (by rw [hμ17]; exact un_sI (Or.inl (by simp)) (fun _ => by decide))
      obtain ⟨hi18, h⟩ := gu_some h
      obtain ⟨μ19, hμ19, h⟩ := ap_eq h
      have uμ19 : Un [345, 347, 348, 349, 350, 351] μ μ19 := uμ17.tr (by rw [hμ19]; exact un_sI (Or.inl (by simp)) (fun _ => by decide))
      obtain ⟨x20, hx20, h⟩ := ap_eq h
      exact uμ19.tr (ih _ _ _ h)
theorem fj_Mo_point_134 (a1 : Int32) (a2 : Int32) (a3 : Int32) (a4 : Int32) {q : Int32 × Mem}  (μ : Mem) (h : mj_Mo_point_134 a1 a2 a3 a4  μ = some q) : Un [345, 347, 348, 349, 350, 351] μ q.2 := by
  unfold mj_Mo_point_134 at h
  have uμ : Un [345, 347, 348, 349, 350, 351] μ μ := Un.rf
  obtain ⟨hi21, h⟩ := gu_some h
  obtain ⟨hi22, h⟩ := gu_some h
  obtain ⟨μ23, hμ23, h⟩ := ap_eq h
  have uμ23 : Un [345, 347, 348, 349, 350, 351] μ μ23 := uμ.tr (by rw [hμ23]; exact un_sI (Or.inl (by simp)) (fun _ => by decide))
  obtain ⟨hi24, h⟩ := gu_some h
  obtain ⟨r25, hr25, h⟩ := bd_some h
  obtain rfl := Option.some.inj h
  exact uμ23
theorem fm_Mo_point {a1 : Int32} {a2 : Int32} {a3 : Int32} {a4 : Int32} {μ : Mem} {q : Int32 × Mem} (h : m_Mo_point a1 a2 a3 a4 μ = some q) : Un [345, 347, 348, 349, 350, 351] μ q.2 := by
  unfold m_Mo_point at h
  have uμ : Un [345, 347, 348, 349, 350, 351] μ μ := Un.rf
  rcases bcase_f ((m_Mo_isLetter (a1) μ)) with hb | hb
  · rw [iB_f hb] at h
    obtain rfl := Option.some.inj h
    exact uμ
  · rw [iB_t hb] at h
    obtain ⟨hi1, h⟩ := gu_some h
    rcases (Classical.em (gI μ 344 (0) a1.toNatClampNeg = 0)) with hc | hc
    · rw [if_pos hc] at h
      obtain rfl := Option.some.inj h
      exact uμ
    · rw [if_neg hc] at h
      rcases bcase_f ((m_Mo_isPlace (a2) μ)) with hb | hb
      · rw [iB_f hb] at h
        obtain rfl := Option.some.inj h
        exact uμ
      · rw [iB_t hb] at h
        rcases bcase_f ((m_Mo_isPlace (a3) μ)) with hb | hb
        · rw [iB_f hb] at h
          obtain rfl := Option.some.inj h
          exact uμ
        · rw [iB_t hb] at h
          rcases (Classical.em (a4 < 0)) with hc | hc
          · rw [if_pos hc] at h
            obtain rfl := Option.some.inj h
            exact uμ
          · rw [if_neg hc] at h
            rcases (Classical.em ((2 : Int32) < a4)) with hc | hc
            · rw [if_pos hc] at h
              obtain rfl := Option.some.inj h
              exact uμ
            · rw [if_neg hc] at h
              obtain ⟨hi2, h⟩ := gu_some h
              rcases (Classical.em (gI μ 345 (0) a1.toNatClampNeg = (100 : Int32))).symm with hc | hc
              · rw [if_neg hc] at h
                obtain ⟨hi3, h⟩ := gu_some h
                obtain ⟨x4, hx4, h⟩ := ap_eq h
                obtain ⟨hi5, h⟩ := gu_some h
                obtain ⟨μ6, hμ6, h⟩ := ap_eq h
                have uμ6 : Un [345, 347, 348, 349, 350, 351] μ μ6 := uμ.tr (by rw [hμ6]; exact un_sI (Or.inl (by simp)) (fun _ => by decide))
                obtain ⟨hi7, h⟩ := gu_some h
                obtain ⟨μ8, hμ8, h⟩ := ap_eq h
                have uμ8 : Un [345, 347, 348, 349, 350, 351] μ μ8 := uμ6.tr (by rw [hμ8]; exact un_sI (Or.inl (by simp)) (fun _ => by decide))
                obtain ⟨hi9, h⟩ := gu_some h
                obtain ⟨μ10, hμ10, h⟩ := ap_eq h
                have uμ10 : Un [345, 347, 348, 349, 350, 351] μ μ10 := uμ8.tr (by rw [hμ10]; exact un_sI (Or.inl (by simp)) (fun _ => by decide))
                exact uμ10.tr (fl_Mo_point_96 a1 a2 a3 a4 (fun _ h => fj_Mo_point_134 a1 a2 a3 a4 _ h) FU _ _ _ h)
              · rw [if_pos hc] at h
                obtain rfl := Option.some.inj h
                exact uμ
theorem fm_Mo_close {a1 : Int32} {μ : Mem} {q : Int32 × Mem} (h : m_Mo_close a1 μ = some q) : Un [343, 344, 346] μ q.2 := by
  unfold m_Mo_close at h
  have uμ : Un [343, 344, 346] μ μ := Un.rf
  rcases bcase_f ((m_Mo_isLetter (a1) μ)) with hb | hb
  · rw [iB_f hb] at h
    obtain rfl := Option.some.inj h
    exact uμ
  · rw [iB_t hb] at h
    obtain ⟨hi1, h⟩ := gu_some h
    rcases (Classical.em (gI μ 344 (0) a1.toNatClampNeg = 0)).symm with hc | hc
    · rw [if_neg hc] at h
      obtain ⟨r2, hr2, h⟩ := bd_some h
      rcases (Classical.em (r2 = (-1 : Int32))) with hc | hc
      · rw [if_pos hc] at h
        obtain ⟨hi3, h⟩ := gu_some h
        obtain ⟨hi4, h⟩ := gu_some h
        obtain ⟨hi5, h⟩ := gu_some h
        obtain ⟨μ6, hμ6, h⟩ := ap_eq h
        have uμ6 : Un [343, 344, 346] μ μ6 := uμ.tr (by rw [hμ6]; exact un_sI (Or.inl (by simp)) (fun _ => by decide))
        obtain ⟨hi7, h⟩ := gu_some h
        obtain ⟨hi8, h⟩ := gu_some h
        obtain ⟨μ9, hμ9, h⟩ := ap_eq h
        have uμ9 : Un [343, 344, 346] μ μ9 := uμ6.tr (by rw [hμ9]; exact un_sI (Or.inl (by simp)) (fun _ => by decide))
        obtain ⟨hi10, h⟩ := gu_some h
        obtain ⟨μ11, hμ11, h⟩ := ap_eq h
        have uμ11 : Un [343, 344, 346] μ μ11 := uμ9.tr (by rw [hμ11]; exact un_sI (Or.inl (by simp)) (fun _ => by decide))
        obtain rfl := Option.some.inj h
        exact uμ11
      · rw [if_neg hc] at h
        obtain rfl := Option.some.inj h
        exact uμ
    · rw [if_pos hc] at h
      obtain rfl := Option.some.inj h
      exact uμ
theorem fj_Mo_drop_57 (a1 : Int32) {q : Int32 × Mem}  (μ : Mem) (h : mj_Mo_drop_57 a1  μ = some q) : Un [343, 344, 345] μ q.2 := by
  unfold mj_Mo_drop_57 at h
  have uμ : Un [343, 344, 345] μ μ := Un.rf
  obtain ⟨r6, hr6, h⟩ := bd_some h
  obtain ⟨hi7, h⟩ := gu_some h
  obtain ⟨μ8, hμ8, h⟩ := ap_eq h
  have uμ8 : Un [343, 344, 345] μ μ8 := uμ.tr (by rw [hμ8]; exact un_sI (Or.inl (by simp)) (fun _ => by decide))
  obtain ⟨hi9, h⟩ := gu_some h
  obtain rfl := Option.some.inj h
  exact uμ8
theorem fj_Mo_drop_28 (a1 : Int32) {q : Int32 × Mem}  (μ : Mem) (h : mj_Mo_drop_28 a1  μ = some q) : Un [343, 344, 345] μ q.2 := by
  unfold mj_Mo_drop_28 at h
  have uμ : Un [343, 344, 345] μ μ := Un.rf
  obtain ⟨hi2, h⟩ := gu_some h
  rcases (Classical.em (gI μ 344 (0) a1.toNatClampNeg = 0)) with hc | hc
  · rw [if_pos hc] at h
    obtain ⟨hi3, h⟩ := gu_some h
    obtain ⟨hi4, h⟩ := gu_some h
    obtain ⟨μ5, hμ5, h⟩ := ap_eq h
    have uμ5 : Un [343, 344, 345] μ μ5 := uμ.tr (by rw [hμ5]; exact un_sI (Or.inl (by simp)) (fun _ => by decide))
    exact uμ5.tr (fj_Mo_drop_57 a1 _ h)
  · rw [if_neg hc] at h
    obtain ⟨hi10, h⟩ := gu_some h
    obtain ⟨μ11, hμ11, h⟩ := ap_eq h
    have uμ11 : Un [343, 344, 345] μ μ11 := uμ.tr (by rw [hμ11]; exact un_sI (Or.inl (by simp)) (fun _ => by decide))
    exact uμ11.tr (fj_Mo_drop_57 a1 _ h)
theorem fm_Mo_drop {a1 : Int32} {μ : Mem} {q : Int32 × Mem} (h : m_Mo_drop a1 μ = some q) : Un [343, 344, 345] μ q.2 := by
  unfold m_Mo_drop at h
  have uμ : Un [343, 344, 345] μ μ := Un.rf
  rcases bcase_f ((m_Mo_isLetter (a1) μ)) with hb | hb
  · rw [iB_f hb] at h
    obtain rfl := Option.some.inj h
    exact uμ
  · rw [iB_t hb] at h
    obtain ⟨hi1, h⟩ := gu_some h
    rcases (Classical.em (gI μ 343 (0) a1.toNatClampNeg = 0)).symm with hc | hc
    · rw [if_neg hc] at h
      exact uμ.tr (fj_Mo_drop_28 a1 _ h)
    · rw [if_pos hc] at h
      obtain ⟨hi12, h⟩ := gu_some h
      rcases (Classical.em (gI μ 344 (0) a1.toNatClampNeg = 0)).symm with hc | hc
      · rw [if_neg hc] at h
        exact uμ.tr (fj_Mo_drop_28 a1 _ h)
      · rw [if_pos hc] at h
        obtain rfl := Option.some.inj h
        exact uμ
theorem fm_Mo_move {a1 : Int32} {a2 : Int32} {a3 : Int32} {a4 : Int32} {μ : Mem} {q : Bool × Mem} (h : m_Mo_move a1 a2 a3 a4 μ = some q) : Un [347, 348] μ q.2 := by
  unfold m_Mo_move at h
  have uμ : Un [347, 348] μ μ := Un.rf
  obtain ⟨r1, hr1, h⟩ := bd_some h
  rcases bcase_f (r1) with hb | hb
  · rw [iB_f hb] at h
    obtain rfl := Option.some.inj h
    exact uμ
  · rw [iB_t hb] at h
    rcases bcase_f ((m_Mo_isPlace (a3) μ)) with hb | hb
    · rw [iB_f hb] at h
      obtain rfl := Option.some.inj h
      exact uμ
    · rw [iB_t hb] at h
      rcases bcase_t ((m_Mo_isPlace (a4) μ)) with hb | hb
      · rw [iB_t hb] at h
        obtain ⟨hi2, h⟩ := gu_some h
        obtain ⟨μ3, hμ3, h⟩ := ap_eq h
        have uμ3 : Un [347, 348] μ μ3 := uμ.tr (by rw [hμ3]; exact un_sI (Or.inl (by simp)) (fun _ => by decide))
        obtain ⟨hi4, h⟩ := gu_some h
        obtain ⟨μ5, hμ5, h⟩ := ap_eq h
        have uμ5 : Un [347, 348] μ μ5 := uμ3.tr (by rw [hμ5]; exact un_sI (Or.inl (by simp)) (fun _ => by decide))
        obtain rfl := Option.some.inj h
        exact uμ5
      · rw [iB_f hb] at h
        obtain rfl := Option.some.inj h
        exact uμ
theorem fm_Mo_swap {a1k : Nat} {a1l : Nat} {a1n : Nat} {a1z : Nat} {a2 : Int32} {a3 : Int32} {μ : Mem} {q : Mem} (h13a1k : 13 ≤ a1k) (h : m_Mo_swap a1k a1l a1n a1z a2 a3 μ = some q) : Un [a1k] μ q := by
  unfold m_Mo_swap at h
  have uμ : Un [a1k] μ μ := Un.rf
  obtain ⟨hi1, h⟩ := gu_some h
  obtain ⟨x2, hx2, h⟩ := ap_eq h
  obtain ⟨hi3, h⟩ := gu_some h
  obtain ⟨hi4, h⟩ := gu_some h
  obtain ⟨μ5, hμ5, h⟩ := ap_eq h
  have uμ5 : Un [a1k] μ μ5 := uμ.tr (by rw [hμ5]; exact un_sI (Or.inl (by simp)) (fun _ => h13a1k))
  obtain ⟨hi6, h⟩ := gu_some h
  obtain ⟨μ7, hμ7, h⟩ := ap_eq h
  have uμ7 : Un [a1k] μ μ7 := uμ5.tr (by rw [hμ7]; exact un_sI (Or.inl (by simp)) (fun _ => h13a1k))
  obtain rfl := Option.some.inj h
  exact uμ7
theorem fl_Mo_reverse_100 (a1 : Int32) (a2 : Int32) {q : Bool × Mem} {c_154 : Int32 → Int32 → Mem → Option (Bool × Mem)} (hf_154 : ∀ (y3 : Int32) (y4 : Int32) (μ : Mem), c_154 y3 y4 μ = some q → Un [347, 348, 349, 350, 351] μ q.2) : ∀ (n : Nat) (y3 : Int32) (y4 : Int32) (y5 : Int32) (μ : Mem), lp_Mo_reverse_100 a1 a2 c_154 n y3 y4 y5 μ = some q → Un [347, 348, 349, 350, 351] μ q.2 := by
  intro n
  induction n with
  | zero => intro _ _ _ _ h; cases h
  | succ n ih =>
    intro y3 y4 y5 μ h
    unfold lp_Mo_reverse_100 at h
    have uμ : Un [347, 348, 349, 350, 351] μ μ := Un.rf
    rcases (Classical.em ((3 : Int32) ≤ y5)) with hc | hc
    · rw [if_pos hc] at h
      exact uμ.tr (hf_154 _ _ _ h)
    · rw [if_neg hc] at h
      obtain ⟨r12, hr12, h⟩ := bd_some h
      have ur12 : Un [347, 348, 349, 350, 351] μ r12 := uμ.tr ((fm_Mo_swap (by decide) hr12).mono (by simp))
      obtain ⟨r13, hr13, h⟩ := bd_some h
      have ur13 : Un [347, 348, 349, 350, 351] μ r13 := ur12.tr ((fm_Mo_swap (by decide) hr13).mono (by simp))
      obtain ⟨x14, hx14, h⟩ := ap_eq h
      exact ur13.tr (ih _ _ _ _ h)
theorem fj_Mo_reverse_154 (a1 : Int32) (a2 : Int32) {q : Bool × Mem} {c_58 : Int32 → Int32 → Mem → Option (Bool × Mem)} (hf_58 : ∀ (y3 : Int32) (y4 : Int32) (μ : Mem), c_58 y3 y4 μ = some q → Un [347, 348, 349, 350, 351] μ q.2) (y3 : Int32) (y4 : Int32) (μ : Mem) (h : mj_Mo_reverse_154 a1 a2 c_58 y3 y4 μ = some q) : Un [347, 348, 349, 350, 351] μ q.2 := by
  unfold mj_Mo_reverse_154 at h
  have uμ : Un [347, 348, 349, 350, 351] μ μ := Un.rf
  obtain ⟨x15, hx15, h⟩ := ap_eq h
  obtain ⟨x16, hx16, h⟩ := ap_eq h
  exact uμ.tr (hf_58 _ _ _ h)
theorem fl_Mo_reverse_58 (a1 : Int32) (a2 : Int32) {q : Bool × Mem}  : ∀ (n : Nat) (y3 : Int32) (y4 : Int32) (μ : Mem), lp_Mo_reverse_58 a1 a2 n y3 y4 μ = some q → Un [347, 348, 349, 350, 351] μ q.2 := by
  intro n
  induction n with
  | zero => intro _ _ _ h; cases h
  | succ n ih =>
    intro y3 y4 μ h
    unfold lp_Mo_reverse_58 at h
    have uμ : Un [347, 348, 349, 350, 351] μ μ := Un.rf
    rcases (Classical.em (y4 ≤ y3)) with hc | hc
    · rw [if_pos hc] at h
      obtain rfl := Option.some.inj h
      exact uμ
    · rw [if_neg hc] at h
      obtain ⟨r17, hr17, h⟩ := bd_some h
      have ur17 : Un [347, 348, 349, 350, 351] μ r17 := uμ.tr ((fm_Mo_swap (by decide) hr17).mono (by simp))
      obtain ⟨r18, hr18, h⟩ := bd_some h
      have ur18 : Un [347, 348, 349, 350, 351] μ r18 := ur17.tr ((fm_Mo_swap (by decide) hr18).mono (by simp))
      obtain ⟨r19, hr19, h⟩ := bd_some h
      have ur19 : Un [347, 348, 349, 350, 351] μ r19 := ur18.tr ((fm_Mo_swap (by decide) hr19).mono (by simp))
      exact ur19.tr (fl_Mo_reverse_100 a1 a2 (fun _ _ _ h => fj_Mo_reverse_154 a1 a2 ih _ _ _ h) FU _ _ _ _ h)
theorem fm_Mo_reverse {a1 : Int32} {a2 : Int32} {μ : Mem} {q : Bool × Mem} (h : m_Mo_reverse a1 a2 μ = some q) : Un [347, 348, 349, 350, 351] μ q.2 := by
  unfold m_Mo_reverse at h
  have uμ : Un [347, 348, 349, 350, 351] μ μ := Un.rf
  rcases bcase_f ((m_Mo_isLetter (a1) μ)) with hb | hb
  · rw [iB_f hb] at h
    obtain rfl := Option.some.inj h
    exact uμ
  · rw [iB_t hb] at h
    rcases (Classical.em (a2 < 0)) with hc | hc
    · rw [if_pos hc] at h
      obtain rfl := Option.some.inj h
      exact uμ
    · rw [if_neg hc] at h
      obtain ⟨hi1, h⟩ := gu_some h
      rcases (Classical.em (a2 < gI μ 343 (0) a1.toNatClampNeg)) with hc | hc
      · rw [if_pos hc] at h
        obtain ⟨r2, hr2, h⟩ := bd_some h
        obtain ⟨x3, hx3, h⟩ := ap_eq h
        obtain ⟨hi4, h⟩ := gu_some h
        obtain ⟨x5, hx5, h⟩ := ap_eq h
        exact uμ.tr (fl_Mo_reverse_58 a1 a2 FU _ _ _ h)
      · rw [if_neg hc] at h
        obtain rfl := Option.some.inj h
        exact uμ
