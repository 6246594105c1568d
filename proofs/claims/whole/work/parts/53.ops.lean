theorem rm_isCode (x : Int32) (μ : Mem) : m_Mo_isCode x μ = decide (0 ≤ x.toInt ∧ x.toInt ≤ 65535) := rg_two
theorem nlt {a b : Nat} (ha : a < 2147483648) (hb : b < 2147483648) : (nI a < nI b) = (a < b) := by
  apply propext; rw [t_lt, nI_toInt ha, nI_toInt hb]; omega
theorem nle {a b : Nat} (ha : a < 2147483648) (hb : b < 2147483648) : (nI a ≤ nI b) = (a ≤ b) := by
  apply propext; rw [t_le, nI_toInt ha, nI_toInt hb]; omega
theorem neq {a b : Nat} (ha : a < 2147483648) (hb : b < 2147483648) : (nI a = nI b) = (a = b) := by
  apply propext; exact ⟨nI_inj ha hb, fun h => by rw [h]⟩
theorem nsub1 {a : Nat} (h : 1 ≤ a) : nI a - 1 = nI (a - 1) := by rw [show (1 : Int32) = nI 1 from rfl, pk_sub h]
theorem op_sign {μ : Mem} {n : Nat} (I : InvN n μ) (a : Int32) : ∃ r ν1 ν2, m_Fo_sign a μ = some (r, ν1) ∧ m_Mo_sign a ν1 = some (r, ν2) ∧ InvN n ν2 := by
  obtain ⟨s, hs, s1, s2, s3⟩ := I.2.2.2.2.2.2.2.2.2.1
  by_cases ha : 0 ≤ a.toInt ∧ a.toInt ≤ 65535
  · by_cases h60 : s < 60
    · have e1 : m_Fo_sign a μ = some (nI (s + 1), sI (sI μ 203 0 s a) 5 0 4 (nI (s + 1))) := by
        simp only [m_Fo_sign, rg_isCode, ha, and_self, decide_true, if_true, m_Li_addSign, s1, show (60 : Int32) = nI 60 from rfl, nlt (show s < 2147483648 by omega) (show 60 < 2147483648 by omega), h60, gu_nI h60 (by omega), nI_clamp (show s < 2 ^ 31 by omega), ap]
        simp [gI_sI, s1, nI_1]
      have e2 : m_Mo_sign a (sI (sI μ 203 0 s a) 5 0 4 (nI (s + 1))) = some (nI (s + 1), sI (sI (sI (sI μ 203 0 s a) 5 0 4 (nI (s + 1))) 407 0 s a) 12 0 66 (nI (s + 1))) := by
        have g : gI (sI (sI μ 203 0 s a) 5 0 4 (nI (s + 1))) 12 0 66 = nI s := by simp [gI_sI, s2]
        have h6 : ¬ s = 60 := by omega
        simp only [m_Mo_sign, rm_isCode, ha, and_self, decide_true, if_true, g, show (60 : Int32) = nI 60 from rfl, neq (show s < 2147483648 by omega) (show 60 < 2147483648 by omega), h6, if_false, gu_nI h60 (by omega), nI_clamp (show s < 2 ^ 31 by omega), ap]
        simp [gI_sI, s2, nI_1]
      refine ⟨_, _, _, e1, e2, inv_SG I (S := [203, 407, 1504, 2266]) (by decide) (((fm_Fo_sign e1).mono (by decide)).tr ((fm_Mo_sign e2).mono (by decide))) ⟨s + 1, by omega, by simp [gI_sI], by simp [gI_sI], fun k hk => ?_⟩⟩
      unfold bI at *
      by_cases q : k = s
      · subst q; simp [gI_sI]; exact ha
      · have := s3 k (by omega); simp [gI_sI, q]; exact this
    · have h6 : s = 60 := by omega
      subst h6
      refine ⟨-1, μ, μ, ?_, ?_, I⟩
      · simp only [m_Fo_sign, rg_isCode, ha, and_self, decide_true, if_true, m_Li_addSign, s1, show (60 : Int32) = nI 60 from rfl, nlt (show 60 < 2147483648 by omega) (show 60 < 2147483648 by omega), Nat.lt_irrefl, if_false]
        rfl
      · simp only [m_Mo_sign, rm_isCode, ha, and_self, decide_true, if_true, s2]
        rfl
  · refine ⟨-1, μ, μ, ?_, ?_, I⟩
    · simp only [m_Fo_sign, rg_isCode, ha, decide_false]; rfl
    · simp only [m_Mo_sign, rm_isCode, ha, decide_false]; rfl
theorem join_C {μ : Mem} {s : Nat} (a b c d : Int32) (s1 : gI μ 5 0 2 = nI s) (h40 : s < 40) : mj_Fo_join_36 a b c d μ = some (nI (s + 1), sI (sI (sI (sI (sI μ 600 0 s a) 600 1 s b) 600 2 s c) 201 0 s d) 5 0 2 (nI (s + 1))) := by
  have hl : nI s < 40 := by rw [show (40 : Int32) = nI 40 from rfl, nlt (by omega) (by omega)]; exact h40
  have c0 : (0 : Int32).toNatClampNeg = 0 := rfl
  have c1 : (1 : Int32).toNatClampNeg = 1 := rfl
  have c2 : (2 : Int32).toNatClampNeg = 2 := rfl
  have cs : (nI s).toNatClampNeg = s := nI_clamp (by omega)
  have ga : ∀ x : Option (Int32 × Mem), gu (0 : Int32) 3 x = x := fun x => gu_nI (l := 0) (by omega) (by omega)
  have gb : ∀ x : Option (Int32 × Mem), gu (1 : Int32) 3 x = x := fun x => gu_nI (l := 1) (by omega) (by omega)
  have gc : ∀ x : Option (Int32 × Mem), gu (2 : Int32) 3 x = x := fun x => gu_nI (l := 2) (by omega) (by omega)
  have gs : ∀ x : Option (Int32 × Mem), gu (nI s) 40 x = x := fun x => gu_nI h40 (by omega)
  have n1 : nI s + 1 = nI (s + 1) := nI_add s 1
  unfold mj_Fo_join_36 m_Li_addRule
  simp only [s1, hl, if_true, ga, gb, gc, c0, c1, c2, gs, cs, ap, gI_sI, Nat.mul_zero, Nat.zero_add, n1]
  simp [s1, gs, cs, n1]
theorem join_M {ν : Mem} {s : Nat} (a b c d : Int32) (hd : 0 ≤ d.toInt ∧ d.toInt ≤ 65535) (g : gI ν 12 0 64 = nI s) (h40 : s < 40) : mj_Mo_join_26 a b c d ν = some (nI (s + 1), sI (sI (sI (sI (sI ν 405 0 (4 * s) a) 405 0 (4 * s + 1) b) 405 0 (4 * s + 2) c) 405 0 (4 * s + 3) d) 12 0 64 (nI (s + 1))) := by
  have h4 : ¬ nI s = 40 := by rw [show (40 : Int32) = nI 40 from rfl, neq (by omega) (by omega)]; omega
  have m4 : (4 : Int32) * nI s = nI (4 * s) := by rw [show (4 : Int32) = nI 4 from rfl, pk_mul]
  have n1 : ∀ k, nI k + 1 = nI (k + 1) := fun k => nI_add k 1
  have n2 : ∀ k, nI k + 2 = nI (k + 2) := fun k => nI_add k 2
  have n3 : ∀ k, nI k + 3 = nI (k + 3) := fun k => nI_add k 3
  have G : ∀ k, k < 160 → ∀ x : Option (Int32 × Mem), gu (nI k) 160 x = x := fun k hk x => gu_nI hk (by omega)
  have C : ∀ k, k < 160 → (nI k).toNatClampNeg = k := fun k hk => nI_clamp (by omega)
  have g' : ∀ (ν : Mem) m x, gI (sI ν 405 0 m x) 12 0 64 = gI ν 12 0 64 := by intros; simp [gI_sI]
  have g6 : ∀ (ν : Mem) x, gI (sI ν 12 0 64 x) 12 0 64 = x := by intros; simp [gI_sI]
  unfold mj_Mo_join_26
  simp only [rm_isCode, hd, and_self, decide_true, if_true, g, h4, if_false, m4, n1, n2, n3, ap, g', g6, G (4 * s) (by omega), G (4 * s + 1) (by omega), G (4 * s + 2) (by omega), G (4 * s + 3) (by omega), C (4 * s) (by omega), C (4 * s + 1) (by omega), C (4 * s + 2) (by omega), C (4 * s + 3) (by omega)]
theorem op_join {μ : Mem} {n : Nat} (I : InvN n μ) (a b c d : Int32) : ∃ r ν1 ν2, m_Fo_join a b c d μ = some (r, ν1) ∧ m_Mo_join a b c d ν1 = some (r, ν2) ∧ InvN n ν2 := by
  obtain ⟨s, hs, s1, s2, s3⟩ := I.2.2.2.2.2.2.2.2.1
  by_cases h : (0 ≤ a.toInt ∧ a.toInt ≤ 65535) ∧ (0 ≤ b.toInt ∧ b.toInt ≤ 65535) ∧ (0 ≤ d.toInt ∧ d.toInt ≤ 65535) ∧ (c = -1 ∨ (0 ≤ c.toInt ∧ c.toInt ≤ 65535))
  · obtain ⟨ha, hb, hd, hc⟩ := h
    have eF : m_Fo_join a b c d μ = mj_Fo_join_36 a b c d μ := by
      simp only [m_Fo_join, rg_isCode, ha, hb, hd, and_self, decide_true, if_true]
      rcases hc with hc | hc
      · rw [if_pos hc]; split <;> rfl
      · rw [if_pos (decide_eq_true hc)]
    have eM : ∀ ν, m_Mo_join a b c d ν = mj_Mo_join_26 a b c d ν := by
      intro ν
      simp only [m_Mo_join, rm_isCode, ha, hb, and_self, decide_true, if_true]
      rcases hc with hc | hc
      · rw [if_pos hc]
      · rw [if_pos (decide_eq_true hc)]; split <;> rfl
    by_cases h40 : s < 40
    · have e1 : m_Fo_join a b c d μ = some (nI (s + 1), sI (sI (sI (sI (sI μ 600 0 s a) 600 1 s b) 600 2 s c) 201 0 s d) 5 0 2 (nI (s + 1))) := by
        rw [eF, join_C a b c d s1 h40]
      generalize hν : sI (sI (sI (sI (sI μ 600 0 s a) 600 1 s b) 600 2 s c) 201 0 s d) 5 0 2 (nI (s + 1)) = ν1 at e1
      have g : gI ν1 12 0 64 = nI s := by rw [← hν]; simp [gI_sI, s2]
      have e2 : m_Mo_join a b c d ν1 = some (nI (s + 1), sI (sI (sI (sI (sI ν1 405 0 (4 * s) a) 405 0 (4 * s + 1) b) 405 0 (4 * s + 2) c) 405 0 (4 * s + 3) d) 12 0 64 (nI (s + 1))) := by
        rw [eM, join_M a b c d hd g h40]
      refine ⟨_, _, _, e1, e2, inv_RU I (S := [201, 405, 600, 1502, 2264]) (by decide) (((fm_Fo_join e1).mono (by decide)).tr ((fm_Mo_join e2).mono (by decide))) ⟨s + 1, by omega, by rw [← hν]; simp [gI_sI], by simp [gI_sI], fun k hk => ?_⟩⟩
      rw [← hν]
      unfold bI at *
      by_cases q : k = s
      · subst q
        refine ⟨fun i hi => ?_, ?_, ?_, ?_, ?_, ?_⟩
        · rcases (show i = 0 ∨ i = 1 ∨ i = 2 by omega) with rfl | rfl | rfl <;> simp [gI_sI]
        · simp [gI_sI]
        · simp [gI_sI]; exact ha
        · simp [gI_sI]; exact hb
        · simp [gI_sI]
          rcases hc with hc | hc
          · rw [hc, show (-1 : Int32).toInt = -1 from rfl]; omega
          · omega
        · simp [gI_sI]; exact hd
      · obtain ⟨t1, t2, t3, t4, t5, t6⟩ := s3 k (by omega)
        refine ⟨fun i hi => ?_, ?_, ?_, ?_, ?_, ?_⟩
        · have := t1 i hi
          have q1 : ¬ (4 * k + i = 4 * s) := by omega
          have q2 : ¬ (4 * k + i = 4 * s + 1) := by omega
          have q3 : ¬ (4 * k + i = 4 * s + 2) := by omega
          have q4 : ¬ (4 * k + i = 4 * s + 3) := by omega
          simp [gI_sI, q, q1, q2, q3, q4]; exact this
        · have q1 : ¬ (4 * k + 3 = 4 * s) := by omega
          have q2 : ¬ (4 * k + 3 = 4 * s + 1) := by omega
          have q3 : ¬ (4 * k + 3 = 4 * s + 2) := by omega
          have q4 : ¬ (4 * k = 4 * s) := by omega
          simp [gI_sI, q, q1, q2, q3, q4]; exact t2
        · simp [gI_sI, q]; exact t3
        · simp [gI_sI, q]; exact t4
        · simp [gI_sI, q]; exact t5
        · simp [gI_sI, q]; exact t6
    · have h6 : s = 40 := by omega
      subst h6
      refine ⟨-1, μ, μ, ?_, ?_, I⟩
      · rw [eF]
        simp only [mj_Fo_join_36, m_Li_addRule, s1, show (40 : Int32) = nI 40 from rfl, nlt (show 40 < 2147483648 by omega) (show 40 < 2147483648 by omega), Nat.lt_irrefl, if_false]
        rfl
      · rw [eM]
        simp only [mj_Mo_join_26, rm_isCode, hd, and_self, decide_true, if_true, s2]
        rfl
  · refine ⟨-1, μ, μ, ?_, ?_, I⟩
    · simp only [m_Fo_join, rg_isCode, decide_eq_true_eq]
      by_cases ha : 0 ≤ a.toInt ∧ a.toInt ≤ 65535
      · by_cases hb : 0 ≤ b.toInt ∧ b.toInt ≤ 65535
        · by_cases hd : 0 ≤ d.toInt ∧ d.toInt ≤ 65535
          · rw [if_pos ha, if_pos hb, if_pos hd, if_neg (fun hc => h ⟨ha, hb, hd, Or.inr hc⟩), if_neg (fun hc => h ⟨ha, hb, hd, Or.inl hc⟩)]
          · rw [if_pos ha, if_pos hb, if_neg hd]
        · rw [if_pos ha, if_neg hb]
      · rw [if_neg ha]
    · simp only [m_Mo_join, mj_Mo_join_26, rm_isCode, decide_eq_true_eq]
      by_cases ha : 0 ≤ a.toInt ∧ a.toInt ≤ 65535
      · by_cases hb : 0 ≤ b.toInt ∧ b.toInt ≤ 65535
        · rw [if_pos ha, if_pos hb]
          by_cases hd : 0 ≤ d.toInt ∧ d.toInt ≤ 65535
          · rw [if_neg (fun hc => h ⟨ha, hb, hd, Or.inl hc⟩), if_neg (fun hc => h ⟨ha, hb, hd, Or.inr hc⟩)]
          · rw [if_neg hd]
            split
            · rfl
            · split <;> rfl
        · rw [if_pos ha, if_neg hb]
      · rw [if_neg ha]
