theorem rg_Fo (x : Int32) (a b : Int64) (μ : Mem) : m_Fo_within x.toInt64 a b μ = decide (a.toInt ≤ x.toInt ∧ x.toInt ≤ b.toInt) := by rw [within_b, i64]
theorem rg_isMaster (x : Int32) (μ : Mem) : m_Fo_isMaster x μ = decide (0 ≤ x.toInt ∧ x.toInt ≤ 2) := rg_Fo x 0 2 μ
theorem rg_isShort (x : Int32) (μ : Mem) : m_Fo_isShort x μ = decide (-32768 ≤ x.toInt ∧ x.toInt ≤ 32767) := rg_Fo x (-32768) 32767 μ
theorem rg_isClass (x : Int32) (μ : Mem) : m_Fo_isClass x μ = decide (0 ≤ x.toInt ∧ x.toInt ≤ 15) := rg_Fo x 0 15 μ
theorem rg_isBy (x : Int32) (μ : Mem) : m_Fo_isBy x μ = decide (-2000 ≤ x.toInt ∧ x.toInt ≤ 2000) := rg_Fo x (-2000) 2000 μ
theorem rg_isCode (x : Int32) (μ : Mem) : m_Fo_isCode x μ = decide (0 ≤ x.toInt ∧ x.toInt ≤ 65535) := rg_Fo x 0 65535 μ
theorem rg_isDots (x : Int32) (μ : Mem) : m_Fo_isDots x μ = decide (4 ≤ x.toInt ∧ x.toInt ≤ 32) := rg_Fo x 4 32 μ
/-- two comparisons, as the reference writes them -/
theorem rg_two {x a b : Int32} : (if x < a then false else if b < x then false else true) = decide (a.toInt ≤ x.toInt ∧ x.toInt ≤ b.toInt) := by
  by_cases h1 : x < a
  · rw [if_pos h1]
    have := t_lt.mp h1
    symm; rw [decide_eq_false_iff_not]; omega
  · rw [if_neg h1]
    have h1' : ¬ x.toInt < a.toInt := fun q => h1 (t_lt.mpr q)
    by_cases h2 : b < x
    · rw [if_pos h2]
      have := t_lt.mp h2
      symm; rw [decide_eq_false_iff_not]; omega
    · rw [if_neg h2]
      have h2' : ¬ b.toInt < x.toInt := fun q => h2 (t_lt.mpr q)
      symm; rw [decide_eq_true_iff]; omega
theorem rm_isShort (x : Int32) (μ : Mem) : m_Mo_isShort x μ = decide (-32768 ≤ x.toInt ∧ x.toInt ≤ 32767) := rg_two
theorem rm_isKern (x : Int32) (μ : Mem) : m_Mo_isKern x μ = decide (-2000 ≤ x.toInt ∧ x.toInt ≤ 2000) := rg_two
theorem lt_lit {x : Int32} {a : Int32} (h : a.toInt ≤ x.toInt) : ¬ x < a := fun q => by have := t_lt.mp q; omega
theorem ix16 (a b : Nat) : (16 : Int32) * nI a + nI b = nI (16 * a + b) := by rw [show (16 : Int32) = nI 16 from rfl, pk_mul, nI_add]
theorem ix32 (a b : Nat) : (32 : Int32) * nI a + nI b = nI (32 * a + b) := by rw [show (32 : Int32) = nI 32 from rfl, pk_mul, nI_add]
theorem ix8 (a b : Nat) : (8 : Int32) * nI a + nI b = nI (8 * a + b) := by rw [show (8 : Int32) = nI 8 from rfl, pk_mul, nI_add]
theorem ix100 (a b : Nat) : (100 : Int32) * nI a + nI b = nI (100 * a + b) := by rw [show (100 : Int32) = nI 100 from rfl, pk_mul, nI_add]
theorem op_weight {μ : Mem} {n : Nat} (I : InvN n μ) (a b : Int32) : ∃ r ν1 ν2, m_Fo_weight a b μ = some (r, ν1) ∧ m_Mo_weight a b ν1 = some (r, ν2) ∧ InvN n ν2 := by
  by_cases ha : 0 ≤ a.toInt ∧ a.toInt ≤ 2
  · obtain ⟨m, hm, rfl⟩ := ix_of (n := 3) ha.1 (by omega) (by omega)
    have k1 : ¬ nI m < 0 := lt_lit (by simpa using ha.1)
    have k2 : ¬ (2 : Int32) < nI m := fun q => by have := t_lt.mp q; rw [nI_toInt (by omega)] at this; simp at this; omega
    by_cases hb : -32768 ≤ b.toInt ∧ b.toInt ≤ 32767
    · have e1 : m_Fo_weight (nI m) b μ = some (true, sI μ 329 0 m b) := by
        simp only [m_Fo_weight, rg_isMaster, rg_isShort, ha, hb, and_self, decide_true, if_true, gu_nI hm (by omega), nI_clamp (show m < 2 ^ 31 by omega), ap]
      have e2 : m_Mo_weight (nI m) b (sI μ 329 0 m b) = some (true, sI (sI μ 329 0 m b) 398 0 m b) := by
        simp only [m_Mo_weight, k1, k2, rm_isShort, hb, and_self, decide_true, if_true, if_false, gu_nI hm (by omega), nI_clamp (show m < 2 ^ 31 by omega), ap]
      refine ⟨_, _, _, e1, e2, inv_WT I (S := [329, 398]) (by decide) (((fm_Fo_weight e1).mono (by decide)).tr ((fm_Mo_weight e2).mono (by decide))) ?_⟩
      intro m' hm'
      obtain ⟨w1, w2⟩ := I.2.2.2.2.2.2.2.1 m' hm'
      simp only [gI_sI, bI]
      by_cases q : m' = m
      · subst q; simp; exact hb
      · simp [q]; exact ⟨w1, w2⟩
    · refine ⟨false, μ, μ, ?_, ?_, I⟩
      · simp only [m_Fo_weight, rg_isMaster, rg_isShort, ha, hb, and_self, decide_true, decide_false, if_true]
        simp
      · simp only [m_Mo_weight, k1, k2, rm_isShort, hb, decide_false, if_false]
        simp
  · refine ⟨false, μ, μ, ?_, ?_, I⟩
    · simp only [m_Fo_weight, rg_isMaster, ha, decide_false]
      simp
    · unfold m_Mo_weight
      by_cases h1 : a < 0
      · simp [h1]
      · have h1' : ¬ a.toInt < 0 := fun q => h1 (t_lt.mpr (by simpa using q))
        have h2 : (2 : Int32) < a := t_lt.mpr (by show (2 : Int) < _; omega)
        simp [h1, h2]
