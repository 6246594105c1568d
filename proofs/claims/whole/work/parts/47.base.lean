theorem gu_nI {α : Type} {l n : Nat} {x : Option α} (h : l < n) (hb : l < 2147483648) : gu (nI l) n x = x := by
  unfold gu
  rw [nI_toInt hb, if_pos ⟨by omega, by omega⟩]
theorem gu_ok {α : Type} {i : Int32} {n : Nat} {x : Option α} (h : 0 ≤ i.toInt ∧ i.toInt < (n : Int)) : gu i n x = x := if_pos h
theorem i64 (x : Int32) : x.toInt64.toInt = x.toInt := by simp
theorem within_b {y a b : Int64} {μ : Mem} : m_Fo_within y a b μ = decide (a.toInt ≤ y.toInt ∧ y.toInt ≤ b.toInt) := by
  unfold m_Fo_within
  by_cases h1 : y < a
  · rw [if_pos h1]
    have := Int64.lt_iff_toInt_lt.mp h1
    symm; rw [decide_eq_false_iff_not]; omega
  · rw [if_neg h1]
    have h1' : ¬ y.toInt < a.toInt := fun q => h1 (Int64.lt_iff_toInt_lt.mpr q)
    by_cases h2 : b < y
    · rw [if_pos h2]
      have := Int64.lt_iff_toInt_lt.mp h2
      symm; rw [decide_eq_false_iff_not]; omega
    · rw [if_neg h2]
      have h2' : ¬ b.toInt < y.toInt := fun q => h2 (Int64.lt_iff_toInt_lt.mpr q)
      symm; rw [decide_eq_true_iff]; omega
theorem t_lt {a b : Int32} : a < b ↔ a.toInt < b.toInt := Int32.lt_iff_toInt_lt
theorem t_le {a b : Int32} : a ≤ b ↔ a.toInt ≤ b.toInt := Int32.le_iff_toInt_le
theorem t_eq {a b : Int32} : a = b ↔ a.toInt = b.toInt := Int32.toInt_inj.symm
theorem t_lo (a : Int32) : -2147483648 ≤ a.toInt := by have := a.minValue_le_toInt; simpa using this
theorem t_hi (a : Int32) : a.toInt ≤ 2147483647 := by have h : a.toInt ≤ Int32.maxValue.toInt := a.toInt_le; rw [show Int32.maxValue.toInt = 2147483647 by decide] at h; exact h
theorem t_add {a b : Int32} (h : -2147483648 ≤ a.toInt + b.toInt ∧ a.toInt + b.toInt ≤ 2147483647) : (a + b).toInt = a.toInt + b.toInt := by
  rw [Int32.toInt_add, Int.bmod_eq_of_le] <;> omega
theorem t_sub {a b : Int32} (h : -2147483648 ≤ a.toInt - b.toInt ∧ a.toInt - b.toInt ≤ 2147483647) : (a - b).toInt = a.toInt - b.toInt := by
  rw [Int32.toInt_sub, Int.bmod_eq_of_le] <;> omega
theorem t_mul {a b : Int32} (h : -2147483648 ≤ a.toInt * b.toInt ∧ a.toInt * b.toInt ≤ 2147483647) : (a * b).toInt = a.toInt * b.toInt := by
  rw [Int32.toInt_mul, Int.bmod_eq_of_le] <;> omega
theorem nI_lit (k : Nat) : (OfNat.ofNat k : Int32) = nI k := rfl
/-- an int that is 0 at least and below n -/
theorem ix_of {x : Int32} {n : Nat} (h0 : 0 ≤ x.toInt) (h1 : x.toInt < n) (hn : n ≤ 2147483648) : ∃ j, j < n ∧ x = nI j := by
  refine ⟨x.toInt.toNat, by omega, ?_⟩
  rw [t_eq, nI_toInt (by omega)]
  omega
theorem nI_inj {a b : Nat} (ha : a < 2147483648) (hb : b < 2147483648) (h : nI a = nI b) : a = b := by
  have := t_eq.mp h
  rw [nI_toInt ha, nI_toInt hb] at this
  omega
/-- the number of letters, and where they are -/
def IA (n : Nat) (μ : Mem) : Prop := n ≤ 32 ∧ gI μ 11 0 1 = nI n ∧ gI μ 12 0 0 = nI n ∧ (∀ l, gR μ 320 0 l = if l < n then some l else none) ∧
  (∀ l, l < n → gI μ 341 0 l = gI μ 4 l 0 ∧ gI μ 342 0 l = gI μ 4 l 1 ∧ (0 ≤ (gI μ 4 l 0).toInt ∧ (gI μ 4 l 0).toInt ≤ 65535) ∧ (0 ≤ (gI μ 4 l 1).toInt ∧ (gI μ 4 l 1).toInt ≤ 32000)) ∧
  (∀ i j, i < n → j < n → gI μ 4 i 0 = gI μ 4 j 0 → i = j)
theorem letterOf_ok {n l : Nat} {μ : Mem} (A : IA n μ) (h : l < n) : m_Fo_letterOf (nI l) μ = some (some l) := by
  obtain ⟨h32, a1, a2, a3, a4, a5⟩ := A
  unfold m_Fo_letterOf
  have e1 : ((nI n - 1 : Int32).toInt64).toInt = (n : Int) - 1 := by
    rw [i64, t_sub] <;> rw [nI_toInt (by omega)] <;> simp <;> omega
  rw [within_b, a1, i64, e1, nI_toInt (by omega), if_pos (by simp; omega), gu_nI (by omega) (by omega), nI_clamp (by omega), a3]
  simp [ap, h]
theorem letterOf_no {n : Nat} {μ : Mem} {x : Int32} (A : IA n μ) (h : ¬ (0 ≤ x.toInt ∧ x.toInt < n)) : m_Fo_letterOf x μ = some none := by
  obtain ⟨h32, a1, a2, a3, a4, a5⟩ := A
  unfold m_Fo_letterOf
  have e1 : ((nI n - 1 : Int32).toInt64).toInt = (n : Int) - 1 := by
    rw [i64, t_sub] <;> rw [nI_toInt (by omega)] <;> simp <;> omega
  rw [within_b, a1, i64, e1, if_neg (by simp; omega)]
theorem isLetter_b {n : Nat} {μ : Mem} {x : Int32} (h32 : n ≤ 32) (a2 : gI μ 12 0 0 = nI n) : m_Mo_isLetter x μ = decide (0 ≤ x.toInt ∧ x.toInt < n) := by
  unfold m_Mo_isLetter
  rw [a2]
  by_cases h1 : x < 0
  · rw [if_pos h1]
    have := t_lt.mp h1
    symm; rw [decide_eq_false_iff_not]
    simp at this; omega
  · rw [if_neg h1]
    have h1' : ¬ x.toInt < (0 : Int32).toInt := fun q => h1 (t_lt.mpr q)
    simp at h1'
    by_cases h2 : nI n ≤ x
    · rw [if_pos h2]
      have := t_le.mp h2
      rw [nI_toInt (by omega)] at this
      symm; rw [decide_eq_false_iff_not]; omega
    · rw [if_neg h2]
      have h2' : ¬ (nI n).toInt ≤ x.toInt := fun q => h2 (t_le.mpr q)
      rw [nI_toInt (by omega)] at h2'
      symm; rw [decide_eq_true_iff]; omega
/-- a number of a letter, or none: both sides see it alike -/
theorem lcase {n : Nat} {μ : Mem} (A : IA n μ) (x : Int32) : (m_Fo_letterOf x μ = some none ∧ ∀ ν, gI ν 12 0 0 = gI μ 12 0 0 → m_Mo_isLetter x ν = false) ∨ ∃ l, l < n ∧ x = nI l ∧ m_Fo_letterOf x μ = some (some l) ∧ ∀ ν, gI ν 12 0 0 = gI μ 12 0 0 → m_Mo_isLetter x ν = true := by
  by_cases h : 0 ≤ x.toInt ∧ x.toInt < n
  · right
    obtain ⟨l, hl, rfl⟩ := ix_of h.1 h.2 (by have := A.1; omega)
    exact ⟨l, hl, rfl, letterOf_ok A hl, fun ν e => by rw [isLetter_b A.1 (e.trans A.2.2.1)]; simp [h]⟩
  · left
    exact ⟨letterOf_no A h, fun ν e => by rw [isLetter_b A.1 (e.trans A.2.2.1)]; simp only [h, decide_false]⟩
