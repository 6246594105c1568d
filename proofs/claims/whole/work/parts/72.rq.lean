theorem rnd_q {a b : Int64} (hb : 0 < b.toInt) : ∃ q m : Int64, rnd a b = rdq b q m ∧ q.toInt = a.toInt / b.toInt ∧ m.toInt = a.toInt % b.toInt := by
  have p : (0 : Int64) ≤ b := u_le.mpr (by show (0 : Int) ≤ b.toInt; omega)
  obtain ⟨e1, e2⟩ := rem_t (z := a) hb
  have al := u_lo a
  have ah := u_hi a
  have bh := u_hi b
  have d1 := Int.mul_tdiv_add_tmod a.toInt b.toInt
  have d2 : (a.toInt.tmod b.toInt) < b.toInt := Int.tmod_lt_of_pos _ hb
  have d3 : -b.toInt < a.toInt.tmod b.toInt := Int.lt_tmod_of_pos a.toInt hb
  unfold rnd
  simp only [if_pos p]
  unfold rdp
  by_cases h : 0 ≤ a - a / b * b
  · have h' : (0 : Int) ≤ a.toInt.tmod b.toInt := by have := u_le.mp h; rw [e1] at this; exact this
    rw [if_pos h]
    refine ⟨_, _, rfl, ?_, ?_⟩
    · rw [e2]
      exact ((Int.ediv_emod_unique hb).mpr ⟨by omega, h', d2⟩).1.symm
    · rw [e1]
      exact ((Int.ediv_emod_unique (q := a.toInt.tdiv b.toInt) hb).mpr ⟨by omega, h', d2⟩).2.symm
  · have h' : a.toInt.tmod b.toInt < 0 := by
      have : ¬ (0 : Int) ≤ (a - a / b * b).toInt := fun q => h (u_le.mpr q)
      rw [e1] at this; omega
    rw [if_neg h]
    have u : a.toInt / b.toInt = a.toInt.tdiv b.toInt - 1 ∧ a.toInt % b.toInt = a.toInt.tmod b.toInt + b.toInt := (Int.ediv_emod_unique hb).mpr ⟨by rw [Int.mul_sub]; omega, by omega, by omega⟩
    refine ⟨_, _, rfl, ?_, ?_⟩
    · rw [u_sub, e2, u.1]; rfl
      rw [e2]
      have b2 : 2 ≤ b.toInt := by
        by_cases w : b.toInt = 1
        · rw [w, Int.tmod_one] at h'; omega
        · omega
      show _ ≤ a.toInt.tdiv b.toInt - 1 ∧ a.toInt.tdiv b.toInt - 1 ≤ _
      have k1 : -9223372036854775808 ≤ a.toInt / b.toInt := by
        rw [Int.le_ediv_iff_mul_le hb]
        have : -9223372036854775808 * b.toInt ≤ -9223372036854775808 * 1 := Int.mul_le_mul_of_nonpos_left (by omega) (by omega)
        omega
      have k2 : a.toInt / b.toInt ≤ 9223372036854775807 := by
        have : a.toInt / b.toInt < 9223372036854775808 := by
          rw [Int.ediv_lt_iff_lt_mul hb]
          have : (9223372036854775808 : Int) * 1 ≤ 9223372036854775808 * b.toInt := Int.mul_le_mul_of_nonneg_left (by omega) (by omega)
          omega
        omega
      omega
    · rw [u_add, e1, u.2]
      rw [e1]; omega
theorem rdq_b {b q m : Int64} (hb : b.toInt ≤ 4611686018427387904) (h0 : 0 ≤ m.toInt) (h1 : m.toInt < b.toInt) (hq : q.toInt < 9223372036854775807) : (rdq b q m).toInt = q.toInt ∨ ((rdq b q m).toInt = q.toInt + 1 ∧ b.toInt ≤ 2 * m.toInt) := by
  have e : (2 * m).toInt = 2 * m.toInt := by rw [u_mul]; rfl; show _ ≤ 2 * m.toInt ∧ 2 * m.toInt ≤ _; omega
  have e1 : (q + 1).toInt = q.toInt + 1 := by rw [u_add]; rfl; show _ ≤ q.toInt + 1 ∧ q.toInt + 1 ≤ _; have := u_lo q; omega
  unfold rdq
  by_cases w : b < 2 * m
  · rw [if_pos w]
    have := u_lt.mp w
    right; exact ⟨e1, by omega⟩
  · rw [if_neg w]
    by_cases w2 : 2 * m = b
    · rw [if_pos w2]
      have := u_eq.mp w2
      by_cases w3 : q &&& 1 = 0
      · rw [if_pos w3]; left; rfl
      · rw [if_neg w3]; right; exact ⟨e1, by omega⟩
    · rw [if_neg w2]; left; rfl
/-- a number that the programs know -/
def B9 (x : Int32) : Prop := bI x (-1000000000) 1000000000
theorem rnd64 {v : Int64} (h : -1000000000 ≤ v.toInt ∧ v.toInt ≤ 1000000000) : (64 * rnd v 64).toInt = 64 * (rnd v 64).toInt ∧ -1000000000 ≤ 64 * (rnd v 64).toInt ∧ 64 * (rnd v 64).toInt ≤ 1000000000 := by
  obtain ⟨q, m, e, h1, h2⟩ := rnd_q (a := v) (b := 64) (by decide)
  rw [show (64 : Int64).toInt = 64 from rfl] at h1 h2
  have := rdq_b (b := 64) (q := q) (m := m) (by decide) (by omega) (by show _ < (64 : Int); omega) (by omega)
  rw [← e, show (64 : Int64).toInt = 64 from rfl] at this
  have k : -1000000000 ≤ 64 * (rnd v 64).toInt ∧ 64 * (rnd v 64).toInt ≤ 1000000000 := by omega
  refine ⟨?_, k⟩
  rw [u_mul]; rfl
  show _ ≤ 64 * _ ∧ 64 * _ ≤ _
  omega
theorem rnd1024 {v : Int64} (h : -65536000 ≤ v.toInt ∧ v.toInt ≤ 65536000) : -100000 ≤ (rnd v 1024).toInt ∧ (rnd v 1024).toInt ≤ 100000 := by
  obtain ⟨q, m, e, h1, h2⟩ := rnd_q (a := v) (b := 1024) (by decide)
  rw [show (1024 : Int64).toInt = 1024 from rfl] at h1 h2
  have := rdq_b (b := 1024) (q := q) (m := m) (by decide) (by omega) (by show _ < (1024 : Int); omega) (by omega)
  rw [← e, show (1024 : Int64).toInt = 1024 from rfl] at this
  omega
/-- what fits into an int comes back from it -/
theorem back {v : Int64} (h : -2147483648 ≤ v.toInt ∧ v.toInt ≤ 2147483647) : v.toInt32.toInt64 = v ∧ v.toInt32.toInt = v.toInt := by
  have e : v.toInt32.toInt = v.toInt := by
    rw [Int64.toInt_toInt32, Int.bmod_eq_of_le] <;> omega
  exact ⟨by rw [u_eq, i64, e], e⟩
