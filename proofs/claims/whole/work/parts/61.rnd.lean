theorem sgn (x : Int64) : (0 ≤ x) ↔ x.toBitVec.msb = false := by
  rw [Int64.le_iff_toInt_le, BitVec.msb_eq_toInt]
  show (0 : Int) ≤ x.toBitVec.toInt ↔ _
  simp
theorem and1 (q : Int64) : q &&& 1 = 0 ∨ q &&& 1 = 1 := by
  have h : (q &&& 1).toBitVec = q.toBitVec &&& 1#64 := rfl
  rw [BitVec.and_one_eq_setWidth_ofBool_getLsbD] at h
  rw [← Int64.toBitVec_inj, ← Int64.toBitVec_inj, h]
  cases q.toBitVec.getLsbD 0 <;> decide
theorem xor_sg {z x : Int64} (hx : 0 ≤ x) : (0 ≤ z ^^^ x) ↔ 0 ≤ z := by
  rw [sgn, sgn, Int64.toBitVec_xor, BitVec.msb_xor, (sgn x).mp hx, Bool.xor_false]
theorem u_lo (a : Int64) : -9223372036854775808 ≤ a.toInt := by have := a.minValue_le_toInt; simpa using this
theorem u_hi (a : Int64) : a.toInt ≤ 9223372036854775807 := by have h : a.toInt ≤ Int64.maxValue.toInt := a.toInt_le; rw [show Int64.maxValue.toInt = 9223372036854775807 by decide] at h; exact h
theorem u_sub {a b : Int64} (h : -9223372036854775808 ≤ a.toInt - b.toInt ∧ a.toInt - b.toInt ≤ 9223372036854775807) : (a - b).toInt = a.toInt - b.toInt := by
  rw [Int64.toInt_sub, Int.bmod_eq_of_le] <;> omega
theorem u_add {a b : Int64} (h : -9223372036854775808 ≤ a.toInt + b.toInt ∧ a.toInt + b.toInt ≤ 9223372036854775807) : (a + b).toInt = a.toInt + b.toInt := by
  rw [Int64.toInt_add, Int.bmod_eq_of_le] <;> omega
theorem u_mul {a b : Int64} (h : -9223372036854775808 ≤ a.toInt * b.toInt ∧ a.toInt * b.toInt ≤ 9223372036854775807) : (a * b).toInt = a.toInt * b.toInt := by
  rw [Int64.toInt_mul, Int.bmod_eq_of_le] <;> omega
theorem u_neg {a : Int64} (h : -9223372036854775808 < a.toInt) : (-a).toInt = -a.toInt := by
  have := u_hi a
  rw [Int64.toInt_neg, Int.bmod_eq_of_le] <;> omega
theorem u_lt {a b : Int64} : a < b ↔ a.toInt < b.toInt := Int64.lt_iff_toInt_lt
theorem u_le {a b : Int64} : a ≤ b ↔ a.toInt ≤ b.toInt := Int64.le_iff_toInt_le
theorem u_eq {a b : Int64} : a = b ↔ a.toInt = b.toInt := Int64.toInt_inj.symm
/-- what is left of z by x -/
theorem rem_t {z x : Int64} (hx : 0 < x.toInt) : (z - z / x * x).toInt = z.toInt.tmod x.toInt ∧ (z / x).toInt = z.toInt.tdiv x.toInt := by
  have h1 := Int.tmod_add_mul_tdiv z.toInt x.toInt
  have h2 := Int.tmod_lt_of_pos z.toInt hx
  have hz1 := u_lo z
  have hz2 := u_hi z
  have hx2 := u_hi x
  have key : ∃ P : Int, P = x.toInt * z.toInt.tdiv x.toInt ∧ (0 ≤ z.toInt → 0 ≤ z.toInt.tmod x.toInt ∧ 0 ≤ z.toInt.tdiv x.toInt ∧ z.toInt.tdiv x.toInt ≤ P) ∧ (z.toInt < 0 → z.toInt.tmod x.toInt ≤ 0 ∧ -x.toInt < z.toInt.tmod x.toInt ∧ z.toInt.tdiv x.toInt ≤ 0 ∧ P ≤ z.toInt.tdiv x.toInt) := by
    refine ⟨_, rfl, fun h => ?_, fun h => ?_⟩
    · have q := Int.tdiv_nonneg h (Int.le_of_lt hx)
      exact ⟨Int.tmod_nonneg _ h, q, by
        have := Int.mul_le_mul_of_nonneg_right (show 1 ≤ x.toInt by omega) q
        omega⟩
    · have n1 : (-z.toInt).tmod x.toInt = -(z.toInt.tmod x.toInt) := Int.neg_tmod ..
      have n2 : (-z.toInt).tdiv x.toInt = -(z.toInt.tdiv x.toInt) := Int.neg_tdiv ..
      have q := Int.tdiv_nonneg (show 0 ≤ -z.toInt by omega) (Int.le_of_lt hx)
      have q1 := Int.tmod_nonneg x.toInt (show 0 ≤ -z.toInt by omega)
      have q2 := Int.tmod_lt_of_pos (-z.toInt) hx
      rw [n1] at q1 q2
      rw [n2] at q
      refine ⟨by omega, by omega, by omega, ?_⟩
      have := Int.mul_le_mul_of_nonneg_right (show 1 ≤ x.toInt by omega) q
      rw [Int.mul_neg, Int.mul_neg] at this
      omega
  obtain ⟨P, hP, k1, k2⟩ := key
  rw [← hP] at h1
  have d1 : (z / x).toInt = z.toInt.tdiv x.toInt := by
    rw [Int64.toInt_div, Int.bmod_eq_of_le]
    · by_cases h : 0 ≤ z.toInt
      · have := k1 h; omega
      · have := k2 (by omega); omega
    · by_cases h : 0 ≤ z.toInt
      · have := k1 h; omega
      · have := k2 (by omega); omega
  have d2 : (z / x * x).toInt = P := by
    rw [u_mul] <;> rw [d1, Int.mul_comm, ← hP]
    by_cases h : 0 ≤ z.toInt
    · have := k1 h; omega
    · have := k2 (by omega); omega
  refine ⟨?_, d1⟩
  rw [u_sub] <;> rw [d2]
  · omega
  · by_cases h : 0 ≤ z.toInt
    · have := k1 h; omega
    · have := k2 (by omega); omega
/-- the quotient, rounded -/
def rdq (x q m : Int64) : Int64 := if x < 2 * m then q + 1 else if 2 * m = x then (if q &&& 1 = 0 then q else q + 1) else q
def rdp (z x : Int64) : Int64 := if 0 ≤ z - z / x * x then rdq x (z / x) (z - z / x * x) else rdq x (z / x - 1) (z - z / x * x + x)
def rnd (a b : Int64) : Int64 := rdp (if 0 ≤ b then a else -a) (if 0 ≤ b then b else -b)
theorem rd_M62 {a b x q m : Int64} {μ : Mem} : mj_Mo_rounded_62 a b μ x q m = some (rdq x q m) := by
  unfold mj_Mo_rounded_62 mj_Mo_rounded_95 rdq
  rcases and1 q with h | h
  · rw [h, if_neg (show ¬ (0 : Int64) = 1 by decide), if_pos rfl]
    split
    · rfl
    · split <;> rfl
  · rw [h, if_pos rfl, if_neg (show ¬ (1 : Int64) = 0 by decide)]
    split
    · rfl
    · split <;> rfl
theorem rd_M26 {a b z x : Int64} {μ : Mem} (hx : 0 < x.toInt) : mj_Mo_rounded_26 a b μ z x = some (rdp z x) := by
  have h0 : ¬ x = 0 := fun q => by rw [q] at hx; exact absurd hx (by decide)
  unfold mj_Mo_rounded_26 rdp
  simp only [gzl, h0, if_false, ap, rd_M62]
  split <;> rfl
theorem rd_F20 {a b z : Int64} {μ : Mem} (hb : 0 < (m_Ma_abs b μ).toInt) : mj_Fo_rounded_20 a b μ z = some (rdp z (m_Ma_abs b μ)) := by
  generalize hx : m_Ma_abs b μ = x at hb
  have h0 : ¬ x = 0 := fun q => by rw [q] at hb; exact absurd hb (by decide)
  have x0 : 0 ≤ x := u_le.mpr (by show (0 : Int) ≤ _; omega)
  obtain ⟨r1, r2⟩ := rem_t (z := z) hb
  have fd : m_Ma_floorDiv z x μ = some (if 0 ≤ z - z / x * x then z / x else z / x - 1) := by
    unfold m_Ma_floorDiv
    simp only [gzl, h0, if_false, ap, xor_sg x0]
    by_cases q : 0 ≤ z
    · rw [if_pos q, if_pos]
      rw [u_le, r1]
      exact Int.tmod_nonneg _ (u_le.mp q)
    · rw [if_neg q]
      have q' : ¬ (0 : Int64).toInt ≤ z.toInt := fun w => q (u_le.mpr w)
      have q'' : z.toInt < 0 := by have : (0 : Int64).toInt = 0 := rfl; omega
      have n1 : (-z.toInt).tmod x.toInt = -(z.toInt.tmod x.toInt) := Int.neg_tmod ..
      have q1 := Int.tmod_nonneg x.toInt (show 0 ≤ -z.toInt by omega)
      rw [n1] at q1
      by_cases w : z / x * x = z
      · rw [if_pos w, if_pos]
        rw [w, show z - z = 0 by grind]
        decide
      · rw [if_neg w, if_neg]
        intro w2
        have w3 := u_le.mp w2
        rw [r1, show (0 : Int64).toInt = 0 from rfl] at w3
        apply w
        have w4 : (z - z / x * x).toInt = (0 : Int64).toInt := by rw [r1, show (0 : Int64).toInt = 0 from rfl]; omega
        have := u_eq.mpr w4
        grind
  unfold mj_Fo_rounded_20
  rw [hx]
  simp only [ap, fd, Option.bind_some, mj_Fo_rounded_76, mj_Fo_rounded_80, mj_Fo_rounded_81]
  rw [if_neg (show ¬ (1 : Int32) = 0 by decide)]
  simp only [if_true]
  unfold rdp
  by_cases q : 0 ≤ z - z / x * x
  · rw [if_pos q, if_pos q]
    unfold rdq
    split
    · rfl
    · split
      · split <;> rfl
      · rfl
  · rw [if_neg q, if_neg q]
    rw [show z - (z / x - 1) * x = z - z / x * x + x by grind]
    unfold rdq
    split
    · rfl
    · split
      · split <;> rfl
      · rfl
theorem rd_both {a b : Int64} {μ : Mem} (h0 : b.toInt ≠ 0) (h1 : -9223372036854775808 < b.toInt) : m_Fo_rounded a b μ = some (rnd a b) ∧ m_Mo_rounded a b μ = some (rnd a b) := by
  have hb : ¬ b = 0 := fun q => h0 (by rw [q]; rfl)
  unfold m_Fo_rounded m_Mo_rounded mj_Mo_rounded_12 rnd
  rw [if_neg hb]
  by_cases q : 0 ≤ b
  · have q' : (0 : Int) ≤ b.toInt := u_le.mp q
    have e : m_Ma_abs b μ = b := if_pos q
    simp only [if_pos q]
    exact ⟨by rw [rd_F20 (by rw [e]; omega), e], rd_M26 (by omega)⟩
  · have q' : ¬ (0 : Int) ≤ b.toInt := fun w => q (u_le.mpr w)
    have e : m_Ma_abs b μ = -b := if_neg q
    have e2 := u_neg h1
    simp only [if_neg q]
    exact ⟨by rw [rd_F20 (by rw [e, e2]; omega), e], rd_M26 (by rw [e2]; omega)⟩
