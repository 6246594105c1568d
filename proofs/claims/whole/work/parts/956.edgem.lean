/-- the model's reckoning of a mark -/
theorem mark_M {v h : Int64} {ξ : Mem} (hh : 0 < h.toInt ∧ h.toInt ≤ 200000) (hv : -1300000000000 ≤ v.toInt ∧ v.toInt ≤ 1300000000000) : ∃ r q : Int64, m_Mo_floor (-v) (64 * h) ξ = some r ∧ m_Mo_floor (-r - 1 - 1) 2 ξ = some q ∧ (q + 128).toInt = -((-16320 * h.toInt - v.toInt) / (128 * h.toInt)) - 1 ∧ (-10000000000000 ≤ (q + 128).toInt ∧ (q + 128).toInt ≤ 10000000000000) := by
  have e64 : (64 : Int64).toInt = 64 := by decide
  have e2 : (2 : Int64).toInt = 2 := by decide
  have e1 : (1 : Int64).toInt = 1 := by decide
  have e128 : (128 : Int64).toInt = 128 := by decide
  have p1 : (64 * h).toInt = 64 * h.toInt := by rw [u_mul, e64]; rw [e64]; omega
  have p2 : (-v).toInt = -v.toInt := u_neg (by omega)
  obtain ⟨r, f1, f2⟩ := floorM (v := -v) (x := 64 * h) (ξ := ξ) (by rw [p1]; omega)
  rw [p1, p2] at f2
  have hp : 0 < 64 * h.toInt := by omega
  have rb : -1300000000000 ≤ r.toInt ∧ r.toInt ≤ 1300000000000 := by
    refine ⟨?_, ?_⟩
    · rw [f2, Int.le_ediv_iff_mul_le hp]
      have : -1300000000000 * (64 * h.toInt) ≤ -1300000000000 * 1 := Int.mul_le_mul_of_nonpos_left (by omega) (by omega)
      omega
    · have : r.toInt < 1300000000001 := by
        rw [f2, Int.ediv_lt_iff_lt_mul hp]
        have : (1300000000001 : Int) * 1 ≤ 1300000000001 * (64 * h.toInt) := Int.mul_le_mul_of_nonneg_left (by omega) (by omega)
        omega
      omega
  have p3 : (-r).toInt = -r.toInt := u_neg (by omega)
  have p4 : (-r - 1).toInt = -r.toInt - 1 := by rw [u_sub, p3, e1]; rw [p3, e1]; omega
  have p5 : (-r - 1 - 1).toInt = -r.toInt - 1 - 1 := by rw [u_sub, p4, e1]; rw [p4, e1]; omega
  obtain ⟨q, g1, g2⟩ := floorM (v := -r - 1 - 1) (x := 2) (ξ := ξ) (by decide)
  rw [p5, e2] at g2
  have p6 : (q + 128).toInt = q.toInt + 128 := by rw [u_add, e128]; rw [e128]; omega
  have key := edge_cnt (h := h.toInt) (v := v.toInt) hh.1
  refine ⟨r, q, f1, g1, ?_, by rw [p6]; omega⟩
  rw [p6, g2, key, f2]; omega
