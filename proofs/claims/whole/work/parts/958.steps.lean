theorem cross_M {xk yk xn yn s : Int32} {y : Int64} {ξ : Mem} (b1 : bI xk (-100000) 100000) (b2 : bI yk (-100000) 100000) (b3 : bI xn (-100000) 100000) (b4 : bI yn (-100000) 100000) (hs : 4 ≤ s.toInt ∧ s.toInt ≤ 32) (hy : -100000 ≤ y.toInt ∧ y.toInt ≤ 100000) {hg : Int64} (h1 : (yk.toInt < yn.toInt ∧ hg.toInt = yn.toInt - yk.toInt ∧ s.toInt * yk.toInt ≤ y.toInt) ∨ (yn.toInt < yk.toInt ∧ hg.toInt = yk.toInt - yn.toInt ∧ y.toInt < s.toInt * yk.toInt)) :
    (xk.toInt64 * s.toInt64 * hg + (xn - xk).toInt64 * m_Mo_size (y - yk.toInt64 * s.toInt64) ξ).toInt = (if yk.toInt < yn.toInt then vv xk.toInt yk.toInt xn.toInt yn.toInt s.toInt y.toInt else vv xn.toInt yn.toInt xk.toInt yk.toInt s.toInt y.toInt) ∧ (-1300000000000 ≤ (xk.toInt64 * s.toInt64 * hg + (xn - xk).toInt64 * m_Mo_size (y - yk.toInt64 * s.toInt64) ξ).toInt ∧ (xk.toInt64 * s.toInt64 * hg + (xn - xk).toInt64 * m_Mo_size (y - yk.toInt64 * s.toInt64) ξ).toInt ≤ 1300000000000) := by
  obtain ⟨b11, b12⟩ := b1
  obtain ⟨b21, b22⟩ := b2
  obtain ⟨b31, b32⟩ := b3
  obtain ⟨b41, b42⟩ := b4
  have m1 := mulb (A := 32) (B := 100000) (a := s.toInt) (b := xk.toInt) ⟨by omega, hs.2⟩ ⟨b11, b12⟩
  have m2 := mulb (A := 32) (B := 100000) (a := s.toInt) (b := yk.toInt) ⟨by omega, hs.2⟩ ⟨b21, b22⟩
  have hgb : 0 < hg.toInt ∧ hg.toInt ≤ 200000 := by omega
  have p1 : (xk.toInt64 * s.toInt64).toInt = s.toInt * xk.toInt := by rw [u_mul, i64, i64, Int.mul_comm]; rw [i64, i64, Int.mul_comm]; omega
  have p2 : (yk.toInt64 * s.toInt64).toInt = s.toInt * yk.toInt := by rw [u_mul, i64, i64, Int.mul_comm]; rw [i64, i64, Int.mul_comm]; omega
  have p3 : (y - yk.toInt64 * s.toInt64).toInt = y.toInt - s.toInt * yk.toInt := by rw [u_sub, p2]; rw [p2]; omega
  have d2 : (xn - xk).toInt = xn.toInt - xk.toInt := t_sub (by omega)
  have sz : (m_Mo_size (y - yk.toInt64 * s.toInt64) ξ).toInt = if yk.toInt < yn.toInt then y.toInt - s.toInt * yk.toInt else s.toInt * yk.toInt - y.toInt := by
    unfold m_Mo_size
    rcases h1 with ⟨q1, q2, q3⟩ | ⟨q1, q2, q3⟩
    · rw [if_pos (u_le.mpr (by rw [p3, show (0 : Int64).toInt = 0 from by decide]; omega)), if_pos q1, p3]
    · rw [if_neg (fun z => by have z' := u_le.mp z; rw [p3, show (0 : Int64).toInt = 0 from by decide] at z'; omega), if_neg (by omega), u_neg (by rw [p3]; omega), p3]; omega
  have m3 := mulb (A := 3200000) (B := 200000) (a := s.toInt * xk.toInt) (b := hg.toInt) (by omega) (by omega)
  generalize hz : m_Mo_size (y - yk.toInt64 * s.toInt64) ξ = z at sz ⊢
  have zb : -3300000 ≤ z.toInt ∧ z.toInt ≤ 3300000 := by rw [sz]; split <;> omega
  have m4 := mulb (A := 200000) (B := 3300000) (a := xn.toInt - xk.toInt) (b := z.toInt) (by omega) (by omega)
  have p4 : (xk.toInt64 * s.toInt64 * hg).toInt = s.toInt * xk.toInt * hg.toInt := by rw [u_mul, p1]; rw [p1]; omega
  have p5 : ((xn - xk).toInt64 * z).toInt = (xn.toInt - xk.toInt) * z.toInt := by rw [u_mul, i64, d2]; rw [i64, d2]; omega
  have p6 : (xk.toInt64 * s.toInt64 * hg + (xn - xk).toInt64 * z).toInt = s.toInt * xk.toInt * hg.toInt + (xn.toInt - xk.toInt) * z.toInt := by rw [u_add, p4, p5]; rw [p4, p5]; omega
  refine ⟨?_, by rw [p6]; omega⟩
  rw [p6]
  rcases h1 with ⟨q1, q2, q3⟩ | ⟨q1, q2, q3⟩
  · rw [if_pos q1] at sz ⊢
    rw [sz, q2]; rfl
  · rw [if_neg (by omega)] at sz ⊢
    rw [sz, q2, vv_sym]
