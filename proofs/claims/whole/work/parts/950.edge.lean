/-- how many samples lie left: the class's reckoning is the model's -/
theorem edge_cnt {h v : Int} (hh : 0 < h) : -((-16320 * h - v) / (128 * h)) = (-((-v) / (64 * h)) - 1 - 1) / 2 + 128 + 1 := by
  have e1 : (-16320 * h - v) / (64 * h) = (-v) / (64 * h) + (-255) := by
    rw [show -16320 * h - v = -v + 64 * h * (-255) by omega, Int.add_mul_ediv_left _ _ (by omega)]
  have e2 : (-16320 * h - v) / (128 * h) = (-16320 * h - v) / (64 * h) / 2 := by
    rw [Int.ediv_ediv_of_nonneg (by omega), show 64 * h * 2 = 128 * h by omega]
  rw [e2, e1]
  omega
/-- the mark of an edge from (xl, yl) up to (xh, yh) -/
def vv (xl yl xh yh s y : Int) : Int := s * xl * (yh - yl) + (xh - xl) * (y - s * yl)
def smp (xl yl xh yh s y : Int) : Int := -((-16320 * (yh - yl) - vv xl yl xh yh s y) / (128 * (yh - yl)))
/-- seen from the upper end it is the same -/
theorem vv_sym {xl yl xh yh s y : Int} : vv xl yl xh yh s y = s * xh * (yh - yl) + (xl - xh) * (s * yh - y) := by
  unfold vv
  grind
def cl (x : Int) : Nat := (max 0 (min 512 x)).toNat
theorem cl_le {x : Int} : cl x ≤ 512 := by unfold cl; omega
theorem left_C {j lo hi : Nat} {s : Int32} {y : Int64} {ν : Mem} (hlo : lo < 500) (hhi : hi < 500) (b1 : bI (gI ν 240 j lo) (-100000) 100000) (b2 : bI (gI ν 241 j lo) (-100000) 100000) (b3 : bI (gI ν 240 j hi) (-100000) 100000) (b4 : bI (gI ν 241 j hi) (-100000) 100000) (hs : 4 ≤ s.toInt ∧ s.toInt ≤ 32) (hy : -100000 ≤ y.toInt ∧ y.toInt ≤ 100000) (hr : (gI ν 241 j lo).toInt < (gI ν 241 j hi).toInt) :
    m_Im_samplesLeft j (nI lo) (nI hi) s y ν = some (nI (cl (smp (gI ν 240 j lo).toInt (gI ν 241 j lo).toInt (gI ν 240 j hi).toInt (gI ν 241 j hi).toInt s.toInt y.toInt))) := by
  obtain ⟨xl, hxl⟩ : ∃ x, x = gI ν 240 j lo := ⟨_, rfl⟩
  obtain ⟨yl, hyl⟩ : ∃ x, x = gI ν 241 j lo := ⟨_, rfl⟩
  obtain ⟨xh, hxh⟩ : ∃ x, x = gI ν 240 j hi := ⟨_, rfl⟩
  obtain ⟨yh, hyh⟩ : ∃ x, x = gI ν 241 j hi := ⟨_, rfl⟩
  rw [← hxl] at b1 ⊢
  rw [← hyl] at b2 hr ⊢
  rw [← hxh] at b3 ⊢
  rw [← hyh] at b4 hr ⊢
  obtain ⟨b11, b12⟩ := b1
  obtain ⟨b21, b22⟩ := b2
  obtain ⟨b31, b32⟩ := b3
  obtain ⟨b41, b42⟩ := b4
  have m1 := mulb (A := 32) (B := 100000) (a := s.toInt) (b := xl.toInt) ⟨by omega, hs.2⟩ ⟨b11, b12⟩
  have m2 := mulb (A := 32) (B := 100000) (a := s.toInt) (b := yl.toInt) ⟨by omega, hs.2⟩ ⟨b21, b22⟩
  have d1 : (yh - yl).toInt = yh.toInt - yl.toInt := t_sub (by omega)
  have d2 : (xh - xl).toInt = xh.toInt - xl.toInt := t_sub (by omega)
  have p1 : (s * xl).toInt = s.toInt * xl.toInt := t_mul (by omega)
  have p2 : (s.toInt64 * yl.toInt64).toInt = s.toInt * yl.toInt := by rw [u_mul, i64, i64]; rw [i64, i64]; omega
  have p3 : (y - s.toInt64 * yl.toInt64).toInt = y.toInt - s.toInt * yl.toInt := by rw [u_sub, p2]; rw [p2]; omega
  have m3 := mulb (A := 3200000) (B := 200000) (a := s.toInt * xl.toInt) (b := yh.toInt - yl.toInt) (by omega) (by omega)
  have m4 := mulb (A := 200000) (B := 3300000) (a := xh.toInt - xl.toInt) (b := y.toInt - s.toInt * yl.toInt) (by omega) (by omega)
  have p4 : ((s * xl).toInt64 * (yh - yl).toInt64).toInt = s.toInt * xl.toInt * (yh.toInt - yl.toInt) := by rw [u_mul, i64, i64, p1, d1]; rw [i64, i64, p1, d1]; omega
  have p5 : ((xh - xl).toInt64 * (y - s.toInt64 * yl.toInt64)).toInt = (xh.toInt - xl.toInt) * (y.toInt - s.toInt * yl.toInt) := by rw [u_mul, i64, d2, p3]; rw [i64, d2, p3]; omega
  have p6 : ((s * xl).toInt64 * (yh - yl).toInt64 + (xh - xl).toInt64 * (y - s.toInt64 * yl.toInt64)).toInt = vv xl.toInt yl.toInt xh.toInt yh.toInt s.toInt y.toInt := by rw [u_add, p4, p5]; rfl; rw [p4, p5]; omega
  have vb : -1300000000000 ≤ vv xl.toInt yl.toInt xh.toInt yh.toInt s.toInt y.toInt ∧ vv xl.toInt yl.toInt xh.toInt yh.toInt s.toInt y.toInt ≤ 1300000000000 := by unfold vv; omega
  have e1 : (-16320 : Int64).toInt = -16320 := by decide
  have e2 : (128 : Int64).toInt = 128 := by decide
  have p7 : (-16320 * (yh - yl).toInt64).toInt = -16320 * (yh.toInt - yl.toInt) := by rw [u_mul, e1, i64, d1]; rw [e1, i64, d1]; omega
  have p8 : (128 * (yh - yl).toInt64).toInt = 128 * (yh.toInt - yl.toInt) := by rw [u_mul, e2, i64, d1]; rw [e2, i64, d1]; omega
  generalize hX : (s * xl).toInt64 * (yh - yl).toInt64 + (xh - xl).toInt64 * (y - s.toInt64 * yl.toInt64) = X at p6
  have p9 : (-16320 * (yh - yl).toInt64 - X).toInt = -16320 * (yh.toInt - yl.toInt) - vv xl.toInt yl.toInt xh.toInt yh.toInt s.toInt y.toInt := by rw [u_sub, p7, p6]; rw [p7, p6]; omega
  obtain ⟨q, f1, f2⟩ := floorC (v := -16320 * (yh - yl).toInt64 - X) (x := 128 * (yh - yl).toInt64) (ν := ν) (by rw [p8]; omega)
  rw [p9, p8] at f2
  have qb : -10000000000000 ≤ q.toInt ∧ q.toInt ≤ 10000000000000 := by
    have hp : 0 < 128 * (yh.toInt - yl.toInt) := by omega
    refine ⟨?_, ?_⟩
    · rw [f2, Int.le_ediv_iff_mul_le hp]
      have : -10000000000000 * (128 * (yh.toInt - yl.toInt)) ≤ -10000000000000 * 1 := Int.mul_le_mul_of_nonpos_left (by omega) (by omega)
      omega
    · have : q.toInt < 10000000000001 := by
        rw [f2, Int.ediv_lt_iff_lt_mul hp]
        have : (10000000000001 : Int) * 1 ≤ 10000000000001 * (128 * (yh.toInt - yl.toInt)) := Int.mul_le_mul_of_nonneg_left (by omega) (by omega)
        omega
      omega
  have nq : (-q).toInt = smp xl.toInt yl.toInt xh.toInt yh.toInt s.toInt y.toInt := by rw [u_neg (by omega), f2]; rfl
  have fin : (m_Ma_max2 0 (m_Ma_min 512 (-q) ν) ν).toInt32 = nI (cl (smp xl.toInt yl.toInt xh.toInt yh.toInt s.toInt y.toInt)) := by
    have e0 : (0 : Int64).toInt = 0 := by decide
    have e5 : (512 : Int64).toInt = 512 := by decide
    have k1 : (m_Ma_min 512 (-q) ν).toInt = min 512 (-q).toInt := by
      unfold m_Ma_min
      by_cases w : -q < 512
      · have := u_lt.mp w; rw [e5] at this; rw [if_pos w]; omega
      · have : ¬ (-q).toInt < (512 : Int64).toInt := fun z => w (u_lt.mpr z)
        rw [e5] at this; rw [if_neg w, e5]; omega
    have k2 : (m_Ma_max2 0 (m_Ma_min 512 (-q) ν) ν).toInt = max 0 (min 512 (-q).toInt) := by
      unfold m_Ma_max2
      by_cases w : 0 < m_Ma_min 512 (-q) ν
      · have := u_lt.mp w; rw [e0, k1] at this; rw [if_pos w, k1]; omega
      · have : ¬ (0 : Int64).toInt < (m_Ma_min 512 (-q) ν).toInt := fun z => w (u_lt.mpr z)
        rw [e0, k1] at this; rw [if_neg w, e0]; omega
    have hb := back (v := m_Ma_max2 0 (m_Ma_min 512 (-q) ν) ν) (by rw [k2]; omega)
    have hc := cl_le (x := smp xl.toInt yl.toInt xh.toInt yh.toInt s.toInt y.toInt)
    rw [t_eq, hb.2, k2, nI_toInt (by omega), nq]
    unfold cl; omega
  have rise : (0 : Int64) < (yh - yl).toInt64 := u_lt.mpr (by rw [i64, d1]; show (0 : Int) < _; omega)
  unfold m_Im_samplesLeft
  rw [gu_nI hhi (by omega), gu_nI hlo (by omega), nI_clamp (by omega), nI_clamp (by omega), ← hyh, ← hyl, ← hxh, ← hxl, ap, if_pos rise, gu_nI hlo (by omega), gu_nI hhi (by omega), gu_nI hlo (by omega), gu_nI hlo (by omega), hX, ap, f1, Option.bind_some, ap, fin]
