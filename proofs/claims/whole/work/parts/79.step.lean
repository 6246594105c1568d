theorem dy_congr {μ : Mem} {j p c : Nat} {e : Nat → Nat} {A : Nat} {ν ξ ξ' : Mem} {h q : Nat} {nx ft : Int32} (h1 : gI ξ' = gI ξ) (h2 : gL ξ' = gL ξ) (D : DY μ j p c e A ν ξ h q nx ft) : DY μ j p c e A ν ξ' h q nx ft := by
  unfold DY SM at D ⊢
  rw [h1, h2]; exact D
theorem dy_congrC {μ : Mem} {j p c : Nat} {e : Nat → Nat} {A : Nat} {ν ξ : Mem} {h q : Nat} {nx nx' ft : Int32} (h1 : nx' = nx) (D : DY μ j p c e A ν ξ h q nx ft) : DY μ j p c e A ν ξ h q nx' ft := by rw [h1]; exact D
/-- how a step ends -/
def EN (μ : Mem) (j p c : Nat) (e : Nat → Nat) (A : Nat) (r : Int32) (ν' : Mem) (at' : Int32) (ξ' : Mem) : Prop := gI ξ' 12 0 52 = r ∧ SC μ j ν' ∧ SM μ ξ' ∧ ((r = 0 ∧ ∃ h' q' z, z ≤ A ∧ at' = nI z ∧ DY μ j p c e A ν' ξ' h' q' (nI z) 0) ∨ (∃ d : Nat, 0 < d ∧ d < 9 ∧ r = nI d))
theorem en_good {μ : Mem} {j p c : Nat} {e : Nat → Nat} {A : Nat} {ν' ξ' : Mem} {h q z : Nat} (hz : z ≤ A) (D : DY μ j p c e A ν' ξ' h q (nI z) 0) : EN μ j p c e A 0 ν' (nI z) ξ' := ⟨D.2.2.2.2.2.1.2, D.1, D.2.1, Or.inl ⟨rfl, h, q, z, hz, rfl, D⟩⟩
theorem fl_q {a b : Int64} (hb : 0 < b.toInt) : (0 ≤ a.toInt.tmod b.toInt → (a / b).toInt = a.toInt / b.toInt) ∧ (a.toInt.tmod b.toInt < 0 → (a / b - 1).toInt = a.toInt / b.toInt) ∧ (a / b * b).toInt = a.toInt - a.toInt.tmod b.toInt := by
  obtain ⟨e1, e2⟩ := rem_t (z := a) hb
  have al := u_lo a
  have ah := u_hi a
  have d1 := Int.mul_tdiv_add_tmod a.toInt b.toInt
  have d2 : (a.toInt.tmod b.toInt) < b.toInt := Int.tmod_lt_of_pos _ hb
  have d3 : -b.toInt < a.toInt.tmod b.toInt := Int.lt_tmod_of_pos a.toInt hb
  have k1 : -9223372036854775808 ≤ a.toInt / b.toInt := by
    rw [Int.le_ediv_iff_mul_le hb]
    have : -9223372036854775808 * b.toInt ≤ -9223372036854775808 * 1 := Int.mul_le_mul_of_nonpos_left (by omega) (by omega)
    omega
  have k2 : a.toInt / b.toInt < 9223372036854775808 := by
    rw [Int.ediv_lt_iff_lt_mul hb]
    have : (9223372036854775808 : Int) * 1 ≤ 9223372036854775808 * b.toInt := Int.mul_le_mul_of_nonneg_left (by omega) (by omega)
    omega
  refine ⟨fun h => ?_, fun h => ?_, ?_⟩
  · rw [e2]
    exact ((Int.ediv_emod_unique hb).mpr ⟨by omega, h, d2⟩).1.symm
  · have u : a.toInt / b.toInt = a.toInt.tdiv b.toInt - 1 ∧ a.toInt % b.toInt = a.toInt.tmod b.toInt + b.toInt := (Int.ediv_emod_unique hb).mpr ⟨by rw [Int.mul_sub]; omega, by omega, by omega⟩
    rw [u_sub, e2, u.1]; rfl
    rw [e2]
    show _ ≤ a.toInt.tdiv b.toInt - 1 ∧ a.toInt.tdiv b.toInt - 1 ≤ _
    omega
  · have t1 : 0 ≤ a.toInt → 0 ≤ a.toInt.tmod b.toInt := fun q => Int.tmod_nonneg _ q
    have t2 : a.toInt ≤ 0 → a.toInt.tmod b.toInt ≤ 0 := fun q => by
      have := Int.tmod_nonneg (a := -a.toInt) b.toInt (by omega)
      rw [Int.neg_tmod] at this; omega
    have c := Int.mul_comm b.toInt (a.toInt.tdiv b.toInt)
    have r : a.toInt.tdiv b.toInt * b.toInt = a.toInt - a.toInt.tmod b.toInt := by omega
    have bh := u_hi b
    rw [u_mul, e2, r]
    rw [e2, r]
    rcases (show 0 ≤ a.toInt ∨ a.toInt ≤ 0 by omega) with q | q
    · have := t1 q; omega
    · have := t2 q; omega
theorem floorC {v x : Int64} {ν : Mem} (hx : 0 < x.toInt) : ∃ w, m_Ma_floorDiv v x ν = some w ∧ w.toInt = v.toInt / x.toInt := by
  have z : ¬ x = 0 := fun q => by rw [q] at hx; exact absurd hx (by decide)
  obtain ⟨f1, f2, f3⟩ := fl_q (a := v) hx
  have xs : (0 ≤ v ^^^ x) ↔ 0 ≤ v := xor_sg (u_le.mpr (by show (0 : Int) ≤ x.toInt; omega))
  have t1 : 0 ≤ v.toInt → 0 ≤ v.toInt.tmod x.toInt := fun q => Int.tmod_nonneg _ q
  have t2 : v.toInt ≤ 0 → v.toInt.tmod x.toInt ≤ 0 := fun q => by
    have := Int.tmod_nonneg (a := -v.toInt) x.toInt (by omega)
    rw [Int.neg_tmod] at this; omega
  unfold m_Ma_floorDiv
  simp only [gzl, z, if_false, ap]
  by_cases w : 0 ≤ v
  · have w' : (0 : Int) ≤ v.toInt := u_le.mp w
    exact ⟨v / x, by rw [if_pos (xs.mpr w)], f1 (t1 w')⟩
  · have w' : ¬ (0 : Int) ≤ v.toInt := fun q => w (u_le.mpr q)
    rw [if_neg (fun q => w (xs.mp q))]
    by_cases g : v / x * x = v
    · refine ⟨v / x, by rw [if_pos g], f1 ?_⟩
      have := u_eq.mp g
      omega
    · refine ⟨v / x - 1, by rw [if_neg g], f2 ?_⟩
      have := t2 (by omega)
      have : v.toInt.tmod x.toInt ≠ 0 := fun q => g (u_eq.mpr (by rw [f3, q]; omega))
      omega
theorem floorM {v x : Int64} {ξ : Mem} (hx : 0 < x.toInt) : ∃ w, m_Mo_floor v x ξ = some w ∧ w.toInt = v.toInt / x.toInt := by
  have z : ¬ x = 0 := fun q => by rw [q] at hx; exact absurd hx (by decide)
  obtain ⟨f1, f2, f3⟩ := fl_q (a := v) hx
  obtain ⟨e1, e2⟩ := rem_t (z := v) hx
  unfold m_Mo_floor
  simp only [gzl, z, if_false, ap]
  by_cases w : 0 ≤ v - v / x * x
  · have w' : (0 : Int) ≤ (v - v / x * x).toInt := u_le.mp w
    rw [e1] at w'
    exact ⟨v / x, by rw [if_pos w], f1 w'⟩
  · have w' : ¬ (0 : Int) ≤ (v - v / x * x).toInt := fun q => w (u_le.mpr q)
    rw [e1] at w'
    exact ⟨v / x - 1, by rw [if_neg w], f2 (by omega)⟩
theorem floor_both {v x : Int64} {ν ξ : Mem} (hx : 0 < x.toInt) : ∃ w, m_Ma_floorDiv v x ν = some w ∧ m_Mo_floor v x ξ = some w := by
  obtain ⟨w, w1, w2⟩ := floorC (v := v) (ν := ν) hx
  obtain ⟨w', w3, w4⟩ := floorM (v := v) (ξ := ξ) hx
  exact ⟨w, w1, by rw [w3, u_eq.mpr (show w'.toInt = w.toInt by omega)]⟩
theorem one_both {o : Nat} {x : Int32} {ν ξ : Mem} (ho : 8 ≤ o ∧ o ≤ 11) (hx : B9 x) : ∃ v, m_Ru_ofOne (nI o) x.toInt64 ν = some v ∧ m_Mo_made (nI o) 0 x.toInt64 ξ = some v := by
  unfold m_Ru_ofOne m_Mo_made
  rcases (show o = 8 ∨ o = 9 ∨ o = 10 ∨ o = 11 by omega) with rfl | rfl | rfl | rfl
  · refine ⟨_, by rw [if_pos (by decide)], ?_⟩
    repeat rw [if_neg (by decide)]
    rw [if_pos (by decide)]
  · refine ⟨m_Ma_abs x.toInt64 ν, by rw [if_neg (by decide), if_pos (by decide)], ?_⟩
    repeat rw [if_neg (by decide)]
    rw [if_pos (by decide)]
    unfold m_Ma_abs
    by_cases w : 0 ≤ x.toInt64
    · rw [if_pos w, if_pos w]
    · rw [if_neg w, if_neg w]
  · obtain ⟨r1, r2⟩ := rd_both (a := x.toInt64) (b := 64) (μ := ν) (by decide) (by decide)
    obtain ⟨r3, r4⟩ := rd_both (a := x.toInt64) (b := 64) (μ := ξ) (by decide) (by decide)
    refine ⟨64 * rnd x.toInt64 64, ?_, ?_⟩
    · rw [if_neg (by decide), if_neg (by decide), if_pos (by decide)]
      unfold m_Ru_toGrid
      rw [r1]; rfl
    · repeat rw [if_neg (by decide)]
      rw [if_pos (by decide), r4]; rfl
  · obtain ⟨w, w1, w2⟩ := floor_both (v := x.toInt64) (x := 64) (ν := ν) (ξ := ξ) (by decide)
    refine ⟨64 * w, ?_, ?_⟩
    · rw [if_neg (by decide), if_neg (by decide), if_neg (by decide), w1]; rfl
    · repeat rw [if_neg (by decide)]
      rw [if_pos (by decide), w2]; rfl
theorem two_both {o : Nat} {a b : Int32} {ν ξ : Mem} (ho : (4 ≤ o ∧ o ≤ 7) ∨ (12 ≤ o ∧ o ≤ 15)) (hb : o = 7 → b ≠ 0) : ∃ v, m_Ru_ofTwo (nI o) a.toInt64 b.toInt64 ν = some v ∧ m_Mo_made (nI o) a.toInt64 b.toInt64 ξ = some v := by
  unfold m_Ru_ofTwo m_Mo_made
  rcases (show o = 4 ∨ o = 5 ∨ o = 6 ∨ o = 7 ∨ o = 12 ∨ o = 13 ∨ o = 14 ∨ o = 15 by omega) with rfl | rfl | rfl | rfl | rfl | rfl | rfl | rfl
  · exact ⟨_, by rw [if_pos (by decide)], by rw [if_pos (by decide)]⟩
  · exact ⟨_, by rw [if_neg (by decide), if_pos (by decide)], by rw [if_neg (by decide), if_pos (by decide)]⟩
  · obtain ⟨r1, _⟩ := rd_both (a := a.toInt64 * b.toInt64) (b := 64) (μ := ν) (by decide) (by decide)
    obtain ⟨_, r4⟩ := rd_both (a := a.toInt64 * b.toInt64) (b := 64) (μ := ξ) (by decide) (by decide)
    refine ⟨rnd (a.toInt64 * b.toInt64) 64, ?_, ?_⟩
    · rw [if_neg (by decide), if_neg (by decide), if_pos (by decide), r1]; rfl
    · rw [if_neg (by decide), if_neg (by decide), if_pos (by decide), r4]; rfl
  · have hb' : b.toInt64.toInt ≠ 0 := by rw [i64]; intro q; exact hb rfl (t_eq.mpr q)
    have hb2 : -9223372036854775808 < b.toInt64.toInt := by rw [i64]; have := t_lo b; omega
    obtain ⟨r1, _⟩ := rd_both (a := 64 * a.toInt64) (b := b.toInt64) (μ := ν) hb' hb2
    obtain ⟨_, r4⟩ := rd_both (a := 64 * a.toInt64) (b := b.toInt64) (μ := ξ) hb' hb2
    refine ⟨rnd (64 * a.toInt64) b.toInt64, ?_, ?_⟩
    · rw [if_neg (by decide), if_neg (by decide), if_neg (by decide), if_pos (by decide), r1]; rfl
    · rw [if_neg (by decide), if_neg (by decide), if_neg (by decide), if_pos (by decide), r4]; rfl
  · refine ⟨m_Ma_min a.toInt64 b.toInt64 ν, ?_, ?_⟩
    · repeat rw [if_neg (by decide)]
      rw [if_pos (by decide)]
    · repeat rw [if_neg (by decide)]
      rw [if_pos (by decide)]
      unfold m_Ma_min
      by_cases w : b.toInt64 < a.toInt64
      · rw [if_pos w, if_pos (u_le.mpr (by have := u_lt.mp w; omega))]
      · rw [if_neg w]
        by_cases w2 : b.toInt64 ≤ a.toInt64
        · rw [if_pos w2]
          have h1 := u_le.mp w2
          have h2 : ¬ b.toInt64.toInt < a.toInt64.toInt := fun q => w (u_lt.mpr q)
          rw [u_eq.mpr (show b.toInt64.toInt = a.toInt64.toInt by omega)]
        · rw [if_neg w2]
  · refine ⟨m_Ma_max2 a.toInt64 b.toInt64 ν, ?_, ?_⟩
    · repeat rw [if_neg (by decide)]
      rw [if_pos (by decide)]
    · repeat rw [if_neg (by decide)]
      rw [if_pos (by decide)]
      unfold m_Ma_max2
      by_cases w : a.toInt64 < b.toInt64
      · rw [if_pos w, if_pos (u_le.mpr (by have := u_lt.mp w; omega))]
      · rw [if_neg w]
        by_cases w2 : a.toInt64 ≤ b.toInt64
        · rw [if_pos w2]
          have h1 := u_le.mp w2
          have h2 : ¬ a.toInt64.toInt < b.toInt64.toInt := fun q => w (u_lt.mpr q)
          rw [u_eq.mpr (show b.toInt64.toInt = a.toInt64.toInt by omega)]
        · rw [if_neg w2]
  · by_cases w : b.toInt64 ≤ a.toInt64
    · refine ⟨0, ?_, ?_⟩
      · repeat rw [if_neg (by decide)]
        rw [if_pos (by decide), if_pos w]
      · repeat rw [if_neg (by decide)]
        rw [if_pos (by decide), if_pos w]
    · refine ⟨64, ?_, ?_⟩
      · repeat rw [if_neg (by decide)]
        rw [if_pos (by decide), if_neg w]
      · repeat rw [if_neg (by decide)]
        rw [if_pos (by decide), if_neg w]
  · unfold mj_Ru_ofTwo_114
    by_cases w : a.toInt64 = b.toInt64
    · refine ⟨64, ?_, ?_⟩
      · repeat rw [if_neg (by decide)]
        rw [if_pos w]
      · repeat rw [if_neg (by decide)]
        rw [if_pos w]
    · refine ⟨0, ?_, ?_⟩
      · repeat rw [if_neg (by decide)]
        rw [if_neg w]
      · repeat rw [if_neg (by decide)]
        rw [if_neg w]
/-- a number is pushed, or is too far -/
theorem num_both {μ : Mem} {j p c : Nat} {e : Nat → Nat} {A : Nat} {ν ξ : Mem} {h q z : Nat} {v : Int64} (hz : z ≤ A) (hh : h < 32) (D : DY μ j p c e A ν ξ h q (nI z) 0) : ∃ r ν' ξ', m_Ru_pushNumber v ν = some (r, ν') ∧ m_Mo_push v ξ = some ξ' ∧ EN μ j p c e A r ν' (nI z) ξ' := by
  unfold m_Ru_pushNumber
  rw [within_b]
  by_cases w : -1000000000 ≤ v.toInt ∧ v.toInt ≤ 1000000000
  · obtain ⟨g1, g2⟩ := back (v := v) (by omega)
    rw [decide_eq_true (show (-1000000000 : Int64).toInt ≤ v.toInt ∧ v.toInt ≤ (1000000000 : Int64).toInt from w), if_pos rfl, ru_push D.2.2.2.1.1 hh, mo_push D.2.2.2.1.2 (by omega) w]
    refine ⟨0, _, _, rfl, rfl, en_good (h := h + 1) (q := q) hz ?_⟩
    have := dy_push (v := v.toInt32) D hh (by unfold B9 bI; rw [g2]; exact w)
    rw [g1] at this
    exact this
  · rw [decide_eq_false (show ¬ ((-1000000000 : Int64).toInt ≤ v.toInt ∧ v.toInt ≤ (1000000000 : Int64).toInt) from w), if_neg (by decide), mo_push8 D.2.2.2.1.2 (by omega) w]
    exact ⟨8, _, _, rfl, rfl, by simp (disch := omega) only [gI_ne2, gI_sL, gI_self], D.1, sm_sI (sm_sL (sm_sI D.2.1 (by omega))) (by omega), Or.inr ⟨8, by omega, by omega, rfl⟩⟩
