theorem use_both {μ : Mem} {j p c : Nat} {e : Nat → Nat} {A : Nat} {ν ξ : Mem} {h q z o l at_ : Nat} {a : Int32} (hz : z ≤ A) (hat : nI at_ + 1 = nI z) (hp : p ≤ 100) (ho : 22 ≤ o ∧ o ≤ 27) (ht : tk o ≤ h) (hg : h - tk o + gv o ≤ 32) (ha : 0 ≤ a.toInt ∧ a.toInt < p) (D : DY μ j p c e A ν ξ h q (nI z) 0) :
    ∃ ν' ξ', m_Ru_usePoint (nI o) a j ν = some ν' ∧ mj_Mo_does_93 (nI l) (nI at_) (nI o) a ξ = some (nI z, ξ') ∧ EN μ j p c e A 0 ν' (nI z) ξ' := by
  have hh := D.2.2.1.1
  obtain ⟨i, hi, rfl⟩ := ix_of ha.1 ha.2 (by omega)
  have c0 : (0 : Int32).toNatClampNeg = 0 := rfl
  have c1 : (1 : Int32).toNatClampNeg = 1 := rfl
  have g0 : ∀ {α : Type} (x : Option α), gu (0 : Int32) 2 x = x := fun x => gu_nI (l := 0) (by omega) (by omega)
  have g1 : ∀ {α : Type} (x : Option α), gu (1 : Int32) 2 x = x := fun x => gu_nI (l := 1) (by omega) (by omega)
  obtain ⟨x1, x2, x3, x4, x5, x6⟩ := D.2.2.2.2.2.2.2.2.2.1 i hi
  obtain ⟨y1, y2, y3, y4, y5, y6⟩ := D.2.2.2.2.2.2.2.2.2.2.1 i hi
  have grid : ∀ v : Int32, B9 v → ∃ w : Int32, (64 * rnd v.toInt64 64).toInt32 = w ∧ w.toInt64 = 64 * rnd v.toInt64 64 ∧ B9 w ∧ (-1000000000 ≤ (64 * rnd v.toInt64 64).toInt ∧ (64 * rnd v.toInt64 64).toInt ≤ 1000000000) := fun v hv => by
    obtain ⟨k1, k2, k3⟩ := rnd64 (v := v.toInt64) (by rw [i64]; exact hv)
    obtain ⟨b1, b2⟩ := back (v := 64 * rnd v.toInt64 64) (by rw [k1]; omega)
    exact ⟨_, rfl, b1, by unfold B9 bI; rw [b2, k1]; exact ⟨k2, k3⟩, by rw [k1]; exact ⟨k2, k3⟩⟩
  unfold m_Ru_usePoint mj_Mo_does_93 mj_Mo_does_613
  rcases (show o = 22 ∨ o = 23 ∨ o = 24 ∨ o = 25 ∨ o = 26 ∨ o = 27 by omega) with rfl | rfl | rfl | rfl | rfl | rfl
  · have k : tk 22 = 0 ∧ gv 22 = 1 := ⟨rfl, rfl⟩
    obtain ⟨ν', ξ', e1, e2, D'⟩ := push_both (v := gI ν 501 (2 * j) i) D (by omega) x6
    refine ⟨ν', ξ', ?_, ?_, en_good hz D'⟩
    · rw [if_pos (by decide), g0, gu_nI (by omega) (by omega), nI_clamp (by omega), c0, Nat.add_zero, e1]; rfl
    · repeat rw [if_neg (by decide)]
      rw [if_pos (by decide), gu_nI (by omega) (by omega), nI_clamp (by omega), x2, e2, hat]; rfl
  · have k : tk 23 = 1 ∧ gv 23 = 0 := ⟨rfl, rfl⟩
    obtain ⟨h', rfl⟩ : ∃ h', h = h' + 1 := ⟨h - 1, by omega⟩
    obtain ⟨v, ν1, ξ1, e1, e2, e3, _, D1⟩ := pop_both D
    refine ⟨_, _, ?_, ?_, en_good hz (dy_touch0 (k := i) D1 e3)⟩
    · rw [if_neg (by decide), if_pos (by decide), e1]
      simp only [Option.bind_some, ap]
      rw [show (0 : Int32) = nI 0 from rfl, fit_touch (by omega) (by omega)]; rfl
    · repeat rw [if_neg (by decide)]
      rw [if_pos (by decide), e2]
      simp only [Option.bind_some, ap]
      rw [mo_puts (by omega) (by rw [i64]; exact e3), hat]; rfl
  · have k : tk 24 = 0 ∧ gv 24 = 1 := ⟨rfl, rfl⟩
    obtain ⟨ν', ξ', e1, e2, D'⟩ := push_both (v := gI ν 501 (2 * j + 1) i) D (by omega) y6
    refine ⟨ν', ξ', ?_, ?_, en_good hz D'⟩
    · rw [if_neg (by decide), if_neg (by decide), if_pos (by decide), g1, gu_nI (by omega) (by omega), nI_clamp (by omega), c1, e1]; rfl
    · repeat rw [if_neg (by decide)]
      rw [if_pos (by decide), gu_nI (by omega) (by omega), nI_clamp (by omega), y2, e2, hat]; rfl
  · have k : tk 25 = 1 ∧ gv 25 = 0 := ⟨rfl, rfl⟩
    obtain ⟨h', rfl⟩ : ∃ h', h = h' + 1 := ⟨h - 1, by omega⟩
    obtain ⟨v, ν1, ξ1, e1, e2, e3, _, D1⟩ := pop_both D
    refine ⟨_, _, ?_, ?_, en_good hz (dy_touch1 (k := i) D1 e3)⟩
    · rw [if_neg (by decide), if_neg (by decide), if_neg (by decide), if_pos (by decide), e1]
      simp only [Option.bind_some, ap]
      rw [show (1 : Int32) = nI 1 from rfl, fit_touch (by omega) (by omega)]; rfl
    · repeat rw [if_neg (by decide)]
      rw [if_pos (by decide), e2]
      simp only [Option.bind_some, ap]
      rw [mo_puts (by omega) (by rw [i64]; exact e3), hat]; rfl
  · obtain ⟨w, w1, w2, w3, w4⟩ := grid _ x6
    obtain ⟨r1, _⟩ := rd_both (a := (gI ν 501 (2 * j) i).toInt64) (b := 64) (μ := ν) (by decide) (by decide)
    obtain ⟨_, r4⟩ := rd_both (a := (gI ν 501 (2 * j) i).toInt64) (b := 64) (μ := ξ) (by decide) (by decide)
    refine ⟨_, _, ?_, ?_, en_good hz (dy_touch0 (k := i) D w3)⟩
    · rw [if_neg (by decide), if_neg (by decide), if_neg (by decide), if_neg (by decide), if_pos (by decide), g0, gu_nI (by omega) (by omega), nI_clamp (by omega), c0, Nat.add_zero]
      unfold m_Ru_toGrid
      rw [r1]
      simp only [Option.bind_some]
      rw [w1, show (0 : Int32) = nI 0 from rfl, fit_touch (by omega) (by omega)]; rfl
    · repeat rw [if_neg (by decide)]
      rw [if_pos (by decide), gu_nI (by omega) (by omega), nI_clamp (by omega), x2, r4]
      simp only [Option.bind_some]
      rw [mo_puts (by omega) w4, hat, w2]; rfl
  · obtain ⟨w, w1, w2, w3, w4⟩ := grid _ y6
    obtain ⟨r1, _⟩ := rd_both (a := (gI ν 501 (2 * j + 1) i).toInt64) (b := 64) (μ := ν) (by decide) (by decide)
    obtain ⟨_, r4⟩ := rd_both (a := (gI ν 501 (2 * j + 1) i).toInt64) (b := 64) (μ := ξ) (by decide) (by decide)
    refine ⟨_, _, ?_, ?_, en_good hz (dy_touch1 (k := i) D w3)⟩
    · rw [if_neg (by decide), if_neg (by decide), if_neg (by decide), if_neg (by decide), if_neg (by decide), g1, gu_nI (by omega) (by omega), nI_clamp (by omega), c1]
      unfold m_Ru_toGrid
      rw [r1]
      simp only [Option.bind_some]
      rw [w1, show (1 : Int32) = nI 1 from rfl, fit_touch (by omega) (by omega)]; rfl
    · repeat rw [if_neg (by decide)]
      rw [if_pos (by decide), gu_nI (by omega) (by omega), nI_clamp (by omega), y2, r4]
      simp only [Option.bind_some]
      rw [mo_puts (by omega) w4, hat, w2]; rfl
/-- what a step needs to know of the letter -/
def LT (μ : Mem) (l p c A : Nat) (e : Nat → Nat) : Prop := l < 32 ∧ A ≤ 100 ∧ p ≤ 100 ∧ c ≤ 8 ∧ e 0 = 0 ∧ (∀ o o', o ≤ o' → o' ≤ c → e o ≤ e o') ∧ e c = p ∧ (∀ o, o < c → e o + 2 ≤ e (o + 1)) ∧ gI μ 343 0 l = nI c ∧ (∀ o, o < c → gI μ 346 0 (8 * l + o) = nI (e (o + 1))) ∧ gI μ 8 l 2 = nI A ∧ gI μ 357 0 l = nI A ∧
  ∀ k, k < A → gI μ 358 0 (100 * l + k) = gI μ 260 l k ∧ bI (gI μ 260 l k) 0 30 ∧ gI μ 359 0 (100 * l + k) = gI μ 261 l k ∧ bI (gI μ 261 l k) (-100000) 100000
theorem step_both {μ : Mem} {j p c : Nat} {e : Nat → Nat} {A : Nat} {ν ξ : Mem} {h q at_ l : Nat} {ft : Int32} (L : LT μ l p c A e) (hat : at_ < A) (D : DY μ j p c e A ν ξ h q (nI at_) ft) : ∃ r ν' at' ξ', m_Ru_step l j ν = some (r, ν') ∧ m_Mo_does (nI l) (nI at_) ξ = some (at', ξ') ∧ EN μ j p c e A r ν' at' ξ' := by
  obtain ⟨hl, hA, hp, hc, e0, hm, hec, h2, m343, m346, m82, m357, hk⟩ := L
  obtain ⟨k1, k2, k3, k4⟩ := hk at_ hat
  obtain ⟨o, ho, k5⟩ := ix_of k2.1 (show (gI μ 260 l at_).toInt < (31 : Nat) by have := k2.2; omega) (by omega)
  obtain ⟨a, ha⟩ : ∃ a, a = gI μ 261 l at_ := ⟨_, rfl⟩
  rw [← ha] at k3 k4
  have hh := D.2.2.1.1
  have hq := D.2.2.1.2
  have c260 : gI ν 260 l at_ = nI o := by rw [(eqA D.1.1 260 (by decide) (by decide)).1]; exact k5
  have c261 : gI ν 261 l at_ = a := by rw [(eqA D.1.1 261 (by decide) (by decide)).1]; exact ha.symm
  have c82 : gI ν 8 l 2 = nI A := by rw [(eqF D.1.1 8 2 (by decide) (by decide) l).1]; exact m82
  have d358 : gI ξ 358 0 (100 * l + at_) = nI o := by rw [D.2.1.1 358 (by decide), k1]; exact k5
  have d359 : gI ξ 359 0 (100 * l + at_) = a := by rw [D.2.1.1 359 (by decide), k3]
  have d357 : gI ξ 357 0 l = nI A := by rw [D.2.1.1 357 (by decide)]; exact m357
  have hcl : m_Mo_closed (nI l) ξ = some (nI p) := by
    have := clM (ν := ξ) (l := l) (c := c) (e := e) hl hc e0 (by rw [D.2.1.1 343 (by decide)]; exact m343) (fun o ho => by rw [D.2.1.1 346 (by decide)]; exact m346 o ho)
    rw [hec] at this; exact this
  obtain ⟨r, r1, f1, f2, f3⟩ := fault_both (a := a) (j := j) ho hl hA hp d357 D.2.2.2.2.2.2.2.2.2.2.2.1 hcl hh hq D.2.2.2.1.1 D.2.2.2.1.2 D.2.2.2.2.1.1 D.2.2.2.2.1.2 D.2.2.2.2.2.2.1
  rcases r with _ | r
  rotate_left 1
  · -- a fault is told
    have z : ¬ nI (r + 1) = 0 := by rw [show (0 : Int32) = nI 0 from rfl, neq (by omega) (by omega)]; omega
    have z2 : ¬ nI (r + 1) ≤ 0 := by rw [show (0 : Int32) = nI 0 from rfl, nle (by omega) (by omega)]; omega
    refine ⟨nI (r + 1), ν, nI at_, sI ξ 12 0 52 (nI (r + 1)), ?_, ?_, gI_self, D.1, sm_sI D.2.1 (by omega), Or.inr ⟨r + 1, by omega, by omega, rfl⟩⟩
    · unfold m_Ru_step
      simp only [ap]
      rw [D.2.2.2.2.2.1.1, nI_clamp (by omega), gu_nI (by omega) (by omega), gu_nI (by omega) (by omega), c260, c261, c82, f1]
      simp only [Option.bind_some]
      rw [if_neg z]
    · unfold m_Mo_does
      have i100 : 100 * nI l + nI at_ = nI (100 * l + at_) := ix100 l at_
      simp only [ap]
      rw [i100, nI_clamp (by omega), gu_nI (by omega) (by omega), gu_nI (by omega) (by omega), d358, d359, f2]
      simp only [Option.bind_some, gI_self]
      rw [if_neg z2]
  obtain ⟨g1, g2, g3, g4, g5, g6, g7⟩ := f3 rfl
  obtain ⟨H1, H2, H3, H4, H5, H6, H7, H8⟩ := st_head hl hA hat ho D c260 c261 c82 d358 d359 f1 f2
  have D0 := dy_ft 0 (dy_next (nI (at_ + 1)) D)
  have n1 : nI at_ + 1 = nI (at_ + 1) := nI_add at_ 1
  have d357' : gI (sI ξ 12 0 52 0) 357 0 l = nI A := by rw [gI_ne (by omega)]; exact d357
  have t7 : o = 7 → gI (sI ν 9 0 5 (nI (at_ + 1))) 280 0 (h - 1) ≠ 0 := fun w => by rw [gI_ne (by omega)]; exact g6 w
  generalize sI ν 9 0 5 (nI (at_ + 1)) = ν0 at *
  generalize sI ξ 12 0 52 0 = ξ0 at *
  by_cases w1 : o ≤ 3 ∨ o = 20 ∨ o = 21
  · obtain ⟨ν', ξ', a1, a2, a3⟩ := carry_both (l := l) (at_ := at_) (z := at_ + 1) (by omega) n1 w1 g1 g2 k4 g7 D0
    exact ⟨0, ν', _, ξ', by rw [H1 w1, a1]; rfl, by rw [H7 (by omega), a2], a3⟩
  by_cases w2 : (16 ≤ o ∧ o ≤ 19) ∨ o = 30
  · obtain ⟨ν', ξ', at', a1, a2, a3⟩ := go_both (a := a) (at_ := at_) (z := at_ + 1) hl hA d357' (by omega) n1 w2 g1 g4 g5 D0
    exact ⟨0, ν', _, ξ', by rw [H4 w2, a1]; rfl, by rw [H7 (by omega), a2], a3⟩
  by_cases w3 : 22 ≤ o ∧ o ≤ 27
  · obtain ⟨ν', ξ', a1, a2, a3⟩ := use_both (l := l) (at_ := at_) (z := at_ + 1) (by omega) n1 hp w3 g1 g2 (g3 w3) D0
    exact ⟨0, ν', _, ξ', by rw [H5 w3, a1]; rfl, by rw [H7 (by omega), a2], a3⟩
  by_cases w4 : 28 ≤ o ∧ o ≤ 29
  · obtain ⟨fb, ν', ξ', a1, a2, a3, a4, a5⟩ := dy_fit (l := l) (x := o - 28) (by omega) hl hc e0 hm hec hp h2 m343 m346 D0
    have am : mj_Mo_does_93 (nI l) (nI at_) (nI o) a ξ0 = some (nI (at_ + 1), ξ') := by
      unfold mj_Mo_does_93 mj_Mo_does_613
      rcases (show o = 28 ∨ o = 29 by omega) with rfl | rfl
      · repeat rw [if_neg (by decide)]
        rw [if_pos (by decide), a2, n1]; rfl
      · repeat rw [if_neg (by decide)]
        rw [if_pos (by decide), a2, n1]; rfl
    rcases a5 with ⟨rfl, b2, b3⟩ | ⟨rfl, b2⟩
    · exact ⟨0, ν', _, ξ', by rw [H6 w4, a1]; rfl, by rw [H7 (by omega), am], en_good (by omega) b3⟩
    · exact ⟨8, ν', _, ξ', by rw [H6 w4, a1]; rfl, by rw [H7 (by omega), am], b2, a3, a4, Or.inr ⟨8, by omega, by omega, rfl⟩⟩
  by_cases w5 : 8 ≤ o ∧ o ≤ 11
  · have k : tk o = 1 ∧ gv o = 1 := by rcases (show o = 8 ∨ o = 9 ∨ o = 10 ∨ o = 11 by omega) with rfl | rfl | rfl | rfl <;> exact ⟨rfl, rfl⟩
    obtain ⟨h', rfl⟩ : ∃ h', h = h' + 1 := ⟨h - 1, by omega⟩
    obtain ⟨v, ν1, ξ1, b1, b2, b3, _, D1⟩ := pop_both D0
    obtain ⟨u, u1, u2⟩ := one_both (ν := ν1) (ξ := ξ1) w5 b3
    obtain ⟨r', ν', ξ', s1, s2, s3⟩ := num_both (v := u) (z := at_ + 1) (by omega) (by omega) D1
    refine ⟨r', ν', _, ξ', ?_, ?_, s3⟩
    · rw [H2 w5, b1]
      simp only [Option.bind_some]
      rw [u1]
      simp only [Option.bind_some]
      rw [s1]; rfl
    · have : ¬ m_Mo_wants (nI o) ξ1 = 2 := by rw [(tabM ho).1, k.1]; decide
      rw [H8 (by omega), b2]
      simp only [Option.bind_some]
      rw [if_neg this]
      unfold mj_Mo_does_81
      rw [u2]
      simp only [Option.bind_some]
      rw [s2, n1]; rfl
  · have w6 : (4 ≤ o ∧ o ≤ 7) ∨ (12 ≤ o ∧ o ≤ 15) := by omega
    have k : tk o = 2 ∧ gv o = 1 := by rcases (show o = 4 ∨ o = 5 ∨ o = 6 ∨ o = 7 ∨ o = 12 ∨ o = 13 ∨ o = 14 ∨ o = 15 by omega) with rfl | rfl | rfl | rfl | rfl | rfl | rfl | rfl <;> exact ⟨rfl, rfl⟩
    obtain ⟨h', rfl⟩ : ∃ h', h = h' + 1 + 1 := ⟨h - 2, by omega⟩
    obtain ⟨v, ν1, ξ1, b1, b2, b3, b4, D1⟩ := pop_both D0
    obtain ⟨v', ν2, ξ2, c1, c2, c3, _, D2⟩ := pop_both D1
    obtain ⟨u, u1, u2⟩ := two_both (a := v') (b := v) (ν := ν2) (ξ := ξ2) w6 (fun w => by rw [b4]; exact t7 w)
    obtain ⟨r', ν', ξ', s1, s2, s3⟩ := num_both (v := u) (z := at_ + 1) (by omega) (by omega) D2
    refine ⟨r', ν', _, ξ', ?_, ?_, s3⟩
    · rw [H3 w6]
      unfold m_Ru_reckonTwo
      rw [b1]
      simp only [Option.bind_some, ap]
      rw [c1]
      simp only [Option.bind_some]
      rw [u1]
      simp only [Option.bind_some]
      rw [s1]; rfl
    · have : m_Mo_wants (nI o) ξ1 = 2 := by rw [(tabM ho).1, k.1]; rfl
      rw [H8 (by omega), b2]
      simp only [Option.bind_some]
      rw [if_pos this, c2]
      simp only [Option.bind_some]
      unfold mj_Mo_does_81
      rw [u2]
      simp only [Option.bind_some]
      rw [s2, n1]; rfl
