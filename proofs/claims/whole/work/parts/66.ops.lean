theorem cnt_le (f : Nat → Int32) : ∀ n, cnt f n ≤ n := by
  intro n
  induction n with
  | zero => exact Nat.le_refl _
  | succ n ih => unfold cnt; split <;> omega
theorem cnt_zero (f : Nat → Int32) : ∀ n, cnt f n = 0 → ∀ k, k < n → ¬ 0 < f k := by
  intro n
  induction n with
  | zero => intro _ k hk; omega
  | succ n ih =>
    intro h k hk
    unfold cnt at h
    by_cases q : 0 < f n
    · rw [if_pos q] at h; omega
    · rw [if_neg q] at h
      by_cases w : k = n
      · rw [w]; exact q
      · exact ih (by omega) k (by omega)
theorem cnt_no (f : Nat → Int32) : ∀ n, (∀ k, k < n → ¬ 0 < f k) → cnt f n = 0 := by
  intro n
  induction n with
  | zero => intro _; rfl
  | succ n ih =>
    intro h
    unfold cnt
    rw [if_neg (h n (by omega)), ih (fun k hk => h k (by omega))]
/-- the least and the greatest so far -/
def BX (f : Nat → Int32) (v : Nat → Nat) (k : Nat) (y2 y3 : Int32) : Prop := (y2 = 64 ∧ y3 = -1 ∧ ∀ j, j < k → ¬ 0 < f j) ∨ ∃ m M, y2 = nI m ∧ y3 = nI M ∧ m < 64 ∧ M < 64 ∧ (∀ j, j < k → 0 < f j → m ≤ v j ∧ v j ≤ M) ∧ (∃ j, j < k ∧ 0 < f j ∧ v j = m) ∧ (∃ j, j < k ∧ 0 < f j ∧ v j = M)
theorem bx_loop {μ : Mem} {a : Int32} {K : Int32 → Int32 → Option Int32} {f : Nat → Int32} (hf : ∀ k, k < 4096 → gI μ 379 0 k = f k ∧ bI (f k) 0 64) : ∀ F k y2 y3, k ≤ 4096 → 4096 - k < F → BX f (fun j => if a - a / 2 * 2 = 0 then j % 64 else j / 64) k y2 y3 → ∃ y2' y3', lp_Mo_box_8 a μ K F y2 y3 (nI k) = K y2' y3' ∧ BX f (fun j => if a - a / 2 * 2 = 0 then j % 64 else j / 64) 4096 y2' y3' := by
  intro F
  induction F with
  | zero => intro k y2 y3 h1 h2; omega
  | succ F ih =>
    intro k y2 y3 h1 h2 hB
    have z : (4096 ≤ nI k) = (4096 ≤ k) := by rw [show (4096 : Int32) = nI 4096 from rfl, nle (by omega) (by omega)]
    by_cases q : 4096 ≤ k
    · refine ⟨y2, y3, ?_, ?_⟩
      · simp (disch := omega) only [lp_Mo_box_8, z, q, if_true]
      · rw [show (4096 : Nat) = k by omega]; exact hB
    · have n1 : nI k + 1 = nI (k + 1) := nI_add k 1
      obtain ⟨f1, f2, f3⟩ := hf k (by omega)
      by_cases g : f k = 0
      · have g' : ¬ 0 < f k := by rw [g]; decide
        simp (disch := omega) only [lp_Mo_box_8, z, q, if_false, gu_nI, nI_clamp, f1, g, if_true, mj_Mo_box_68, ap, n1]
        refine ih (k + 1) y2 y3 (by omega) (by omega) ?_
        rcases hB with ⟨b1, b2, b3⟩ | ⟨m, M, b1, b2, b3, b4, b5, ⟨j1, c1, c2, c3⟩, ⟨j2, d1, d2, d3⟩⟩
        · refine Or.inl ⟨b1, b2, fun j hj => ?_⟩
          by_cases w : j = k
          · rw [w]; exact g'
          · exact b3 j (by omega)
        · refine Or.inr ⟨m, M, b1, b2, b3, b4, fun j hj hp => ?_, ⟨j1, by omega, c2, c3⟩, ⟨j2, by omega, d2, d3⟩⟩
          by_cases w : j = k
          · rw [w] at hp; exact absurd hp g'
          · exact b5 j (by omega) hp
      · have g' : 0 < f k := by
          rw [t_lt]
          show (0 : Int) < _
          have : (f k).toInt ≠ 0 := fun w => g (t_eq.mpr w)
          omega
        have r64 : nI k - nI k / 64 * 64 = nI (k % 64) := pk_rem (d := 64) (by omega) (by omega) (by omega)
        have d64 : nI k / 64 = nI (k / 64) := pk_div (d := 64) (by omega) (by omega) (by omega)
        have r65 : nI k - nI (k / 64) * 64 = nI (k % 64) := by rw [← d64]; exact r64
        generalize hv : (if a - a / 2 * 2 = 0 then k % 64 else k / 64) = v
        have v64 : v < 64 := by rw [← hv]; split <;> omega
        have st : lp_Mo_box_8 a μ K (F + 1) y2 y3 (nI k) = mj_Mo_box_48 a μ (lp_Mo_box_8 a μ K F) y2 y3 (nI k) (nI v) := by
          simp (disch := omega) only [lp_Mo_box_8, z, q, if_false, gu_nI, nI_clamp, f1, g, ap, d64, r65]
          rw [← hv]
          split <;> rfl
        rw [st]
        simp only [mj_Mo_box_48, mj_Mo_box_59, mj_Mo_box_68, ap, n1]
        rcases hB with ⟨b1, b2, b3⟩ | ⟨m, M, b1, b2, b3, b4, b5, ⟨j1, c1, c2, c3⟩, ⟨j2, d1, d2, d3⟩⟩
        · subst b1 b2
          have t1 : ¬ (64 : Int32) ≤ nI v := by rw [show (64 : Int32) = nI 64 from rfl, nle (by omega) (by omega)]; omega
          have t2 : ¬ nI v ≤ -1 := fun w => by have := t_le.mp w; rw [nI_toInt (by omega), show (-1 : Int32).toInt = -1 from rfl] at this; omega
          simp only [t1, t2, if_false]
          refine ih (k + 1) _ _ (by omega) (by omega) (Or.inr ⟨v, v, rfl, rfl, v64, v64, fun j hj hp => ?_, ⟨k, by omega, g', hv⟩, ⟨k, by omega, g', hv⟩⟩)
          by_cases w : j = k
          · rw [w]; dsimp only; rw [hv]; omega
          · exact absurd hp (b3 j (by omega))
        · subst b1 b2
          simp (disch := omega) only [nle]
          have all : ∀ m' M', m' ≤ m → M ≤ M' → m' ≤ v → v ≤ M' → ∀ j, j < k + 1 → 0 < f j → m' ≤ (if a - a / 2 * 2 = 0 then j % 64 else j / 64) ∧ (if a - a / 2 * 2 = 0 then j % 64 else j / 64) ≤ M' := by
            intro m' M' h1 h2 h3 h4 j hj hp
            by_cases w : j = k
            · rw [w, hv]; exact ⟨h3, h4⟩
            · have := b5 j (by omega) hp
              dsimp only at this
              omega
          by_cases w1 : m ≤ v
          · simp only [if_pos w1]
            by_cases w2 : v ≤ M
            · simp only [if_pos w2]
              exact ih (k + 1) _ _ (by omega) (by omega) (Or.inr ⟨m, M, rfl, rfl, b3, b4, all m M (by omega) (by omega) w1 w2, ⟨j1, by omega, c2, c3⟩, ⟨j2, by omega, d2, d3⟩⟩)
            · simp only [if_neg w2]
              exact ih (k + 1) _ _ (by omega) (by omega) (Or.inr ⟨m, v, rfl, rfl, b3, v64, all m v (by omega) (by omega) w1 (by omega), ⟨j1, by omega, c2, c3⟩, ⟨k, by omega, g', hv⟩⟩)
          · simp only [if_neg w1]
            by_cases w2 : v ≤ M
            · simp only [if_pos w2]
              exact ih (k + 1) _ _ (by omega) (by omega) (Or.inr ⟨v, M, rfl, rfl, v64, b4, all v M (by omega) (by omega) (by omega) w2, ⟨k, by omega, g', hv⟩, ⟨j2, by omega, d2, d3⟩⟩)
            · simp only [if_neg w2]
              exact ih (k + 1) _ _ (by omega) (by omega) (Or.inr ⟨v, v, rfl, rfl, v64, v64, all v v (by omega) (by omega) (by omega) (by omega), ⟨k, by omega, g', hv⟩, ⟨k, by omega, g', hv⟩⟩)
theorem bx_uniq {f : Nat → Int32} {v : Nat → Nat} {i0 i1 m M : Nat} (a1 : ∀ k, k < 4096 → 0 < f k → i0 ≤ v k ∧ v k ≤ i1) (a2 : ∃ k, k < 4096 ∧ 0 < f k ∧ v k = i0) (a3 : ∃ k, k < 4096 ∧ 0 < f k ∧ v k = i1) (b1 : ∀ k, k < 4096 → 0 < f k → m ≤ v k ∧ v k ≤ M) (b2 : ∃ k, k < 4096 ∧ 0 < f k ∧ v k = m) (b3 : ∃ k, k < 4096 ∧ 0 < f k ∧ v k = M) : m = i0 ∧ M = i1 := by
  obtain ⟨k1, x1, x2, x3⟩ := a2
  obtain ⟨k2, y1, y2, y3⟩ := a3
  obtain ⟨k3, z1, z2, z3⟩ := b2
  obtain ⟨k4, w1, w2, w3⟩ := b3
  have := a1 k3 z1 z2
  have := a1 k4 w1 w2
  have := b1 k1 x1 x2
  have := b1 k2 y1 y2
  omega
theorem op_box {μ : Mem} {n : Nat} (I : InvN n μ) (a : Int32) : m_Mo_box a μ = some (m_Fo_box a μ) := by
  obtain ⟨i1, i2, i3, i4⟩ := I.2.2.2.2.2.2.2.2.2.2.2.2.1
  obtain ⟨y2, y3, e1, hB⟩ := bx_loop (a := a) (K := mj_Mo_box_74 a μ) i1 FU 0 64 (-1) (by omega) (by unfold FU; omega) (Or.inl ⟨rfl, rfl, fun j hj => by omega⟩)
  have e1' : m_Mo_box a μ = mj_Mo_box_74 a μ y2 y3 := e1
  rw [e1']
  have cl := cnt_le (gI μ 140 0) 4096
  unfold m_Fo_box m_Im_edge
  rcases hB with ⟨b1, b2, b3⟩ | ⟨m, M, b1, b2, b3, b4, b5, b6, b7⟩
  · rw [i3, cnt_no _ _ b3, b2]
    rfl
  · have c0 : 0 < cnt (gI μ 140 0) 4096 := by
      obtain ⟨j, hj, hp, _⟩ := b6
      by_cases w : cnt (gI μ 140 0) 4096 = 0
      · exact absurd hp (cnt_zero _ _ w j hj)
      · omega
    obtain ⟨i0, ie, j0, je, k1, k2, k3, k4, k5, k6, k7, k8, k9, k10, k11⟩ := i4 c0
    have nz : ¬ gI μ 2 0 4 = 0 := by rw [i3, show (0 : Int32) = nI 0 from rfl, neq (by omega) (by omega)]; omega
    have nm : ¬ y3 = -1 := by
      rw [b2]; intro w
      have := t_eq.mp w
      rw [nI_toInt (by omega), show (-1 : Int32).toInt = -1 from rfl] at this
      omega
    have col := fun h : a - a / 2 * 2 = 0 => bx_uniq (v := fun j => j % 64) (fun k w1 w2 => ⟨(k7 k w1 w2).1, (k7 k w1 w2).2.1⟩) k8 k9 (fun k w1 w2 => by have := b5 k w1 w2; simp only [h, if_true] at this; exact this) (by simpa only [h, if_true] using b6) (by simpa only [h, if_true] using b7)
    have row := fun h : ¬ a - a / 2 * 2 = 0 => bx_uniq (v := fun j => j / 64) (fun k w1 w2 => ⟨(k7 k w1 w2).2.2.1, (k7 k w1 w2).2.2.2⟩) k10 k11 (fun k w1 w2 => by have := b5 k w1 w2; simp only [h, if_false] at this; exact this) (by simpa only [h, if_false] using b6) (by simpa only [h, if_false] using b7)
    unfold mj_Mo_box_74 mj_Mo_box_102
    rw [if_neg nz, if_neg nm]
    by_cases q0 : a = 0
    · obtain ⟨u1, u2⟩ := col (by rw [q0]; decide)
      subst q0; rw [b1, u1, k3]; rfl
    by_cases q1 : a = 1
    · obtain ⟨u1, u2⟩ := row (by rw [q1]; decide)
      subst q1; rw [b1, u1, k4]; rfl
    by_cases q2 : a = 2
    · obtain ⟨u1, u2⟩ := col (by rw [q2]; decide)
      subst q2; rw [b2, u2, k5]; rfl
    by_cases q3 : a = 3
    · obtain ⟨u1, u2⟩ := row (by rw [q3]; decide)
      subst q3; rw [b2, u2, k6]; rfl
    rw [if_neg q0, if_neg q1, if_neg q2, if_neg q3]
    by_cases h1 : a < 0
    · rw [if_pos h1]
    · rw [if_neg h1, if_neg]
      intro h2
      have h1' : ¬ a.toInt < 0 := fun w => h1 (t_lt.mpr w)
      have h2' : a.toInt ≤ 3 := t_le.mp h2
      obtain ⟨i, hi, w⟩ := ix_of (n := 4) (x := a) (by omega) (by omega) (by omega)
      rcases (show i = 0 ∨ i = 1 ∨ i = 2 ∨ i = 3 by omega) with r | r | r | r <;> rw [r] at w
      · exact q0 w
      · exact q1 w
      · exact q2 w
      · exact q3 w
