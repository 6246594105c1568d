theorem pg_mono {b : Nat → Nat} {g : Nat} (h : ∀ j, j < g → b j + 2 ≤ b (j + 1)) : ∀ j j', j ≤ j' → j' ≤ g → b j + 2 * (j' - j) ≤ b j' := by
  have : ∀ d j, j + d ≤ g → b j + 2 * d ≤ b (j + d) := by
    intro d
    induction d with
    | zero => intro j _; exact Nat.le_refl _
    | succ d ih => intro j hj; have h1 := ih j (by omega); have h2 := h (j + d) (by omega); rw [Nat.add_assoc] at h2; omega
  intro j j' h1 h2
  have := this (j' - j) j (by omega)
  rw [show j + (j' - j) = j' by omega] at this
  exact this
theorem pg_of {b : Nat → Nat} {k : Nat} (b0 : b 0 = 0) : ∀ g, k < b g → ∃ j, j < g ∧ b j ≤ k ∧ k < b (j + 1) := by
  intro g
  induction g with
  | zero => intro h; rw [b0] at h; omega
  | succ g ih =>
    intro h
    by_cases q : k < b g
    · obtain ⟨j, h1, h2, h3⟩ := ih q; exact ⟨j, by omega, h2, h3⟩
    · exact ⟨g, by omega, by omega, h⟩
theorem nx_back {μ : Mem} {i f g : Nat} {b : Nat → Nat} (P : PG μ i f g b) {j k : Nat} (hj : j < g) (h1 : b j ≤ k) (h2 : k < b (j + 1)) : ∀ d m, b j + d = m → m ≤ k → ∀ F, d < F → lp_Mo_next_33 (nI k) μ F (nI m) = some (nI (b j)) := by
  obtain ⟨hf, f1, f2, b0, b1, b2, b3, b4⟩ := P
  have hb := pg_mono b2 (j + 1) g (by omega) (Nat.le_refl g)
  have hg := pg_mono b2 0 g (by omega) (Nat.le_refl g)
  have num : ∀ k', k' < f → gI μ 370 0 k' = gI μ 242 i k' := fun k' h => (b3 k' h).2.2.1
  intro d
  induction d with
  | zero =>
    intro m hm hk F hF
    obtain ⟨F, rfl⟩ : ∃ F', F = F' + 1 := ⟨F - 1, by omega⟩
    have hm' : m = b j := by omega
    subst hm'
    by_cases q : b j = 0
    · rw [q]
      simp only [lp_Mo_next_33]
      rw [if_pos (by decide)]
    · have q1 : ¬ b j ≤ 0 := by omega
      obtain ⟨j', j1, j2, j3⟩ := pg_of (k := b j - 1) b0 g (by omega)
      have ne : ¬ j' = j := by intro w; subst w; omega
      have hj' : b (j' + 1) ≤ f := by have := pg_mono b2 (j' + 1) g (by omega) (Nat.le_refl g); omega
      have e1 : gI μ 370 0 (b j - 1) = nI j' := by rw [num _ (by omega)]; exact (b4 j' (b j - 1) j1 j2 j3).1
      have e2 : gI μ 370 0 k = nI j := by rw [num _ (by omega)]; exact (b4 j k hj h1 h2).1
      have z : (nI (b j) ≤ 0) = (b j ≤ 0) := by rw [show (0 : Int32) = nI 0 from rfl, nle (by omega) (by omega)]
      simp (disch := omega) only [lp_Mo_next_33, z, q1, if_false, nsub1, gu_nI, nI_clamp, e1, e2, neq, ne]
  | succ d ih =>
    intro m hm hk F hF
    obtain ⟨F, rfl⟩ : ∃ F', F = F' + 1 := ⟨F - 1, by omega⟩
    have q1 : ¬ m ≤ 0 := by omega
    have e1 : gI μ 370 0 (m - 1) = nI j := by rw [num _ (by omega)]; exact (b4 j (m - 1) hj (by omega) (by omega)).1
    have e2 : gI μ 370 0 k = nI j := by rw [num _ (by omega)]; exact (b4 j k hj h1 h2).1
    have z : (nI m ≤ 0) = (m ≤ 0) := by rw [show (0 : Int32) = nI 0 from rfl, nle (by omega) (by omega)]
    have m1 : nI m + -1 = nI (m - 1) := by rw [← nsub1 (by omega)]; grind
    simp (disch := omega) only [lp_Mo_next_33, z, q1, if_false, nsub1, gu_nI, nI_clamp, e1, e2, if_true, ap, m1]
    exact ih (m - 1) (by omega) (by omega) F (by omega)
theorem pg_next {μ : Mem} {i f g : Nat} {b : Nat → Nat} (P : PG μ i f g b) {k : Nat} (hk : k < f) : ∃ nx, nx < f ∧ gI μ 243 i k = nI nx ∧ m_Mo_next (nI k) μ = some (nI nx) := by
  obtain ⟨hf, f1, f2, b0, b1, b2, b3, b4⟩ := id P
  obtain ⟨j, hj, h1, h2⟩ := pg_of b0 g (by rw [b1]; exact hk)
  have hb := pg_mono b2 (j + 1) g (by omega) (Nat.le_refl g)
  have hg := pg_mono b2 0 g (by omega) (Nat.le_refl g)
  have n1 : nI k + 1 = nI (k + 1) := nI_add k 1
  have num : ∀ k', k' < f → gI μ 370 0 k' = gI μ 242 i k' := fun k' h => (b3 k' h).2.2.1
  have e2 : gI μ 370 0 k = nI j := by rw [num _ (by omega)]; exact (b4 j k hj h1 h2).1
  have back : mj_Mo_next_31 (nI k) μ = some (nI (b j)) := nx_back P hj h1 h2 (k - b j) k (by omega) (Nat.le_refl k) FU (by unfold FU; omega)
  have w := (b4 j k hj h1 h2).2
  by_cases q : k + 1 = b (j + 1)
  · rw [if_pos q] at w
    refine ⟨b j, by omega, w, ?_⟩
    by_cases q2 : f ≤ k + 1
    · simp (disch := omega) only [m_Mo_next, f2, n1, nle, q2, if_true, back]
    · obtain ⟨j', j1, j2, j3⟩ := pg_of (k := k + 1) b0 g (by omega)
      have ne : ¬ j' = j := by intro w; subst w; omega
      have hj' : b (j' + 1) ≤ f := by have := pg_mono b2 (j' + 1) g (by omega) (Nat.le_refl g); omega
      have e1 : gI μ 370 0 (k + 1) = nI j' := by rw [num _ (by omega)]; exact (b4 j' (k + 1) j1 j2 j3).1
      simp (disch := omega) only [m_Mo_next, f2, n1, nle, q2, if_false, gu_nI, nI_clamp, e1, e2, neq, ne, back]
  · rw [if_neg q] at w
    refine ⟨k + 1, by omega, w, ?_⟩
    have q2 : ¬ f ≤ k + 1 := by omega
    have e1 : gI μ 370 0 (k + 1) = nI j := by rw [num _ (by omega)]; exact (b4 j (k + 1) hj (by omega) (by omega)).1
    simp (disch := omega) only [m_Mo_next, f2, n1, nle, q2, if_false, gu_nI, nI_clamp, e1, e2, if_true]
theorem area_both {μ : Mem} {i f g : Nat} {b : Nat → Nat} (P : PG μ i f g b) : ∀ F k s, k ≤ f → f - k < F → ∃ r, lp_Po_doubleArea_4 i μ F s (nI k) = some r ∧ lp_Mo_area_4 μ F s (nI k) = some r := by
  obtain ⟨hf, f1, f2, b0, b1, b2, b3, b4⟩ := id P
  intro F
  induction F with
  | zero => intro k s h1 h2; omega
  | succ F ih =>
    intro k s h1 h2
    by_cases q : f ≤ k
    · refine ⟨s, ?_, ?_⟩
      · simp (disch := omega) only [lp_Po_doubleArea_4, f1, nle, q, if_true]
      · simp (disch := omega) only [lp_Mo_area_4, f2, nle, q, if_true]
    · obtain ⟨nx, hn, n1, n2⟩ := pg_next P (k := k) (by omega)
      obtain ⟨w1, w2, _⟩ := b3 k (by omega)
      obtain ⟨v1, v2, _⟩ := b3 nx hn
      have a1 : nI k + 1 = nI (k + 1) := nI_add k 1
      simp (disch := omega) only [lp_Po_doubleArea_4, lp_Mo_area_4, f1, f2, nle, q, if_false, gu_nI, nI_clamp, n1, n2, Option.bind_some, ap, a1, w1, w2, v1, v2]
      rw [show (gI μ 240 i nx).toInt64 * (gI μ 241 i k).toInt64 = (gI μ 241 i k).toInt64 * (gI μ 240 i nx).toInt64 from Int64.mul_comm ..]
      exact ih (k + 1) _ (by omega) (by omega)
theorem op_area {μ : Mem} {n : Nat} (I : InvN n μ) : ∃ r, m_Fo_area μ = some r ∧ m_Mo_area μ = some r := by
  obtain ⟨i, j, f, g, bb, hij, g1, g2, P⟩ := I.2.2.2.2.2.2.2.2.2.2.2.1
  obtain ⟨r, r1, r2⟩ := area_both P FU 0 0 (by omega) (by have := P.1; unfold FU; omega)
  exact ⟨r, by simp only [m_Fo_area, ap, g1, Option.bind_some, m_Po_doubleArea]; rw [show (0 : Int32) = nI 0 from rfl, r1]; rfl, r2⟩
