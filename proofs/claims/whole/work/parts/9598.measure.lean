theorem s16 : ∀ a : Nat, a < 65 → (nI a - 16).toInt = (a : Int) - 16 := by decide +kernel
theorem lt16 {a b : Nat} (ha : a ≤ 64) (hb : b ≤ 64) : (nI a - 16 < nI b - 16) = (a < b) := by
  rw [t_lt, s16 a (by omega), s16 b (by omega)]
  exact propext ⟨fun q => by omega, fun q => by omega⟩
theorem min16 {a b : Nat} {ν : Mem} (ha : a ≤ 64) (hb : b ≤ 64) : m_Ma_min2 (nI a - 16) (nI b - 16) ν = nI (min a b) - 16 := by
  unfold m_Ma_min2
  have e := lt16 hb ha
  by_cases h : b < a
  · rw [if_pos (by rw [e]; exact h), Nat.min_eq_right (by omega)]
  · rw [if_neg (by rw [e]; exact h), Nat.min_eq_left (by omega)]
theorem max16 {a b : Nat} {ν : Mem} (ha : a ≤ 64) (hb : b ≤ 64) : m_Ma_max (nI a - 16) (nI b - 16) ν = nI (max a b) - 16 := by
  unfold m_Ma_max
  have e := lt16 ha hb
  by_cases h : a < b
  · rw [if_pos (by rw [e]; exact h), Nat.max_eq_right (by omega)]
  · rw [if_neg (by rw [e]; exact h), Nat.max_eq_left (by omega)]
def WD (D : Nat → Int32) (k : Nat) (v : Nat → Nat) (i d : Nat) : Prop := i = d ∨ ∃ a, a < k ∧ 0 < D a ∧ v a = i
/-- the edges of the picture behind k dots -/
def ME (D : Nat → Int32) (ν : Mem) (k : Nat) : Prop := gI ν 2 0 4 = nI (cnt D k) ∧ ∃ i0 i1 j0 j1 : Nat, i0 ≤ 64 ∧ j0 ≤ 64 ∧ i1 < 64 ∧ j1 < 64 ∧ gI ν 2 0 5 = nI i0 - 16 ∧ gI ν 2 0 6 = nI j0 - 16 ∧ gI ν 2 0 7 = nI i1 - 16 ∧ gI ν 2 0 8 = nI j1 - 16 ∧
  (∀ a, a < k → 0 < D a → i0 ≤ a % 64 ∧ a % 64 ≤ i1 ∧ j0 ≤ a / 64 ∧ a / 64 ≤ j1) ∧ WD D k (fun a => a % 64) i0 64 ∧ WD D k (fun a => a % 64) i1 0 ∧ WD D k (fun a => a / 64) j0 64 ∧ WD D k (fun a => a / 64) j1 0
theorem meas_lp {D : Nat → Int32} : ∀ f k ν, k ≤ 4096 → 4096 - k < f → gI ν 140 0 = D → ME D ν k → ∃ ν', lp_Im_measure_31 f (nI k) ν = some ν' ∧ ME D ν' 4096 ∧ (∀ k l b, ¬ (k = 2 ∧ l = 0 ∧ 4 ≤ b ∧ b ≤ 8) → gI ν' k l b = gI ν k l b) := by
  intro f
  induction f with
  | zero => intro k ν h1 h2; omega
  | succ f ih =>
    intro k ν h1 h2 hD hM
    by_cases h : 4096 ≤ k
    · obtain rfl : k = 4096 := by omega
      exact ⟨ν, by rw [lp_Im_measure_31, if_pos (by decide)], hM, fun _ _ _ _ => rfl⟩
    · have n1 : nI k + 1 = nI (k + 1) := nI_add k 1
      have hD' : gI ν 140 0 k = D k := by rw [hD]
      obtain ⟨c1, i0, i1, j0, j1, q1, q2, q3, q4, g5, g6, g7, g8, hb, w1, w2, w3, w4⟩ := hM
      rw [lp_Im_measure_31, if_neg (by rw [show (4096 : Int32) = nI 4096 from rfl, nle (by omega) (by omega)]; exact h), gu_nI (by omega) (by omega), nI_clamp (by omega), hD']
      unfold mj_Im_measure_131
      by_cases hp : 0 < D k
      · have hp' : ¬ D k ≤ 0 := fun q => by
          have e1 := t_le.mp q
          have e2 := t_lt.mp hp
          omega
        have x1 : nI k - nI k / 64 * 64 = nI (k % 64) := nmod (n := 64) (by omega) (by omega)
        have x2 : nI k / 64 = nI (k / 64) := ndiv (n := 64) (by omega) (by omega)
        have x3 : ∀ a : Nat, nI a + -16 = nI a - 16 := fun a => by grind
        have c2 : nI (cnt D k) + 1 = nI (cnt D (k + 1)) := by
          rw [show cnt D (k + 1) = cnt D k + 1 by rw [cnt, if_pos hp]]; exact nI_add _ 1
        have m1 : k % 64 ≤ 64 := by omega
        have m2 : k / 64 ≤ 64 := by omega
        obtain ⟨ν', e1, e2, e3⟩ := ih (k + 1) (sI (sI (sI (sI (sI ν 2 0 4 (nI (cnt D (k + 1)))) 2 0 5 (nI (min i0 (k % 64)) - 16)) 2 0 7 (nI (max i1 (k % 64)) - 16)) 2 0 6 (nI (min j0 (k / 64)) - 16)) 2 0 8 (nI (max j1 (k / 64)) - 16)) (by omega) (by omega) (by
            funext b
            rw [gI_ne (by omega), gI_ne (by omega), gI_ne (by omega), gI_ne (by omega), gI_ne (by omega), hD]) (by
            refine ⟨?_, min i0 (k % 64), max i1 (k % 64), min j0 (k / 64), max j1 (k / 64), by omega, by omega, by omega, by omega, ?_, ?_, ?_, ?_, fun a ha hq => ?_, ?_, ?_, ?_, ?_⟩
            · simp (disch := omega) only [gI_ne2, gI_self]
            · simp (disch := omega) only [gI_ne2, gI_self]
            · simp (disch := omega) only [gI_ne2, gI_self]
            · simp (disch := omega) only [gI_ne2, gI_self]
            · simp (disch := omega) only [gI_ne2, gI_self]
            · by_cases w : a = k
              · subst w; omega
              · have := hb a (by omega) hq; omega
            · by_cases w : k % 64 < i0
              · exact Or.inr ⟨k, by omega, hp, by show _ = _; dsimp only; omega⟩
              · rcases w1 with w1 | ⟨a, a1, a2, a3⟩
                · exfalso; omega
                · exact Or.inr ⟨a, by omega, a2, by dsimp only at a3 ⊢; omega⟩
            · by_cases w : i1 < k % 64
              · exact Or.inr ⟨k, by omega, hp, by show _ = _; dsimp only; omega⟩
              · rcases w2 with w2 | ⟨a, a1, a2, a3⟩
                · left; omega
                · exact Or.inr ⟨a, by omega, a2, by dsimp only at a3 ⊢; omega⟩
            · by_cases w : k / 64 < j0
              · exact Or.inr ⟨k, by omega, hp, by show _ = _; dsimp only; omega⟩
              · rcases w3 with w3 | ⟨a, a1, a2, a3⟩
                · exfalso; omega
                · exact Or.inr ⟨a, by omega, a2, by dsimp only at a3 ⊢; omega⟩
            · by_cases w : j1 < k / 64
              · exact Or.inr ⟨k, by omega, hp, by show _ = _; dsimp only; omega⟩
              · rcases w4 with w4 | ⟨a, a1, a2, a3⟩
                · left; omega
                · exact Or.inr ⟨a, by omega, a2, by dsimp only at a3 ⊢; omega⟩)
        refine ⟨ν', ?_, e2, fun k' l b q => ?_⟩
        · rw [if_neg hp', c1, c2, ap, ap, x1, x3, gI_ne2 (by omega), g5, min16 q1 m1, ap, ap, ap, gI_ne2 (by omega), gI_ne2 (by omega), g7, x3, max16 (by omega) m1, x2, x3, gI_ne2 (by omega), gI_ne2 (by omega), gI_ne2 (by omega), g6, min16 q2 m2, ap, gI_ne2 (by omega), gI_ne2 (by omega), gI_ne2 (by omega), gI_ne2 (by omega), g8, max16 (by omega) m2, ap, ap, n1]
          exact e1
        · rw [e3 k' l b q, gI_sI, if_neg (by omega), gI_sI, if_neg (by omega), gI_sI, if_neg (by omega), gI_sI, if_neg (by omega), gI_sI, if_neg (by omega)]
      · have hp' : D k ≤ 0 := by
          apply t_le.mpr
          have e2 : ¬ (0 : Int32).toInt < (D k).toInt := fun q => hp (t_lt.mpr q)
          omega
        obtain ⟨ν', e1, e2, e3⟩ := ih (k + 1) ν (by omega) (by omega) hD (by
          refine ⟨by rw [cnt, if_neg hp]; exact c1, i0, i1, j0, j1, q1, q2, q3, q4, g5, g6, g7, g8, fun a ha hq => ?_, ?_, ?_, ?_, ?_⟩
          · by_cases w : a = k
            · subst w; exact (hp hq).elim
            · exact hb a (by omega) hq
          · exact w1.imp id fun ⟨a, a1, a2, a3⟩ => ⟨a, by omega, a2, a3⟩
          · exact w2.imp id fun ⟨a, a1, a2, a3⟩ => ⟨a, by omega, a2, a3⟩
          · exact w3.imp id fun ⟨a, a1, a2, a3⟩ => ⟨a, by omega, a2, a3⟩
          · exact w4.imp id fun ⟨a, a1, a2, a3⟩ => ⟨a, by omega, a2, a3⟩)
        refine ⟨ν', ?_, e2, e3⟩
        rw [if_pos hp', ap, n1]
        exact e1
theorem measure_C {ν : Mem} : ∃ ν', m_Im_measure ν = some ν' ∧ ME (gI ν 140 0) ν' 4096 ∧ (∀ k l b, ¬ (k = 2 ∧ l = 0 ∧ 4 ≤ b ∧ b ≤ 8) → gI ν' k l b = gI ν k l b) := by
  obtain ⟨ν', e1, e2, e3⟩ := meas_lp (D := gI ν 140 0) FU 0 (sI (sI (sI (sI (sI ν 2 0 4 0) 2 0 5 48) 2 0 6 48) 2 0 7 (-16)) 2 0 8 (-16)) (by omega) (by unfold FU; omega) (by
    funext b
    rw [gI_ne (by omega), gI_ne (by omega), gI_ne (by omega), gI_ne (by omega), gI_ne (by omega)]) (by
    refine ⟨?_, 64, 0, 64, 0, by omega, by omega, by omega, by omega, ?_, ?_, ?_, ?_, fun a ha => by omega, Or.inl rfl, Or.inl rfl, Or.inl rfl, Or.inl rfl⟩
    · simp (disch := omega) only [gI_ne2, gI_self]; rfl
    · simp (disch := omega) only [gI_ne2, gI_self]; rfl
    · simp (disch := omega) only [gI_ne2, gI_self]; rfl
    · simp (disch := omega) only [gI_ne2, gI_self]; rfl
    · simp (disch := omega) only [gI_ne2, gI_self]; rfl)
  refine ⟨ν', ?_, e2, fun k l b q => ?_⟩
  · unfold m_Im_measure
    rw [ap, ap, ap, ap, ap, show (0 : Int32) = nI 0 from rfl]
    exact e1
  · rw [e3 k l b q, gI_sI, if_neg (by omega), gI_sI, if_neg (by omega), gI_sI, if_neg (by omega), gI_sI, if_neg (by omega), gI_sI, if_neg (by omega)]
/-- what is measured is what the picture should be -/
theorem me_im {ν : Mem} {D : Nat → Int32} (M : ME D ν 4096) (hD : gI ν 140 0 = D) (h1 : ∀ k, k < 4096 → gI ν 379 0 k = D k ∧ bI (D k) 0 64) (h2 : ∀ k, k < 513 → gI ν 141 0 k = 0) : IM ν := by
  obtain ⟨c1, i0, i1, j0, j1, q1, q2, q3, q4, g5, g6, g7, g8, hb, w1, w2, w3, w4⟩ := M
  refine ⟨fun k hk => by rw [hD]; exact h1 k hk, h2, by rw [hD]; exact c1, fun hc => ?_⟩
  rw [hD] at hc ⊢
  obtain ⟨a, a1, a2⟩ : ∃ a, a < 4096 ∧ 0 < D a := by
    by_cases q : ∃ a, a < 4096 ∧ 0 < D a
    · exact q
    · have := cnt_no D 4096 fun k hk hq => q ⟨k, hk, hq⟩
      omega
  have hba := hb a a1 a2
  refine ⟨i0, i1, j0, j1, q3, q4, g5, g6, g7, g8, hb, ?_, ?_, ?_, ?_⟩
  · rcases w1 with w | w
    · omega
    · exact w
  · rcases w2 with w | w
    · exact ⟨a, a1, a2, by omega⟩
    · exact w
  · rcases w3 with w | w
    · omega
    · exact w
  · rcases w4 with w | w
    · exact ⟨a, a1, a2, by omega⟩
    · exact w
