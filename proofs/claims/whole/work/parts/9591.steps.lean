theorem zero_lp {a1 s : Int32} : ∀ f i ξ, i ≤ 514 → 514 - i < f → ∃ ξ', (∀ c, lp_Mo_steps_2 a1 s c f (nI i) ξ = c ξ') ∧ (∀ b, i ≤ b → b < 514 → gI ξ' 380 0 b = 0) ∧ (∀ k l b, ¬ (k = 380 ∧ l = 0 ∧ i ≤ b ∧ b < 514) → gI ξ' k l b = gI ξ k l b) := by
  intro f
  induction f with
  | zero => intro i ξ h1 h2; omega
  | succ f ih =>
    intro i ξ h1 h2
    by_cases h : 514 ≤ i
    · exact ⟨ξ, fun c => by rw [lp_Mo_steps_2, if_pos (by rw [show (514 : Int32) = nI 514 from rfl, nle (by omega) (by omega)]; exact h)], fun b _ _ => by omega, fun _ _ _ _ => rfl⟩
    · have n1 : nI i + 1 = nI (i + 1) := nI_add i 1
      obtain ⟨ξ', e1, e2, e3⟩ := ih (i + 1) (sI ξ 380 0 i 0) (by omega) (by omega)
      refine ⟨ξ', fun c => ?_, fun b b1 b2 => ?_, fun k l b q => ?_⟩
      · rw [lp_Mo_steps_2, if_neg (by rw [show (514 : Int32) = nI 514 from rfl, nle (by omega) (by omega)]; exact h), gu_nI (by omega) (by omega), nI_clamp (by omega), ap, ap, n1]
        exact e1 c
      · by_cases w : b = i
        · subst w; rw [e3 380 0 b (by omega), gI_self]
        · exact e2 b (by omega) b2
      · rw [e3 k l b (by omega), gI_sI, if_neg (by omega)]
theorem steps_M {ξ0 : Mem} {m : Nat} {X Y : Nat → Int32} {nx : Nat → Nat} {a1 s : Int32} {y : Int} (hm : m ≤ 500) (h27 : gI ξ0 12 0 27 = nI m) (hX : ∀ k, k < m → gI ξ0 368 0 k = X k ∧ gI ξ0 369 0 k = Y k ∧ nx k < m ∧ bI (X k) (-100000) 100000 ∧ bI (Y k) (-100000) 100000) (hnx : ∀ ξ', (∀ k l b, k ≠ 380 → gI ξ' k l b = gI ξ0 k l b) → ∀ k, k < m → m_Mo_next (nI k) ξ' = some (nI (nx k))) (hs : 4 ≤ s.toInt ∧ s.toInt ≤ 32) (hy : -100000 ≤ y ∧ y ≤ 100000) (ha : ((2 * a1.toInt64 + 1) * 64 : Int64).toInt = y) :
    ∃ ξ', m_Mo_steps a1 s ξ0 = some ξ' ∧ MSS ξ0 ξ' X Y nx s.toInt y m := by
  obtain ⟨ξ1, e1, e2, e3⟩ := zero_lp (a1 := a1) (s := s) FU 0 ξ0 (by omega) (by unfold FU; omega)
  have M0 : MSS ξ0 ξ1 X Y nx s.toInt ((2 * a1.toInt64 + 1) * 64 : Int64).toInt 0 := ⟨fun p p1 p2 => by rw [e2 p (by omega) (by omega)]; show (0 : Int32) = -0; decide, by rw [e2 0 (by omega) (by omega)]; rfl, fun k l b q => e3 k l b (by omega)⟩
  obtain ⟨ξ2, f1, f2⟩ := steps_lp (a1 := a1) (y := (2 * a1.toInt64 + 1) * 64) hm h27 hX hnx hs (by rw [ha]; exact hy) FU 0 ξ1 (by omega) (by unfold FU; omega) M0
  rw [ha] at f2
  refine ⟨ξ2, ?_, f2⟩
  unfold m_Mo_steps
  rw [show (0 : Int32) = nI 0 from rfl, e1]
  unfold mj_Mo_steps_22
  rw [ap, show (0 : Int32) = nI 0 from rfl]
  exact f1
