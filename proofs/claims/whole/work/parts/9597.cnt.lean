theorem zero_379 {x1 x2 x3 x4 : Int32} : ∀ f i ξ, i ≤ 4096 → 4096 - i < f → ∃ ξ', (∀ c, lp_Mo_image_68 x1 x2 x3 x4 c f (nI i) ξ = c ξ') ∧ (∀ b, i ≤ b → b < 4096 → gI ξ' 379 0 b = 0) ∧ (∀ k l b, ¬ (k = 379 ∧ l = 0 ∧ i ≤ b ∧ b < 4096) → gI ξ' k l b = gI ξ k l b) := by
  intro f
  induction f with
  | zero => intro i ξ h1 h2; omega
  | succ f ih =>
    intro i ξ h1 h2
    by_cases h : 4096 ≤ i
    · exact ⟨ξ, fun c => by rw [lp_Mo_image_68, if_pos (by rw [show (4096 : Int32) = nI 4096 from rfl, nle (by omega) (by omega)]; exact h)], fun b _ _ => by omega, fun _ _ _ _ => rfl⟩
    · have n1 : nI i + 1 = nI (i + 1) := nI_add i 1
      obtain ⟨ξ', e1, e2, e3⟩ := ih (i + 1) (sI ξ 379 0 i 0) (by omega) (by omega)
      refine ⟨ξ', fun c => ?_, fun b b1 b2 => ?_, fun k l b q => ?_⟩
      · rw [lp_Mo_image_68, if_neg (by rw [show (4096 : Int32) = nI 4096 from rfl, nle (by omega) (by omega)]; exact h), gu_nI (by omega) (by omega), nI_clamp (by omega), ap, ap, n1]
        exact e1 c
      · by_cases w : b = i
        · subst w; rw [e3 379 0 b (by omega), gI_self]
        · exact e2 b (by omega) b2
      · rw [e3 k l b (by omega), gI_sI, if_neg (by omega)]
theorem cnt_218 {x1 x2 x3 x4 : Int32} {ξ : Mem} : ∀ f k, k ≤ 4096 → 4096 - k < f → lp_Mo_image_218 x1 x2 x3 x4 f (nI (cnt (gI ξ 379 0) k)) (nI k) ξ = some (nI (cnt (gI ξ 379 0) 4096), ξ) := by
  intro f
  induction f with
  | zero => intro k h1 h2; omega
  | succ f ih =>
    intro k h1 h2
    by_cases h : 4096 ≤ k
    · rw [lp_Mo_image_218, if_pos (by rw [show (4096 : Int32) = nI 4096 from rfl, nle (by omega) (by omega)]; exact h), show k = 4096 by omega]
    · have n1 : nI k + 1 = nI (k + 1) := nI_add k 1
      have n2 : nI (cnt (gI ξ 379 0) k) + 1 = nI (cnt (gI ξ 379 0) k + 1) := nI_add _ 1
      have r := ih (k + 1) (by omega) (by omega)
      rw [lp_Mo_image_218, if_neg (by rw [show (4096 : Int32) = nI 4096 from rfl, nle (by omega) (by omega)]; exact h), gu_nI (by omega) (by omega), nI_clamp (by omega)]
      unfold mj_Mo_image_239
      by_cases w : gI ξ 379 0 k ≤ 0
      · have w' := t_le.mp w
        have e : cnt (gI ξ 379 0) (k + 1) = cnt (gI ξ 379 0) k := by
          show cnt (gI ξ 379 0) k + (if 0 < gI ξ 379 0 k then 1 else 0) = _
          rw [if_neg (fun z => by have := t_lt.mp z; omega)]; rfl
        rw [if_pos w, ap, n1, ← e]; exact r
      · have w' : ¬ (gI ξ 379 0 k).toInt ≤ (0 : Int32).toInt := fun z => w (t_le.mpr z)
        have e : cnt (gI ξ 379 0) (k + 1) = cnt (gI ξ 379 0) k + 1 := by
          show cnt (gI ξ 379 0) k + (if 0 < gI ξ 379 0 k then 1 else 0) = _
          rw [if_pos (t_lt.mpr (by omega))]
        rw [if_neg w, n2, ap, ap, n1, ← e]; exact r
