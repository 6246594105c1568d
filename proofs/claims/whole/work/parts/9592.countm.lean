theorem and1i (q : Int32) : q &&& 1 = 0 ∨ q &&& 1 = 1 := by
  have h : (q &&& 1).toBitVec = q.toBitVec &&& 1#32 := rfl
  rw [BitVec.and_one_eq_setWidth_ofBool_getLsbD] at h
  rw [← Int32.toBitVec_inj, ← Int32.toBitVec_inj, h]
  cases q.toBitVec.getLsbD 0 <;> decide
theorem count_M {M : Nat → Int32} {D : Nat} {a1 a2 a3 rule y5 : Int32} {base : Nat → Int32} {F : Nat → Bool} (hF : F = fun c => fil rule (ts M (512 - c))) (hD : D + 63 < 4096) (h5 : 64 * ((y5 + 128) / 8) = nI D) : ∀ f c ξ, c ≤ 512 → 512 - c < f → (∀ p, p ≤ 511 → gI ξ 380 0 p = -M p) → (∀ q, q < 4096 → gI ξ 379 0 q = base q + nI (CF F D q c)) →
    ∃ ξ', (∀ cc, lp_Mo_image_115 a1 a2 a3 rule cc f y5 (ts M (513 - c)) (nI c) ξ = cc y5 ξ') ∧ (∀ q, q < 4096 → gI ξ' 379 0 q = base q + nI (CF F D q 512)) ∧ (∀ k l b, ¬ (k = 379 ∧ l = 0 ∧ b < 4096) → gI ξ' k l b = gI ξ k l b) := by
  have o1 : ¬ (1 : Int32) = 0 := by decide
  intro f
  induction f with
  | zero => intro c ξ h1 h2; omega
  | succ f ih =>
    intro c ξ h1 h2 hM hC
    by_cases h : 512 ≤ c
    · obtain rfl : c = 512 := by omega
      exact ⟨ξ, fun cc => by rw [lp_Mo_image_115, if_pos (by decide)], hC, fun _ _ _ _ => rfl⟩
    · have n1 : nI c + 1 = nI (c + 1) := nI_add c 1
      have tsx : ts M (513 - c) + -M c = ts M (513 - (c + 1)) := by
        rw [show 513 - c = (513 - (c + 1)) + 1 by omega]
        show ts M (513 - (c + 1)) + M (512 - (513 - (c + 1))) + -M c = _
        rw [show 512 - (513 - (c + 1)) = c by omega]; grind
      have Fc : F c = fil rule (ts M (513 - (c + 1))) := by
        rw [hF]; show fil rule (ts M (512 - c)) = _
        rw [show 512 - c = 513 - (c + 1) by omega]
      have head : ∀ cc, lp_Mo_image_115 a1 a2 a3 rule cc (f + 1) y5 (ts M (513 - c)) (nI c) ξ = mj_Mo_image_166 a1 a2 a3 rule (lp_Mo_image_115 a1 a2 a3 rule cc f) y5 (ts M (513 - (c + 1))) (nI c) (if F c = true then 1 else 0) ξ := fun cc => by
        rw [lp_Mo_image_115, if_neg (by rw [show (512 : Int32) = nI 512 from rfl, nle (by omega) (by omega)]; exact h), gu_nI (by omega) (by omega), nI_clamp (by omega), hM c (by omega), tsx, ap, Fc]
        unfold fil
        by_cases w : rule = 0
        · rw [if_pos w, if_pos w]
          by_cases w2 : ts M (513 - (c + 1)) = 0
          · rw [if_pos w2, decide_eq_false (fun z => z w2), if_neg (by decide)]
          · rw [if_neg w2, decide_eq_true w2, if_pos rfl]
        · rw [if_neg w, if_neg w]
          rcases and1i (ts M (513 - (c + 1))) with w2 | w2
          · rw [w2, if_neg (by decide), decide_eq_false (fun z => z rfl), if_neg (by decide)]
          · rw [w2, if_pos rfl, decide_eq_true (by decide), if_pos rfl]
      have go : ∀ ξ1, (∀ k l b, ¬ (k = 379 ∧ l = 0 ∧ b < 4096) → gI ξ1 k l b = gI ξ k l b) → (∀ q, q < 4096 → gI ξ1 379 0 q = base q + nI (CF F D q (c + 1))) → ∃ ξ', (∀ cc, mj_Mo_image_200 a1 a2 a3 rule (lp_Mo_image_115 a1 a2 a3 rule cc f) y5 (ts M (513 - (c + 1))) (nI c) ξ1 = cc y5 ξ') ∧ (∀ q, q < 4096 → gI ξ' 379 0 q = base q + nI (CF F D q 512)) ∧ (∀ k l b, ¬ (k = 379 ∧ l = 0 ∧ b < 4096) → gI ξ' k l b = gI ξ k l b) := by
        intro ξ1 g1 g2
        obtain ⟨ξ', r1, r2, r3⟩ := ih (c + 1) ξ1 (by omega) (by omega) (fun p hp => by rw [g1 380 0 p (by omega)]; exact hM p hp) g2
        refine ⟨ξ', fun cc => ?_, r2, fun k l b q => by rw [r3 k l b q, g1 k l b q]⟩
        unfold mj_Mo_image_200
        rw [ap, n1]; exact r1 cc
      have cfs : ∀ q, CF F D q (c + 1) = CF F D q c + (if F c = true ∧ D + c / 8 = q then 1 else 0) := fun _ => rfl
      by_cases w : F c = true
      · have i2 : nI c / 8 = nI (c / 8) := ndiv (n := 8) (by omega) (by omega)
        have i3 : nI D + nI (c / 8) = nI (D + c / 8) := nI_add _ _
        obtain ⟨ξ', r1, r2⟩ := go (sI ξ 379 0 (D + c / 8) (gI ξ 379 0 (D + c / 8) + 1)) (fun k l b q => by rw [gI_sI, if_neg (by omega)]) (fun q hq => by
          rw [cfs q]
          by_cases w2 : q = D + c / 8
          · subst w2
            rw [gI_self, hC _ hq, if_pos ⟨w, rfl⟩, Int32.add_assoc, show (1 : Int32) = nI 1 from rfl, nI_add]
          · rw [gI_ne2 w2, hC q hq, if_neg (fun z => w2 z.2.symm)]; rfl)
        refine ⟨ξ', fun cc => ?_, r2⟩
        rw [head, if_pos w]
        unfold mj_Mo_image_166
        rw [if_neg o1, h5, i2, i3, gu_nI (by omega) (by omega), gu_nI (by omega) (by omega), nI_clamp (by omega), ap]
        exact r1 cc
      · obtain ⟨ξ', r1, r2⟩ := go ξ (fun _ _ _ _ => rfl) (fun q hq => by rw [cfs q, hC q hq, if_neg (fun z => w z.1)]; rfl)
        refine ⟨ξ', fun cc => ?_, r2⟩
        rw [head, if_neg w]
        unfold mj_Mo_image_166
        rw [if_pos rfl]
        exact r1 cc
