def GC (i : Nat) (ν ν' : Mem) : Prop := (∀ k l b, ¬ (240 ≤ k ∧ k ≤ 243 ∧ l = i) → ¬ (k = 7 ∧ l = i) → ¬ (k = 1 ∧ b = 6) → gI ν' k l b = gI ν k l b) ∧ (∀ a l b, ¬ (a = 120 ∨ a = 121) → gL ν' a l b = gL ν a l b) ∧ gR ν' = gR ν ∧ gF ν' = gF ν
def GMm (ξ ξ' : Mem) : Prop := (∀ k l b, ¬ (364 ≤ k ∧ k ≤ 366) → ¬ (k = 12 ∧ (b = 22 ∨ b = 23 ∨ b = 31 ∨ b = 32 ∨ b = 37)) → k ≠ 376 → gI ξ' k l b = gI ξ k l b) ∧ (∀ a l b, a ≠ 375 → gL ξ' a l b = gL ξ a l b)
theorem gc_tr {i : Nat} {ν ν' ν'' : Mem} (a : GC i ν ν') (b : GC i ν' ν'') : GC i ν ν'' := ⟨fun k l c p q r => (b.1 k l c p q r).trans (a.1 k l c p q r), fun x l c p => (b.2.1 x l c p).trans (a.2.1 x l c p), b.2.2.1.trans a.2.2.1, b.2.2.2.trans a.2.2.2⟩
theorem gm_tr {ξ ξ' ξ'' : Mem} (a : GMm ξ ξ') (b : GMm ξ' ξ'') : GMm ξ ξ'' := ⟨fun k l c p q r => (b.1 k l c p q r).trans (a.1 k l c p q r), fun x l c p => (b.2 x l c p).trans (a.2 x l c p)⟩
theorem gc_xc {i h : Nat} {ν ν' : Mem} (a : XC i h ν ν') : GC i ν ν' := ⟨fun k l c p q _ => a.1 k l c p q, fun x l c p => a.2.1 x l c (by omega), a.2.2⟩
theorem gm_xm {v : Nat} {ξ ξ' : Mem} (a : XM v ξ ξ') : GMm ξ ξ' := ⟨fun k l c p q r => a.1 k l c p q (by omega), fun x l c p => a.2 x l c (by omega)⟩
theorem copy108 {l i s n y d : Nat} {a2 a3 : Int32} (hn : s + n ≤ 100) (hy : y < n) (hd : d ≤ 3) (hyd : y + d ≤ n) : ∀ f j ν, j ≤ d + 1 → d + 1 - j < f → gI ν 1 0 6 = nI d → (∀ j', j' < j → gL ν 120 0 j' = gL ν 122 0 (s + wf n y j') * 1073741824 ∧ gL ν 121 0 j' = gL ν 123 0 (s + wf n y j') * 1073741824) →
    ∃ ν', (∀ c, lp_Fl_addOutline_108 l a2 a3 i c f (nI s) (nI (s + n)) (nI (s + y)) (nI j) ν = c (nI s) (nI (s + n)) (nI (s + y)) ν') ∧ gI ν' = gI ν ∧ gR ν' = gR ν ∧ gF ν' = gF ν ∧ (∀ a l b, ¬ (a = 120 ∨ a = 121) → gL ν' a l b = gL ν a l b) ∧ (∀ j', j' ≤ d → gL ν' 120 0 j' = gL ν 122 0 (s + wf n y j') * 1073741824 ∧ gL ν' 121 0 j' = gL ν 123 0 (s + wf n y j') * 1073741824) := by
  intro f
  induction f with
  | zero => intro j ν h1 h2; omega
  | succ f ih =>
    intro j ν h1 h2 h6 hold
    by_cases h : d < j
    · refine ⟨ν, ?_, rfl, rfl, rfl, fun _ _ _ _ => rfl, fun j' a => hold j' (by omega)⟩
      intro c
      rw [lp_Fl_addOutline_108, h6, if_pos (by rw [nlt (by omega) (by omega)]; exact h)]
    · have n1 : nI j + 1 = nI (j + 1) := nI_add j 1
      have n2 : nI (s + y) + nI j = nI (s + y + j) := nI_add _ _
      have wl : wf n y j < n := by unfold wf; split <;> omega
      have e0 : ∀ c, lp_Fl_addOutline_108 l a2 a3 i c (f + 1) (nI s) (nI (s + n)) (nI (s + y)) (nI j) ν = mj_Fl_addOutline_137 l a2 a3 i (lp_Fl_addOutline_108 l a2 a3 i c f) (nI s) (nI (s + n)) (nI (s + y)) (nI j) (nI (s + wf n y j)) ν := fun c => by
        rw [lp_Fl_addOutline_108, h6, if_neg (by rw [nlt (by omega) (by omega)]; exact h), n2]
        by_cases w : s + n ≤ s + y + j
        · rw [if_pos (by rw [nle (by omega) (by omega)]; exact w), show s + wf n y j = s by unfold wf; rw [if_neg (by omega)]; omega]
        · rw [if_neg (by rw [nle (by omega) (by omega)]; exact w), show s + wf n y j = s + y + j by unfold wf; rw [if_pos (by omega)]; omega]
      have e1 : ∀ c', mj_Fl_addOutline_137 l a2 a3 i c' (nI s) (nI (s + n)) (nI (s + y)) (nI j) (nI (s + wf n y j)) ν = c' (nI s) (nI (s + n)) (nI (s + y)) (nI (j + 1)) (sL (sL ν 120 0 j (gL ν 122 0 (s + wf n y j) * 1073741824)) 121 0 j (gL ν 123 0 (s + wf n y j) * 1073741824)) := fun c' => by
        unfold mj_Fl_addOutline_137
        rw [sh30, gu_nI (by omega) (by omega), gu_nI (by omega) (by omega), ap, gu_nI (by omega) (by omega), gu_nI (by omega) (by omega), ap, ap, n1, nI_clamp (by omega), nI_clamp (by omega), shl30, shl30, gL_ne (by omega)]
      obtain ⟨ν', g1, g2, g3, g4, g5, g6⟩ := ih (j + 1) (sL (sL ν 120 0 j (gL ν 122 0 (s + wf n y j) * 1073741824)) 121 0 j (gL ν 123 0 (s + wf n y j) * 1073741824)) (by omega) (by omega) h6 (fun j' hj => by
        rw [gL_ne (k := 122) (by omega), gL_ne (k := 122) (by omega), gL_ne (k := 123) (by omega), gL_ne (k := 123) (by omega)]
        by_cases w : j' = j
        · subst w; exact ⟨by rw [gL_ne (by omega), gL_self], gL_self⟩
        · rw [gL_ne (by omega), gL_ne2 w, gL_ne2 w, gL_ne (by omega)]; exact hold j' (by omega))
      refine ⟨ν', fun c => by rw [e0, e1]; exact g1 c, g2, g3, g4, fun a l' b q => ?_, fun j' hj => ?_⟩
      · rw [g5 a l' b q, gL_ne (by omega), gL_ne (by omega)]
      · have := g6 j' hj
        rw [gL_ne (k := 122) (by omega), gL_ne (k := 122) (by omega), gL_ne (k := 123) (by omega), gL_ne (k := 123) (by omega)] at this
        exact this
theorem fill31 {n y d : Nat} {a4 : Int32} {u : Int64} (hn : n ≤ 100) (hy : y < n) (hd : d ≤ 3) (hyd : y + d ≤ n) : ∀ f j ξ, j ≤ d + 1 → d + 1 - j < f → (∀ j', j' < j → gL ξ 375 0 (2 * j') = gL ξ 373 0 (wf n y j') * u ∧ gL ξ 375 0 (2 * j' + 1) = gL ξ 374 0 (wf n y j') * u) →
    ∃ ξ', (∀ c, lp_Mo_curve_31 (nI y) (nI n) (nI (d + 1)) a4 c f u (nI j) ξ = c u ξ') ∧ gI ξ' = gI ξ ∧ (∀ a l b, a ≠ 375 → gL ξ' a l b = gL ξ a l b) ∧ (∀ j', j' ≤ d → gL ξ' 375 0 (2 * j') = gL ξ 373 0 (wf n y j') * u ∧ gL ξ' 375 0 (2 * j' + 1) = gL ξ 374 0 (wf n y j') * u) := by
  intro f
  induction f with
  | zero => intro j ξ h1 h2; omega
  | succ f ih =>
    intro j ξ h1 h2 hold
    by_cases h : d + 1 ≤ j
    · refine ⟨ξ, ?_, rfl, fun _ _ _ _ => rfl, fun j' a => hold j' (by omega)⟩
      intro c
      rw [lp_Mo_curve_31, if_pos (by rw [nle (by omega) (by omega)]; exact h)]
    · have n1 : nI j + 1 = nI (j + 1) := nI_add j 1
      have n2 : nI y + nI j = nI (y + j) := nI_add _ _
      have n3 : nI (y + j) - nI (y + j) / nI n * nI n = nI (wf n y j) := by rw [nmod (by omega) (by omega), mod_wf hy (by omega)]
      have m2 : (2 : Int32) * nI j = nI (2 * j) := by rw [show (2 : Int32) = nI 2 from rfl, pk_mul]
      have m3 : nI (2 * j) + 1 = nI (2 * j + 1) := nI_add _ 1
      have z0 : ¬ nI n = 0 := by rw [show (0 : Int32) = nI 0 from rfl, neq (by omega) (by omega)]; omega
      have wl : wf n y j < n := by unfold wf; split <;> omega
      have e0 : ∀ c, lp_Mo_curve_31 (nI y) (nI n) (nI (d + 1)) a4 c (f + 1) u (nI j) ξ = lp_Mo_curve_31 (nI y) (nI n) (nI (d + 1)) a4 c f u (nI (j + 1)) (sL (sL ξ 375 0 (2 * j) (gL ξ 373 0 (wf n y j) * u)) 375 0 (2 * j + 1) (gL ξ 374 0 (wf n y j) * u)) := fun c => by
        rw [lp_Mo_curve_31, if_neg (by rw [nle (by omega) (by omega)]; exact h), n2, n3, m2, m3]
        unfold gz
        rw [if_neg z0, ap, gu_nI (by omega) (by omega), gu_nI (by omega) (by omega), ap, if_neg z0, ap, gu_nI (by omega) (by omega), gu_nI (by omega) (by omega), ap, ap, n1, nI_clamp (by omega), nI_clamp (by omega), nI_clamp (by omega), gL_ne (by omega)]
      obtain ⟨ξ', g1, g2, g3, g4⟩ := ih (j + 1) (sL (sL ξ 375 0 (2 * j) (gL ξ 373 0 (wf n y j) * u)) 375 0 (2 * j + 1) (gL ξ 374 0 (wf n y j) * u)) (by omega) (by omega) (fun j' hj => by
        rw [gL_ne (k := 373) (by omega), gL_ne (k := 373) (by omega), gL_ne (k := 374) (by omega), gL_ne (k := 374) (by omega)]
        by_cases w : j' = j
        · subst w; exact ⟨by rw [gL_ne2 (by omega), gL_self], gL_self⟩
        · rw [gL_ne2 (by omega), gL_ne2 (by omega), gL_ne2 (by omega), gL_ne2 (by omega)]; exact hold j' (by omega))
      refine ⟨ξ', fun c => by rw [e0]; exact g1 c, g2, fun a l' b q => ?_, fun j' hj => ?_⟩
      · rw [g3 a l' b q, gL_ne q, gL_ne q]
      · have := g4 j' hj
        rw [gL_ne (k := 373) (by omega), gL_ne (k := 373) (by omega), gL_ne (k := 374) (by omega), gL_ne (k := 374) (by omega)] at this
        exact this
