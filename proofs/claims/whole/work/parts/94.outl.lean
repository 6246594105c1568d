/-- the way down to a letter -/
def PA (μ : Mem) (pq : Nat → Nat) (dep : Nat) (ν ξ : Mem) : Prop := dep ≤ 4 ∧ (∀ j, j < dep → gR ν 124 0 j = some (pq j)) ∧
  (∀ j, j < dep → pq j < 192 ∧ 6 * gI ξ 360 0 j + gI ξ 361 0 j - 1 = nI (pq j) ∧ gI ξ 354 0 (4 * pq j) = gI μ 6 (pq j) 3 ∧ gI ξ 354 0 (4 * pq j + 1) = gI μ 6 (pq j) 4 ∧ gI ξ 354 0 (4 * pq j + 2) = gI μ 6 (pq j) 5 ∧ gI ξ 354 0 (4 * pq j + 3) = gI μ 6 (pq j) 6 ∧ gI ξ 355 0 (pq j) = gI μ 6 (pq j) 1 ∧ gI ξ 356 0 (pq j) = gI μ 6 (pq j) 2) ∧
  (∀ j, j < dep → bI (gI μ 6 (pq j) 1) (-32000) 32000 ∧ bI (gI μ 6 (pq j) 2) (-32000) 32000 ∧ bI (gI μ 6 (pq j) 3) (-32768) 32767 ∧ bI (gI μ 6 (pq j) 4) (-32768) 32767 ∧ bI (gI μ 6 (pq j) 5) (-32768) 32767 ∧ bI (gI μ 6 (pq j) 6) (-32768) 32767)
def plc (μ : Mem) (pq : Nat → Nat) (dep l k : Nat) : Int64 × Int64 := PL2 μ pq dep ((gI μ 300 l k).toInt64, (gI μ 301 l k).toInt64)
theorem plc_b {μ ν ξ : Mem} {pq : Nat → Nat} {dep l k : Nat} (P : PA μ pq dep ν ξ) (h1 : bI (gI μ 300 l k) (-32000) 32000) (h2 : bI (gI μ 301 l k) (-32000) 32000) : nearB 16777216 (plc μ pq dep l k) := by
  refine pl_b dep 32000 _ P.1 P.2.2.2 ⟨by rw [i64]; exact h1, by rw [i64]; exact h2⟩ (by decide) ?_
  have := P.1
  rcases (show dep = 0 ∨ dep = 1 ∨ dep = 2 ∨ dep = 3 ∨ dep = 4 by omega) with rfl | rfl | rfl | rfl | rfl <;> decide
theorem place_C {μ ν : Mem} {pq : Nat → Nat} {dep l k : Nat} (hd : dep ≤ 4) (hR : ∀ j, j < dep → gR ν 124 0 j = some (pq j)) (h6 : ∀ q b, gI ν 6 q b = gI μ 6 q b) (x0 : gI ν 300 l k = gI μ 300 l k) (x1 : gI ν 301 l k = gI μ 301 l k) (hk : k < 100) : m_Fl_place l (nI k) (nI dep) ν = some (sL (sL ν 122 0 k (plc μ pq dep l k).1) 123 0 k (plc μ pq dep l k).2) := by
  unfold m_Fl_place
  rw [gu_nI hk (by omega), nI_clamp (by omega), ap, gu_nI hk (by omega), ap, ap, x0, x1]
  obtain ⟨F, hF⟩ : ∃ F, FU = F + dep + 1 := ⟨FU - dep - 1, by unfold FU; omega⟩
  rw [hF, pl_C (μ := μ) (pq := pq) h6 dep F ((gI μ 300 l k).toInt64, (gI μ 301 l k).toInt64) hd hR]
  unfold mj_Fl_place_74
  rw [gu_nI hk (by omega), ap, gu_nI hk (by omega), ap, nI_clamp (by omega)]
  rfl
theorem places_C {μ : Mem} {pq : Nat → Nat} {dep l s t i : Nat} {a2 : Int32} {c : Int32 → Int32 → Mem → Option Mem} (hd : dep ≤ 4) (ht : t ≤ 100) : ∀ f k ν, s ≤ k → k ≤ t → t - k < f → (∀ j, j < dep → gR ν 124 0 j = some (pq j)) → (∀ q b, gI ν 6 q b = gI μ 6 q b) → (∀ b, gI ν 300 l b = gI μ 300 l b ∧ gI ν 301 l b = gI μ 301 l b) → (∀ k', s ≤ k' → k' < k → gL ν 122 0 k' = (plc μ pq dep l k').1 ∧ gL ν 123 0 k' = (plc μ pq dep l k').2) →
    ∃ ν', lp_Fl_addOutline_18 l a2 (nI dep) i c f (nI s) (nI t) (nI k) ν = c (nI s) (nI t) ν' ∧ gI ν' = gI ν ∧ gR ν' = gR ν ∧ gF ν' = gF ν ∧ (∀ a l b, ¬ (a = 122 ∨ a = 123) → gL ν' a l b = gL ν a l b) ∧ (∀ k', s ≤ k' → k' < t → gL ν' 122 0 k' = (plc μ pq dep l k').1 ∧ gL ν' 123 0 k' = (plc μ pq dep l k').2) := by
  intro f
  induction f with
  | zero => intro k ν h1 h2 h3; omega
  | succ f ih =>
    intro k ν h1 h2 h3 hR h6 hx hold
    by_cases h : t ≤ k
    · refine ⟨ν, ?_, rfl, rfl, rfl, fun _ _ _ _ => rfl, fun k' a b => hold k' a (by omega)⟩
      rw [lp_Fl_addOutline_18, if_pos (by rw [nle (by omega) (by omega)]; exact h)]
    · have n1 : nI k + 1 = nI (k + 1) := nI_add k 1
      obtain ⟨ν', e1, e2, e3, e4, e5, e6⟩ := ih (k + 1) (sL (sL ν 122 0 k (plc μ pq dep l k).1) 123 0 k (plc μ pq dep l k).2) (by omega) (by omega) (by omega) hR h6 hx (fun k' a b => by
        by_cases w : k' = k
        · subst w; exact ⟨by rw [gL_ne (by omega), gL_self], gL_self⟩
        · rw [gL_ne (by omega), gL_ne2 w, gL_ne2 w, gL_ne (by omega)]; exact hold k' a (by omega))
      refine ⟨ν', ?_, e2, e3, e4, fun a l' b q => ?_, e6⟩
      · rw [lp_Fl_addOutline_18, if_neg (by rw [nle (by omega) (by omega)]; exact h), place_C hd hR h6 (hx k).1 (hx k).2 (by omega), Option.bind_some, ap, n1]
        exact e1
      · rw [e5 a l' b q, gL_ne (by omega), gL_ne (by omega)]
theorem places_M {μ : Mem} {pq : Nat → Nat} {dep l s n : Nat} {a2 a4 : Int32} {c : Int32 → Int32 → Mem → Option Mem} (hl : l < 32) (hd : dep ≤ 4) (hn : s + n ≤ 100) : ∀ f k ξ, k ≤ n → n - k < f → (∀ j, j < dep → pq j < 192 ∧ 6 * gI ξ 360 0 j + gI ξ 361 0 j - 1 = nI (pq j) ∧ gI ξ 354 0 (4 * pq j) = gI μ 6 (pq j) 3 ∧ gI ξ 354 0 (4 * pq j + 1) = gI μ 6 (pq j) 4 ∧ gI ξ 354 0 (4 * pq j + 2) = gI μ 6 (pq j) 5 ∧ gI ξ 354 0 (4 * pq j + 3) = gI μ 6 (pq j) 6 ∧ gI ξ 355 0 (pq j) = gI μ 6 (pq j) 1 ∧ gI ξ 356 0 (pq j) = gI μ 6 (pq j) 2) → (∀ b, b < n → gI ξ 347 0 (100 * l + s + b) = gI μ 300 l (s + b) ∧ gI ξ 348 0 (100 * l + s + b) = gI μ 301 l (s + b)) → (∀ k', k' < k → gL ξ 373 0 k' = (plc μ pq dep l (s + k')).1 ∧ gL ξ 374 0 k' = (plc μ pq dep l (s + k')).2) →
    ∃ ξ', lp_Mo_outlineOf_27 (nI l) a2 (nI dep) a4 c f (nI s) (nI n) (nI k) ξ = c (nI s) (nI n) ξ' ∧ gI ξ' = gI ξ ∧ (∀ a l b, ¬ (a = 373 ∨ a = 374) → gL ξ' a l b = gL ξ a l b) ∧ (∀ k', k' < n → gL ξ' 373 0 k' = (plc μ pq dep l (s + k')).1 ∧ gL ξ' 374 0 k' = (plc μ pq dep l (s + k')).2) := by
  intro f
  induction f with
  | zero => intro k ξ h1 h2; omega
  | succ f ih =>
    intro k ξ h1 h2 hR hx hold
    by_cases h : n ≤ k
    · refine ⟨ξ, ?_, rfl, fun _ _ _ _ => rfl, fun k' a => hold k' (by omega)⟩
      rw [lp_Mo_outlineOf_27, if_pos (by rw [nle (by omega) (by omega)]; exact h)]
    · have n1 : nI k + 1 = nI (k + 1) := nI_add k 1
      have i1 : (100 : Int32) * nI l + nI s = nI (100 * l + s) := ix100 l s
      have i2 : nI (100 * l + s) + nI k = nI (100 * l + s + k) := nI_add _ _
      obtain ⟨x0, x1⟩ := hx k (by omega)
      obtain ⟨ξ', e1, e2, e3, e4⟩ := ih (k + 1) (sL (sL ξ 373 0 k (plc μ pq dep l (s + k)).1) 374 0 k (plc μ pq dep l (s + k)).2) (by omega) (by omega) hR hx (fun k' a => by
        by_cases w : k' = k
        · subst w; exact ⟨by rw [gL_ne (by omega), gL_self], gL_self⟩
        · rw [gL_ne (by omega), gL_ne2 w, gL_ne2 w, gL_ne (by omega)]; exact hold k' (by omega))
      refine ⟨ξ', ?_, e2, fun a l' b q => ?_, e4⟩
      · rw [lp_Mo_outlineOf_27, if_neg (by rw [nle (by omega) (by omega)]; exact h), i1, i2, gu_nI (by omega) (by omega), nI_clamp (by omega), ap, gu_nI (by omega) (by omega), ap, ap, x0, x1]
        obtain ⟨F, hF⟩ : ∃ F, FU = F + dep + 1 := ⟨FU - dep - 1, by unfold FU; omega⟩
        rw [hF, pl_M (μ := μ) (pq := pq) dep F ((gI μ 300 l (s + k)).toInt64, (gI μ 301 l (s + k)).toInt64) hd hR]
        unfold mj_Mo_outlineOf_206
        rw [gu_nI (by omega) (by omega), ap, gu_nI (by omega) (by omega), ap, ap, nI_clamp (by omega), n1]
        exact e1
      · rw [e3 a l' b q, gL_ne (by omega), gL_ne (by omega)]
