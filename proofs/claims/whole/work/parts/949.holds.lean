def inB (x : Int32) : Prop := ¬ x < -16384 ∧ ¬ 49152 ≤ x
theorem ins_b {x : Int32} {ν : Mem} : m_Im_isInside x ν = true ↔ inB x := by
  unfold m_Im_isInside inB
  by_cases h1 : x < -16384
  · rw [if_pos h1]; exact ⟨fun q => (by cases q), fun q => (q.1 h1).elim⟩
  · rw [if_neg h1]
    by_cases h2 : 49152 ≤ x
    · rw [if_pos h2]; exact ⟨fun q => (by cases q), fun q => (q.2 h2).elim⟩
    · rw [if_neg h2]; exact ⟨fun _ => ⟨h1, h2⟩, fun _ => rfl⟩
theorem holds_C {j m : Nat} {s : Int32} {ν : Mem} (hm : m ≤ 500) (h4 : gI ν 7 j 4 = nI m) : ∀ f k, k ≤ m → m - k < f → ((∀ a, k ≤ a → a < m → inB (s * gI ν 240 j a) ∧ inB (s * gI ν 241 j a)) ∧ lp_Im_holds_2 j s ν f (nI k) = some true) ∨ ((¬ ∀ a, k ≤ a → a < m → inB (s * gI ν 240 j a) ∧ inB (s * gI ν 241 j a)) ∧ lp_Im_holds_2 j s ν f (nI k) = some false) := by
  intro f
  induction f with
  | zero => intro k h1 h2; omega
  | succ f ih =>
    intro k h1 h2
    by_cases h : m ≤ k
    · left
      exact ⟨fun a _ _ => by omega, by rw [lp_Im_holds_2, h4, if_pos (by rw [nle (by omega) (by omega)]; exact h)]⟩
    · have n1 : nI k + 1 = nI (k + 1) := nI_add k 1
      rw [lp_Im_holds_2, h4, if_neg (by rw [nle (by omega) (by omega)]; exact h), gu_nI (by omega) (by omega), nI_clamp (by omega)]
      by_cases q1 : m_Im_isInside (s * gI ν 240 j k) ν = true
      · rw [if_pos q1, gu_nI (by omega) (by omega)]
        by_cases q2 : m_Im_isInside (s * gI ν 241 j k) ν = true
        · rw [if_pos q2, ap, n1]
          rcases ih (k + 1) (by omega) (by omega) with ⟨w, r⟩ | ⟨w, r⟩
          · left
            refine ⟨fun a a1 a2 => ?_, r⟩
            by_cases w2 : a = k
            · subst w2; exact ⟨ins_b.mp q1, ins_b.mp q2⟩
            · exact w a (by omega) a2
          · right
            exact ⟨fun q => w fun a a1 a2 => q a (by omega) a2, r⟩
        · rw [if_neg q2]
          exact Or.inr ⟨fun q => q2 (ins_b.mpr (q k (by omega) (by omega)).2), rfl⟩
      · rw [if_neg q1]
        exact Or.inr ⟨fun q => q1 (ins_b.mpr (q k (by omega) (by omega)).1), rfl⟩
theorem isIm_M {m : Nat} {s : Int32} {ξ : Mem} {X Y : Nat → Int32} (hm : m ≤ 500) (h22 : gI ξ 12 0 22 = nI m) (hr : ∀ a, a < m → gI ξ 364 0 a = X a ∧ gI ξ 365 0 a = Y a) : ∀ f k, k ≤ m → m - k < f → ((∀ a, k ≤ a → a < m → inB (s * X a) ∧ inB (s * Y a)) ∧ lp_Mo_isImage_4 s ξ f 1 (nI k) = some true) ∨ ((¬ ∀ a, k ≤ a → a < m → inB (s * X a) ∧ inB (s * Y a)) ∧ lp_Mo_isImage_4 s ξ f 1 (nI k) = some false) := by
  have z1 : ¬ (1 : Int32) = 0 := by decide
  have zero : ∀ f k, k ≤ m → m - k < f → lp_Mo_isImage_4 s ξ f 0 (nI k) = some false := by
    intro f
    induction f with
    | zero => intro k h1 h2; omega
    | succ f ih =>
      intro k h1 h2
      by_cases h : m ≤ k
      · rw [lp_Mo_isImage_4, h22, if_pos (by rw [nle (by omega) (by omega)]; exact h)]; rfl
      · have n1 : nI k + 1 = nI (k + 1) := nI_add k 1
        rw [lp_Mo_isImage_4, h22, if_neg (by rw [nle (by omega) (by omega)]; exact h), gu_nI (by omega) (by omega), ap, gu_nI (by omega) (by omega), ap, if_pos rfl]
        unfold mj_Mo_isImage_72 mj_Mo_isImage_73
        rw [ap, n1]
        exact ih (k + 1) (by omega) (by omega)
  intro f
  induction f with
  | zero => intro k h1 h2; omega
  | succ f ih =>
    intro k h1 h2
    by_cases h : m ≤ k
    · left
      refine ⟨fun a _ _ => by omega, ?_⟩
      rw [lp_Mo_isImage_4, h22, if_pos (by rw [nle (by omega) (by omega)]; exact h)]; rfl
    · have n1 : nI k + 1 = nI (k + 1) := nI_add k 1
      obtain ⟨r1, r2⟩ := hr k (by omega)
      have bad : ∀ q : ¬ (inB (s * X k) ∧ inB (s * Y k)), mj_Mo_isImage_72 s ξ (lp_Mo_isImage_4 s ξ f) (nI k) = some false := fun q => by
        unfold mj_Mo_isImage_72 mj_Mo_isImage_73
        rw [ap, n1]
        exact zero f (k + 1) (by omega) (by omega)
      rw [lp_Mo_isImage_4, h22, if_neg (by rw [nle (by omega) (by omega)]; exact h), gu_nI (by omega) (by omega), nI_clamp (by omega), r1, r2, Int32.mul_comm (X k) s, Int32.mul_comm (Y k) s, ap, gu_nI (by omega) (by omega), ap, if_neg z1]
      by_cases g : inB (s * X k) ∧ inB (s * Y k)
      · rw [if_neg g.1.1, if_neg g.1.2, if_neg g.2.1, if_neg g.2.2]
        unfold mj_Mo_isImage_73
        rw [ap, n1]
        rcases ih (k + 1) (by omega) (by omega) with ⟨w, r⟩ | ⟨w, r⟩
        · left
          refine ⟨fun a a1 a2 => ?_, r⟩
          by_cases w2 : a = k
          · subst w2; exact g
          · exact w a (by omega) a2
        · right
          exact ⟨fun q => w fun a a1 a2 => q a (by omega) a2, r⟩
      · right
        refine ⟨fun q => g (q k (by omega) (by omega)), ?_⟩
        rw [bad g]
        by_cases q1 : s * X k < -16384
        · rw [if_pos q1]
        · rw [if_neg q1]
          by_cases q2 : 49152 ≤ s * X k
          · rw [if_pos q2]
          · rw [if_neg q2]
            by_cases q3 : s * Y k < -16384
            · rw [if_pos q3]
            · rw [if_neg q3]
              by_cases q4 : 49152 ≤ s * Y k
              · rw [if_pos q4]
              · exact (g ⟨⟨q1, q2⟩, q3, q4⟩).elim
/-- both find that the polygons lie in the picture, or not -/
theorem holds_both {j m w st g : Nat} {fl : Int32} {b : Nat → Nat} {s : Int32} {ν ξ : Mem} (R : FR j ν ξ m w st g fl b) : ∃ B, m_Im_holds j s ν = some B ∧ m_Mo_isImage s ξ = some B ∧ (B = true → ∀ a, a < m → inB (s * gI ν 240 j a) ∧ inB (s * gI ν 241 j a)) := by
  have hm := R.1.1
  have hr : ∀ a, a < m → gI ξ 364 0 a = gI ν 240 j a ∧ gI ξ 365 0 a = gI ν 241 j a := fun a ha => ⟨(R.2.2.2.2.2.2.1 a ha).1, (R.2.2.2.2.2.2.1 a ha).2.1⟩
  rcases holds_C (s := s) hm R.2.1.1 FU 0 (by omega) (by unfold FU; omega) with ⟨w1, r1⟩ | ⟨w1, r1⟩
  · rcases isIm_M (s := s) hm R.2.1.2 hr FU 0 (by omega) (by unfold FU; omega) with ⟨w2, r2⟩ | ⟨w2, r2⟩
    · exact ⟨true, r1, r2, fun _ a ha => w1 a (by omega) ha⟩
    · exact (w2 w1).elim
  · rcases isIm_M (s := s) hm R.2.1.2 hr FU 0 (by omega) (by unfold FU; omega) with ⟨w2, r2⟩ | ⟨w2, r2⟩
    · exact (w1 w2).elim
    · exact ⟨false, r1, r2, fun q => by cases q⟩
