theorem perf_both {μ : Mem} {j p c : Nat} {e : Nat → Nat} {A l : Nat} {s y3 : Int32} {cm : Int32 → Mem → Option (Int32 × Mem)} (L : LT μ l p c A e) : ∀ k done ν ξ at_ h q, done + k = 1000 → at_ ≤ A → DY μ j p c e A ν ξ h q (nI at_) 0 →
    ∃ r ν' ξ', (∀ f, lp_Ru_perform_25 l j (mj_Ru_perform_75 l j) (f + (k + 1)) (nI done) ν = some (r, ν')) ∧ (∀ f, lp_Mo_run_206 (nI l) s cm (f + (k + 3)) y3 (nI at_) (nI done) ξ = cm y3 ξ') ∧ gI ξ' 12 0 52 = r ∧ SC μ j ν' ∧ SM μ ξ' ∧ ((r = 0 ∧ ∃ h' q' z, DY μ j p c e A ν' ξ' h' q' (nI z) 0) ∨ (∃ d : Nat, 0 < d ∧ d < 9 ∧ r = nI d)) := by
  obtain ⟨hl, hA, hp, hc, e0, hm, hec, h2, m343, m346, m82, m357, hk⟩ := id L
  intro k
  induction k with
  | zero =>
    intro done ν ξ at_ h q hd hat D
    obtain rfl : done = 1000 := by omega
    have c82 : gI ν 8 l 2 = nI A := by rw [(eqF D.1.1 8 2 (by decide) (by decide) l).1]; exact m82
    have d357 : gI ξ 357 0 l = nI A := by rw [D.2.1.1 357 (by decide)]; exact m357
    have t1 : (1000 : Int32) ≤ nI 1000 := by decide
    have f52 := D.2.2.2.2.2.1.2
    by_cases w : A ≤ at_
    · refine ⟨0, ν, ξ, fun f => ?_, fun f => ?_, f52, D.1, D.2.1, Or.inl ⟨rfl, h, q, at_, D⟩⟩
      · simp only [Nat.add_assoc f 0 1, lp_Ru_perform_25, t1, if_true]
        unfold mj_Ru_perform_75
        rw [c82, D.2.2.2.2.2.1.1, if_pos (by rw [nle (by omega) (by omega)]; exact w)]
      · rw [show f + (0 + 3) = f + 1 + 1 + 1 from rfl, lp_Mo_run_206]
        simp (disch := omega) only [gu_nI, nI_clamp, d357, nle, w, if_true]
    · refine ⟨6, ν, sI ξ 12 0 52 6, fun f => ?_, fun f => ?_, gI_self, D.1, sm_sI D.2.1 (by omega), Or.inr ⟨6, by omega, by omega, rfl⟩⟩
      · simp only [Nat.add_assoc f 0 1, lp_Ru_perform_25, t1, if_true]
        unfold mj_Ru_perform_75
        rw [c82, D.2.2.2.2.2.1.1, if_neg (by rw [nle (by omega) (by omega)]; exact w)]
      · have e1 : lp_Mo_run_206 (nI l) s cm (f + 1 + 1 + 1) y3 (nI at_) (nI 1000) ξ = lp_Mo_run_206 (nI l) s cm (f + 1 + 1) y3 (nI at_) (nI 1000 + 1) (sI ξ 12 0 52 6) := by
          rw [lp_Mo_run_206]
          simp (disch := omega) only [gu_nI, nI_clamp, d357, nle, w, if_false, f52, if_true, show nI 1000 = 1000 from rfl, ap, mj_Mo_run_250]
        rw [show f + (0 + 3) = f + 1 + 1 + 1 from rfl, e1, lp_Mo_run_206]
        have z6 : ¬ (6 : Int32) = 0 := by decide
        simp (disch := omega) only [gu_nI, nI_clamp, gI_ne, d357, nle, w, if_false, gI_self, z6]
  | succ k ih =>
    intro done ν ξ at_ h q hd hat D
    have c82 : gI ν 8 l 2 = nI A := by rw [(eqF D.1.1 8 2 (by decide) (by decide) l).1]; exact m82
    have d357 : gI ξ 357 0 l = nI A := by rw [D.2.1.1 357 (by decide)]; exact m357
    have f52 := D.2.2.2.2.2.1.2
    have t1 : ¬ 1000 ≤ done := by omega
    have t2 : ¬ done = 1000 := by omega
    have n1 : nI done + 1 = nI (done + 1) := nI_add done 1
    by_cases w : A ≤ at_
    · refine ⟨0, ν, ξ, fun f => ?_, fun f => ?_, f52, D.1, D.2.1, Or.inl ⟨rfl, h, q, at_, D⟩⟩
      · rw [show f + (k + 1 + 1) = f + k + 1 + 1 from rfl, lp_Ru_perform_25]
        rw [if_neg (by rw [show (1000 : Int32) = nI 1000 from rfl, nle (by omega) (by omega)]; exact t1), c82, rg_s (by omega), D.2.2.2.2.2.1.1, nI_toInt (by omega), decide_eq_false (by omega)]; rfl
      · rw [show f + (k + 1 + 3) = f + k + 1 + 1 + 1 + 1 from rfl, lp_Mo_run_206]
        simp (disch := omega) only [gu_nI, nI_clamp, d357, nle, w, if_true]
    · obtain ⟨r, ν', at', ξ', s1, s2, s3, s4, s5, s6⟩ := step_both L (show at_ < A by omega) D
      have eC : ∀ f, lp_Ru_perform_25 l j (mj_Ru_perform_75 l j) (f + (k + 1 + 1)) (nI done) ν = if r = 0 then lp_Ru_perform_25 l j (mj_Ru_perform_75 l j) (f + (k + 1)) (nI (done + 1)) ν' else some (r, ν') := fun f => by
        rw [show f + (k + 1 + 1) = f + (k + 1) + 1 from rfl, lp_Ru_perform_25]
        rw [if_neg (by rw [show (1000 : Int32) = nI 1000 from rfl, nle (by omega) (by omega)]; exact t1), c82, rg_s (by omega), D.2.2.2.2.2.1.1, nI_toInt (by omega), decide_eq_true (by omega), if_pos rfl, s1]
        simp only [Option.bind_some, ap, n1]
      have eM : ∀ f, lp_Mo_run_206 (nI l) s cm (f + (k + 1 + 3)) y3 (nI at_) (nI done) ξ = lp_Mo_run_206 (nI l) s cm (f + (k + 3)) y3 at' (nI (done + 1)) ξ' := fun f => by
        rw [show f + (k + 1 + 3) = f + (k + 3) + 1 by omega, lp_Mo_run_206]
        have z : ¬ nI done = 1000 := by rw [show (1000 : Int32) = nI 1000 from rfl, neq (by omega) (by omega)]; exact t2
        simp (disch := omega) only [gu_nI, nI_clamp, d357, nle, w, if_false, f52, if_true, z, s2, Option.bind_some, ap, mj_Mo_run_250, n1]
      rcases s6 with ⟨rfl, h', q', z, hz, rfl, D'⟩ | ⟨d, d1, d2, rfl⟩
      · obtain ⟨r2, ν2, ξ2, g1, g2, g3⟩ := ih (done + 1) ν' ξ' z h' q' (by omega) hz D'
        exact ⟨r2, ν2, ξ2, fun f => by rw [eC, if_pos rfl]; exact g1 f, fun f => by rw [eM]; exact g2 f, g3⟩
      · have z : ¬ nI d = 0 := by rw [show (0 : Int32) = nI 0 from rfl, neq (by omega) (by omega)]; omega
        refine ⟨nI d, ν', ξ', fun f => by rw [eC, if_neg z], fun f => ?_, s3, s4, s5, Or.inr ⟨d, d1, d2, rfl⟩⟩
        have d357' : gI ξ' 357 0 l = nI A := by rw [s5.1 357 (by decide)]; exact m357
        rw [eM, show f + (k + 3) = f + (k + 2) + 1 from rfl, lp_Mo_run_206, gu_nI hl (by omega), nI_clamp (by omega), d357', s3]
        by_cases w2 : nI A ≤ at'
        · rw [if_pos w2]
        · rw [if_neg w2, if_neg z]
theorem fill_C {k l n z : Nat} {v : Int32} (hn : n < 100000) : ∀ f i μ, i ≤ n → n - i < f → ∃ ν, lp_Ar_fill_5 k l n z v f (nI i) (nI n) μ = some ν ∧ (∀ b, i ≤ b → b < n → gI ν k l b = v) ∧ (∀ k' l' b, ¬ (k' = k ∧ l' = l ∧ i ≤ b ∧ b < n) → gI ν k' l' b = gI μ k' l' b) := by
  intro f
  induction f with
  | zero => intro i μ h1 h2; omega
  | succ f ih =>
    intro i μ h1 h2
    by_cases h : n ≤ i
    · exact ⟨μ, by simp (disch := omega) only [lp_Ar_fill_5, nle, h, if_true], fun b _ _ => by omega, fun _ _ _ _ => rfl⟩
    · have n1 : nI i + 1 = nI (i + 1) := nI_add i 1
      obtain ⟨ν, e1, e2, e3⟩ := ih (i + 1) (sI μ k l i v) (by omega) (by omega)
      refine ⟨ν, ?_, fun b b1 b2 => ?_, fun k' l' b q => ?_⟩
      · rw [← e1]; simp (disch := omega) only [lp_Ar_fill_5, nle, h, if_false, gu_nI, nI_clamp, ap, n1]
      · by_cases w : b = i
        · subst w; rw [e3 k l b (by omega), gI_self]
        · exact e2 b (by omega) b2
      · rw [e3 k' l' b (by omega), gI_sI, if_neg (by omega)]
theorem fillA {k l n z : Nat} {v : Int32} {μ : Mem} (hn : n < 99999) : ∃ ν, m_Ar_fill k l n z v μ = some ν ∧ (∀ b, b < n → gI ν k l b = v) ∧ (∀ k' l' b, ¬ (k' = k ∧ l' = l ∧ b < n) → gI ν k' l' b = gI μ k' l' b) := by
  obtain ⟨ν, e1, e2, e3⟩ := fill_C (k := k) (l := l) (n := n) (z := z) (v := v) (by omega) FU 0 μ (by omega) (by unfold FU; omega)
  refine ⟨ν, ?_, fun b hb => e2 b (by omega) hb, fun k' l' b q => e3 k' l' b (by omega)⟩
  unfold m_Ar_fill
  simp only [ap]
  rw [show Int32.ofNat n = nI n from rfl, show (0 : Int32) = nI 0 from rfl]
  exact e1
