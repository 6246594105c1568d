theorem steps_lp {ξ0 : Mem} {m : Nat} {X Y : Nat → Int32} {nx : Nat → Nat} {a1 s : Int32} {y : Int64} (hm : m ≤ 500) (h27 : gI ξ0 12 0 27 = nI m) (hX : ∀ k, k < m → gI ξ0 368 0 k = X k ∧ gI ξ0 369 0 k = Y k ∧ nx k < m ∧ bI (X k) (-100000) 100000 ∧ bI (Y k) (-100000) 100000) (hnx : ∀ ξ', (∀ k l b, k ≠ 380 → gI ξ' k l b = gI ξ0 k l b) → ∀ k, k < m → m_Mo_next (nI k) ξ' = some (nI (nx k))) (hs : 4 ≤ s.toInt ∧ s.toInt ≤ 32) (hy : -100000 ≤ y.toInt ∧ y.toInt ≤ 100000) :
    ∀ f k ξ, k ≤ m → m - k < f → MSS ξ0 ξ X Y nx s.toInt y.toInt k → ∃ ξ', lp_Mo_steps_38 a1 s f y (nI k) ξ = some ξ' ∧ MSS ξ0 ξ' X Y nx s.toInt y.toInt m := by
  have o1 : ¬ (1 : Int32) = 0 := by decide
  intro f
  induction f with
  | zero => intro k ξ h1 h2; omega
  | succ f ih =>
    intro k ξ h1 h2 M
    have fr := M.2.2
    have k27 : gI ξ 12 0 27 = nI m := by rw [fr 12 0 27 (by omega)]; exact h27
    by_cases h : m ≤ k
    · refine ⟨ξ, by rw [lp_Mo_steps_38, k27, if_pos (by rw [nle (by omega) (by omega)]; exact h)], ?_⟩
      rw [show m = k by omega]; exact M
    · have hk : k < m := by omega
      obtain ⟨e1, e2, e3, e4, e5⟩ := hX k hk
      obtain ⟨g1, g2, g3, g4, g5⟩ := hX (nx k) e3
      have c368 : ∀ a, a < m → gI ξ 368 0 a = X a := fun a ha => by rw [fr 368 0 a (by omega)]; exact (hX a ha).1
      have c369 : ∀ a, a < m → gI ξ 369 0 a = Y a := fun a ha => by rw [fr 369 0 a (by omega)]; exact (hX a ha).2.1
      have n1 : nI k + 1 = nI (k + 1) := nI_add k 1
      have pv : ∀ a, a < m → ((Y a).toInt64 * s.toInt64).toInt = s.toInt * (Y a).toInt := fun a ha => by
        have b := (hX a ha).2.2.2.2
        have mm := mulb (A := 32) (B := 100000) (a := s.toInt) (b := (Y a).toInt) ⟨by omega, hs.2⟩ b
        rw [u_mul, i64, i64, Int.mul_comm]; rw [i64, i64, Int.mul_comm]; omega
      have ltk : (y < (Y k).toInt64 * s.toInt64) ↔ ¬ s.toInt * (Y k).toInt ≤ y.toInt := by rw [u_lt, pv k hk]; omega
      have ltn : (y < (Y (nx k)).toInt64 * s.toInt64) ↔ ¬ s.toInt * (Y (nx k)).toInt ≤ y.toInt := by rw [u_lt, pv _ e3]; omega
      have len : ((Y (nx k)).toInt64 * s.toInt64 ≤ y) ↔ s.toInt * (Y (nx k)).toInt ≤ y.toInt := by rw [u_le, pv _ e3]
      have next : ∀ ξ', MSS ξ0 ξ' X Y nx s.toInt y.toInt (k + 1) → ∃ ξ'', mj_Mo_steps_289 a1 s (lp_Mo_steps_38 a1 s f) y (nI k) ξ' = some ξ'' ∧ MSS ξ0 ξ'' X Y nx s.toInt y.toInt m := fun ξ' M' => by
        obtain ⟨ξ'', r1, r2⟩ := ih (k + 1) ξ' (by omega) (by omega) M'
        refine ⟨ξ'', ?_, r2⟩
        unfold mj_Mo_steps_289
        rw [ap, n1]; exact r1
      have head : lp_Mo_steps_38 a1 s (f + 1) y (nI k) ξ = if y < (Y k).toInt64 * s.toInt64 then mj_Mo_steps_99 a1 s (lp_Mo_steps_38 a1 s f) y (nI k) (nI (nx k)) ((Y k).toInt64 * s.toInt64) ((Y (nx k)).toInt64 * s.toInt64) ξ else if (Y (nx k)).toInt64 * s.toInt64 ≤ y then mj_Mo_steps_99 a1 s (lp_Mo_steps_38 a1 s f) y (nI k) (nI (nx k)) ((Y k).toInt64 * s.toInt64) ((Y (nx k)).toInt64 * s.toInt64) ξ else mj_Mo_steps_100 a1 s (lp_Mo_steps_38 a1 s f) y (nI k) (nI (nx k)) ((Y k).toInt64 * s.toInt64) ((Y (nx k)).toInt64 * s.toInt64) 1 ξ := by
        rw [lp_Mo_steps_38, k27, if_neg (by rw [nle (by omega) (by omega)]; exact h), hnx ξ fr k hk, Option.bind_some, gu_nI (by omega) (by omega), nI_clamp (by omega), c369 k hk, ap, gu_nI (by omega) (by omega), nI_clamp (by omega), c369 _ e3, ap]
      -- an edge that crosses
      have cross : ∀ (up d : Int32) (S : Int), ((up = 0 ∧ d = -1) ∨ (up = 1 ∧ d = 1)) → drk X Y nx s.toInt y.toInt k = d → (((Y k).toInt < (Y (nx k)).toInt ∧ s.toInt * (Y k).toInt ≤ y.toInt) ∨ ((Y (nx k)).toInt < (Y k).toInt ∧ y.toInt < s.toInt * (Y k).toInt)) → ∃ ξ', mj_Mo_steps_124 a1 s (lp_Mo_steps_38 a1 s f) y (nI k) (nI (nx k)) ((Y k).toInt64 * s.toInt64) up ξ = some ξ' ∧ MSS ξ0 ξ' X Y nx s.toInt y.toInt m := by
        intro up d _ hup hd hc
        have dd : (Y (nx k) - Y k).toInt = (Y (nx k)).toInt - (Y k).toInt := t_sub (by have := e5.1; have := e5.2; have := g5.1; have := g5.2; omega)
        have fin : ∀ hg : Int64, (((Y k).toInt < (Y (nx k)).toInt ∧ hg.toInt = (Y (nx k)).toInt - (Y k).toInt ∧ s.toInt * (Y k).toInt ≤ y.toInt) ∨ ((Y (nx k)).toInt < (Y k).toInt ∧ hg.toInt = (Y k).toInt - (Y (nx k)).toInt ∧ y.toInt < s.toInt * (Y k).toInt)) → ∃ ξ', mj_Mo_steps_154 a1 s (lp_Mo_steps_38 a1 s f) y (nI k) (nI (nx k)) ((Y k).toInt64 * s.toInt64) up hg ξ = some ξ' ∧ MSS ξ0 ξ' X Y nx s.toInt y.toInt m := by
          intro hg hh
          obtain ⟨v1, v2⟩ := cross_M (ξ := ξ) e4 e5 g4 g5 hs hy hh
          generalize hv : (X k).toInt64 * s.toInt64 * hg + (X (nx k) - X k).toInt64 * m_Mo_size (y - (Y k).toInt64 * s.toInt64) ξ = v at v1 v2
          have hgb : 0 < hg.toInt ∧ hg.toInt ≤ 200000 := by have := e5.1; have := e5.2; have := g5.1; have := g5.2; omega
          obtain ⟨r, q, f1, f2, f3, f4⟩ := mark_M (ξ := ξ) hgb v2
          have hN : nk X Y nx s.toInt y.toInt k = cl (-((-16320 * hg.toInt - v.toInt) / (128 * hg.toInt))) := by
            unfold nk
            rcases hh with ⟨q1, q2, q3⟩ | ⟨q1, q2, q3⟩
            · rw [if_pos q3, v1, if_pos q1, q2]; rfl
            · rw [if_neg (by omega), v1, if_neg (by omega), q2]; rfl
          obtain ⟨ξ', s1, s2⟩ := step_edge (a1 := a1) (a2 := s) (y5 := nI k) (y3 := y) (cc := lp_Mo_steps_38 a1 s f) M f3 hN hd hup
          obtain ⟨ξ'', t1, t2⟩ := next ξ' s2
          refine ⟨ξ'', ?_, t2⟩
          unfold mj_Mo_steps_154
          rw [gu_nI (by omega) (by omega), gu_nI (by omega) (by omega), gu_nI (by omega) (by omega), nI_clamp (by omega), nI_clamp (by omega), c368 k hk, c368 _ e3, hv, ap, f1, Option.bind_some, ap, f2, Option.bind_some, ap, s1]
          exact t1
        unfold mj_Mo_steps_124
        rw [gu_nI (by omega) (by omega), gu_nI (by omega) (by omega), nI_clamp (by omega), nI_clamp (by omega), c369 k hk, c369 _ e3, ap]
        have e0 : (0 : Int64).toInt = 0 := by decide
        rcases hc with ⟨q1, q2⟩ | ⟨q1, q2⟩
        · rw [if_pos (u_le.mpr (by rw [i64, dd, e0]; omega))]
          exact fin _ (Or.inl ⟨q1, by rw [i64, dd], q2⟩)
        · rw [if_neg (fun z => by have z' := u_le.mp z; rw [i64, dd, e0] at z'; omega), ap]
          exact fin _ (Or.inr ⟨q1, by rw [u_neg (by rw [i64]; have := t_lo (Y (nx k) - Y k); omega), i64, dd]; omega, q2⟩)
      rw [head]
      unfold mj_Mo_steps_99 mj_Mo_steps_100
      by_cases wa : s.toInt * (Y k).toInt ≤ y.toInt
      · rw [if_neg (fun z => ltk.mp z wa)]
        by_cases wb : s.toInt * (Y (nx k)).toInt ≤ y.toInt
        · rw [if_pos (len.mpr wb), if_pos rfl, if_neg (fun z => ltn.mp z wb), if_neg (fun z => ltk.mp z wa)]
          exact next ξ (mss_skip M (Or.inl (by unfold drk; rw [if_neg (fun z => z.2 wb), if_neg (fun z => z.2 wa)])))
        · rw [if_neg (fun z => wb (len.mp z)), if_neg o1]
          refine cross 1 1 0 (Or.inr ⟨rfl, rfl⟩) (by unfold drk; rw [if_pos ⟨wa, wb⟩]) (Or.inl ⟨?_, wa⟩)
          rcases (show (Y k).toInt < (Y (nx k)).toInt ∨ (Y (nx k)).toInt ≤ (Y k).toInt by omega) with q | q
          · exact q
          · have := Int.mul_le_mul_of_nonneg_left q (show 0 ≤ s.toInt by omega); omega
      · rw [if_pos (ltk.mpr wa), if_pos rfl]
        by_cases wb : s.toInt * (Y (nx k)).toInt ≤ y.toInt
        · rw [if_neg (fun z => ltn.mp z wb), if_pos (ltk.mpr wa)]
          refine cross 0 (-1) 0 (Or.inl ⟨rfl, rfl⟩) (by unfold drk; rw [if_neg (fun z => wa z.1), if_pos ⟨wb, wa⟩]) (Or.inr ⟨?_, by omega⟩)
          rcases (show (Y (nx k)).toInt < (Y k).toInt ∨ (Y k).toInt ≤ (Y (nx k)).toInt by omega) with q | q
          · exact q
          · have := Int.mul_le_mul_of_nonneg_left q (show 0 ≤ s.toInt by omega); omega
        · rw [if_pos (ltn.mpr wb)]
          exact next ξ (mss_skip M (Or.inl (by unfold drk; rw [if_neg (fun z => wa z.1), if_neg (fun z => wb z.1)])))
