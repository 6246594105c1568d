theorem i64_inj {a b : Int32} : a.toInt64 = b.toInt64 ↔ a = b := by
  constructor
  · intro h; have := u_eq.mp h; rw [i64, i64] at this; exact t_eq.mpr this
  · intro h; rw [h]
theorem fr_less {i : Nat} {ν ξ : Mem} {m w st g : Nat} {fl : Int32} {b : Nat → Nat} (R : FR i ν ξ (m + 1) w st g fl b) (h : st ≤ m) : FR i (sI ν 7 i 4 (nI m)) (sI ξ 12 0 22 (nI m)) m w st g fl b := by
  obtain ⟨⟨a1, a2, a3, a4, a5⟩, ⟨b1, b2⟩, ⟨c1, c2⟩, ⟨d1, d2⟩, e1, ⟨f1, f2⟩, hrow, hb, hold, hnew⟩ := R
  unfold FR
  simp (disch := omega) only [gI_ne, gI_ne2, gI_self]
  exact ⟨⟨by omega, by omega, a3, a4, h⟩, ⟨trivial, trivial⟩, ⟨c1, c2⟩, ⟨d1, d2⟩, e1, ⟨f1, f2⟩, fun k hk => hrow k (by omega), hb, hold, fun k h1 h2 => hnew k h1 (by omega)⟩
theorem fin_lp {i : Nat} {w st g : Nat} {fl : Int32} {b : Nat → Nat} {c : Mem → Option Mem} {c' : Mem → Option Mem} {a1 a2 a3 a4 : Int32} : ∀ f m ν ξ, st + 1 ≤ m → m - st < f → FR i ν ξ m w st g fl b → gI ξ 12 0 38 = nI st → ∃ m' ν' ξ', st + 1 ≤ m' ∧ lp_Po_finish_12 i c f ν = c ν' ∧ lp_Mo_outlineOf_368 a1 a2 a3 a4 c' f ξ = c' ξ' ∧ FR i ν' ξ' m' w st g fl b ∧ FC i ν ν' ∧ FM ξ ξ' ∧ gI ξ' 12 0 38 = nI st := by
  intro f
  induction f with
  | zero => intro m ν ξ h1 h2; omega
  | succ f ih =>
    intro m ν ξ h1 h2 R h38
    obtain ⟨⟨m5, mw, w1, hfl, hst⟩, ⟨b1, b2⟩, ⟨c1, c2⟩, ⟨d1, d2⟩, e1, ⟨f1, f2⟩, hrow, hb, hold, hnew⟩ := id R
    have n1 : nI st + 1 = nI (st + 1) := nI_add st 1
    have s1 : nI m - nI st = nI (m - st) := pk_sub (by omega)
    by_cases h : m ≤ st + 1
    · refine ⟨m, ν, ξ, h1, ?_, ?_, R, fc_refl, fmm_refl, h38⟩
      · rw [lp_Po_finish_12, b1, e1, s1, if_pos (by rw [show (1 : Int32) = nI 1 from rfl, nle (by omega) (by omega)]; omega)]
      · rw [lp_Mo_outlineOf_368, b2, h38, n1, if_pos (by rw [nle (by omega) (by omega)]; exact h)]
    · obtain ⟨x1, x2, _⟩ := hrow (m - 1) (by omega)
      obtain ⟨y1, y2, _⟩ := hrow st (by omega)
      have eC : lp_Po_finish_12 i c (f + 1) ν = if (gI ν 240 i (m - 1) = gI ν 240 i st ∧ gI ν 241 i (m - 1) = gI ν 241 i st) then lp_Po_finish_12 i c f (sI ν 7 i 4 (nI (m - 1))) else c ν := by
        rw [lp_Po_finish_12, b1, e1, s1, if_neg (by rw [show (1 : Int32) = nI 1 from rfl, nle (by omega) (by omega)]; omega), gu_nI (by omega) (by omega), gu_nI (by omega) (by omega), nI_clamp (by omega), last_C b1 e1 m5 hst, nsub1 (by omega)]
        simp only [Option.bind_some, ap]
        by_cases q : gI ν 240 i (m - 1) = gI ν 240 i st ∧ gI ν 241 i (m - 1) = gI ν 241 i st
        · rw [decide_eq_true ⟨by omega, i64_inj.mpr q.1, i64_inj.mpr q.2⟩, if_pos rfl, if_pos q]
        · rw [decide_eq_false (fun w => q ⟨i64_inj.mp w.2.1, i64_inj.mp w.2.2⟩), if_neg (by decide), if_neg q]
      have eM : lp_Mo_outlineOf_368 a1 a2 a3 a4 c' (f + 1) ξ = if (gI ν 240 i (m - 1) = gI ν 240 i st ∧ gI ν 241 i (m - 1) = gI ν 241 i st) then lp_Mo_outlineOf_368 a1 a2 a3 a4 c' f (sI ξ 12 0 22 (nI (m - 1))) else c' ξ := by
        rw [lp_Mo_outlineOf_368, b2, h38, n1, if_neg (by rw [nle (by omega) (by omega)]; exact h), nsub1 (by omega), gu_nI (by omega) (by omega), gu_nI (by omega) (by omega), nI_clamp (by omega), nI_clamp (by omega), x1, y1]
        by_cases q1 : gI ν 240 i (m - 1) = gI ν 240 i st
        · rw [if_pos q1, gu_nI (by omega) (by omega), gu_nI (by omega) (by omega), x2, y2]
          by_cases q2 : gI ν 241 i (m - 1) = gI ν 241 i st
          · rw [if_pos q2, if_pos ⟨q1, q2⟩]; rfl
          · rw [if_neg q2, if_neg (fun w => q2 w.2)]
        · rw [if_neg q1, if_neg (fun w => q1 w.1)]
      rw [eC, eM]
      by_cases q : gI ν 240 i (m - 1) = gI ν 240 i st ∧ gI ν 241 i (m - 1) = gI ν 241 i st
      · rw [if_pos q, if_pos q]
        obtain ⟨m', rfl⟩ : ∃ m', m = m' + 1 := ⟨m - 1, by omega⟩
        have R' := fr_less R (show st ≤ m' by omega)
        obtain ⟨m2, ν', ξ', g1, g2, g3, g4, g5, g6, g7⟩ := ih m' _ _ (by omega) (by omega) R' (by rw [gI_ne2 (by omega)]; exact h38)
        exact ⟨m2, ν', ξ', g1, g2, g3, g4, fc_tr (fc_sI fc_refl (by omega)) g5, fmm_tr (fmm_sI fmm_refl (by omega)) g6, g7⟩
      · rw [if_neg q, if_neg q]
        exact ⟨m, ν, ξ, h1, rfl, rfl, R, fc_refl, fmm_refl, h38⟩
theorem fin_both {i : Nat} {ν ξ : Mem} {m w st g : Nat} {fl : Int32} {b : Nat → Nat} {a1 a2 a3 a4 : Int32} (R : FR i ν ξ m w st g fl b) (h38 : gI ξ 12 0 38 = nI st) : ∃ ν' ξ' m' g' b', m_Po_finish i ν = some ν' ∧ lp_Mo_outlineOf_368 a1 a2 a3 a4 (mj_Mo_outlineOf_440 a1 a2 a3 a4) FU ξ = some ξ' ∧ FR i ν' ξ' m' w m' g' fl b' ∧ FC i ν ν' ∧ FM ξ ξ' := by
  obtain ⟨⟨m5, mw, w1, hfl, hst⟩, ⟨b1, b2⟩, ⟨c1, c2⟩, ⟨d1, d2⟩, e1, ⟨f1, f2⟩, hrow, hb, hold, hnew⟩ := id R
  have n1 : nI st + 1 = nI (st + 1) := nI_add st 1
  by_cases h : st < m
  · obtain ⟨m', ν', ξ', k1, k2, k3, k4, k5, k6, k7⟩ := fin_lp (i := i) (c := mj_Po_finish_65 i) (c' := mj_Mo_outlineOf_440 a1 a2 a3 a4) (a1 := a1) (a2 := a2) (a3 := a3) (a4 := a4) FU m ν ξ (by omega) (by unfold FU; omega) R h38
    have eC : m_Po_finish i ν = mj_Po_finish_65 i ν' := by
      unfold m_Po_finish
      rw [b1, e1, if_pos (by rw [nlt (by omega) (by omega)]; exact h), k2]
    rw [eC, k3]
    clear eC k2 k3 hrow hold hnew
    obtain ⟨⟨m5', mw', _, _, hst'⟩, ⟨b1', b2'⟩, ⟨c1', c2'⟩, ⟨d1', d2'⟩, e1', ⟨f1', f2'⟩, hrow, hb, hold, hnew⟩ := id k4
    have s1 : nI m' - nI st = nI (m' - st) := pk_sub (by omega)
    unfold mj_Po_finish_65 mj_Mo_outlineOf_440
    rw [b1', e1', s1, b2', k7, n1]
    by_cases q : m' = st + 1
    · rw [if_pos (by rw [show (1 : Int32) = nI 1 from rfl, neq (by omega) (by omega)]; omega), if_neg (by rw [nlt (by omega) (by omega)]; omega)]
      subst q
      exact ⟨_, _, st, g, b, rfl, rfl, fr_less k4 (Nat.le_refl st), fc_tr k5 (fc_sI fc_refl (by omega)), fmm_tr k6 (fmm_sI fmm_refl (by omega))⟩
    · have n2 : nI g + 1 = nI (g + 1) := nI_add g 1
      rw [if_neg (by rw [show (1 : Int32) = nI 1 from rfl, neq (by omega) (by omega)]; omega), if_pos (by rw [nlt (by omega) (by omega)]; omega), nsub1 (by omega), gu_nI (by omega) (by omega), nI_clamp (by omega)]
      refine ⟨sI (sI (sI ν' 243 i (m' - 1) (nI st)) 7 i 7 (nI m')) 7 i 8 (nI (g + 1)), sI ξ' 12 0 23 (nI (g + 1)), m', g + 1, fun j => if j ≤ g then b j else m', ?_, ?_, ?_, ?_, ?_⟩
      · simp (disch := omega) only [ap, gI_ne, gI_ne2, b1', f1', n2]
      · simp only [ap, f2', n2]
      · have mono : ∀ d j', j' + d = g → b j' ≤ b g := by
          intro d
          induction d with
          | zero => intro j' hj; simp at hj; subst hj; exact Nat.le_refl _
          | succ d ih => intro j' hj; have := ih (j' + 1) (by omega); have := hb.2.2 j' (by omega); omega
        unfold FR
        refine ⟨⟨m5', mw', w1, hfl, Nat.le_refl _⟩, ?_, ?_, ?_, ?_, ?_, fun k hk => ?_, ⟨?_, ?_, fun j hj => ?_⟩, fun j k j1 j2 j3 => ?_, fun k h1 h2 => by omega⟩
        · simp (disch := omega) only [gI_ne, gI_ne2]; exact ⟨b1', b2'⟩
        · simp (disch := omega) only [gI_ne, gI_ne2]; exact ⟨c1', c2'⟩
        · simp (disch := omega) only [gI_ne, gI_ne2]; exact ⟨d1', d2'⟩
        · simp (disch := omega) only [gI_ne2, gI_self]
        · simp (disch := omega) only [gI_self]; exact ⟨trivial, trivial⟩
        · simp (disch := omega) only [gI_ne]; exact hrow k hk
        · simp; exact hb.1
        · show (if g + 1 ≤ g then b (g + 1) else m') = m'
          rw [if_neg (by omega)]
        · show (if j ≤ g then b j else m') + 2 ≤ (if j + 1 ≤ g then b (j + 1) else m')
          rw [if_pos (show j ≤ g by omega)]
          by_cases w2 : j + 1 ≤ g
          · rw [if_pos w2]; exact hb.2.2 j (by omega)
          · rw [if_neg w2, show j = g by omega, hb.2.1]; omega
        · simp only at j2 j3 ⊢
          rw [if_pos (show j ≤ g by omega)] at j2 ⊢
          by_cases w2 : j + 1 ≤ g
          · rw [if_pos w2] at j3 ⊢
            have := mono (g - (j + 1)) (j + 1) (by omega)
            rw [hb.2.1] at this
            simp (disch := omega) only [gI_ne, gI_ne2]
            exact hold j k (by omega) j2 j3
          · rw [if_neg w2] at j3 ⊢
            obtain rfl : j = g := by omega
            rw [hb.2.1] at j2 ⊢
            obtain ⟨t1, t2⟩ := hnew k j2 j3
            by_cases w3 : k + 1 = m'
            · rw [if_pos w3, show m' - 1 = k by omega]
              simp (disch := omega) only [gI_ne, gI_self]
              exact ⟨t1, trivial⟩
            · rw [if_neg w3]
              simp (disch := omega) only [gI_ne, gI_ne2]
              exact ⟨t1, t2⟩
      · exact fc_tr k5 (fc_sI (fc_sI (fc_sI fc_refl (by omega)) (by omega)) (by omega))
      · exact fmm_tr k6 (fmm_sI fmm_refl (by omega))
  · obtain rfl : m = st := by omega
    have same : ∀ k l b', gI (sI ξ 12 0 22 (nI m)) k l b' = gI ξ k l b' := fun k l b' => by
      rw [gI_sI]
      by_cases q : k = 12 ∧ l = 0 ∧ b' = 22
      · obtain ⟨rfl, rfl, rfl⟩ := q; rw [if_pos ⟨rfl, rfl, rfl⟩, b2]
      · rw [if_neg q]
    refine ⟨ν, sI ξ 12 0 22 (nI m), m, g, b, ?_, ?_, ?_, fc_refl, fmm_sI fmm_refl (by omega)⟩
    · unfold m_Po_finish
      rw [b1, e1, if_neg (by rw [nlt (by omega) (by omega)]; omega)]
    · have : ∀ f, lp_Mo_outlineOf_368 a1 a2 a3 a4 (mj_Mo_outlineOf_440 a1 a2 a3 a4) (f + 1) ξ = some (sI ξ 12 0 22 (nI m)) := fun f => by
        rw [lp_Mo_outlineOf_368, b2, h38, n1, if_pos (by rw [nle (by omega) (by omega)]; omega)]
        unfold mj_Mo_outlineOf_440
        rw [b2, h38, n1, if_neg (by rw [nlt (by omega) (by omega)]; omega)]; rfl
      exact this 99999
    · unfold FR
      simp only [same]
      exact R
