theorem told_lp {m : Nat} (hm : m ≤ 500) : ∀ f k ξ, k ≤ m → m - k < f → gI ξ 12 0 22 = nI m → ∃ ξ', lp_Mo_told_10 f (nI k) ξ = some ξ' ∧ (∀ k' l b, ¬ (368 ≤ k' ∧ k' ≤ 370) → gI ξ' k' l b = gI ξ k' l b) ∧ (∀ a, k ≤ a → a < m → gI ξ' 368 0 a = gI ξ 364 0 a ∧ gI ξ' 369 0 a = gI ξ 365 0 a ∧ gI ξ' 370 0 a = gI ξ 366 0 a) ∧ (∀ k' a, a < k → gI ξ' k' 0 a = gI ξ k' 0 a) := by
  intro f
  induction f with
  | zero => intro k ξ h1 h2; omega
  | succ f ih =>
    intro k ξ h1 h2 h22
    by_cases h : m ≤ k
    · exact ⟨ξ, by rw [lp_Mo_told_10, h22, if_pos (by rw [nle (by omega) (by omega)]; exact h)], fun _ _ _ _ => rfl, fun a _ _ => by omega, fun _ _ _ => rfl⟩
    · have n1 : nI k + 1 = nI (k + 1) := nI_add k 1
      obtain ⟨ξ', e1, e2, e3, e4⟩ := ih (k + 1) (sI (sI (sI ξ 368 0 k (gI ξ 364 0 k)) 369 0 k (gI ξ 365 0 k)) 370 0 k (gI ξ 366 0 k)) (by omega) (by omega) (by rw [gI_ne (by omega), gI_ne (by omega), gI_ne (by omega)]; exact h22)
      refine ⟨ξ', ?_, fun k' l b q => ?_, fun a a1 a2 => ?_, fun k' a ha => ?_⟩
      · rw [lp_Mo_told_10, h22, if_neg (by rw [nle (by omega) (by omega)]; exact h), gu_nI (by omega) (by omega), gu_nI (by omega) (by omega), nI_clamp (by omega), ap, gu_nI (by omega) (by omega), gu_nI (by omega) (by omega), ap, gu_nI (by omega) (by omega), gu_nI (by omega) (by omega), ap, ap, n1, gI_ne (k := 365) (by omega), gI_ne (k := 366) (by omega), gI_ne (k := 366) (by omega)]
        exact e1
      · rw [e2 k' l b q, gI_ne (by omega), gI_ne (by omega), gI_ne (by omega)]
      · by_cases w : a = k
        · subst w
          rw [e4 368 a (by omega), e4 369 a (by omega), e4 370 a (by omega)]
          refine ⟨?_, ?_, ?_⟩
          · rw [gI_ne (by omega), gI_ne (by omega), gI_self]
          · rw [gI_ne (by omega), gI_self]
          · rw [gI_self]
        · obtain ⟨t1, t2, t3⟩ := e3 a (by omega) a2
          rw [gI_ne (k := 364) (by omega), gI_ne (k := 364) (by omega), gI_ne (k := 364) (by omega)] at t1
          rw [gI_ne (k := 365) (by omega), gI_ne (k := 365) (by omega), gI_ne (k := 365) (by omega)] at t2
          rw [gI_ne (k := 366) (by omega), gI_ne (k := 366) (by omega), gI_ne (k := 366) (by omega)] at t3
          exact ⟨t1, t2, t3⟩
      · rw [e4 k' a (by omega), gI_ne2 (by omega), gI_ne2 (by omega), gI_ne2 (by omega)]
theorem told_M {m : Nat} {ξ : Mem} (hm : m ≤ 500) (h22 : gI ξ 12 0 22 = nI m) : ∃ ξ', m_Mo_told ξ = some ξ' ∧ gI ξ' 12 0 27 = nI m ∧ (∀ k l b, ¬ (368 ≤ k ∧ k ≤ 370) → ¬ (k = 12 ∧ b = 27) → gI ξ' k l b = gI ξ k l b) ∧ (∀ a, a < m → gI ξ' 368 0 a = gI ξ 364 0 a ∧ gI ξ' 369 0 a = gI ξ 365 0 a ∧ gI ξ' 370 0 a = gI ξ 366 0 a) := by
  obtain ⟨ξ', e1, e2, e3, _⟩ := told_lp hm FU 0 (sI ξ 12 0 27 (nI m)) (by omega) (by unfold FU; omega) (by rw [gI_ne2 (by omega)]; exact h22)
  refine ⟨ξ', ?_, by rw [e2 12 0 27 (by omega), gI_self], fun k l b q1 q2 => by rw [e2 k l b q1, gI_sI, if_neg (by omega)], fun a ha => ?_⟩
  · unfold m_Mo_told
    rw [ap, h22, show (0 : Int32) = nI 0 from rfl]
    exact e1
  · have := e3 a (by omega) ha
    rw [gI_ne (k := 364) (by omega), gI_ne (k := 365) (by omega), gI_ne (k := 366) (by omega)] at this
    exact this
/-- polygons that are made and told are polygons -/
theorem pg_fr {i m w g : Nat} {fl : Int32} {b : Nat → Nat} {ν ξ ζ : Mem} (R : FR i ν ξ m w m g fl b) (hc : ∀ k b', (k = 7 ∨ (240 ≤ k ∧ k ≤ 243)) → gI ζ k i b' = gI ν k i b') (h27 : gI ζ 12 0 27 = nI m) (hr : ∀ a, a < m → gI ζ 368 0 a = gI ξ 364 0 a ∧ gI ζ 369 0 a = gI ξ 365 0 a ∧ gI ζ 370 0 a = gI ξ 366 0 a) : PG ζ i m g b := by
  obtain ⟨r1, r2, r3, r4, r5, r6, r7, r8, r9, r10⟩ := R
  refine ⟨r1.1, by rw [hc 7 4 (by omega)]; exact r2.1, h27, r8.1, r8.2.1, r8.2.2, fun k hk => ?_, fun j k j1 j2 j3 => ?_⟩
  · obtain ⟨t1, t2, t3⟩ := hr k hk
    obtain ⟨u1, u2, u3, u4, u5⟩ := r7 k hk
    rw [t1, t2, t3, hc 240 k (by omega), hc 241 k (by omega), hc 242 k (by omega)]
    exact ⟨u1, u2, u3, u4, u5⟩
  · rw [hc 242 k (by omega), hc 243 k (by omega)]
    exact r9 j k j1 j2 j3
theorem op_flatten {μ : Mem} {n : Nat} (I : InvN n μ) (a t : Int32) : ∃ r ν1 ν2, m_Fo_flatten a t μ = some (r, ν1) ∧ m_Mo_flatten a t ν1 = some (r, ν2) ∧ InvN n ν2 := by
  obtain ⟨i, j, f, g, b, hij, g3, g4, hPG⟩ := I.2.2.2.2.2.2.2.2.2.2.2.1
  rcases lcase I.1 a with ⟨a1, a2⟩ | ⟨l, hl, rfl, a1, a2⟩
  · refine ⟨-1, μ, μ, ?_, ?_, I⟩
    · unfold m_Fo_flatten
      rw [a1, Option.bind_some, ap, g4, Option.bind_some]
      rfl
    · unfold m_Mo_flatten
      rw [a2 μ rfl]; rfl
  by_cases ht : 1 ≤ t.toInt ∧ t.toInt ≤ 256
  rotate_left 1
  · refine ⟨-1, μ, μ, ?_, ?_, I⟩
    · unfold m_Fo_flatten m_Fl_fill
      rw [a1, Option.bind_some, ap, g4, Option.bind_some, oc_some, rg_Fo, decide_eq_false (show ¬ ((1 : Int64).toInt ≤ t.toInt ∧ t.toInt ≤ (256 : Int64).toInt) from ht)]
      rfl
    · unfold m_Mo_flatten
      rw [a2 μ rfl, if_pos rfl]
      by_cases q : t < 1
      · rw [if_pos q]
      · rw [if_neg q, if_pos]
        apply t_lt.mpr
        have q' : ¬ t.toInt < 1 := fun w => q (t_lt.mpr w)
        show (256 : Int) < t.toInt
        omega
  have t1 : ¬ t < 1 := fun q => by have : t.toInt < 1 := t_lt.mp q; omega
  have t2 : ¬ 256 < t := fun q => by have : (256 : Int) < t.toInt := t_lt.mp q; omega
  obtain ⟨B, ν', _, _, _, _, _, e1, _, _, fr1, fr2, _⟩ := fill_both (j := j) I hl ht μ (fun _ _ => rfl)
  have r3 : gR ν' 11 0 3 = some i := by rw [fr2 11 0 3 (by omega)]; exact g3
  have r4 : gR ν' 11 0 4 = some j := by rw [fr2 11 0 4 (by omega)]; exact g4
  obtain ⟨ν1, hν1⟩ : ∃ ν1, ν1 = if B = true then sR (sR ν' 11 0 3 (some j)) 11 0 4 (some i) else ν' := ⟨_, rfl⟩
  have kI : ∀ k l b, gI ν1 k l b = gI ν' k l b := fun k l b => by
    rw [hν1]; cases B <;> rfl
  have st1 : ∀ k, k ∈ [343, 346, 347, 348, 349, 352, 353, 354, 355, 356] → gI ν1 k = gI μ k := fun k hk => by
    funext l' b'
    simp only [List.mem_cons, List.not_mem_nil, or_false] at hk
    rw [kI, fr1 k l' b' (by omega) (by omega) (by omega)]
  obtain ⟨B', ν'', ξ', m, w, g', b', e2, e3, R, _, _, M⟩ := fill_both (j := j) I hl ht ν1 st1
  rw [e1] at e2
  obtain ⟨rfl, rfl⟩ := Prod.mk.inj (Option.some.inj e2)
  have k12 : gI ν1 12 0 0 = gI μ 12 0 0 := by rw [kI, fr1 12 0 0 (by omega) (by omega) (by omega)]
  have fin : ∀ r ν2, m_Fo_flatten (nI l) t μ = some (r, ν1) → m_Mo_flatten (nI l) t ν1 = some (r, ν2) → PO ν2 → InvN n ν2 := by
    intro r ν2 q1 q2 hPO
    have u := ((fm_Fo_flatten q1).mono (S' := [120, 121, 122, 123, 124, 240, 241, 242, 243, 1105, 1106, 1704, 1705, 1706, 1707, 1708, 2103, 2104, 360, 361, 364, 365, 366, 368, 369, 370, 373, 374, 375, 376, 2222, 2223, 2227, 2231, 2232, 2237, 2238]) (by decide)).tr ((fm_Mo_flatten q2).mono (S' := [120, 121, 122, 123, 124, 240, 241, 242, 243, 1105, 1106, 1704, 1705, 1706, 1707, 1708, 2103, 2104, 360, 361, 364, 365, 366, 368, 369, 370, 373, 374, 375, 376, 2222, 2223, 2227, 2231, 2232, 2237, 2238]) (by decide))
    exact inv_PO I (by decide) u hPO
  cases B with
  | false =>
    rw [if_neg (by decide)] at hν1
    subst hν1
    have q1 : m_Fo_flatten (nI l) t μ = some (-1, ν1) := by
      unfold m_Fo_flatten
      rw [a1, Option.bind_some, ap, g4, Option.bind_some, e1, Option.bind_some, ap]
      rfl
    have q2 : m_Mo_flatten (nI l) t ν1 = some (-1, ξ') := by
      unfold m_Mo_flatten
      rw [a2 ν1 k12, if_pos rfl, if_neg t1, if_neg t2, e3, Option.bind_some, ap]
      rfl
    refine ⟨-1, ν1, ξ', q1, q2, fin _ _ q1 q2 ?_⟩
    have um := fm_Mo_flatten q2
    refine ⟨i, j, f, g, b, hij, ?_, ?_, ?_⟩
    · rw [(eqF um 11 3 (by decide) (by decide) 0).2]; exact r3
    · rw [(eqF um 11 4 (by decide) (by decide) 0).2]; exact r4
    · have c7 : ∀ b', gI ξ' 7 i b' = gI μ 7 i b' := fun b' => by
        rw [M 7 i b' (by omega) (by omega) (by omega) (by omega), fr1 7 i b' (by omega) (by omega) (by omega)]
      have c24 : ∀ k b', 240 ≤ k → k ≤ 243 → gI ξ' k i b' = gI μ k i b' := fun k b' h1 h2 => by
        rw [M k i b' (by omega) (by omega) (by omega) (by omega), fr1 k i b' (by omega) (by omega) (by omega)]
      have c36 : ∀ k b', 368 ≤ k → k ≤ 370 → gI ξ' k 0 b' = gI μ k 0 b' := fun k b' h1 h2 => by
        rw [M k 0 b' (by omega) (by omega) (by omega) (by omega), fr1 k 0 b' (by omega) (by omega) (by omega)]
      have c27 : gI ξ' 12 0 27 = gI μ 12 0 27 := by
        rw [M 12 0 27 (by omega) (by omega) (by omega) (by omega), fr1 12 0 27 (by omega) (by omega) (by omega)]
      obtain ⟨p1, p2, p3, p4, p5, p6, p7, p8⟩ := hPG
      refine ⟨p1, by rw [c7]; exact p2, by rw [c27]; exact p3, p4, p5, p6, fun k hk => ?_, fun j' k j1 j2 j3 => ?_⟩
      · rw [c36 368 k (by omega) (by omega), c36 369 k (by omega) (by omega), c36 370 k (by omega) (by omega), c24 240 k (by omega) (by omega), c24 241 k (by omega) (by omega), c24 242 k (by omega) (by omega)]
        exact p7 k hk
      · rw [c24 242 k (by omega) (by omega), c24 243 k (by omega) (by omega)]
        exact p8 j' k j1 j2 j3
  | true =>
    rw [if_pos rfl] at hν1
    obtain ⟨ξ2, d1, d2, d3, d4⟩ := told_M R.1.1 R.2.1.2
    have j4 : gI ν1 7 j 4 = nI m := by rw [kI]; exact R.2.1.1
    have q1 : m_Fo_flatten (nI l) t μ = some (nI m, ν1) := by
      unfold m_Fo_flatten
      rw [a1, Option.bind_some, ap, g4, Option.bind_some, e1, Option.bind_some, ap, if_pos rfl]
      have tk : m_Fo_takeSparePolygons ν' = ν1 := by
        show sR (sR ν' 11 0 3 (gR ν' 11 0 4)) 11 0 4 (gR ν' 11 0 3) = ν1
        rw [r3, r4, hν1]
      rw [show m_Fo_takeSparePolygons (true, ν').2 = ν1 from tk, ap, ap, show gR ν1 11 0 3 = some j by rw [hν1]; simp [gR_sR], Option.bind_some, j4]
    have q2 : m_Mo_flatten (nI l) t ν1 = some (nI m, ξ2) := by
      unfold m_Mo_flatten
      rw [a2 ν1 k12, if_pos rfl, if_neg t1, if_neg t2, e3, Option.bind_some, ap, if_pos rfl, d1, Option.bind_some, d2]
    refine ⟨nI m, ν1, ξ2, q1, q2, fin _ _ q1 q2 ?_⟩
    have um := fm_Mo_flatten q2
    refine ⟨j, i, m, g', b', by omega, ?_, ?_, ?_⟩
    · rw [(eqF um 11 3 (by decide) (by decide) 0).2]; show gR ν1 11 0 3 = _; rw [hν1]; simp [gR_sR]
    · rw [(eqF um 11 4 (by decide) (by decide) 0).2]; show gR ν1 11 0 4 = _; rw [hν1]; simp [gR_sR]
    · refine pg_fr R (fun k c q => ?_) d2 d4
      rw [d3 k j c (by omega) (by omega), M k j c (by omega) (by omega) (by omega) (by omega), kI]
