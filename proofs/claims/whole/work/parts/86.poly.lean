/-- polygons that are being made: the class's, of number i, and the model's -/
def FR (i : Nat) (ν ξ : Mem) (m w st g : Nat) (fl : Int32) (b : Nat → Nat) : Prop :=
  (m ≤ 500 ∧ m ≤ w ∧ w ≤ 501 ∧ (fl = 0 ∨ (fl = 1 ∧ w ≤ 500)) ∧ st ≤ m) ∧ (gI ν 7 i 4 = nI m ∧ gI ξ 12 0 22 = nI m) ∧ (gI ν 7 i 5 = fl ∧ gI ξ 12 0 32 = fl) ∧ (gI ν 7 i 6 = nI w ∧ gI ξ 12 0 31 = nI w) ∧ gI ν 7 i 7 = nI st ∧ (gI ν 7 i 8 = nI g ∧ gI ξ 12 0 23 = nI g) ∧
  (∀ k, k < m → gI ξ 364 0 k = gI ν 240 i k ∧ gI ξ 365 0 k = gI ν 241 i k ∧ gI ξ 366 0 k = gI ν 242 i k ∧ bI (gI ν 240 i k) (-100000) 100000 ∧ bI (gI ν 241 i k) (-100000) 100000) ∧
  (b 0 = 0 ∧ b g = st ∧ ∀ j, j < g → b j + 2 ≤ b (j + 1)) ∧ (∀ j k, j < g → b j ≤ k → k < b (j + 1) → gI ν 242 i k = nI j ∧ gI ν 243 i k = nI (if k + 1 = b (j + 1) then b j else k + 1)) ∧ (∀ k, st ≤ k → k < m → gI ν 242 i k = nI g ∧ gI ν 243 i k = nI (k + 1))
def FC (i : Nat) (ν ν' : Mem) : Prop := (∀ k l b, ¬ (240 ≤ k ∧ k ≤ 243 ∧ l = i) → ¬ (k = 7 ∧ l = i) → gI ν' k l b = gI ν k l b) ∧ gL ν' = gL ν ∧ gR ν' = gR ν ∧ gF ν' = gF ν
def FM (ξ ξ' : Mem) : Prop := (∀ k l b, ¬ (364 ≤ k ∧ k ≤ 366) → ¬ (k = 12 ∧ (b = 22 ∨ b = 23 ∨ b = 31 ∨ b = 32)) → gI ξ' k l b = gI ξ k l b) ∧ gL ξ' = gL ξ
theorem fc_refl {i : Nat} {ν : Mem} : FC i ν ν := ⟨fun _ _ _ _ _ => rfl, rfl, rfl, rfl⟩
theorem fc_tr {i : Nat} {ν ν' ν'' : Mem} (h : FC i ν ν') (h' : FC i ν' ν'') : FC i ν ν'' := ⟨fun k l b a c => (h'.1 k l b a c).trans (h.1 k l b a c), h'.2.1.trans h.2.1, h'.2.2.1.trans h.2.2.1, h'.2.2.2.trans h.2.2.2⟩
theorem fc_sI {i : Nat} {ν ν' : Mem} {k l b : Nat} {v : Int32} (h : FC i ν ν') (hk : ((240 ≤ k ∧ k ≤ 243) ∨ k = 7) ∧ l = i) : FC i ν (sI ν' k l b v) := ⟨fun k' l' b' a c => by rw [gI_sI, if_neg (by omega)]; exact h.1 k' l' b' a c, h.2⟩
theorem fmm_refl {ξ : Mem} : FM ξ ξ := ⟨fun _ _ _ _ _ => rfl, rfl⟩
theorem fmm_tr {ξ ξ' ξ'' : Mem} (h : FM ξ ξ') (h' : FM ξ' ξ'') : FM ξ ξ'' := ⟨fun k l b a c => (h'.1 k l b a c).trans (h.1 k l b a c), h'.2.trans h.2⟩
theorem fmm_sI {ξ ξ' : Mem} {k l b : Nat} {v : Int32} (h : FM ξ ξ') (hk : (364 ≤ k ∧ k ≤ 366) ∨ (k = 12 ∧ (b = 22 ∨ b = 23 ∨ b = 31 ∨ b = 32))) : FM ξ (sI ξ' k l b v) := ⟨fun k' l' b' a c => by rw [gI_sI, if_neg (by omega)]; exact h.1 k' l' b' a c, h.2⟩
theorem last_C {i : Nat} {ν : Mem} {m st : Nat} {x y : Int64} (h4 : gI ν 7 i 4 = nI m) (h7 : gI ν 7 i 7 = nI st) (hm : m ≤ 500) (hst : st ≤ m) : m_Po_isLast i x y ν = some (decide (st < m ∧ (gI ν 240 i (m - 1)).toInt64 = x ∧ (gI ν 241 i (m - 1)).toInt64 = y)) := by
  unfold m_Po_isLast
  rw [h4, h7]
  by_cases w : m ≤ st
  · rw [if_pos (by rw [nle (by omega) (by omega)]; exact w), decide_eq_false (by omega)]
  · rw [if_neg (by rw [nle (by omega) (by omega)]; exact w), nsub1 (by omega), gu_nI (by omega) (by omega), nI_clamp (by omega)]
    by_cases w1 : (gI ν 240 i (m - 1)).toInt64 = x
    · rw [if_pos w1, gu_nI (by omega) (by omega)]
      by_cases w2 : (gI ν 241 i (m - 1)).toInt64 = y
      · rw [if_pos w2, decide_eq_true ⟨by omega, w1, w2⟩]
      · rw [if_neg w2, decide_eq_false (fun q => w2 q.2.2)]
    · rw [if_neg w1, decide_eq_false (fun q => w1 q.2.1)]
theorem adds_both {i : Nat} {ν ξ : Mem} {m w st g : Nat} {b : Nat → Nat} (R : FR i ν ξ m w st g 1 b) (h38 : gI ξ 12 0 38 = nI st) (x y : Int64) : ∃ ν' ξ' m' fl', m_Po_add i x y ν = some ν' ∧ m_Mo_adds x y ξ = some ξ' ∧ FR i ν' ξ' m' (w + 1) st g fl' b ∧ FC i ν ν' ∧ FM ξ ξ' := by
  obtain ⟨⟨a1, a2, a3, a4, a5⟩, ⟨b1, b2⟩, ⟨c1, c2⟩, ⟨d1, d2⟩, e1, ⟨f1, f2⟩, hrow, hb, hold, hnew⟩ := R
  have z10 : ¬ (1 : Int32) = 0 := by decide
  have w5 : w ≤ 500 := by
    rcases a4 with q | q
    · exact (z10 q).elim
    · exact q.2
  have n1 : nI w + 1 = nI (w + 1) := nI_add w 1
  by_cases ok : w + 1 ≤ 500 ∧ (-100000 ≤ x.toInt ∧ x.toInt ≤ 100000) ∧ (-100000 ≤ y.toInt ∧ y.toInt ≤ 100000)
  · obtain ⟨k1, k2, k3⟩ := ok
    have eC : m_Po_add i x y ν = mj_Po_add_39 i x y (sI ν 7 i 6 (nI (w + 1))) := by
      unfold m_Po_add m_Po_isNear
      simp only [ap, d1, n1, gI_self]
      rw [if_neg (by rw [show (500 : Int32) = nI 500 from rfl, nlt (by omega) (by omega)]; omega), within_b, within_b, decide_eq_true (show (-100000 : Int64).toInt ≤ x.toInt ∧ x.toInt ≤ (100000 : Int64).toInt from k2), decide_eq_true (show (-100000 : Int64).toInt ≤ y.toInt ∧ y.toInt ≤ (100000 : Int64).toInt from k3), if_pos rfl, if_pos rfl]
    have eM : m_Mo_adds x y ξ = mj_Mo_adds_57 x y (sI ξ 12 0 31 (nI (w + 1))) := by
      unfold m_Mo_adds
      simp only [ap, d2, n1, gI_self]
      rw [if_neg (by rw [show (500 : Int32) = nI 500 from rfl, nlt (by omega) (by omega)]; omega), if_neg (fun q => by have : x.toInt < -100000 := u_lt.mp q; omega), if_neg (fun q => by have : (100000 : Int) < x.toInt := u_lt.mp q; omega), if_neg (fun q => by have : y.toInt < -100000 := u_lt.mp q; omega), if_pos (u_le.mpr k3.2)]
    obtain ⟨ν0, hν0⟩ : ∃ ν0, ν0 = sI ν 7 i 6 (nI (w + 1)) := ⟨_, rfl⟩
    obtain ⟨ξ0, hξ0⟩ : ∃ ξ0, ξ0 = sI ξ 12 0 31 (nI (w + 1)) := ⟨_, rfl⟩
    have F0 : FC i ν ν0 := by rw [hν0]; exact fc_sI fc_refl (by omega)
    have M0 : FM ξ ξ0 := by rw [hξ0]; exact fmm_sI fmm_refl (by omega)
    have R0 : FR i ν0 ξ0 m (w + 1) st g 1 b := by
      rw [hν0, hξ0]
      unfold FR
      simp (disch := omega) only [gI_ne, gI_ne2, gI_self]
      exact ⟨⟨a1, by omega, by omega, Or.inr ⟨trivial, by omega⟩, a5⟩, ⟨b1, b2⟩, ⟨c1, c2⟩, ⟨trivial, trivial⟩, e1, ⟨f1, f2⟩, hrow, hb, hold, hnew⟩
    have h38' : gI ξ0 12 0 38 = nI st := by rw [hξ0, gI_ne2 (by omega)]; exact h38
    rw [eC, eM, ← hν0, ← hξ0]
    clear eC eM hν0 hξ0 hrow hold hnew
    obtain ⟨⟨a1, a2, a3, a4, a5⟩, ⟨b1, b2⟩, ⟨c1, c2⟩, ⟨d1, d2⟩, e1, ⟨f1, f2⟩, hrow, hb, hold, hnew⟩ := id R0
    have n2 : nI m + 1 = nI (m + 1) := nI_add m 1
    unfold mj_Po_add_39
    rw [c1, if_neg z10, last_C b1 e1 a1 a5]
    simp only [Option.bind_some]
    have push : ∃ ν' ξ' m' fl', (gu (gI ν0 7 i 4) 500 <| ap (sI ν0 240 i (gI ν0 7 i 4).toNatClampNeg x.toInt32) fun μ5 => gu (gI μ5 7 i 4) 500 <| ap (sI μ5 241 i (gI μ5 7 i 4).toNatClampNeg y.toInt32) fun μ7 => gu (gI μ7 7 i 4) 500 <| ap (sI μ7 242 i (gI μ7 7 i 4).toNatClampNeg (gI μ7 7 i 8)) fun μ9 => gu (gI μ9 7 i 4) 500 <| ap (sI μ9 243 i (gI μ9 7 i 4).toNatClampNeg ((gI μ9 7 i 4) + 1)) fun μ11 => ap (sI μ11 7 i 4 ((gI μ11 7 i 4) + 1)) fun μ12 => some μ12) = some ν' ∧ mj_Mo_adds_111 x y ξ0 = some ξ' ∧ FR i ν' ξ' m' (w + 1) st g fl' b ∧ FC i ν0 ν' ∧ FM ξ0 ξ' := by
      obtain ⟨x1, x2⟩ := back (v := x) (by omega)
      obtain ⟨y1, y2⟩ := back (v := y) (by omega)
      refine ⟨sI (sI (sI (sI (sI ν0 240 i m x.toInt32) 241 i m y.toInt32) 242 i m (nI g)) 243 i m (nI (m + 1))) 7 i 4 (nI (m + 1)), sI (sI (sI (sI ξ0 364 0 m x.toInt32) 365 0 m y.toInt32) 366 0 m (nI g)) 12 0 22 (nI (m + 1)), m + 1, 1, ?_, ?_, ?_, ?_, ?_⟩
      · simp (disch := omega) only [b1, gu_nI, nI_clamp, ap, gI_ne, f1, n2]
      · unfold mj_Mo_adds_111
        simp (disch := omega) only [b2, gu_nI, nI_clamp, ap, gI_ne, f2, n2]
      · unfold FR
        refine ⟨⟨by omega, by omega, by omega, Or.inr ⟨rfl, by omega⟩, by omega⟩, ?_, ?_, ?_, ?_, ?_, fun k hk => ?_, hb, fun j k j1 j2 j3 => ?_, fun k h1 h2 => ?_⟩
        · simp (disch := omega) only [gI_self]; exact ⟨trivial, trivial⟩
        · simp (disch := omega) only [gI_ne, gI_ne2]; exact ⟨c1, c2⟩
        · simp (disch := omega) only [gI_ne, gI_ne2]; exact ⟨d1, d2⟩
        · simp (disch := omega) only [gI_ne, gI_ne2]; exact e1
        · simp (disch := omega) only [gI_ne, gI_ne2]; exact ⟨f1, f2⟩
        · by_cases q : k = m
          · subst q
            simp (disch := omega) only [gI_ne, gI_self]
            unfold bI
            rw [x2, y2]
            exact ⟨trivial, trivial, trivial, k2, k3⟩
          · simp (disch := omega) only [gI_ne, gI_ne2]
            exact hrow k (by omega)
        · have hk : k < st := by
            have mono : ∀ d j', j' + d = g → b j' ≤ b g := by
              intro d
              induction d with
              | zero => intro j' hj; simp at hj; subst hj; exact Nat.le_refl _
              | succ d ih => intro j' hj; have := ih (j' + 1) (by omega); have := hb.2.2 j' (by omega); omega
            have := mono (g - (j + 1)) (j + 1) (by omega)
            rw [hb.2.1] at this; omega
          simp (disch := omega) only [gI_ne, gI_ne2]
          exact hold j k j1 j2 j3
        · by_cases q : k = m
          · subst q
            simp (disch := omega) only [gI_ne, gI_self]; exact ⟨trivial, trivial⟩
          · simp (disch := omega) only [gI_ne, gI_ne2]
            exact hnew k h1 (by omega)
      · exact fc_sI (fc_sI (fc_sI (fc_sI (fc_sI fc_refl (by omega)) (by omega)) (by omega)) (by omega)) (by omega)
      · exact fmm_sI (fmm_sI (fmm_sI (fmm_sI fmm_refl (by omega)) (by omega)) (by omega)) (by omega)
    have eM2 : mj_Mo_adds_57 x y ξ0 = if (st < m ∧ (gI ν0 240 i (m - 1)).toInt64 = x ∧ (gI ν0 241 i (m - 1)).toInt64 = y) then some ξ0 else mj_Mo_adds_111 x y ξ0 := by
      unfold mj_Mo_adds_57
      rw [c2, if_neg z10, b2, h38']
      by_cases q : m ≤ st
      · rw [if_pos (by rw [nle (by omega) (by omega)]; exact q), if_neg (by omega)]
      · obtain ⟨r1, r2, _⟩ := hrow (m - 1) (by omega)
        rw [if_neg (by rw [nle (by omega) (by omega)]; exact q), nsub1 (by omega), gu_nI (by omega) (by omega), nI_clamp (by omega), r1]
        by_cases q1 : (gI ν0 240 i (m - 1)).toInt64 = x
        · rw [if_pos q1, gu_nI (by omega) (by omega), r2]
          by_cases q2 : (gI ν0 241 i (m - 1)).toInt64 = y
          · rw [if_pos q2, if_pos ⟨by omega, q1, q2⟩]
          · rw [if_neg q2, if_neg (fun w => q2 w.2.2)]
        · rw [if_neg q1, if_neg (fun w => q1 w.2.1)]
    by_cases q : st < m ∧ (gI ν0 240 i (m - 1)).toInt64 = x ∧ (gI ν0 241 i (m - 1)).toInt64 = y
    · rw [decide_eq_true q, if_pos rfl, eM2, if_pos q]
      exact ⟨ν0, ξ0, m, 1, rfl, rfl, R0, F0, M0⟩
    · rw [decide_eq_false q, if_neg (by decide), eM2, if_neg q]
      obtain ⟨ν', ξ', m', fl', p1, p2, p3, p4, p5⟩ := push
      exact ⟨ν', ξ', m', fl', p1, p2, p3, fc_tr F0 p4, fmm_tr M0 p5⟩
  · -- it doesn't fit
    have eC : m_Po_add i x y ν = some (sI (sI ν 7 i 6 (nI (w + 1))) 7 i 5 0) := by
      unfold m_Po_add m_Po_isNear mj_Po_add_34 mj_Po_add_39
      simp only [ap, d1, n1, gI_self, if_true]
      by_cases q0 : w + 1 ≤ 500
      · rw [if_neg (by rw [show (500 : Int32) = nI 500 from rfl, nlt (by omega) (by omega)]; omega), within_b, within_b]
        by_cases q1 : -100000 ≤ x.toInt ∧ x.toInt ≤ 100000
        · rw [decide_eq_true (show (-100000 : Int64).toInt ≤ x.toInt ∧ x.toInt ≤ (100000 : Int64).toInt from q1), if_pos rfl, decide_eq_false (show ¬ ((-100000 : Int64).toInt ≤ y.toInt ∧ y.toInt ≤ (100000 : Int64).toInt) from fun q => ok ⟨q0, q1, q⟩), if_neg (by decide)]
        · rw [decide_eq_false (show ¬ ((-100000 : Int64).toInt ≤ x.toInt ∧ x.toInt ≤ (100000 : Int64).toInt) from q1), if_neg (by decide)]
      · rw [if_pos (by rw [show (500 : Int32) = nI 500 from rfl, nlt (by omega) (by omega)]; omega)]
    have eM : m_Mo_adds x y ξ = some (sI (sI ξ 12 0 31 (nI (w + 1))) 12 0 32 0) := by
      have e57 : mj_Mo_adds_52 x y (sI ξ 12 0 31 (nI (w + 1))) = some (sI (sI ξ 12 0 31 (nI (w + 1))) 12 0 32 0) := by
        unfold mj_Mo_adds_52 mj_Mo_adds_57
        simp only [ap, gI_self, if_true]
      unfold m_Mo_adds
      simp only [ap, d2, n1, gI_self]
      by_cases q0 : w + 1 ≤ 500
      · rw [if_neg (by rw [show (500 : Int32) = nI 500 from rfl, nlt (by omega) (by omega)]; omega)]
        by_cases q1 : x < -100000
        · rw [if_pos q1, e57]
        · have q1' : ¬ x.toInt < -100000 := fun q => q1 (u_lt.mpr q)
          rw [if_neg q1]
          by_cases q2 : (100000 : Int64) < x
          · rw [if_pos q2, e57]
          · have q2' : ¬ (100000 : Int) < x.toInt := fun q => q2 (u_lt.mpr q)
            rw [if_neg q2]
            by_cases q3 : y < -100000
            · rw [if_pos q3, e57]
            · have q3' : ¬ y.toInt < -100000 := fun q => q3 (u_lt.mpr q)
              rw [if_neg q3, if_neg, e57]
              intro q4
              have q4' : y.toInt ≤ 100000 := u_le.mp q4
              exact ok ⟨q0, by omega, by omega⟩
      · rw [if_pos (by rw [show (500 : Int32) = nI 500 from rfl, nlt (by omega) (by omega)]; omega), e57]
    refine ⟨_, _, m, 0, eC, eM, ?_, fc_sI (fc_sI fc_refl (by omega)) (by omega), fmm_sI (fmm_sI fmm_refl (by omega)) (by omega)⟩
    unfold FR
    simp (disch := omega) only [gI_ne, gI_ne2, gI_self]
    exact ⟨⟨a1, by omega, by omega, Or.inl trivial, a5⟩, ⟨b1, b2⟩, ⟨trivial, trivial⟩, ⟨trivial, trivial⟩, e1, ⟨f1, f2⟩, hrow, hb, hold, hnew⟩
