theorem op_classOf {μ : Mem} {n : Nat} (I : InvN n μ) (a b d : Int32) : ∃ r ν1 ν2, m_Fo_classOf a b d μ = some (r, ν1) ∧ m_Mo_classOf a b d ν1 = some (r, ν2) ∧ InvN n ν2 := by
  have h32 := I.1.1
  rcases lcase I.1 a with ⟨a1, a2⟩ | ⟨x, hx, rfl, a1, a2⟩
  · exact ⟨false, μ, μ, by simp only [m_Fo_classOf, a1, oc_n], by simp only [m_Mo_classOf, a2 μ rfl]; rfl, I⟩
  have eM : ∀ ν : Mem, mj_Mo_classOf_17 (nI x) b d ν = if 0 ≤ d.toInt ∧ d.toInt ≤ 15 then (if b = 0 then some (true, sI ν 399 0 x d) else some (true, sI ν 400 0 x d)) else some (false, ν) := by
    intro ν
    unfold mj_Mo_classOf_17
    rw [sel3 (a := 0) (b := 15) rfl rfl]
    simp only [gu_nI (show x < 32 by omega) (by omega), nI_clamp (show x < 2 ^ 31 by omega), ap]
  by_cases hb : 0 ≤ b.toInt ∧ b.toInt ≤ 1
  · have hb2 : b = 0 ∨ b = 1 := by
      rcases (show b.toInt = 0 ∨ b.toInt = 1 by omega) with q | q
      · exact Or.inl (t_eq.mpr q)
      · exact Or.inr (t_eq.mpr q)
    by_cases hd : 0 ≤ d.toInt ∧ d.toInt ≤ 15
    · have LKx : ∀ ν2, gI ν2 4 = gI μ 4 ∨ True → True := fun _ _ => trivial
      rcases hb2 with rfl | rfl
      · have e1 : m_Fo_classOf (nI x) 0 d μ = some (true, sI μ 4 x 8 d) := by
          simp only [m_Fo_classOf, a1, oc_s, rg_Fo, rg_isClass, hd, and_self, decide_true, if_true, ap]
          rfl
        have e2 : m_Mo_classOf (nI x) 0 d (sI μ 4 x 8 d) = some (true, sI (sI μ 4 x 8 d) 399 0 x d) := by
          simp only [m_Mo_classOf, a2 (sI μ 4 x 8 d) rfl, if_true, eM, hd, and_self]
        refine ⟨_, _, _, e1, e2, inv_LK I (S := [399, 1408]) (by decide) ((un_sI (Or.inr ⟨by decide, by simp⟩) (by simp)).tr (un_sI (Or.inl (by simp)) (by simp))) ?_⟩
        intro l hl
        obtain ⟨k1, k2, k3, k4⟩ := I.2.2.2.2.2.1 l hl
        unfold LK bI at *
        simp only [gI_sI]
        by_cases q : l = x
        · subst q; simp; exact ⟨k2, hd, k4⟩
        · simp [q]; exact ⟨k1, k2, k3, k4⟩
      · have e1 : m_Fo_classOf (nI x) 1 d μ = some (true, sI μ 4 x 9 d) := by
          simp only [m_Fo_classOf, a1, oc_s, rg_Fo, rg_isClass, hd, and_self, decide_true, if_true, ap]
          rfl
        have e2 : m_Mo_classOf (nI x) 1 d (sI μ 4 x 9 d) = some (true, sI (sI μ 4 x 9 d) 400 0 x d) := by
          simp only [m_Mo_classOf, a2 (sI μ 4 x 9 d) rfl, if_true, eM, hd, and_self]
          rfl
        refine ⟨_, _, _, e1, e2, inv_LK I (S := [400, 1409]) (by decide) ((un_sI (Or.inr ⟨by decide, by simp⟩) (by simp)).tr (un_sI (Or.inl (by simp)) (by simp))) ?_⟩
        intro l hl
        obtain ⟨k1, k2, k3, k4⟩ := I.2.2.2.2.2.1 l hl
        unfold LK bI at *
        simp only [gI_sI]
        by_cases q : l = x
        · subst q; simp; exact ⟨k1, k3, hd⟩
        · simp [q]; exact ⟨k1, k2, k3, k4⟩
    · refine ⟨false, μ, μ, ?_, ?_, I⟩
      · simp only [m_Fo_classOf, a1, oc_s, rg_Fo, rg_isClass, hd, decide_false]
        rw [if_pos (by simpa using hb)]
        rfl
      · simp only [m_Mo_classOf, a2 μ rfl, if_true, eM, hd, if_false]
        rcases hb2 with rfl | rfl <;> rfl
  · refine ⟨false, μ, μ, ?_, ?_, I⟩
    · simp only [m_Fo_classOf, a1, oc_s, rg_Fo]
      rw [if_neg (by simpa using hb)]
    · have n0 : ¬ b = 0 := fun q => hb (by rw [q]; decide)
      have n1 : ¬ b = 1 := fun q => hb (by rw [q]; decide)
      simp only [m_Mo_classOf, a2 μ rfl, if_true, n0, n1, if_false]
/-- kerning: what both sides say of two letters -/
theorem kern_M {μ : Mem} {n x y : Nat} (I : InvN n μ) (hx : x < n) (hy : y < n) {ν : Mem} (e : ∀ k, 399 ≤ k → k ≤ 403 → gI ν k = gI μ k) (e12 : gI ν 12 0 0 = gI μ 12 0 0) : ∃ c d, gI μ 4 x 9 = nI c ∧ gI μ 4 y 8 = nI d ∧ c < 16 ∧ d < 16 ∧ m_Mo_kerning (nI x) (nI y) ν = some (if gI μ 561 x y = 10000 then gI μ 560 c d else gI μ 561 x y) := by
  have h32 := I.1.1
  obtain ⟨k1, k2, k3, k4⟩ := I.2.2.2.2.2.1 x hx
  obtain ⟨j1, j2, j3, j4⟩ := I.2.2.2.2.2.1 y hy
  obtain ⟨c, hc, ec⟩ := ix_of (n := 16) k4.1 (by have := k4.2; omega) (by omega)
  obtain ⟨d, hd, ed⟩ := ix_of (n := 16) j3.1 (by have := j3.2; omega) (by omega)
  refine ⟨c, d, ec, ed, hc, hd, ?_⟩
  obtain ⟨r1, r2⟩ := I.2.2.2.2.2.2.1
  have bx : m_Mo_isLetter (nI x) ν = true := by rw [isLetter_b h32 (e12.trans I.1.2.2.1)]; rw [nI_toInt (by omega)]; simp; omega
  have by' : m_Mo_isLetter (nI y) ν = true := by rw [isLetter_b h32 (e12.trans I.1.2.2.1)]; rw [nI_toInt (by omega)]; simp; omega
  unfold m_Mo_kerning
  rw [bx, by', if_pos rfl, if_pos rfl, ix32, gu_nI (by omega) (by omega), nI_clamp (show 32 * x + y < 2 ^ 31 by omega), nI_clamp (show x < 2 ^ 31 by omega), nI_clamp (show y < 2 ^ 31 by omega), gu_nI (by omega) (by omega), gu_nI (by omega) (by omega), gu_nI (by omega) (by omega)]
  rw [e 399 (by omega) (by omega), e 400 (by omega) (by omega), e 401 (by omega) (by omega), e 402 (by omega) (by omega), e 403 (by omega) (by omega), k2, j1, ec, ed, ix16, gu_nI (by omega) (by omega), nI_clamp (show 16 * c + d < 2 ^ 31 by omega)]
  rcases r2 x y (by omega) (by omega) with ⟨q1, q2⟩ | ⟨q1, q2, q3⟩
  · rw [q1, q2, if_pos rfl, if_pos rfl, (r1 c d hc hd).1]
  · rw [q1, if_neg (by decide), q2, if_neg]
    intro w
    rw [w] at q3
    exact absurd q3 (by unfold bI; decide)
theorem kern_C {μ : Mem} {n x y c d : Nat} (A : IA n μ) (hx : x < n) (hy : y < n) (ec : gI μ 4 x 9 = nI c) (ed : gI μ 4 y 8 = nI d) (hc : c < 16) (hd : d < 16) : m_Ke_between (nI x) (nI y) μ = some (if gI μ 561 x y = 10000 then gI μ 560 c d else gI μ 561 x y) := by
  have h32 := A.1
  have rx : m_Fo_within (nI x).toInt64 0 ((32 : Int32) - 1).toInt64 μ = true := by rw [rg_Fo, nI_toInt (by omega)]; simp; show (x : Int) ≤ 31; omega
  have ry : m_Fo_within (nI y).toInt64 0 ((32 : Int32) - 1).toInt64 μ = true := by rw [rg_Fo, nI_toInt (by omega)]; simp; show (y : Int) ≤ 31; omega
  unfold m_Ke_between
  simp only [rx, ry, if_true, gu_nI (show x < 32 by omega) (by omega), gu_nI (show y < 32 by omega) (by omega), nI_clamp (show x < 2 ^ 31 by omega), nI_clamp (show y < 2 ^ 31 by omega), ap, A.2.2.2.1 x, A.2.2.2.1 y, hx, hy, oc_some, ec, ed, gu_nI hc (by omega), gu_nI hd (by omega), nI_clamp (show c < 2 ^ 31 by omega), nI_clamp (show d < 2 ^ 31 by omega), Nat.mul_zero, Nat.zero_add]
  split <;> rfl
theorem op_kerning {μ : Mem} {n : Nat} (I : InvN n μ) (a b : Int32) : ∃ r, m_Fo_kerning a b μ = some r ∧ m_Mo_kerning a b μ = some r := by
  have h32 := I.1.1
  have no : ∀ z : Int32, ¬ (0 ≤ z.toInt ∧ z.toInt < n) → (0 ≤ z.toInt ∧ z.toInt ≤ 31) → gR μ 320 0 z.toNatClampNeg = none := by
    intro z h1 h2
    obtain ⟨j, hj, rfl⟩ := ix_of (n := 32) h2.1 (by omega) (by omega)
    rw [nI_toInt (by omega)] at h1
    rw [nI_clamp (by omega), I.1.2.2.2.1, if_neg (by omega)]
  by_cases ha : 0 ≤ a.toInt ∧ a.toInt < n
  · by_cases hb : 0 ≤ b.toInt ∧ b.toInt < n
    · obtain ⟨x, hx, rfl⟩ := ix_of ha.1 ha.2 (by omega)
      obtain ⟨y, hy, rfl⟩ := ix_of hb.1 hb.2 (by omega)
      obtain ⟨c, d, ec, ed, hc, hd, e2⟩ := kern_M I hx hy (ν := μ) (fun _ _ _ => rfl) rfl
      exact ⟨_, by unfold m_Fo_kerning; rw [kern_C I.1 hx hy ec ed hc hd]; rfl, e2⟩
    · refine ⟨0, ?_, by simp only [m_Mo_kerning, isLetter_b h32 I.1.2.2.1, ha, hb, and_self, decide_true, decide_false, if_true]; rfl⟩
      unfold m_Fo_kerning m_Ke_between
      rw [rg_Fo, rg_Fo, if_pos (by simp; exact ⟨ha.1, by show a.toInt ≤ 31; omega⟩)]
      by_cases h2 : 0 ≤ b.toInt ∧ b.toInt ≤ 31
      · rw [if_pos (by simp; exact h2)]
        simp only [ap]
        rw [gu_ok (i := a) (n := 32) (by omega), gu_ok (i := b) (n := 32) (by omega), no b hb h2]
        obtain ⟨x, hx, rfl⟩ := ix_of ha.1 ha.2 (by omega)
        rw [nI_clamp (by omega), I.1.2.2.2.1 x, if_pos hx]
        rfl
      · rw [if_neg (by simp; intro q; show 31 < b.toInt; omega)]
        rfl
  · refine ⟨0, ?_, by simp only [m_Mo_kerning, isLetter_b h32 I.1.2.2.1, ha, decide_false]; rfl⟩
    unfold m_Fo_kerning m_Ke_between
    rw [rg_Fo, rg_Fo]
    by_cases h1 : 0 ≤ a.toInt ∧ a.toInt ≤ 31
    · rw [if_pos (by simp; exact h1)]
      by_cases h2 : 0 ≤ b.toInt ∧ b.toInt ≤ 31
      · rw [if_pos (by simp; exact h2)]
        simp only [ap]
        rw [gu_ok (i := a) (n := 32) (by omega), gu_ok (i := b) (n := 32) (by omega), no a ha h1]
        rfl
      · rw [if_neg (by simp; intro q; show 31 < b.toInt; omega)]
        rfl
    · rw [if_neg (by simp; intro q; show 31 < a.toInt; omega)]
      rfl
