theorem op_act {μ : Mem} {n : Nat} (I : InvN n μ) (a b d : Int32) : ∃ r ν1 ν2, m_Fo_act a b d μ = some (r, ν1) ∧ m_Mo_act a b d ν1 = some (r, ν2) ∧ InvN n ν2 := by
  have h32 := I.1.1
  rcases lcase I.1 a with ⟨a1, a2⟩ | ⟨x, hx, rfl, a1, a2⟩
  · exact ⟨-1, μ, μ, by simp only [m_Fo_act, a1, oc_n], by simp only [m_Mo_act, a2 μ rfl]; rfl, I⟩
  obtain ⟨pc, hpc, p1, p2⟩ := ps_cnt I hx
  obtain ⟨c, hc, c1, c2, c3⟩ := I.2.2.2.2.1 x hx
  by_cases hp : pc = 0
  case neg =>
    refine ⟨-1, μ, μ, ?_, ?_, I⟩
    · simp (disch := omega) only [m_Fo_act, a1, oc_s, p1, show (0 : Int32) = nI 0 from rfl, nle]
      rw [if_neg (by omega)]
    · simp (disch := omega) only [m_Mo_act, a2 μ rfl, if_true, gu_nI, nI_clamp, p2, show (0 : Int32) = nI 0 from rfl, nlt]
      rw [if_pos (by omega)]
  subst hp
  have z0 : nI 0 = 0 := rfl
  by_cases h : (0 ≤ b.toInt ∧ b.toInt ≤ 30) ∧ (-100000 ≤ d.toInt ∧ d.toInt ≤ 100000) ∧ c < 100
  · obtain ⟨hb, hd, h⟩ := h
    have e1 : m_Fo_act (nI x) b d μ = some (nI (c + 1), sI (sI (sI μ 260 x c b) 261 x c d) 8 x 2 (nI (c + 1))) := by
      simp only [m_Fo_act, a1, oc_s, p1, rg_Fo]
      rw [if_pos (by decide), if_pos (by simpa using hb), if_pos (by simpa using hd), act_C b d c1 h]
      rfl
    have e2 := act_M (μ := sI (sI (sI μ 260 x c b) 261 x c d) 8 x 2 (nI (c + 1))) (x := x) (a := c) b d (by omega) (by simp (disch := omega) only [gI_ne]; exact p2) hb hd (by simp (disch := omega) only [gI_ne]; exact c2) h (a2 _ (by simp (disch := omega) only [gI_ne]))
    refine ⟨_, _, _, e1, e2, inv_LA I (S := [260, 261, 357, 358, 359, 1802]) (by decide) (((fm_Fo_act e1).mono (by decide)).tr ((fm_Mo_act e2).mono (by decide))) ?_⟩
    intro l hl
    by_cases q : l = x
    · subst q
      refine ⟨c + 1, by omega, by simp (disch := omega) only [gI_ne, gI_self], by simp (disch := omega) only [gI_ne, gI_self], fun k hk => ?_⟩
      by_cases q : k = c
      · subst q; simp (disch := omega) only [gI_ne, gI_self]; exact ⟨trivial, hb, trivial, hd⟩
      · simp (disch := omega) only [gI_ne, gI_ne2]; exact c3 k (by omega)
    · obtain ⟨c', hc', w1, w2, w3⟩ := I.2.2.2.2.1 l hl
      refine ⟨c', hc', by simp (disch := omega) only [gI_ne, gI_ne1]; exact w1, by simp (disch := omega) only [gI_ne, gI_ne2]; exact w2, fun k hk => ?_⟩
      simp (disch := omega) only [gI_ne, gI_ne1, gI_ne2]; exact w3 k hk
  · refine ⟨-1, μ, μ, ?_, ?_, I⟩
    · simp only [m_Fo_act, a1, oc_s, p1, rg_Fo, decide_eq_true_eq]
      rw [if_pos (by decide)]
      by_cases hb : (0 ≤ b.toInt ∧ b.toInt ≤ 30)
      · rw [if_pos (by simpa using hb)]
        by_cases hd : (-100000 ≤ d.toInt ∧ d.toInt ≤ 100000)
        · rw [if_pos (by simpa using hd)]
          have hc : c = 100 := by omega
          subst hc
          simp (disch := omega) only [m_Pr_add, c1, show (100 : Int32) = nI 100 from rfl, nlt]
          rfl
        · rw [if_neg (by simpa using hd)]
      · rw [if_neg (by simpa using hb)]
    · unfold m_Mo_act
      rw [a2 μ rfl, if_pos rfl, sel2 (x := b) (lo := 0) (hi := 30) (a := 0) (b := 30) rfl rfl, sel2 (x := d) (lo := -100000) (hi := 100000) (a := -100000) (b := 100000) rfl rfl]
      simp (disch := omega) only [gu_nI, nI_clamp, p2, c2, show (100 : Int32) = nI 100 from rfl, neq]
      rw [if_neg (by decide)]
      by_cases hb : (0 ≤ b.toInt ∧ b.toInt ≤ 30)
      · rw [if_pos hb]
        by_cases hd : (-100000 ≤ d.toInt ∧ d.toInt ≤ 100000)
        · rw [if_pos hd, if_pos (by omega)]
        · rw [if_neg hd]
      · rw [if_neg hb]
theorem op_wipe {μ : Mem} {n : Nat} (I : InvN n μ) (a : Int32) : ∃ r ν1 ν2, m_Fo_wipe a μ = some (r, ν1) ∧ m_Mo_wipe a ν1 = some (r, ν2) ∧ InvN n ν2 := by
  have h32 := I.1.1
  rcases lcase I.1 a with ⟨a1, a2⟩ | ⟨x, hx, rfl, a1, a2⟩
  · exact ⟨-1, μ, μ, by simp only [m_Fo_wipe, a1, oc_n], by simp only [m_Mo_wipe, a2 μ rfl]; rfl, I⟩
  obtain ⟨c, hc, c1, c2, c3⟩ := I.2.2.2.2.1 x hx
  have e1 : m_Fo_wipe (nI x) μ = some (nI c, sI μ 8 x 2 0) := by simp only [m_Fo_wipe, a1, oc_s, m_Pr_clear, ap, c1]
  have e2 : m_Mo_wipe (nI x) (sI μ 8 x 2 0) = some (nI c, sI (sI μ 8 x 2 0) 357 0 x 0) := by
    simp (disch := omega) only [m_Mo_wipe, a2 (sI μ 8 x 2 0) (by simp (disch := omega) only [gI_ne]), if_true, gu_nI, nI_clamp, ap, gI_ne, c2]
  refine ⟨_, _, _, e1, e2, inv_LA I (S := [260, 261, 357, 358, 359, 1802]) (by decide) (((fm_Fo_wipe e1).mono (by decide)).tr ((fm_Mo_wipe e2).mono (by decide))) ?_⟩
  intro l hl
  by_cases q : l = x
  · subst q
    exact ⟨0, by omega, by simp (disch := omega) only [gI_ne, gI_self]; rfl, by simp (disch := omega) only [gI_ne, gI_self]; rfl, fun k hk => by omega⟩
  · obtain ⟨c', hc', w1, w2, w3⟩ := I.2.2.2.2.1 l hl
    refine ⟨c', hc', by simp (disch := omega) only [gI_ne, gI_ne1]; exact w1, by simp (disch := omega) only [gI_ne, gI_ne2]; exact w2, fun k hk => ?_⟩
    simp (disch := omega) only [gI_ne, gI_ne1, gI_ne2]; exact w3 k hk
theorem op_placed {μ : Mem} {n : Nat} (I : InvN n μ) (a b : Int32) : ∃ r, m_Fo_placed a b μ = some r ∧ m_Mo_placed a b μ = some r := by
  obtain ⟨s, hs, s1, s2, s3, s4, s5⟩ := I.2.2.2.2.2.2.2.2.2.2.1
  have e1 : ((nI s - 1 : Int32).toInt64).toInt = (s : Int) - 1 := by
    rw [i64, t_sub] <;> rw [nI_toInt (by omega)] <;> simp <;> omega
  by_cases h : 0 ≤ a.toInt ∧ a.toInt < s
  · obtain ⟨j, hj, rfl⟩ := ix_of h.1 h.2 (by omega)
    obtain ⟨t1, t2, t3, _⟩ := s3 j hj
    have c1 : m_Fo_within (nI j).toInt64 0 (nI s - 1).toInt64 μ = true := by rw [within_b, e1, i64]; simp; omega
    have k1 : ¬ nI j < 0 := lt_lit (by simpa using h.1)
    simp (disch := omega) only [m_Fo_placed, m_Mo_placed, s1, c1, s2, k1, nlt, hj, if_true, if_false, gu_nI, nI_clamp, t1, t2, t3]
    split
    · exact ⟨_, rfl, rfl⟩
    · split
      · exact ⟨_, rfl, rfl⟩
      · split
        · exact ⟨_, rfl, rfl⟩
        · exact ⟨_, rfl, rfl⟩
  · refine ⟨-1000000, ?_, ?_⟩
    · unfold m_Fo_placed
      rw [s1, within_b, e1, i64, if_neg (by simp; omega)]
    · unfold m_Mo_placed
      rw [s2]
      by_cases k1 : a < 0
      · rw [if_pos k1]
      · rw [if_neg k1]
        have k1' : ¬ a.toInt < (0 : Int32).toInt := fun q => k1 (t_lt.mpr q)
        simp at k1'
        rw [if_neg]
        intro q
        have := t_lt.mp q
        rw [nI_toInt (by omega)] at this
        omega
theorem op_length {μ : Mem} {n : Nat} (I : InvN n μ) : m_Mo_length μ = some (m_Fo_length μ) := by
  have h32 := I.1.1
  obtain ⟨s, hs, s1, s2, s3, s4, s5⟩ := I.2.2.2.2.2.2.2.2.2.2.1
  unfold m_Mo_length m_Fo_length
  rcases s with _ | k
  · rw [s2, s4 rfl]; rfl
  · obtain ⟨t1, t2, t3, l, hl, t4⟩ := s3 k (by omega)
    have hz : ¬ k + 1 = 0 := by omega
    simp (disch := omega) only [s2, show (0 : Int32) = nI 0 from rfl, neq, nsub1, hz, if_false, gu_nI, nI_clamp, Nat.add_sub_cancel, t1, t2, t4, (I.1.2.2.2.2.1 l hl).2.1]
    rw [s5 k l hl rfl t4]
theorem find_C {μ : Mem} {n : Nat} (A : IA n μ) (a : Int32) : ∀ (f k : Nat), k ≤ n → n - k < f → ∃ r, lp_Fo_indexOfCode_2 (nI n) a μ f (nI k) = some r ∧ lp_Mo_find_2 a μ f (nI k) = some r ∧ ((r = -1 ∧ ∀ l, k ≤ l → l < n → gI μ 4 l 0 ≠ a) ∨ ∃ l, k ≤ l ∧ l < n ∧ r = nI l ∧ gI μ 4 l 0 = a) := by
  obtain ⟨h32, a1, a2, a3, a4, a5⟩ := A
  intro f
  induction f with
  | zero => intro k h1 h2; omega
  | succ f ih =>
    intro k h1 h2
    by_cases h : k = n
    · subst h
      refine ⟨-1, ?_, ?_, Or.inl ⟨rfl, fun l _ _ => by omega⟩⟩
      · simp (disch := omega) only [lp_Fo_indexOfCode_2, nle, Nat.le_refl, if_true]
      · simp (disch := omega) only [lp_Mo_find_2, a2, nle, Nat.le_refl, if_true]
    · have hk : k < n := by omega
      have q1 : ¬ n ≤ k := by omega
      have q2 : ¬ 32 ≤ k := by omega
      have n1 : nI k + 1 = nI (k + 1) := nI_add k 1
      have e1 : lp_Fo_indexOfCode_2 (nI n) a μ (f + 1) (nI k) = if gI μ 4 k 0 = a then some (nI k) else lp_Fo_indexOfCode_2 (nI n) a μ f (nI (k + 1)) := by
        simp (disch := omega) only [lp_Fo_indexOfCode_2, mj_Fo_indexOfCode_31, show (32 : Int32) = nI 32 from rfl, nle, q1, q2, if_false, gu_nI, nI_clamp, a3, hk, if_true, ap, oc_some, n1]
        rfl
      have e2 : lp_Mo_find_2 a μ (f + 1) (nI k) = if gI μ 4 k 0 = a then some (nI k) else lp_Mo_find_2 a μ f (nI (k + 1)) := by
        simp (disch := omega) only [lp_Mo_find_2, a2, nle, q1, if_false, gu_nI, nI_clamp, (a4 k hk).1, ap, n1]
      rw [e1, e2]
      by_cases g : gI μ 4 k 0 = a
      · rw [if_pos g, if_pos g]
        exact ⟨_, rfl, rfl, Or.inr ⟨k, Nat.le_refl _, hk, rfl, g⟩⟩
      · rw [if_neg g, if_neg g]
        obtain ⟨r, r1, r2, r3⟩ := ih (k + 1) (by omega) (by omega)
        refine ⟨r, r1, r2, ?_⟩
        rcases r3 with ⟨w, w2⟩ | ⟨l, w1, w2, w3, w4⟩
        · left
          refine ⟨w, fun l h1 h2 => ?_⟩
          by_cases q : l = k
          · subst q; exact g
          · exact w2 l (by omega) h2
        · exact Or.inr ⟨l, by omega, w2, w3, w4⟩
theorem find_both {μ : Mem} {n : Nat} (A : IA n μ) (a : Int32) : ∃ r, m_Fo_indexOfCode (nI n) a μ = some r ∧ m_Mo_find a μ = some r ∧ ((r = -1 ∧ ∀ l, l < n → gI μ 4 l 0 ≠ a) ∨ ∃ l, l < n ∧ r = nI l ∧ gI μ 4 l 0 = a) := by
  obtain ⟨r, r1, r2, r3⟩ := find_C A a FU 0 (by omega) (by have := A.1; unfold FU; omega)
  refine ⟨r, r1, r2, ?_⟩
  rcases r3 with ⟨w, w2⟩ | ⟨l, w1, w2, w3, w4⟩
  · exact Or.inl ⟨w, fun l hl => w2 l (by omega) hl⟩
  · exact Or.inr ⟨l, w2, w3, w4⟩
theorem op_find {μ : Mem} {n : Nat} (I : InvN n μ) (a : Int32) : ∃ r, m_Fo_find a μ = some r ∧ m_Mo_find a μ = some r := by
  obtain ⟨r, r1, r2, _⟩ := find_both I.1 a
  exact ⟨r, by unfold m_Fo_find; rw [I.1.2.1, r1]; rfl, r2⟩
