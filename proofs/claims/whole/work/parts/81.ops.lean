theorem dy_top {μ : Mem} {j p c : Nat} {e : Nat → Nat} {A : Nat} {ν ξ : Mem} {h q : Nat} {nx ft : Int32} (D : DY μ j p c e A ν ξ h q nx ft) (k : Nat) (hk : k < h) : gL ξ 381 0 k = (gI ν 280 0 k).toInt64 ∧ B9 (gI ν 280 0 k) := D.2.2.2.2.2.2.1 k hk
theorem pop_both {μ : Mem} {j p c : Nat} {e : Nat → Nat} {A : Nat} {ν ξ : Mem} {h q : Nat} {nx ft : Int32} (D : DY μ j p c e A ν ξ (h + 1) q nx ft) : ∃ v ν' ξ', m_Ru_pop ν = some (v, ν') ∧ m_Mo_pop ξ = some (v.toInt64, ξ') ∧ B9 v ∧ v = gI ν 280 0 h ∧ DY μ j p c e A ν' ξ' h q nx ft := by
  have hh := D.2.2.1.1
  obtain ⟨t1, t2⟩ := dy_top D h (by omega)
  exact ⟨_, _, _, ru_pop D.2.2.2.1.1 (by omega), by rw [mo_pop D.2.2.2.1.2 (by omega), t1], t2, rfl, dy_pop D⟩
theorem push_both {μ : Mem} {j p c : Nat} {e : Nat → Nat} {A : Nat} {ν ξ : Mem} {h q : Nat} {nx ft v : Int32} (D : DY μ j p c e A ν ξ h q nx ft) (hh : h < 32) (hv : B9 v) : ∃ ν' ξ', m_Ru_push v ν = some ν' ∧ m_Mo_push v.toInt64 ξ = some ξ' ∧ DY μ j p c e A ν' ξ' (h + 1) q nx ft :=
  ⟨_, _, ru_push D.2.2.2.1.1 hh, mo_push D.2.2.2.1.2 (by omega) (by rw [i64]; exact hv), dy_push D hh hv⟩
theorem carry_both {μ : Mem} {j p c : Nat} {e : Nat → Nat} {A : Nat} {ν ξ : Mem} {h q z o l at_ : Nat} {a : Int32} (hz : z ≤ A) (hat : nI at_ + 1 = nI z) (ho : o ≤ 3 ∨ o = 20 ∨ o = 21) (ht : tk o ≤ h) (hg : h - tk o + gv o ≤ 32) (ha : bI a (-100000) 100000) (h20 : o = 20 ∨ o = 21 → 0 ≤ a.toInt ∧ a.toInt ≤ 15) (D : DY μ j p c e A ν ξ h q (nI z) 0) :
    ∃ ν' ξ', m_Ru_carry (nI o) a ν = some ν' ∧ mj_Mo_does_93 (nI l) (nI at_) (nI o) a ξ = some (nI z, ξ') ∧ EN μ j p c e A 0 ν' (nI z) ξ' := by
  have hh := D.2.2.1.1
  have hB : B9 a := ⟨by have := ha.1; omega, by have := ha.2; omega⟩
  unfold m_Ru_carry mj_Mo_does_93 mj_Mo_does_613
  rcases (show o = 0 ∨ o = 1 ∨ o = 2 ∨ o = 3 ∨ o = 20 ∨ o = 21 by omega) with rfl | rfl | rfl | rfl | rfl | rfl
  · have k : tk 0 = 0 ∧ gv 0 = 1 := ⟨rfl, rfl⟩
    obtain ⟨ν', ξ', e1, e2, D'⟩ := push_both (v := a) D (by omega) hB
    refine ⟨ν', ξ', ?_, ?_, en_good hz D'⟩
    · rw [if_pos (by decide), e1]; rfl
    · rw [if_pos (by decide), e2, hat]; rfl
  · have k : tk 1 = 1 ∧ gv 1 = 2 := ⟨rfl, rfl⟩
    obtain ⟨t1, t2⟩ := dy_top D (h - 1) (by omega)
    obtain ⟨ν', ξ', e1, e2, D'⟩ := push_both (v := gI ν 280 0 (h - 1)) D (by omega) t2
    refine ⟨ν', ξ', ?_, ?_, en_good hz D'⟩
    · rw [if_neg (by decide), if_pos (by decide), D.2.2.2.1.1, nsub1 (by omega), gu_nI (by omega) (by omega), nI_clamp (by omega), e1]; rfl
    · rw [if_neg (by decide), if_pos (by decide), D.2.2.2.1.2, nsub1 (by omega), gu_nI (by omega) (by omega), nI_clamp (by omega), t1, e2, hat]; rfl
  · have k : tk 2 = 1 ∧ gv 2 = 0 := ⟨rfl, rfl⟩
    obtain ⟨h', rfl⟩ : ∃ h', h = h' + 1 := ⟨h - 1, by omega⟩
    refine ⟨sI ν 9 0 3 (nI h'), sI ξ 12 0 42 (nI h'), ?_, ?_, en_good hz (dy_pop D)⟩
    · rw [if_neg (by decide), if_neg (by decide), if_pos (by decide), ru_pop D.2.2.2.1.1 (by omega)]; rfl
    · rw [if_neg (by decide), if_neg (by decide), if_pos (by decide), D.2.2.2.1.2, nsub1 (by omega), hat]; rfl
  · have k : tk 3 = 2 ∧ gv 3 = 2 := ⟨rfl, rfl⟩
    obtain ⟨h', rfl⟩ : ∃ h', h = h' + 1 + 1 := ⟨h - 2, by omega⟩
    obtain ⟨t1, t2⟩ := dy_top D (h' + 1) (by omega)
    obtain ⟨t3, t4⟩ := dy_top D h' (by omega)
    have D1 := dy_pop D
    have D2 := dy_pop D1
    have D3 := dy_push (v := gI ν 280 0 (h' + 1)) D2 (by omega) t2
    have D4 := dy_push (v := gI ν 280 0 h') D3 (by omega) t4
    refine ⟨_, sL (sL ξ 381 0 (h' + 1) (gI ν 280 0 h').toInt64) 381 0 h' (gI ν 280 0 (h' + 1)).toInt64, ?_, ?_, en_good hz (dy_congr ?_ ?_ D4)⟩
    · rw [if_neg (by decide), if_neg (by decide), if_neg (by decide), if_pos (by decide)]
      unfold m_Ru_changeTwo
      rw [ru_pop D.2.2.2.1.1 (by omega)]
      simp only [Option.bind_some, ap]
      rw [ru_pop D1.2.2.2.1.1 (by omega)]
      simp only [Option.bind_some]
      rw [ru_push D2.2.2.2.1.1 (by omega)]
      simp only [Option.bind_some]
      rw [ru_push D3.2.2.2.1.1 (by omega), gI_ne (by omega)]; rfl
    · have s2 : nI (h' + 1 + 1) - 2 = nI h' := pk_sub (b := 2) (by omega)
      rw [if_neg (by decide), if_neg (by decide), if_neg (by decide), if_pos (by decide)]
      simp only [ap, gI_sL]
      rw [D.2.2.2.1.2, nsub1 (by omega), s2, gu_nI (by omega) (by omega), gu_nI (by omega) (by omega), gu_nI (by omega) (by omega), gu_nI (by omega) (by omega), hat, nI_clamp (by omega), nI_clamp (by omega), show h' + 1 + 1 - 1 = h' + 1 by omega, t1, t3]
    · funext k l' b
      simp only [gI_sI, gI_sL]
      have := D.2.2.2.1.2
      by_cases w : k = 12 ∧ l' = 0 ∧ b = 42
      · obtain ⟨rfl, rfl, rfl⟩ := w; simp only [and_self, if_true]; exact this
      · simp only [if_neg w]
    · funext k l' b
      simp only [gL_sI, gL_sL]
      by_cases w : k = 381 ∧ l' = 0 ∧ b = h'
      · rw [if_pos w, if_neg (by omega), if_pos w]
      · rw [if_neg w]
        by_cases w2 : k = 381 ∧ l' = 0 ∧ b = h' + 1
        · rw [if_pos w2, if_pos w2]
        · rw [if_neg w2, if_neg w2, if_neg w]
  · have k : tk 20 = 1 ∧ gv 20 = 0 := ⟨rfl, rfl⟩
    obtain ⟨h', rfl⟩ : ∃ h', h = h' + 1 := ⟨h - 1, by omega⟩
    obtain ⟨i, hi, rfl⟩ := ix_of (h20 (by omega)).1 (show a.toInt < (16 : Nat) by have := (h20 (by omega)).2; omega) (by omega)
    obtain ⟨v, ν1, ξ1, e1, e2, e3, _, D1⟩ := pop_both D
    refine ⟨_, _, ?_, ?_, en_good hz (dy_store (k := i) D1 e3)⟩
    · repeat rw [if_neg (by decide)]
      rw [if_pos (by decide), e1]
      simp only [Option.bind_some, ap]
      rw [gu_nI (by omega) (by omega), nI_clamp (by omega)]
    · repeat rw [if_neg (by decide)]
      rw [if_pos (by decide), e2]
      simp only [Option.bind_some, ap]
      rw [gu_nI (by omega) (by omega), nI_clamp (by omega), hat]
  · have k : tk 21 = 0 ∧ gv 21 = 1 := ⟨rfl, rfl⟩
    obtain ⟨i, hi, rfl⟩ := ix_of (h20 (by omega)).1 (show a.toInt < (16 : Nat) by have := (h20 (by omega)).2; omega) (by omega)
    obtain ⟨t1, t2⟩ := D.2.2.2.2.2.2.2.1 i hi
    obtain ⟨ν', ξ', e1, e2, D'⟩ := push_both (v := gI ν 281 0 i) D (by omega) t2
    refine ⟨ν', ξ', ?_, ?_, en_good hz D'⟩
    · repeat rw [if_neg (by decide)]
      rw [gu_nI (by omega) (by omega), nI_clamp (by omega), e1]; rfl
    · repeat rw [if_neg (by decide)]
      rw [if_pos (by decide), gu_nI (by omega) (by omega), nI_clamp (by omega), t1, e2, hat]; rfl
theorem go_both {μ : Mem} {j p c : Nat} {e : Nat → Nat} {A : Nat} {ν ξ : Mem} {h q z o l at_ : Nat} {a : Int32} (hl : l < 32) (hA : A ≤ 100) (h357 : gI ξ 357 0 l = nI A) (hz : z ≤ A) (hat : nI at_ + 1 = nI z) (ho : (16 ≤ o ∧ o ≤ 19) ∨ o = 30) (ht : tk o ≤ h) (h16 : 16 ≤ o ∧ o ≤ 18 → 0 ≤ a.toInt ∧ a.toInt ≤ A) (h18 : o = 18 → q < 8) (D : DY μ j p c e A ν ξ h q (nI z) 0) :
    ∃ ν' ξ' at', m_Ru_go (nI o) a (nI A) ν = some ν' ∧ mj_Mo_does_93 (nI l) (nI at_) (nI o) a ξ = some (at', ξ') ∧ EN μ j p c e A 0 ν' at' ξ' := by
  have hh := D.2.2.1.1
  have hq := D.2.2.1.2
  unfold m_Ru_go mj_Mo_does_93
  rcases (show o = 16 ∨ o = 17 ∨ o = 18 ∨ o = 19 ∨ o = 30 by omega) with rfl | rfl | rfl | rfl | rfl
  · obtain ⟨i, hi, rfl⟩ := ix_of (h16 (by omega)).1 (show a.toInt < (A + 1 : Nat) by have := (h16 (by omega)).2; omega) (by omega)
    refine ⟨_, _, _, ?_, ?_, en_good (z := i) (by omega) (dy_next (nI i) D)⟩
    · rw [if_pos (by decide)]; rfl
    · repeat rw [if_neg (by decide)]
      rw [if_pos (by decide)]
  · have k : tk 17 = 1 := rfl
    obtain ⟨h', rfl⟩ : ∃ h', h = h' + 1 := ⟨h - 1, by omega⟩
    obtain ⟨i, hi, rfl⟩ := ix_of (h16 (by omega)).1 (show a.toInt < (A + 1 : Nat) by have := (h16 (by omega)).2; omega) (by omega)
    obtain ⟨v, ν1, ξ1, e1, e2, e3, _, D1⟩ := pop_both D
    have v0 : (v.toInt64 = 0) ↔ v = 0 := by
      constructor
      · intro w; have := u_eq.mp w; rw [i64] at this; exact t_eq.mpr this
      · intro w; rw [w]; rfl
    by_cases w : v = 0
    · refine ⟨_, _, _, ?_, ?_, en_good (z := i) (by omega) (dy_next (nI i) D1)⟩
      · rw [if_neg (by decide), if_pos (by decide), e1]
        simp only [Option.bind_some, ap, w, if_true]; rfl
      · repeat rw [if_neg (by decide)]
        rw [if_pos (by decide), e2]
        simp only [Option.bind_some, ap]
        rw [if_pos (v0.mpr w)]
    · refine ⟨_, _, _, ?_, ?_, en_good (z := z) hz D1⟩
      · rw [if_neg (by decide), if_pos (by decide), e1]
        simp only [Option.bind_some, ap, w, if_false]
        unfold mj_Ru_go_27 mj_Ru_go_103
        rw [if_neg (by decide), if_neg (by decide), if_neg (by decide), if_neg (by decide)]
      · repeat rw [if_neg (by decide)]
        rw [if_pos (by decide), e2]
        simp only [Option.bind_some, ap]
        rw [if_neg (fun w2 => w (v0.mp w2)), hat]
  · obtain ⟨i, hi, rfl⟩ := ix_of (h16 (by omega)).1 (show a.toInt < (A + 1 : Nat) by have := (h16 (by omega)).2; omega) (by omega)
    have q8 := h18 rfl
    have n1 : nI q + 1 = nI (q + 1) := nI_add q 1
    refine ⟨_, _, _, ?_, ?_, en_good (z := i) (by omega) (dy_next (nI i) (dy_call (z := z) D q8 hz))⟩
    · rw [if_neg (by decide), if_neg (by decide)]
      unfold mj_Ru_go_27
      rw [if_pos (by decide), D.2.2.2.2.1.1, gu_nI (by omega) (by omega)]
      simp only [ap]
      rw [gI_ne (by omega), D.2.2.2.2.1.1, D.2.2.2.2.2.1.1, n1, nI_clamp (by omega)]
    · repeat rw [if_neg (by decide)]
      rw [if_pos (by decide), D.2.2.2.2.1.2, gu_nI (by omega) (by omega)]
      simp only [ap]
      rw [gI_ne (by omega), D.2.2.2.2.1.2, hat, n1, nI_clamp (by omega)]
  · rcases q with _ | q
    · refine ⟨_, _, _, ?_, ?_, en_good (z := A) (Nat.le_refl A) (dy_next (nI A) D)⟩
      · rw [if_neg (by decide), if_neg (by decide)]
        unfold mj_Ru_go_27
        rw [if_neg (by decide), if_pos (by decide), D.2.2.2.2.1.1, if_pos (show nI 0 ≤ 0 from by decide)]
        unfold mj_Ru_go_103
        rw [if_pos (by decide)]; rfl
      · repeat rw [if_neg (by decide)]
        rw [if_pos (by decide), D.2.2.2.2.1.2, if_pos (show nI 0 = 0 from rfl), gu_nI (by omega) (by omega), nI_clamp (by omega), h357]
    · obtain ⟨s1, i, hi, s2⟩ := D.2.2.2.2.2.2.2.2.1 q (by omega)
      refine ⟨_, _, _, ?_, ?_, en_good (z := i) (by omega) (dy_next (nI i) (dy_ret D))⟩
      · rw [if_neg (by decide), if_neg (by decide)]
        unfold mj_Ru_go_27
        rw [if_neg (by decide), if_pos (by decide), D.2.2.2.2.1.1, if_neg (by rw [show (0 : Int32) = nI 0 from rfl, nle (by omega) (by omega)]; omega), nsub1 (by omega)]
        simp only [ap, gI_self, Nat.add_sub_cancel]
        rw [gu_nI (by omega) (by omega), nI_clamp (by omega), gI_ne (by omega), s2]
      · repeat rw [if_neg (by decide)]
        rw [if_pos (by decide), D.2.2.2.2.1.2, if_neg (by rw [show (0 : Int32) = nI 0 from rfl, neq (by omega) (by omega)]; omega), nsub1 (by omega)]
        simp only [ap, gI_self, Nat.add_sub_cancel]
        rw [gu_nI (by omega) (by omega), nI_clamp (by omega), gI_ne (by omega), s1, s2]
  · refine ⟨_, _, _, ?_, ?_, en_good (z := A) (Nat.le_refl A) (dy_next (nI A) D)⟩
    · rw [if_neg (by decide), if_neg (by decide)]
      unfold mj_Ru_go_27
      rw [if_neg (by decide), if_neg (by decide)]
      unfold mj_Ru_go_103
      rw [if_neg (by decide), if_pos (by decide)]; rfl
    · repeat rw [if_neg (by decide)]
      unfold mj_Mo_does_606
      rw [gu_nI (by omega) (by omega), nI_clamp (by omega), h357]
