theorem walk_both {μ : Mem} {n i : Nat} {t a1 : Int32} {pc : Nat → Nat} {tg : Nat → Nat → Nat} {dp : Nat → Nat} (h32 : n ≤ 32) (ht : 1 ≤ t.toInt ∧ t.toInt ≤ 256) (hSh : ∀ l, l < n → LSh μ l) (T : TR μ n pc tg dp) (hPS : ∀ l, l < n → PS μ n l (pc l) (tg l)) :
    ∀ D l y pq ν ξ m w g b, l < n → dp l ≤ D → y + dp l ≤ 4 → PA μ pq y ν ξ → ST μ i t ν ξ → gI ξ 360 0 y = nI l → gI ξ 361 0 y = 0 → FR i ν ξ m w m g 1 b → ∃ ν' ξ' m' w' g' fl' b' N, (∀ f, m_Fl_addLetter (f + dp l + 1) l (nI y) i ν = some ν') ∧ FR i ν' ξ' m' w' m' g' fl' b' ∧ TC i y ν ν' ∧ TM y ξ ξ' ∧ N ≤ cd (dp l) ∧ EW a1 t y ξ ξ' fl' N := by
  have z1 : ¬ (1 : Int32) = 0 := by decide
  have leaf : ∀ D l y pq ν ξ m w g b, l < n → dp l ≤ D → y + dp l ≤ 4 → pc l = 0 → PA μ pq y ν ξ → ST μ i t ν ξ → gI ξ 360 0 y = nI l → gI ξ 361 0 y = 0 → FR i ν ξ m w m g 1 b → ∃ ν' ξ' m' w' g' fl' b' N, (∀ f, m_Fl_addLetter (f + dp l + 1) l (nI y) i ν = some ν') ∧ FR i ν' ξ' m' w' m' g' fl' b' ∧ TC i y ν ν' ∧ TM y ξ ξ' ∧ N ≤ cd (dp l) ∧ EW a1 t y ξ ξ' fl' N := by
    intro D l y pq ν ξ m w g b hl hD hy hpc P S h360 h361 R
    obtain ⟨c, p, e, hSF, hPT, hLC⟩ := hSh l hl
    obtain ⟨p1, p2, p3, p4, p5⟩ := hPS l hl
    have c8 := hSF.1
    have dm : 1 ≤ cd (dp l) := cd_mono (a := 0) (by omega)
    obtain ⟨ν1, ξ1, m1, w1, g1, fl1, b1, r1, r2, r3, r4, r5⟩ := outs_both (a1 := a1) (show l < 32 by omega) ht hSF hPT hLC FU 0 ν ξ m w g 1 b (by omega) (by unfold FU; omega) P S R
    have k5 : gI ν1 4 l 5 = nI 0 := by rw [r4.1 4 l 5 (by omega) (by omega) (by omega), S.1 4 l 5 (by omega) (by omega) (by omega), p2, hpc]
    have k352 : gI ξ 352 0 l = nI 0 := by rw [S.2.2.2 352 (by decide), p3, hpc]
    have k352' : gI ξ1 352 0 l = nI 0 := by rw [r5 352 0 l (by omega) (by omega) (by omega)]; exact k352
    have k361 : gI ξ1 361 0 y = 0 := by rw [r5 361 0 y (by omega) (by omega) (by omega)]; exact h361
    have n2 : nI y + -1 = nI y - 1 := by grind
    have step : ∀ cc f, lp_Mo_flattens_36 a1 t cc (f + 1) (nI y) ξ = lp_Mo_flattens_36 a1 t cc f (nI y - 1) ξ1 := fun cc f => by
      rw [lp_Mo_flattens_36, if_neg (by rw [show (0 : Int32) = nI 0 from rfl, nlt (by omega) (by omega)]; omega), R.2.2.1.2, if_neg z1, gu_nI (by omega) (by omega), nI_clamp (by omega), h360, ap, gu_nI (by omega) (by omega), nI_clamp (by omega), k352, if_pos (show nI 0 = 0 from rfl)]
      have := r2 (mj_Mo_flattens_103 a1 t (lp_Mo_flattens_36 a1 t cc f))
      rw [show nI 0 = (0 : Int32) from rfl] at this
      rw [this]
      unfold mj_Mo_flattens_103
      rw [gu_nI (by omega) (by omega), gu_nI (by omega) (by omega), nI_clamp (by omega), nI_clamp (by omega), k361, k352', if_pos (show (0 : Int32) = nI 0 from rfl), n2, ap]
    refine ⟨ν1, ξ1, m1, w1, g1, fl1, b1, 1, fun f => ?_, r3, tc_hc r4, tm_hm r5, dm, ?_⟩
    · rw [m_Fl_addLetter, ap]
      have := r1 (f + dp l) (m_Fl_addLetter (f + dp l)) (mj_Fl_addLetter_40 (f + dp l) (m_Fl_addLetter (f + dp l)) l (nI y) i)
      rw [show nI 0 = (0 : Int32) from rfl] at this
      rw [this]
      unfold mj_Fl_addLetter_40
      by_cases q : nI y < 4
      · rw [if_pos q]
        have ex : ∀ F, lp_Fl_addLetter_49 (f + dp l) (m_Fl_addLetter (f + dp l)) l (nI y) i (F + 1) (nI 0) ν1 = some ν1 := fun F => by
          rw [lp_Fl_addLetter_49, k5, if_pos (by decide)]
        exact ex 99999
      · rw [if_neg q]
    · rcases fl01 r3 with q | q
      · exact Or.inr ⟨q, fun cc f => by rw [step]; exact stop36 (by rw [r3.2.2.1.2, q])⟩
      · exact Or.inl ⟨q, fun cc f => step cc f⟩
  intro D
  induction D with
  | zero =>
    intro l y pq ν ξ m w g b hl hD hy P S h360 h361 R
    have hpc : pc l = 0 := by
      obtain ⟨t1, t2, t3, t4, t5, t6, t7⟩ := T l hl
      rcases Nat.eq_zero_or_pos (pc l) with q | q
      · exact q
      · obtain ⟨k, _, e⟩ := t7 q; omega
    exact leaf 0 l y pq ν ξ m w g b hl hD hy hpc P S h360 h361 R
  | succ D ih =>
    intro l y pq ν ξ m w g b hl hD hy P S h360 h361 R
    by_cases hpc : pc l = 0
    · exact leaf (D + 1) l y pq ν ξ m w g b hl hD hy hpc P S h360 h361 R
    obtain ⟨c, p, e, hSF, hPT, hLC⟩ := hSh l hl
    obtain ⟨p1, p2, p3, p4, p5⟩ := hPS l hl
    obtain ⟨k', _, e'⟩ := (T l hl).2.2.2.2.2.2 (by omega)
    obtain ⟨D', hD'⟩ : ∃ D', dp l = D' + 1 := ⟨dp l - 1, by omega⟩
    have c0 : gI ν 10 l 6 = 0 := by rw [S.1 10 l 6 (by omega) (by omega) (by omega)]; exact (p4 (by omega)).1
    obtain ⟨ν1, ξ1, m1, w1, g1, fl1, b1, N, r1, r2, r3, r4, r5, r6⟩ := parts_both (a1 := a1) (pq := pq) (D := D') h32 T hPS hl hD' hy
      (fun l' pq' ν' ξ' m' w' g' b' q1 q2 q3 q4 q5 q6 q7 q8 => by
        obtain ⟨x1, x2, x3, x4, x5, x6, x7, N', y1, y2, y3, y4, y5, y6⟩ := ih l' (y + 1) pq' ν' ξ' m' w' g' b' q1 (by omega) q3 q4 q5 q6 q7 q8
        exact ⟨x1, x2, x3, x4, x5, x6, x7, N', y1, y2, y3, y4, Nat.le_trans y5 (cd_mono q2), y6⟩)
      (pc l) 0 ν ξ m w g 1 b (by omega) P S h360 h361 R
    refine ⟨ν1, ξ1, m1, w1, g1, fl1, b1, N, fun f => ?_, r2, r3, r4, ?_, r6⟩
    · rw [m_Fl_addLetter, ap]
      have ex : ∀ F cc, lp_Fl_addLetter_3 (f + dp l) (m_Fl_addLetter (f + dp l)) l (nI y) i cc (F + 1) (nI 0) ν = cc ν := fun F cc => by
        rw [lp_Fl_addLetter_3, c0, if_pos (by decide)]
      obtain ⟨F, hF⟩ : ∃ F, FU = F + pc l + 1 := ⟨FU - pc l - 1, by unfold FU; omega⟩
      have e1 := ex 99999 (mj_Fl_addLetter_40 (f + dp l) (m_Fl_addLetter (f + dp l)) l (nI y) i)
      refine Eq.trans e1 ?_
      unfold mj_Fl_addLetter_40
      rw [if_pos (by rw [show (4 : Int32) = nI 4 from rfl, nlt (by omega) (by omega)]; omega), hF, show (0 : Int32) = nI 0 from rfl]
      exact r1 f F (f + dp l)
    · rw [hD']
      show N ≤ 1 + 6 * (1 + cd D')
      have : pc l * (1 + cd D') ≤ 6 * (1 + cd D') := Nat.mul_le_mul_right _ p1
      omega
