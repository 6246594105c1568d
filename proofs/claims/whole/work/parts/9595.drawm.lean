theorem drawm_lp {ξ0 : Mem} {m : Nat} {X Y : Nat → Int32} {nx : Nat → Nat} {s rule x1 x2 : Int32} (hm : m ≤ 500) (h27 : gI ξ0 12 0 27 = nI m) (hX : ∀ k, k < m → gI ξ0 368 0 k = X k ∧ gI ξ0 369 0 k = Y k ∧ nx k < m ∧ bI (X k) (-100000) 100000 ∧ bI (Y k) (-100000) 100000) (hnx : ∀ ξ', (∀ k l b, k ≠ 380 → k ≠ 379 → gI ξ' k l b = gI ξ0 k l b) → ∀ k, k < m → m_Mo_next (nI k) ξ' = some (nI (nx k))) (hs : 4 ≤ s.toInt ∧ s.toInt ≤ 32) (hT : ∀ y, ts (fun p => sumI (mk X Y nx s.toInt y p) m) 513 = 0) : ∀ f r ξ, r ≤ 512 → 512 - r < f → (∀ k l b, k ≠ 380 → k ≠ 379 → gI ξ k l b = gI ξ0 k l b) → (∀ q, q < 4096 → gI ξ 379 0 q = nI (PD X Y nx s.toInt rule m q r)) →
    ∃ ξ', (∀ c, lp_Mo_image_94 x1 x2 s rule c f (nI r - 128) ξ = c ξ') ∧ (∀ k l b, k ≠ 380 → k ≠ 379 → gI ξ' k l b = gI ξ0 k l b) ∧ (∀ q, q < 4096 → gI ξ' 379 0 q = nI (PD X Y nx s.toInt rule m q 512)) := by
  intro f
  induction f with
  | zero => intro r ξ h1 h2; omega
  | succ f ih =>
    intro r ξ h1 h2 hf hd
    have av' : (nI r - 128).toInt = (r : Int) - 128 := by
      rw [t_sub, nI_toInt (by omega)]; rfl
      rw [nI_toInt (by omega), show (128 : Int32).toInt = 128 from by decide]; omega
    by_cases h : 512 ≤ r
    · obtain rfl : r = 512 := by omega
      exact ⟨ξ, fun c => by rw [lp_Mo_image_94, if_pos (by decide)], hf, hd⟩
    · have i1 : nI r - 128 + 128 = nI r := by grind
      have i2 : nI r / 8 = nI (r / 8) := ndiv (n := 8) (by omega) (by omega)
      have i3 : (64 : Int32) * nI (r / 8) = nI (64 * (r / 8)) := by rw [show (64 : Int32) = nI 64 from rfl, pk_mul]
      have i4 : nI r - 128 + 1 = nI (r + 1) - 128 := by rw [show nI (r + 1) = nI r + 1 from (nI_add r 1).symm]; grind
      have ha : ((2 * (nI r - 128).toInt64 + 1) * 64 : Int64).toInt = yr r := by
        have e2 : (2 : Int64).toInt = 2 := by decide
        have e1 : (1 : Int64).toInt = 1 := by decide
        have e64 : (64 : Int64).toInt = 64 := by decide
        have p1 : (2 * (nI r - 128).toInt64).toInt = 2 * ((r : Int) - 128) := by rw [u_mul, i64, av', e2]; rw [i64, av', e2]; omega
        have p2 : (2 * (nI r - 128).toInt64 + 1).toInt = 2 * ((r : Int) - 128) + 1 := by rw [u_add, p1, e1]; rw [p1, e1]; omega
        rw [u_mul, p2, e64]
        · unfold yr; omega
        · rw [p2, e64]; omega
      obtain ⟨ξ1, ξ2, r1, r2, r3, r4⟩ := row_M (ξ0 := ξ) (a1 := nI r - 128) (rule := rule) (x1 := x1) (x2 := x2) (x3 := s) (D := 64 * (r / 8)) (y := yr r) hm (by rw [hf 12 0 27 (by omega) (by omega)]; exact h27) (fun k hk => by rw [hf 368 0 k (by omega) (by omega), hf 369 0 k (by omega) (by omega)]; exact hX k hk) (fun ξ' g => hnx ξ' (fun k l b q1 q2 => by rw [g k l b q1]; exact hf k l b q1 q2)) hs (by unfold yr; omega) ha (by omega) (by rw [i1, i2, i3]) (hT (yr r))
      obtain ⟨ξ3, s1, s2⟩ := ih (r + 1) ξ2 (by omega) (by omega) (fun k l b q1 q2 => by rw [r4 k l b q1 (by omega)]; exact hf k l b q1 q2) (fun q hq => by
        rw [r3 q hq, hd q hq, nI_add]; rfl)
      refine ⟨ξ3, fun c => ?_, s2⟩
      rw [lp_Mo_image_94, if_neg (fun z => by have z' := t_le.mp z; rw [av', show (384 : Int32).toInt = 384 from by decide] at z'; omega), r1, Option.bind_some, r2]
      unfold mj_Mo_image_206
      rw [ap, i4]
      exact s1 c
