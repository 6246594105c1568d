theorem sum_split {X Y : Nat → Int32} {nx : Nat → Nat} {s y : Int} : ∀ m, sumI (fun k => if nk X Y nx s y k = 0 then 0 else drk X Y nx s y k) m + sumI (mk X Y nx s y 0) m = sumI (drk X Y nx s y) m := by
  intro m
  induction m with
  | zero => rfl
  | succ m ih =>
    show (sumI (fun k => if nk X Y nx s y k = 0 then 0 else drk X Y nx s y k) m + (if nk X Y nx s y m = 0 then 0 else drk X Y nx s y m)) + (sumI (mk X Y nx s y 0) m + mk X Y nx s y 0 m) = sumI (drk X Y nx s y) m + drk X Y nx s y m
    rw [← ih]
    unfold mk
    by_cases w : nk X Y nx s y m = 0
    · rw [if_pos w, if_pos w]; grind
    · rw [if_neg w, if_neg w]; grind
/-- one row of the picture: what the model does -/
theorem row_M {ξ0 : Mem} {m D : Nat} {X Y : Nat → Int32} {nx : Nat → Nat} {a1 s rule x1 x2 x3 : Int32} {y : Int} (hm : m ≤ 500) (h27 : gI ξ0 12 0 27 = nI m) (hX : ∀ k, k < m → gI ξ0 368 0 k = X k ∧ gI ξ0 369 0 k = Y k ∧ nx k < m ∧ bI (X k) (-100000) 100000 ∧ bI (Y k) (-100000) 100000) (hnx : ∀ ξ', (∀ k l b, k ≠ 380 → gI ξ' k l b = gI ξ0 k l b) → ∀ k, k < m → m_Mo_next (nI k) ξ' = some (nI (nx k))) (hs : 4 ≤ s.toInt ∧ s.toInt ≤ 32) (hy : -100000 ≤ y ∧ y ≤ 100000) (ha : ((2 * a1.toInt64 + 1) * 64 : Int64).toInt = y) (hD : D + 63 < 4096) (h5 : 64 * ((a1 + 128) / 8) = nI D) (hT : ts (fun p => sumI (mk X Y nx s.toInt y p) m) 513 = 0) :
    ∃ ξ1 ξ2, m_Mo_steps a1 s ξ0 = some ξ1 ∧ (∀ cc, lp_Mo_image_115 x1 x2 x3 rule cc FU a1 0 0 ξ1 = cc a1 ξ2) ∧ (∀ q, q < 4096 → gI ξ2 379 0 q = gI ξ0 379 0 q + nI (CF (fun c => fil rule (ts (fun p => sumI (mk X Y nx s.toInt y p) m) (512 - c))) D q 512)) ∧ (∀ k l b, k ≠ 380 → ¬ (k = 379 ∧ l = 0 ∧ b < 4096) → gI ξ2 k l b = gI ξ0 k l b) := by
  obtain ⟨ξ1, e1, M1, M2, M3⟩ := steps_M hm h27 hX hnx hs hy ha
  have z : sumI (drk X Y nx s.toInt y) m = 0 := by rw [← ts_sum]; exact hT
  have s0 : gI ξ1 380 0 0 = -sumI (mk X Y nx s.toInt y 0) m := by
    have := sum_split (X := X) (Y := Y) (nx := nx) (s := s.toInt) (y := y) m
    rw [z, ← M2] at this
    grind
  obtain ⟨ξ2, r1, r2, r3⟩ := count_M (M := fun p => sumI (mk X Y nx s.toInt y p) m) (a1 := x1) (a2 := x2) (a3 := x3) (rule := rule) (base := fun q => gI ξ0 379 0 q) rfl hD h5 FU 0 ξ1 (by omega) (by unfold FU; omega) (fun p hp => by
    rcases Nat.eq_zero_or_pos p with rfl | q
    · exact s0
    · exact M1 p q hp) (fun q hq => by rw [M3 379 0 q (by omega)]; show _ = gI ξ0 379 0 q + 0; rw [Int32.add_zero])
  refine ⟨ξ1, ξ2, e1, fun cc => ?_, r2, fun k l b q1 q2 => by rw [r3 k l b q2, M3 k l b q1]⟩
  have := r1 cc
  rw [show 513 - 0 = 513 from rfl, hT, show nI 0 = (0 : Int32) from rfl] at this
  exact this
