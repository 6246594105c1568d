/-- the data of an image's edges, as the class has them -/
def ED (ν : Mem) (j m : Nat) (X Y : Nat → Int32) (nx : Nat → Nat) : Prop := m ≤ 500 ∧ gI ν 7 j 4 = nI m ∧ ∀ k, k < m → nx k < m ∧ gI ν 243 j k = nI (nx k) ∧ gI ν 240 j k = X k ∧ gI ν 241 j k = Y k ∧ bI (X k) (-100000) 100000 ∧ bI (Y k) (-100000) 100000
theorem markRow_lp {ν0 : Mem} {j m : Nat} {X Y : Nat → Int32} {nx : Nat → Nat} {s a3 : Int32} {y : Int64} (E : ED ν0 j m X Y nx) (hs : 4 ≤ s.toInt ∧ s.toInt ≤ 32) (hy : -100000 ≤ y.toInt ∧ y.toInt ≤ 100000) : ∀ f k ν, k ≤ m → m - k < f → MKS ν0 ν X Y nx s.toInt y.toInt k → ∃ ν', lp_Im_markRow_32 j s a3 f y (nI k) ν = some ν' ∧ MKS ν0 ν' X Y nx s.toInt y.toInt m := by
  obtain ⟨hm, h4, hE⟩ := E
  have z1 : ¬ (1 : Int32) = 0 := by decide
  intro f
  induction f with
  | zero => intro k ν h1 h2; omega
  | succ f ih =>
    intro k ν h1 h2 M
    have fr : ∀ k' l b, ¬ (k' = 141 ∧ l = 0 ∧ b ≤ 512) → ¬ (k' = 2 ∧ (b = 2 ∨ b = 3)) → gI ν k' l b = gI ν0 k' l b := by
      obtain ⟨_, _, _, _, _, _, _, _, a7⟩ := M; exact a7
    have k4 : gI ν 7 j 4 = nI m := by rw [fr 7 j 4 (by omega) (by omega)]; exact h4
    by_cases h : m ≤ k
    · refine ⟨ν, by rw [lp_Im_markRow_32, k4, if_pos (by rw [nle (by omega) (by omega)]; exact h)], ?_⟩
      rw [show m = k by omega]; exact M
    · have hk : k < m := by omega
      obtain ⟨e1, e2, e3, e4, e5, e6⟩ := hE k hk
      obtain ⟨g1, g2, g3, g4, g5, g6⟩ := hE (nx k) e1
      have c243 : gI ν 243 j k = nI (nx k) := by rw [fr 243 j k (by omega) (by omega)]; exact e2
      have c240 : ∀ a, a < m → gI ν 240 j a = X a := fun a ha => by rw [fr 240 j a (by omega) (by omega)]; exact (hE a ha).2.2.1
      have c241 : ∀ a, a < m → gI ν 241 j a = Y a := fun a ha => by rw [fr 241 j a (by omega) (by omega)]; exact (hE a ha).2.2.2.1
      have n1 : nI k + 1 = nI (k + 1) := nI_add k 1
      have cmp : ∀ a, a < m → ((y < s.toInt64 * (Y a).toInt64) ↔ ¬ s.toInt * (Y a).toInt ≤ y.toInt) := fun a ha => by
        have b := (hE a ha).2.2.2.2.2
        have mm := mulb (A := 32) (B := 100000) (a := s.toInt) (b := (Y a).toInt) ⟨by omega, hs.2⟩ b
        have : (s.toInt64 * (Y a).toInt64).toInt = s.toInt * (Y a).toInt := by rw [u_mul, i64, i64]; rw [i64, i64]; omega
        rw [u_lt, this]; omega
      have next : ∀ ν', MKS ν0 ν' X Y nx s.toInt y.toInt (k + 1) → ∃ ν'', mj_Im_markRow_153 j s a3 (lp_Im_markRow_32 j s a3 f) y (nI k) ν' = some ν'' ∧ MKS ν0 ν'' X Y nx s.toInt y.toInt m := fun ν' M' => by
        obtain ⟨ν'', r1, r2⟩ := ih (k + 1) ν' (by omega) (by omega) M'
        refine ⟨ν'', ?_, r2⟩
        unfold mj_Im_markRow_153
        rw [ap, n1]; exact r1
      obtain ⟨ν1, d1, d2⟩ := mks_mark M
      -- the head of the step
      have head : lp_Im_markRow_32 j s a3 (f + 1) y (nI k) ν = mj_Im_markRow_96 j s a3 (lp_Im_markRow_32 j s a3 f) y (nI k) (nI (nx k)) (if s.toInt * (Y k).toInt ≤ y.toInt then 1 else 0) (if s.toInt * (Y (nx k)).toInt ≤ y.toInt then 1 else 0) ν := by
        rw [lp_Im_markRow_32, k4, if_neg (by rw [nle (by omega) (by omega)]; exact h), gu_nI (by omega) (by omega), nI_clamp (by omega), c243, ap, gu_nI (by omega) (by omega), c241 k hk]
        have inner : ∀ z0, mj_Im_markRow_72 j s a3 (lp_Im_markRow_32 j s a3 f) y (nI k) (nI (nx k)) z0 ν = mj_Im_markRow_96 j s a3 (lp_Im_markRow_32 j s a3 f) y (nI k) (nI (nx k)) z0 (if s.toInt * (Y (nx k)).toInt ≤ y.toInt then 1 else 0) ν := fun z0 => by
          unfold mj_Im_markRow_72
          rw [gu_nI (by omega) (by omega), nI_clamp (by omega), c241 (nx k) e1]
          by_cases w : s.toInt * (Y (nx k)).toInt ≤ y.toInt
          · rw [if_neg (fun z => ((cmp _ e1).mp z) w), if_pos w]
          · rw [if_pos ((cmp _ e1).mpr w), if_neg w]
        by_cases w : s.toInt * (Y k).toInt ≤ y.toInt
        · rw [if_neg (fun z => ((cmp _ hk).mp z) w), if_pos w, inner]
        · rw [if_pos ((cmp _ hk).mpr w), if_neg w, inner]
      rw [head]
      unfold mj_Im_markRow_96 mj_Im_markRow_127
      by_cases wa : s.toInt * (Y k).toInt ≤ y.toInt
      · rw [if_pos wa, if_neg z1]
        by_cases wb : s.toInt * (Y (nx k)).toInt ≤ y.toInt
        · have hz : drk X Y nx s.toInt y.toInt k = 0 := by unfold drk; rw [if_neg (fun z => z.2 wb), if_neg (fun z => z.2 wa)]
          rw [if_pos wb, if_neg z1, if_neg z1, if_neg z1]
          exact next ν (mks_skip M hz)
        · have hd : drk X Y nx s.toInt y.toInt k = 1 := by unfold drk; rw [if_pos ⟨wa, wb⟩]
          have hn : nk X Y nx s.toInt y.toInt k = cl (smp (X k).toInt (Y k).toInt (X (nx k)).toInt (Y (nx k)).toInt s.toInt y.toInt) := by unfold nk; rw [if_pos wa]
          have rise : (Y k).toInt < (Y (nx k)).toInt := by
            rcases (show (Y k).toInt < (Y (nx k)).toInt ∨ (Y (nx k)).toInt ≤ (Y k).toInt by omega) with q | q
            · exact q
            · have := Int.mul_le_mul_of_nonneg_left q (show 0 ≤ s.toInt by omega); omega
          have sl := left_C (j := j) (lo := k) (hi := nx k) (s := s) (y := y) (ν := ν) (by omega) (by omega) (by rw [c240 k hk]; exact e5) (by rw [c241 k hk]; exact e6) (by rw [c240 _ e1]; exact g5) (by rw [c241 _ e1]; exact g6) hs hy (by rw [c241 k hk, c241 _ e1]; exact rise)
          rw [c240 k hk, c241 k hk, c240 _ e1, c241 _ e1, ← hn] at sl
          rw [hd] at d1
          rw [if_neg wb, if_pos rfl, sl, Option.bind_some, d1, Option.bind_some]
          exact next ν1 d2
      · rw [if_neg wa, if_pos rfl]
        by_cases wb : s.toInt * (Y (nx k)).toInt ≤ y.toInt
        · have hd : drk X Y nx s.toInt y.toInt k = -1 := by unfold drk; rw [if_neg (fun z => wa z.1), if_pos ⟨wb, wa⟩]
          have hn : nk X Y nx s.toInt y.toInt k = cl (smp (X (nx k)).toInt (Y (nx k)).toInt (X k).toInt (Y k).toInt s.toInt y.toInt) := by unfold nk; rw [if_neg wa]
          have rise : (Y (nx k)).toInt < (Y k).toInt := by
            rcases (show (Y (nx k)).toInt < (Y k).toInt ∨ (Y k).toInt ≤ (Y (nx k)).toInt by omega) with q | q
            · exact q
            · have := Int.mul_le_mul_of_nonneg_left q (show 0 ≤ s.toInt by omega); omega
          have sl := left_C (j := j) (lo := nx k) (hi := k) (s := s) (y := y) (ν := ν) (by omega) (by omega) (by rw [c240 _ e1]; exact g5) (by rw [c241 _ e1]; exact g6) (by rw [c240 k hk]; exact e5) (by rw [c241 k hk]; exact e6) hs hy (by rw [c241 k hk, c241 _ e1]; exact rise)
          rw [c240 k hk, c241 k hk, c240 _ e1, c241 _ e1, ← hn] at sl
          rw [hd] at d1
          rw [if_pos wb, if_neg z1, if_pos rfl, sl, Option.bind_some, d1, Option.bind_some]
          exact next ν1 d2
        · have hz : drk X Y nx s.toInt y.toInt k = 0 := by unfold drk; rw [if_neg (fun z => wa z.1), if_neg (fun z => wb z.1)]
          rw [if_neg wb, if_pos rfl]
          exact next ν (mks_skip M hz)
