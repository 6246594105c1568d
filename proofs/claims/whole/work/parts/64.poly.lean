theorem mulb {a b A B : Int} (ha : -A ≤ a ∧ a ≤ A) (hb : -B ≤ b ∧ b ≤ B) : -(A * B) ≤ a * b ∧ a * b ≤ A * B := by
  have h1 : (a * b).natAbs ≤ A.natAbs * B.natAbs := by rw [Int.natAbs_mul]; exact Nat.mul_le_mul (by omega) (by omega)
  have h2 : ((A * B).natAbs : Int) = A * B := by
    have := Int.mul_nonneg (show 0 ≤ A by omega) (show 0 ≤ B by omega)
    omega
  rw [← Int.natAbs_mul] at h1
  omega
/-- the side of c, seen from a to b -/
def sd (μ : Mem) (i a b c : Nat) : Int64 := ((gI μ 240 i b - gI μ 240 i a).toInt64 * (gI μ 241 i c - gI μ 241 i a).toInt64) - ((gI μ 240 i c - gI μ 240 i a).toInt64 * (gI μ 241 i b - gI μ 241 i a).toInt64)
def pp (s t : Int64) : Bool := if s < 0 ∧ 0 < t then true else if 0 < s ∧ t < 0 then true else false
theorem l0 {s : Int64} : (s ≤ 0) = ¬ 0 < s := by apply propext; rw [u_le, u_lt]; omega
theorem l1 {s : Int64} : (0 ≤ s) = ¬ s < 0 := by apply propext; rw [u_le, u_lt]; omega
theorem sideC {μ : Mem} {i a b c : Nat} (ha : a < 500) (hb : b < 500) (hc : c < 500) : m_Po_side i (nI a) (nI b) (nI c) μ = some (sd μ i a b c) := by
  simp (disch := omega) only [m_Po_side, gu_nI, nI_clamp]
  rfl
theorem sideM {μ : Mem} {i f g : Nat} {b : Nat → Nat} (P : PG μ i f g b) {x y z : Nat} (ha : x < f) (hb : y < f) (hc : z < f) : m_Mo_sideOf (nI x) (nI y) (nI z) μ = some (m_Mo_signOf (sd μ i x y z) μ) := by
  obtain ⟨hf, f1, f2, b0, b1, b2, b3, b4⟩ := id P
  obtain ⟨w1, w2, _⟩ := b3 x ha
  obtain ⟨v1, v2, _⟩ := b3 y hb
  obtain ⟨u1, u2, _⟩ := b3 z hc
  simp (disch := omega) only [m_Mo_sideOf, gu_nI, nI_clamp, w1, w2, v1, v2, u1, u2]
  rw [Int64.mul_comm (gI μ 241 i y - gI μ 241 i x).toInt64]
  rfl
theorem partsC {μ : Mem} {i a b c d : Nat} (ha : a < 500) (hb : b < 500) (hc : c < 500) (hd : d < 500) : m_Po_parts i (nI a) (nI b) (nI c) (nI d) μ = some (pp (sd μ i a b c) (sd μ i a b d)) := by
  simp only [m_Po_parts, sideC ha hb hc, sideC ha hb hd, Option.bind_some, mj_Po_parts_33, mj_Po_parts_47, l0, l1, pp]
  have nn : ∀ s : Int64, s < 0 → ¬ 0 < s := by intro s h; rw [u_lt] at *; omega
  by_cases h1 : sd μ i a b c < 0 <;> by_cases h2 : 0 < sd μ i a b d <;> by_cases h3 : 0 < sd μ i a b c <;> by_cases h4 : sd μ i a b d < 0 <;> simp only [h1, h2, h3, h4, not_true, not_false_eq_true, and_self, and_true, and_false, false_and, true_and, if_true, if_false]
  all_goals first | rfl | exact absurd h3 (nn _ h1) | exact absurd h2 (nn _ h4)
theorem signs {s t : Int64} {μ : Mem} : (0 ≤ m_Mo_signOf s μ * m_Mo_signOf t μ) = ¬ pp s t = true := by
  simp only [m_Mo_signOf, l0, l1, pp]
  have nn : ∀ s : Int64, s < 0 → ¬ 0 < s := by intro s h; rw [u_lt] at *; omega
  by_cases h1 : s < 0 <;> by_cases h2 : 0 < t <;> by_cases h3 : 0 < s <;> by_cases h4 : t < 0 <;> simp only [h1, h2, h3, h4, not_true, not_false_eq_true, and_self, and_true, and_false, false_and, true_and, if_true, if_false]
  all_goals first | exact absurd h3 (nn _ h1) | exact absurd h2 (nn _ h4) | decide
theorem cr_in {μ : Mem} {i f g : Nat} {b : Nat → Nat} (P : PG μ i f g b) {K K' : Int32 → Int32 → Option Int32} {a : Nat} (ha : a < f) (hK : ∀ y, ∃ r, K y (nI a) = some r ∧ K' y (nI a) = some r) : ∀ F k y, k ≤ f → f - k < F → ∃ r, lp_Po_crossingPairs_16 i μ K F y (nI a) (nI k) = some r ∧ lp_Mo_crossings_16 μ K' F y (nI a) (nI k) = some r := by
  obtain ⟨hf, f1, f2, b0, b1, b2, b3, b4⟩ := id P
  intro F
  induction F with
  | zero => intro k s h1 h2; omega
  | succ F ih =>
    intro k y h1 h2
    by_cases q : f ≤ k
    · obtain ⟨r, r1, r2⟩ := hK y
      refine ⟨r, ?_, ?_⟩
      · simp (disch := omega) only [lp_Po_crossingPairs_16, f1, nle, q, if_true, r1]
      · simp (disch := omega) only [lp_Mo_crossings_16, f2, nle, q, if_true, r2]
    · obtain ⟨na, hna, n1, n2⟩ := pg_next P ha
      obtain ⟨nk, hnk, m1, m2⟩ := pg_next P (k := k) (by omega)
      have a1 : nI k + 1 = nI (k + 1) := nI_add k 1
      have hk : k < f := by omega
      simp (disch := omega) only [lp_Po_crossingPairs_16, lp_Mo_crossings_16, f1, f2, nle, q, if_false, gu_nI, nI_clamp, n1, n2, m1, m2, Option.bind_some, partsC, sideM P, hk, ha, hna, hnk, signs, mj_Po_crossingPairs_69, mj_Mo_crossings_83, ap, a1]
      by_cases q1 : pp (sd μ i a na k) (sd μ i a na nk) = true
      · by_cases q2 : pp (sd μ i k nk a) (sd μ i k nk na) = true
        · simp only [q1, q2, not_true, if_true, if_false]
          exact ih (k + 1) _ (by omega) (by omega)
        · simp only [q1, q2, not_true, not_false_eq_true, if_true, if_false]
          exact ih (k + 1) _ (by omega) (by omega)
      · simp only [q1, not_false_eq_true, if_true, if_false]
        exact ih (k + 1) _ (by omega) (by omega)
theorem cr_out {μ : Mem} {i f g : Nat} {b : Nat → Nat} (P : PG μ i f g b) : ∀ F k y, k ≤ f → f - k < F → ∃ r, lp_Po_crossingPairs_4 i μ F y (nI k) = some r ∧ lp_Mo_crossings_4 μ F y (nI k) = some r := by
  obtain ⟨hf, f1, f2, b0, b1, b2, b3, b4⟩ := id P
  intro F
  induction F with
  | zero => intro k s h1 h2; omega
  | succ F ih =>
    intro k y h1 h2
    have a1 : nI k + 1 = nI (k + 1) := nI_add k 1
    by_cases q : f ≤ k
    · refine ⟨y, ?_, ?_⟩
      · simp (disch := omega) only [lp_Po_crossingPairs_4, f1, nle, q, if_true]
      · simp (disch := omega) only [lp_Mo_crossings_4, f2, nle, q, if_true]
    · simp (disch := omega) only [lp_Po_crossingPairs_4, lp_Mo_crossings_4, f1, f2, nle, q, if_false, ap, a1]
      refine cr_in P (by omega) (fun y' => ?_) FU (k + 1) y (by omega) (by unfold FU; omega)
      simp only [mj_Po_crossingPairs_75, mj_Mo_crossings_89, ap, a1]
      exact ih (k + 1) y' (by omega) (by omega)
theorem op_crossings {μ : Mem} {n : Nat} (I : InvN n μ) : ∃ r, m_Fo_crossings μ = some r ∧ m_Mo_crossings μ = some r := by
  obtain ⟨i, j, f, g, bb, hij, g1, g2, P⟩ := I.2.2.2.2.2.2.2.2.2.2.2.1
  obtain ⟨r, r1, r2⟩ := cr_out P FU 0 0 (by omega) (by have := P.1; unfold FU; omega)
  have r1' : lp_Po_crossingPairs_4 i μ FU 0 0 = some r := r1
  exact ⟨r, by simp only [m_Fo_crossings, ap, g1, Option.bind_some, m_Po_crossingPairs, r1'], r2⟩
/-- the side of a place, sixteenths -/
def sw (μ : Mem) (i a b : Nat) (x y : Int32) : Int64 := ((gI μ 240 i b - gI μ 240 i a).toInt64 * (y.toInt64 - 16 * (gI μ 241 i a).toInt64)) - ((x.toInt64 - 16 * (gI μ 240 i a).toInt64) * (gI μ 241 i b - gI μ 241 i a).toInt64)
theorem ext_sub {a b : Int32} (ha : bI a (-100000) 100000) (hb : bI b (-100000) 100000) : (a - b).toInt64 = a.toInt64 - b.toInt64 := by
  obtain ⟨h1, h2⟩ := ha
  obtain ⟨h3, h4⟩ := hb
  rw [u_eq, i64, t_sub (by omega), u_sub (by rw [i64, i64]; omega), i64, i64]
theorem sw_b {μ : Mem} {i f g : Nat} {b : Nat → Nat} (P : PG μ i f g b) {a c : Nat} (ha : a < f) (hc : c < f) {x y : Int32} (hx : -2000000 ≤ x.toInt ∧ x.toInt ≤ 2000000) (hy : -2000000 ≤ y.toInt ∧ y.toInt ≤ 2000000) : (16 * (sw μ i a c x y)).toInt = 16 * (sw μ i a c x y).toInt := by
  obtain ⟨hf, f1, f2, b0, b1, b2, b3, b4⟩ := id P
  obtain ⟨_, _, _, ⟨w1, w2⟩, ⟨w3, w4⟩⟩ := b3 a ha
  obtain ⟨_, _, _, ⟨v1, v2⟩, ⟨v3, v4⟩⟩ := b3 c hc
  have s16 : ∀ z : Int32, -100000 ≤ z.toInt → z.toInt ≤ 100000 → (16 * z.toInt64 : Int64).toInt = 16 * z.toInt := by
    intro z h1 h2
    rw [u_mul] <;> rw [i64, show (16 : Int64).toInt = 16 from rfl]; omega
  have d1 : (gI μ 240 i c - gI μ 240 i a).toInt64.toInt = (gI μ 240 i c).toInt - (gI μ 240 i a).toInt := by rw [i64, t_sub (by omega)]
  have d2 : (gI μ 241 i c - gI μ 241 i a).toInt64.toInt = (gI μ 241 i c).toInt - (gI μ 241 i a).toInt := by rw [i64, t_sub (by omega)]
  have d3 : (y.toInt64 - 16 * (gI μ 241 i a).toInt64).toInt = y.toInt - 16 * (gI μ 241 i a).toInt := by
    rw [u_sub] <;> rw [i64, s16 _ w3 w4]; omega
  have d4 : (x.toInt64 - 16 * (gI μ 240 i a).toInt64).toInt = x.toInt - 16 * (gI μ 240 i a).toInt := by
    rw [u_sub] <;> rw [i64, s16 _ w1 w2]; omega
  have m1 := mulb (a := (gI μ 240 i c).toInt - (gI μ 240 i a).toInt) (b := y.toInt - 16 * (gI μ 241 i a).toInt) (A := 200000) (B := 3600000) (by omega) (by omega)
  have m2 := mulb (a := x.toInt - 16 * (gI μ 240 i a).toInt) (b := (gI μ 241 i c).toInt - (gI μ 241 i a).toInt) (A := 3600000) (B := 200000) (by omega) (by omega)
  have p1 : ((gI μ 240 i c - gI μ 240 i a).toInt64 * (y.toInt64 - 16 * (gI μ 241 i a).toInt64)).toInt = ((gI μ 240 i c).toInt - (gI μ 240 i a).toInt) * (y.toInt - 16 * (gI μ 241 i a).toInt) := by
    rw [u_mul] <;> rw [d1, d3]; omega
  have p2 : ((x.toInt64 - 16 * (gI μ 240 i a).toInt64) * (gI μ 241 i c - gI μ 241 i a).toInt64).toInt = (x.toInt - 16 * (gI μ 240 i a).toInt) * ((gI μ 241 i c).toInt - (gI μ 241 i a).toInt) := by
    rw [u_mul] <;> rw [d2, d4]; omega
  have p3 : (sw μ i a c x y).toInt = ((gI μ 240 i c).toInt - (gI μ 240 i a).toInt) * (y.toInt - 16 * (gI μ 241 i a).toInt) - (x.toInt - 16 * (gI μ 240 i a).toInt) * ((gI μ 241 i c).toInt - (gI μ 241 i a).toInt) := by
    unfold sw
    rw [u_sub] <;> rw [p1, p2]; omega
  rw [u_mul] <;> rw [p3, show (16 : Int64).toInt = 16 from rfl]; omega
theorem wi_both {μ : Mem} {i f g : Nat} {b : Nat → Nat} (P : PG μ i f g b) {x y : Int32} (hx : -2000000 ≤ x.toInt ∧ x.toInt ≤ 2000000) (hy : -2000000 ≤ y.toInt ∧ y.toInt ≤ 2000000) : ∀ F k t, k ≤ f → f - k < F → ∃ r, lp_Po_turnsAround_5 i x y μ F t (nI k) = some r ∧ lp_Mo_winding_35 x y μ F t (nI k) = some r := by
  obtain ⟨hf, f1, f2, b0, b1, b2, b3, b4⟩ := id P
  intro F
  induction F with
  | zero => intro k s h1 h2; omega
  | succ F ih =>
    intro k t h1 h2
    by_cases q : f ≤ k
    · refine ⟨t, ?_, ?_⟩
      · simp (disch := omega) only [lp_Po_turnsAround_5, f1, nle, q, if_true]
      · simp (disch := omega) only [lp_Mo_winding_35, f2, nle, q, if_true]
    · obtain ⟨nk, hnk, m1, m2⟩ := pg_next P (k := k) (by omega)
      have a1 : nI k + 1 = nI (k + 1) := nI_add k 1
      have hk : k < f := by omega
      obtain ⟨w1, w2, _, w3, w4⟩ := b3 k hk
      obtain ⟨v1, v2, _, v3, v4⟩ := b3 nk hnk
      have key := sw_b P hk hnk hx hy
      have e16 : ((16 * (gI μ 240 i nk).toInt64 - 16 * (gI μ 240 i k).toInt64) * (y.toInt64 - 16 * (gI μ 241 i k).toInt64) - (x.toInt64 - 16 * (gI μ 240 i k).toInt64) * (16 * (gI μ 241 i nk).toInt64 - 16 * (gI μ 241 i k).toInt64) : Int64) = 16 * sw μ i k nk x y := by
        unfold sw
        rw [ext_sub v3 w3, ext_sub v4 w4]
        grind
      simp (disch := omega) only [lp_Po_turnsAround_5, lp_Mo_winding_35, f1, f2, nle, q, if_false, gu_nI, nI_clamp, m1, m2, Option.bind_some, ap, w1, w2, v1, v2, mj_Po_turnsAround_139, mj_Po_turnsAround_185, mj_Mo_winding_159, mj_Mo_winding_185, a1, e16]
      have c1 : (16 * sw μ i k nk x y ≤ 0) = (sw μ i k nk x y ≤ 0) := by apply propext; rw [u_le, u_le, key, show (0 : Int64).toInt = 0 from rfl]; omega
      have c2 : ((0 : Int64) ≤ 16 * sw μ i k nk x y) = (0 ≤ sw μ i k nk x y) := by apply propext; rw [u_le, u_le, key, show (0 : Int64).toInt = 0 from rfl]; omega
      have sw' : ((gI μ 240 i nk - gI μ 240 i k).toInt64 * (y.toInt64 - 16 * (gI μ 241 i k).toInt64)) - ((x.toInt64 - 16 * (gI μ 240 i k).toInt64) * (gI μ 241 i nk - gI μ 241 i k).toInt64) = sw μ i k nk x y := rfl
      simp only [sw', c1, c2]
      by_cases g1 : y.toInt64 < 16 * (gI μ 241 i k).toInt64
      · simp only [if_pos g1]
        by_cases g2 : y.toInt64 < 16 * (gI μ 241 i nk).toInt64
        · simp only [if_pos g2]; exact ih (k + 1) _ (by omega) (by omega)
        · simp only [if_neg g2]
          have g3 : ¬ 16 * (gI μ 241 i k).toInt64 ≤ y.toInt64 := by rw [u_lt] at g1; rw [u_le]; omega
          simp only [if_neg g3]
          by_cases g4 : 0 ≤ sw μ i k nk x y
          · simp only [if_pos g4]; exact ih (k + 1) _ (by omega) (by omega)
          · simp only [if_neg g4]; exact ih (k + 1) _ (by omega) (by omega)
      · simp only [if_neg g1]
        have g1' : 16 * (gI μ 241 i k).toInt64 ≤ y.toInt64 := by rw [u_lt] at g1; rw [u_le]; omega
        simp only [if_pos g1', ite_self]
        by_cases g2 : 16 * (gI μ 241 i nk).toInt64 ≤ y.toInt64
        · simp only [if_pos g2]; exact ih (k + 1) _ (by omega) (by omega)
        · simp only [if_neg g2]
          by_cases g4 : sw μ i k nk x y ≤ 0
          · simp only [if_pos g4]; exact ih (k + 1) _ (by omega) (by omega)
          · simp only [if_neg g4]; exact ih (k + 1) _ (by omega) (by omega)
theorem op_winding {μ : Mem} {n : Nat} (I : InvN n μ) (a b : Int32) : ∃ r, m_Fo_winding a b μ = some r ∧ m_Mo_winding a b μ = some r := by
  obtain ⟨i, j, f, g, bb, hij, g1, g2, P⟩ := I.2.2.2.2.2.2.2.2.2.2.2.1
  unfold m_Fo_winding m_Mo_winding
  rw [sel3 (x := b) (lo := -2000000) (hi := 2000000) (a := -2000000) (b := 2000000) rfl rfl, sel2 (x := a) (lo := -2000000) (hi := 2000000) (a := -2000000) (b := 2000000) rfl rfl, rg_Fo, rg_Fo]
  simp only [decide_eq_true_eq, show (-2000000 : Int64).toInt = -2000000 from rfl, show (2000000 : Int64).toInt = 2000000 from rfl]
  by_cases h1 : -2000000 ≤ a.toInt ∧ a.toInt ≤ 2000000
  · by_cases h2 : -2000000 ≤ b.toInt ∧ b.toInt ≤ 2000000
    · rw [if_pos h1, if_pos h2, if_pos h1, if_pos h2]
      obtain ⟨r, r1, r2⟩ := wi_both P h1 h2 FU 0 0 (by omega) (by have := P.1; unfold FU; omega)
      have r1' : lp_Po_turnsAround_5 i a b μ FU 0 0 = some r := r1
      exact ⟨r, by simp only [ap, g1, Option.bind_some, m_Po_turnsAround, r1'], r2⟩
    · rw [if_pos h1, if_neg h2, if_pos h1, if_neg h2]; exact ⟨_, rfl, rfl⟩
  · rw [if_neg h1, if_neg h1]; exact ⟨_, rfl, rfl⟩
