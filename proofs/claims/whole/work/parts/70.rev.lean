def tr2 (i j x : Nat) : Nat := if x = i then j else if x = j then i else x
def swp (μ : Mem) (k q i j : Nat) : Mem := sI (sI μ k q i (gI μ k q j)) k q j (gI μ k q i)
theorem swp_get {μ : Mem} {k q i j : Nat} (k' q' x : Nat) : gI (swp μ k q i j) k' q' x = gI μ k' q' (if k' = k ∧ q' = q then tr2 i j x else x) := by
  unfold swp tr2
  rw [gI_sI, gI_sI]
  by_cases h : k' = k ∧ q' = q
  · obtain ⟨rfl, rfl⟩ := h
    by_cases h1 : x = j
    · by_cases h2 : x = i
      · simp only [h1, and_self, if_true]; rw [← h1, h2, if_pos rfl]
      · simp only [h1, and_self, if_true]; rw [if_neg (by omega)]
    · by_cases h2 : x = i
      · simp only [h2, and_self, if_true]; rw [if_neg (by omega)]
      · rw [if_neg (by omega), if_neg (by omega), if_pos ⟨rfl, rfl⟩, if_neg h2, if_neg h1]
  · rw [if_neg (by omega), if_neg (by omega), if_neg h]
theorem swp_C {μ : Mem} {k q i j m z : Nat} (hi : i < m) (hj : j < m) (hm : m < 100000) : m_Sh_swap k q m z (nI i) (nI j) μ = some (swp μ k q i j) := by
  simp (disch := omega) only [m_Sh_swap, gu_nI, nI_clamp, ap, swp]
theorem swp_M {μ : Mem} {k q i j m z : Nat} (hi : i < m) (hj : j < m) (hm : m < 100000) : m_Mo_swap k q m z (nI i) (nI j) μ = some (swp μ k q i j) := by
  simp (disch := omega) only [m_Mo_swap, gu_nI, nI_clamp, ap, swp]
def IC (l k q : Nat) : Prop := ((k = 300 ∨ k = 301 ∨ k = 302) ∧ q = l) ∨ ((k = 703 ∨ k = 704) ∧ q / 3 = l)
def EX (μ : Mem) (l i j : Nat) : Mem := swp (swp (swp (swp (swp (swp (swp (swp (swp μ 300 l i j) 301 l i j) 302 l i j) 703 (3 * l) i j) 704 (3 * l) i j) 703 (3 * l + 1) i j) 704 (3 * l + 1) i j) 703 (3 * l + 2) i j) 704 (3 * l + 2) i j
theorem EX_in {μ : Mem} {l i j k q : Nat} (h : IC l k q) (x : Nat) : gI (EX μ l i j) k q x = gI μ k q (tr2 i j x) := by
  unfold EX
  simp only [swp_get]
  unfold IC at h
  rcases h with ⟨rfl | rfl | rfl, rfl⟩ | ⟨rfl | rfl, h⟩
  · simp
  · simp
  · simp
  · rcases (show q = 3 * l ∨ q = 3 * l + 1 ∨ q = 3 * l + 2 by omega) with rfl | rfl | rfl <;> simp
  · rcases (show q = 3 * l ∨ q = 3 * l + 1 ∨ q = 3 * l + 2 by omega) with rfl | rfl | rfl <;> simp
theorem EX_out {μ : Mem} {l i j k q : Nat} (h : ¬ IC l k q) (x : Nat) : gI (EX μ l i j) k q x = gI μ k q x := by
  unfold EX
  simp only [swp_get]
  unfold IC at h
  rw [if_neg (by omega), if_neg (by omega), if_neg (by omega), if_neg (by omega), if_neg (by omega), if_neg (by omega), if_neg (by omega), if_neg (by omega), if_neg (by omega)]
theorem ex_C {μ : Mem} {l i j : Nat} (hi : i < 100) (hj : j < 100) : m_Sh_exchange l (nI i) (nI j) μ = some (EX μ l i j) := by
  have c0 : (0 : Int32).toNatClampNeg = 0 := rfl
  have c1 : (1 : Int32).toNatClampNeg = 1 := rfl
  have c2 : (2 : Int32).toNatClampNeg = 2 := rfl
  have a0 : (0 : Int32) + 1 = 1 := rfl
  have a1 : (1 : Int32) + 1 = 2 := rfl
  have a2 : (2 : Int32) + 1 = 3 := rfl
  have d0 : ¬ (3 : Int32) ≤ 0 := by decide
  have d1 : ¬ (3 : Int32) ≤ 1 := by decide
  have d2 : ¬ (3 : Int32) ≤ 2 := by decide
  have d3 : (3 : Int32) ≤ 3 := by decide
  have g0 : ∀ x : Option Mem, gu (0 : Int32) 3 x = x := fun x => gu_nI (l := 0) (by omega) (by omega)
  have g1 : ∀ x : Option Mem, gu (1 : Int32) 3 x = x := fun x => gu_nI (l := 1) (by omega) (by omega)
  have g2 : ∀ x : Option Mem, gu (2 : Int32) 3 x = x := fun x => gu_nI (l := 2) (by omega) (by omega)
  have r : ∀ f ν, lp_Sh_exchange_29 l (nI i) (nI j) (f + 1 + 1 + 1 + 1) 0 ν = some (swp (swp (swp (swp (swp (swp ν 703 (3 * l) i j) 704 (3 * l) i j) 703 (3 * l + 1) i j) 704 (3 * l + 1) i j) 703 (3 * l + 2) i j) 704 (3 * l + 2) i j) := by
    intro f ν
    simp (disch := omega) only [lp_Sh_exchange_29, d0, d1, d2, d3, if_false, if_true, g0, g1, g2, c0, c1, c2, a0, a1, a2, swp_C, Option.bind_some, ap, Nat.add_zero]
  unfold m_Sh_exchange
  rw [swp_C hi hj (by omega)]
  simp only [Option.bind_some]
  rw [swp_C hi hj (by omega)]
  simp only [Option.bind_some]
  rw [swp_C hi hj (by omega)]
  simp only [Option.bind_some]
  exact r 99996 _
def rv (i j x : Nat) : Nat := if i ≤ x ∧ x ≤ j then i + j - x else x
theorem rv_tr {i j x : Nat} (h : i < j) : tr2 i j (rv (i + 1) (j - 1) x) = rv i j x := by
  unfold tr2 rv
  by_cases w1 : i ≤ x ∧ x ≤ j
  · rw [if_pos w1]
    by_cases w2 : i + 1 ≤ x ∧ x ≤ j - 1
    · rw [if_pos w2, if_neg (by omega), if_neg (by omega)]; omega
    · rw [if_neg w2]
      by_cases w3 : x = i
      · rw [if_pos w3]; omega
      · rw [if_neg w3, if_pos (by omega)]; omega
  · rw [if_neg w1, if_neg (show ¬ (i + 1 ≤ x ∧ x ≤ j - 1) by omega), if_neg (by omega), if_neg (by omega)]
theorem rv_id {i j x : Nat} (h : j ≤ i) : rv i j x = x := by
  unfold rv
  split <;> omega
theorem rev_C {l : Nat} {a : Int32} : ∀ f i j μ, j < 100 → i ≤ j + 1 → j + 1 - i < 2 * f → ∃ ν, lp_Sh_turn_16 l a f (nI i) (nI j) μ = some ν ∧ (∀ k q x, IC l k q → gI ν k q x = gI μ k q (rv i j x)) ∧ (∀ k q x, ¬ IC l k q → gI ν k q x = gI μ k q x) := by
  intro f
  induction f with
  | zero => intro i j μ h1 h2 h3; omega
  | succ f ih =>
    intro i j μ h1 h2 h3
    by_cases h : j ≤ i
    · refine ⟨μ, by simp (disch := omega) only [lp_Sh_turn_16, nle, h, if_true], fun k q x _ => by rw [rv_id h], fun k q x _ => rfl⟩
    · have n1 : nI i + 1 = nI (i + 1) := nI_add i 1
      have m1 : nI j + -1 = nI (j - 1) := by rw [← nsub1 (by omega)]; grind
      obtain ⟨ν, r1, r2, r3⟩ := ih (i + 1) (j - 1) (EX μ l i j) (by omega) (by omega) (by omega)
      refine ⟨ν, ?_, fun k q x w => ?_, fun k q x w => ?_⟩
      · simp (disch := omega) only [lp_Sh_turn_16, nle, h, if_false, ex_C, Option.bind_some, ap, n1, m1]
        exact r1
      · rw [r2 k q x w, EX_in w, rv_tr (by omega)]
      · rw [r3 k q x w, EX_out w]
def EXM (μ : Mem) (i j : Nat) : Mem := swp (swp (swp (swp (swp (swp (swp (swp (swp μ 347 0 i j) 348 0 i j) 349 0 i j) 350 0 (3 * i) (3 * j)) 351 0 (3 * i) (3 * j)) 350 0 (3 * i + 1) (3 * j + 1)) 351 0 (3 * i + 1) (3 * j + 1)) 350 0 (3 * i + 2) (3 * j + 2)) 351 0 (3 * i + 2) (3 * j + 2)
theorem EXM_1 {μ : Mem} {i j k : Nat} (h : k = 347 ∨ k = 348 ∨ k = 349) (x : Nat) : gI (EXM μ i j) k 0 x = gI μ k 0 (tr2 i j x) := by
  unfold EXM
  simp only [swp_get]
  rcases h with rfl | rfl | rfl <;> simp
theorem tr3 {i j x m : Nat} (hm : m < 3) : tr2 (3 * i) (3 * j) (tr2 (3 * i + 1) (3 * j + 1) (tr2 (3 * i + 2) (3 * j + 2) (3 * x + m))) = 3 * tr2 i j x + m := by
  unfold tr2
  grind
theorem EXM_3 {μ : Mem} {i j k : Nat} (h : k = 350 ∨ k = 351) (x m : Nat) (hm : m < 3) : gI (EXM μ i j) k 0 (3 * x + m) = gI μ k 0 (3 * tr2 i j x + m) := by
  unfold EXM
  simp only [swp_get]
  rcases h with rfl | rfl <;> simp <;> rw [tr3 hm]
theorem EXM_o {μ : Mem} {i j k q : Nat} (h : ¬ (347 ≤ k ∧ k ≤ 351 ∧ q = 0)) (x : Nat) : gI (EXM μ i j) k q x = gI μ k q x := by
  unfold EXM
  simp only [swp_get]
  rw [if_neg (by omega), if_neg (by omega), if_neg (by omega), if_neg (by omega), if_neg (by omega), if_neg (by omega), if_neg (by omega), if_neg (by omega), if_neg (by omega)]
theorem ex_M {i j : Nat} {a1 a2 : Int32} {c : Int32 → Int32 → Mem → Option (Bool × Mem)} (hi : i < 3200) (hj : j < 3200) : ∀ f ν, lp_Mo_reverse_100 a1 a2 c (f + 1 + 1 + 1 + 1) (nI i) (nI j) 0 ν = c (nI i) (nI j) (swp (swp (swp (swp (swp (swp ν 350 0 (3 * i) (3 * j)) 351 0 (3 * i) (3 * j)) 350 0 (3 * i + 1) (3 * j + 1)) 351 0 (3 * i + 1) (3 * j + 1)) 350 0 (3 * i + 2) (3 * j + 2)) 351 0 (3 * i + 2) (3 * j + 2)) := by
  have a0 : (0 : Int32) + 1 = 1 := rfl
  have a1' : (1 : Int32) + 1 = 2 := rfl
  have a2' : (2 : Int32) + 1 = 3 := rfl
  have d0 : ¬ (3 : Int32) ≤ 0 := by decide
  have d1 : ¬ (3 : Int32) ≤ 1 := by decide
  have d2 : ¬ (3 : Int32) ≤ 2 := by decide
  have d3 : (3 : Int32) ≤ 3 := by decide
  have x0 : ∀ u, (3 : Int32) * nI u + 0 = nI (3 * u) := fun u => by rw [show (3 : Int32) = nI 3 from rfl, pk_mul, show (0 : Int32) = nI 0 from rfl, nI_add]; rfl
  have x1 : ∀ u, (3 : Int32) * nI u + 1 = nI (3 * u + 1) := fun u => by rw [show (3 : Int32) = nI 3 from rfl, pk_mul, show (1 : Int32) = nI 1 from rfl, nI_add]
  have x2 : ∀ u, (3 : Int32) * nI u + 2 = nI (3 * u + 2) := fun u => by rw [show (3 : Int32) = nI 3 from rfl, pk_mul, show (2 : Int32) = nI 2 from rfl, nI_add]
  intro f ν
  simp (disch := omega) only [lp_Mo_reverse_100, d0, d1, d2, d3, if_false, if_true, x0, x1, x2, a0, a1', a2', swp_M, Option.bind_some, ap]
theorem rev_M {a1 a2 : Int32} : ∀ f i j μ, j < 3200 → i ≤ j + 1 → j + 1 - i < 2 * f → ∃ ν, lp_Mo_reverse_58 a1 a2 f (nI i) (nI j) μ = some (true, ν) ∧ (∀ k x, (k = 347 ∨ k = 348 ∨ k = 349) → gI ν k 0 x = gI μ k 0 (rv i j x)) ∧ (∀ k x m, (k = 350 ∨ k = 351) → m < 3 → gI ν k 0 (3 * x + m) = gI μ k 0 (3 * rv i j x + m)) ∧ (∀ k q x, ¬ (347 ≤ k ∧ k ≤ 351 ∧ q = 0) → gI ν k q x = gI μ k q x) := by
  intro f
  induction f with
  | zero => intro i j μ h1 h2 h3; omega
  | succ f ih =>
    intro i j μ h1 h2 h3
    by_cases h : j ≤ i
    · refine ⟨μ, by simp (disch := omega) only [lp_Mo_reverse_58, nle, h, if_true], fun k x _ => by rw [rv_id h], fun k x m _ _ => by rw [rv_id h], fun k q x _ => rfl⟩
    · have n1 : nI i + 1 = nI (i + 1) := nI_add i 1
      have m1 : nI j + -1 = nI (j - 1) := by rw [← nsub1 (by omega)]; grind
      obtain ⟨ν, r1, r2, r3, r4⟩ := ih (i + 1) (j - 1) (EXM μ i j) (by omega) (by omega) (by omega)
      refine ⟨ν, ?_, fun k x w => ?_, fun k x m w hm => ?_, fun k q x w => ?_⟩
      · have e1 : lp_Mo_reverse_58 a1 a2 (f + 1) (nI i) (nI j) μ = lp_Mo_reverse_100 a1 a2 (mj_Mo_reverse_154 a1 a2 (lp_Mo_reverse_58 a1 a2 f)) FU (nI i) (nI j) 0 (swp (swp (swp μ 347 0 i j) 348 0 i j) 349 0 i j) := by
          simp (disch := omega) only [lp_Mo_reverse_58, nle, h, if_false, swp_M, Option.bind_some]
        rw [e1]
        refine (ex_M (by omega) (by omega) 99996 _).trans ?_
        simp only [mj_Mo_reverse_154, ap, n1, m1]
        exact r1
      · rw [r2 k x w, EXM_1 w, rv_tr (by omega)]
      · rw [r3 k x m w hm, EXM_3 w _ m hm, rv_tr (by omega)]
      · rw [r4 k q x w, EXM_o w]
theorem LC_in {kd kd' : Nat → Int32} {s t : Nat} (h : ∀ k, s ≤ k → k < t → kd' k = kd k) (hst : s < t) (H : LC kd s t) : LC kd' s t := by
  obtain ⟨h0, H⟩ := H
  have z1 : (0 : Int32) ≠ 1 := by decide
  have z2 : (0 : Int32) ≠ 2 := by decide
  refine ⟨by rw [h s (Nat.le_refl s) hst]; exact h0, fun k k1 k2 => ?_⟩
  obtain ⟨w1, w2, w3⟩ := H k k1 k2
  rw [h k k1 k2]
  by_cases hk : k = s
  · rw [hk, h0] at *
    exact ⟨Or.inl rfl, fun q => (z1 q).elim, fun q => (z2 q).elim⟩
  refine ⟨w1, fun q => ?_, fun q => ?_⟩
  · obtain ⟨y1, y2⟩ := w2 q
    exact ⟨by rw [h _ (by omega) (by omega)]; exact y1, fun w => by rw [h _ (by omega) w]; exact y2 w⟩
  · rcases w3 q with ⟨y1, y2, y3, y4⟩ | ⟨y1, y2, y3, y4⟩
    · exact Or.inl ⟨by rw [h _ (by omega) (by omega)]; exact y1, y2, by rw [h _ (by omega) y2]; exact y3, fun w => by rw [h _ (by omega) w]; exact y4 w⟩
    · exact Or.inr ⟨y1, by rw [h _ (by omega) (by omega)]; exact y2, by rw [h _ (by omega) (by omega)]; exact y3, fun w => by rw [h _ (by omega) w]; exact y4 w⟩
theorem LC_rev {kd : Nat → Int32} {s t : Nat} (hst : s + 2 ≤ t) (H : LC kd s t) : LC (fun x => kd (rv (s + 1) (t - 1) x)) s t := by
  obtain ⟨h0, H⟩ := H
  have z1 : (0 : Int32) ≠ 1 := by decide
  have z2 : (0 : Int32) ≠ 2 := by decide
  have r0 : rv (s + 1) (t - 1) s = s := by unfold rv; rw [if_neg (by omega)]
  have rr : ∀ x, s < x → x < t → rv (s + 1) (t - 1) x = s + t - x := fun x h1 h2 => by unfold rv; rw [if_pos (by omega)]; omega
  refine ⟨by show kd _ = 0; rw [r0]; exact h0, fun k k1 k2 => ?_⟩
  show (kd (rv (s + 1) (t - 1) k) = 0 ∨ kd (rv (s + 1) (t - 1) k) = 1 ∨ kd (rv (s + 1) (t - 1) k) = 2) ∧ (kd (rv (s + 1) (t - 1) k) = 1 → kd (rv (s + 1) (t - 1) (k - 1)) = 0 ∧ (k + 1 < t → kd (rv (s + 1) (t - 1) (k + 1)) = 0)) ∧
    (kd (rv (s + 1) (t - 1) k) = 2 → (kd (rv (s + 1) (t - 1) (k - 1)) = 0 ∧ k + 1 < t ∧ kd (rv (s + 1) (t - 1) (k + 1)) = 2 ∧ (k + 2 < t → kd (rv (s + 1) (t - 1) (k + 2)) = 0)) ∨ (s + 1 < k ∧ kd (rv (s + 1) (t - 1) (k - 1)) = 2 ∧ kd (rv (s + 1) (t - 1) (k - 2)) = 0 ∧ (k + 1 < t → kd (rv (s + 1) (t - 1) (k + 1)) = 0)))
  by_cases hk : k = s
  · subst hk
    rw [r0, h0]
    exact ⟨Or.inl rfl, fun q => (z1 q).elim, fun q => (z2 q).elim⟩
  rw [rr k (by omega) k2]
  obtain ⟨w1, w2, w3⟩ := H (s + t - k) (by omega) (by omega)
  have lo1 : (s + t - k + 1 < t → kd (s + t - k + 1) = 0) → kd (rv (s + 1) (t - 1) (k - 1)) = 0 := fun q => by
    by_cases w : k = s + 1
    · rw [w, show s + 1 - 1 = s by omega, r0]; exact h0
    · rw [rr (k - 1) (by omega) (by omega), show s + t - (k - 1) = s + t - k + 1 by omega]; exact q (by omega)
  have hi1 : ∀ v : Int32, k + 1 < t → kd (s + t - k - 1) = v → kd (rv (s + 1) (t - 1) (k + 1)) = v := fun v w q => by
    rw [rr (k + 1) (by omega) w, show s + t - (k + 1) = s + t - k - 1 by omega]; exact q
  refine ⟨w1, fun q => ?_, fun q => ?_⟩
  · obtain ⟨y1, y2⟩ := w2 q
    exact ⟨lo1 y2, fun w => hi1 0 w y1⟩
  · rcases w3 q with ⟨y1, y2, y3, y4⟩ | ⟨y1, y2, y3, y4⟩
    · right
      refine ⟨by omega, ?_, ?_, fun w => hi1 0 w y1⟩
      · rw [rr (k - 1) (by omega) (by omega), show s + t - (k - 1) = s + t - k + 1 by omega]; exact y3
      · by_cases w : k = s + 2
        · rw [w, show s + 2 - 2 = s by omega, r0]; exact h0
        · rw [rr (k - 2) (by omega) (by omega), show s + t - (k - 2) = s + t - k + 2 by omega]; exact y4 (by omega)
    · left
      refine ⟨lo1 y4, by omega, hi1 2 (by omega) y2, fun w => ?_⟩
      rw [rr (k + 2) (by omega) w, show s + t - (k + 2) = s + t - k - 2 by omega]; exact y3
theorem beg_M {ν : Mem} {l c o : Nat} {e : Nat → Nat} (hl : l < 32) (hc : c ≤ 8) (ho : o < c) (e0 : e 0 = 0) (h2 : ∀ o, o < c → gI ν 346 0 (8 * l + o) = nI (e (o + 1))) : m_Mo_beginOf (nI l) (nI o) ν = some (nI (e o)) := by
  unfold m_Mo_beginOf
  rcases o with _ | o
  · rw [if_pos (show nI 0 = 0 from rfl), e0]; rfl
  · have hz : ¬ o + 1 = 0 := by omega
    have e9 : 8 * l + (o + 1) - 1 = 8 * l + o := by omega
    simp (disch := omega) only [show (0 : Int32) = nI 0 from rfl, neq, hz, if_false, ix8, nsub1, e9, gu_nI, nI_clamp, h2]
theorem op_reverse {μ : Mem} {n : Nat} (I : InvN n μ) (a b : Int32) : ∃ r ν1 ν2, m_Fo_reverse a b μ = some (r, ν1) ∧ m_Mo_reverse a b ν1 = some (r, ν2) ∧ InvN n ν2 := by
  have h32 := I.1.1
  rcases lcase I.1 a with ⟨a1, a2⟩ | ⟨l, hl, rfl, a1, a2⟩
  · exact ⟨false, μ, μ, by simp only [m_Fo_reverse, a1, oc_n], by simp only [m_Mo_reverse, a2 μ rfl]; rfl, I⟩
  obtain ⟨c, p, e, hSF, hPT, hLC⟩ := I.2.1 l hl
  obtain ⟨h1, h2, h3, h4, h5, h6, h7, h8, h9, h10, h11, h12, h13, h14⟩ := id hSF
  by_cases hb : 0 ≤ b.toInt ∧ b.toInt < c
  rotate_left 1
  · refine ⟨false, μ, μ, ?_, ?_, I⟩
    · unfold m_Fo_reverse
      rw [a1, oc_s, h3, rg_s (by omega), decide_eq_false hb]; rfl
    · unfold m_Mo_reverse
      rw [a2 μ rfl, if_pos rfl]
      by_cases w : b < 0
      · rw [if_pos w]
      · rw [if_neg w]
        have w' : ¬ b.toInt < (0 : Int32).toInt := fun q => w (t_lt.mpr q)
        rw [show (0 : Int32).toInt = 0 from rfl] at w'
        simp (disch := omega) only [gu_nI, nI_clamp, h4]
        rw [if_neg]
        intro q
        have := t_lt.mp q
        rw [nI_toInt (by omega)] at this
        omega
  obtain ⟨o, ho, rfl⟩ := ix_of hb.1 hb.2 (by omega)
  have m0 := sf_mono hSF (o + 1) c (by omega) (by omega)
  have g2 := h10 o ho
  have n1 : nI (e o) + 1 = nI (e o + 1) := nI_add _ 1
  have n2 : nI o + 1 = nI (o + 1) := nI_add _ 1
  obtain ⟨ν1, r1, r2, r3⟩ := rev_C (l := l) (a := nI o) FU (e o + 1) (e (o + 1) - 1) μ (by omega) (by omega) (by unfold FU; omega)
  have e1 : m_Fo_reverse (nI l) (nI o) μ = some (true, ν1) := by
    unfold m_Fo_reverse
    rw [a1, oc_s, h3, rg_s (by omega), decide_eq_true hb, if_pos rfl]
    unfold m_Sh_turn m_Sh_endOf
    rw [n2, startC hSF (by omega), startC hSF (by omega)]
    simp (disch := omega) only [Option.bind_some, ap, n1, nsub1]
    rw [r1]; rfl
  have nIC : ∀ k q, ¬ (k = 300 ∨ k = 301 ∨ k = 302 ∨ k = 703 ∨ k = 704) → ¬ IC l k q := fun k q w w2 => by unfold IC at w2; omega
  have k12 : gI ν1 12 0 0 = gI μ 12 0 0 := r3 _ _ _ (nIC _ _ (by decide))
  have k343 : gI ν1 343 0 l = nI c := by rw [r3 _ _ _ (nIC _ _ (by decide)), h4]
  have k346 : ∀ o, o < c → gI ν1 346 0 (8 * l + o) = nI (e (o + 1)) := fun o ho => by rw [r3 _ _ _ (nIC _ _ (by decide)), (h14 o ho).2]
  obtain ⟨ν2, s1, s2, s3, s4⟩ := rev_M (a1 := nI l) (a2 := nI o) FU (100 * l + e o + 1) (100 * l + e (o + 1) - 1) ν1 (by omega) (by omega) (by unfold FU; omega)
  have e2 : m_Mo_reverse (nI l) (nI o) ν1 = some (true, ν2) := by
    unfold m_Mo_reverse
    have z : ¬ nI o < 0 := by rw [show (0 : Int32) = nI 0 from rfl, nlt (by omega) (by omega)]; omega
    have n3 : ∀ k, nI k + 1 = nI (k + 1) := fun k => nI_add k 1
    rw [a2 ν1 k12, if_pos rfl, if_neg z]
    simp (disch := omega) only [gu_nI, nI_clamp, k343, nlt, ho, if_true]
    rw [beg_M (by omega) h1 ho h9 k346]
    simp (disch := omega) only [Option.bind_some, ap, ix100, ix8, n3, gu_nI, nI_clamp, k346, nsub1]
    exact s1
  refine ⟨true, ν1, ν2, e1, e2, ?_⟩
  have u := (fm_Fo_reverse e1).mono (S' := [300, 301, 302, 703, 704, 347, 348, 349, 350, 351]) (by decide) |>.tr ((fm_Mo_reverse e2).mono (S' := [300, 301, 302, 703, 704, 347, 348, 349, 350, 351]) (by decide))
  have hh : ∀ k q x, ¬ (347 ≤ k ∧ k ≤ 351 ∧ q = 0) → ¬ IC l k q → gI ν2 k q x = gI μ k q x := fun k q x w1 w2 => (s4 k q x w1).trans (r3 k q x w2)
  have hi : ∀ k q x, IC l k q → gI ν2 k q x = gI μ k q (rv (e o + 1) (e (o + 1) - 1) x) := fun k q x w => (s4 k q x (by unfold IC at w; omega)).trans (r2 k q x w)
  refine inv_LSh I (by decide) u fun x hx => ?_
  by_cases w : x = l
  · subst w
    refine ⟨c, p, e, ⟨h1, h2, ?_, ?_, ?_, ?_, ?_, ?_, h9, h10, h11, ?_, ?_, fun o' ho' => ?_⟩, fun k hk => ?_, fun o' ho' => ?_⟩
    · rw [hh 10 x 6 (by omega) (nIC _ _ (by decide))]; exact h3
    · rw [hh 343 0 x (by omega) (nIC _ _ (by decide))]; exact h4
    · rw [hh 344 0 x (by omega) (nIC _ _ (by decide)), hh 10 x 7 (by omega) (nIC _ _ (by decide))]; exact h5
    · rw [hh 10 x 7 (by omega) (nIC _ _ (by decide))]; exact h6
    · rw [hh 10 x 8 (by omega) (nIC _ _ (by decide))]; exact h7
    · rw [hh 345 0 x (by omega) (nIC _ _ (by decide))]; exact h8
    · rw [hh 10 x 7 (by omega) (nIC _ _ (by decide))]; exact h12
    · rw [hh 10 x 7 (by omega) (nIC _ _ (by decide))]; exact h13
    · rw [hh 305 x o' (by omega) (nIC _ _ (by decide)), hh 346 0 _ (by omega) (nIC _ _ (by decide))]; exact h14 o' ho'
    · have hk' : rv (e o + 1) (e (o + 1) - 1) k < p := by unfold rv; split <;> omega
      have sh : rv (100 * x + e o + 1) (100 * x + e (o + 1) - 1) (100 * x + k) = 100 * x + rv (e o + 1) (e (o + 1) - 1) k := by unfold rv; split <;> split <;> omega
      obtain ⟨y1, y2, y3, y4, y5, y6, y7⟩ := hPT _ hk'
      rw [hi 300 x k (by unfold IC; omega), hi 301 x k (by unfold IC; omega), hi 302 x k (by unfold IC; omega), s2 347 _ (by omega), s2 348 _ (by omega), s2 349 _ (by omega), sh, r3 347 _ _ (nIC _ _ (by decide)), r3 348 _ _ (nIC _ _ (by decide)), r3 349 _ _ (nIC _ _ (by decide))]
      refine ⟨y1, y2, y3, y4, y5, y6, fun m hm => ?_⟩
      rw [hi 703 (3 * x + m) k (by unfold IC; omega), hi 704 (3 * x + m) k (by unfold IC; omega), s3 350 _ m (by omega) hm, s3 351 _ m (by omega) hm, sh, r3 350 _ _ (nIC _ _ (by decide)), r3 351 _ _ (nIC _ _ (by decide))]
      exact y7 m hm
    · have q2 : gI ν2 302 x = fun y => gI μ 302 x (rv (e o + 1) (e (o + 1) - 1) y) := funext fun y => hi 302 x y (by unfold IC; omega)
      rw [q2]
      by_cases w : o' = o
      · subst w; exact LC_rev g2 (hLC o' ho')
      · refine LC_in (fun k k1 k2 => ?_) (by have := h10 o' ho'; omega) (hLC o' ho')
        show gI μ 302 x (rv (e o + 1) (e (o + 1) - 1) k) = gI μ 302 x k
        congr 1
        unfold rv
        rw [if_neg]
        rcases (show o' < o ∨ o < o' by omega) with w | w
        · have := sf_mono hSF (o' + 1) o (by omega) (by omega); omega
        · have := sf_mono hSF (o + 1) o' (by omega) (by omega); omega
  · refine LSh_ag (μ := μ) (fun k a' b' hk hoo => ?_) (I.2.1 x hx)
    have rid : ∀ b, b / 100 ≠ l → rv (100 * l + e o + 1) (100 * l + e (o + 1) - 1) b = b := fun b hb => by unfold rv; rw [if_neg (by omega)]
    by_cases w3 : 347 ≤ k ∧ k ≤ 351 ∧ a' = 0
    · obtain ⟨w4, w5, rfl⟩ := w3
      by_cases w6 : k = 347 ∨ k = 348 ∨ k = 349
      · rw [s2 k b' w6, rid, r3 _ _ _ (nIC _ _ (by omega))]
        rcases w6 with rfl | rfl | rfl <;> simp [own] at hoo <;> omega
      · have w7 : k = 350 ∨ k = 351 := by omega
        have := s3 k (b' / 3) (b' % 3) w7 (by omega)
        rw [show 3 * (b' / 3) + b' % 3 = b' by omega, rid, show 3 * (b' / 3) + b' % 3 = b' by omega] at this
        · rw [this, r3 _ _ _ (nIC _ _ (by omega))]
        · rcases w7 with rfl | rfl <;> simp [own] at hoo <;> omega
    · refine hh k a' b' w3 ?_
      unfold IC
      rcases hk with rfl | rfl | rfl | rfl | rfl | rfl | rfl | hk
      · omega
      · simp [own] at hoo; omega
      · simp [own] at hoo; omega
      · simp [own] at hoo; omega
      · omega
      · simp [own] at hoo; omega
      · simp [own] at hoo; omega
      · omega
