def wb (n k i : Nat) : Nat := if i ≤ k then k - i else k + n - i
def wf (n k d : Nat) : Nat := if k + d < n then k + d else k + d - n
theorem wb_lt {n k i : Nat} (hk : k < n) (hi : i ≤ n) (h1 : 1 ≤ n) : wb n k i < n ∨ (i = n ∧ k + 1 = 0) := by unfold wb; split <;> omega
/-- where a point goes that lies between two -/
def fitv (o oa na ob nb : Int64) : Int64 :=
  if ob < oa then (if ob < o then (if o < oa then na + rnd ((o - oa) * (nb - na)) (ob - oa) else (o + na) - oa) else (o + nb) - ob)
  else (if oa < o then (if o < ob then na + rnd ((o - oa) * (nb - na)) (ob - oa) else (if oa = ob then (o + na) - oa else (o + nb) - ob)) else (o + na) - oa)
theorem fit_M {o oa na ob nb : Int64} {ξ : Mem} (h1 : -2147483648 ≤ oa.toInt ∧ oa.toInt ≤ 2147483648) (h2 : -2147483648 ≤ ob.toInt ∧ ob.toInt ≤ 2147483648) : m_Mo_fitted o oa na ob nb ξ = some (fitv o oa na ob nb) := by
  have es : (ob - oa).toInt = ob.toInt - oa.toInt := u_sub (by omega)
  have z1 : ¬ (1 : Int32) = 0 := by decide
  have rd : oa.toInt ≠ ob.toInt → m_Mo_rounded ((o - oa) * (nb - na)) (ob - oa) ξ = some (rnd ((o - oa) * (nb - na)) (ob - oa)) := fun h => (rd_both (by rw [es]; omega) (by rw [es]; omega)).2
  unfold m_Mo_fitted mj_Mo_fitted_12 mj_Mo_fitted_25 mj_Mo_fitted_38 mj_Mo_fitted_88 fitv
  by_cases w : ob < oa
  · have w' := u_lt.mp w
    simp only [w, if_true]
    by_cases w2 : ob < o
    · simp only [w2, if_true]
      by_cases w3 : o < oa
      · simp only [w3, if_true]; rw [rd (by omega)]; rfl
      · simp only [w3, if_false]
    · simp only [w2, if_false]
  · have w' : ¬ ob.toInt < oa.toInt := fun q => w (u_lt.mpr q)
    simp only [w, if_false, z1]
    by_cases w2 : oa < o
    · simp only [w2, if_true]
      by_cases w3 : o < ob
      · simp only [w3, if_true]
        have a1 := u_lt.mp w2
        have a2 := u_lt.mp w3
        rw [rd (by omega)]; rfl
      · simp only [w3, if_false]
        by_cases w4 : oa = ob
        · simp only [w4, if_true]
        · simp only [w4, if_false]
    · simp only [w2, if_false]
theorem fit_C {ν : Mem} {j x a b : Nat} {o : Int64} (hx : x < 2) (ha : a < 100) (hb : b < 100) : m_Fit_placeBetween j (nI x) (nI a) (nI b) o ν = some (fitv o (gI ν 500 (2 * j + x) a).toInt64 (gI ν 501 (2 * j + x) a).toInt64 (gI ν 500 (2 * j + x) b).toInt64 (gI ν 501 (2 * j + x) b).toInt64) := by
  unfold m_Fit_placeBetween
  simp (disch := omega) only [gu_nI, nI_clamp, ap]
  have h1 : -2147483648 ≤ (gI ν 500 (2 * j + x) a).toInt64.toInt ∧ (gI ν 500 (2 * j + x) a).toInt64.toInt ≤ 2147483648 := by rw [i64]; have := t_lo (gI ν 500 (2 * j + x) a); have := t_hi (gI ν 500 (2 * j + x) a); omega
  have h2 : -2147483648 ≤ (gI ν 500 (2 * j + x) b).toInt64.toInt ∧ (gI ν 500 (2 * j + x) b).toInt64.toInt ≤ 2147483648 := by rw [i64]; have := t_lo (gI ν 500 (2 * j + x) b); have := t_hi (gI ν 500 (2 * j + x) b); omega
  generalize (gI ν 500 (2 * j + x) a).toInt64 = oa at *
  generalize (gI ν 500 (2 * j + x) b).toInt64 = ob at *
  generalize (gI ν 501 (2 * j + x) a).toInt64 = na at *
  generalize (gI ν 501 (2 * j + x) b).toInt64 = nb at *
  have es : (ob - oa).toInt = ob.toInt - oa.toInt := u_sub (by omega)
  have rd : oa.toInt ≠ ob.toInt → m_Fo_rounded ((o - oa) * (nb - na)) (ob - oa) ν = some (rnd ((o - oa) * (nb - na)) (ob - oa)) := fun h => (rd_both (by rw [es]; omega) (by rw [es]; omega)).1
  have g1 : o + (na - oa) = o + na - oa := by grind
  have g2 : o + (nb - ob) = o + nb - ob := by grind
  unfold mj_Fit_placeBetween_65 mj_Fit_placeBetween_88 fitv m_Ma_min m_Ma_max2
  by_cases w : ob < oa
  · have w' := u_lt.mp w
    have w0 : ¬ oa < ob := fun q => by have := u_lt.mp q; omega
    simp only [w, w0, if_true, if_false]
    by_cases w2 : ob < o
    · simp only [w2, if_true]
      by_cases w3 : o < oa
      · simp only [w3, if_true]; rw [rd (by omega)]; rfl
      · simp only [w3, if_false, g1]
    · simp only [w2, if_false, g2]
  · have w' : ¬ ob.toInt < oa.toInt := fun q => w (u_lt.mpr q)
    simp only [w, if_false]
    by_cases w0 : oa < ob
    · have w0' := u_lt.mp w0
      have w4 : ¬ oa = ob := fun q => by rw [q] at w0'; omega
      simp only [w0, if_true]
      by_cases w2 : oa < o
      · simp only [w2, if_true]
        by_cases w3 : o < ob
        · simp only [w3, if_true]; rw [rd (by omega)]; rfl
        · simp only [w3, if_false, w4, g2]
      · simp only [w2, if_false, g1]
    · have w4 : oa = ob := u_eq.mpr (by have : ¬ oa.toInt < ob.toInt := fun q => w0 (u_lt.mpr q); omega)
      simp only [w0, if_false]
      by_cases w2 : oa < o
      · have w3 : ¬ o < oa := fun q => by have := u_lt.mp q; have := u_lt.mp w2; omega
        have w3' : ¬ o < ob := by rw [← w4]; exact w3
        simp only [w2, if_true, w3, w3', if_false, w4, g1]
        rw [← w4, g1, if_pos w2, if_pos w2]
      · simp only [w2, if_false, g1]
def VP (T : Nat → Int32) (F N : Nat → Int64) (s n k : Nat) (v : Int64) : Prop := ∃ i d, 1 ≤ i ∧ i < n ∧ 1 ≤ d ∧ d < n ∧ T (s + wb n k i) ≠ 0 ∧ (∀ z, 1 ≤ z → z < i → T (s + wb n k z) = 0) ∧ T (s + wf n k d) ≠ 0 ∧ (∀ z, 1 ≤ z → z < d → T (s + wf n k z) = 0) ∧ v = fitv (F (s + k)) (F (s + wb n k i)) (N (s + wb n k i)) (F (s + wf n k d)) (N (s + wf n k d))
theorem VP_un {T : Nat → Int32} {F N : Nat → Int64} {s n k : Nat} {v v' : Int64} (h : VP T F N s n k v) (h' : VP T F N s n k v') : v = v' := by
  obtain ⟨i, d, a1, a2, a3, a4, a5, a6, a7, a8, a9⟩ := h
  obtain ⟨i', d', b1, b2, b3, b4, b5, b6, b7, b8, b9⟩ := h'
  have e1 : i = i' := by
    rcases (show i = i' ∨ i < i' ∨ i' < i by omega) with w | w | w
    · exact w
    · exact (a5 (b6 i a1 w)).elim
    · exact (b5 (a6 i' b1 w)).elim
  have e2 : d = d' := by
    rcases (show d = d' ∨ d < d' ∨ d' < d by omega) with w | w | w
    · exact w
    · exact (a7 (b8 d a3 w)).elim
    · exact (b7 (a8 d' b3 w)).elim
  subst e1; subst e2
  rw [a9, b9]
def VA (T : Nat → Int32) (F N : Nat → Int64) (c : Nat) (e : Nat → Nat) (y : Nat) (v : Int64) : Prop := ∃ o, o < c ∧ e o ≤ y ∧ y < e (o + 1) ∧ VP T F N (e o) (e (o + 1) - e o) (y - e o) v
theorem VA_of {T : Nat → Int32} {F N : Nat → Int64} {c o y : Nat} {e : Nat → Nat} {v : Int64} (hm : ∀ o o', o ≤ o' → o' ≤ c → e o ≤ e o') (ho : o < c) (h1 : e o ≤ y) (h2 : y < e (o + 1)) : VA T F N c e y v ↔ VP T F N (e o) (e (o + 1) - e o) (y - e o) v := by
  refine ⟨fun ⟨o', g1, g2, g3, g4⟩ => ?_, fun h => ⟨o, ho, h1, h2, h⟩⟩
  have : o' = o := by
    rcases (show o' = o ∨ o' < o ∨ o < o' by omega) with w | w | w
    · exact w
    · have := hm (o' + 1) o (by omega) (by omega); omega
    · have := hm (o + 1) o' (by omega) (by omega); omega
  subst this
  exact g4
theorem VA_un {T : Nat → Int32} {F N : Nat → Int64} {c : Nat} {e : Nat → Nat} {y : Nat} {v v' : Int64} (hm : ∀ o o', o ≤ o' → o' ≤ c → e o ≤ e o') (h : VA T F N c e y v) (h' : VA T F N c e y v') : v = v' := by
  obtain ⟨o, g1, g2, g3, g4⟩ := h
  exact VP_un g4 ((VA_of hm g1 g2 g3).mp h')
def Far (v : Int64) : Prop := ¬ (-1000000000 ≤ v.toInt ∧ v.toInt ≤ 1000000000)
/-- X is X0, but that the points of Pr that aren't touched went where they go -/
def SP {α : Type} (V : Nat → Int64 → Prop) (T : Nat → Int32) (cv : Int64 → α) (Pr : Nat → Prop) (X0 X : Nat → α) : Prop := ∀ y, (Pr y → T y = 0 → (∃ v, V y v ∧ X y = cv v) ∨ ((∀ v, ¬ V y v) ∧ X y = X0 y)) ∧ ((¬ Pr y ∨ T y ≠ 0) → X y = X0 y)
def SB (V : Nat → Int64 → Prop) (T : Nat → Int32) (Pr : Nat → Prop) (bad : Prop) : Prop := bad ↔ ∃ y v, Pr y ∧ T y = 0 ∧ V y v ∧ Far v
theorem sp_same {α : Type} {V : Nat → Int64 → Prop} {T : Nat → Int32} {cv : Int64 → α} {Pr Pr' : Nat → Prop} {X0 X : Nat → α} (h : SP V T cv Pr X0 X) (h1 : ∀ y, Pr y → Pr' y) (h2 : ∀ y, Pr' y → ¬ Pr y → T y ≠ 0 ∨ ∀ v, ¬ V y v) : SP V T cv Pr' X0 X := by
  intro y
  obtain ⟨g1, g2⟩ := h y
  refine ⟨fun p t => ?_, fun q => ?_⟩
  · by_cases w : Pr y
    · exact g1 w t
    · rcases h2 y p w with k | k
      · exact (k t).elim
      · exact Or.inr ⟨k, g2 (Or.inl w)⟩
  · rcases q with q | q
    · exact g2 (Or.inl fun w => q (h1 y w))
    · exact g2 (Or.inr q)
theorem sb_same {V : Nat → Int64 → Prop} {T : Nat → Int32} {Pr Pr' : Nat → Prop} {bad : Prop} (h : SB V T Pr bad) (h1 : ∀ y, Pr y → Pr' y) (h2 : ∀ y, Pr' y → ¬ Pr y → T y ≠ 0 ∨ ∀ v, ¬ V y v) : SB V T Pr' bad := by
  refine h.trans ⟨fun ⟨y, v, a, b, c, d⟩ => ⟨y, v, h1 y a, b, c, d⟩, fun ⟨y, v, a, b, c, d⟩ => ?_⟩
  by_cases w : Pr y
  · exact ⟨y, v, w, b, c, d⟩
  · rcases h2 y a w with k | k
    · exact (k b).elim
    · exact (k v c).elim
theorem sp_set {α : Type} {V : Nat → Int64 → Prop} {T : Nat → Int32} {cv : Int64 → α} {Pr Pr' : Nat → Prop} {X0 X X' : Nat → α} {y : Nat} {v : Int64} (h : SP V T cv Pr X0 X) (h1 : ∀ z, Pr' z ↔ Pr z ∨ z = y) (ht : T y = 0) (hv : V y v) (e1 : X' y = cv v) (e2 : ∀ z, z ≠ y → X' z = X z) : SP V T cv Pr' X0 X' := by
  intro z
  obtain ⟨g1, g2⟩ := h z
  by_cases w : z = y
  · subst w
    refine ⟨fun _ _ => Or.inl ⟨v, hv, e1⟩, fun q => ?_⟩
    rcases q with q | q
    · exact (q ((h1 z).mpr (Or.inr rfl))).elim
    · exact (q ht).elim
  · rw [e2 z w]
    refine ⟨fun p t => ?_, fun q => ?_⟩
    · rcases (h1 z).mp p with k | k
      · exact g1 k t
      · exact (w k).elim
    · rcases q with q | q
      · exact g2 (Or.inl fun k => q ((h1 z).mpr (Or.inl k)))
      · exact g2 (Or.inr q)
theorem sb_set {V : Nat → Int64 → Prop} {T : Nat → Int32} {Pr Pr' : Nat → Prop} {bad bad' : Prop} {y : Nat} {v : Int64} (hu : ∀ v', V y v' → v' = v) (h : SB V T Pr bad) (h1 : ∀ z, Pr' z ↔ Pr z ∨ z = y) (ht : T y = 0) (hv : V y v) (hb : bad' ↔ bad ∨ Far v) : SB V T Pr' bad' := by
  refine hb.trans ⟨fun q => ?_, fun ⟨z, v', a, b, c, d⟩ => ?_⟩
  · rcases q with q | q
    · obtain ⟨z, v', a, b, c, d⟩ := h.mp q
      exact ⟨z, v', (h1 z).mpr (Or.inl a), b, c, d⟩
    · exact ⟨y, v, (h1 y).mpr (Or.inr rfl), ht, hv, q⟩
  · rcases (h1 z).mp a with k | k
    · exact Or.inl (h.mpr ⟨z, v', k, b, c, d⟩)
    · subst k
      rw [hu v' c] at d
      exact Or.inr d
