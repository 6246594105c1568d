theorem pr_bend {s P : Int} {X Y Z p q r : Int64} (h1 : PR s P X p) (h2 : PR s P Y q) (h3 : PR s P Z r) : (X - 2 * Y + Z).toInt = s * (p - 2 * q + r).toInt ∧ (X - 2 * Y + Z).toInt = X.toInt - 2 * Y.toInt + Z.toInt ∧ (p - 2 * q + r).toInt = p.toInt - 2 * q.toInt + r.toInt := by
  obtain ⟨a1, _, a2, a3⟩ := h1
  obtain ⟨b1, _, b2, b3⟩ := h2
  obtain ⟨c1, _, c2, c3⟩ := h3
  have e2 : (2 : Int64).toInt = 2 := by decide
  have m1 : (2 * Y).toInt = 2 * Y.toInt := by rw [u_mul, e2]; rw [e2]; omega
  have m2 : (2 * q).toInt = 2 * q.toInt := by rw [u_mul, e2]; rw [e2]; omega
  have s1 : (X - 2 * Y).toInt = X.toInt - 2 * Y.toInt := by rw [u_sub, m1]; rw [m1]; omega
  have s2 : (p - 2 * q).toInt = p.toInt - 2 * q.toInt := by rw [u_sub, m2]; rw [m2]; omega
  have t1 : (X - 2 * Y + Z).toInt = X.toInt - 2 * Y.toInt + Z.toInt := by rw [u_add, s1]; rw [s1]; omega
  have t2 : (p - 2 * q + r).toInt = p.toInt - 2 * q.toInt + r.toInt := by rw [u_add, s2]; rw [s2]; omega
  refine ⟨?_, t1, t2⟩
  rw [t1, t2, a1, b1, c1, Int.mul_add, Int.mul_sub]
  congr 2
  rw [← Int.mul_assoc, Int.mul_comm 2 s, Int.mul_assoc]
/-- both find the same bend too great, or not -/
theorem pr_flat {s P U : Int} {X Y Z p q r : Int64} {lim lm : Int64} {ν ξ : Mem} (h1 : PR s P X p) (h2 : PR s P Y q) (h3 : PR s P Z r) (hs : 0 < s) (hl : lim.toInt = s * lm.toInt) : (lim < m_Ma_abs (X - 2 * Y + Z) ν) ↔ (lm < m_Mo_size (p - 2 * q + r) ξ) := by
  obtain ⟨e1, e2, e3⟩ := pr_bend h1 h2 h3
  obtain ⟨a1, _, a2, a3⟩ := h1
  obtain ⟨b1, _, b2, b3⟩ := h2
  obtain ⟨c1, _, c2, c3⟩ := h3
  have f1 : (m_Ma_abs (X - 2 * Y + Z) ν).toInt = s * (m_Mo_size (p - 2 * q + r) ξ).toInt := by
    unfold m_Ma_abs m_Mo_size
    by_cases w : 0 ≤ p - 2 * q + r
    · have w1 : (0 : Int) ≤ (p - 2 * q + r).toInt := u_le.mp w
      have w2 : 0 ≤ X - 2 * Y + Z := u_le.mpr (by show (0 : Int) ≤ _; rw [e1]; exact Int.mul_nonneg (by omega) w1)
      rw [if_pos w, if_pos w2, e1]
    · have w1 : ¬ (0 : Int) ≤ (p - 2 * q + r).toInt := fun g => w (u_le.mpr g)
      have w2 : ¬ 0 ≤ X - 2 * Y + Z := fun g => by
        have g' : (0 : Int) ≤ (X - 2 * Y + Z).toInt := u_le.mp g
        rw [e1] at g'
        have := Int.nonneg_of_mul_nonneg_right g' hs
        exact w1 this
      rw [if_neg w, if_neg w2, u_neg (by rw [e2]; omega), u_neg (by rw [e3]; omega), e1, Int.mul_neg]
  rw [u_lt, u_lt, f1, hl]
  constructor
  · intro g; exact Int.lt_of_mul_lt_mul_left g (by omega)
  · intro g; exact Int.mul_lt_mul_of_pos_left g hs
def sg (d : Nat) : Int := if d = 2 then 1024 else 1
def un (d : Nat) : Int64 := if d = 2 then 1048576 else 1073741824
def dv10 (d k : Nat) : Int := 2 ^ (d * k)
/-- the class's row of level h is the model's piece number v of its stack -/
def CP (ν ξ : Mem) (d h v : Nat) : Prop := ∀ c k, c < 2 → k ≤ d → PR (sg d) (dv10 d (10 - h)) (gL ν (120 + c) 0 (4 * h + k)) (gL ξ 375 0 (8 * v + 2 * k + c))
theorem bend_C {K h k : Nat} {ν : Mem} (hk : 4 * h + k + 2 < 44) : m_Fl_bend K 0 44 0 (nI (4 * h + k)) ν = some (m_Ma_abs (gL ν K 0 (4 * h + k) - 2 * gL ν K 0 (4 * h + (k + 1)) + gL ν K 0 (4 * h + (k + 2))) ν) := by
  have a1 : nI (4 * h + k) + 1 = nI (4 * h + (k + 1)) := nI_add _ 1
  have a2 : nI (4 * h + k) + 2 = nI (4 * h + (k + 2)) := nI_add _ 2
  unfold m_Fl_bend
  rw [a1, a2, gu_nI (by omega) (by omega), gu_nI (by omega) (by omega), gu_nI (by omega) (by omega), nI_clamp (by omega), nI_clamp (by omega), nI_clamp (by omega)]
theorem flat_both {ν ξ : Mem} {d h v : Nat} {t : Int32} (hd : d = 2 ∨ d = 3) (hh : h ≤ 10) (hv : v ≤ 10) (ht : 1 ≤ t.toInt ∧ t.toInt ≤ 256) (h6 : gI ν 1 0 6 = nI d) (h5 : gL ν 1 0 5 = t.toInt64 * 1073741824) (C : CP ν ξ d h v) : ∃ b, m_Fl_isFlat (nI (4 * h)) ν = some b ∧ m_Mo_isFlat (nI (8 * v)) (nI (d + 1)) (t.toInt64 * un d) ξ = some b := by
  have l1 : (t.toInt64 * un d).toInt = t.toInt * (un d).toInt := by
    have : (un d).toInt = 1048576 ∨ (un d).toInt = 1073741824 := by unfold un; split; exact Or.inl (by decide); exact Or.inr (by decide)
    rw [u_mul, i64]; rw [i64]
    rcases this with q | q <;> rw [q] <;> omega
  have l2 : (t.toInt64 * 1073741824).toInt = t.toInt * 1073741824 := by
    have e : (1073741824 : Int64).toInt = 1073741824 := by decide
    rw [u_mul, i64, e]; rw [i64, e]; omega
  have lim : (t.toInt64 * 1073741824).toInt = sg d * (t.toInt64 * un d).toInt := by
    rw [l1, l2]
    rcases hd with rfl | rfl
    · rw [show (un 2).toInt = 1048576 from by decide, show sg 2 = 1024 from rfl]; omega
    · rw [show (un 3).toInt = 1073741824 from by decide, show sg 3 = 1 from rfl]; omega
  have hs : 0 < sg d := by rcases hd with rfl | rfl <;> decide
  generalize t.toInt64 * un d = lm at *
  generalize t.toInt64 * 1073741824 = li at *
  have bx : ∀ c k, c < 2 → k + 2 ≤ d → ((li < m_Ma_abs (gL ν (120 + c) 0 (4 * h + k) - 2 * gL ν (120 + c) 0 (4 * h + (k + 1)) + gL ν (120 + c) 0 (4 * h + (k + 2))) ν) ↔ (lm < m_Mo_size (gL ξ 375 0 (8 * v + 2 * k + c) - 2 * gL ξ 375 0 (8 * v + 2 * (k + 1) + c) + gL ξ 375 0 (8 * v + 2 * (k + 2) + c)) ξ)) := fun c k hc hk => pr_flat (U := 0) (C c k hc (by omega)) (C c (k + 1) hc (by omega)) (C c (k + 2) hc (by omega)) hs lim
  have n6 : nI (4 * h) + nI d = nI (4 * h + d) := nI_add _ _
  have cS : ∀ f k, k + 2 ≤ d → lp_Fl_isFlat_2 (nI (4 * h)) ν (f + 1) (nI (4 * h + k)) = if (lm < m_Mo_size (gL ξ 375 0 (8 * v + 2 * k + 0) - 2 * gL ξ 375 0 (8 * v + 2 * (k + 1) + 0) + gL ξ 375 0 (8 * v + 2 * (k + 2) + 0)) ξ) ∨ (lm < m_Mo_size (gL ξ 375 0 (8 * v + 2 * k + 1) - 2 * gL ξ 375 0 (8 * v + 2 * (k + 1) + 1) + gL ξ 375 0 (8 * v + 2 * (k + 2) + 1)) ξ) then some false else lp_Fl_isFlat_2 (nI (4 * h)) ν f (nI (4 * h + (k + 1))) := fun f k hk => by
    have a2 : nI (4 * h + k) + 2 = nI (4 * h + k + 2) := nI_add _ 2
    have a1 : nI (4 * h + k) + 1 = nI (4 * h + (k + 1)) := nI_add _ 1
    rw [lp_Fl_isFlat_2, h6, n6, a2, if_neg (by rw [nlt (by omega) (by omega)]; omega), bend_C (by omega), Option.bind_some, h5]
    by_cases w : li < m_Ma_abs (gL ν 120 0 (4 * h + k) - 2 * gL ν 120 0 (4 * h + (k + 1)) + gL ν 120 0 (4 * h + (k + 2))) ν
    · rw [if_pos w, if_pos (Or.inl ((bx 0 k (by omega) hk).mp w))]
    · rw [if_neg w, bend_C (by omega), Option.bind_some]
      by_cases w2 : li < m_Ma_abs (gL ν 121 0 (4 * h + k) - 2 * gL ν 121 0 (4 * h + (k + 1)) + gL ν 121 0 (4 * h + (k + 2))) ν
      · rw [if_neg (fun q => by have a := u_le.mp q; have b := u_lt.mp w2; omega), if_pos (Or.inr ((bx 1 k (by omega) hk).mp w2))]
      · rw [if_pos (u_le.mpr (by have : ¬ li.toInt < _ := fun q => w2 (u_lt.mpr q); omega)), ap, a1, if_neg]
        rintro (q | q)
        · exact w ((bx 0 k (by omega) hk).mpr q)
        · exact w2 ((bx 1 k (by omega) hk).mpr q)
  have cE : ∀ f k, d < k + 2 → k ≤ 4 → lp_Fl_isFlat_2 (nI (4 * h)) ν (f + 1) (nI (4 * h + k)) = some true := fun f k hk hk4 => by
    have a2 : nI (4 * h + k) + 2 = nI (4 * h + k + 2) := nI_add _ 2
    rw [lp_Fl_isFlat_2, h6, n6, a2, if_pos (by rw [nlt (by omega) (by omega)]; omega)]
  have o1 : ¬ (1 : Int32) = 0 := by decide
  have mE : ∀ f k (y : Int32), d + 1 ≤ k + 2 → k ≤ 4 → lp_Mo_isFlat_6 (nI (8 * v)) (nI (d + 1)) lm ξ (f + 1) y (nI k) = Option.bind (zb y) fun B10 => some B10 := fun f k y hk hk4 => by
    have a2 : nI k + 2 = nI (k + 2) := nI_add _ 2
    rw [lp_Mo_isFlat_6, a2, if_pos (by rw [nle (by omega) (by omega)]; omega)]
  have mZ : ∀ f k, k + 2 ≤ d → lp_Mo_isFlat_6 (nI (8 * v)) (nI (d + 1)) lm ξ (f + 1) 0 (nI k) = lp_Mo_isFlat_6 (nI (8 * v)) (nI (d + 1)) lm ξ f 0 (nI (k + 1)) := fun f k hk => by
    have a2 : nI k + 2 = nI (k + 2) := nI_add _ 2
    have a1 : nI k + 1 = nI (k + 1) := nI_add _ 1
    rw [lp_Mo_isFlat_6, a2, if_neg (by rw [nle (by omega) (by omega)]; omega), ap, if_pos rfl]
    unfold mj_Mo_isFlat_111 mj_Mo_isFlat_112
    rw [ap, a1]
  have mS : ∀ f k, k + 2 ≤ d → lp_Mo_isFlat_6 (nI (8 * v)) (nI (d + 1)) lm ξ (f + 1) 1 (nI k) = if (lm < m_Mo_size (gL ξ 375 0 (8 * v + 2 * k + 0) - 2 * gL ξ 375 0 (8 * v + 2 * (k + 1) + 0) + gL ξ 375 0 (8 * v + 2 * (k + 2) + 0)) ξ) ∨ (lm < m_Mo_size (gL ξ 375 0 (8 * v + 2 * k + 1) - 2 * gL ξ 375 0 (8 * v + 2 * (k + 1) + 1) + gL ξ 375 0 (8 * v + 2 * (k + 2) + 1)) ξ) then lp_Mo_isFlat_6 (nI (8 * v)) (nI (d + 1)) lm ξ f 0 (nI (k + 1)) else lp_Mo_isFlat_6 (nI (8 * v)) (nI (d + 1)) lm ξ f 1 (nI (k + 1)) := fun f k hk => by
    have a2 : nI k + 2 = nI (k + 2) := nI_add _ 2
    have a1 : nI k + 1 = nI (k + 1) := nI_add _ 1
    have m2 : (2 : Int32) * nI k = nI (2 * k) := by rw [show (2 : Int32) = nI 2 from rfl, pk_mul]
    have x0 : nI (8 * v) + nI (2 * k) = nI (8 * v + 2 * k) := nI_add _ _
    have x1 : nI (8 * v + 2 * k) + 1 = nI (8 * v + 2 * k + 1) := nI_add _ 1
    have x2 : nI (8 * v + 2 * k) + 2 = nI (8 * v + 2 * (k + 1)) := nI_add _ 2
    have x3 : nI (8 * v + 2 * k) + 3 = nI (8 * v + 2 * (k + 1) + 1) := nI_add _ 3
    have x4 : nI (8 * v + 2 * k) + 4 = nI (8 * v + 2 * (k + 2)) := nI_add _ 4
    have x5 : nI (8 * v + 2 * k) + 5 = nI (8 * v + 2 * (k + 2) + 1) := nI_add _ 5
    rw [lp_Mo_isFlat_6, a2, if_neg (by rw [nle (by omega) (by omega)]; omega), m2, x0, ap, if_neg o1, x2, x4, x1, x3, x5, gu_nI (by omega) (by omega), gu_nI (by omega) (by omega), gu_nI (by omega) (by omega), nI_clamp (by omega), nI_clamp (by omega), nI_clamp (by omega)]
    unfold mj_Mo_isFlat_111 mj_Mo_isFlat_112
    rw [ap, ap, a1]
    by_cases w : lm < m_Mo_size (gL ξ 375 0 (8 * v + 2 * k) - 2 * gL ξ 375 0 (8 * v + 2 * (k + 1)) + gL ξ 375 0 (8 * v + 2 * (k + 2))) ξ
    · rw [if_pos w]
      exact (if_pos (Or.inl w)).symm
    · rw [if_neg w, gu_nI (by omega) (by omega), gu_nI (by omega) (by omega), gu_nI (by omega) (by omega), nI_clamp (by omega), nI_clamp (by omega), nI_clamp (by omega)]
      by_cases w2 : lm < m_Mo_size (gL ξ 375 0 (8 * v + 2 * k + 1) - 2 * gL ξ 375 0 (8 * v + 2 * (k + 1) + 1) + gL ξ 375 0 (8 * v + 2 * (k + 2) + 1)) ξ
      · rw [if_pos w2, if_pos (Or.inr w2)]
      · rw [if_neg w2, if_neg (fun q => q.elim w w2)]
  obtain ⟨F, hF⟩ : ∃ F, FU = F + 1 + 1 + 1 := ⟨99997, rfl⟩
  have e1 : m_Fl_isFlat (nI (4 * h)) ν = lp_Fl_isFlat_2 (nI (4 * h)) ν (F + 1 + 1 + 1) (nI (4 * h + 0)) := by unfold m_Fl_isFlat; rw [hF]; rfl
  have e2 : m_Mo_isFlat (nI (8 * v)) (nI (d + 1)) lm ξ = lp_Mo_isFlat_6 (nI (8 * v)) (nI (d + 1)) lm ξ (F + 1 + 1 + 1) 1 (nI 0) := by unfold m_Mo_isFlat; rw [hF, show (0 : Int32) = nI 0 from rfl]
  rw [e1, e2]
  rcases hd with rfl | rfl
  · rw [cS _ 0 (by omega), mS _ 0 (by omega), cE _ (0 + 1) (by omega) (by omega), mE _ (0 + 1) 0 (by omega) (by omega), mE _ (0 + 1) 1 (by omega) (by omega)]
    by_cases w : (lm < m_Mo_size (gL ξ 375 0 (8 * v + 2 * 0 + 0) - 2 * gL ξ 375 0 (8 * v + 2 * (0 + 1) + 0) + gL ξ 375 0 (8 * v + 2 * (0 + 2) + 0)) ξ) ∨ (lm < m_Mo_size (gL ξ 375 0 (8 * v + 2 * 0 + 1) - 2 * gL ξ 375 0 (8 * v + 2 * (0 + 1) + 1) + gL ξ 375 0 (8 * v + 2 * (0 + 2) + 1)) ξ)
    · rw [if_pos w, if_pos w]; exact ⟨false, rfl, rfl⟩
    · rw [if_neg w, if_neg w]; exact ⟨true, rfl, rfl⟩
  · rw [cS _ 0 (by omega), mS _ 0 (by omega), cS _ (0 + 1) (by omega), mS _ (0 + 1) (by omega), mZ _ (0 + 1) (by omega), cE _ (0 + 1 + 1) (by omega) (by omega), mE _ (0 + 1 + 1) 0 (by omega) (by omega), mE _ (0 + 1 + 1) 1 (by omega) (by omega)]
    by_cases w : (lm < m_Mo_size (gL ξ 375 0 (8 * v + 2 * 0 + 0) - 2 * gL ξ 375 0 (8 * v + 2 * (0 + 1) + 0) + gL ξ 375 0 (8 * v + 2 * (0 + 2) + 0)) ξ) ∨ (lm < m_Mo_size (gL ξ 375 0 (8 * v + 2 * 0 + 1) - 2 * gL ξ 375 0 (8 * v + 2 * (0 + 1) + 1) + gL ξ 375 0 (8 * v + 2 * (0 + 2) + 1)) ξ)
    · rw [if_pos w, if_pos w]; exact ⟨false, rfl, rfl⟩
    · rw [if_neg w, if_neg w]
      by_cases w2 : (lm < m_Mo_size (gL ξ 375 0 (8 * v + 2 * (0 + 1) + 0) - 2 * gL ξ 375 0 (8 * v + 2 * (0 + 1 + 1) + 0) + gL ξ 375 0 (8 * v + 2 * (0 + 1 + 2) + 0)) ξ) ∨ (lm < m_Mo_size (gL ξ 375 0 (8 * v + 2 * (0 + 1) + 1) - 2 * gL ξ 375 0 (8 * v + 2 * (0 + 1 + 1) + 1) + gL ξ 375 0 (8 * v + 2 * (0 + 1 + 2) + 1)) ξ)
      · rw [if_pos w2, if_pos w2]; exact ⟨false, rfl, rfl⟩
      · rw [if_neg w2, if_neg w2]; exact ⟨true, rfl, rfl⟩
