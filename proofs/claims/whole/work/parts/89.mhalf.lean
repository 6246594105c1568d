theorem it3g {y2 y3 y4 : Int32} {A0 A2 A4 B0 B2 B4 f : Nat} {cc : Mem → Option Mem} {ξ : Mem} (hy : ¬ (2 : Int32) ≤ y4) (a0 : y2 + y4 = nI A0) (a2 : y2 + 2 + y4 = nI A2) (a4 : y2 + 4 + y4 = nI A4) (b0 : y3 + y4 = nI B0) (b2 : y3 + 2 + y4 = nI B2) (b4 : y3 + 4 + y4 = nI B4) (h0 : A0 < 128) (h2 : A2 < 128) (h4 : A4 < 128) (k0 : B0 < 128) (k2 : B2 < 128) (k4 : B4 < 128) :
    lp_Mo_halves_56 3 cc (f + 1) y2 y3 y4 ξ = lp_Mo_halves_56 3 cc f y2 y3 (y4 + 1) (sL (sL (sL (sL (sL ξ 375 0 B0 (gL ξ 375 0 A0)) 375 0 B2 (am (gL ξ 375 0 A0) (gL ξ 375 0 A2))) 375 0 B4 (am (am (gL ξ 375 0 A0) (gL ξ 375 0 A2)) (am (gL ξ 375 0 A2) (gL ξ 375 0 A4)))) 375 0 A0 (am (am (gL ξ 375 0 A0) (gL ξ 375 0 A2)) (am (gL ξ 375 0 A2) (gL ξ 375 0 A4)))) 375 0 A2 (am (gL ξ 375 0 A2) (gL ξ 375 0 A4))) := by
  have q4 : ¬ (3 : Int32) = 4 := by decide
  rw [lp_Mo_halves_56, if_neg hy, a0, a2, a4, nI_clamp (by omega), nI_clamp (by omega), nI_clamp (by omega), gu_nI h0 (by omega), ap, gu_nI h2 (by omega), ap, gu_nI h4 (by omega), ap, if_neg q4]
  unfold mj_Mo_halves_120
  rw [ap, ap, if_pos rfl, ap, b0, gu_nI k0 (by omega), ap, b2, gu_nI k2 (by omega), ap, b4, gu_nI k4 (by omega), ap, a0, gu_nI h0 (by omega), ap, a2, gu_nI h2 (by omega), ap]
  rw [nI_clamp (by omega), nI_clamp (by omega), nI_clamp (by omega), nI_clamp (by omega), nI_clamp (by omega)]
  unfold mj_Mo_halves_356
  rw [ap]
  rfl
theorem it4g {y2 y3 y4 : Int32} {A0 A2 A4 A6 B0 B2 B4 B6 f : Nat} {cc : Mem → Option Mem} {ξ : Mem} (hy : ¬ (2 : Int32) ≤ y4) (a0 : y2 + y4 = nI A0) (a2 : y2 + 2 + y4 = nI A2) (a4 : y2 + 4 + y4 = nI A4) (a6 : y2 + 6 + y4 = nI A6) (b0 : y3 + y4 = nI B0) (b2 : y3 + 2 + y4 = nI B2) (b4 : y3 + 4 + y4 = nI B4) (b6 : y3 + 6 + y4 = nI B6) (h0 : A0 < 128) (h2 : A2 < 128) (h4 : A4 < 128) (h6 : A6 < 128) (k0 : B0 < 128) (k2 : B2 < 128) (k4 : B4 < 128) (k6 : B6 < 128) :
    lp_Mo_halves_56 4 cc (f + 1) y2 y3 y4 ξ = lp_Mo_halves_56 4 cc f y2 y3 (y4 + 1) (sL (sL (sL (sL (sL (sL (sL ξ 375 0 B0 (gL ξ 375 0 A0)) 375 0 B2 (am (gL ξ 375 0 A0) (gL ξ 375 0 A2))) 375 0 B4 (am (am (gL ξ 375 0 A0) (gL ξ 375 0 A2)) (am (gL ξ 375 0 A2) (gL ξ 375 0 A4)))) 375 0 B6 (am (am (am (gL ξ 375 0 A0) (gL ξ 375 0 A2)) (am (gL ξ 375 0 A2) (gL ξ 375 0 A4))) (am (am (gL ξ 375 0 A2) (gL ξ 375 0 A4)) (am (gL ξ 375 0 A4) (gL ξ 375 0 A6))))) 375 0 A0 (am (am (am (gL ξ 375 0 A0) (gL ξ 375 0 A2)) (am (gL ξ 375 0 A2) (gL ξ 375 0 A4))) (am (am (gL ξ 375 0 A2) (gL ξ 375 0 A4)) (am (gL ξ 375 0 A4) (gL ξ 375 0 A6))))) 375 0 A2 (am (am (gL ξ 375 0 A2) (gL ξ 375 0 A4)) (am (gL ξ 375 0 A4) (gL ξ 375 0 A6)))) 375 0 A4 (am (gL ξ 375 0 A4) (gL ξ 375 0 A6))) := by
  have q3 : ¬ (4 : Int32) = 3 := by decide
  rw [lp_Mo_halves_56, if_neg hy, a0, a2, a4, a6, nI_clamp (by omega), nI_clamp (by omega), nI_clamp (by omega), nI_clamp (by omega), gu_nI h0 (by omega), ap, gu_nI h2 (by omega), ap, gu_nI h4 (by omega), ap, if_pos rfl, gu_nI h6 (by omega)]
  unfold mj_Mo_halves_120
  rw [ap, ap, if_neg q3, ap, ap, ap, ap, b0, gu_nI k0 (by omega), ap, b2, gu_nI k2 (by omega), ap, b4, gu_nI k4 (by omega), ap, b6, gu_nI k6 (by omega), ap, a0, gu_nI h0 (by omega), ap, a2, gu_nI h2 (by omega), ap, a4, gu_nI h4 (by omega), ap]
  rw [nI_clamp (by omega), nI_clamp (by omega), nI_clamp (by omega), nI_clamp (by omega), nI_clamp (by omega), nI_clamp (by omega), nI_clamp (by omega)]
  unfold mj_Mo_halves_356
  rw [ap]
  rfl
theorem ad3 (x d c : Nat) : nI x + nI d + nI c = nI (x + d + c) := by rw [nI_add, nI_add]
theorem y4lt {c : Nat} (hc : c < 2) : ¬ (2 : Int32) ≤ nI c := by rw [show (2 : Int32) = nI 2 from rfl, nle (by omega) (by omega)]; omega
theorem it3x {v c : Nat} {ξ : Mem} (hv : v ≤ 10) (hc : c < 2) : ∃ ξ1, (∀ f cc, lp_Mo_halves_56 3 cc (f + 1) (nI (8 * v)) (nI (8 * v + 8)) (nI c) ξ = lp_Mo_halves_56 3 cc f (nI (8 * v)) (nI (8 * v + 8)) (nI c + 1) ξ1) ∧ gI ξ1 = gI ξ ∧ (∀ k l b, ¬ (k = 375 ∧ l = 0 ∧ 8 * v ≤ b ∧ b < 8 * v + 16 ∧ b % 2 = c) → gL ξ1 k l b = gL ξ k l b) ∧
    gL ξ1 375 0 (8 * v + 8 + c) = gL ξ 375 0 (8 * v + c) ∧ gL ξ1 375 0 (8 * v + 8 + 2 + c) = am (gL ξ 375 0 (8 * v + c)) (gL ξ 375 0 (8 * v + 2 + c)) ∧ gL ξ1 375 0 (8 * v + 8 + 4 + c) = am (am (gL ξ 375 0 (8 * v + c)) (gL ξ 375 0 (8 * v + 2 + c))) (am (gL ξ 375 0 (8 * v + 2 + c)) (gL ξ 375 0 (8 * v + 4 + c))) ∧
      gL ξ1 375 0 (8 * v + c) = am (am (gL ξ 375 0 (8 * v + c)) (gL ξ 375 0 (8 * v + 2 + c))) (am (gL ξ 375 0 (8 * v + 2 + c)) (gL ξ 375 0 (8 * v + 4 + c))) ∧ gL ξ1 375 0 (8 * v + 2 + c) = am (gL ξ 375 0 (8 * v + 2 + c)) (gL ξ 375 0 (8 * v + 4 + c)) ∧ gL ξ1 375 0 (8 * v + 4 + c) = gL ξ 375 0 (8 * v + 4 + c) := by
  have h := fun (f : Nat) (cc : Mem → Option Mem) => it3g (f := f) (cc := cc) (ξ := ξ) (y4lt hc) (nI_add (8 * v) c) (ad3 (8 * v) 2 c) (ad3 (8 * v) 4 c) (nI_add (8 * v + 8) c) (ad3 (8 * v + 8) 2 c) (ad3 (8 * v + 8) 4 c) (by omega) (by omega) (by omega) (by omega) (by omega) (by omega)
  refine ⟨_, h, ?_, ?_, ?_⟩
  · rfl
  · intro k l b q
    rw [gL_sL, if_neg (by omega), gL_sL, if_neg (by omega), gL_sL, if_neg (by omega), gL_sL, if_neg (by omega), gL_sL, if_neg (by omega)]
  · refine ⟨?_, ?_, ?_, ?_, ?_, ?_⟩
    · rw [gL_ne2 (by omega), gL_ne2 (by omega), gL_ne2 (by omega), gL_ne2 (by omega), gL_self]
    · rw [gL_ne2 (by omega), gL_ne2 (by omega), gL_ne2 (by omega), gL_self]
    · rw [gL_ne2 (by omega), gL_ne2 (by omega), gL_self]
    · rw [gL_ne2 (by omega), gL_self]
    · rw [gL_self]
    · rw [gL_ne2 (by omega), gL_ne2 (by omega), gL_ne2 (by omega), gL_ne2 (by omega), gL_ne2 (by omega)]
theorem it4x {v c : Nat} {ξ : Mem} (hv : v ≤ 10) (hc : c < 2) : ∃ ξ1, (∀ f cc, lp_Mo_halves_56 4 cc (f + 1) (nI (8 * v)) (nI (8 * v + 8)) (nI c) ξ = lp_Mo_halves_56 4 cc f (nI (8 * v)) (nI (8 * v + 8)) (nI c + 1) ξ1) ∧ gI ξ1 = gI ξ ∧ (∀ k l b, ¬ (k = 375 ∧ l = 0 ∧ 8 * v ≤ b ∧ b < 8 * v + 16 ∧ b % 2 = c) → gL ξ1 k l b = gL ξ k l b) ∧
    gL ξ1 375 0 (8 * v + 8 + c) = gL ξ 375 0 (8 * v + c) ∧ gL ξ1 375 0 (8 * v + 8 + 2 + c) = am (gL ξ 375 0 (8 * v + c)) (gL ξ 375 0 (8 * v + 2 + c)) ∧ gL ξ1 375 0 (8 * v + 8 + 4 + c) = am (am (gL ξ 375 0 (8 * v + c)) (gL ξ 375 0 (8 * v + 2 + c))) (am (gL ξ 375 0 (8 * v + 2 + c)) (gL ξ 375 0 (8 * v + 4 + c))) ∧
      gL ξ1 375 0 (8 * v + 8 + 6 + c) = am (am (am (gL ξ 375 0 (8 * v + c)) (gL ξ 375 0 (8 * v + 2 + c))) (am (gL ξ 375 0 (8 * v + 2 + c)) (gL ξ 375 0 (8 * v + 4 + c)))) (am (am (gL ξ 375 0 (8 * v + 2 + c)) (gL ξ 375 0 (8 * v + 4 + c))) (am (gL ξ 375 0 (8 * v + 4 + c)) (gL ξ 375 0 (8 * v + 6 + c)))) ∧
      gL ξ1 375 0 (8 * v + c) = am (am (am (gL ξ 375 0 (8 * v + c)) (gL ξ 375 0 (8 * v + 2 + c))) (am (gL ξ 375 0 (8 * v + 2 + c)) (gL ξ 375 0 (8 * v + 4 + c)))) (am (am (gL ξ 375 0 (8 * v + 2 + c)) (gL ξ 375 0 (8 * v + 4 + c))) (am (gL ξ 375 0 (8 * v + 4 + c)) (gL ξ 375 0 (8 * v + 6 + c)))) ∧
      gL ξ1 375 0 (8 * v + 2 + c) = am (am (gL ξ 375 0 (8 * v + 2 + c)) (gL ξ 375 0 (8 * v + 4 + c))) (am (gL ξ 375 0 (8 * v + 4 + c)) (gL ξ 375 0 (8 * v + 6 + c))) ∧ gL ξ1 375 0 (8 * v + 4 + c) = am (gL ξ 375 0 (8 * v + 4 + c)) (gL ξ 375 0 (8 * v + 6 + c)) ∧ gL ξ1 375 0 (8 * v + 6 + c) = gL ξ 375 0 (8 * v + 6 + c) := by
  have h := fun (f : Nat) (cc : Mem → Option Mem) => it4g (f := f) (cc := cc) (ξ := ξ) (y4lt hc) (nI_add (8 * v) c) (ad3 (8 * v) 2 c) (ad3 (8 * v) 4 c) (ad3 (8 * v) 6 c) (nI_add (8 * v + 8) c) (ad3 (8 * v + 8) 2 c) (ad3 (8 * v + 8) 4 c) (ad3 (8 * v + 8) 6 c) (by omega) (by omega) (by omega) (by omega) (by omega) (by omega) (by omega) (by omega)
  refine ⟨_, h, ?_, ?_, ?_⟩
  · rfl
  · intro k l b q
    rw [gL_sL, if_neg (by omega), gL_sL, if_neg (by omega), gL_sL, if_neg (by omega), gL_sL, if_neg (by omega), gL_sL, if_neg (by omega), gL_sL, if_neg (by omega), gL_sL, if_neg (by omega)]
  · refine ⟨?_, ?_, ?_, ?_, ?_, ?_, ?_, ?_⟩
    · rw [gL_ne2 (by omega), gL_ne2 (by omega), gL_ne2 (by omega), gL_ne2 (by omega), gL_ne2 (by omega), gL_ne2 (by omega), gL_self]
    · rw [gL_ne2 (by omega), gL_ne2 (by omega), gL_ne2 (by omega), gL_ne2 (by omega), gL_ne2 (by omega), gL_self]
    · rw [gL_ne2 (by omega), gL_ne2 (by omega), gL_ne2 (by omega), gL_ne2 (by omega), gL_self]
    · rw [gL_ne2 (by omega), gL_ne2 (by omega), gL_ne2 (by omega), gL_self]
    · rw [gL_ne2 (by omega), gL_ne2 (by omega), gL_self]
    · rw [gL_ne2 (by omega), gL_self]
    · rw [gL_self]
    · rw [gL_ne2 (by omega), gL_ne2 (by omega), gL_ne2 (by omega), gL_ne2 (by omega), gL_ne2 (by omega), gL_ne2 (by omega), gL_ne2 (by omega)]
/-- the model halves the piece at the top of its stack -/
def MH (v d h : Nat) (ξ ξ' : Mem) : Prop := (∀ k l b, ¬ (k = 376 ∧ l = 0 ∧ (b = v ∨ b = v + 1)) → ¬ (k = 12 ∧ l = 0 ∧ b = 37) → gI ξ' k l b = gI ξ k l b) ∧ gI ξ' 376 0 v = nI (h + 1) ∧ gI ξ' 376 0 (v + 1) = nI (h + 1) ∧ gI ξ' 12 0 37 = nI (v + 2) ∧
  (∀ k l b, ¬ (k = 375 ∧ l = 0 ∧ 8 * v ≤ b ∧ b < 8 * v + 16) → gL ξ' k l b = gL ξ k l b) ∧
  ∀ c, c < 2 → (d = 2 → gL ξ' 375 0 (8 * v + 8 + c) = gL ξ 375 0 (8 * v + c) ∧ gL ξ' 375 0 (8 * v + 8 + 2 + c) = am (gL ξ 375 0 (8 * v + c)) (gL ξ 375 0 (8 * v + 2 + c)) ∧ gL ξ' 375 0 (8 * v + 8 + 4 + c) = am (am (gL ξ 375 0 (8 * v + c)) (gL ξ 375 0 (8 * v + 2 + c))) (am (gL ξ 375 0 (8 * v + 2 + c)) (gL ξ 375 0 (8 * v + 4 + c))) ∧
      gL ξ' 375 0 (8 * v + c) = am (am (gL ξ 375 0 (8 * v + c)) (gL ξ 375 0 (8 * v + 2 + c))) (am (gL ξ 375 0 (8 * v + 2 + c)) (gL ξ 375 0 (8 * v + 4 + c))) ∧ gL ξ' 375 0 (8 * v + 2 + c) = am (gL ξ 375 0 (8 * v + 2 + c)) (gL ξ 375 0 (8 * v + 4 + c)) ∧ gL ξ' 375 0 (8 * v + 4 + c) = gL ξ 375 0 (8 * v + 4 + c)) ∧
    (d = 3 → gL ξ' 375 0 (8 * v + 8 + c) = gL ξ 375 0 (8 * v + c) ∧ gL ξ' 375 0 (8 * v + 8 + 2 + c) = am (gL ξ 375 0 (8 * v + c)) (gL ξ 375 0 (8 * v + 2 + c)) ∧ gL ξ' 375 0 (8 * v + 8 + 4 + c) = am (am (gL ξ 375 0 (8 * v + c)) (gL ξ 375 0 (8 * v + 2 + c))) (am (gL ξ 375 0 (8 * v + 2 + c)) (gL ξ 375 0 (8 * v + 4 + c))) ∧
      gL ξ' 375 0 (8 * v + 8 + 6 + c) = am (am (am (gL ξ 375 0 (8 * v + c)) (gL ξ 375 0 (8 * v + 2 + c))) (am (gL ξ 375 0 (8 * v + 2 + c)) (gL ξ 375 0 (8 * v + 4 + c)))) (am (am (gL ξ 375 0 (8 * v + 2 + c)) (gL ξ 375 0 (8 * v + 4 + c))) (am (gL ξ 375 0 (8 * v + 4 + c)) (gL ξ 375 0 (8 * v + 6 + c)))) ∧
      gL ξ' 375 0 (8 * v + c) = am (am (am (gL ξ 375 0 (8 * v + c)) (gL ξ 375 0 (8 * v + 2 + c))) (am (gL ξ 375 0 (8 * v + 2 + c)) (gL ξ 375 0 (8 * v + 4 + c)))) (am (am (gL ξ 375 0 (8 * v + 2 + c)) (gL ξ 375 0 (8 * v + 4 + c))) (am (gL ξ 375 0 (8 * v + 4 + c)) (gL ξ 375 0 (8 * v + 6 + c)))) ∧
      gL ξ' 375 0 (8 * v + 2 + c) = am (am (gL ξ 375 0 (8 * v + 2 + c)) (gL ξ 375 0 (8 * v + 4 + c))) (am (gL ξ 375 0 (8 * v + 4 + c)) (gL ξ 375 0 (8 * v + 6 + c))) ∧ gL ξ' 375 0 (8 * v + 4 + c) = am (gL ξ 375 0 (8 * v + 4 + c)) (gL ξ 375 0 (8 * v + 6 + c)) ∧ gL ξ' 375 0 (8 * v + 6 + c) = gL ξ 375 0 (8 * v + 6 + c))
theorem halves_M {v d h : Nat} {ξ : Mem} (hd : d = 2 ∨ d = 3) (hv : v ≤ 10) (h37 : gI ξ 12 0 37 = nI (v + 1)) (h376 : gI ξ 376 0 v = nI h) : ∃ ξ', m_Mo_halves (nI (d + 1)) ξ = some ξ' ∧ MH v d h ξ ξ' := by
  have n1 : nI h + 1 = nI (h + 1) := nI_add h 1
  have n2 : nI (v + 1) + 1 = nI (v + 2) := nI_add (v + 1) 1
  have s1 : nI (v + 1) - 1 = nI v := by rw [nsub1 (by omega)]; rfl
  have m8 : ∀ x, (8 : Int32) * nI x = nI (8 * x) := fun x => by rw [show (8 : Int32) = nI 8 from rfl, pk_mul]
  obtain ⟨ξ0, hξ0⟩ : ∃ ξ0, ξ0 = sI (sI ξ 376 0 v (nI (h + 1))) 376 0 (v + 1) (nI (h + 1)) := ⟨_, rfl⟩
  have e0 : m_Mo_halves (nI (d + 1)) ξ = lp_Mo_halves_56 (nI (d + 1)) (mj_Mo_halves_362 (nI (d + 1))) FU (nI (8 * v)) (nI (8 * v + 8)) (nI 0) ξ0 := by
    unfold m_Mo_halves
    rw [hξ0, h37, s1, m8, m8, show 8 * (v + 1) = 8 * v + 8 by omega]
    simp (disch := omega) only [ap, gu_nI, nI_clamp, h376, n1, gI_ne, h37, s1, gI_self]
    rw [show (0 : Int32) = nI 0 from rfl]
  have k37 : gI ξ0 12 0 37 = nI (v + 1) := by rw [hξ0, gI_ne (by omega), gI_ne (by omega), h37]
  have g0 : ∀ k l b, gL ξ0 k l b = gL ξ k l b := fun k l b => by rw [hξ0]; rfl
  have g1 : ∀ k l b, ¬ (k = 376 ∧ l = 0 ∧ (b = v ∨ b = v + 1)) → gI ξ0 k l b = gI ξ k l b := fun k l b q => by rw [hξ0, gI_sI, if_neg (by omega), gI_sI, if_neg (by omega)]
  have g2 : gI ξ0 376 0 v = nI (h + 1) := by rw [hξ0, gI_ne2 (by omega), gI_self]
  have g3 : gI ξ0 376 0 (v + 1) = nI (h + 1) := by rw [hξ0, gI_self]
  rw [e0]
  obtain ⟨F, hF⟩ : ∃ F, FU = F + 1 + 1 + 1 := ⟨99997, rfl⟩
  have ex : ∀ (n' : Int32) (cc : Mem → Option Mem) ξ1, lp_Mo_halves_56 n' cc (F + 1) (nI (8 * v)) (nI (8 * v + 8)) (nI (0 + 1 + 1)) ξ1 = cc ξ1 := fun n' cc ξ1 => by
    rw [lp_Mo_halves_56, if_pos (show (2 : Int32) ≤ nI (0 + 1 + 1) from by decide)]
  have fin : ∀ (n' : Int32) ξ2, gI ξ2 = gI ξ0 → mj_Mo_halves_362 n' ξ2 = some (sI ξ2 12 0 37 (nI (v + 2))) := fun n' ξ2 q => by
    unfold mj_Mo_halves_362
    simp only [ap]
    rw [q, k37, n2]
  have top : ∀ ξ2, gI ξ2 = gI ξ0 → (∀ k l b, ¬ (k = 376 ∧ l = 0 ∧ (b = v ∨ b = v + 1)) → ¬ (k = 12 ∧ l = 0 ∧ b = 37) → gI (sI ξ2 12 0 37 (nI (v + 2))) k l b = gI ξ k l b) ∧ gI (sI ξ2 12 0 37 (nI (v + 2))) 376 0 v = nI (h + 1) ∧ gI (sI ξ2 12 0 37 (nI (v + 2))) 376 0 (v + 1) = nI (h + 1) ∧ gI (sI ξ2 12 0 37 (nI (v + 2))) 12 0 37 = nI (v + 2) := fun ξ2 q =>
    ⟨fun k l b q1 q2 => by rw [gI_sI, if_neg q2, q]; exact g1 k l b q1, by rw [gI_ne (by omega), q]; exact g2, by rw [gI_ne (by omega), q]; exact g3, gI_self⟩
  rw [hF]
  rcases hd with rfl | rfl
  · obtain ⟨ξ1, a1, a2, a3, a4⟩ := it3x (ξ := ξ0) hv (show 0 < 2 by omega)
    obtain ⟨ξ2, b1, b2, b3, b4⟩ := it3x (ξ := ξ1) hv (show 1 < 2 by omega)
    obtain ⟨t1, t2, t3, t4⟩ := top ξ2 (b2.trans a2)
    refine ⟨sI ξ2 12 0 37 (nI (v + 2)), ?_, t1, t2, t3, t4, fun k l b q => ?_, fun c hc => ⟨fun _ => ?_, fun q => by omega⟩⟩
    · rw [show nI (2 + 1) = 3 from rfl, a1, show nI 0 + 1 = nI 1 from rfl, b1, show nI 1 + 1 = nI (0 + 1 + 1) from rfl, ex]
      exact fin 3 ξ2 (b2.trans a2)
    · rw [gL_sI, b3 k l b (by omega), a3 k l b (by omega), g0]
    · rcases (show c = 0 ∨ c = 1 by omega) with rfl | rfl
      · simp only [gL_sI]
        rw [b3 375 0 (8 * v + 8 + 0) (by omega), b3 375 0 (8 * v + 8 + 2 + 0) (by omega), b3 375 0 (8 * v + 8 + 4 + 0) (by omega), b3 375 0 (8 * v + 0) (by omega), b3 375 0 (8 * v + 2 + 0) (by omega), b3 375 0 (8 * v + 4 + 0) (by omega), ← g0, ← g0, ← g0]
        exact a4
      · simp only [gL_sI]
        rw [← g0 375 0 (8 * v + 1), ← g0 375 0 (8 * v + 2 + 1), ← g0 375 0 (8 * v + 4 + 1), ← a3 375 0 (8 * v + 1) (by omega), ← a3 375 0 (8 * v + 2 + 1) (by omega), ← a3 375 0 (8 * v + 4 + 1) (by omega)]
        exact b4
  · obtain ⟨ξ1, a1, a2, a3, a4⟩ := it4x (ξ := ξ0) hv (show 0 < 2 by omega)
    obtain ⟨ξ2, b1, b2, b3, b4⟩ := it4x (ξ := ξ1) hv (show 1 < 2 by omega)
    obtain ⟨t1, t2, t3, t4⟩ := top ξ2 (b2.trans a2)
    refine ⟨sI ξ2 12 0 37 (nI (v + 2)), ?_, t1, t2, t3, t4, fun k l b q => ?_, fun c hc => ⟨fun q => by omega, fun _ => ?_⟩⟩
    · rw [show nI (3 + 1) = 4 from rfl, a1, show nI 0 + 1 = nI 1 from rfl, b1, show nI 1 + 1 = nI (0 + 1 + 1) from rfl, ex]
      exact fin 4 ξ2 (b2.trans a2)
    · rw [gL_sI, b3 k l b (by omega), a3 k l b (by omega), g0]
    · rcases (show c = 0 ∨ c = 1 by omega) with rfl | rfl
      · simp only [gL_sI]
        rw [b3 375 0 (8 * v + 8 + 0) (by omega), b3 375 0 (8 * v + 8 + 2 + 0) (by omega), b3 375 0 (8 * v + 8 + 4 + 0) (by omega), b3 375 0 (8 * v + 8 + 6 + 0) (by omega), b3 375 0 (8 * v + 0) (by omega), b3 375 0 (8 * v + 2 + 0) (by omega), b3 375 0 (8 * v + 4 + 0) (by omega), b3 375 0 (8 * v + 6 + 0) (by omega), ← g0, ← g0, ← g0, ← g0]
        exact a4
      · simp only [gL_sI]
        rw [← g0 375 0 (8 * v + 1), ← g0 375 0 (8 * v + 2 + 1), ← g0 375 0 (8 * v + 4 + 1), ← g0 375 0 (8 * v + 6 + 1), ← a3 375 0 (8 * v + 1) (by omega), ← a3 375 0 (8 * v + 2 + 1) (by omega), ← a3 375 0 (8 * v + 4 + 1) (by omega), ← a3 375 0 (8 * v + 6 + 1) (by omega)]
        exact b4
