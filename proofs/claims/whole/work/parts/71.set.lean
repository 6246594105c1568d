/-- while a line is set: the class's memory ν and the model's memory ξ, both come from μ -/
def StM (μ ξ : Mem) : Prop := (∀ k, k ∈ [341, 342, 399, 400, 401, 402, 403, 405, 407] → gI ξ k = gI μ k) ∧ gI ξ 12 0 0 = gI μ 12 0 0 ∧ gI ξ 12 0 64 = gI μ 12 0 64 ∧ gI ξ 12 0 66 = gI μ 12 0 66
def StC (μ ν : Mem) : Prop := Un [205, 206, 207, 1508, 1509] μ ν
def sz (μ : Mem) (q : Nat) : Nat := if gI μ 600 2 q = -1 then 2 else 3
theorem sz_le {μ : Mem} {q : Nat} : 2 ≤ sz μ q ∧ sz μ q ≤ 3 := by unfold sz; split <;> omega
theorem size_C {μ ν : Mem} {q : Nat} (h : gI ν 600 = gI μ 600) (hq : q < 40) : m_Li_sizeOf (nI q) ν = some (nI (sz μ q)) := by
  unfold m_Li_sizeOf sz
  rw [show (2 : Int32) = nI 2 from rfl, gu_nI (by omega) (by omega), gu_nI hq (by omega), nI_clamp (by omega), nI_clamp (by omega), h]
  by_cases w : gI μ 600 2 q = -1
  · rw [if_pos w, if_pos w]
  · rw [if_neg w, if_neg w]; rfl
theorem size_M {μ ξ : Mem} {q : Nat} (h : gI ξ 405 0 (4 * q + 2) = gI μ 600 2 q) (hq : q < 40) : m_Mo_manyOf (nI q) ξ = some (nI (sz μ q)) := by
  unfold m_Mo_manyOf sz
  rw [show (4 : Int32) * nI q + 2 = nI (4 * q + 2) from ix4 q 2, gu_nI (by omega) (by omega), nI_clamp (by omega), h]
  by_cases w : gI μ 600 2 q = -1
  · rw [if_pos w, if_pos w]; rfl
  · rw [if_neg w, if_neg w]; rfl
/-- rule q fits at sign y -/
def FTS (μ : Mem) (S q y : Nat) : Prop := y + sz μ q ≤ S ∧ ∀ i, i < sz μ q → gI μ 600 i q = gI μ 203 0 (y + i)
theorem fits_lp_C {μ ν : Mem} {S q y m : Nat} (h6 : gI ν 600 = gI μ 600) (h2 : gI ν 203 = gI μ 203) (hS : S ≤ 60) (hq : q < 40) (hm : m ≤ 3) (hy : y + m ≤ S) : ∀ f i, i ≤ m → m - i < f →
    ((∀ j, i ≤ j → j < m → gI μ 600 j q = gI μ 203 0 (y + j)) ∧ lp_Li_fitsAt_21 (nI q) (nI y) ν f (nI m) (nI i) = some true) ∨ ((¬ ∀ j, i ≤ j → j < m → gI μ 600 j q = gI μ 203 0 (y + j)) ∧ lp_Li_fitsAt_21 (nI q) (nI y) ν f (nI m) (nI i) = some false) := by
  intro f
  induction f with
  | zero => intro i h1 h2; omega
  | succ f ih =>
    intro i h1 h3
    by_cases h : i = m
    · left
      exact ⟨fun j _ _ => by omega, by simp (disch := omega) only [lp_Li_fitsAt_21, h, nle, Nat.le_refl, if_true]⟩
    · have q1 : ¬ m ≤ i := by omega
      have n1 : nI i + 1 = nI (i + 1) := nI_add i 1
      have n2 : nI y + nI i = nI (y + i) := nI_add y i
      have z : 3 * 0 + i = i := by omega
      have e1 : lp_Li_fitsAt_21 (nI q) (nI y) ν (f + 1) (nI m) (nI i) = if gI μ 600 i q = gI μ 203 0 (y + i) then lp_Li_fitsAt_21 (nI q) (nI y) ν f (nI m) (nI (i + 1)) else some false := by
        simp (disch := omega) only [lp_Li_fitsAt_21, nle, q1, if_false, gu_nI, n2, nI_clamp, z, h6, h2, ap, n1]
      rw [e1]
      by_cases g : gI μ 600 i q = gI μ 203 0 (y + i)
      · rw [if_pos g]
        rcases ih (i + 1) (by omega) (by omega) with ⟨w, r⟩ | ⟨w, r⟩
        · left
          refine ⟨fun j j1 j2 => ?_, r⟩
          by_cases w3 : j = i
          · subst w3; exact g
          · exact w j (by omega) j2
        · right
          exact ⟨fun q => w fun j j1 j2 => q j (by omega) j2, r⟩
      · rw [if_neg g]
        right
        exact ⟨fun q => g (q i (by omega) (by omega)), rfl⟩
theorem fits_C {μ ν : Mem} {S q y : Nat} (h6 : gI ν 600 = gI μ 600) (h2 : gI ν 203 = gI μ 203) (h5 : gI ν 5 0 4 = nI S) (hS : S ≤ 60) (hq : q < 40) (hy : y < 100) : (FTS μ S q y ∧ m_Li_fitsAt (nI q) (nI y) ν = some true) ∨ (¬ FTS μ S q y ∧ m_Li_fitsAt (nI q) (nI y) ν = some false) := by
  obtain ⟨s1, s2⟩ := sz_le (μ := μ) (q := q)
  have n2 : nI y + nI (sz μ q) = nI (y + sz μ q) := nI_add _ _
  by_cases w : y + sz μ q ≤ S
  · have e1 : m_Li_fitsAt (nI q) (nI y) ν = lp_Li_fitsAt_21 (nI q) (nI y) ν FU (nI (sz μ q)) 0 := by
      unfold m_Li_fitsAt
      rw [size_C h6 hq]
      simp (disch := omega) only [Option.bind_some, n2, h5, nle, w, if_true]
    rw [e1]
    rcases fits_lp_C (m := sz μ q) h6 h2 hS hq s2 w FU 0 (by omega) (by unfold FU; omega) with ⟨v, r⟩ | ⟨v, r⟩
    · left; exact ⟨⟨w, fun i hi => v i (by omega) hi⟩, r⟩
    · right; exact ⟨fun q => v fun j _ h => q.2 j h, r⟩
  · right
    refine ⟨fun q => w q.1, ?_⟩
    unfold m_Li_fitsAt
    rw [size_C h6 hq]
    simp (disch := omega) only [Option.bind_some, n2, h5, nle, w, if_false]
theorem fits_M {μ ξ : Mem} {S q y m : Nat} {b r : Int32} {c : Int32 → Int32 → Int32 → Option Int32} (h6 : ∀ i, i < 3 → gI ξ 405 0 (4 * q + i) = gI μ 600 i q) (h2 : ∀ k, k < S → gI ξ 407 0 k = gI μ 203 0 k) (hS : S ≤ 60) (hq : q < 40) (hm : m ≤ 3) (hy : y + m ≤ S) : ∀ f i, i ≤ m → m - i + 1 < f →
    ((∀ j, i ≤ j → j < m → gI μ 600 j q = gI μ 203 0 (y + j)) ∧ lp_Mo_ruleAt_55 (nI y) ξ c f b (nI q) (nI m) 1 (nI i) = c b (nI q) 1) ∨ ((¬ ∀ j, i ≤ j → j < m → gI μ 600 j q = gI μ 203 0 (y + j)) ∧ lp_Mo_ruleAt_55 (nI y) ξ c f b (nI q) (nI m) 1 (nI i) = c b (nI q) 0) := by
  intro f
  induction f with
  | zero => intro i h1 h2; omega
  | succ f ih =>
    intro i h1 h3
    by_cases h : i = m
    · left
      exact ⟨fun j _ _ => by omega, by simp (disch := omega) only [lp_Mo_ruleAt_55, h, nle, Nat.le_refl, if_true]⟩
    · have q1 : ¬ m ≤ i := by omega
      have n1 : nI i + 1 = nI (i + 1) := nI_add i 1
      have n2 : nI y + nI i = nI (y + i) := nI_add y i
      have z : ¬ (1 : Int32) = 0 := by decide
      have e1 : lp_Mo_ruleAt_55 (nI y) ξ c (f + 1) b (nI q) (nI m) 1 (nI i) = if gI μ 600 i q = gI μ 203 0 (y + i) then lp_Mo_ruleAt_55 (nI y) ξ c f b (nI q) (nI m) 1 (nI (i + 1)) else lp_Mo_ruleAt_55 (nI y) ξ c f b (nI q) (nI m) 0 (nI (i + 1)) := by
        simp (disch := omega) only [lp_Mo_ruleAt_55, nle, q1, if_false, z, ix4, gu_nI, n2, nI_clamp, h6, h2, mj_Mo_ruleAt_95, ap, n1]
      rw [e1]
      by_cases g : gI μ 600 i q = gI μ 203 0 (y + i)
      · rw [if_pos g]
        rcases ih (i + 1) (by omega) (by omega) with ⟨w, r⟩ | ⟨w, r⟩
        · left
          refine ⟨fun j j1 j2 => ?_, r⟩
          by_cases w3 : j = i
          · subst w3; exact g
          · exact w j (by omega) j2
        · right
          exact ⟨fun q => w fun j j1 j2 => q j (by omega) j2, r⟩
      · rw [if_neg g]
        right
        refine ⟨fun q => g (q i (by omega) (by omega)), ?_⟩
        obtain ⟨f', rfl⟩ : ∃ f', f = f' + 1 := ⟨f - 1, by omega⟩
        simp only [lp_Mo_ruleAt_55, if_true, ite_self]
theorem rule_both {μ ν ξ : Mem} {n : Nat} (I : InvN n μ) (hν : StC μ ν) (hξ : StM μ ξ) {R S y : Nat} (hR : R ≤ 40) (hS : S ≤ 60) (hy : y < 100) (r1 : gI μ 5 0 2 = nI R) (r2 : gI μ 12 0 64 = nI R) (s1 : gI μ 5 0 4 = nI S) (s2 : gI μ 12 0 66 = nI S)
    (r3 : ∀ k, k < R → ∀ i, i < 3 → gI μ 405 0 (4 * k + i) = gI μ 600 i k) (s3 : ∀ k, k < S → gI μ 407 0 k = gI μ 203 0 k) : ∀ f k b, k ≤ R → R - k < f → (b = -1 ∨ ∃ q, q < R ∧ b = nI q) →
    ∃ r, lp_Li_ruleAt_4 (nI y) ν f b (nI k) = some r ∧ lp_Mo_ruleAt_4 (nI y) ξ f b (nI k) = some r ∧ (r = -1 ∨ ∃ q, q < R ∧ r = nI q) := by
  have c2 : gI ν 5 0 2 = nI R := by rw [(eqF hν 5 2 (by decide) (by decide) 0).1, r1]
  have c4 : gI ν 5 0 4 = nI S := by rw [(eqF hν 5 4 (by decide) (by decide) 0).1, s1]
  have c600 : gI ν 600 = gI μ 600 := (eqA hν 600 (by decide) (by decide)).1
  have c203 : gI ν 203 = gI μ 203 := (eqA hν 203 (by decide) (by decide)).1
  have d64 : gI ξ 12 0 64 = nI R := by rw [hξ.2.2.1, r2]
  have d66 : gI ξ 12 0 66 = nI S := by rw [hξ.2.2.2, s2]
  have d405 : gI ξ 405 = gI μ 405 := hξ.1 405 (by decide)
  have d407 : gI ξ 407 = gI μ 407 := hξ.1 407 (by decide)
  have h6 : ∀ k, k < R → ∀ i, i < 3 → gI ξ 405 0 (4 * k + i) = gI μ 600 i k := fun k hk i hi => by rw [d405]; exact r3 k hk i hi
  have h2 : ∀ k, k < S → gI ξ 407 0 k = gI μ 203 0 k := fun k hk => by rw [d407]; exact s3 k hk
  intro f
  induction f with
  | zero => intro k b h1 h2; omega
  | succ f ih =>
    intro k b h1 h3 hb
    by_cases h : k = R
    · refine ⟨b, ?_, ?_, hb⟩
      · simp (disch := omega) only [lp_Li_ruleAt_4, c2, h, nle, Nat.le_refl, if_true]
      · simp (disch := omega) only [lp_Mo_ruleAt_4, d64, h, nle, Nat.le_refl, if_true]
    · have hk : k < R := by omega
      have q1 : ¬ R ≤ k := by omega
      have n1 : nI k + 1 = nI (k + 1) := nI_add k 1
      obtain ⟨z1, z2⟩ := sz_le (μ := μ) (q := k)
      have n2 : nI y + nI (sz μ k) = nI (y + sz μ k) := nI_add _ _
      have zc := size_C (q := k) c600 (by omega)
      have zm := size_M (h6 k hk 2 (by omega)) (by omega : k < 40)
      have o1 : ¬ (1 : Int32) = 0 := by decide
      -- the rule fits and is longer, or not: both go on alike
      have goC : ∀ w : Int32, (w = 1 ∧ FTS μ S k y ∧ mj_Li_ruleAt_35 (nI y) ν (lp_Li_ruleAt_4 (nI y) ν f) b (nI k) w = lp_Li_ruleAt_4 (nI y) ν f (nI k) (nI (k + 1))) ∨ ((w = 1 → ¬ FTS μ S k y) ∧ (w = 1 ∨ w = 0 → mj_Li_ruleAt_35 (nI y) ν (lp_Li_ruleAt_4 (nI y) ν f) b (nI k) w = lp_Li_ruleAt_4 (nI y) ν f b (nI (k + 1)))) := by
        intro w
        by_cases w1 : w = 1
        · subst w1
          rcases fits_C c600 c203 c4 hS (show k < 40 by omega) hy with ⟨v, r⟩ | ⟨v, r⟩
          · left
            refine ⟨rfl, v, ?_⟩
            unfold mj_Li_ruleAt_35
            rw [if_neg o1, r]
            simp only [Option.bind_some, if_true, mj_Li_ruleAt_53, ap, n1]
          · right
            refine ⟨fun _ => v, fun _ => ?_⟩
            unfold mj_Li_ruleAt_35
            rw [if_neg o1, r]
            simp only [Option.bind_some, if_false, mj_Li_ruleAt_53, ap, n1]
            rfl
        · right
          refine ⟨fun q => (w1 q).elim, fun q => ?_⟩
          rcases q with q | q
          · exact (w1 q).elim
          · subst q
            unfold mj_Li_ruleAt_35
            rw [if_pos rfl]
            simp only [mj_Li_ruleAt_53, ap, n1]
      have goM1 : y + sz μ k ≤ S → (FTS μ S k y ∧ mj_Mo_ruleAt_45 (nI y) ξ (lp_Mo_ruleAt_4 (nI y) ξ f) b (nI k) (nI (sz μ k)) = lp_Mo_ruleAt_4 (nI y) ξ f (nI k) (nI (k + 1))) ∨ (¬ FTS μ S k y ∧ mj_Mo_ruleAt_45 (nI y) ξ (lp_Mo_ruleAt_4 (nI y) ξ f) b (nI k) (nI (sz μ k)) = lp_Mo_ruleAt_4 (nI y) ξ f b (nI (k + 1))) := by
        intro w
        unfold mj_Mo_ruleAt_45 mj_Mo_ruleAt_50
        rcases fits_M (b := b) (r := 0) (c := mj_Mo_ruleAt_103 (nI y) ξ (lp_Mo_ruleAt_4 (nI y) ξ f)) (h6 k hk) h2 hS (by omega) z2 w FU 0 (by omega) (by unfold FU; omega) with ⟨v, r⟩ | ⟨v, r⟩
        · left
          refine ⟨⟨w, fun i hi => v i (by omega) hi⟩, ?_⟩
          refine Eq.trans r ?_
          simp only [mj_Mo_ruleAt_103, o1, if_false, mj_Mo_ruleAt_110, ap, n1]
        · right
          refine ⟨fun q => v fun j _ hj => q.2 j hj, ?_⟩
          refine Eq.trans r ?_
          simp only [mj_Mo_ruleAt_103, if_true, mj_Mo_ruleAt_110, ap, n1]
      have goM0 : mj_Mo_ruleAt_49 (nI y) ξ (lp_Mo_ruleAt_4 (nI y) ξ f) b (nI k) (nI (sz μ k)) = lp_Mo_ruleAt_4 (nI y) ξ f b (nI (k + 1)) := by
        unfold mj_Mo_ruleAt_49 mj_Mo_ruleAt_50
        have : ∀ g, lp_Mo_ruleAt_55 (nI y) ξ (mj_Mo_ruleAt_103 (nI y) ξ (lp_Mo_ruleAt_4 (nI y) ξ f)) (g + 1) b (nI k) (nI (sz μ k)) 0 0 = lp_Mo_ruleAt_4 (nI y) ξ f b (nI (k + 1)) := by
          intro g
          simp only [lp_Mo_ruleAt_55, if_true, ite_self, mj_Mo_ruleAt_103, mj_Mo_ruleAt_110, ap, n1]
        exact this 99999
      have eM : lp_Mo_ruleAt_4 (nI y) ξ (f + 1) b (nI k) = if S < y + sz μ k then mj_Mo_ruleAt_49 (nI y) ξ (lp_Mo_ruleAt_4 (nI y) ξ f) b (nI k) (nI (sz μ k)) else if b = -1 then mj_Mo_ruleAt_45 (nI y) ξ (lp_Mo_ruleAt_4 (nI y) ξ f) b (nI k) (nI (sz μ k)) else Option.bind (m_Mo_manyOf b ξ) fun r10 => if nI (sz μ k) ≤ r10 then mj_Mo_ruleAt_49 (nI y) ξ (lp_Mo_ruleAt_4 (nI y) ξ f) b (nI k) (nI (sz μ k)) else mj_Mo_ruleAt_45 (nI y) ξ (lp_Mo_ruleAt_4 (nI y) ξ f) b (nI k) (nI (sz μ k)) := by
        simp (disch := omega) only [lp_Mo_ruleAt_4, d64, nle, q1, if_false, zm, Option.bind_some, n2, d66, nlt]
      have eC : lp_Li_ruleAt_4 (nI y) ν (f + 1) b (nI k) = if b = -1 then mj_Li_ruleAt_35 (nI y) ν (lp_Li_ruleAt_4 (nI y) ν f) b (nI k) 1 else Option.bind (m_Li_sizeOf b ν) fun r6 => if nI (sz μ k) ≤ r6 then mj_Li_ruleAt_35 (nI y) ν (lp_Li_ruleAt_4 (nI y) ν f) b (nI k) 0 else mj_Li_ruleAt_35 (nI y) ν (lp_Li_ruleAt_4 (nI y) ν f) b (nI k) 1 := by
        simp (disch := omega) only [lp_Li_ruleAt_4, c2, nle, q1, if_false, zc, Option.bind_some, mj_Li_ruleAt_30]
      obtain ⟨ra, ra1, ra2, ra3⟩ := ih (k + 1) b (by omega) (by omega) hb
      obtain ⟨rb, rb1, rb2, rb3⟩ := ih (k + 1) (nI k) (by omega) (by omega) (Or.inr ⟨k, hk, rfl⟩)
      have stay : ∀ w : Int32, (w = 1 → ¬ FTS μ S k y) → (w = 1 ∨ w = 0) → mj_Li_ruleAt_35 (nI y) ν (lp_Li_ruleAt_4 (nI y) ν f) b (nI k) w = some ra := by
        intro w v1 v2
        rcases goC w with ⟨q1, q2, q3⟩ | ⟨q1, q2⟩
        · exact (v1 q1 q2).elim
        · rw [q2 v2]; exact ra1
      have take : FTS μ S k y → mj_Li_ruleAt_35 (nI y) ν (lp_Li_ruleAt_4 (nI y) ν f) b (nI k) 1 = some rb := by
        intro v
        rcases goC 1 with ⟨q1, q2, q3⟩ | ⟨q1, q2⟩
        · rw [q3]; exact rb1
        · exact (q1 rfl v).elim
      rw [eC, eM]
      by_cases w : S < y + sz μ k
      · have nf : ¬ FTS μ S k y := fun q => by have := q.1; omega
        refine ⟨ra, ?_, by rw [if_pos w, goM0]; exact ra2, ra3⟩
        by_cases w2 : b = -1
        · rw [if_pos w2]; exact stay 1 (fun _ => nf) (Or.inl rfl)
        · rw [if_neg w2]
          rcases hb with hb | ⟨q, hq, hb⟩
          · exact (w2 hb).elim
          · rw [hb, size_C c600 (by omega)]
            simp only [Option.bind_some]
            rw [← hb]
            by_cases w3 : nI (sz μ k) ≤ nI (sz μ q)
            · rw [if_pos w3]; exact stay 0 (fun q => by cases q) (Or.inr rfl)
            · rw [if_neg w3]; exact stay 1 (fun _ => nf) (Or.inl rfl)
      · rw [if_neg w]
        by_cases w2 : b = -1
        · rw [if_pos w2, if_pos w2]
          rcases goM1 (by omega) with ⟨v, r⟩ | ⟨v, r⟩
          · exact ⟨rb, take v, by rw [r]; exact rb2, rb3⟩
          · exact ⟨ra, stay 1 (fun _ => v) (Or.inl rfl), by rw [r]; exact ra2, ra3⟩
        · rw [if_neg w2, if_neg w2]
          rcases hb with hb | ⟨q, hq, hb⟩
          · exact (w2 hb).elim
          · have y1 : m_Li_sizeOf b ν = some (nI (sz μ q)) := by rw [hb]; exact size_C c600 (by omega)
            have y2 : m_Mo_manyOf b ξ = some (nI (sz μ q)) := by rw [hb]; exact size_M (h6 q hq 2 (by omega)) (by omega)
            rw [y1, y2]
            simp only [Option.bind_some]
            by_cases w3 : nI (sz μ k) ≤ nI (sz μ q)
            · rw [if_pos w3, if_pos w3]
              exact ⟨ra, stay 0 (fun q => by cases q) (Or.inr rfl), by rw [goM0]; exact ra2, ra3⟩
            · rw [if_neg w3, if_neg w3]
              rcases goM1 (by omega) with ⟨v, r⟩ | ⟨v, r⟩
              · exact ⟨rb, take v, by rw [r]; exact rb2, rb3⟩
              · exact ⟨ra, stay 1 (fun _ => v) (Or.inl rfl), by rw [r]; exact ra2, ra3⟩
theorem lof_M {ξ : Mem} {n : Nat} {a : Int32} {cd : Nat → Int32} (h32 : n ≤ 32) (hn : gI ξ 12 0 0 = nI n) (hc : ∀ l, l < n → gI ξ 341 0 l = cd l) (hd : ∀ i j, i < n → j < n → cd i = cd j → i = j) : ∀ f k y2, k ≤ n → n - k < f →
    (∀ l, k ≤ l → l < n → cd l = a → lp_Mo_letterOf_4 a ξ f y2 (nI k) = some (nI l)) ∧ ((∀ l, k ≤ l → l < n → cd l ≠ a) → (∀ l, k ≤ l → l < n → cd l = 0 → lp_Mo_letterOf_4 a ξ f y2 (nI k) = some (nI l)) ∧ ((∀ l, k ≤ l → l < n → cd l ≠ 0) → lp_Mo_letterOf_4 a ξ f y2 (nI k) = some y2)) := by
  intro f
  induction f with
  | zero => intro k y2 h1 h2; omega
  | succ f ih =>
    intro k y2 h1 h2
    by_cases h : k = n
    · refine ⟨fun l _ _ => by omega, fun _ => ⟨fun l _ _ => by omega, fun _ => ?_⟩⟩
      simp (disch := omega) only [lp_Mo_letterOf_4, hn, h, nle, Nat.le_refl, if_true]
    · have q1 : ¬ n ≤ k := by omega
      have n1 : nI k + 1 = nI (k + 1) := nI_add k 1
      have e1 : lp_Mo_letterOf_4 a ξ (f + 1) y2 (nI k) = if cd k = a then some (nI k) else if cd k = 0 then lp_Mo_letterOf_4 a ξ f (nI k) (nI (k + 1)) else lp_Mo_letterOf_4 a ξ f y2 (nI (k + 1)) := by
        simp (disch := omega) only [lp_Mo_letterOf_4, hn, nle, q1, if_false, gu_nI, nI_clamp, hc, mj_Mo_letterOf_35, ap, n1]
      rw [e1]
      by_cases g : cd k = a
      · rw [if_pos g]
        refine ⟨fun l l1 l2 l3 => by rw [hd l k l2 (by omega) (l3.trans g.symm)], fun w => (w k (by omega) (by omega) g).elim⟩
      · rw [if_neg g]
        by_cases g0 : cd k = 0
        · rw [if_pos g0]
          obtain ⟨i1, i2⟩ := ih (k + 1) (nI k) (by omega) (by omega)
          refine ⟨fun l l1 l2 l3 => i1 l (by by_cases w : l = k; (subst w; exact (g l3).elim); omega) l2 l3, fun w => ?_⟩
          obtain ⟨i3, i4⟩ := i2 fun l l1 l2 => w l (by omega) l2
          refine ⟨fun l l1 l2 l3 => ?_, fun w2 => (w2 k (by omega) (by omega) g0).elim⟩
          have : l = k := hd l k l2 (by omega) (l3.trans g0.symm)
          subst this
          exact i4 fun j j1 j2 j3 => by have := hd j l j2 l2 (j3.trans g0.symm); omega
        · rw [if_neg g0]
          obtain ⟨i1, i2⟩ := ih (k + 1) y2 (by omega) (by omega)
          refine ⟨fun l l1 l2 l3 => i1 l (by by_cases w : l = k; (subst w; exact (g l3).elim); omega) l2 l3, fun w => ?_⟩
          obtain ⟨i3, i4⟩ := i2 fun l l1 l2 => w l (by omega) l2
          exact ⟨fun l l1 l2 l3 => i3 l (by by_cases w : l = k; (subst w; exact (g0 l3).elim); omega) l2 l3, fun w2 => i4 fun l l1 l2 => w2 l (by omega) l2⟩
/-- what is placed so far -/
def TK (n : Nat) (μ ν ξ : Mem) (s : Nat) : Prop := gI ν 5 0 8 = nI s ∧ gI ξ 12 0 68 = nI s ∧ (∀ k, k < s → gI ξ 409 0 k = gI ν 205 0 k ∧ gI ξ 410 0 k = gI ν 206 0 k ∧ gI ξ 411 0 k = gI ν 207 0 k ∧ ∃ l, l < n ∧ gI ν 205 0 k = nI l) ∧
  (s = 0 → gI ν 5 0 9 = 0) ∧ (∀ k l, l < n → s = k + 1 → gI ν 205 0 k = nI l → gI ν 5 0 9 = gI ν 206 0 k + gI μ 4 l 1)
theorem stc_sI {μ ν : Mem} {k q j : Nat} {v : Int32} (h : StC μ ν) (hk : k = 205 ∨ k = 206 ∨ k = 207 ∨ (k = 5 ∧ (j = 8 ∨ j = 9))) : StC μ (sI ν k q j v) := by
  refine Un.tr h (un_sI ?_ ?_)
  · rcases hk with rfl | rfl | rfl | ⟨rfl, rfl | rfl⟩
    · exact Or.inl (by decide)
    · exact Or.inl (by decide)
    · exact Or.inl (by decide)
    · exact Or.inr (by decide)
    · exact Or.inr (by decide)
  · rcases hk with rfl | rfl | rfl | ⟨rfl, rfl | rfl⟩ <;> decide
theorem stm_sI {μ ξ : Mem} {k q j : Nat} {v : Int32} (h : StM μ ξ) (hk : k = 409 ∨ k = 410 ∨ k = 411 ∨ (k = 12 ∧ j = 68)) : StM μ (sI ξ k q j v) := by
  obtain ⟨h1, h2, h3, h4⟩ := h
  refine ⟨fun i hi => ?_, ?_, ?_, ?_⟩
  · rw [← h1 i hi]
    funext a b
    rw [gI_ne]
    simp only [List.mem_cons, List.not_mem_nil, or_false] at hi
    omega
  · rw [gI_sI, if_neg (by omega)]; exact h2
  · rw [gI_sI, if_neg (by omega)]; exact h3
  · rw [gI_sI, if_neg (by omega)]; exact h4
theorem place_both {μ ν ξ : Mem} {n s y l : Nat} (I : InvN n μ) (hν : StC μ ν) (hξ : StM μ ξ) (T : TK n μ ν ξ s) (hs : s < 60) (hy : y < 100) (hl : l < n) {c : Int32 → Mem → Option (Int32 × Mem)} {r : Int32} :
    ∃ ν' ξ', m_Li_place (nI l) (nI y) ν = some ν' ∧ StC μ ν' ∧ StM μ ξ' ∧ TK n μ ν' ξ' (s + 1) ∧ ∀ z, m_Mo_letterOf z ξ = some (nI l) → mj_Mo_set_46 c (nI y) r z ξ = mj_Mo_set_148 c (nI y) r ξ' := by
  have h32 := I.1.1
  have A : IA n ν := IA_fr (by decide) hν I.1
  obtain ⟨t1, t2, t3, t4, t5⟩ := T
  have n1 : nI s + 1 = nI (s + 1) := nI_add s 1
  have c4 : gI ν 4 l 1 = gI μ 4 l 1 := (eqF hν 4 1 (by decide) (by decide) l).1
  have m1 : ¬ nI l = -1 := fun q => by
    have := t_eq.mp q
    rw [nI_toInt (by omega), show (-1 : Int32).toInt = -1 from rfl] at this; omega
  obtain ⟨at_, hC, hM⟩ : ∃ at_ : Int32, m_Li_place (nI l) (nI y) ν = mj_Li_place_52 (nI l) (nI y) at_ ν ∧ (∀ z, m_Mo_letterOf z ξ = some (nI l) → mj_Mo_set_46 c (nI y) r z ξ = mj_Mo_set_129 c (nI y) r (nI s) at_ (nI s) (sI ξ 409 0 s (nI l))) := by
    have q60 : ¬ 60 ≤ s := by omega
    rcases s with _ | s
    · refine ⟨0, ?_, fun z hz => ?_⟩
      · unfold m_Li_place
        rw [t1, t4 rfl]
        simp (disch := omega) only [show (60 : Int32) = nI 60 from rfl, nle, q60, if_false, gu_nI, nI_clamp, ap, A.2.2.2.1, hl, if_true, oc_some]
        rw [if_pos (show nI 0 ≤ 0 from by decide)]
      · unfold mj_Mo_set_46
        rw [hz]
        simp only [Option.bind_some, m1, if_false, ap, t2]
        rw [if_pos (show nI 0 = 0 from rfl)]
        unfold mj_Mo_set_79
        simp (disch := omega) only [gu_nI, nI_clamp, ap]
        rw [if_pos (show nI 0 = 0 from rfl)]
    · obtain ⟨k1, k2, k3, x, k4, k5⟩ := t3 s (by omega)
      have hz0 : ¬ s + 1 ≤ 0 := by omega
      have hz1 : ¬ s + 1 = 0 := by omega
      have w9 := t5 s x k4 rfl k5
      have e399 : ∀ k, 399 ≤ k → k ≤ 403 → gI (sI ξ 409 0 (s + 1) (nI l)) k = gI μ k := fun k h1 h2 => by
        rw [← hξ.1 k (by simp only [List.mem_cons, List.not_mem_nil, or_false]; omega)]
        funext a b
        rw [gI_ne (by omega)]
      obtain ⟨cc, dd, f1, f2, f3, f4, f5⟩ := kern_M I k4 hl (ν := sI ξ 409 0 (s + 1) (nI l)) e399 (by rw [gI_ne (by omega)]; exact hξ.2.1)
      have g := kern_C A k4 hl (by rw [(eqF hν 4 9 (by decide) (by decide) x).1]; exact f1) (by rw [(eqF hν 4 8 (by decide) (by decide) l).1]; exact f2) f3 f4
      have e1 : gI ν 561 = gI μ 561 := (eqA hν 561 (by decide) (by decide)).1
      have e2 : gI ν 560 = gI μ 560 := (eqA hν 560 (by decide) (by decide)).1
      rw [e1, e2] at g
      generalize (if gI μ 561 x l = 10000 then gI μ 560 cc dd else gI μ 561 x l) = kn at f5 g
      refine ⟨(gI ν 206 0 s + gI μ 4 x 1) + kn, ?_, fun z hz => ?_⟩
      · unfold m_Li_place
        rw [t1, w9]
        simp (disch := omega) only [show (60 : Int32) = nI 60 from rfl, nle, q60, if_false, gu_nI, nI_clamp, ap, A.2.2.2.1, hl, if_true, oc_some, show (0 : Int32) = nI 0 from rfl, hz0, nsub1, Nat.add_sub_cancel, k5, g, Option.bind_some]
      · unfold mj_Mo_set_46
        rw [hz]
        have i342 : gI ξ 342 0 x = gI μ 4 x 1 := by rw [hξ.1 342 (by decide)]; exact (I.1.2.2.2.2.1 x k4).2.1
        simp (disch := omega) only [Option.bind_some, m1, if_false, ap, t2, show (0 : Int32) = nI 0 from rfl, neq, hz1, nsub1, Nat.add_sub_cancel, gu_nI, nI_clamp, k1, k5]
        unfold mj_Mo_set_79
        simp (disch := omega) only [Option.bind_some, if_false, ap, show (0 : Int32) = nI 0 from rfl, neq, hz1, nsub1, Nat.add_sub_cancel, gu_nI, nI_clamp, f5, gI_ne, k2, i342]
  refine ⟨sI (sI (sI (sI (sI ν 205 0 s (nI l)) 206 0 s at_) 207 0 s (nI y)) 5 0 8 (nI (s + 1))) 5 0 9 (at_ + gI μ 4 l 1), sI (sI (sI (sI ξ 409 0 s (nI l)) 410 0 s at_) 411 0 s (nI y)) 12 0 68 (nI (s + 1)), hC.trans ?_, ?_, ?_, ?_, fun z hz => (hM z hz).trans ?_⟩
  · unfold mj_Li_place_52
    simp (disch := omega) only [t1, gu_nI, nI_clamp, ap, gI_ne, gI_self, n1, gR_sI, A.2.2.2.1, hl, if_true, Option.bind_some, c4]
  rotate_left 3
  · unfold mj_Mo_set_129
    simp (disch := omega) only [gu_nI, nI_clamp, ap, gI_ne, t2, n1]
  · exact stc_sI (stc_sI (stc_sI (stc_sI (stc_sI hν (by omega)) (by omega)) (by omega)) (by omega)) (by omega)
  · exact stm_sI (stm_sI (stm_sI (stm_sI hξ (by omega)) (by omega)) (by omega)) (by omega)
  · refine ⟨by simp (disch := omega) only [gI_ne2, gI_self], by rw [gI_self], fun k hk => ?_, fun q => by omega, fun k x hx q1 q2 => ?_⟩
    · by_cases w : k = s
      · subst w
        simp (disch := omega) only [gI_ne, gI_self]
        exact ⟨trivial, trivial, trivial, l, hl, rfl⟩
      · simp (disch := omega) only [gI_ne, gI_ne2]
        exact t3 k (by omega)
    · obtain rfl : k = s := by omega
      simp (disch := omega) only [gI_ne, gI_self] at q2
      simp (disch := omega) only [gI_ne, gI_self]
      rw [nI_inj (by omega) (by omega) q2]
theorem set_lp {μ : Mem} {n : Nat} (I : InvN n μ) {R S : Nat} (hR : R ≤ 40) (hS : S ≤ 60) (r1 : gI μ 5 0 2 = nI R) (r2 : gI μ 12 0 64 = nI R) (s1 : gI μ 5 0 4 = nI S) (s2 : gI μ 12 0 66 = nI S)
    (r3 : ∀ k, k < R → ∀ i, i < 3 → gI μ 405 0 (4 * k + i) = gI μ 600 i k) (r4 : ∀ k, k < R → gI μ 405 0 (4 * k + 3) = gI μ 201 0 k) (s3 : ∀ k, k < S → gI μ 407 0 k = gI μ 203 0 k) {c1 : Mem → Option Mem} {c2 : Mem → Option (Int32 × Mem)} :
    ∀ f y s ν ξ, y ≤ S + 3 → S + 3 - y < f → s ≤ y → s ≤ 60 → StC μ ν → StM μ ξ → TK n μ ν ξ s → ∃ s' ν' ξ', s' ≤ 60 ∧ lp_Li_compose_13 (nI n) c1 f (nI y) ν = c1 ν' ∧ lp_Mo_set_7 c2 f (nI y) ξ = c2 ξ' ∧ StC μ ν' ∧ StM μ ξ' ∧ TK n μ ν' ξ' s' := by
  have h32 := I.1.1
  intro f
  induction f with
  | zero => intro y s ν ξ h1 h2; omega
  | succ f ih =>
    intro y s ν ξ h1 h2 h3 h3' hν hξ T
    have c4 : gI ν 5 0 4 = nI S := by rw [(eqF hν 5 4 (by decide) (by decide) 0).1, s1]
    have d66 : gI ξ 12 0 66 = nI S := by rw [hξ.2.2.2, s2]
    have d405 : gI ξ 405 = gI μ 405 := hξ.1 405 (by decide)
    have d407 : gI ξ 407 = gI μ 407 := hξ.1 407 (by decide)
    have c600 : gI ν 600 = gI μ 600 := (eqA hν 600 (by decide) (by decide)).1
    have c203 : gI ν 203 = gI μ 203 := (eqA hν 203 (by decide) (by decide)).1
    have c201 : gI ν 201 = gI μ 201 := (eqA hν 201 (by decide) (by decide)).1
    by_cases h : S ≤ y
    · exact ⟨s, ν, ξ, h3', by simp (disch := omega) only [lp_Li_compose_13, c4, nle, h, if_true], by simp (disch := omega) only [lp_Mo_set_7, d66, nle, h, if_true], hν, hξ, T⟩
    · obtain ⟨r, e1, e2, e3⟩ := rule_both (R := R) (S := S) (y := y) I hν hξ hR hS (by omega) r1 r2 s1 s2 r3 s3 FU 0 (-1) (by omega) (by unfold FU; omega) (Or.inl rfl)
      have e1' : m_Li_ruleAt (nI y) ν = some r := e1
      have e2' : m_Mo_ruleAt (nI y) ξ = some r := e2
      -- the code that is looked up
      obtain ⟨z, f1, f2⟩ : ∃ z, lp_Li_compose_13 (nI n) c1 (f + 1) (nI y) ν = mj_Li_compose_53 (nI n) (lp_Li_compose_13 (nI n) c1 f) (nI y) r z ν ∧ lp_Mo_set_7 c2 (f + 1) (nI y) ξ = mj_Mo_set_46 (lp_Mo_set_7 c2 f) (nI y) r z ξ := by
        rcases e3 with rfl | ⟨q, hq, rfl⟩
        · refine ⟨gI μ 203 0 y, ?_, ?_⟩
          · simp (disch := omega) only [lp_Li_compose_13, c4, nle, h, if_false, e1', Option.bind_some, if_true, gu_nI, nI_clamp, c203]
          · simp (disch := omega) only [lp_Mo_set_7, d66, nle, h, if_false, e2', Option.bind_some, if_true, gu_nI, nI_clamp, d407, s3]
        · have m1 : ¬ nI q = -1 := fun w => by
            have := t_eq.mp w
            rw [nI_toInt (by omega), show (-1 : Int32).toInt = -1 from rfl] at this; omega
          have i4 : (4 : Int32) * nI q + 3 = nI (4 * q + 3) := ix4 q 3
          refine ⟨gI μ 201 0 q, ?_, ?_⟩
          · simp (disch := omega) only [lp_Li_compose_13, c4, nle, h, if_false, e1', Option.bind_some, m1, gu_nI, nI_clamp, c201]
          · simp (disch := omega) only [lp_Mo_set_7, d66, nle, h, if_false, e2', Option.bind_some, m1, i4, gu_nI, nI_clamp, d405, r4]
      -- going on behind
      have step : ∀ s' ν' ξ', s' ≤ y + 1 → s' ≤ 60 → StC μ ν' → StM μ ξ' → TK n μ ν' ξ' s' → ∃ s'' ν'' ξ'', s'' ≤ 60 ∧ mj_Li_compose_94 (nI n) (lp_Li_compose_13 (nI n) c1 f) (nI y) r ν' = c1 ν'' ∧ mj_Mo_set_148 (lp_Mo_set_7 c2 f) (nI y) r ξ' = c2 ξ'' ∧ StC μ ν'' ∧ StM μ ξ'' ∧ TK n μ ν'' ξ'' s'' := by
        intro s' ν' ξ' g1 g1' g2 g3 g4
        rcases e3 with rfl | ⟨q, hq, rfl⟩
        · have n1 : nI y + 1 = nI (y + 1) := nI_add y 1
          obtain ⟨s'', ν'', ξ'', k1, k2, k3, k4⟩ := ih (y + 1) s' ν' ξ' (by omega) (by omega) g1 g1' g2 g3 g4
          refine ⟨s'', ν'', ξ'', k1, ?_, ?_, k4⟩
          · rw [← k2]; simp only [mj_Li_compose_94, if_true, mj_Li_compose_112, ap, n1]
          · rw [← k3]; simp only [mj_Mo_set_148, if_true, mj_Mo_set_163, ap, n1]
        · have m1 : ¬ nI q = -1 := fun w => by
            have := t_eq.mp w
            rw [nI_toInt (by omega), show (-1 : Int32).toInt = -1 from rfl] at this; omega
          obtain ⟨z1, z2⟩ := sz_le (μ := μ) (q := q)
          have n1 : nI y + nI (sz μ q) = nI (y + sz μ q) := nI_add _ _
          have zc := size_C (q := q) ((eqA g2 600 (by decide) (by decide)).1) (by omega)
          have zm := size_M (μ := μ) (ξ := ξ') (q := q) (by rw [g3.1 405 (by decide)]; exact r3 q hq 2 (by omega)) (by omega)
          obtain ⟨s'', ν'', ξ'', k1, k2, k3, k4⟩ := ih (y + sz μ q) s' ν' ξ' (by omega) (by omega) (by omega) g1' g2 g3 g4
          refine ⟨s'', ν'', ξ'', k1, ?_, ?_, k4⟩
          · rw [← k2]; simp only [mj_Li_compose_94, m1, if_false, zc, Option.bind_some, mj_Li_compose_112, ap, n1]
          · rw [← k3]; simp only [mj_Mo_set_148, m1, if_false, zm, Option.bind_some, mj_Mo_set_163, ap, n1]
      rw [f1, f2]
      have A : IA n ν := IA_fr (by decide) hν I.1
      have hcd : ∀ l, l < n → gI ξ 341 0 l = gI ν 4 l 0 := fun l hl => by rw [hξ.1 341 (by decide), (I.1.2.2.2.2.1 l hl).1, (eqF hν 4 0 (by decide) (by decide) l).1]
      obtain ⟨L1, L2⟩ := lof_M (a := z) (cd := fun l => gI ν 4 l 0) h32 (by rw [hξ.2.1]; exact I.1.2.2.1) hcd A.2.2.2.2.2 FU 0 (-1) (by omega) (by unfold FU; omega)
      obtain ⟨x, x1, -, x3⟩ := find_both A z
      obtain ⟨w, w1, -, w3⟩ := find_both A 0
      have nm : ∀ l, l < n → ¬ nI l = -1 := fun l hl w => by
        have := t_eq.mp w
        rw [nI_toInt (by omega), show (-1 : Int32).toInt = -1 from rfl] at this; omega
      -- a letter is found
      have found : ∀ l, l < n → m_Mo_letterOf z ξ = some (nI l) → mj_Li_compose_53 (nI n) (lp_Li_compose_13 (nI n) c1 f) (nI y) r z ν = mj_Li_compose_78 (nI n) (lp_Li_compose_13 (nI n) c1 f) (nI y) r (nI l) ν → ∃ s' ν' ξ', s' ≤ 60 ∧ mj_Li_compose_53 (nI n) (lp_Li_compose_13 (nI n) c1 f) (nI y) r z ν = c1 ν' ∧ mj_Mo_set_46 (lp_Mo_set_7 c2 f) (nI y) r z ξ = c2 ξ' ∧ StC μ ν' ∧ StM μ ξ' ∧ TK n μ ν' ξ' s' := by
        intro l hl g1 g2
        obtain ⟨ν', ξ', p1, p2, p3, p4, p5⟩ := place_both (y := y) (l := l) (c := lp_Mo_set_7 c2 f) (r := r) I hν hξ T (by omega) (by omega) hl
        obtain ⟨s'', ν'', ξ'', k0, k1, k2, k3⟩ := step (s + 1) ν' ξ' (by omega) (by omega) p2 p3 p4
        refine ⟨s'', ν'', ξ'', k0, ?_, by rw [p5 z g1]; exact k2, k3⟩
        rw [g2, ← k1]
        simp only [mj_Li_compose_78, nm l hl, if_false, p1, Option.bind_some]
      rcases x3 with ⟨rfl, x4⟩ | ⟨l, hl, rfl, x4⟩
      · obtain ⟨L3, L4⟩ := L2 fun l _ hl => x4 l hl
        rcases w3 with ⟨rfl, w4⟩ | ⟨l, hl, rfl, w4⟩
        · have g1 : m_Mo_letterOf z ξ = some (-1) := L4 fun l _ hl => w4 l hl
          obtain ⟨s'', ν'', ξ'', k0, k1, k2, k3⟩ := step s ν ξ (by omega) h3' hν hξ T
          refine ⟨s'', ν'', ξ'', k0, ?_, ?_, k3⟩
          · rw [← k1]; simp only [mj_Li_compose_53, x1, Option.bind_some, if_true, w1, mj_Li_compose_78]
          · rw [← k2]; simp only [mj_Mo_set_46, g1, Option.bind_some, if_true]
        · refine found l hl (L3 l (by omega) hl w4) ?_
          simp only [mj_Li_compose_53, x1, Option.bind_some, if_true, w1]
      · refine found l hl (L1 l (by omega) hl x4) ?_
        simp only [mj_Li_compose_53, x1, Option.bind_some, nm l hl, if_false]
theorem op_set {μ : Mem} {n : Nat} (I : InvN n μ) : ∃ r ν1 ν2, m_Fo_set μ = some (r, ν1) ∧ m_Mo_set ν1 = some (r, ν2) ∧ InvN n ν2 := by
  obtain ⟨R, hR, r1, r2, r3⟩ := I.2.2.2.2.2.2.2.2.1
  obtain ⟨S, hS, s1, s2, s3⟩ := I.2.2.2.2.2.2.2.2.2.1
  have A : ∀ ξ0, StM μ ξ0 → ∃ s' ν' ξ', s' ≤ 60 ∧ m_Fo_set μ = some (nI s', sI ν' 5 0 4 0) ∧ lp_Mo_set_7 mj_Mo_set_168 FU 0 (sI ξ0 12 0 68 0) = some (nI s', sI ξ' 12 0 66 0) ∧ StC μ ν' ∧ StM μ ξ' ∧ TK n μ ν' ξ' s' := by
    intro ξ0 h0
    have hc : StC μ (sI (sI μ 5 0 8 0) 5 0 9 0) := stc_sI (stc_sI Un.rf (by omega)) (by omega)
    have hm : StM μ (sI ξ0 12 0 68 0) := stm_sI h0 (by omega)
    have ht : TK n μ (sI (sI μ 5 0 8 0) 5 0 9 0) (sI ξ0 12 0 68 0) 0 := ⟨by simp (disch := omega) only [gI_ne2, gI_self]; rfl, by rw [gI_self]; rfl, fun k hk => by omega, fun _ => by rw [gI_self], fun k l _ h => by omega⟩
    obtain ⟨s', ν', ξ', k0, k1, k2, k3, k4, k5⟩ := set_lp (c1 := mj_Li_compose_118 (nI n)) (c2 := mj_Mo_set_168) I hR hS r1 r2 s1 s2 (fun k hk => (r3 k hk).1) (fun k hk => (r3 k hk).2.1) (fun k hk => (s3 k hk).1) FU 0 0 _ _ (by omega) (by unfold FU; omega) (by omega) (by omega) hc hm ht
    refine ⟨s', ν', ξ', k0, ?_, ?_, k3, k4, k5⟩
    · unfold m_Fo_set m_Li_compose
      rw [I.1.2.1]
      simp only [ap]
      rw [show lp_Li_compose_13 (nI n) (mj_Li_compose_118 (nI n)) FU 0 (sI (sI μ 5 0 8 0) 5 0 9 0) = _ from k1]
      unfold mj_Li_compose_118
      simp (disch := omega) only [ap, Option.bind_some, gI_ne2, k5.1]
    · rw [show lp_Mo_set_7 mj_Mo_set_168 FU 0 (sI ξ0 12 0 68 0) = _ from k2]
      unfold mj_Mo_set_168
      simp (disch := omega) only [ap, gI_ne2, k5.2.1]
  have m0 : StM μ μ := ⟨fun _ _ => rfl, rfl, rfl, rfl⟩
  obtain ⟨s1', ν', _, _, e1, _, hν, _⟩ := A μ m0
  have m1 : StM μ (sI ν' 5 0 4 0) := by
    refine ⟨fun k hk => ?_, ?_, ?_, ?_⟩
    · have hk' := hk
      simp only [List.mem_cons, List.not_mem_nil, or_false] at hk'
      funext a b
      rw [gI_ne (by omega), (eqA hν k (by omega) (by simp only [List.mem_cons, List.not_mem_nil, or_false]; omega)).1]
    · rw [gI_ne (by omega), (eqF hν 12 0 (by decide) (by decide) 0).1]
    · rw [gI_ne (by omega), (eqF hν 12 64 (by decide) (by decide) 0).1]
    · rw [gI_ne (by omega), (eqF hν 12 66 (by decide) (by decide) 0).1]
  obtain ⟨s', ν'', ξ', k0, e2, e3, hν', hξ', T⟩ := A _ m1
  rw [e1] at e2
  obtain ⟨q1, q2⟩ := Prod.mk.inj (Option.some.inj e2)
  have e4 : m_Mo_set (sI ν' 5 0 4 0) = some (nI s1', sI ξ' 12 0 66 0) := by
    unfold m_Mo_set
    simp only [ap]
    rw [e3, q1]
  refine ⟨_, _, _, e1, e4, ?_⟩
  have u1 := fm_Fo_set e1
  have u2 := fm_Mo_set e4
  have u := (u1.mono (S' := [205, 206, 207, 1504, 1508, 1509, 409, 410, 411, 2266, 2268]) (by decide)).tr (u2.mono (S' := [205, 206, 207, 1504, 1508, 1509, 409, 410, 411, 2266, 2268]) (by decide))
  obtain ⟨t1, t2, t3, t4, t5⟩ := T
  have c5 : ∀ j, j ≠ 4 → j < 100 → gI (sI ξ' 12 0 66 0) 5 0 j = gI ν'' 5 0 j := fun j hj hj2 => by
    refine ((eqF u2 5 j (by decide) ?_ 0).1).trans ?_
    · simp only [List.mem_cons, List.not_mem_nil, or_false, not_or]; omega
    · show gI (sI ν' 5 0 4 0) 5 0 j = _
      rw [q2, gI_ne2 hj]
  have c54 : gI (sI ξ' 12 0 66 0) 5 0 4 = 0 := by
    refine ((eqF u2 5 4 (by decide) (by decide) 0).1).trans ?_
    show gI (sI ν' 5 0 4 0) 5 0 4 = _
    rw [gI_self]
  have c20 : ∀ k, k = 205 ∨ k = 206 ∨ k = 207 → ∀ j, gI (sI ξ' 12 0 66 0) k 0 j = gI ν'' k 0 j := fun k hk j => by
    refine (congrFun (congrFun (eqA u2 k (by omega) ?_).1 0) j).trans ?_
    · simp only [List.mem_cons, List.not_mem_nil, or_false, not_or]; omega
    · show gI (sI ν' 5 0 4 0) k 0 j = _
      rw [q2, gI_ne (by omega)]
  refine inv_SG_PL I (by decide) u ?_ ?_
  · exact ⟨0, by omega, c54, by rw [gI_self]; rfl, fun k hk => by omega⟩
  · have c41 : ∀ l, gI (sI ξ' 12 0 66 0) 4 l 1 = gI μ 4 l 1 := fun l => (eqF u 4 1 (by decide) (by decide) l).1
    refine ⟨s', k0, by rw [c5 8 (by decide) (by decide)]; exact t1, by rw [gI_ne2 (by decide)]; exact t2, fun k hk => ?_, fun h => by rw [c5 9 (by decide) (by decide)]; exact t4 h, fun k l hl h h2 => ?_⟩
    · rw [c20 205 (by omega), c20 206 (by omega), c20 207 (by omega), gI_ne (by decide), gI_ne (by decide), gI_ne (by decide)]
      exact t3 k hk
    · rw [c20 205 (by omega)] at h2
      rw [c5 9 (by decide) (by decide), c20 206 (by omega), c41]
      exact t5 k l hl h h2
