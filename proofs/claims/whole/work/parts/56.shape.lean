/-- the letter whose outlines a cell speaks of -/
def own (k a b : Nat) : Nat := if k = 343 ∨ k = 344 ∨ k = 345 then b else if k = 346 then b / 8 else if k = 347 ∨ k = 348 ∨ k = 349 then b / 100 else if k = 350 ∨ k = 351 then b / 300 else if k = 703 ∨ k = 704 then a / 3 else a
/-- ν says of letter l's outlines what μ says -/
def AgL (μ ν : Mem) (l : Nat) : Prop := ∀ k a b, (k = 10 ∨ k = 300 ∨ k = 301 ∨ k = 302 ∨ k = 305 ∨ k = 703 ∨ k = 704 ∨ (343 ≤ k ∧ k ≤ 351)) → own k a b = l → gI ν k a b = gI μ k a b
theorem ag_refl {μ : Mem} {l : Nat} : AgL μ μ l := fun _ _ _ _ _ => rfl
theorem ag_tr {μ ν ξ : Mem} {l : Nat} (h : AgL μ ν l) (h2 : AgL ν ξ l) : AgL μ ξ l := fun k a b c d => (h2 k a b c d).trans (h k a b c d)
theorem ag_sI {μ ν : Mem} {l k a b : Nat} {v : Int32} (h : AgL μ ν l) (hc : own k a b ≠ l) : AgL μ (sI ν k a b v) l := by
  intro k' a' b' c d
  rw [gI_sI, if_neg]
  · exact h k' a' b' c d
  · rintro ⟨rfl, rfl, rfl⟩; exact hc d
theorem SF_ag {μ ν : Mem} {l c p : Nat} {e : Nat → Nat} (g : AgL μ ν l) (h : SF μ l c p e) : SF ν l c p e := by
  have q1 : ∀ j, gI ν 10 l j = gI μ 10 l j := fun j => g 10 l j (by omega) (by simp [own])
  have q2 : gI ν 343 0 l = gI μ 343 0 l := g 343 0 l (by omega) (by simp [own])
  have q3 : gI ν 344 0 l = gI μ 344 0 l := g 344 0 l (by omega) (by simp [own])
  have q4 : gI ν 345 0 l = gI μ 345 0 l := g 345 0 l (by omega) (by simp [own])
  have q5 : ∀ o, gI ν 305 l o = gI μ 305 l o := fun j => g 305 l j (by omega) (by simp [own])
  unfold SF at h ⊢
  rw [q1, q1, q1, q2, q3, q4]
  obtain ⟨h1, h2, h3, h4, h5, h6, h7, h8, h9, h10, h11, h12, h13, h14⟩ := h
  refine ⟨h1, h2, h3, h4, h5, h6, h7, h8, h9, h10, h11, h12, h13, fun o ho => ?_⟩
  rw [q5, g 346 0 (8 * l + o) (by omega) (by simp [own]; omega)]
  exact h14 o ho
theorem PT_ag {μ ν : Mem} {l p : Nat} (hp : p ≤ 100) (g : AgL μ ν l) (h : PT μ l p) : PT ν l p := by
  intro k hk
  have q0 : ∀ j, gI ν 300 l j = gI μ 300 l j := fun j => g 300 l j (by omega) (by simp [own])
  have q1 : ∀ j, gI ν 301 l j = gI μ 301 l j := fun j => g 301 l j (by omega) (by simp [own])
  have q2 : ∀ j, gI ν 302 l j = gI μ 302 l j := fun j => g 302 l j (by omega) (by simp [own])
  obtain ⟨h1, h2, h3, h4, h5, h6, h7⟩ := h k hk
  rw [q0, q1, q2, g 347 0 (100 * l + k) (by omega) (by simp [own]; omega), g 348 0 (100 * l + k) (by omega) (by simp [own]; omega), g 349 0 (100 * l + k) (by omega) (by simp [own]; omega)]
  refine ⟨h1, h2, h3, h4, h5, h6, fun m hm => ?_⟩
  rw [g 350 0 (3 * (100 * l + k) + m) (by omega) (by simp [own]; omega), g 351 0 (3 * (100 * l + k) + m) (by omega) (by simp [own]; omega), g 703 (3 * l + m) k (by omega) (by simp [own]; omega), g 704 (3 * l + m) k (by omega) (by simp [own]; omega)]
  exact h7 m hm
theorem LSh_ag {μ ν : Mem} {l : Nat} (g : AgL μ ν l) (h : LSh μ l) : LSh ν l := by
  obtain ⟨c, p, e, h1, h2, h3⟩ := h
  have q2 : gI ν 302 l = gI μ 302 l := funext fun j => g 302 l j (by omega) (by simp [own])
  exact ⟨c, p, e, SF_ag g h1, PT_ag h1.2.1 g h2, by rw [q2]; exact h3⟩
theorem PS_sh {S : List Nat} {μ ν : Mem} {n : Nat} {l : Nat} {pc : Nat} {tg : Nat → Nat} (hS : ∀ k ∈ [184, 352, 353, 354, 355, 356, 1405, 1600, 1601, 1602, 1603, 1604, 1605, 1606], k ∉ S) (u : Un S μ ν) (h : PS μ n l pc tg) (h67 : 0 < pc → gI ν 10 l 6 = 0 ∧ gI ν 10 l 7 = 0) : PS ν n l pc tg := by
  have q2 := (eqA u 352 (by decide) (hS _ (by simp))).1
  have q3 := (eqA u 353 (by decide) (hS _ (by simp))).1
  have q4 := (eqA u 354 (by decide) (hS _ (by simp))).1
  have q5 := (eqA u 355 (by decide) (hS _ (by simp))).1
  have q6 := (eqA u 356 (by decide) (hS _ (by simp))).1
  have q7 := fun l => (eqF u 4 5 (by decide) (hS 1405 (by simp)) l).1
  have q8 := fun l => (eqF u 6 1 (by decide) (hS 1601 (by simp)) l).1
  have q9 := fun l => (eqF u 6 2 (by decide) (hS 1602 (by simp)) l).1
  have q10 := fun l => (eqF u 6 3 (by decide) (hS 1603 (by simp)) l).1
  have q11 := fun l => (eqF u 6 4 (by decide) (hS 1604 (by simp)) l).1
  have q12 := fun l => (eqF u 6 5 (by decide) (hS 1605 (by simp)) l).1
  have q13 := fun l => (eqF u 6 6 (by decide) (hS 1606 (by simp)) l).1
  have q14 := (eqA u 184 (by decide) (hS _ (by simp))).2
  have q15 := fun l => (eqF u 6 0 (by decide) (hS 1600 (by simp)) l).2
  unfold PS at h ⊢
  simp only [q2, q3, q4, q5, q6, q7, q8, q9, q10, q11, q12, q13, q14, q15]
  exact ⟨h.1, h.2.1, h.2.2.1, h67, h.2.2.2.2⟩
theorem sf_le {μ : Mem} {l c p : Nat} {e : Nat → Nat} (h : SF μ l c p e) : ∀ o, o ≤ c → e o ≤ e c := by
  obtain ⟨h1, h2, h3, h4, h5, h6, h7, h8, h9, h10, h11, h12, h13, h14⟩ := h
  have : ∀ d o, o + d = c → e o ≤ e c := by
    intro d
    induction d with
    | zero => intro o ho; simp at ho; subst ho; exact Nat.le_refl _
    | succ d ih => intro o ho; have := ih (o + 1) (by omega); have := h10 o (by omega); omega
  intro o ho
  exact this (c - o) o (by omega)
theorem sf_mono {μ : Mem} {l c p : Nat} {e : Nat → Nat} (h : SF μ l c p e) : ∀ o o', o ≤ o' → o' ≤ c → e o ≤ e o' := by
  obtain ⟨h1, h2, h3, h4, h5, h6, h7, h8, h9, h10, h11, h12, h13, h14⟩ := h
  have : ∀ d o, o + d ≤ c → e o ≤ e (o + d) := by
    intro d
    induction d with
    | zero => intro o ho; exact Nat.le_refl _
    | succ d ih => intro o ho; have := ih o (by omega); have := h10 (o + d) (by omega); rw [Nat.add_assoc] at this; omega
  intro o o' h1 h2
  have := this (o' - o) o (by omega)
  rw [show o + (o' - o) = o' by omega] at this
  exact this
theorem startC {μ : Mem} {l c p : Nat} {e : Nat → Nat} (h : SF μ l c p e) {o : Nat} (ho : o ≤ c) : m_Sh_startOf l (nI o) μ = some (nI (e o)) := by
  obtain ⟨h1, h2, h3, h4, h5, h6, h7, h8, h9, h10, h11, h12, h13, h14⟩ := h
  unfold m_Sh_startOf
  rw [rg_Fo, nI_toInt (by omega)]
  rcases o with _ | o
  · rw [h9]; rfl
  · rw [if_pos (by simp; exact ⟨by show (1 : Int) ≤ _; omega, by show _ ≤ (8 : Int); omega⟩)]
    simp (disch := omega) only [nsub1, gu_nI, nI_clamp, Nat.add_sub_cancel, (h14 o (by omega)).1]
theorem clC {μ : Mem} {l c p : Nat} {e : Nat → Nat} (h : SF μ l c p e) : m_Sh_closedPoints l μ = some (nI (e c)) := by
  unfold m_Sh_closedPoints
  rw [h.2.2.1, startC h (Nat.le_refl c)]; rfl
theorem clM {ν : Mem} {l c : Nat} {e : Nat → Nat} (hl : l < 32) (hc : c ≤ 8) (e0 : e 0 = 0) (h1 : gI ν 343 0 l = nI c) (h2 : ∀ o, o < c → gI ν 346 0 (8 * l + o) = nI (e (o + 1))) : m_Mo_closed (nI l) ν = some (nI (e c)) := by
  unfold m_Mo_closed
  rcases c with _ | c
  · simp (disch := omega) only [gu_nI, nI_clamp, h1]
    rw [e0]; rfl
  · have : ¬ c + 1 = 0 := by omega
    have e9 : 8 * l + (c + 1) - 1 = 8 * l + c := by omega
    simp (disch := omega) only [gu_nI, nI_clamp, h1, show (0 : Int32) = nI 0 from rfl, neq, this, if_false, ix8, nsub1, e9, h2]
theorem clM' {μ : Mem} {l c p : Nat} {e : Nat → Nat} (hl : l < 32) (h : SF μ l c p e) : m_Mo_closed (nI l) μ = some (nI (e c)) := by
  obtain ⟨h1, h2, h3, h4, h5, h6, h7, h8, h9, h10, h11, h12, h13, h14⟩ := h
  exact clM hl h1 h9 h4 fun o ho => (h14 o ho).2
theorem hpC {μ : Mem} {l c p : Nat} {e : Nat → Nat} (h : SF μ l c p e) (a : Int32) : m_Sh_hasPoint l a μ = some (decide (0 ≤ a.toInt ∧ a.toInt < e c)) := by
  have b1 : e c ≤ 100 := Nat.le_trans h.2.2.2.2.2.2.2.2.2.2.1 h.2.1
  have e1 : ((nI (e c) - 1 : Int32).toInt64).toInt = (e c : Int) - 1 := by
    rw [i64, t_sub] <;> rw [nI_toInt (by omega)] <;> simp <;> omega
  unfold m_Sh_hasPoint
  rw [clC h]
  simp only [Option.bind_some]
  rw [within_b, e1, i64]
  congr 1
  apply decide_eq_decide.mpr
  simp
  omega
theorem ipM {ν : Mem} {l m : Nat} (hm : m ≤ 100) (hL : m_Mo_isLetter (nI l) ν = true) (hC : m_Mo_closed (nI l) ν = some (nI m)) (a : Int32) : m_Mo_isPoint (nI l) a ν = some (decide (0 ≤ a.toInt ∧ a.toInt < m)) := by
  unfold m_Mo_isPoint
  rw [hL, if_pos rfl, hC]
  by_cases h1 : a < 0
  · rw [if_pos h1]
    have := t_lt.mp h1
    simp at this
    symm; congr 1; rw [decide_eq_false_iff_not]; omega
  · rw [if_neg h1]
    have h1' : ¬ a.toInt < (0 : Int32).toInt := fun q => h1 (t_lt.mpr q)
    simp at h1'
    simp only [Option.bind_some]
    by_cases h2 : nI m ≤ a
    · rw [if_pos h2]
      have := t_le.mp h2
      rw [nI_toInt (by omega)] at this
      symm; congr 1; rw [decide_eq_false_iff_not]; omega
    · rw [if_neg h2]
      have h2' : ¬ (nI m).toInt ≤ a.toInt := fun q => h2 (t_le.mpr q)
      rw [nI_toInt (by omega)] at h2'
      symm; congr 1; rw [decide_eq_true_iff]; omega
theorem rg_isPlace (x y : Int32) (μ : Mem) : m_Fo_isPlace x y μ = decide ((-32000 ≤ x.toInt ∧ x.toInt ≤ 32000) ∧ (-32000 ≤ y.toInt ∧ y.toInt ≤ 32000)) := by
  unfold m_Fo_isPlace
  rw [rg_Fo, rg_Fo, show (-32000 : Int64).toInt = -32000 from rfl, show (32000 : Int64).toInt = 32000 from rfl]
  by_cases h1 : -32000 ≤ x.toInt ∧ x.toInt ≤ 32000
  · by_cases h2 : -32000 ≤ y.toInt ∧ y.toInt ≤ 32000
    · simp only [h1, h2, and_self, decide_true, if_true]
    · simp only [h1, h2, and_self, and_false, decide_true, decide_false, if_true]; rfl
  · simp only [h1, false_and, decide_false]; rfl
theorem rm_isPlace (x : Int32) (μ : Mem) : m_Mo_isPlace x μ = decide (-32000 ≤ x.toInt ∧ x.toInt ≤ 32000) := rg_two
