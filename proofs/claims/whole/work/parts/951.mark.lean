def sumI (f : Nat → Int32) : Nat → Int32
  | 0 => 0
  | k + 1 => sumI f k + f k
/-- the turn of edge k in the row at y, and its mark -/
def drk (X Y : Nat → Int32) (nx : Nat → Nat) (s y : Int) (k : Nat) : Int32 := if s * (Y k).toInt ≤ y ∧ ¬ s * (Y (nx k)).toInt ≤ y then 1 else if s * (Y (nx k)).toInt ≤ y ∧ ¬ s * (Y k).toInt ≤ y then -1 else 0
def nk (X Y : Nat → Int32) (nx : Nat → Nat) (s y : Int) (k : Nat) : Nat := if s * (Y k).toInt ≤ y then cl (smp (X k).toInt (Y k).toInt (X (nx k)).toInt (Y (nx k)).toInt s y) else cl (smp (X (nx k)).toInt (Y (nx k)).toInt (X k).toInt (Y k).toInt s y)
def mk (X Y : Nat → Int32) (nx : Nat → Nat) (s y : Int) (p k : Nat) : Int32 := if nk X Y nx s y k = p then drk X Y nx s y k else 0
theorem mark_C {ν : Mem} {p lo hi : Nat} {d : Int32} (hp : p ≤ 512) (h2 : gI ν 2 0 2 = nI lo) (h3 : gI ν 2 0 3 = nI hi) (hlo : lo ≤ 513) (hhi : hi ≤ 512) : m_Im_mark (nI p) d ν = some (sI (sI (sI ν 141 0 p (gI ν 141 0 p + d)) 2 0 2 (nI (min lo p))) 2 0 3 (nI (max hi p))) := by
  have e1 : ∀ μ', m_Ma_min2 (nI lo) (nI p) μ' = nI (min lo p) := fun μ' => by
    unfold m_Ma_min2
    by_cases w : p < lo
    · rw [if_pos (by rw [nlt (by omega) (by omega)]; exact w), show min lo p = p by omega]
    · rw [if_neg (by rw [nlt (by omega) (by omega)]; exact w), show min lo p = lo by omega]
  have e2 : ∀ μ', m_Ma_max (nI hi) (nI p) μ' = nI (max hi p) := fun μ' => by
    unfold m_Ma_max
    by_cases w : hi < p
    · rw [if_pos (by rw [nlt (by omega) (by omega)]; exact w), show max hi p = p by omega]
    · rw [if_neg (by rw [nlt (by omega) (by omega)]; exact w), show max hi p = hi by omega]
  unfold m_Im_mark
  rw [gu_nI (by omega) (by omega), gu_nI (by omega) (by omega), nI_clamp (by omega), ap, gI_ne (k := 2) (by omega), h2, e1, ap, gI_ne2 (k := 2) (j := 3) (by omega), gI_ne (k := 2) (by omega), h3, e2, ap]
/-- the class's marks of a row, with edges below k -/
def MKS (ν0 ν : Mem) (X Y : Nat → Int32) (nx : Nat → Nat) (s y : Int) (k : Nat) : Prop := ∃ lo hi, lo ≤ 513 ∧ hi ≤ 512 ∧ gI ν 2 0 2 = nI lo ∧ gI ν 2 0 3 = nI hi ∧ (∀ p, p ≤ 512 → gI ν 141 0 p = sumI (mk X Y nx s y p) k) ∧ (∀ k', k' < k → drk X Y nx s y k' ≠ 0 → lo ≤ nk X Y nx s y k' ∧ nk X Y nx s y k' ≤ hi) ∧
  (∀ k' l b, ¬ (k' = 141 ∧ l = 0 ∧ b ≤ 512) → ¬ (k' = 2 ∧ (b = 2 ∨ b = 3)) → gI ν k' l b = gI ν0 k' l b)
theorem sum_zero {f : Nat → Int32} {n : Nat} (h : ∀ k, k < n → f k = 0) : sumI f n = 0 := by
  induction n with
  | zero => rfl
  | succ n ih => show sumI f n + f n = 0; rw [ih (fun k hk => h k (by omega)), h n (by omega)]; rfl
theorem mks_skip {ν0 ν : Mem} {X Y : Nat → Int32} {nx : Nat → Nat} {s y : Int} {k : Nat} (h : MKS ν0 ν X Y nx s y k) (hz : drk X Y nx s y k = 0) : MKS ν0 ν X Y nx s y (k + 1) := by
  obtain ⟨lo, hi, a1, a2, a3, a4, a5, a6, a7⟩ := h
  refine ⟨lo, hi, a1, a2, a3, a4, fun p hp => ?_, fun k' hk' q => ?_, a7⟩
  · rw [a5 p hp]
    show _ = sumI (mk X Y nx s y p) k + mk X Y nx s y p k
    have : mk X Y nx s y p k = 0 := by unfold mk; rw [hz]; split <;> rfl
    rw [this, Int32.add_zero]
  · by_cases w : k' = k
    · subst w; exact (q hz).elim
    · exact a6 k' (by omega) q
theorem mks_mark {ν0 ν : Mem} {X Y : Nat → Int32} {nx : Nat → Nat} {s y : Int} {k : Nat} (h : MKS ν0 ν X Y nx s y k) : ∃ ν', m_Im_mark (nI (nk X Y nx s y k)) (drk X Y nx s y k) ν = some ν' ∧ MKS ν0 ν' X Y nx s y (k + 1) := by
  obtain ⟨lo, hi, a1, a2, a3, a4, a5, a6, a7⟩ := h
  have hp : nk X Y nx s y k ≤ 512 := by unfold nk; split <;> exact cl_le
  refine ⟨_, mark_C hp a3 a4 a1 a2, min lo (nk X Y nx s y k), max hi (nk X Y nx s y k), by omega, by omega, ?_, gI_self, fun p hp' => ?_, fun k' hk' q => ?_, fun k' l b q1 q2 => ?_⟩
  · rw [gI_ne2 (by omega), gI_self]
  · rw [gI_ne (by omega), gI_ne (by omega)]
    show _ = sumI (mk X Y nx s y p) k + mk X Y nx s y p k
    by_cases w : p = nk X Y nx s y k
    · subst w
      rw [gI_self, a5 _ hp]
      unfold mk
      rw [if_pos rfl]
    · rw [gI_ne2 w, a5 p hp']
      have : mk X Y nx s y p k = 0 := by unfold mk; rw [if_neg (fun z => w z.symm)]
      rw [this, Int32.add_zero]
  · by_cases w : k' = k
    · subst w; omega
    · have := a6 k' (by omega) q; omega
  · rw [gI_sI, if_neg (by omega), gI_sI, if_neg (by omega), gI_sI, if_neg (by omega)]
    exact a7 k' l b q1 q2
