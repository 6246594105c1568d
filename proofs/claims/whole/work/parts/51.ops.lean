theorem sel2 {α : Type} {x lo hi : Int32} {a b : Int} {E F : α} (ha : lo.toInt = a) (hb : hi.toInt = b) : (if x < lo then E else if hi < x then E else F) = if a ≤ x.toInt ∧ x.toInt ≤ b then F else E := by
  by_cases h1 : x < lo
  · rw [if_pos h1, if_neg]
    have := t_lt.mp h1
    omega
  · rw [if_neg h1]
    have h1' : ¬ x.toInt < lo.toInt := fun q => h1 (t_lt.mpr q)
    by_cases h2 : hi < x
    · rw [if_pos h2, if_neg]
      have := t_lt.mp h2
      omega
    · rw [if_neg h2, if_pos]
      have h2' : ¬ hi.toInt < x.toInt := fun q => h2 (t_lt.mpr q)
      omega
theorem sel3 {α : Type} {x lo hi : Int32} {a b : Int} {E F : α} (ha : lo.toInt = a) (hb : hi.toInt = b) : (if x < lo then E else if x ≤ hi then F else E) = if a ≤ x.toInt ∧ x.toInt ≤ b then F else E := by
  by_cases h1 : x < lo
  · rw [if_pos h1, if_neg]
    have := t_lt.mp h1
    omega
  · rw [if_neg h1]
    have h1' : ¬ x.toInt < lo.toInt := fun q => h1 (t_lt.mpr q)
    by_cases h2 : x ≤ hi
    · rw [if_pos h2, if_pos]
      have := t_le.mp h2
      omega
    · rw [if_neg h2, if_neg]
      have h2' : ¬ x.toInt ≤ hi.toInt := fun q => h2 (t_le.mpr q)
      omega
theorem op_kern {μ : Mem} {n : Nat} (I : InvN n μ) (a b d : Int32) : ∃ r ν1 ν2, m_Fo_kern a b d μ = some (r, ν1) ∧ m_Mo_kern a b d ν1 = some (r, ν2) ∧ InvN n ν2 := by
  have eM : ∀ ν : Mem, m_Mo_kern a b d ν = if 0 ≤ a.toInt ∧ a.toInt ≤ 15 then (if 0 ≤ b.toInt ∧ b.toInt ≤ 15 then (if -2000 ≤ d.toInt ∧ d.toInt ≤ 2000 then gu ((16 : Int32) * a + b) 256 (some (true, sI ν 401 0 ((16 : Int32) * a + b).toNatClampNeg d)) else some (false, ν)) else some (false, ν)) else some (false, ν) := by
    intro ν
    unfold m_Mo_kern
    rw [sel2 (a := 0) (b := 15) rfl rfl, sel2 (a := 0) (b := 15) rfl rfl, rm_isKern]
    simp only [ap, decide_eq_true_eq]
  by_cases h : (0 ≤ a.toInt ∧ a.toInt ≤ 15) ∧ (0 ≤ b.toInt ∧ b.toInt ≤ 15) ∧ (-2000 ≤ d.toInt ∧ d.toInt ≤ 2000)
  · obtain ⟨ha, hb, hd⟩ := h
    obtain ⟨x, hx, rfl⟩ := ix_of (n := 16) ha.1 (by omega) (by omega)
    obtain ⟨y, hy, rfl⟩ := ix_of (n := 16) hb.1 (by omega) (by omega)
    have e1 : m_Fo_kern (nI x) (nI y) d μ = some (true, sI μ 560 x y d) := by
      simp only [m_Fo_kern, rg_isClass, rg_isBy, ha, hb, hd, and_self, decide_true, if_true, gu_nI hx (by omega), gu_nI hy (by omega), nI_clamp (show x < 2 ^ 31 by omega), nI_clamp (show y < 2 ^ 31 by omega), ap, Nat.mul_zero, Nat.zero_add]
    have e2 : m_Mo_kern (nI x) (nI y) d (sI μ 560 x y d) = some (true, sI (sI μ 560 x y d) 401 0 (16 * x + y) d) := by
      rw [eM, if_pos ha, if_pos hb, if_pos hd, ix16, gu_nI (by omega) (by omega), nI_clamp (by omega)]
    refine ⟨_, _, _, e1, e2, inv_KR I (S := [401, 560]) (by decide) (((fm_Fo_kern e1).mono (by decide)).tr ((fm_Mo_kern e2).mono (by decide))) ?_⟩
    obtain ⟨k1, k2⟩ := I.2.2.2.2.2.2.1
    refine ⟨fun c' d' hc' hd' => ?_, fun a' d' ha' hd' => ?_⟩
    · simp only [gI_sI, bI]
      by_cases q : c' = x ∧ d' = y
      · obtain ⟨rfl, rfl⟩ := q; simp; exact hd
      · have q2 : ¬ (16 * c' + d' = 16 * x + y) := fun w => q (by omega)
        simp [q, q2]
        exact k1 c' d' hc' hd'
    · simp only [gI_sI]
      simp
      exact k2 a' d' ha' hd'
  · refine ⟨false, μ, μ, ?_, ?_, I⟩
    · simp only [m_Fo_kern, rg_isClass, rg_isBy, decide_eq_true_eq]
      by_cases ha : 0 ≤ a.toInt ∧ a.toInt ≤ 15
      · by_cases hb : 0 ≤ b.toInt ∧ b.toInt ≤ 15
        · rw [if_pos ha, if_pos hb, if_neg (fun hd => h ⟨ha, hb, hd⟩)]
        · rw [if_pos ha, if_neg hb]
      · rw [if_neg ha]
    · rw [eM]
      by_cases ha : 0 ≤ a.toInt ∧ a.toInt ≤ 15
      · by_cases hb : 0 ≤ b.toInt ∧ b.toInt ≤ 15
        · rw [if_pos ha, if_pos hb, if_neg (fun hd => h ⟨ha, hb, hd⟩)]
        · rw [if_pos ha, if_neg hb]
      · rw [if_neg ha]
theorem oc_s {α β : Type} {y : α} {a : Option β} {f : α → Option β} : Option.bind (some (some y)) (fun r => oc r a f) = f y := rfl
theorem oc_n {α β : Type} {a : Option β} {f : α → Option β} : Option.bind (some (none : Option α)) (fun r => oc r a f) = a := rfl
theorem op_exception {μ : Mem} {n : Nat} (I : InvN n μ) (a b d : Int32) : ∃ r ν1 ν2, m_Fo_exception a b d μ = some (r, ν1) ∧ m_Mo_exception a b d ν1 = some (r, ν2) ∧ InvN n ν2 := by
  have h32 := I.1.1
  rcases lcase I.1 a with ⟨a1, a2⟩ | ⟨x, hx, rfl, a1, a2⟩
  · exact ⟨false, μ, μ, by simp only [m_Fo_exception, a1, oc_n], by simp only [m_Mo_exception, a2 μ rfl]; rfl, I⟩
  rcases lcase I.1 b with ⟨b1, b2⟩ | ⟨y, hy, rfl, b1, b2⟩
  · exact ⟨false, μ, μ, by simp only [m_Fo_exception, a1, oc_s, b1, oc_n], by simp only [m_Mo_exception, a2 μ rfl, b2 μ rfl, if_true]; rfl, I⟩
  have eC : mj_Fo_exception_34 (nI x) (nI y) d μ = some (true, sI μ 561 x y d) := by
    simp only [mj_Fo_exception_34, gu_nI (show x < 32 by omega) (by omega), gu_nI (show y < 32 by omega) (by omega), nI_clamp (show x < 2 ^ 31 by omega), nI_clamp (show y < 2 ^ 31 by omega), ap, Nat.mul_zero, Nat.zero_add]
  have eM : ∀ (z : Int32) (ν : Mem), z = 0 ∨ z = 1 → mj_Mo_exception_54 (nI x) (nI y) d z ((32 : Int32) * nI x + nI y) ν = some (true, sI (sI ν 403 0 (32 * x + y) z) 402 0 (32 * x + y) d) := by
    intro z ν hz
    simp only [mj_Mo_exception_54, ix32, gu_nI (show 32 * x + y < 1024 by omega) (by omega), nI_clamp (show 32 * x + y < 2 ^ 31 by omega), ap, z01, hz, if_true]
  have key : ∀ e1 : m_Fo_exception (nI x) (nI y) d μ = some (true, sI μ 561 x y d), ∀ z, (z = (0 : Int32) ∨ z = 1) → (z = 0 → d = 10000) → (z = 1 → -2000 ≤ d.toInt ∧ d.toInt ≤ 2000) → m_Mo_exception (nI x) (nI y) d (sI μ 561 x y d) = mj_Mo_exception_54 (nI x) (nI y) d z ((32 : Int32) * nI x + nI y) (sI μ 561 x y d) → ∃ r ν1 ν2, m_Fo_exception (nI x) (nI y) d μ = some (r, ν1) ∧ m_Mo_exception (nI x) (nI y) d ν1 = some (r, ν2) ∧ InvN n ν2 := by
    intro e1 z hz h0 h1 e2
    rw [eM z _ hz] at e2
    refine ⟨_, _, _, e1, e2, inv_KR I (S := [402, 403, 561]) (by decide) (((fm_Fo_exception e1).mono (by decide)).tr ((fm_Mo_exception e2).mono (by decide))) ?_⟩
    obtain ⟨k1, k2⟩ := I.2.2.2.2.2.2.1
    refine ⟨fun c' d' hc' hd' => ?_, fun a' d' ha' hd' => ?_⟩
    · simp only [gI_sI]
      simp
      exact k1 c' d' hc' hd'
    · simp only [gI_sI, bI]
      by_cases q : a' = x ∧ d' = y
      · obtain ⟨rfl, rfl⟩ := q
        rcases hz with rfl | rfl
        · left; simp; exact h0 rfl
        · right; simp; exact h1 rfl
      · have q2 : ¬ (32 * a' + d' = 32 * x + y) := fun w => q (by omega)
        simp [q, q2]
        exact k2 a' d' ha' hd'
  by_cases hd : -2000 ≤ d.toInt ∧ d.toInt ≤ 2000
  · refine key (by simp only [m_Fo_exception, a1, oc_s, b1, rg_isBy, hd, and_self, decide_true, if_true, eC]) 1 (Or.inr rfl) (fun h => by cases h) (fun _ => hd) ?_
    have hne : ¬ d = 10000 := fun q => by rw [q] at hd; exact absurd hd (by decide)
    simp only [m_Mo_exception, a2 (sI μ 561 x y d) rfl, b2 (sI μ 561 x y d) rfl, if_true, rm_isKern, hd, and_self, decide_true, mj_Mo_exception_32, hne, if_false]
  · by_cases h10 : d = 10000
    · subst h10
      refine key (by simp only [m_Fo_exception, a1, oc_s, b1, rg_isBy, hd, decide_false, if_true, eC]; rfl) 0 (Or.inl rfl) (fun _ => rfl) (fun h => by cases h) ?_
      simp only [m_Mo_exception, a2 (sI μ 561 x y 10000) rfl, b2 (sI μ 561 x y 10000) rfl, if_true, rm_isKern, hd, decide_false, mj_Mo_exception_32]
      rfl
    · refine ⟨false, μ, μ, ?_, ?_, I⟩
      · simp only [m_Fo_exception, a1, oc_s, b1, rg_isBy, hd, decide_false, h10, if_false]
        rfl
      · simp only [m_Mo_exception, a2 μ rfl, b2 μ rfl, if_true, rm_isKern, hd, decide_false, h10, if_false]
        rfl
