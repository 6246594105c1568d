theorem gI_ne {μ : Mem} {k k' l l' j j' : Nat} {x : Int32} (h : k ≠ k') : gI (sI μ k' l' j' x) k l j = gI μ k l j := by rw [gI_sI, if_neg (fun q => h q.1)]
theorem gI_ne1 {μ : Mem} {k k' l l' j j' : Nat} {x : Int32} (h : l ≠ l') : gI (sI μ k' l' j' x) k l j = gI μ k l j := by rw [gI_sI, if_neg (fun q => h q.2.1)]
theorem gI_ne2 {μ : Mem} {k k' l l' j j' : Nat} {x : Int32} (h : j ≠ j') : gI (sI μ k' l' j' x) k l j = gI μ k l j := by rw [gI_sI, if_neg (fun q => h q.2.2)]
theorem ps_cnt {μ : Mem} {n l : Nat} (I : InvN n μ) (hl : l < n) : ∃ pc, pc ≤ 6 ∧ gI μ 4 l 5 = nI pc ∧ gI μ 352 0 l = nI pc := by
  obtain ⟨pc, tg, h1, h2, h3, _⟩ := I.2.2.1 l hl
  exact ⟨pc, h1, h2, h3⟩
theorem act_C {μ : Mem} {x a : Nat} (b d : Int32) (a1 : gI μ 8 x 2 = nI a) (h : a < 100) : m_Pr_add x b d μ = some (nI (a + 1), sI (sI (sI μ 260 x a b) 261 x a d) 8 x 2 (nI (a + 1))) := by
  have n1 : ∀ k, nI k + 1 = nI (k + 1) := fun k => nI_add k 1
  simp (disch := omega) only [m_Pr_add, show (100 : Int32) = nI 100 from rfl, a1, nlt, h, if_true, gu_nI, nI_clamp, ap, gI_ne, gI_self, n1]
theorem act_M {μ : Mem} {x a : Nat} (b d : Int32) (hx : x < 32) (p0 : gI μ 352 0 x = 0) (hb : 0 ≤ b.toInt ∧ b.toInt ≤ 30) (hd : -100000 ≤ d.toInt ∧ d.toInt ≤ 100000) (a1 : gI μ 357 0 x = nI a) (h : a < 100) (hl : m_Mo_isLetter (nI x) μ = true) : m_Mo_act (nI x) b d μ = some (nI (a + 1), sI (sI (sI μ 358 0 (100 * x + a) b) 359 0 (100 * x + a) d) 357 0 x (nI (a + 1))) := by
  have n1 : ∀ k, nI k + 1 = nI (k + 1) := fun k => nI_add k 1
  have z : ¬ (0 : Int32) < 0 := by decide
  have k1 : ¬ b < 0 := lt_lit (by simpa using hb.1)
  have k2 : ¬ (30 : Int32) < b := fun q => by have := t_lt.mp q; rw [show (30 : Int32).toInt = 30 from rfl] at this; omega
  have k3 : ¬ d < -100000 := fun q => by have := t_lt.mp q; rw [show (-100000 : Int32).toInt = -100000 from rfl] at this; omega
  have k4 : ¬ (100000 : Int32) < d := fun q => by have := t_lt.mp q; rw [show (100000 : Int32).toInt = 100000 from rfl] at this; omega
  have k5 : ¬ nI a = 100 := by rw [show (100 : Int32) = nI 100 from rfl, neq (by omega) (by omega)]; omega
  unfold m_Mo_act
  rw [hl, if_pos rfl]
  simp (disch := omega) only [gu_nI, nI_clamp, p0, z, if_false, k1, k2, k3, k4, k5, a1, ix100, ap, gI_ne, gI_self, n1]
