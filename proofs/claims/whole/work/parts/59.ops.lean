theorem pt_C1 {x p m f : Nat} {a b d : Int32} {K : Mem → Option (Int32 × Mem)} {μ : Mem} (hp : p < 100) (h : gI μ 10 x 8 = nI p) (hm : m < 3) : lp_Sh_add_51 x a b d K (f + 1) (nI m) μ = lp_Sh_add_51 x a b d K f (nI (m + 1)) (sI (sI μ 703 (3 * x + m) p 0) 704 (3 * x + m) p 0) := by
  have q : ¬ 3 ≤ m := by omega
  have n1 : nI m + 1 = nI (m + 1) := nI_add m 1
  simp (disch := omega) only [lp_Sh_add_51, show (3 : Int32) = nI 3 from rfl, nle, q, if_false, h, gu_nI, nI_clamp, ap, gI_ne, n1]
theorem pt_C0 {x f : Nat} {a b d : Int32} {K : Mem → Option (Int32 × Mem)} {μ : Mem} : lp_Sh_add_51 x a b d K (f + 1) (nI 3) μ = K μ := by
  simp only [lp_Sh_add_51]
  rw [if_pos (by decide)]
theorem pt_M1 {x y m f : Nat} {a b d : Int32} {K : Mem → Option (Int32 × Mem)} {μ : Mem} (hy : y < 3200) (hm : m < 3) : lp_Mo_point_96 (nI x) a b d K (f + 1) (nI y) (nI m) μ = lp_Mo_point_96 (nI x) a b d K f (nI y) (nI (m + 1)) (sI (sI μ 350 0 (3 * y + m) 0) 351 0 (3 * y + m) 0) := by
  have q : ¬ 3 ≤ m := by omega
  have n1 : nI m + 1 = nI (m + 1) := nI_add m 1
  have m3 : (3 : Int32) * nI y = nI (3 * y) := by rw [show (3 : Int32) = nI 3 from rfl, pk_mul]
  have q' : ¬ (3 : Int32) ≤ nI m := by rw [show (3 : Int32) = nI 3 from rfl, nle (by omega) (by omega)]; exact q
  simp (disch := omega) only [lp_Mo_point_96, q', if_false, m3, nI_add, gu_nI, nI_clamp, ap, n1]
theorem pt_M0 {x f : Nat} {a b d y : Int32} {K : Mem → Option (Int32 × Mem)} {μ : Mem} : lp_Mo_point_96 (nI x) a b d K (f + 1) y (nI 3) μ = K μ := by
  simp only [lp_Mo_point_96]
  rw [if_pos (by decide)]
/-- the three deltas of a new point -/
def z3 (μ : Mem) (x p : Nat) : Mem := sI (sI (sI (sI (sI (sI μ 703 (3 * x + 0) p 0) 704 (3 * x + 0) p 0) 703 (3 * x + 1) p 0) 704 (3 * x + 1) p 0) 703 (3 * x + 2) p 0) 704 (3 * x + 2) p 0
def z4 (μ : Mem) (y : Nat) : Mem := sI (sI (sI (sI (sI (sI μ 350 0 (3 * y + 0) 0) 351 0 (3 * y + 0) 0) 350 0 (3 * y + 1) 0) 351 0 (3 * y + 1) 0) 350 0 (3 * y + 2) 0) 351 0 (3 * y + 2) 0
theorem pt_C {x p : Nat} {a b d : Int32} {K : Mem → Option (Int32 × Mem)} {μ : Mem} (hp : p < 100) (h : gI μ 10 x 8 = nI p) : lp_Sh_add_51 x a b d K FU 0 μ = K (z3 μ x p) := by
  have r : ∀ f, lp_Sh_add_51 x a b d K (f + 1 + 1 + 1 + 1) (nI 0) μ = K (z3 μ x p) := by
    intro f
    rw [pt_C1 hp h (by omega), pt_C1 hp (by simp (disch := omega) only [gI_ne]; exact h) (by omega), pt_C1 hp (by simp (disch := omega) only [gI_ne]; exact h) (by omega), pt_C0]
    rfl
  exact r 99996
theorem pt_M {x y : Nat} {a b d : Int32} {K : Mem → Option (Int32 × Mem)} {μ : Mem} (hy : y < 3200) : lp_Mo_point_96 (nI x) a b d K FU (nI y) 0 μ = K (z4 μ y) := by
  have r : ∀ f, lp_Mo_point_96 (nI x) a b d K (f + 1 + 1 + 1 + 1) (nI y) (nI 0) μ = K (z4 μ y) := by
    intro f
    rw [pt_M1 hy (by omega), pt_M1 hy (by omega), pt_M1 hy (by omega), pt_M0]
    rfl
  exact r 99996
theorem op_point {μ : Mem} {n : Nat} (I : InvN n μ) (a b d f : Int32) : ∃ r ν1 ν2, m_Fo_point a b d f μ = some (r, ν1) ∧ m_Mo_point a b d f ν1 = some (r, ν2) ∧ InvN n ν2 := by
  have h32 := I.1.1
  rcases lcase I.1 a with ⟨a1, a2⟩ | ⟨x, hx, rfl, a1, a2⟩
  · exact ⟨-1, μ, μ, by simp only [m_Fo_point, a1, oc_n], by simp only [m_Mo_point, a2 μ rfl]; rfl, I⟩
  obtain ⟨c, p, e, hSF, hPT, hLC⟩ := I.2.1 x hx
  obtain ⟨h1, h2, h3, h4, h5, h6, h7, h8, h9, h10, h11, h12, h13, h14⟩ := id hSF
  by_cases h : (-32000 ≤ b.toInt ∧ b.toInt ≤ 32000) ∧ (-32000 ≤ d.toInt ∧ d.toInt ≤ 32000) ∧ (0 ≤ f.toInt ∧ f.toInt ≤ 2) ∧ gI μ 10 x 7 = 1 ∧ p < 100
  case neg =>
    refine ⟨-1, μ, μ, ?_, ?_, I⟩
    · simp only [m_Fo_point, a1, Option.bind_some, oc_some, rg_isPlace, rg_Fo, decide_eq_true_eq]
      by_cases q : (-32000 ≤ b.toInt ∧ b.toInt ≤ 32000) ∧ (-32000 ≤ d.toInt ∧ d.toInt ≤ 32000)
      · rw [if_pos q]
        by_cases q2 : 0 ≤ f.toInt ∧ f.toInt ≤ 2
        · rw [if_pos (by simpa using q2)]
          have : m_Sh_add x b d f μ = some (-1, μ) := by
            unfold m_Sh_add
            rcases h6 with h6 | h6
            · rw [if_pos h6]
            · rw [h6, if_neg (by decide), h7, show (100 : Int32) = nI 100 from rfl]
              simp (disch := omega) only [nlt]
              rw [if_neg (fun w => h ⟨q.1, q.2, q2, h6, w⟩)]
          rw [this]; rfl
        · rw [if_neg (by simpa using q2)]
      · rw [if_neg q]
    · unfold m_Mo_point
      rw [sel2 (x := f) (lo := 0) (hi := 2) (a := 0) (b := 2) rfl rfl]
      simp (disch := omega) only [a2 μ rfl, if_true, gu_nI, nI_clamp, h5, rm_isPlace, decide_eq_true_eq, h8, show (100 : Int32) = nI 100 from rfl, neq]
      rcases h6 with h6 | h6
      · rw [if_pos h6]
      · rw [h6, if_neg (by decide)]
        by_cases q : (-32000 ≤ b.toInt ∧ b.toInt ≤ 32000)
        · rw [if_pos q]
          by_cases q1 : (-32000 ≤ d.toInt ∧ d.toInt ≤ 32000)
          · rw [if_pos q1]
            by_cases q2 : 0 ≤ f.toInt ∧ f.toInt ≤ 2
            · rw [if_pos q2, if_pos]
              have : ¬ p < 100 := fun w => h ⟨q, q1, q2, h6, w⟩
              omega
            · rw [if_neg q2]
          · rw [if_neg q1]
        · rw [if_neg q]
  obtain ⟨hb, hd, hf, h6, hp⟩ := h
  have o1 : ¬ (1 : Int32) = 0 := by decide
  have n1 : ∀ k, nI k + 1 = nI (k + 1) := fun k => nI_add k 1
  have hc1 : m_Sh_closedPoints x (sI (z3 (sI (sI (sI μ 300 x p b) 301 x p d) 302 x p f) x p) 10 x 8 (nI (p + 1))) = some (nI (e c)) := by
    have := clC hSF
    unfold m_Sh_closedPoints m_Sh_startOf z3 at *
    simp (disch := omega) only [gI_ne, gI_ne2]
    rw [rg_Fo] at this ⊢
    rw [this]
  have e1 : m_Fo_point (nI x) b d f μ = some (nI (p + 1) - nI (e c), sI (z3 (sI (sI (sI μ 300 x p b) 301 x p d) 302 x p f) x p) 10 x 8 (nI (p + 1))) := by
    have w : m_Sh_add x b d f μ = some (nI (p + 1) - nI (e c), sI (z3 (sI (sI (sI μ 300 x p b) 301 x p d) 302 x p f) x p) 10 x 8 (nI (p + 1))) := by
      have w8 : gI (z3 (sI (sI (sI μ 300 x p b) 301 x p d) 302 x p f) x p) 10 x 8 = nI p := by unfold z3; simp (disch := omega) only [gI_ne]; exact h7
      have w7 : gI (sI (sI (sI μ 300 x p b) 301 x p d) 302 x p f) 10 x 8 = nI p := by simp (disch := omega) only [gI_ne]; exact h7
      have l100 : nI p < 100 := by rw [show (100 : Int32) = nI 100 from rfl, nlt (by omega) (by omega)]; exact hp
      simp (disch := omega) only [m_Sh_add, h6, o1, if_false, h7, l100, if_true, gu_nI, nI_clamp, ap, gI_ne]
      rw [pt_C hp w7]
      simp only [mj_Sh_add_89, ap, w8, n1, m_Sh_openPoints, hc1, Option.bind_some, gI_self]
    simp only [m_Fo_point, a1, Option.bind_some, oc_some, rg_isPlace, rg_Fo, decide_eq_true_eq, w, ap]
    rw [if_pos ⟨hb, hd⟩, if_pos (by simpa using hf)]
  generalize hν : sI (z3 (sI (sI (sI μ 300 x p b) 301 x p d) 302 x p f) x p) 10 x 8 (nI (p + 1)) = ν1 at e1
  have k0 : gI ν1 12 0 0 = gI μ 12 0 0 := by rw [← hν]; unfold z3; simp (disch := omega) only [gI_ne]
  have k3 : gI ν1 343 0 x = nI c := by rw [← hν]; unfold z3; simp (disch := omega) only [gI_ne]; exact h4
  have k4 : gI ν1 344 0 x = 1 := by rw [← hν]; unfold z3; simp (disch := omega) only [gI_ne]; rw [h5, h6]
  have k5 : gI ν1 345 0 x = nI p := by rw [← hν]; unfold z3; simp (disch := omega) only [gI_ne]; exact h8
  have k6 : ∀ o, o < c → gI ν1 346 0 (8 * x + o) = nI (e (o + 1)) := by intro o ho; rw [← hν]; unfold z3; simp (disch := omega) only [gI_ne]; exact (h14 o ho).2
  have hc2 : m_Mo_closed (nI x) (sI (z4 (sI (sI (sI ν1 347 0 (100 * x + p) b) 348 0 (100 * x + p) d) 349 0 (100 * x + p) f) (100 * x + p)) 345 0 x (nI (p + 1))) = some (nI (e c)) := by
    refine clM (by omega) h1 h9 (by unfold z4; simp (disch := omega) only [gI_ne]; exact k3) fun o ho => ?_
    unfold z4; simp (disch := omega) only [gI_ne]; exact k6 o ho
  have e2 : m_Mo_point (nI x) b d f ν1 = some (nI (p + 1) - nI (e c), sI (z4 (sI (sI (sI ν1 347 0 (100 * x + p) b) 348 0 (100 * x + p) d) 349 0 (100 * x + p) f) (100 * x + p)) 345 0 x (nI (p + 1))) := by
    unfold m_Mo_point
    rw [sel2 (x := f) (lo := 0) (hi := 2) (a := 0) (b := 2) rfl rfl]
    have w9 : ¬ nI p = 100 := by rw [show (100 : Int32) = nI 100 from rfl, neq (by omega) (by omega)]; omega
    have w8 : gI (z4 (sI (sI (sI ν1 347 0 (100 * x + p) b) 348 0 (100 * x + p) d) 349 0 (100 * x + p) f) (100 * x + p)) 345 0 x = nI p := by unfold z4; simp (disch := omega) only [gI_ne]; exact k5
    simp (disch := omega) only [a2 ν1 k0, if_true, gu_nI, nI_clamp, k4, o1, if_false, rm_isPlace, hb, hd, hf, and_self, decide_true, k5, w9, ix100, ap, pt_M, mj_Mo_point_134, w8, n1, hc2, Option.bind_some, gI_self]
  refine ⟨_, _, _, e1, e2, inv_LSh I (S := [300, 301, 302, 703, 704, 2008, 345, 347, 348, 349, 350, 351]) (by decide) (((fm_Fo_point e1).mono (by decide)).tr ((fm_Mo_point e2).mono (by decide))) ?_⟩
  intro l hl
  by_cases q : l = x
  · subst q
    refine ⟨c, p + 1, e, ?_, ?_, ?_⟩
    · unfold SF z4
      rw [← hν]
      unfold z3
      simp (disch := omega) only [gI_ne, gI_ne2, gI_self]
      exact ⟨h1, by omega, h3, h4, h5, Or.inr h6, trivial, trivial, h9, h10, by omega, fun w => by rw [h6] at w; exact absurd w (by decide), h13, h14⟩
    · intro j hj
      unfold z4
      rw [← hν]
      unfold z3
      by_cases q : j = p
      · subst q
        simp (disch := omega) only [gI_ne, gI_self]
        refine ⟨trivial, trivial, trivial, hb, hd, hf, fun m hm => ?_⟩
        have z : bI 0 (-2000) 2000 := by unfold bI; decide
        rcases (show m = 0 ∨ m = 1 ∨ m = 2 by omega) with rfl | rfl | rfl <;> simp (disch := omega) only [gI_ne, gI_ne1, gI_ne2, gI_self] <;> exact ⟨trivial, trivial, z, z⟩
      · obtain ⟨w1, w2, w3, w4, w5, w6, w7⟩ := hPT j (by omega)
        simp (disch := omega) only [gI_ne, gI_ne2]
        refine ⟨w1, w2, w3, w4, w5, w6, fun m hm => ?_⟩
        simp (disch := omega) only [gI_ne2]
        exact w7 m hm
    · intro o ho
      have := sf_mono hSF (o + 1) c (by omega) (Nat.le_refl c)
      refine LC_congr (by have := h10 o ho; omega) (fun k hk => ?_) (hLC o ho)
      unfold z4
      rw [← hν]
      unfold z3
      simp (disch := omega) only [gI_ne, gI_ne2]
  · unfold z4
    rw [← hν]
    unfold z3
    refine LSh_ag ?_ (I.2.1 l hl)
    repeat (first | exact ag_refl | refine ag_sI ?_ (by simp [own]; omega))
