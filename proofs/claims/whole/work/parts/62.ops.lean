theorem rg_s {a : Int32} {s : Nat} {μ : Mem} (hs : s ≤ 1000000) : m_Fo_within a.toInt64 0 (nI s - 1).toInt64 μ = decide (0 ≤ a.toInt ∧ a.toInt < s) := by
  have e1 : ((nI s - 1 : Int32).toInt64).toInt = (s : Int) - 1 := by
    rw [i64, t_sub] <;> rw [nI_toInt (by omega)] <;> simp <;> omega
  rw [within_b, e1, i64]
  apply decide_eq_decide.mpr
  show (0 : Int) ≤ _ ∧ _ ↔ _
  omega
theorem lt0_s {α : Type} {a : Int32} {s : Nat} {E F : α} (hs : s ≤ 1000000) : (if a < 0 then E else if a < nI s then F else E) = if 0 ≤ a.toInt ∧ a.toInt < s then F else E := by
  by_cases h1 : a < 0
  · rw [if_pos h1, if_neg]
    have := t_lt.mp h1
    simp at this
    omega
  · rw [if_neg h1]
    have h1' : ¬ a.toInt < (0 : Int32).toInt := fun q => h1 (t_lt.mpr q)
    simp at h1'
    by_cases h2 : a < nI s
    · rw [if_pos h2, if_pos]
      have := t_lt.mp h2
      rw [nI_toInt (by omega)] at this
      omega
    · rw [if_neg h2, if_neg]
      have h2' : ¬ a.toInt < (nI s).toInt := fun q => h2 (t_lt.mpr q)
      rw [nI_toInt (by omega)] at h2'
      omega
theorem at_C {μ : Mem} {x c p k : Nat} {e : Nat → Nat} (hS : SF μ x c p e) (hk : k < e c) : ∀ (f o : Nat), o < c → c - o < f → ∃ r, lp_Sh_outlineWith_2 x (nI k) μ f (nI o) = some (nI r) ∧ o ≤ r ∧ r < c ∧ k < e (r + 1) ∧ ∀ i, o ≤ i → i < r → e (i + 1) ≤ k := by
  obtain ⟨h1, h2, h3, h4, h5, h6, h7, h8, h9, h10, h11, h12, h13, h14⟩ := id hS
  intro f
  induction f with
  | zero => intro o h1 h2; omega
  | succ f ih =>
    intro o ho hf
    have n1 : nI o + 1 = nI (o + 1) := nI_add o 1
    have em := sf_mono hS (o + 1) c (by omega) (Nat.le_refl c)
    have st := startC hS (o := o + 1) (by omega)
    by_cases q : c - 1 ≤ o
    · refine ⟨o, ?_, Nat.le_refl o, ho, by rw [show o + 1 = c by omega]; exact hk, fun i _ _ => by omega⟩
      simp (disch := omega) only [lp_Sh_outlineWith_2, h3, nsub1, nle, q, if_true]
    · by_cases q2 : k < e (o + 1)
      · refine ⟨o, ?_, Nat.le_refl o, ho, q2, fun i _ _ => by omega⟩
        simp (disch := omega) only [lp_Sh_outlineWith_2, h3, nsub1, nle, q, if_false, m_Sh_endOf, n1, st, Option.bind_some, nlt, q2, if_true]
      · obtain ⟨r, r1, r2, r3, r4, r5⟩ := ih (o + 1) (by omega) (by omega)
        refine ⟨r, ?_, by omega, r3, r4, fun i hi1 hi2 => ?_⟩
        · simp (disch := omega) only [lp_Sh_outlineWith_2, h3, nsub1, nle, q, if_false, m_Sh_endOf, n1, st, Option.bind_some, nlt, q2, ap, r1]
        · by_cases w : i = o
          · subst w; omega
          · exact r5 i (by omega) hi2
theorem at_M {μ : Mem} {x c k r : Nat} {e : Nat → Nat} {a : Int32} (hx : x < 32) (hc : c ≤ 8) (he : ∀ o, o < c → gI μ 346 0 (8 * x + o) = nI (e (o + 1)) ∧ e (o + 1) ≤ 100) (hk : k < 100) (hr : r < c) (r4 : k < e (r + 1)) (r5 : ∀ i, i < r → e (i + 1) ≤ k) : ∀ (f o : Nat), o ≤ r → r - o < f → lp_Mo_at_79 (nI x) (nI k) a μ f (nI o) = some (nI r) := by
  intro f
  induction f with
  | zero => intro o h1 h2; omega
  | succ f ih =>
    intro o ho hf
    have n1 : nI o + 1 = nI (o + 1) := nI_add o 1
    obtain ⟨e1, e2⟩ := he o (by omega)
    by_cases q : o = r
    · subst q
      simp (disch := omega) only [lp_Mo_at_79, ix8, gu_nI, nI_clamp, e1, nlt, r4, if_true]
    · have q2 : ¬ k < e (o + 1) := by have := r5 o (by omega); omega
      simp (disch := omega) only [lp_Mo_at_79, ix8, gu_nI, nI_clamp, e1, nlt, q2, if_false, ap, n1]
      exact ih (o + 1) (by omega) (by omega)
theorem op_at {μ : Mem} {n : Nat} (I : InvN n μ) (a b d : Int32) : ∃ r, m_Fo_at a b d μ = some r ∧ m_Mo_at a b d μ = some r := by
  have h32 := I.1.1
  rcases lcase I.1 a with ⟨a1, a2⟩ | ⟨x, hx, rfl, a1, a2⟩
  · exact ⟨-100000, by simp only [m_Fo_at, a1, oc_n], by simp only [m_Mo_at, m_Mo_isPoint, a2 μ rfl]; rfl⟩
  obtain ⟨c, p, e, hSF, hPT, hLC⟩ := I.2.1 x hx
  obtain ⟨h1, h2, h3, h4, h5, h6, h7, h8, h9, h10, h11, h12, h13, h14⟩ := id hSF
  simp only [m_Fo_at, a1, Option.bind_some, oc_some, hpC hSF, m_Mo_at, ipM (show e c ≤ 100 by omega) (a2 μ rfl) (clM' (by omega) hSF), decide_eq_true_eq]
  by_cases h : 0 ≤ b.toInt ∧ b.toInt < e c
  case neg => rw [if_neg h, if_neg h]; exact ⟨_, rfl, rfl⟩
  rw [if_pos h, if_pos h]
  obtain ⟨k, hk, rfl⟩ := ix_of h.1 h.2 (by omega)
  obtain ⟨w1, w2, w3, _⟩ := hPT k (by omega)
  have c0 : 0 < c := by
    rcases c with _ | c
    · rw [h9] at hk; omega
    · omega
  obtain ⟨r, r1, r2, r3, r4, r5⟩ := at_C hSF hk FU 0 c0 (by unfold FU; omega)
  have rM := at_M (a := d) (μ := μ) (x := x) (c := c) (k := k) (r := r) (e := e) (by omega) h1 (fun o ho => ⟨(h14 o ho).2, by have := sf_mono hSF (o + 1) c (by omega) (Nat.le_refl c); omega⟩) (by omega) r3 r4 (fun i hi => r5 i (by omega) hi) FU 0 (by omega) (by unfold FU; omega)
  have rM' : lp_Mo_at_79 (nI x) (nI k) d μ FU 0 = some (nI r) := rM
  have rC' : lp_Sh_outlineWith_2 x (nI k) μ FU 0 = some (nI r) := r1
  simp (disch := omega) only [ap, ix100, gu_nI, nI_clamp, w1, w2, w3, m_Sh_outlineWith, rC', rM', Option.bind_some]
  by_cases q0 : d = 0
  · rw [if_pos q0]; exact ⟨_, rfl, rfl⟩
  rw [if_neg q0]
  by_cases q1 : d = 1
  · rw [if_pos q1]; exact ⟨_, rfl, rfl⟩
  rw [if_neg q1]
  by_cases q2 : d = 2
  · rw [if_pos q2]; exact ⟨_, rfl, rfl⟩
  rw [if_neg q2]
  by_cases q3 : d = 3
  · rw [if_pos q3]; exact ⟨_, rfl, rfl⟩
  rw [if_neg q3]; exact ⟨_, rfl, rfl⟩
theorem op_flat {μ : Mem} {n : Nat} (I : InvN n μ) (a b : Int32) : ∃ r, m_Fo_flat a b μ = some r ∧ m_Mo_flat a b μ = some r := by
  obtain ⟨i, j, f, g, bb, hij, g1, g2, hf, f1, f2, b0, b1, b2, b3, b4⟩ := I.2.2.2.2.2.2.2.2.2.2.2.1
  simp only [m_Fo_flat, ap, g1, Option.bind_some, f1, rg_s (show f ≤ 1000000 by omega), m_Mo_flat, f2, lt0_s (show f ≤ 1000000 by omega), decide_eq_true_eq]
  by_cases h : 0 ≤ a.toInt ∧ a.toInt < f
  case neg => rw [if_neg h, if_neg h]; exact ⟨_, rfl, rfl⟩
  rw [if_pos h, if_pos h]
  obtain ⟨k, hk, rfl⟩ := ix_of h.1 h.2 (by omega)
  obtain ⟨w1, w2, w3, _⟩ := b3 k hk
  simp (disch := omega) only [gu_nI, nI_clamp, w1, w2, w3]
  by_cases q0 : b = 0
  · rw [if_pos q0]; exact ⟨_, rfl, rfl⟩
  rw [if_neg q0]
  by_cases q1 : b = 1
  · rw [if_pos q1]; exact ⟨_, rfl, rfl⟩
  rw [if_neg q1]
  by_cases q2 : b = 2
  · rw [if_pos q2]; exact ⟨_, rfl, rfl⟩
  rw [if_neg q2]; exact ⟨_, rfl, rfl⟩
theorem op_fitted {μ : Mem} {n : Nat} (I : InvN n μ) (a b : Int32) : ∃ r, m_Fo_fitted a b μ = some r ∧ m_Mo_fitted2 a b μ = some r := by
  obtain ⟨i, j, f, hij, g1, g2, hf, f1, f2, b3⟩ := I.2.2.2.2.2.2.2.2.2.2.2.2.2.1
  simp only [m_Fo_fitted, ap, g1, Option.bind_some, m_Fit_hasPoint, f1, rg_s (show f ≤ 1000000 by omega), m_Mo_fitted2, f2, lt0_s (show f ≤ 1000000 by omega), decide_eq_true_eq]
  by_cases h : 0 ≤ a.toInt ∧ a.toInt < f
  case neg => rw [if_neg h, if_neg h]; exact ⟨_, rfl, rfl⟩
  rw [if_pos h, if_pos h]
  obtain ⟨k, hk, rfl⟩ := ix_of h.1 h.2 (by omega)
  obtain ⟨w1, w2, w3, w4, w5, w6⟩ := b3 k hk
  have ga : ∀ x : Option Int32, gu (0 : Int32) 2 x = x := fun x => gu_nI (l := 0) (by omega) (by omega)
  have gb : ∀ x : Option Int32, gu (1 : Int32) 2 x = x := fun x => gu_nI (l := 1) (by omega) (by omega)
  have c0 : (0 : Int32).toNatClampNeg = 0 := rfl
  have c1 : (1 : Int32).toNatClampNeg = 1 := rfl
  simp (disch := omega) only [gu_nI, nI_clamp, w1, w2, w3, w4, ga, gb, c0, c1, Nat.add_zero]
  by_cases q0 : b = 0
  · rw [if_pos q0, if_pos q0]; exact ⟨_, rfl, rfl⟩
  rw [if_neg q0, if_neg q0]
  by_cases q1 : b = 1
  · rw [if_pos q1, if_pos q1]; exact ⟨_, rfl, rfl⟩
  rw [if_neg q1, if_neg q1]
  by_cases q2 : b = 2
  · rw [if_pos q2, if_pos q2]
    rcases w5 with w | w <;> rw [w]
    · exact ⟨_, rfl, rfl⟩
    · exact ⟨_, rfl, rfl⟩
  rw [if_neg q2, if_neg q2]
  by_cases q3 : b = 3
  · rw [if_pos q3, if_pos q3]
    rcases w6 with w | w <;> rw [w]
    · exact ⟨_, rfl, rfl⟩
    · exact ⟨_, rfl, rfl⟩
  rw [if_neg q3, if_neg q3]; exact ⟨_, rfl, rfl⟩
theorem op_dot {μ : Mem} {n : Nat} (I : InvN n μ) (a b : Int32) : ∃ r, m_Fo_dot a b μ = some r ∧ m_Mo_dot a b μ = some r := by
  obtain ⟨i1, _⟩ := I.2.2.2.2.2.2.2.2.2.2.2.2.1
  have eM : m_Mo_dot a b μ = if -16 ≤ a.toInt ∧ a.toInt ≤ 47 then (if -16 ≤ b.toInt ∧ b.toInt ≤ 47 then gu ((((64 : Int32)) * (b + 16) + a) + 16) 4096 (some (gI μ 379 0 ((((64 : Int32)) * (b + 16) + a) + 16).toNatClampNeg)) else some 0) else some 0 := by
    unfold m_Mo_dot mj_Mo_dot_24
    rw [sel3 (x := b) (lo := -16) (hi := 47) (a := -16) (b := 47) rfl rfl, sel2 (x := a) (lo := -16) (hi := 47) (a := -16) (b := 47) rfl rfl]
  have eF : m_Fo_dot a b μ = if -16 ≤ a.toInt ∧ a.toInt ≤ 47 then (if -16 ≤ b.toInt ∧ b.toInt ≤ 47 then gu ((((64 : Int32)) * (b + 16) + a) + 16) 4096 (some (gI μ 140 0 ((((64 : Int32)) * (b + 16) + a) + 16).toNatClampNeg)) else some 0) else some 0 := by
    unfold m_Fo_dot m_Im_countAt
    rw [rg_Fo, rg_Fo, show (b - -16) * (64 : Int32) + a - -16 = (64 : Int32) * (b + 16) + a + 16 by grind]
    simp only [decide_eq_true_eq, Option.bind_some, Option.bind_fun_some]
    rfl
  rw [eM, eF]
  by_cases h1 : -16 ≤ a.toInt ∧ a.toInt ≤ 47
  · by_cases h2 : -16 ≤ b.toInt ∧ b.toInt ≤ 47
    · rw [if_pos h1, if_pos h2, if_pos h1, if_pos h2]
      have q1 : (b + 16).toInt = b.toInt + 16 := by rw [t_add] <;> rw [show (16 : Int32).toInt = 16 from rfl]; omega
      have q2 : ((64 : Int32) * (b + 16)).toInt = 64 * (b.toInt + 16) := by rw [t_mul] <;> rw [q1, show (64 : Int32).toInt = 64 from rfl]; omega
      have q3 : ((64 : Int32) * (b + 16) + a).toInt = 64 * (b.toInt + 16) + a.toInt := by rw [t_add] <;> rw [q2]; omega
      have q4 : ((64 : Int32) * (b + 16) + a + 16).toInt = 64 * (b.toInt + 16) + a.toInt + 16 := by rw [t_add] <;> rw [q3, show (16 : Int32).toInt = 16 from rfl]; omega
      obtain ⟨k, hk, e⟩ := ix_of (n := 4096) (x := (64 : Int32) * (b + 16) + a + 16) (by omega) (by omega) (by omega)
      rw [e, gu_nI hk (by omega), gu_nI hk (by omega), nI_clamp (by omega), (i1 k hk).1]
      exact ⟨_, rfl, rfl⟩
    · rw [if_pos h1, if_neg h2, if_pos h1, if_neg h2]; exact ⟨_, rfl, rfl⟩
  · rw [if_neg h1, if_neg h1]; exact ⟨_, rfl, rfl⟩
