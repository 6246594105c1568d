theorem op_matrix {μ : Mem} {n : Nat} (I : InvN n μ) (a b c1 c2 c3 c4 : Int32) : ∃ r ν1 ν2, m_Fo_matrix a b c1 c2 c3 c4 μ = some (r, ν1) ∧ m_Mo_matrix a b c1 c2 c3 c4 ν1 = some (r, ν2) ∧ InvN n ν2 := by
  have h32 := I.1.1
  rcases lcase I.1 a with ⟨a1, a2⟩ | ⟨x, hx, rfl, a1, a2⟩
  · exact ⟨false, μ, μ, by simp only [m_Fo_matrix, a1, oc_n]; rfl, by simp only [m_Mo_matrix, a2 μ rfl]; rfl, I⟩
  obtain ⟨pc, tg, hP⟩ := I.2.2.1 x hx
  obtain ⟨h1, h2, h3, h4, h5⟩ := id hP
  have eM : ∀ ν, gI ν 12 0 0 = gI μ 12 0 0 → gI ν 352 0 x = nI pc → m_Mo_matrix (nI x) b c1 c2 c3 c4 ν = if 0 ≤ b.toInt ∧ b.toInt < pc then (if (-32768 ≤ c1.toInt ∧ c1.toInt ≤ 32767) then (if (-32768 ≤ c2.toInt ∧ c2.toInt ≤ 32767) then (if (-32768 ≤ c3.toInt ∧ c3.toInt ≤ 32767) then (if (-32768 ≤ c4.toInt ∧ c4.toInt ≤ 32767) then (
      gu ((4 : Int32) * (6 * nI x + b)) 768 <| gu ((4 : Int32) * (6 * nI x + b) + 1) 768 <| gu ((4 : Int32) * (6 * nI x + b) + 2) 768 <| gu ((4 : Int32) * (6 * nI x + b) + 3) 768 <| some (true, sI (sI (sI (sI ν 354 0 ((4 : Int32) * (6 * nI x + b)).toNatClampNeg c1) 354 0 ((4 : Int32) * (6 * nI x + b) + 1).toNatClampNeg c2) 354 0 ((4 : Int32) * (6 * nI x + b) + 2).toNatClampNeg c3) 354 0 ((4 : Int32) * (6 * nI x + b) + 3).toNatClampNeg c4)) else some (false, ν)) else some (false, ν)) else some (false, ν)) else some (false, ν)) else some (false, ν) := by
    intro ν w1 w2
    unfold m_Mo_matrix
    simp (disch := omega) only [a2 ν w1, if_true, gu_nI, nI_clamp, w2, rm_isShort, decide_eq_true_eq, ap]
    have : ∀ {α : Type} (E F : α), (if b < 0 then E else if nI pc ≤ b then E else F) = if 0 ≤ b.toInt ∧ b.toInt < pc then F else E := by
      intro α E F
      rw [← lt0_s (a := b) (s := pc) (E := E) (F := F) (by omega)]
      have : (nI pc ≤ b) = ¬ (b < nI pc) := by apply propext; rw [t_le, t_lt]; omega
      by_cases q : b < nI pc
      · simp only [this, q, not_true, if_true, if_false]
      · simp only [this, q, not_false_eq_true, if_true, if_false]
    rw [this]
  have eF : m_Le_partOf x b μ = some (if 0 ≤ b.toInt ∧ b.toInt < pc then some (6 * x + b.toNatClampNeg) else none) := by
    unfold m_Le_partOf
    rw [h2, rg_s (by omega)]
    by_cases q : 0 ≤ b.toInt ∧ b.toInt < pc
    · obtain ⟨k, hk, rfl⟩ := ix_of q.1 q.2 (by omega)
      simp (disch := omega) only [q, and_self, decide_true, if_true, gu_nI, nI_clamp, ap, (h5 k hk).2.1]
    · simp only [q, decide_false, if_false]; rfl
  by_cases hb : 0 ≤ b.toInt ∧ b.toInt < pc
  case neg =>
    refine ⟨false, μ, μ, ?_, ?_, I⟩
    · simp only [m_Fo_matrix, a1, Option.bind_some, oc_some, eF, if_neg hb, mj_Fo_matrix_22, oc_none]
    · rw [eM μ rfl h3, if_neg hb]
  by_cases h : (-32768 ≤ c1.toInt ∧ c1.toInt ≤ 32767) ∧ (-32768 ≤ c2.toInt ∧ c2.toInt ≤ 32767) ∧ (-32768 ≤ c3.toInt ∧ c3.toInt ≤ 32767) ∧ (-32768 ≤ c4.toInt ∧ c4.toInt ≤ 32767)
  case neg =>
    refine ⟨false, μ, μ, ?_, ?_, I⟩
    · simp only [m_Fo_matrix, a1, Option.bind_some, oc_some, eF, if_pos hb, mj_Fo_matrix_22, rg_isShort, decide_eq_true_eq]
      by_cases q1 : (-32768 ≤ c1.toInt ∧ c1.toInt ≤ 32767)
      · rw [if_pos q1]
        by_cases q2 : (-32768 ≤ c2.toInt ∧ c2.toInt ≤ 32767)
        · rw [if_pos q2]
          by_cases q3 : (-32768 ≤ c3.toInt ∧ c3.toInt ≤ 32767)
          · rw [if_pos q3, if_neg (fun w => h ⟨q1, q2, q3, w⟩)]
          · rw [if_neg q3]
        · rw [if_neg q2]
      · rw [if_neg q1]
    · rw [eM μ rfl h3, if_pos hb]
      by_cases q1 : (-32768 ≤ c1.toInt ∧ c1.toInt ≤ 32767)
      · rw [if_pos q1]
        by_cases q2 : (-32768 ≤ c2.toInt ∧ c2.toInt ≤ 32767)
        · rw [if_pos q2]
          by_cases q3 : (-32768 ≤ c3.toInt ∧ c3.toInt ≤ 32767)
          · rw [if_pos q3, if_neg (fun w => h ⟨q1, q2, q3, w⟩)]
          · rw [if_neg q3]
        · rw [if_neg q2]
      · rw [if_neg q1]
  obtain ⟨q1, q2, q3, q4⟩ := h
  obtain ⟨k, hk, rfl⟩ := ix_of hb.1 hb.2 (by omega)
  have e1 : m_Fo_matrix (nI x) (nI k) c1 c2 c3 c4 μ = some (true, sI (sI (sI (sI μ 6 (6 * x + k) 3 c1) 6 (6 * x + k) 4 c2) 6 (6 * x + k) 5 c3) 6 (6 * x + k) 6 c4) := by
    simp (disch := omega) only [m_Fo_matrix, a1, Option.bind_some, oc_some, eF, if_pos hb, mj_Fo_matrix_22, rg_isShort, q1, q2, q3, q4, and_self, decide_true, if_true, nI_clamp, m_Pa_turnBy, ap]
  have m4 : (4 : Int32) * (6 * nI x + nI k) = nI (4 * (6 * x + k)) := by rw [show (4 : Int32) = nI 4 from rfl, show (6 : Int32) = nI 6 from rfl, pk_mul, nI_add, pk_mul]
  have n1 : ∀ k, nI k + 1 = nI (k + 1) := fun k => nI_add k 1
  have n2 : ∀ k, nI k + 2 = nI (k + 2) := fun k => nI_add k 2
  have n3 : ∀ k, nI k + 3 = nI (k + 3) := fun k => nI_add k 3
  generalize hν : sI (sI (sI (sI μ 6 (6 * x + k) 3 c1) 6 (6 * x + k) 4 c2) 6 (6 * x + k) 5 c3) 6 (6 * x + k) 6 c4 = ν1 at e1
  have e2 : m_Mo_matrix (nI x) (nI k) c1 c2 c3 c4 ν1 = some (true, sI (sI (sI (sI ν1 354 0 (4 * (6 * x + k)) c1) 354 0 (4 * (6 * x + k) + 1) c2) 354 0 (4 * (6 * x + k) + 2) c3) 354 0 (4 * (6 * x + k) + 3) c4) := by
    rw [eM ν1 (by rw [← hν]; simp (disch := omega) only [gI_ne]) (by rw [← hν]; simp (disch := omega) only [gI_ne]; exact h3), if_pos hb, if_pos q1, if_pos q2, if_pos q3, if_pos q4]
    simp (disch := omega) only [m4, n1, n2, n3, gu_nI, nI_clamp]
  refine ⟨_, _, _, e1, e2, inv_PS I (S := [354, 1603, 1604, 1605, 1606]) (by decide) (((fm_Fo_matrix e1).mono (by decide)).tr ((fm_Mo_matrix e2).mono (by decide))) ?_⟩
  intro l hl
  obtain ⟨pc', tg', g1, g2, g3, g4, g5⟩ := I.2.2.1 l hl
  refine ⟨pc', tg', ?_⟩
  unfold PS
  rw [← hν]
  have gR' : ∀ k l j, gR (sI (sI (sI (sI (sI (sI (sI (sI μ 6 (6 * x + k) 3 c1) 6 (6 * x + k) 4 c2) 6 (6 * x + k) 5 c3) 6 (6 * x + k) 6 c4) 354 0 (4 * (6 * x + k)) c1) 354 0 (4 * (6 * x + k) + 1) c2) 354 0 (4 * (6 * x + k) + 2) c3) 354 0 (4 * (6 * x + k) + 3) c4) k l j = gR μ k l j := by intro k l j; simp only [gR_sI]
  simp (disch := omega) only [gI_ne, gR_sI]
  refine ⟨g1, g2, g3, g4, fun m hm => ?_⟩
  obtain ⟨f1, f2, f3, f4, f5, f6, f7, f8, ⟨f9, f10, f11, f12⟩, f13, f14, f15, f16⟩ := g5 m hm
  simp (disch := omega) only [gI_ne, gI_ne2]
  by_cases q : 6 * l + m = 6 * x + k
  · rw [q] at f2 f3 f4 f5 f6 f7 f8 ⊢
    simp (disch := omega) only [gI_ne, gI_ne2, gI_self]
    exact ⟨f1, f2, f3, f4, f5, f6, f7, f8, ⟨trivial, trivial, trivial, trivial⟩, q1, q2, q3, q4⟩
  · simp (disch := omega) only [gI_ne, gI_ne1, gI_ne2]
    exact ⟨f1, f2, f3, f4, f5, f6, f7, f8, ⟨f9, f10, f11, f12⟩, f13, f14, f15, f16⟩
theorem wg_C1 {μ : Mem} {q x z k m f : Nat} {s : Int64} {K : Int64 → Option Int32} (hk : k < 100) (hm : m < 3) : lp_Fo_weighed_5 q x 3 z 100 0 (nI k) μ K (f + 1) s (nI m) = lp_Fo_weighed_5 q x 3 z 100 0 (nI k) μ K f (s + (gI μ 329 0 m).toInt64 * (gI μ z (3 * x + m) k).toInt64) (nI (m + 1)) := by
  have q : ¬ 3 ≤ m := by omega
  have n1 : nI m + 1 = nI (m + 1) := nI_add m 1
  have q' : ¬ (3 : Int32) ≤ nI m := by rw [show (3 : Int32) = nI 3 from rfl, nle (by omega) (by omega)]; exact q
  simp (disch := omega) only [lp_Fo_weighed_5, q', if_false, gu_nI, nI_clamp, ap, n1]
theorem wg_C0 {μ : Mem} {q x z f : Nat} {k : Int32} {s : Int64} {K : Int64 → Option Int32} : lp_Fo_weighed_5 q x 3 z 100 0 k μ K (f + 1) s (nI 3) = K s := by
  simp only [lp_Fo_weighed_5]
  rw [if_pos (by decide)]
/-- the weighed sum of the deltas -/
def wsum (μ : Mem) (z x k : Nat) : Int64 := 0 + (gI μ 329 0 0).toInt64 * (gI μ z (3 * x + 0) k).toInt64 + (gI μ 329 0 1).toInt64 * (gI μ z (3 * x + 1) k).toInt64 + (gI μ 329 0 2).toInt64 * (gI μ z (3 * x + 2) k).toInt64
theorem weighC {μ : Mem} {q x z k : Nat} (hk : k < 100) : m_Fo_weighed q x 3 z (nI k) 100 0 μ = some (rnd (wsum μ z x k) 16384).toInt32 := by
  have r : ∀ f, lp_Fo_weighed_5 q x 3 z 100 0 (nI k) μ (mj_Fo_weighed_36 q x 3 z 100 0 (nI k) μ) (f + 1 + 1 + 1 + 1) 0 (nI 0) = some (rnd (wsum μ z x k) 16384).toInt32 := by
    intro f
    rw [wg_C1 hk (by omega), wg_C1 hk (by omega), wg_C1 hk (by omega), wg_C0]
    unfold mj_Fo_weighed_36
    rw [(rd_both (by decide) (by decide)).1]
    rfl
  exact r 99996
theorem wg_M1 {μ : Mem} {x k y m f : Nat} {a : Int32} {s : Int64} {K : Int32 → Int64 → Option Int32} (hy : y < 3200) (hm : m < 3) : lp_Mo_mixed_35 (nI x) (nI k) a μ K (f + 1) (nI y) s (nI m) = lp_Mo_mixed_35 (nI x) (nI k) a μ K f (nI y) (s + (gI μ 398 0 m).toInt64 * (gI μ (if a = 0 then 350 else 351) 0 (3 * y + m)).toInt64) (nI (m + 1)) := by
  have q : ¬ 3 ≤ m := by omega
  have n1 : nI m + 1 = nI (m + 1) := nI_add m 1
  have m3 : (3 : Int32) * nI y = nI (3 * y) := by rw [show (3 : Int32) = nI 3 from rfl, pk_mul]
  have q' : ¬ (3 : Int32) ≤ nI m := by rw [show (3 : Int32) = nI 3 from rfl, nle (by omega) (by omega)]; exact q
  by_cases h : a = 0
  · simp (disch := omega) only [lp_Mo_mixed_35, q', if_false, m3, nI_add, gu_nI, nI_clamp, ap, n1, mj_Mo_mixed_82, h, if_true]
  · simp (disch := omega) only [lp_Mo_mixed_35, q', if_false, m3, nI_add, gu_nI, nI_clamp, ap, n1, mj_Mo_mixed_82, h]
theorem wg_M0 {μ : Mem} {x k f : Nat} {a y : Int32} {s : Int64} {K : Int32 → Int64 → Option Int32} : lp_Mo_mixed_35 (nI x) (nI k) a μ K (f + 1) y s (nI 3) = K y s := by
  simp only [lp_Mo_mixed_35]
  rw [if_pos (by decide)]
theorem mixM {μ : Mem} {n x k p : Nat} (hx : x < 32) (hw : WT μ) (hPT : PT μ x p) (hp : p ≤ 100) (hk : k < p) (a : Int32) (ha : a = 0 ∨ a = 1) : mj_Mo_mixed_21 (nI x) (nI k) a μ = some (if a = 0 then gI μ 300 x k + (rnd (wsum μ 703 x k) 16384).toInt32 else gI μ 301 x k + (rnd (wsum μ 704 x k) 16384).toInt32) := by
  obtain ⟨w1, w2, w3, w4, w5, w6, w7⟩ := hPT k hk
  have r : ∀ f, lp_Mo_mixed_35 (nI x) (nI k) a μ (mj_Mo_mixed_93 (nI x) (nI k) a μ) (f + 1 + 1 + 1 + 1) (nI (100 * x + k)) 0 (nI 0) = some (if a = 0 then gI μ 300 x k + (rnd (wsum μ 703 x k) 16384).toInt32 else gI μ 301 x k + (rnd (wsum μ 704 x k) 16384).toInt32) := by
    intro f
    rw [wg_M1 (by omega) (by omega), wg_M1 (by omega) (by omega), wg_M1 (by omega) (by omega), wg_M0]
    rw [(hw 0 (by omega)).1, (hw 1 (by omega)).1, (hw 2 (by omega)).1]
    rcases ha with rfl | rfl
    · simp (disch := omega) only [if_true, (w7 0 (by omega)).1, (w7 1 (by omega)).1, (w7 2 (by omega)).1, mj_Mo_mixed_93, mj_Mo_mixed_114, gu_nI, nI_clamp, w1]
      rw [(rd_both (by decide) (by decide)).2]
      rfl
    · have o1 : ¬ (1 : Int32) = 0 := by decide
      simp (disch := omega) only [o1, if_false, (w7 0 (by omega)).2.1, (w7 1 (by omega)).2.1, (w7 2 (by omega)).2.1, mj_Mo_mixed_93, mj_Mo_mixed_114, gu_nI, nI_clamp, w2]
      rw [(rd_both (by decide) (by decide)).2]
      rfl
  unfold mj_Mo_mixed_21
  simp only [ap, ix100]
  exact r 99996
theorem op_mixed {μ : Mem} {n : Nat} (I : InvN n μ) (a b d : Int32) : ∃ r, m_Fo_mixed a b d μ = some r ∧ m_Mo_mixed a b d μ = some r := by
  have h32 := I.1.1
  rcases lcase I.1 a with ⟨a1, a2⟩ | ⟨x, hx, rfl, a1, a2⟩
  · exact ⟨-100000, by simp only [m_Fo_mixed, a1, oc_n], by simp only [m_Mo_mixed, m_Mo_isPoint, a2 μ rfl]; rfl⟩
  obtain ⟨c, p, e, hSF, hPT, hLC⟩ := I.2.1 x hx
  obtain ⟨h1, h2, h3, h4, h5, h6, h7, h8, h9, h10, h11, h12, h13, h14⟩ := id hSF
  simp only [m_Fo_mixed, a1, Option.bind_some, oc_some, hpC hSF, m_Mo_mixed, ipM (show e c ≤ 100 by omega) (a2 μ rfl) (clM' (by omega) hSF), decide_eq_true_eq]
  by_cases h : 0 ≤ b.toInt ∧ b.toInt < e c
  case neg => rw [if_neg h, if_neg h]; exact ⟨_, rfl, rfl⟩
  rw [if_pos h, if_pos h]
  obtain ⟨k, hk, rfl⟩ := ix_of h.1 h.2 (by omega)
  have hk' : k < 100 := by omega
  by_cases q0 : d = 0
  · subst q0
    rw [if_pos rfl, if_pos rfl, mixM (n := n) (by omega) I.2.2.2.2.2.2.2.1 hPT h2 (by omega) 0 (Or.inl rfl), weighC hk', gu_nI hk' (by omega), nI_clamp (by omega)]
    exact ⟨_, rfl, rfl⟩
  by_cases q1 : d = 1
  · subst q1
    rw [if_neg (by decide), if_pos rfl, if_neg (by decide), if_pos rfl, mixM (n := n) (by omega) I.2.2.2.2.2.2.2.1 hPT h2 (by omega) 1 (Or.inr rfl), weighC hk', gu_nI hk' (by omega), nI_clamp (by omega)]
    exact ⟨_, rfl, rfl⟩
  rw [if_neg q0, if_neg q1, if_neg q0, if_neg q1]
  exact ⟨_, rfl, rfl⟩
