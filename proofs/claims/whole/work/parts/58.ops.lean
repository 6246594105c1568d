theorem LC_congr {kd kd' : Nat → Int32} {s t : Nat} (hst : s < t) (h : ∀ k, k < t → kd' k = kd k) (H : LC kd s t) : LC kd' s t := by
  obtain ⟨a, b⟩ := H
  refine ⟨by rw [h s hst]; exact a, fun k hk1 hk2 => ?_⟩
  obtain ⟨b1, b2, b3⟩ := b k hk1 hk2
  rw [h k hk2, h (k - 1) (by omega)]
  refine ⟨b1, fun w => ⟨(b2 w).1, fun w2 => by rw [h _ w2]; exact (b2 w).2 w2⟩, fun w => ?_⟩
  rcases b3 w with ⟨c1, c2, c3, c4⟩ | ⟨c1, c2, c3, c4⟩
  · left; exact ⟨c1, c2, by rw [h _ c2]; exact c3, fun w2 => by rw [h _ w2]; exact c4 w2⟩
  · right; exact ⟨c1, c2, by rw [h _ (by omega)]; exact c3, fun w2 => by rw [h _ w2]; exact c4 w2⟩
theorem op_move {μ : Mem} {n : Nat} (I : InvN n μ) (a b d f : Int32) : ∃ r ν1 ν2, m_Fo_move a b d f μ = some (r, ν1) ∧ m_Mo_move a b d f ν1 = some (r, ν2) ∧ InvN n ν2 := by
  have h32 := I.1.1
  rcases lcase I.1 a with ⟨a1, a2⟩ | ⟨x, hx, rfl, a1, a2⟩
  · exact ⟨false, μ, μ, by simp only [m_Fo_move, a1, oc_n], by simp only [m_Mo_move, m_Mo_isPoint, a2 μ rfl]; rfl, I⟩
  obtain ⟨c, p, e, hSF, hPT, hLC⟩ := I.2.1 x hx
  obtain ⟨h1, h2, h3, h4, h5, h6, h7, h8, h9, h10, h11, h12, h13, h14⟩ := id hSF
  by_cases h : (0 ≤ b.toInt ∧ b.toInt < e c) ∧ (-32000 ≤ d.toInt ∧ d.toInt ≤ 32000) ∧ (-32000 ≤ f.toInt ∧ f.toInt ≤ 32000)
  case neg =>
    refine ⟨false, μ, μ, ?_, ?_, I⟩
    · simp only [m_Fo_move, a1, oc_s, hpC hSF, Option.bind_some, oc_some, rg_isPlace, decide_eq_true_eq]
      by_cases q : 0 ≤ b.toInt ∧ b.toInt < e c
      · rw [if_pos q, if_neg (fun w => h ⟨q, w⟩)]
      · rw [if_neg q]
    · simp only [m_Mo_move, ipM (show e c ≤ 100 by omega) (a2 μ rfl) (clM' (by omega) hSF), Option.bind_some, rm_isPlace, decide_eq_true_eq]
      by_cases q : 0 ≤ b.toInt ∧ b.toInt < e c
      · rw [if_pos q]
        by_cases q2 : (-32000 ≤ d.toInt ∧ d.toInt ≤ 32000)
        · rw [if_pos q2, if_neg (fun w => h ⟨q, q2, w⟩)]
        · rw [if_neg q2]
      · rw [if_neg q]
  obtain ⟨hb, hd, hf⟩ := h
  obtain ⟨k, hk, rfl⟩ := ix_of hb.1 hb.2 (by omega)
  have e1 : m_Fo_move (nI x) (nI k) d f μ = some (true, sI (sI μ 300 x k d) 301 x k f) := by
    simp (disch := omega) only [m_Fo_move, a1, oc_s, hpC hSF, Option.bind_some, oc_some, rg_isPlace, hb, hd, hf, and_self, decide_true, if_true, gu_nI, nI_clamp, ap]
  have cm : m_Mo_closed (nI x) (sI (sI μ 300 x k d) 301 x k f) = some (nI (e c)) := by
    refine clM (by omega) h1 h9 (by simp (disch := omega) only [gI_ne]; exact h4) fun o ho => ?_
    simp (disch := omega) only [gI_ne]; exact (h14 o ho).2
  have e2 : m_Mo_move (nI x) (nI k) d f (sI (sI μ 300 x k d) 301 x k f) = some (true, sI (sI (sI (sI μ 300 x k d) 301 x k f) 347 0 (100 * x + k) d) 348 0 (100 * x + k) f) := by
    simp (disch := omega) only [m_Mo_move, ipM (show e c ≤ 100 by omega) (a2 (sI (sI μ 300 x k d) 301 x k f) (by simp (disch := omega) only [gI_ne])) cm, Option.bind_some, rm_isPlace, hb, hd, hf, and_self, decide_true, if_true, ix100, gu_nI, nI_clamp, ap]
  refine ⟨_, _, _, e1, e2, inv_LSh I (S := [300, 301, 347, 348]) (by decide) (((fm_Fo_move e1).mono (by decide)).tr ((fm_Mo_move e2).mono (by decide))) ?_⟩
  intro l hl
  by_cases q : l = x
  · subst q
    refine ⟨c, p, e, ?_, ?_, ?_⟩
    · unfold SF
      simp (disch := omega) only [gI_ne]
      exact ⟨h1, h2, h3, h4, h5, h6, h7, h8, h9, h10, h11, h12, h13, h14⟩
    · intro j hj
      obtain ⟨w1, w2, w3, w4, w5, w6, w7⟩ := hPT j hj
      by_cases q : j = k
      · subst q; simp (disch := omega) only [gI_ne, gI_self]; exact ⟨trivial, trivial, w3, hd, hf, w6, w7⟩
      · simp (disch := omega) only [gI_ne, gI_ne2]; exact ⟨w1, w2, w3, w4, w5, w6, w7⟩
    · have : gI (sI (sI (sI (sI μ 300 l k d) 301 l k f) 347 0 (100 * l + k) d) 348 0 (100 * l + k) f) 302 l = gI μ 302 l := by funext j; simp (disch := omega) only [gI_ne]
      rw [this]; exact hLC
  · exact LSh_ag (ag_sI (ag_sI (ag_sI (ag_sI ag_refl (by simp [own]; omega)) (by simp [own]; omega)) (by simp [own]; omega)) (by simp [own]; omega)) (I.2.1 l hl)
theorem sel4 {α : Type} {x lo hi : Int32} {a b : Int} {E F : α} (ha : lo.toInt = a) (hb : hi.toInt = b) : (if x < lo then E else if x ≤ hi then F else E) = if a ≤ x.toInt ∧ x.toInt ≤ b then F else E := sel3 ha hb
theorem op_delta {μ : Mem} {n : Nat} (I : InvN n μ) (a m b d f : Int32) : ∃ r ν1 ν2, m_Fo_delta a m b d f μ = some (r, ν1) ∧ m_Mo_delta a m b d f ν1 = some (r, ν2) ∧ InvN n ν2 := by
  have h32 := I.1.1
  rcases lcase I.1 a with ⟨a1, a2⟩ | ⟨x, hx, rfl, a1, a2⟩
  · exact ⟨false, μ, μ, by simp only [m_Fo_delta, a1, oc_n], by simp only [m_Mo_delta, m_Mo_isPoint, a2 μ rfl]; rfl, I⟩
  obtain ⟨c, p, e, hSF, hPT, hLC⟩ := I.2.1 x hx
  obtain ⟨h1, h2, h3, h4, h5, h6, h7, h8, h9, h10, h11, h12, h13, h14⟩ := id hSF
  have eM : ∀ ν, m_Mo_closed (nI x) ν = some (nI (e c)) → gI ν 12 0 0 = gI μ 12 0 0 → m_Mo_delta (nI x) m b d f ν = if 0 ≤ b.toInt ∧ b.toInt < e c then (if 0 ≤ m.toInt ∧ m.toInt ≤ 2 then (if -2000 ≤ d.toInt ∧ d.toInt ≤ 2000 then (if -2000 ≤ f.toInt ∧ f.toInt ≤ 2000 then (gu (((3 : Int32) * (100 * nI x + b)) + m) 9600 <| gu (((3 : Int32) * (100 * nI x + b)) + m) 9600 <| some (true, sI (sI ν 350 0 (((3 : Int32) * (100 * nI x + b)) + m).toNatClampNeg d) 351 0 (((3 : Int32) * (100 * nI x + b)) + m).toNatClampNeg f)) else some (false, ν)) else some (false, ν)) else some (false, ν)) else some (false, ν) := by
    intro ν w1 w2
    unfold m_Mo_delta
    rw [ipM (show e c ≤ 100 by omega) (a2 ν w2) w1]
    rw [sel2 (x := m) (lo := 0) (hi := 2) (a := 0) (b := 2) rfl rfl, sel2 (x := d) (lo := -2000) (hi := 2000) (a := -2000) (b := 2000) rfl rfl, sel3 (x := f) (lo := -2000) (hi := 2000) (a := -2000) (b := 2000) rfl rfl]
    simp only [Option.bind_some, decide_eq_true_eq, ap]
  by_cases h : (0 ≤ b.toInt ∧ b.toInt < e c) ∧ (0 ≤ m.toInt ∧ m.toInt ≤ 2) ∧ (-2000 ≤ d.toInt ∧ d.toInt ≤ 2000) ∧ (-2000 ≤ f.toInt ∧ f.toInt ≤ 2000)
  case neg =>
    refine ⟨false, μ, μ, ?_, ?_, I⟩
    · simp only [m_Fo_delta, a1, hpC hSF, Option.bind_some, oc_some, rg_isMaster, rg_isBy, decide_eq_true_eq]
      by_cases q0 : 0 ≤ m.toInt ∧ m.toInt ≤ 2
      · rw [if_pos q0]
        by_cases q : 0 ≤ b.toInt ∧ b.toInt < e c
        · rw [if_pos q]
          by_cases q2 : (-2000 ≤ d.toInt ∧ d.toInt ≤ 2000)
          · rw [if_pos q2, if_neg (fun w => h ⟨q, q0, q2, w⟩)]
          · rw [if_neg q2]
        · rw [if_neg q]
      · rw [if_neg q0]
    · rw [eM μ (clM' (by omega) hSF) rfl]
      by_cases q : 0 ≤ b.toInt ∧ b.toInt < e c
      · rw [if_pos q]
        by_cases q0 : 0 ≤ m.toInt ∧ m.toInt ≤ 2
        · rw [if_pos q0]
          by_cases q2 : (-2000 ≤ d.toInt ∧ d.toInt ≤ 2000)
          · rw [if_pos q2, if_neg (fun w => h ⟨q, q0, q2, w⟩)]
          · rw [if_neg q2]
        · rw [if_neg q0]
      · rw [if_neg q]
  obtain ⟨hb, hm, hd, hf⟩ := h
  obtain ⟨k, hk, rfl⟩ := ix_of hb.1 hb.2 (by omega)
  obtain ⟨i, hi, rfl⟩ := ix_of (n := 3) hm.1 (by omega) (by omega)
  have e1 : m_Fo_delta (nI x) (nI i) (nI k) d f μ = some (true, sI (sI μ 703 (3 * x + i) k d) 704 (3 * x + i) k f) := by
    simp (disch := omega) only [m_Fo_delta, a1, hpC hSF, Option.bind_some, oc_some, rg_isMaster, rg_isBy, hm, hb, hd, hf, and_self, decide_true, if_true, gu_nI, nI_clamp, ap]
  have cm : m_Mo_closed (nI x) (sI (sI μ 703 (3 * x + i) k d) 704 (3 * x + i) k f) = some (nI (e c)) := by
    refine clM (by omega) h1 h9 (by simp (disch := omega) only [gI_ne]; exact h4) fun o ho => ?_
    simp (disch := omega) only [gI_ne]; exact (h14 o ho).2
  have m3 : (3 : Int32) * nI (100 * x + k) = nI (3 * (100 * x + k)) := by rw [show (3 : Int32) = nI 3 from rfl, pk_mul]
  have e2 : m_Mo_delta (nI x) (nI i) (nI k) d f (sI (sI μ 703 (3 * x + i) k d) 704 (3 * x + i) k f) = some (true, sI (sI (sI (sI μ 703 (3 * x + i) k d) 704 (3 * x + i) k f) 350 0 (3 * (100 * x + k) + i) d) 351 0 (3 * (100 * x + k) + i) f) := by
    rw [eM _ cm (by simp (disch := omega) only [gI_ne]), if_pos hb, if_pos hm, if_pos hd, if_pos hf]
    simp (disch := omega) only [ix100, m3, nI_add, gu_nI, nI_clamp]
  refine ⟨_, _, _, e1, e2, inv_LSh I (S := [703, 704, 350, 351]) (by decide) (((fm_Fo_delta e1).mono (by decide)).tr ((fm_Mo_delta e2).mono (by decide))) ?_⟩
  intro l hl
  by_cases q : l = x
  · subst q
    refine ⟨c, p, e, ?_, ?_, ?_⟩
    · unfold SF
      simp (disch := omega) only [gI_ne]
      exact ⟨h1, h2, h3, h4, h5, h6, h7, h8, h9, h10, h11, h12, h13, h14⟩
    · intro j hj
      obtain ⟨w1, w2, w3, w4, w5, w6, w7⟩ := hPT j hj
      simp (disch := omega) only [gI_ne]
      refine ⟨w1, w2, w3, w4, w5, w6, fun i' hi' => ?_⟩
      by_cases q : j = k ∧ i' = i
      · obtain ⟨rfl, rfl⟩ := q; simp (disch := omega) only [gI_ne, gI_self]; exact ⟨trivial, trivial, hd, hf⟩
      · have q4 : 3 * (100 * l + j) + i' ≠ 3 * (100 * l + k) + i := by omega
        by_cases q3 : j = k
        · have q5 : 3 * l + i' ≠ 3 * l + i := by omega
          simp (disch := omega) only [gI_ne, gI_ne1, gI_ne2]; exact w7 i' hi'
        · simp (disch := omega) only [gI_ne, gI_ne2]; exact w7 i' hi'
    · have : gI (sI (sI (sI (sI μ 703 (3 * l + i) k d) 704 (3 * l + i) k f) 350 0 (3 * (100 * l + k) + i) d) 351 0 (3 * (100 * l + k) + i) f) 302 l = gI μ 302 l := by funext j; simp (disch := omega) only [gI_ne]
      rw [this]; exact hLC
  · exact LSh_ag (ag_sI (ag_sI (ag_sI (ag_sI ag_refl (by simp [own]; omega)) (by simp [own]; omega)) (by simp [own]; omega)) (by simp [own]; omega)) (I.2.1 l hl)
