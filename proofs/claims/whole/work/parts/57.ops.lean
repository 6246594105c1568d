theorem op_outline {μ : Mem} {n : Nat} (I : InvN n μ) (a : Int32) : ∃ r ν1 ν2, m_Fo_outline a μ = some (r, ν1) ∧ m_Mo_outline a ν1 = some (r, ν2) ∧ InvN n ν2 := by
  have h32 := I.1.1
  rcases lcase I.1 a with ⟨a1, a2⟩ | ⟨x, hx, rfl, a1, a2⟩
  · exact ⟨-1, μ, μ, by simp only [m_Fo_outline, a1, oc_n], by simp only [m_Mo_outline, a2 μ rfl]; rfl, I⟩
  obtain ⟨pc, hpc, p1, p2⟩ := ps_cnt I hx
  obtain ⟨c, p, e, hSF, hPT, hLC⟩ := I.2.1 x hx
  obtain ⟨h1, h2, h3, h4, h5, h6, h7, h8, h9, h10, h11, h12, h13, h14⟩ := id hSF
  by_cases h : pc = 0 ∧ gI μ 10 x 7 = 0 ∧ c < 8
  case neg =>
    refine ⟨-1, μ, μ, ?_, ?_, I⟩
    · simp (disch := omega) only [m_Fo_outline, a1, oc_s, p1, show (0 : Int32) = nI 0 from rfl, nle, m_Sh_begin, h3, show (8 : Int32) = nI 8 from rfl, nlt]
      by_cases q1 : pc = 0
      · rw [if_pos (by omega)]
        by_cases q2 : gI μ 10 x 7 = 0
        · rw [if_pos (show _ = nI 0 from q2), if_neg (fun q => h ⟨q1, q2, q⟩)]; rfl
        · rw [if_neg (show ¬ _ = nI 0 from q2)]; rfl
      · rw [if_neg (by omega)]
    · simp (disch := omega) only [m_Mo_outline, a2 μ rfl, if_true, gu_nI, nI_clamp, h5, p2, h4, show (0 : Int32) = nI 0 from rfl, nlt, show (8 : Int32) = nI 8 from rfl, neq]
      by_cases q2 : gI μ 10 x 7 = 0
      · rw [if_pos (show _ = nI 0 from q2)]
        by_cases q1 : pc = 0
        · rw [if_neg (by omega), if_pos (by have : ¬ c < 8 := fun w => h ⟨q1, q2, w⟩
                                            omega)]
        · rw [if_pos (by omega)]
      · rw [if_neg (show ¬ _ = nI 0 from q2)]
  obtain ⟨rfl, q2, q3⟩ := h
  have e1 : m_Fo_outline (nI x) μ = some (nI c, sI μ 10 x 7 1) := by
    simp (disch := omega) only [m_Fo_outline, a1, oc_s, p1, m_Sh_begin, h3, show (8 : Int32) = nI 8 from rfl, nlt, q2, q3, if_true, ap, gI_ne2]
    rfl
  have e2 : m_Mo_outline (nI x) (sI μ 10 x 7 1) = some (nI c, sI (sI μ 10 x 7 1) 344 0 x 1) := by
    have w1 : ¬ (nI 0 : Int32) > 0 := by decide
    have w2 : ¬ c = 8 := by omega
    simp (disch := omega) only [m_Mo_outline, a2 (sI μ 10 x 7 1) (by simp (disch := omega) only [gI_ne]), if_true, gu_nI, nI_clamp, gI_ne, h5, q2, p2, h4, show (8 : Int32) = nI 8 from rfl, neq, w2, if_false, ap]
    rfl
  have u : Un [344, 2007] μ (sI (sI μ 10 x 7 1) 344 0 x 1) := ((fm_Fo_outline e1).mono (by decide)).tr ((fm_Mo_outline e2).mono (by decide))
  refine ⟨_, _, _, e1, e2, inv_LSh_PS I (S := [344, 2007]) (by decide) u ?_ ?_⟩
  · intro l hl
    by_cases q : l = x
    · subst q
      refine ⟨c, p, e, ?_, ?_, ?_⟩
      · unfold SF
        simp (disch := omega) only [gI_ne, gI_ne2, gI_self]
        exact ⟨h1, h2, h3, h4, trivial, Or.inr trivial, h7, h8, h9, h10, h11, fun w => absurd w (by decide), fun _ => q3, h14⟩
      · intro k hk; simp (disch := omega) only [gI_ne]; exact hPT k hk
      · have : gI (sI (sI μ 10 l 7 1) 344 0 l 1) 302 l = gI μ 302 l := by funext j; simp (disch := omega) only [gI_ne]
        rw [this]; exact hLC
    · exact LSh_ag (ag_sI (ag_sI ag_refl (by simp [own]; omega)) (by simp [own]; omega)) (I.2.1 l hl)
  · intro l hl
    obtain ⟨pc', tg, hP⟩ := I.2.2.1 l hl
    refine ⟨pc', tg, PS_sh (by decide) u hP ?_⟩
    by_cases q : l = x
    · subst q
      intro w
      have := hP.2.1
      rw [p1] at this
      have := nI_inj (by omega) (by have := hP.1; omega) this
      omega
    · simp (disch := omega) only [gI_ne, gI_ne1]
      exact hP.2.2.2.1
theorem drop_inv {μ ν : Mem} {n x c p c' : Nat} {e : Nat → Nat} (I : InvN n μ) (hx : x < n) (hSF : SF μ x c p e) (hPT : PT μ x p) (hLC : ∀ o, o < c → LC (gI μ 302 x) (e o) (e (o + 1))) (hc' : c' ≤ c) (hq : gI μ 10 x 7 = 0 → 0 < c)
    (u : Un [343, 344, 345, 2006, 2007, 2008] μ ν) (g : ∀ l, l ≠ x → AgL μ ν l) (v1 : gI ν 10 x 6 = nI c') (v2 : gI ν 10 x 7 = 0) (v3 : gI ν 10 x 8 = nI (e c')) (w1 : gI ν 343 0 x = nI c') (w2 : gI ν 344 0 x = 0) (w3 : gI ν 345 0 x = nI (e c')) : InvN n ν := by
  obtain ⟨h1, h2, h3, h4, h5, h6, h7, h8, h9, h10, h11, h12, h13, h14⟩ := id hSF
  have hm := sf_mono hSF c' c hc' (Nat.le_refl c)
  refine inv_LSh_PS I (S := [343, 344, 345, 2006, 2007, 2008]) (by decide) u ?_ ?_
  · intro l hl
    by_cases q : l = x
    · subst q
      have q0 := (eqA u 300 (by decide) (by decide)).1
      have q1 := (eqA u 301 (by decide) (by decide)).1
      have q2 := (eqA u 302 (by decide) (by decide)).1
      have q3 := (eqA u 305 (by decide) (by decide)).1
      have q4 := (eqA u 346 (by decide) (by decide)).1
      have q5 := (eqA u 347 (by decide) (by decide)).1
      have q6 := (eqA u 348 (by decide) (by decide)).1
      have q7 := (eqA u 349 (by decide) (by decide)).1
      have q8 := (eqA u 350 (by decide) (by decide)).1
      have q9 := (eqA u 351 (by decide) (by decide)).1
      have q10 := (eqA u 703 (by decide) (by decide)).1
      have q11 := (eqA u 704 (by decide) (by decide)).1
      refine ⟨c', e c', e, ?_, ?_, ?_⟩
      · unfold SF
        rw [v1, v2, v3, w1, w2, w3, q3, q4]
        exact ⟨by omega, by omega, rfl, rfl, rfl, Or.inl rfl, rfl, rfl, h9, fun o ho => h10 o (by omega), Nat.le_refl _, fun _ => rfl, fun w => absurd w (by decide), fun o ho => h14 o (by omega)⟩
      · intro k hk; rw [q0, q1, q2, q5, q6, q7, q8, q9, q10, q11]; exact hPT k (by omega)
      · rw [q2]; exact fun o ho => hLC o (by omega)
    · exact LSh_ag (g l q) (I.2.1 l hl)
  · intro l hl
    obtain ⟨pc', tg, hP⟩ := I.2.2.1 l hl
    refine ⟨pc', tg, PS_sh (by decide) u hP ?_⟩
    by_cases q : l = x
    · subst q
      intro w
      obtain ⟨w1, w2⟩ := hP.2.2.2.1 w
      have := hq w2
      rw [h3] at w1
      exact absurd (nI_inj (b := 0) (by omega) (by omega) w1) (by omega)
    · rw [g l q 10 l 6 (by omega) (by simp [own]), g l q 10 l 7 (by omega) (by simp [own])]
      exact hP.2.2.2.1
theorem op_drop {μ : Mem} {n : Nat} (I : InvN n μ) (a : Int32) : ∃ r ν1 ν2, m_Fo_drop a μ = some (r, ν1) ∧ m_Mo_drop a ν1 = some (r, ν2) ∧ InvN n ν2 := by
  have h32 := I.1.1
  rcases lcase I.1 a with ⟨a1, a2⟩ | ⟨x, hx, rfl, a1, a2⟩
  · exact ⟨-1, μ, μ, by simp only [m_Fo_drop, a1, oc_n], by simp only [m_Mo_drop, a2 μ rfl]; rfl, I⟩
  obtain ⟨c, p, e, hSF, hPT, hLC⟩ := I.2.1 x hx
  obtain ⟨h1, h2, h3, h4, h5, h6, h7, h8, h9, h10, h11, h12, h13, h14⟩ := id hSF
  rcases h6 with h6 | h6
  · rcases c with _ | c
    · refine ⟨-1, μ, μ, ?_, ?_, I⟩
      · simp only [m_Fo_drop, a1, oc_s, m_Sh_removeLast, m_Sh_hasAny, h6, h3]; rfl
      · simp (disch := omega) only [m_Mo_drop, a2 μ rfl, if_true, gu_nI, nI_clamp, h4, h5, h6]; rfl
    · have hS' : SF (sI μ 10 x 6 (nI c)) x c (e c) e → True := fun _ => trivial
      have m1 : m_Sh_closedPoints x (sI μ 10 x 6 (nI c)) = some (nI (e c)) := by
        unfold m_Sh_closedPoints m_Sh_startOf
        rw [gI_self]
        have := startC hSF (o := c) (by omega)
        unfold m_Sh_startOf at this
        rw [rg_Fo] at this ⊢
        simp (disch := omega) only [gI_ne]
        rw [this]; rfl
      have e1 : m_Fo_drop (nI x) μ = some (nI c, sI (sI μ 10 x 6 (nI c)) 10 x 8 (nI (e c))) := by
        have z1 : ¬ nI (c + 1) ≤ 0 := by rw [show (0 : Int32) = nI 0 from rfl, nle (by omega) (by omega)]; omega
        simp (disch := omega) only [m_Fo_drop, a1, oc_s, oc_some, m_Sh_removeLast, m_Sh_hasAny, h6, if_true, h3, z1, if_false, mj_Sh_hasAny_14, nsub1, Nat.add_sub_cancel, ap, mj_Sh_removeLast_34, m1, Option.bind_some, gI_ne2, gI_self]
      generalize hν : sI (sI μ 10 x 6 (nI c)) 10 x 8 (nI (e c)) = ν1 at e1
      have k0 : gI ν1 12 0 0 = gI μ 12 0 0 := by rw [← hν]; simp (disch := omega) only [gI_ne]
      have k1 : gI ν1 343 0 x = nI (c + 1) := by rw [← hν]; simp (disch := omega) only [gI_ne]; exact h4
      have k2 : gI ν1 344 0 x = 0 := by rw [← hν]; simp (disch := omega) only [gI_ne]; rw [h5, h6]
      have m2 : m_Mo_closed (nI x) (sI ν1 343 0 x (nI c)) = some (nI (e c)) := by
        refine clM (by omega) (by omega) h9 (by rw [gI_self]) fun o ho => ?_
        rw [← hν]; simp (disch := omega) only [gI_ne]; exact (h14 o (by omega)).2
      have e2 : m_Mo_drop (nI x) ν1 = some (nI c, sI (sI ν1 343 0 x (nI c)) 345 0 x (nI (e c))) := by
        have z1 : ¬ nI (c + 1) = 0 := by rw [show (0 : Int32) = nI 0 from rfl, neq (by omega) (by omega)]; omega
        simp (disch := omega) only [m_Mo_drop, a2 ν1 k0, if_true, gu_nI, nI_clamp, k1, z1, if_false, mj_Mo_drop_28, k2, nsub1, Nat.add_sub_cancel, ap, mj_Mo_drop_57, m2, Option.bind_some, gI_ne, gI_self]
      refine ⟨_, _, _, e1, e2, drop_inv (c' := c) I hx hSF hPT hLC (by omega) (fun _ => by omega) (((fm_Fo_drop e1).mono (by decide)).tr ((fm_Mo_drop e2).mono (by decide))) ?_ ?_ ?_ ?_ ?_ ?_ ?_⟩
      · intro l hl; rw [← hν]
        exact ag_sI (ag_sI (ag_sI (ag_sI ag_refl (by simp [own]; omega)) (by simp [own]; omega)) (by simp [own]; omega)) (by simp [own]; omega)
      all_goals rw [← hν]; simp (disch := omega) only [gI_ne, gI_ne2, gI_self]
      · exact h6
      · rw [h5, h6]
  · have m1 : m_Sh_closedPoints x (sI μ 10 x 7 0) = some (nI (e c)) := by
      have := clC hSF
      unfold m_Sh_closedPoints m_Sh_startOf at this ⊢
      simp (disch := omega) only [gI_ne, gI_ne2]
      rw [rg_Fo] at this ⊢
      rw [this]
    have o1 : ¬ (1 : Int32) = 0 := by decide
    have e1 : m_Fo_drop (nI x) μ = some (nI c, sI (sI μ 10 x 7 0) 10 x 8 (nI (e c))) := by
      simp (disch := omega) only [m_Fo_drop, a1, oc_s, oc_some, m_Sh_removeLast, m_Sh_hasAny, h6, o1, if_true, h3, if_false, mj_Sh_hasAny_14, ap, mj_Sh_removeLast_34, m1, Option.bind_some, gI_ne2, gI_self]
    generalize hν : sI (sI μ 10 x 7 0) 10 x 8 (nI (e c)) = ν1 at e1
    have k0 : gI ν1 12 0 0 = gI μ 12 0 0 := by rw [← hν]; simp (disch := omega) only [gI_ne]
    have k1 : gI ν1 343 0 x = nI c := by rw [← hν]; simp (disch := omega) only [gI_ne]; exact h4
    have k2 : gI ν1 344 0 x = 1 := by rw [← hν]; simp (disch := omega) only [gI_ne]; rw [h5, h6]
    have m2 : m_Mo_closed (nI x) (sI ν1 344 0 x 0) = some (nI (e c)) := by
      refine clM (by omega) (by omega) h9 (by rw [gI_ne (by omega), k1]) fun o ho => ?_
      rw [← hν]; simp (disch := omega) only [gI_ne]; exact (h14 o (by omega)).2
    have e2 : m_Mo_drop (nI x) ν1 = some (nI c, sI (sI ν1 344 0 x 0) 345 0 x (nI (e c))) := by
      have w : mj_Mo_drop_28 (nI x) ν1 = some (nI c, sI (sI ν1 344 0 x 0) 345 0 x (nI (e c))) := by
        simp (disch := omega) only [gu_nI, nI_clamp, k1, o1, if_false, mj_Mo_drop_28, k2, ap, mj_Mo_drop_57, m2, Option.bind_some, gI_ne, gI_self]
      simp (disch := omega) only [m_Mo_drop, a2 ν1 k0, if_true, gu_nI, nI_clamp, k1, k2, o1, if_false, w, ite_self]
    refine ⟨_, _, _, e1, e2, drop_inv (c' := c) I hx hSF hPT hLC (by omega) (fun w => by rw [h6] at w; exact absurd w (by decide)) (((fm_Fo_drop e1).mono (by decide)).tr ((fm_Mo_drop e2).mono (by decide))) ?_ ?_ ?_ ?_ ?_ ?_ ?_⟩
    · intro l hl; rw [← hν]
      exact ag_sI (ag_sI (ag_sI (ag_sI ag_refl (by simp [own]; omega)) (by simp [own]; omega)) (by simp [own]; omega)) (by simp [own]; omega)
    all_goals rw [← hν]; simp (disch := omega) only [gI_ne, gI_ne2, gI_self]
    · exact h3
    · exact h4
