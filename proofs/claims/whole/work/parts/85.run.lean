theorem copy276 {l p : Nat} {s : Int32} (hp : p ≤ 100) : ∀ f k ξ, k ≤ p → p - k < f → (∀ i, i < p → (gI ξ 390 0 i = 0 ∨ gI ξ 390 0 i = 1) ∧ (gI ξ 391 0 i = 0 ∨ gI ξ 391 0 i = 1)) → ∃ ξ', lp_Mo_run_276 (nI l) s f (nI p) (nI k) ξ = some (0, ξ') ∧ gL ξ' = gL ξ ∧ (∀ k' l' b, ¬ (394 ≤ k' ∧ k' ≤ 397) → gI ξ' k' l' b = gI ξ k' l' b) ∧
    (∀ i, k ≤ i → i < p → gI ξ' 394 0 i = (gL ξ 388 0 i).toInt32 ∧ gI ξ' 395 0 i = (gL ξ 389 0 i).toInt32 ∧ gI ξ' 396 0 i = gI ξ 390 0 i ∧ gI ξ' 397 0 i = gI ξ 391 0 i) ∧ (∀ k' i, i < k → gI ξ' k' 0 i = gI ξ k' 0 i) := by
  intro f
  induction f with
  | zero => intro k ξ h1 h2; omega
  | succ f ih =>
    intro k ξ h1 h2 h3
    by_cases h : p ≤ k
    · exact ⟨ξ, by simp (disch := omega) only [lp_Mo_run_276, nle, h, if_true], rfl, fun _ _ _ _ => rfl, fun i _ _ => by omega, fun _ _ _ => rfl⟩
    · have n1 : nI k + 1 = nI (k + 1) := nI_add k 1
      obtain ⟨ξ', e1, e2, e3, e4, e5⟩ := ih (k + 1) (sI (sI (sI (sI ξ 394 0 k (gL ξ 388 0 k).toInt32) 395 0 k (gL ξ 389 0 k).toInt32) 396 0 k (gI ξ 390 0 k)) 397 0 k (gI ξ 391 0 k)) (by omega) (by omega) (fun i hi => by simp (disch := omega) only [gI_ne]; exact h3 i hi)
      refine ⟨ξ', ?_, e2, fun k' l' b q => ?_, fun i i1 i2 => ?_, fun k' i hi => ?_⟩
      · rw [← e1]
        have z1 : ∀ x : Option (Int32 × Mem), z01 (gI ξ 390 0 k) x = x := fun x => by unfold z01; rw [if_pos (h3 k (by omega)).1]
        have z2 : ∀ x : Option (Int32 × Mem), z01 (gI ξ 391 0 k) x = x := fun x => by unfold z01; rw [if_pos (h3 k (by omega)).2]
        simp (disch := omega) only [lp_Mo_run_276, nle, h, if_false, gu_nI, nI_clamp, ap, gL_sI, gI_ne, z1, z2, n1]
      · rw [e3 k' l' b q]; simp (disch := omega) only [gI_ne]
      · by_cases w : i = k
        · subst w
          rw [e5 394 i (by omega), e5 395 i (by omega), e5 396 i (by omega), e5 397 i (by omega)]
          refine ⟨?_, ?_, ?_, ?_⟩ <;> simp (disch := omega) only [gI_ne, gI_self]
        · have := e4 i (by omega) i2
          simp (disch := omega) only [gL_sI, gI_ne] at this
          exact this
      · rw [e5 k' i (by omega)]; simp (disch := omega) only [gI_ne2]
theorem i32_64 (x : Int32) : x.toInt64.toInt32 = x := by
  have h1 := t_lo x
  have h2 := t_hi x
  exact t_eq.mpr (by rw [(back (v := x.toInt64) (by rw [i64]; omega)).2, i64])
theorem op_run {μ : Mem} {n : Nat} (I : InvN n μ) (a s : Int32) : ∃ r ν1 ν2, m_Fo_run a s μ = some (r, ν1) ∧ m_Mo_run a s ν1 = some (r, ν2) ∧ InvN n ν2 := by
  have h32 := I.1.1
  rcases lcase I.1 a with ⟨a1, a2⟩ | ⟨l, hl, rfl, a1, a2⟩
  · exact ⟨-1, μ, μ, by simp only [m_Fo_run, a1, oc_n], by simp only [m_Mo_run, a2 μ rfl]; rfl, I⟩
  obtain ⟨pc, hpc, p1, p2⟩ := ps_cnt I hl
  by_cases w1 : 0 < pc
  · refine ⟨-1, μ, μ, ?_, ?_, I⟩
    · unfold m_Fo_run
      rw [a1, oc_s, p1, if_pos (by rw [show (0 : Int32) = nI 0 from rfl, nlt (by omega) (by omega)]; exact w1)]
    · unfold m_Mo_run
      rw [a2 μ rfl, if_pos rfl, gu_nI (by omega) (by omega), nI_clamp (by omega), p2, if_pos (by rw [show (0 : Int32) = nI 0 from rfl, nlt (by omega) (by omega)]; exact w1)]
  have z1 : ¬ (0 : Int32) < nI pc := by rw [show (0 : Int32) = nI 0 from rfl, nlt (by omega) (by omega)]; exact w1
  by_cases w2 : 4 ≤ s.toInt ∧ s.toInt ≤ 32
  rotate_left 1
  · refine ⟨-1, μ, μ, ?_, ?_, I⟩
    · unfold m_Fo_run
      rw [a1, oc_s, p1, if_neg z1, rg_isDots, decide_eq_false w2]; rfl
    · unfold m_Mo_run
      rw [a2 μ rfl, if_pos rfl, gu_nI (by omega) (by omega), nI_clamp (by omega), p2, if_neg z1]
      by_cases g : s < 4
      · rw [if_pos g]
      · rw [if_neg g, if_neg]
        intro g2
        have g1 : ¬ s.toInt < 4 := fun q => g (t_lt.mpr q)
        have g3 : s.toInt ≤ 32 := t_le.mp g2
        omega
  have s4 : ¬ s < 4 := fun q => by have : s.toInt < 4 := t_lt.mp q; omega
  have s32 : s ≤ 32 := t_le.mpr w2.2
  obtain ⟨c, p0, e, hSF, hPT, hLC⟩ := I.2.1 l hl
  obtain ⟨h1, h2, h3, h4, h5, h6, h7, h8, h9, h10, h11, h12, h13, h14⟩ := id hSF
  obtain ⟨A, hA, q1, q2, q3⟩ := I.2.2.2.2.1 l hl
  obtain ⟨i, j, po, hij, f1, f2, f3, f4, f5, f6⟩ := I.2.2.2.2.2.2.2.2.2.2.2.2.2.1
  have hp : e c ≤ 100 := by omega
  have L : LT μ l (e c) c A e := ⟨by omega, hA, hp, h1, h9, sf_mono hSF, rfl, h10, h4, fun o ho => (h14 o ho).2, q1, q2, q3⟩
  obtain ⟨νs, b1, b2, b3, b4⟩ := start_C (j := j) (s := s) hSF
  obtain ⟨νf, d1, d2, d3⟩ := fillA (k := 281) (l := 0) (n := 16) (z := 0) (v := 0) (μ := νs) (by omega)
  have sf : SC μ j νf := ⟨b2.1.tr ((fm_Ar_fill (by decide) d1).mono (by decide)), fun k q b g1 g2 => by rw [d3 k q b (by omega)]; exact b2.2.1 k q b g1 g2, fun q hq => by rw [d3 0 q 5 (by omega)]; exact b2.2.2 q hq⟩
  have gr8 : gR νs 11 0 8 = some j := by rw [(eqF b2.1 11 8 (by decide) (by decide) 0).2]; exact f2
  have AA : ∀ ξ0, SM μ ξ0 → ∃ r ν' ξ', m_Ru_perform l j νs = some (r, ν') ∧ lp_Mo_run_39 (nI l) s (mj_Mo_run_161 (nI l) s) FU (nI (e c)) 0 ξ0 = mj_Mo_run_256 (nI l) s (nI (e c)) ξ' ∧ gI ξ' 12 0 52 = r ∧ SC μ j ν' ∧ SM μ ξ' ∧ ((r = 0 ∧ ∃ h' q' z, DY μ j (e c) c e A ν' ξ' h' q' (nI z) 0) ∨ (∃ d : Nat, 0 < d ∧ d < 9 ∧ r = nI d)) := by
    intro ξ0 hξ0
    obtain ⟨ξ1, g1, g2, g3⟩ := start39 (μ := μ) (s := s) (cc := mj_Mo_run_161 (nI l) s) (show l < 32 by omega) hp (fun k hk => ⟨(hPT k (by omega)).1, (hPT k (by omega)).2.1⟩) FU 0 ξ0 (by omega) (by unfold FU; omega) hξ0 (fun i hi => by omega)
    obtain ⟨ξ2, g4, g5, g6, g7⟩ := start164 (μ := μ) (l := l) (p := e c) (s := s) (y3 := nI (e c)) (cc := mj_Mo_run_185 (nI l) s) FU 0 ξ1 (by omega) (by unfold FU; omega) g2 g3 (fun i hi => by omega)
    have D : DY μ j (e c) c e A (sI (sI (sI νf 9 0 3 0) 9 0 4 0) 9 0 5 0) (sI (sI (sI ξ2 12 0 42 0) 12 0 45 0) 12 0 52 0) 0 0 (nI 0) 0 := by
      have rw0 : ∀ x k, x = 300 ∨ x = 301 → k < e c → ((rxy μ x l s k).toInt32.toInt64 = rxy μ x l s k) ∧ bI (rxy μ x l s k).toInt32 (-100000) 100000 := fun x k hx hk => by
        have hb : bI (gI μ x l k) (-32000) 32000 := by
          rcases hx with rfl | rfl
          · exact (hPT k (by omega)).2.2.2.1
          · exact (hPT k (by omega)).2.2.2.2.1
        have := rxy_b (l := l) (k := k) w2 hb
        obtain ⟨k1, k2⟩ := back (v := rxy μ x l s k) (by omega)
        exact ⟨k1, by unfold bI; rw [k2]; exact this⟩
      refine ⟨sc_sI (sc_sI (sc_sI sf (by omega)) (by omega)) (by omega), sm_sI (sm_sI (sm_sI g5 (by omega)) (by omega)) (by omega), ⟨by omega, by omega⟩, ?_, ?_, ?_, fun k hk => by omega, fun k hk => ?_, fun k hk => by omega, fun k hk => ?_, fun k hk => ?_, ?_⟩
      · simp (disch := omega) only [gI_ne2, gI_self]; exact ⟨rfl, rfl⟩
      · simp (disch := omega) only [gI_ne2, gI_self]; exact ⟨rfl, rfl⟩
      · simp (disch := omega) only [gI_self]; exact ⟨rfl, trivial⟩
      · simp (disch := omega) only [gI_ne, gL_sI]
        rw [g7 k hk, d2 k hk]
        exact ⟨rfl, by unfold B9 bI; decide⟩
      · obtain ⟨⟨r1, r2, r3⟩, _⟩ := b4 k hk
        obtain ⟨x1, _, x2, _, x3, _⟩ := g6 k hk
        obtain ⟨k1, k2⟩ := rw0 300 k (Or.inl rfl) hk
        simp (disch := omega) only [gI_ne, gL_sI]
        rw [d3 500 _ _ (by omega), d3 501 _ _ (by omega), d3 502 _ _ (by omega), r1, r2, r3, x1, x2, x3]
        exact ⟨k1.symm, k1.symm, rfl, Or.inl rfl, k2, ⟨by have := k2.1; omega, by have := k2.2; omega⟩⟩
      · obtain ⟨_, r1, r2, r3⟩ := b4 k hk
        obtain ⟨_, x1, _, x2, _, x3⟩ := g6 k hk
        obtain ⟨k1, k2⟩ := rw0 301 k (Or.inr rfl) hk
        simp (disch := omega) only [gI_ne, gL_sI]
        rw [d3 500 _ _ (by omega), d3 501 _ _ (by omega), d3 502 _ _ (by omega), r1, r2, r3, x1, x2, x3]
        exact ⟨k1.symm, k1.symm, rfl, Or.inl rfl, k2, ⟨by have := k2.1; omega, by have := k2.2; omega⟩⟩
      · unfold FX
        simp (disch := omega) only [gI_ne]
        rw [d3 0 j 5 (by omega), d3 0 j 4 (by omega)]
        exact ⟨b3.1, b3.2.1, fun o ho => by rw [d3 103 j o (by omega)]; exact b3.2.2 o ho⟩
    obtain ⟨r, ν', ξ', k1, k2, k3⟩ := perf_both (s := s) (y3 := nI (e c)) (cm := mj_Mo_run_256 (nI l) s) L 1000 0 _ _ 0 0 0 (by omega) (by omega) D
    refine ⟨r, ν', ξ', ?_, ?_, k3⟩
    · unfold m_Ru_perform
      rw [d1]
      simp only [Option.bind_some, ap]
      obtain ⟨F, hF⟩ : ∃ F, FU = F + (1000 + 1) := ⟨98999, rfl⟩
      rw [hF]
      exact k1 F
    · rw [show lp_Mo_run_39 (nI l) s (mj_Mo_run_161 (nI l) s) FU (nI (e c)) 0 ξ0 = _ from g1]
      unfold mj_Mo_run_161
      rw [show lp_Mo_run_164 (nI l) s (mj_Mo_run_185 (nI l) s) FU (nI (e c)) 0 ξ1 = _ from g4]
      unfold mj_Mo_run_185
      simp only [ap]
      obtain ⟨F, hF⟩ : ∃ F, FU = F + (1000 + 3) := ⟨98997, rfl⟩
      rw [hF]
      exact k2 F
  obtain ⟨r, ν', _, m1, _, _, m4, _, m6⟩ := AA μ ⟨fun _ _ => rfl, rfl⟩
  have gr7' : gR ν' 11 0 7 = some i := by rw [(eqF m4.1 11 7 (by decide) (by decide) 0).2]; exact f1
  have gr8' : gR ν' 11 0 8 = some j := by rw [(eqF m4.1 11 8 (by decide) (by decide) 0).2]; exact f2
  -- the class's memory behind
  obtain ⟨ν1, hν, eC⟩ : ∃ ν1, (ν1 = if r = 0 then sR (sR ν' 11 0 7 (some j)) 11 0 8 (some i) else ν') ∧ m_Fo_run (nI l) s μ = some (r, ν1) := by
    refine ⟨_, rfl, ?_⟩
    unfold m_Fo_run
    rw [a1, oc_s, p1, if_neg z1, rg_isDots, decide_eq_true w2, if_pos rfl, f2]
    simp only [ap, Option.bind_some]
    rw [b1]
    simp only [Option.bind_some]
    rw [gr8]
    simp only [Option.bind_some]
    rw [m1]
    simp only [Option.bind_some, gr7', gr8']
    by_cases w : r = 0
    · rw [if_pos w, if_pos w]
    · rw [if_neg w, if_neg w]
  have kI : ∀ k q b, gI ν1 k q b = gI ν' k q b := fun k q b => by
    rw [hν]
    by_cases w : r = 0
    · rw [if_pos w]; rfl
    · rw [if_neg w]
  have sm1 : SM μ ν1 := by
    refine ⟨fun k hk => ?_, ?_⟩
    · have hk' := hk
      simp only [List.mem_cons, List.not_mem_nil, or_false] at hk'
      funext q b
      rw [kI, (eqA m4.1 k (by omega) (by simp only [List.mem_cons, List.not_mem_nil, or_false, not_or]; omega)).1]
    · rw [kI, (eqF m4.1 12 53 (by decide) (by decide) 0).1]
  have k12 : gI ν1 12 0 0 = gI μ 12 0 0 := by rw [kI, (eqF m4.1 12 0 (by decide) (by decide) 0).1]
  have k352 : gI ν1 352 0 l = nI pc := by rw [kI, (eqA m4.1 352 (by decide) (by decide)).1]; exact p2
  obtain ⟨r', ν'', ξ', o1, o2, o3, o4, o5, o6⟩ := AA ν1 sm1
  rw [m1] at o1
  obtain ⟨rfl, rfl⟩ := Prod.mk.inj (Option.some.inj o1)
  have hcl : m_Mo_closed (nI l) ν1 = some (nI (e c)) := clM (by omega) h1 h9 (by rw [sm1.1 343 (by decide)]; exact h4) (fun o ho => by rw [sm1.1 346 (by decide)]; exact (h14 o ho).2)
  have eM : m_Mo_run (nI l) s ν1 = mj_Mo_run_256 (nI l) s (nI (e c)) ξ' := by
    unfold m_Mo_run
    rw [a2 ν1 k12, if_pos rfl, gu_nI (by omega) (by omega), nI_clamp (by omega), k352, if_neg z1, if_neg s4, if_pos s32, hcl]
    exact o2
  have fin : ∀ ν2, m_Mo_run (nI l) s ν1 = some (r, ν2) → FI ν2 → InvN n ν2 := by
    intro ν2 e2 hFI
    have u := ((fm_Fo_run eC).mono (S' := [103, 280, 281, 282, 500, 501, 502, 1004, 1005, 1903, 1904, 1905, 2107, 2108, 381, 383, 384, 386, 387, 388, 389, 390, 391, 394, 395, 396, 397, 2242, 2245, 2252, 2253]) (by decide)).tr ((fm_Mo_run e2).mono (S' := [103, 280, 281, 282, 500, 501, 502, 1004, 1005, 1903, 1904, 1905, 2107, 2108, 381, 383, 384, 386, 387, 388, 389, 390, 391, 394, 395, 396, 397, 2242, 2245, 2252, 2253]) (by decide))
    exact inv_FI I (by decide) u hFI
  rcases o6 with ⟨rfl, h', q', z, D⟩ | ⟨d, d1', d2', rfl⟩
  · -- the run answers 0
    have z0 : gI ξ' 12 0 52 ≤ 0 := by rw [o3]; decide
    obtain ⟨ξ2, t1, t2, t3, t4, _⟩ := copy276 (l := l) (s := s) hp FU 0 (sI ξ' 12 0 53 (nI (e c))) (by omega) (by unfold FU; omega) (fun k hk => by
      obtain ⟨_, _, x3, x4, _⟩ := D.2.2.2.2.2.2.2.2.2.1 k hk
      obtain ⟨_, _, y3, y4, _⟩ := D.2.2.2.2.2.2.2.2.2.2.1 k hk
      simp (disch := omega) only [gI_ne]
      rw [x3, y3]; exact ⟨x4, y4⟩)
    have e2 : m_Mo_run (nI l) s ν1 = some (0, ξ2) := by
      rw [eM]
      unfold mj_Mo_run_256
      rw [if_pos z0]
      simp only [ap]
      exact t1
    have um := fm_Mo_run e2
    refine ⟨0, ν1, ξ2, eC, e2, fin ξ2 e2 ?_⟩
    have cI : ∀ k q b, k = 501 ∨ k = 502 → gI ξ2 k q b = gI ν' k q b := fun k q b hk => by
      rw [← kI, (eqA um k (by omega) (by simp only [List.mem_cons, List.not_mem_nil, or_false, not_or]; omega)).1]
    have g7 : gR ξ2 11 0 7 = some j := by rw [(eqF um 11 7 (by decide) (by decide) 0).2, hν, if_pos rfl]; simp [gR_sR]
    have g8 : gR ξ2 11 0 8 = some i := by rw [(eqF um 11 8 (by decide) (by decide) 0).2, hν, if_pos rfl]; simp [gR_sR]
    refine ⟨j, i, e c, by omega, g7, g8, hp, ?_, ?_, fun k hk => ?_⟩
    · rw [(eqF um 0 5 (by decide) (by decide) j).1]
      show gI ν1 0 j 5 = _
      rw [kI]; exact D.2.2.2.2.2.2.2.2.2.2.2.1
    · rw [t3 12 0 53 (by omega), gI_self]
    · obtain ⟨x1, x2, x3, x4, _⟩ := D.2.2.2.2.2.2.2.2.2.1 k hk
      obtain ⟨y1, y2, y3, y4, _⟩ := D.2.2.2.2.2.2.2.2.2.2.1 k hk
      obtain ⟨v1, v2, v3, v4⟩ := t4 k (by omega) hk
      rw [v1, v2, v3, v4, cI 501 _ _ (by omega), cI 501 _ _ (by omega), cI 502 _ _ (by omega), cI 502 _ _ (by omega)]
      simp (disch := omega) only [gL_sI, gI_ne]
      rw [x2, y2, i32_64, i32_64]
      exact ⟨rfl, rfl, x3, y3, x4, y4⟩
  · -- a fault
    have z0 : ¬ gI ξ' 12 0 52 ≤ 0 := by rw [o3, show (0 : Int32) = nI 0 from rfl, nle (by omega) (by omega)]; omega
    have zr : ¬ nI d = 0 := by rw [show (0 : Int32) = nI 0 from rfl, neq (by omega) (by omega)]; omega
    have e2 : m_Mo_run (nI l) s ν1 = some (nI d, ξ') := by
      rw [eM]
      unfold mj_Mo_run_256
      rw [if_neg z0, o3]
    have um := fm_Mo_run e2
    refine ⟨nI d, ν1, ξ', eC, e2, fin ξ' e2 ?_⟩
    rw [if_neg zr] at hν
    have g7 : gR ξ' 11 0 7 = some i := by rw [(eqF um 11 7 (by decide) (by decide) 0).2]; show gR ν1 11 0 7 = _; rw [hν]; exact gr7'
    have g8 : gR ξ' 11 0 8 = some j := by rw [(eqF um 11 8 (by decide) (by decide) 0).2]; show gR ν1 11 0 8 = _; rw [hν]; exact gr8'
    refine ⟨i, j, po, hij, g7, g8, f3, ?_, ?_, fun k hk => ?_⟩
    · rw [(eqF um 0 5 (by decide) (by decide) i).1]
      show gI ν1 0 i 5 = _
      rw [kI, m4.2.2 i (by omega)]; exact f4
    · rw [o5.2]; exact f5
    · have cI : ∀ k q b, k = 501 ∨ k = 502 → q / 2 ≠ j → gI ξ' k q b = gI μ k q b := fun k q b hk hq => by
        rw [(eqA um k (by omega) (by simp only [List.mem_cons, List.not_mem_nil, or_false, not_or]; omega)).1]
        show gI ν1 k q b = _
        rw [kI, m4.2.1 k q b hk hq]
      rw [cI 501 _ _ (by omega) (by omega), cI 501 _ _ (by omega) (by omega), cI 502 _ _ (by omega) (by omega), cI 502 _ _ (by omega) (by omega), o5.1 394 (by decide), o5.1 395 (by decide), o5.1 396 (by decide), o5.1 397 (by decide)]
      exact f6 k hk
