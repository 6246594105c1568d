def rxy (μ : Mem) (k0 l : Nat) (s : Int32) (k : Nat) : Int64 := rnd ((64 * s.toInt64) * (gI μ k0 l k).toInt64) 1024
theorem rxy_b {μ : Mem} {k0 l k : Nat} {s : Int32} (hs : 4 ≤ s.toInt ∧ s.toInt ≤ 32) (hb : bI (gI μ k0 l k) (-32000) 32000) : -100000 ≤ (rxy μ k0 l s k).toInt ∧ (rxy μ k0 l s k).toInt ≤ 100000 := by
  have e1 : (64 * s.toInt64).toInt = 64 * s.toInt := by
    rw [u_mul, i64]; rfl
    rw [i64, show (64 : Int64).toInt = 64 from rfl]; omega
  have m := mulb (A := 2048) (B := 32000) (a := 64 * s.toInt) (b := (gI μ k0 l k).toInt) (by omega) hb
  apply rnd1024
  rw [u_mul, e1, i64]
  · exact ⟨by omega, by omega⟩
  · rw [e1, i64]; omega
def RW (μ : Mem) (l j : Nat) (s : Int32) (ν : Mem) (k : Nat) : Prop := (gI ν 500 (2 * j) k = (rxy μ 300 l s k).toInt32 ∧ gI ν 501 (2 * j) k = (rxy μ 300 l s k).toInt32 ∧ gI ν 502 (2 * j) k = 0) ∧ (gI ν 500 (2 * j + 1) k = (rxy μ 301 l s k).toInt32 ∧ gI ν 501 (2 * j + 1) k = (rxy μ 301 l s k).toInt32 ∧ gI ν 502 (2 * j + 1) k = 0)
def RX (μ : Mem) (l : Nat) (s : Int32) (ξ : Mem) (k : Nat) : Prop := gL ξ 386 0 k = rxy μ 300 l s k ∧ gL ξ 387 0 k = rxy μ 301 l s k ∧ gL ξ 388 0 k = rxy μ 300 l s k ∧ gL ξ 389 0 k = rxy μ 301 l s k ∧ gI ξ 390 0 k = 0 ∧ gI ξ 391 0 k = 0
theorem ag_sc {μ ν : Mem} {j l : Nat} (h : SC μ j ν) : AgL μ ν l := by
  intro k a b hk _
  by_cases w : k = 10
  · subst w
    refine (eqF h.1 10 b (by decide) ?_ a).1
    simp only [List.mem_cons, List.not_mem_nil, or_false, not_or]; omega
  · rw [(eqA h.1 k (by omega) (by simp only [List.mem_cons, List.not_mem_nil, or_false, not_or]; omega)).1]
theorem start18 {μ : Mem} {j l c p0 : Nat} {e : Nat → Nat} {s : Int32} {cc : Mem → Option Mem} (hSF : SF μ l c p0 e) : ∀ f o ν, o ≤ c → c - o < f → SC μ j ν → (gI ν 0 j 5 = nI (e c) ∧ gI ν 0 j 4 = nI c ∧ ∀ o', o' < o → gI ν 103 j o' = nI (e (o' + 1))) → ∃ ν', lp_Fit_start_18 j l s cc f (nI o) ν = cc ν' ∧ SC μ j ν' ∧ FX ν' j (e c) c e := by
  have hc := hSF.1
  intro f
  induction f with
  | zero => intro o ν h1 h2; omega
  | succ f ih =>
    intro o ν h1 h2 h3 h4
    by_cases h : c ≤ o
    · obtain rfl : o = c := by omega
      exact ⟨ν, by simp (disch := omega) only [lp_Fit_start_18, h4.2.1, nle, h, if_true], h3, h4⟩
    · have n1 : nI o + 1 = nI (o + 1) := nI_add o 1
      have es : m_Sh_endOf l (nI o) ν = some (nI (e (o + 1))) := by
        unfold m_Sh_endOf
        rw [n1, startC (SF_ag (ag_sc h3) hSF) (by omega)]; rfl
      obtain ⟨ν', e1, e2⟩ := ih (o + 1) (sI ν 103 j o (nI (e (o + 1)))) (by omega) (by omega) (sc_sI h3 (by omega)) ⟨by rw [gI_ne (by omega)]; exact h4.1, by rw [gI_ne (by omega)]; exact h4.2.1, fun o' ho' => by
        by_cases w : o' = o
        · subst w; rw [gI_self]
        · rw [gI_ne2 w]; exact h4.2.2 o' (by omega)⟩
      refine ⟨ν', ?_, e2⟩
      rw [← e1]
      simp (disch := omega) only [lp_Fit_start_18, h4.2.1, nle, h, if_false, es, Option.bind_some, gu_nI, nI_clamp, ap, n1]
theorem start45 {μ : Mem} {j l c p : Nat} {e : Nat → Nat} {s : Int32} (hp : p ≤ 100) : ∀ f k ν, k ≤ p → p - k < f → SC μ j ν → FX ν j p c e → (∀ i, i < k → RW μ l j s ν i) → ∃ ν', lp_Fit_start_45 j l s f (nI k) ν = some ν' ∧ SC μ j ν' ∧ FX ν' j p c e ∧ ∀ i, i < p → RW μ l j s ν' i := by
  have c0 : (0 : Int32).toNatClampNeg = 0 := rfl
  have c1 : (1 : Int32).toNatClampNeg = 1 := rfl
  have g0 : ∀ {α : Type} (x : Option α), gu (0 : Int32) 2 x = x := fun x => gu_nI (l := 0) (by omega) (by omega)
  have g1 : ∀ {α : Type} (x : Option α), gu (1 : Int32) 2 x = x := fun x => gu_nI (l := 1) (by omega) (by omega)
  have d0 : ¬ (2 : Int32) ≤ 0 := by decide
  have d1 : ¬ (2 : Int32) ≤ 1 := by decide
  have d2 : (2 : Int32) ≤ 2 := by decide
  have a0 : (0 : Int32) + 1 = 1 := rfl
  have a1 : (1 : Int32) + 1 = 2 := rfl
  intro f
  induction f with
  | zero => intro k ν h1 h2; omega
  | succ f ih =>
    intro k ν h1 h2 h3 h4 h5
    by_cases h : p ≤ k
    · obtain rfl : k = p := by omega
      exact ⟨ν, by simp (disch := omega) only [lp_Fit_start_45, h4.1, nle, h, if_true], h3, h4, h5⟩
    · have n1 : nI k + 1 = nI (k + 1) := nI_add k 1
      have x0 : gI ν 300 l k = gI μ 300 l k := by rw [(eqA h3.1 300 (by decide) (by decide)).1]
      have x1 : gI ν 301 l k = gI μ 301 l k := by rw [(eqA h3.1 301 (by decide) (by decide)).1]
      obtain ⟨vx, hvx⟩ : ∃ v, v = (rxy μ 300 l s k).toInt32 := ⟨_, rfl⟩
      obtain ⟨vy, hvy⟩ : ∃ v, v = (rxy μ 301 l s k).toInt32 := ⟨_, rfl⟩
      have q1 : ∀ ν' : Mem, m_Fo_rounded ((64 * s.toInt64) * (gI μ 300 l k).toInt64) 1024 ν' = some (rxy μ 300 l s k) := fun ν' => (rd_both (by decide) (by decide)).1
      have q2 : ∀ ν' : Mem, m_Fo_rounded ((64 * s.toInt64) * (gI μ 301 l k).toInt64) 1024 ν' = some (rxy μ 301 l s k) := fun ν' => (rd_both (by decide) (by decide)).1
      have r : ∀ g ν' (cc : Int32 → Mem → Option Mem), lp_Fit_start_114 j l s cc (g + 1 + 1 + 1) (nI k) 0 ν' = cc (nI k) (sI (sI (sI (sI ν' 501 (2 * j) k (gI ν' 500 (2 * j) k)) 502 (2 * j) k 0) 501 (2 * j + 1) k (gI ν' 500 (2 * j + 1) k)) 502 (2 * j + 1) k 0) := by
        intro g ν' cc
        simp (disch := omega) only [lp_Fit_start_114, d0, d1, d2, if_false, if_true, g0, g1, c0, c1, gu_nI, nI_clamp, ap, a0, a1, Nat.add_zero, gI_ne]
      have e0 : lp_Fit_start_45 j l s (f + 1) (nI k) ν = lp_Fit_start_114 j l s (mj_Fit_start_154 j l s (lp_Fit_start_45 j l s f)) FU (nI k) 0 (sI (sI ν 500 (2 * j) k vx) 500 (2 * j + 1) k vy) := by
        rw [hvx, hvy]
        simp (disch := omega) only [lp_Fit_start_45, h4.1, nle, h, if_false, g0, g1, gu_nI, nI_clamp, c0, c1, Nat.add_zero, x0, q1, Option.bind_some, ap, gI_ne, x1, q2]
      obtain ⟨ν', e1, e2⟩ := ih (k + 1) (sI (sI (sI (sI (sI (sI ν 500 (2 * j) k vx) 500 (2 * j + 1) k vy) 501 (2 * j) k vx) 502 (2 * j) k 0) 501 (2 * j + 1) k vy) 502 (2 * j + 1) k 0) (by omega) (by omega)
        (sc_sI (sc_sI (sc_sI (sc_sI (sc_sI (sc_sI h3 (by omega)) (by omega)) (by omega)) (by omega)) (by omega)) (by omega)) (by unfold FX; simp (disch := omega) only [gI_ne]; exact h4) (fun i hi => by
          by_cases w : i = k
          · subst w
            refine ⟨⟨?_, ?_, ?_⟩, ?_, ?_, ?_⟩ <;> simp (disch := omega) only [gI_ne, gI_ne1, gI_self] <;> assumption
          · unfold RW
            simp (disch := omega) only [gI_ne2]
            exact h5 i (by omega))
      refine ⟨ν', ?_, e2⟩
      rw [← e1, e0]
      refine (r 99997 _ _).trans ?_
      simp (disch := omega) only [mj_Fit_start_154, ap, n1, gI_ne1, gI_self]
theorem start_C {μ : Mem} {j l c p0 : Nat} {e : Nat → Nat} {s : Int32} (hSF : SF μ l c p0 e) : ∃ ν, m_Fit_start j l s μ = some ν ∧ SC μ j ν ∧ FX ν j (e c) c e ∧ ∀ i, i < e c → RW μ l j s ν i := by
  have hp : e c ≤ 100 := Nat.le_trans hSF.2.2.2.2.2.2.2.2.2.2.1 hSF.2.1
  have hc := hSF.1
  have s0 : SC μ j μ := ⟨Un.rf, fun _ _ _ _ _ => rfl, fun _ _ => rfl⟩
  obtain ⟨ν1, e1, e2, e3⟩ := start18 (j := j) (s := s) (cc := mj_Fit_start_43 j l s) hSF FU 0 (sI (sI μ 0 j 5 (nI (e c))) 0 j 4 (nI c)) (by omega) (by unfold FU; omega) (sc_sI (sc_sI s0 (by omega)) (by omega)) ⟨by simp (disch := omega) only [gI_ne2, gI_self], gI_self, fun o ho => by omega⟩
  obtain ⟨ν2, e4, e5⟩ := start45 (μ := μ) (l := l) (s := s) hp FU 0 ν1 (by omega) (by unfold FU; omega) e2 e3 (fun i hi => by omega)
  refine ⟨ν2, ?_, e5⟩
  unfold m_Fit_start
  rw [clC hSF]
  simp (disch := omega) only [Option.bind_some, ap, gI_ne, hSF.2.2.1]
  rw [show lp_Fit_start_18 j l s (mj_Fit_start_43 j l s) FU 0 (sI (sI μ 0 j 5 (nI (e c))) 0 j 4 (nI c)) = _ from e1]
  exact e4
theorem start39 {μ : Mem} {l p : Nat} {s : Int32} {cc : Int32 → Mem → Option (Int32 × Mem)} (hl : l < 32) (hp : p ≤ 100) (hP : ∀ k, k < p → gI μ 347 0 (100 * l + k) = gI μ 300 l k ∧ gI μ 348 0 (100 * l + k) = gI μ 301 l k) : ∀ f k ξ, k ≤ p → p - k < f → SM μ ξ → (∀ i, i < k → RX μ l s ξ i) → ∃ ξ', lp_Mo_run_39 (nI l) s cc f (nI p) (nI k) ξ = cc (nI p) ξ' ∧ SM μ ξ' ∧ ∀ i, i < p → RX μ l s ξ' i := by
  intro f
  induction f with
  | zero => intro k ξ h1 h2; omega
  | succ f ih =>
    intro k ξ h1 h2 h3 h5
    by_cases h : p ≤ k
    · obtain rfl : k = p := by omega
      exact ⟨ξ, by simp (disch := omega) only [lp_Mo_run_39, nle, h, if_true], h3, h5⟩
    · have n1 : nI k + 1 = nI (k + 1) := nI_add k 1
      obtain ⟨p1, p2⟩ := hP k (by omega)
      have x0 : gI ξ 347 0 (100 * l + k) = gI μ 300 l k := by rw [h3.1 347 (by decide)]; exact p1
      have x1 : gI ξ 348 0 (100 * l + k) = gI μ 301 l k := by rw [h3.1 348 (by decide)]; exact p2
      have q1 : ∀ ν' : Mem, m_Mo_rounded ((64 * s.toInt64) * (gI μ 300 l k).toInt64) 1024 ν' = some (rxy μ 300 l s k) := fun ν' => (rd_both (by decide) (by decide)).2
      have q2 : ∀ ν' : Mem, m_Mo_rounded ((64 * s.toInt64) * (gI μ 301 l k).toInt64) 1024 ν' = some (rxy μ 301 l s k) := fun ν' => (rd_both (by decide) (by decide)).2
      obtain ⟨ξ', e1, e2⟩ := ih (k + 1) (sI (sI (sL (sL (sL (sL ξ 386 0 k (rxy μ 300 l s k)) 387 0 k (rxy μ 301 l s k)) 388 0 k (rxy μ 300 l s k)) 389 0 k (rxy μ 301 l s k)) 390 0 k 0) 391 0 k 0) (by omega) (by omega) (sm_sI (sm_sI (sm_sL (sm_sL (sm_sL (sm_sL h3)))) (by omega)) (by omega)) (fun i hi => by
        by_cases w : i = k
        · subst w
          refine ⟨?_, ?_, ?_, ?_, ?_, ?_⟩ <;> simp (disch := omega) only [gL_sI, gL_ne, gL_self, gI_ne, gI_self]
        · unfold RX
          simp (disch := omega) only [gL_sI, gL_ne2, gI_ne2, gI_sL]
          exact h5 i (by omega))
      refine ⟨ξ', ?_, e2⟩
      rw [← e1]
      simp (disch := omega) only [lp_Mo_run_39, nle, h, if_false, ix100, gu_nI, nI_clamp, x0, q1, Option.bind_some, ap, gI_sL, x1, q2, gL_ne, gL_self, gL_sI, n1]
theorem start164 {μ : Mem} {l p : Nat} {s y3 : Int32} {cc : Int32 → Mem → Option (Int32 × Mem)} : ∀ f k ξ, k ≤ 16 → 16 - k < f → SM μ ξ → (∀ i, i < p → RX μ l s ξ i) → (∀ i, i < k → gL ξ 383 0 i = 0) → ∃ ξ', lp_Mo_run_164 (nI l) s cc f y3 (nI k) ξ = cc y3 ξ' ∧ SM μ ξ' ∧ (∀ i, i < p → RX μ l s ξ' i) ∧ ∀ i, i < 16 → gL ξ' 383 0 i = 0 := by
  intro f
  induction f with
  | zero => intro k ξ h1 h2; omega
  | succ f ih =>
    intro k ξ h1 h2 h3 h4 h5
    by_cases h : 16 ≤ k
    · obtain rfl : k = 16 := by omega
      exact ⟨ξ, by simp (disch := omega) only [lp_Mo_run_164, show (16 : Int32) = nI 16 from rfl, nle, h, if_true], h3, h4, h5⟩
    · have n1 : nI k + 1 = nI (k + 1) := nI_add k 1
      obtain ⟨ξ', e1, e2⟩ := ih (k + 1) (sL ξ 383 0 k 0) (by omega) (by omega) (sm_sL h3) (fun i hi => by unfold RX; simp (disch := omega) only [gL_ne, gI_sL]; exact h4 i hi) (fun i hi => by
        by_cases w : i = k
        · subst w; rw [gL_self]
        · rw [gL_ne2 w]; exact h5 i (by omega))
      refine ⟨ξ', ?_, e2⟩
      rw [← e1]
      simp (disch := omega) only [lp_Mo_run_164, show (16 : Int32) = nI 16 from rfl, nle, h, if_false, gu_nI, nI_clamp, ap, n1]
