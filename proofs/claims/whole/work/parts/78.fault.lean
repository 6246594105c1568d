theorem n_lt0 {x : Int32} (h : 0 ≤ x.toInt) : ¬ x < 0 := fun q => by have : x.toInt < 0 := t_lt.mp q; omega
theorem c31 {o : Nat} (h : o < 31) : o = 0 ∨ o = 1 ∨ o = 2 ∨ o = 3 ∨ o = 4 ∨ o = 5 ∨ o = 6 ∨ o = 7 ∨ o = 8 ∨ o = 9 ∨ o = 10 ∨ o = 11 ∨ o = 12 ∨ o = 13 ∨ o = 14 ∨ o = 15 ∨ o = 16 ∨ o = 17 ∨ o = 18 ∨ o = 19 ∨ o = 20 ∨ o = 21 ∨ o = 22 ∨ o = 23 ∨ o = 24 ∨ o = 25 ∨ o = 26 ∨ o = 27 ∨ o = 28 ∨ o = 29 ∨ o = 30 := by omega
def tk (o : Nat) : Nat := (takes o).toNatClampNeg
def gv (o : Nat) : Nat := (gives o).toNatClampNeg
theorem tab {o : Nat} (h : o < 31) : takes o = nI (tk o) ∧ gives o = nI (gv o) ∧ tk o ≤ 2 ∧ gv o ≤ tk o + 1 ∧ (o = 7 → tk o = 2) := by
  have : ∀ o, o < 31 → takes o = nI (tk o) ∧ gives o = nI (gv o) ∧ tk o ≤ 2 ∧ gv o ≤ tk o + 1 ∧ (o = 7 → tk o = 2) := by decide +kernel
  exact this o h
theorem tabM {o : Nat} {ξ : Mem} (h : o < 31) : m_Mo_wants (nI o) ξ = nI (tk o) ∧ m_Mo_pushes (nI o) ξ = decide (gv o = tk o + 1) := by
  rcases c31 h with rfl | rfl | rfl | rfl | rfl | rfl | rfl | rfl | rfl | rfl | rfl | rfl | rfl | rfl | rfl | rfl | rfl | rfl | rfl | rfl | rfl | rfl | rfl | rfl | rfl | rfl | rfl | rfl | rfl | rfl | rfl <;> exact ⟨rfl, rfl⟩
theorem st6 {o : Nat} {a A : Int32} {j : Nat} {a1 : Int32} {ν ξ : Mem} (h : o < 31) : ∃ r : Nat, r < 8 ∧ mj_Ru_faultAhead_140 (nI o) a A j ν = some (nI r) ∧ mj_Mo_faultOf_120 a1 (nI o) a ξ = some (nI r) ∧ (r = 0 → (o = 20 ∨ o = 21 → 0 ≤ a.toInt ∧ a.toInt ≤ 15)) := by
  have e20 : (nI o = 20) = (o = 20) := neq (b := 20) (by omega) (by omega)
  have e21 : (nI o = 21) = (o = 21) := neq (b := 21) (by omega) (by omega)
  unfold mj_Ru_faultAhead_140 mj_Mo_faultOf_120
  by_cases w : o = 20 ∨ o = 21
  · have l1 : (if nI o = 20 then mj_Ru_faultAhead_152 (nI o) a A j ν else if nI o = 21 then mj_Ru_faultAhead_152 (nI o) a A j ν else some 0) = mj_Ru_faultAhead_152 (nI o) a A j ν := by
      rcases w with rfl | rfl
      · exact if_pos rfl
      · rw [if_neg (by decide)]; exact if_pos rfl
    have l2 : (if nI o = 20 then mj_Mo_faultOf_132 a1 (nI o) a ξ else if nI o = 21 then mj_Mo_faultOf_132 a1 (nI o) a ξ else some 0) = mj_Mo_faultOf_132 a1 (nI o) a ξ := by
      rcases w with rfl | rfl
      · exact if_pos rfl
      · rw [if_neg (by decide)]; exact if_pos rfl
    rw [l1, l2]
    unfold mj_Ru_faultAhead_152 mj_Mo_faultOf_132 mj_Mo_faultOf_142
    rw [rg_Fo]
    by_cases c : 0 ≤ a.toInt ∧ a.toInt ≤ 15
    · refine ⟨0, by omega, ?_, ?_, fun _ _ => c⟩
      · rw [decide_eq_true (show (0 : Int64).toInt ≤ a.toInt ∧ a.toInt ≤ (15 : Int64).toInt from c)]; rfl
      · rw [if_neg (n_lt0 c.1), if_pos (show a ≤ 15 from t_le.mpr c.2)]; rfl
    · refine ⟨7, by omega, ?_, ?_, fun q => by omega⟩
      · rw [decide_eq_false (show ¬ ((0 : Int64).toInt ≤ a.toInt ∧ a.toInt ≤ (15 : Int64).toInt) from c)]; rfl
      · by_cases c1 : a < 0
        · rw [if_pos c1]; rfl
        · rw [if_neg c1, if_neg]; rfl
          intro q
          have q1 : a.toInt ≤ 15 := t_le.mp q
          have q2 : ¬ a.toInt < 0 := fun w => c1 (t_lt.mpr w)
          omega
  · refine ⟨0, by omega, ?_, ?_, fun _ q => (w q).elim⟩
    · rw [if_neg (show ¬ nI o = 20 by rw [e20]; omega), if_neg (show ¬ nI o = 21 by rw [e21]; omega)]; rfl
    · rw [if_neg (show ¬ nI o = 20 by rw [e20]; omega), if_neg (show ¬ nI o = 21 by rw [e21]; omega)]; rfl
theorem st5 {o h : Nat} {a A : Int32} {j : Nat} {a1 : Int32} {ν ξ : Mem} (ho : o < 31) (hh : h ≤ 32) (c3 : gI ν 9 0 3 = nI h) (c42 : gI ξ 12 0 42 = nI h) (hS : S1 (gI ν 280 0) (gL ξ 381 0) h) (ht : tk o ≤ h) : ∃ r : Nat, r < 8 ∧ mj_Ru_faultAhead_118 (nI o) a A j ν = some (nI r) ∧ mj_Mo_faultOf_96 a1 (nI o) a ξ = some (nI r) ∧ (r = 0 → (o = 7 → gI ν 280 0 (h - 1) ≠ 0) ∧ (o = 20 ∨ o = 21 → 0 ≤ a.toInt ∧ a.toInt ≤ 15)) := by
  obtain ⟨r, r1, r2, r3, r4⟩ := st6 (a := a) (A := A) (j := j) (a1 := a1) (ν := ν) (ξ := ξ) ho
  unfold mj_Ru_faultAhead_118 mj_Mo_faultOf_96
  by_cases w : o = 7
  · subst w
    have t2 : tk 7 = 2 := (tab ho).2.2.2.2 rfl
    rw [if_pos (show nI 7 = 7 from rfl), if_pos (show nI 7 = 7 from rfl)]
    obtain ⟨s1, _⟩ := hS (h - 1) (by omega)
    simp (disch := omega) only [c3, c42, nsub1, gu_nI, nI_clamp, s1]
    by_cases g : gI ν 280 0 (h - 1) = 0
    · exact ⟨5, by omega, by rw [if_pos g]; rfl, by rw [g]; rfl, fun q => by omega⟩
    · refine ⟨r, r1, by rw [if_neg g]; exact r2, ?_, fun q => ⟨fun _ => g, r4 q⟩⟩
      rw [if_neg]
      · exact r3
      · intro q
        have := u_eq.mp q
        rw [i64] at this
        exact g (t_eq.mpr this)
  · have e7 : ¬ nI o = 7 := by rw [show (7 : Int32) = nI 7 from rfl, neq (by omega) (by omega)]; exact w
    rw [if_neg e7, if_neg e7]
    exact ⟨r, r1, r2, r3, fun q => ⟨fun k => (w k).elim, r4 q⟩⟩
theorem st4 {o h q : Nat} {a A : Int32} {j : Nat} {a1 : Int32} {ν ξ : Mem} (ho : o < 31) (hh : h ≤ 32) (hq : q ≤ 8) (c3 : gI ν 9 0 3 = nI h) (c42 : gI ξ 12 0 42 = nI h) (c4 : gI ν 9 0 4 = nI q) (c45 : gI ξ 12 0 45 = nI q) (hS : S1 (gI ν 280 0) (gL ξ 381 0) h) (ht : tk o ≤ h) : ∃ r : Nat, r < 8 ∧ mj_Ru_faultAhead_101 (nI o) a A j ν = some (nI r) ∧ mj_Mo_faultOf_79 a1 (nI o) a ξ = some (nI r) ∧ (r = 0 → (o = 18 → q < 8) ∧ (o = 7 → gI ν 280 0 (h - 1) ≠ 0) ∧ (o = 20 ∨ o = 21 → 0 ≤ a.toInt ∧ a.toInt ≤ 15)) := by
  obtain ⟨r, r1, r2, r3, r4⟩ := st5 (a := a) (A := A) (j := j) (a1 := a1) ho hh c3 c42 hS ht
  unfold mj_Ru_faultAhead_101 mj_Mo_faultOf_79
  have e18 : (nI o = 18) = (o = 18) := neq (b := 18) (by omega) (by omega)
  by_cases w : o = 18
  · rw [if_pos (show nI o = 18 by rw [e18]; exact w), if_pos (show nI o = 18 by rw [e18]; exact w), c4, c45]
    by_cases g : q < 8
    · refine ⟨r, r1, ?_, ?_, fun k => ⟨fun _ => g, r4 k⟩⟩
      · rw [if_pos (by rw [show (8 : Int32) = nI 8 from rfl, nlt (by omega) (by omega)]; exact g)]; exact r2
      · rw [if_neg (by rw [show (8 : Int32) = nI 8 from rfl, neq (by omega) (by omega)]; omega)]; exact r3
    · refine ⟨4, by omega, ?_, ?_, fun k => by omega⟩
      · rw [if_neg (by rw [show (8 : Int32) = nI 8 from rfl, nlt (by omega) (by omega)]; exact g)]; rfl
      · rw [if_pos (by rw [show (8 : Int32) = nI 8 from rfl, neq (by omega) (by omega)]; omega)]; rfl
  · rw [if_neg (show ¬ nI o = 18 by rw [e18]; exact w), if_neg (show ¬ nI o = 18 by rw [e18]; exact w)]
    exact ⟨r, r1, r2, r3, fun k => ⟨fun q => (w q).elim, r4 k⟩⟩
theorem st3 {o h q A l : Nat} {a : Int32} {j : Nat} {ν ξ : Mem} (ho : o < 31) (hl : l < 32) (hA : A ≤ 100) (h357 : gI ξ 357 0 l = nI A) (hh : h ≤ 32) (hq : q ≤ 8) (c3 : gI ν 9 0 3 = nI h) (c42 : gI ξ 12 0 42 = nI h) (c4 : gI ν 9 0 4 = nI q) (c45 : gI ξ 12 0 45 = nI q) (hS : S1 (gI ν 280 0) (gL ξ 381 0) h) (ht : tk o ≤ h) : ∃ r : Nat, r < 8 ∧ mj_Ru_faultAhead_74 (nI o) a (nI A) j ν = some (nI r) ∧ mj_Mo_faultOf_51 (nI l) (nI o) a ξ = some (nI r) ∧ (r = 0 → (16 ≤ o ∧ o ≤ 18 → 0 ≤ a.toInt ∧ a.toInt ≤ A) ∧ (o = 18 → q < 8) ∧ (o = 7 → gI ν 280 0 (h - 1) ≠ 0) ∧ (o = 20 ∨ o = 21 → 0 ≤ a.toInt ∧ a.toInt ≤ 15)) := by
  obtain ⟨r, r1, r2, r3, r4⟩ := st4 (a := a) (A := nI A) (j := j) (a1 := nI l) ho hh hq c3 c42 c4 c45 hS ht
  unfold mj_Ru_faultAhead_74 mj_Mo_faultOf_51
  rw [rg_Fo, nI_toInt (by omega), rg_Fo, show (16 : Int64).toInt = 16 from rfl, show (18 : Int64).toInt = 18 from rfl, show (0 : Int64).toInt = 0 from rfl, i64, nI_toInt (by omega)]
  have l16 : (nI o < 16) = (o < 16) := nlt (b := 16) (by omega) (by omega)
  have l18 : (18 < nI o) = (18 < o) := nlt (a := 18) (by omega) (by omega)
  by_cases w : 16 ≤ o ∧ o ≤ 18
  · rw [decide_eq_true (show (16 : Int) ≤ o ∧ (o : Int) ≤ 18 by omega), if_pos rfl, if_neg (show ¬ nI o < 16 by rw [l16]; omega), if_neg (show ¬ 18 < nI o by rw [l18]; omega)]
    simp (disch := omega) only [gu_nI, nI_clamp, h357]
    by_cases g : 0 ≤ a.toInt ∧ a.toInt ≤ (A : Int)
    · rw [decide_eq_true g, if_pos rfl, if_neg (n_lt0 g.1), if_pos (show a ≤ nI A from t_le.mpr (by rw [nI_toInt (by omega)]; exact g.2))]
      exact ⟨r, r1, r2, r3, fun k => ⟨fun _ => g, r4 k⟩⟩
    · refine ⟨3, by omega, ?_, ?_, fun k => by omega⟩
      · rw [decide_eq_false g]; rfl
      · by_cases g1 : a < 0
        · rw [if_pos g1]; rfl
        · rw [if_neg g1, if_neg]; rfl
          intro k
          have k1 := t_le.mp k
          rw [nI_toInt (by omega)] at k1
          have k2 : ¬ a.toInt < 0 := fun w => g1 (t_lt.mpr w)
          omega
  · rw [decide_eq_false (show ¬ ((16 : Int) ≤ o ∧ (o : Int) ≤ 18) by omega), if_neg (by decide)]
    refine ⟨r, r1, r2, ?_, fun k => ⟨fun q => (w q).elim, r4 k⟩⟩
    by_cases g : o < 16
    · rw [if_pos (show nI o < 16 by rw [l16]; exact g)]; exact r3
    · rw [if_neg (show ¬ nI o < 16 by rw [l16]; exact g), if_pos (show 18 < nI o by rw [l18]; omega)]; exact r3
theorem st2 {o h q A l p : Nat} {a : Int32} {j : Nat} {ν ξ : Mem} (ho : o < 31) (hl : l < 32) (hA : A ≤ 100) (hp : p ≤ 100) (h357 : gI ξ 357 0 l = nI A) (h05 : gI ν 0 j 5 = nI p) (hcl : m_Mo_closed (nI l) ξ = some (nI p)) (hh : h ≤ 32) (hq : q ≤ 8) (c3 : gI ν 9 0 3 = nI h) (c42 : gI ξ 12 0 42 = nI h) (c4 : gI ν 9 0 4 = nI q) (c45 : gI ξ 12 0 45 = nI q) (hS : S1 (gI ν 280 0) (gL ξ 381 0) h) (ht : tk o ≤ h) :
    ∃ r : Nat, r < 8 ∧ (if m_Fo_within (nI o).toInt64 22 27 ν then (if m_Fit_hasPoint j a ν then mj_Ru_faultAhead_74 (nI o) a (nI A) j ν else some 2) else mj_Ru_faultAhead_74 (nI o) a (nI A) j ν) = some (nI r) ∧ mj_Mo_faultOf_29 (nI l) (nI o) a ξ = some (nI r) ∧ (r = 0 → (22 ≤ o ∧ o ≤ 27 → 0 ≤ a.toInt ∧ a.toInt < p) ∧ (16 ≤ o ∧ o ≤ 18 → 0 ≤ a.toInt ∧ a.toInt ≤ A) ∧ (o = 18 → q < 8) ∧ (o = 7 → gI ν 280 0 (h - 1) ≠ 0) ∧ (o = 20 ∨ o = 21 → 0 ≤ a.toInt ∧ a.toInt ≤ 15)) := by
  obtain ⟨r, r1, r2, r3, r4⟩ := st3 (a := a) (j := j) ho hl hA h357 hh hq c3 c42 c4 c45 hS ht
  unfold mj_Mo_faultOf_29 m_Fit_hasPoint
  have hop : m_Mo_onPoint (nI o) ξ = decide (22 ≤ o ∧ o ≤ 27) := by
    refine (rg_two (x := nI o) (a := 22) (b := 27)).trans ?_
    rw [nI_toInt (by omega), show (22 : Int32).toInt = 22 from rfl, show (27 : Int32).toInt = 27 from rfl]
    apply decide_eq_decide.mpr; omega
  rw [rg_Fo, nI_toInt (by omega), show (22 : Int64).toInt = 22 from rfl, show (27 : Int64).toInt = 27 from rfl, hop, h05, rg_s (by omega), hcl]
  by_cases w : 22 ≤ o ∧ o ≤ 27
  · rw [decide_eq_true (show (22 : Int) ≤ o ∧ (o : Int) ≤ 27 by omega), decide_eq_true w, if_pos rfl, if_pos rfl]
    simp only [Option.bind_some]
    by_cases g : 0 ≤ a.toInt ∧ a.toInt < (p : Int)
    · rw [decide_eq_true g, if_pos rfl, if_neg (n_lt0 g.1), if_pos (show a < nI p from t_lt.mpr (by rw [nI_toInt (by omega)]; exact g.2))]
      exact ⟨r, r1, r2, r3, fun k => ⟨fun _ => g, r4 k⟩⟩
    · refine ⟨2, by omega, ?_, ?_, fun k => by omega⟩
      · rw [decide_eq_false g]; rfl
      · by_cases g1 : a < 0
        · rw [if_pos g1]; rfl
        · rw [if_neg g1, if_neg]; rfl
          intro k
          have k1 := t_lt.mp k
          rw [nI_toInt (by omega)] at k1
          have k2 : ¬ a.toInt < 0 := fun w => g1 (t_lt.mpr w)
          omega
  · rw [decide_eq_false (show ¬ ((22 : Int) ≤ o ∧ (o : Int) ≤ 27) by omega), decide_eq_false w, if_neg (by decide), if_neg (by decide)]
    exact ⟨r, r1, r2, r3, fun k => ⟨fun q => (w q).elim, r4 k⟩⟩
/-- both find the same fault ahead; none means that the act can be done -/
theorem fault_both {o h q A l p : Nat} {a : Int32} {j : Nat} {ν ξ : Mem} (ho : o < 31) (hl : l < 32) (hA : A ≤ 100) (hp : p ≤ 100) (h357 : gI ξ 357 0 l = nI A) (h05 : gI ν 0 j 5 = nI p) (hcl : m_Mo_closed (nI l) ξ = some (nI p)) (hh : h ≤ 32) (hq : q ≤ 8) (c3 : gI ν 9 0 3 = nI h) (c42 : gI ξ 12 0 42 = nI h) (c4 : gI ν 9 0 4 = nI q) (c45 : gI ξ 12 0 45 = nI q) (hS : S1 (gI ν 280 0) (gL ξ 381 0) h) :
    ∃ r : Nat, r < 8 ∧ m_Ru_faultAhead (nI o) a (nI A) j ν = some (nI r) ∧ m_Mo_faultOf (nI l) (nI o) a ξ = some (nI r) ∧ (r = 0 → tk o ≤ h ∧ h - tk o + gv o ≤ 32 ∧ (22 ≤ o ∧ o ≤ 27 → 0 ≤ a.toInt ∧ a.toInt < p) ∧ (16 ≤ o ∧ o ≤ 18 → 0 ≤ a.toInt ∧ a.toInt ≤ A) ∧ (o = 18 → q < 8) ∧ (o = 7 → gI ν 280 0 (h - 1) ≠ 0) ∧ (o = 20 ∨ o = 21 → 0 ≤ a.toInt ∧ a.toInt ≤ 15)) := by
  obtain ⟨t1, t2, t3, t4, _⟩ := tab ho
  obtain ⟨m1, m2⟩ := tabM (ξ := ξ) ho
  unfold m_Ru_faultAhead m_Mo_faultOf
  rw [m1, m2, c42, rg_Fo, nI_toInt (by omega), show (0 : Int64).toInt = 0 from rfl, show (30 : Int64).toInt = 30 from rfl, decide_eq_true (show (0 : Int) ≤ o ∧ (o : Int) ≤ 30 by omega), if_pos rfl]
  simp (disch := omega) only [gu_nI, nI_clamp, t1, t2, c3]
  by_cases w : h < tk o
  · refine ⟨1, by omega, ?_, ?_, fun k => by omega⟩
    · rw [if_pos (by rw [nlt (by omega) (by omega)]; exact w)]; rfl
    · rw [if_pos (by rw [nlt (by omega) (by omega)]; exact w)]; rfl
  · rw [if_neg (show ¬ nI h < nI (tk o) by rw [nlt (by omega) (by omega)]; exact w), if_neg (show ¬ nI h < nI (tk o) by rw [nlt (by omega) (by omega)]; exact w), pk_sub (by omega), nI_add]
    by_cases w2 : h - tk o + gv o ≤ 32
    · rw [if_pos (by rw [show (32 : Int32) = nI 32 from rfl, nle (by omega) (by omega)]; exact w2)]
      obtain ⟨r, r1, r2, r3, r4⟩ := st2 (a := a) (j := j) ho hl hA hp h357 h05 hcl hh hq c3 c42 c4 c45 hS (by omega)
      refine ⟨r, r1, r2, ?_, fun k => ⟨by omega, w2, r4 k⟩⟩
      by_cases w3 : gv o = tk o + 1
      · rw [decide_eq_true w3, if_pos rfl, if_neg (by rw [show (32 : Int32) = nI 32 from rfl, neq (by omega) (by omega)]; omega)]; exact r3
      · rw [decide_eq_false w3, if_neg (by decide)]; exact r3
    · refine ⟨1, by omega, ?_, ?_, fun k => by omega⟩
      · rw [if_neg (by rw [show (32 : Int32) = nI 32 from rfl, nle (by omega) (by omega)]; exact w2)]; rfl
      · rw [decide_eq_true (show gv o = tk o + 1 by omega), if_pos rfl, if_pos (by rw [show (32 : Int32) = nI 32 from rfl, neq (by omega) (by omega)]; omega)]; rfl
