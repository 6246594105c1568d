/-- the state behind a point -/
def sb (a z : Int32) : Int32 := if a = 0 then z else if a = 2 then (if z = 2 then 3 else -1) else if z = 0 then 0 else -1
def stt (kd : Nat → Int32) (s : Nat) : Nat → Int32
  | 0 => 1
  | j + 1 => sb (stt kd s j) (kd (s + j))
def tm (a : Int32) : Int32 := if a = 3 then 1 else a
def K3 (z : Int32) : Prop := z = 0 ∨ z = 1 ∨ z = 2
def S4 (a : Int32) : Prop := a = 0 ∨ a = 1 ∨ a = 2 ∨ a = 3
theorem sb_S4 {a z : Int32} (ha : S4 a) (hz : K3 z) (h : sb a z ≠ -1) : S4 (sb a z) := by
  rcases ha with rfl | rfl | rfl | rfl <;> rcases hz with rfl | rfl | rfl <;> revert h <;> unfold S4 sb <;> decide
def bres (kd : Nat → Int32) (s : Nat) : Nat → Nat → Int32
  | 0, j => if j < 2 ∨ stt kd s j = 2 then nI j else -1
  | d + 1, j => if stt kd s (j + 1) = -1 then nI j else bres kd s d (j + 1)
theorem bad_C {μ : Mem} {x s p : Nat} (h8 : gI μ 10 x 8 = nI p) (hp : p ≤ 100) : ∀ (d f j : Nat), s + j + d = p → d < f → lp_Sh_firstBad_9 x μ (mj_Sh_firstBad_33 x μ) (mj_Sh_firstBad_43 x μ) f (nI s) (stt (gI μ 302 x) s j) (nI (s + j)) = some (bres (gI μ 302 x) s d j) := by
  intro d
  induction d with
  | zero =>
    intro f j h1 h2
    obtain ⟨f, rfl⟩ : ∃ f', f = f' + 1 := ⟨f - 1, by omega⟩
    have w : p ≤ s + j := by omega
    have w2 : p - s = j := by omega
    have w3 : (nI j < 2) = (j < 2) := by rw [show (2 : Int32) = nI 2 from rfl, nlt (by omega) (by omega)]
    simp (disch := omega) only [lp_Sh_firstBad_9, h8, nle, w, if_true, mj_Sh_firstBad_43, mj_Sh_firstBad_58, mj_Sh_firstBad_63, pk_sub, w2, w3]
    rw [if_neg (show ¬ (1 : Int32) = 0 by decide)]
    unfold bres
    by_cases q1 : j < 2
    · rw [if_pos q1, if_pos (Or.inl q1)]
    · rw [if_neg q1]
      by_cases q2 : stt (gI μ 302 x) s j = 2
      · rw [if_pos q2, if_pos (Or.inr q2)]
      · rw [if_neg q2, if_neg (fun w => w.elim q1 q2)]
  | succ d ih =>
    intro f j h1 h2
    obtain ⟨f, rfl⟩ : ∃ f', f = f' + 1 := ⟨f - 1, by omega⟩
    have w : ¬ p ≤ s + j := by omega
    have n1 : nI (s + j) + 1 = nI (s + (j + 1)) := nI_add (s + j) 1
    have w2 : s + j - s = j := by omega
    simp (disch := omega) only [lp_Sh_firstBad_9, h8, nle, w, if_false, gu_nI, nI_clamp, ap, mj_Sh_firstBad_33, pk_sub, n1, w2]
    show (if stt (gI μ 302 x) s (j + 1) = -1 then _ else lp_Sh_firstBad_9 x μ (mj_Sh_firstBad_33 x μ) (mj_Sh_firstBad_43 x μ) f (nI s) (stt (gI μ 302 x) s (j + 1)) (nI (s + (j + 1)))) = some (if stt (gI μ 302 x) s (j + 1) = -1 then nI j else bres (gI μ 302 x) s d (j + 1))
    rw [ih f (j + 1) (by omega) (by omega)]
    split <;> rfl
theorem bad_M1 {μ : Mem} {x len j f y : Nat} {a z : Int32} {K : Int32 → Int32 → Option Int32} (hl : len ≤ 100) (hj : j < len) (hy : y + j < 3200) (hz : gI μ 349 0 (y + j) = z) (ha : S4 a) (hk : K3 z) : lp_Mo_bad_30 (nI x) μ K (f + 1) (nI y) (nI len) (tm a) (nI j) = if sb a z = -1 then some (nI j) else lp_Mo_bad_30 (nI x) μ K f (nI y) (nI len) (tm (sb a z)) (nI (j + 1)) := by
  have w : ¬ len ≤ j := by omega
  have n1 : nI j + 1 = nI (j + 1) := nI_add j 1
  simp (disch := omega) only [lp_Mo_bad_30, nle, w, if_false, nI_add, gu_nI, nI_clamp, ap, hz, mj_Mo_bad_58, mj_Mo_bad_73, mj_Mo_bad_85, mj_Mo_bad_104, mj_Mo_bad_105, n1]
  rcases ha with rfl | rfl | rfl | rfl <;> rcases hk with rfl | rfl | rfl <;> simp [sb, tm]
theorem bad_M {μ : Mem} {x s len : Nat} {kd : Nat → Int32} (hl : len ≤ 100) (hx : x < 32) (hs : s + len ≤ 100) (hk : ∀ j, j < len → gI μ 349 0 (100 * x + s + j) = kd (s + j) ∧ K3 (kd (s + j))) : ∀ (d f j : Nat), j + d = len → d < f → S4 (stt kd s j) → lp_Mo_bad_30 (nI x) μ (mj_Mo_bad_113 (nI x) μ) f (nI (100 * x + s)) (nI len) (tm (stt kd s j)) (nI j) = some (bres kd s d j) := by
  intro d
  induction d with
  | zero =>
    intro f j h1 h2 h3
    obtain ⟨f, rfl⟩ : ∃ f', f = f' + 1 := ⟨f - 1, by omega⟩
    have w2 : len = j := by omega
    subst w2
    have w3 : (nI len < 2) = (len < 2) := by rw [show (2 : Int32) = nI 2 from rfl, nlt (by omega) (by omega)]
    have w4 : (tm (stt kd s len) = 2) = (stt kd s len = 2) := by
      rcases h3 with h | h | h | h <;> rw [h] <;> unfold tm <;> decide
    simp (disch := omega) only [lp_Mo_bad_30, nle, Nat.le_refl, if_true, mj_Mo_bad_113, mj_Mo_bad_124, w3, w4]
    unfold bres
    by_cases q1 : len < 2
    · rw [if_pos q1, if_pos (Or.inl q1)]
    · rw [if_neg q1]
      by_cases q2 : stt kd s len = 2
      · rw [if_pos q2, if_pos (Or.inr q2)]
      · rw [if_neg q2, if_neg (fun w => w.elim q1 q2)]
  | succ d ih =>
    intro f j h1 h2 h3
    obtain ⟨f, rfl⟩ : ∃ f', f = f' + 1 := ⟨f - 1, by omega⟩
    obtain ⟨k1, k2⟩ := hk j (by omega)
    rw [bad_M1 hl (by omega) (by omega) k1 h3 k2]
    show (if stt kd s (j + 1) = -1 then _ else lp_Mo_bad_30 (nI x) μ _ f _ _ (tm (stt kd s (j + 1))) _) = some (if stt kd s (j + 1) = -1 then nI j else bres kd s d (j + 1))
    by_cases q : stt kd s (j + 1) = -1
    · rw [if_pos q, if_pos q]
    · rw [if_neg q, if_neg q]
      exact ih f (j + 1) (by omega) (by omega) (sb_S4 h3 k2 q)
theorem bres_ok {kd : Nat → Int32} {s : Nat} : ∀ (d j : Nat), j + d ≤ 100 → (∀ i, i ≤ j → stt kd s i ≠ -1) → bres kd s d j = -1 → (∀ i, i ≤ j + d → stt kd s i ≠ -1) ∧ 2 ≤ j + d ∧ stt kd s (j + d) ≠ 2 := by
  have nn : ∀ j, j ≤ 100 → nI j ≠ -1 := by
    intro j hj w
    have := t_eq.mp w
    rw [nI_toInt (by omega), show (-1 : Int32).toInt = -1 from rfl] at this
    omega
  intro d
  induction d with
  | zero =>
    intro j h1 h2 h3
    unfold bres at h3
    by_cases q : j < 2 ∨ stt kd s j = 2
    · rw [if_pos q] at h3; exact absurd h3 (nn j (by omega))
    · exact ⟨h2, by omega, fun w => q (Or.inr w)⟩
  | succ d ih =>
    intro j h1 h2 h3
    unfold bres at h3
    by_cases q : stt kd s (j + 1) = -1
    · rw [if_pos q] at h3; exact absurd h3 (nn j (by omega))
    · rw [if_neg q] at h3
      have := ih (j + 1) (by omega) (fun i hi => by
        by_cases w : i = j + 1
        · rw [w]; exact q
        · exact h2 i (by omega)) h3
      rw [show j + 1 + d = j + (d + 1) by omega] at this
      exact this
theorem sb_0 {a z : Int32} (ha : S4 a) (h : sb a z = 0) : z = 0 := by
  by_cases q : z = 0
  · exact q
  · rcases ha with rfl | rfl | rfl | rfl <;> simp [sb, q] at h
    split at h <;> exact absurd h (by decide)
theorem sb_2 {a z : Int32} (ha : S4 a) (hz : K3 z) (h : sb a z = 2) : a = 0 ∧ z = 2 := by
  rcases ha with rfl | rfl | rfl | rfl <;> rcases hz with rfl | rfl | rfl <;> revert h <;> unfold sb <;> decide
theorem LC_of {kd : Nat → Int32} {s len : Nat} (h2 : 2 ≤ len) (hk : ∀ j, j < len → K3 (kd (s + j))) (hs : ∀ i, i ≤ len → stt kd s i ≠ -1) (hl : stt kd s len ≠ 2) : LC kd s (s + len) := by
  have hS : ∀ i, i ≤ len → S4 (stt kd s i) := by
    intro i
    induction i with
    | zero => intro _; exact Or.inr (Or.inl rfl)
    | succ i ih => intro hi; exact sb_S4 (ih (by omega)) (hk i (by omega)) (hs (i + 1) hi)
  have st : ∀ i, i < len → sb (stt kd s i) (kd (s + i)) ≠ -1 := fun i hi => hs (i + 1) (by omega)
  have f1 : ∀ i, i < len → (stt kd s i = 1 ∨ stt kd s i = 3) → kd (s + i) = 0 := by
    intro i hi w
    have := st i hi
    by_cases q : kd (s + i) = 0
    · exact q
    · exfalso; apply this; rcases w with w | w <;> rw [w] <;> simp [sb, q]
  have f2 : ∀ i, i < len → stt kd s i = 2 → kd (s + i) = 2 := by
    intro i hi w
    have := st i hi
    by_cases q : kd (s + i) = 2
    · exact q
    · exfalso; apply this; rw [w]; simp [sb, q]
  have f0 : ∀ i, i ≤ len → stt kd s i = 0 → 0 < i ∧ kd (s + i - 1) = 0 := by
    intro i hi w
    rcases i with _ | i
    · exact absurd w (by unfold stt; decide)
    · exact ⟨by omega, by rw [show s + (i + 1) - 1 = s + i by omega]; exact sb_0 (hS i (by omega)) w⟩
  have s0 : kd s = 0 := f1 0 (by omega) (Or.inl rfl)
  refine ⟨s0, fun k hk1 hk2 => ?_⟩
  obtain ⟨i, rfl⟩ : ∃ i, k = s + i := ⟨k - s, by omega⟩
  have hi : i < len := by omega
  refine ⟨hk i hi, fun w => ?_, fun w => ?_⟩
  · have z : stt kd s i = 0 := by
      rcases hS i (by omega) with q | q | q | q
      · exact q
      · have := f1 i hi (Or.inl q); rw [w] at this; exact absurd this (by decide)
      · have := f2 i hi q; rw [w] at this; exact absurd this (by decide)
      · have := f1 i hi (Or.inr q); rw [w] at this; exact absurd this (by decide)
    refine ⟨(f0 i (by omega) z).2, fun w2 => ?_⟩
    exact f1 (i + 1) (by omega) (Or.inl (by show sb (stt kd s i) (kd (s + i)) = 1; rw [z, w]; rfl))
  · rcases hS i (by omega) with q | q | q | q
    · left
      have z2 : stt kd s (i + 1) = 2 := by show sb (stt kd s i) (kd (s + i)) = 2; rw [q, w]; rfl
      have hl2 : i + 1 < len := by
        by_cases w3 : i + 1 = len
        · rw [w3] at z2; exact absurd z2 hl
        · omega
      have z3 : kd (s + (i + 1)) = 2 := f2 (i + 1) hl2 z2
      refine ⟨(f0 i (by omega) q).2, by omega, z3, fun w2 => ?_⟩
      exact f1 (i + 2) (by omega) (Or.inr (by show sb (stt kd s (i + 1)) (kd (s + (i + 1))) = 3; rw [z2, z3]; rfl))
    · have := f1 i hi (Or.inl q); rw [w] at this; exact absurd this (by decide)
    · right
      rcases i with _ | i
      · exact absurd q (by unfold stt; decide)
      · obtain ⟨y1, y2⟩ := sb_2 (hS i (by omega)) (hk i (by omega)) q
        obtain ⟨y3, y4⟩ := f0 i (by omega) y1
        refine ⟨by omega, by rw [show s + (i + 1) - 1 = s + i by omega]; exact y2, by rw [show s + (i + 1) - 2 = s + i - 1 by omega]; exact y4, fun w2 => ?_⟩
        exact f1 (i + 2) (by omega) (Or.inr (by show sb (stt kd s (i + 1)) (kd (s + (i + 1))) = 3; rw [q, w]; rfl))
    · have := f1 i hi (Or.inr q); rw [w] at this; exact absurd this (by decide)
theorem op_close {μ : Mem} {n : Nat} (I : InvN n μ) (a : Int32) : ∃ r ν1 ν2, m_Fo_close a μ = some (r, ν1) ∧ m_Mo_close a ν1 = some (r, ν2) ∧ InvN n ν2 := by
  have h32 := I.1.1
  rcases lcase I.1 a with ⟨a1, a2⟩ | ⟨x, hx, rfl, a1, a2⟩
  · exact ⟨-2, μ, μ, by simp only [m_Fo_close, a1, oc_n], by simp only [m_Mo_close, a2 μ rfl]; rfl, I⟩
  obtain ⟨c, p, e, hSF, hPT, hLC⟩ := I.2.1 x hx
  obtain ⟨h1, h2, h3, h4, h5, h6, h7, h8, h9, h10, h11, h12, h13, h14⟩ := id hSF
  rcases h6 with h6 | h6
  · refine ⟨-2, μ, μ, ?_, ?_, I⟩
    · simp only [m_Fo_close, a1, oc_s, h6, if_true]
    · simp (disch := omega) only [m_Mo_close, a2 μ rfl, if_true, gu_nI, nI_clamp, h5, h6]
  have o1 : ¬ (1 : Int32) = 0 := by decide
  have c8 := h13 h6
  have n1 : ∀ k, nI k + 1 = nI (k + 1) := fun k => nI_add k 1
  have hk3 : ∀ j, j < p - e c → K3 (gI μ 302 x (e c + j)) := by
    intro j hj
    obtain ⟨_, _, _, _, _, ⟨w1, w2⟩, _⟩ := hPT (e c + j) (by omega)
    obtain ⟨i, hi, q⟩ := ix_of (n := 3) w1 (by omega) (by omega)
    rw [q]
    rcases (show i = 0 ∨ i = 1 ∨ i = 2 by omega) with rfl | rfl | rfl
    · exact Or.inl rfl
    · exact Or.inr (Or.inl rfl)
    · exact Or.inr (Or.inr rfl)
  generalize hr : bres (gI μ 302 x) (e c) (p - e c) 0 = r
  have fb : m_Sh_firstBad x μ = some r := by
    unfold m_Sh_firstBad
    rw [clC hSF, Option.bind_some, ← hr]
    exact bad_C h7 h2 (p - e c) FU 0 (by omega) (by unfold FU; omega)
  have mb : ∀ ν : Mem, gI ν 343 = gI μ 343 → gI ν 345 = gI μ 345 → gI ν 346 = gI μ 346 → gI ν 349 = gI μ 349 → m_Mo_bad (nI x) ν = some r := by
    intro ν g1 g2 g3 g4
    have hc : m_Mo_closed (nI x) ν = some (nI (e c)) := clM (by omega) h1 h9 (by rw [g1]; exact h4) fun o ho => by rw [g3]; exact (h14 o ho).2
    unfold m_Mo_bad
    simp (disch := omega) only [hc, Option.bind_some, ap, gu_nI, nI_clamp, g2, h8, pk_sub, ix100]
    rw [← hr]
    refine bad_M (x := x) (s := e c) (len := p - e c) (kd := gI μ 302 x) (by omega) (by omega) (by omega) (fun j hj => ⟨?_, hk3 j hj⟩) (p - e c) FU 0 (by omega) (by unfold FU; omega) (Or.inr (Or.inl rfl))
    rw [g4, Nat.add_assoc]; exact (hPT (e c + j) (by omega)).2.2.1
  by_cases q : r = -1
  case neg =>
    refine ⟨1 + r, μ, μ, ?_, ?_, I⟩
    · simp only [m_Fo_close, a1, oc_some, h6, o1, if_false, m_Sh_finish, fb, Option.bind_some, q, ap]
    · simp (disch := omega) only [m_Mo_close, a2 μ rfl, if_true, gu_nI, nI_clamp, h5, h6, o1, if_false, mb μ rfl rfl rfl rfl, Option.bind_some, q]
  obtain ⟨k1, k2, k3⟩ := bres_ok (p - e c) 0 (by omega) (fun i hi => by rw [show i = 0 by omega]; show (1 : Int32) ≠ -1; decide) (hr.trans q)
  rw [Nat.zero_add] at k1 k2 k3
  have hLn : LC (gI μ 302 x) (e c) p := by
    have := LC_of k2 hk3 k1 k3
    rw [show e c + (p - e c) = p by omega] at this; exact this
  have e1 : m_Fo_close (nI x) μ = some (0, sI (sI (sI μ 305 x c (nI p)) 10 x 6 (nI (c + 1))) 10 x 7 0) := by
    have l8 : nI c < 8 := by rw [show (8 : Int32) = nI 8 from rfl, nlt (by omega) (by omega)]; exact c8
    simp (disch := omega) only [m_Fo_close, a1, oc_some, h6, o1, if_false, m_Sh_finish, fb, Option.bind_some, q, ap, if_true, h3, h7, l8, gu_nI, nI_clamp, gI_ne, n1]
  generalize hν : sI (sI (sI μ 305 x c (nI p)) 10 x 6 (nI (c + 1))) 10 x 7 0 = ν1 at e1
  have k0 : gI ν1 12 0 0 = gI μ 12 0 0 := by rw [← hν]; simp (disch := omega) only [gI_ne]
  have k4 : ∀ k, 343 ≤ k → k ≤ 351 → gI ν1 k = gI μ k := by intro k _ _; funext i j; rw [← hν]; simp (disch := omega) only [gI_ne]
  have e2 : m_Mo_close (nI x) ν1 = some (0, sI (sI (sI ν1 346 0 (8 * x + c) (nI p)) 343 0 x (nI (c + 1))) 344 0 x 0) := by
    simp (disch := omega) only [m_Mo_close, a2 ν1 k0, if_true, gu_nI, nI_clamp, k4, h5, h6, o1, if_false, mb ν1 (k4 343 (by omega) (by omega)) (k4 345 (by omega) (by omega)) (k4 346 (by omega) (by omega)) (k4 349 (by omega) (by omega)), Option.bind_some, q, h4, h8, ix8, ap, gI_ne, n1]
  have u : Un [305, 343, 344, 346, 2006, 2007] μ (sI (sI (sI ν1 346 0 (8 * x + c) (nI p)) 343 0 x (nI (c + 1))) 344 0 x 0) := ((fm_Fo_close e1).mono (by decide)).tr ((fm_Mo_close e2).mono (by decide))
  refine ⟨_, _, _, e1, e2, inv_LSh_PS I (S := [305, 343, 344, 346, 2006, 2007]) (by decide) u ?_ ?_⟩
  · intro l hl
    by_cases q : l = x
    · subst q
      refine ⟨c + 1, p, fun o => if o = c + 1 then p else e o, ?_, ?_, ?_⟩
      · unfold SF
        rw [← hν]
        simp (disch := omega) only [gI_ne, gI_ne2, gI_self]
        refine ⟨by omega, h2, trivial, trivial, trivial, Or.inl trivial, h7, h8, by rw [if_neg (by omega)]; exact h9, fun o ho => ?_, by rw [if_pos trivial]; omega, fun _ => by rw [if_pos trivial], fun w => absurd w (by decide), fun o ho => ?_⟩
        · by_cases w : o = c
          · subst w; rw [if_neg (by omega), if_pos rfl]; omega
          · rw [if_neg (by omega), if_neg (by omega)]; exact h10 o (by omega)
        · by_cases w : o = c
          · subst w; simp (disch := omega) only [gI_self, gI_ne, if_true]; exact ⟨trivial, trivial⟩
          · rw [if_neg (by omega)]; simp (disch := omega) only [gI_ne, gI_ne2]; exact h14 o (by omega)
      · intro k hk; rw [← hν]; simp (disch := omega) only [gI_ne]; exact hPT k hk
      · have : gI (sI (sI (sI ν1 346 0 (8 * l + c) (nI p)) 343 0 l (nI (c + 1))) 344 0 l 0) 302 l = gI μ 302 l := by funext j; rw [← hν]; simp (disch := omega) only [gI_ne]
        rw [this]
        intro o ho
        by_cases w : o = c
        · subst w; simp only [show ¬ o = o + 1 by omega, if_false, if_true]; exact hLn
        · simp only [show ¬ o = c + 1 by omega, show ¬ o + 1 = c + 1 by omega, if_false]; exact hLC o (by omega)
    · rw [← hν]
      refine LSh_ag ?_ (I.2.1 l hl)
      repeat (first | exact ag_refl | refine ag_sI ?_ (by simp [own]; omega))
  · intro l hl
    obtain ⟨pc', tg, hP⟩ := I.2.2.1 l hl
    refine ⟨pc', tg, PS_sh (by decide) u hP ?_⟩
    by_cases q : l = x
    · subst q
      intro w
      obtain ⟨w1, w2⟩ := hP.2.2.2.1 w
      rw [h6] at w2
      exact absurd w2 (by decide)
    · rw [← hν]
      simp (disch := omega) only [gI_ne, gI_ne1]
      exact hP.2.2.2.1
