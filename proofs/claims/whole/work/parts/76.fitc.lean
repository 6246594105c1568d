theorem fitsA_M {a2k a3k a4k l : Nat} {ξ0 : Mem} {T : Nat → Int32} {F N0 : Nat → Int64} {c p : Nat} {e : Nat → Nat} (hl : l < 32) (hc : c ≤ 8) (e0 : e 0 = 0) (ha : a2k ≠ a3k) (ha4 : a4k ≠ 12) (hm : ∀ o o', o ≤ o' → o' ≤ c → e o ≤ e o') (hp : e c = p) (hp2 : p ≤ 100) (h2 : ∀ o, o < c → e o + 2 ≤ e (o + 1)) (hT : ∀ y, y < p → gI ξ0 a4k 0 y = T y) (hF : ∀ y, y < p → gL ξ0 a2k 0 y = F y) (hN : ∀ y, y < p → gL ξ0 a3k 0 y = N0 y) (hb : ∀ y, y < p → -2147483648 ≤ (F y).toInt ∧ (F y).toInt ≤ 2147483648)
    (h343 : gI ξ0 343 0 l = nI c) (h346 : ∀ o, o < c → gI ξ0 346 0 (8 * l + o) = nI (e (o + 1))) (h52 : gI ξ0 12 0 52 = 0) : ∃ ξ', m_Mo_fits (nI l) a2k 0 100 0 a3k 0 100 0 a4k 0 100 0 ξ0 = some ξ' ∧ MI a3k ξ0 ξ' (VA T F N0 c e) T p := by
  have lp : ∀ f o ξ, o ≤ c → c - o < f → MI a3k ξ0 ξ (VA T F N0 c e) T (e o) → ∃ ξ', lp_Mo_fits_3 a2k 0 100 0 a3k 0 100 0 a4k 0 100 0 (nI l) f (nI o) ξ = some ξ' ∧ MI a3k ξ0 ξ' (VA T F N0 c e) T p := by
    intro f
    induction f with
    | zero => intro o ξ h1 h2; omega
    | succ f ih =>
      intro o ξ h1 h3 I
      have k343 : gI ξ 343 0 l = nI c := by rw [I.1 343 0 l (by omega)]; exact h343
      have k346 : ∀ o, o < c → gI ξ 346 0 (8 * l + o) = nI (e (o + 1)) := fun o ho => by rw [I.1 346 0 _ (by omega)]; exact h346 o ho
      by_cases h : c ≤ o
      · obtain rfl : o = c := by omega
        refine ⟨ξ, ?_, by rw [← hp]; exact I⟩
        simp (disch := omega) only [lp_Mo_fits_3, gu_nI, nI_clamp, k343, nle, h, if_true]
      · have g2 := h2 o (by omega)
        have m1 := hm (o + 1) c (by omega) (by omega)
        have n1 : nI o + 1 = nI (o + 1) := nI_add o 1
        obtain ⟨ξ', r1, r2⟩ := fits_outl (a1 := nI l) (y5 := nI o) (c232 := mj_Mo_fits_232 a2k 0 100 0 a3k 0 100 0 a4k 0 100 0 (nI l) (lp_Mo_fits_3 a2k 0 100 0 a3k 0 100 0 a4k 0 100 0 (nI l) f)) ha ha4 hm (show o < c by omega) hp hp2 g2 hT hF hN hb FU 0 ξ (by omega) (by unfold FU; omega) I
        obtain ⟨ξ'', r3, r4⟩ := ih (o + 1) ξ' (by omega) (by omega) r2
        refine ⟨ξ'', ?_, r4⟩
        rw [← r3]
        have e1 : lp_Mo_fits_3 a2k 0 100 0 a3k 0 100 0 a4k 0 100 0 (nI l) (f + 1) (nI o) ξ = lp_Mo_fits_43 a2k 0 100 0 a3k 0 100 0 a4k 0 100 0 (nI l) (mj_Mo_fits_232 a2k 0 100 0 a3k 0 100 0 a4k 0 100 0 (nI l) (lp_Mo_fits_3 a2k 0 100 0 a3k 0 100 0 a4k 0 100 0 (nI l) f)) FU (nI o) (nI (e o)) (nI (e (o + 1) - e o)) 0 ξ := by
          simp (disch := omega) only [lp_Mo_fits_3, gu_nI, nI_clamp, k343, nle, h, if_false]
          rw [beg_M hl hc (by omega) e0 k346]
          simp (disch := omega) only [Option.bind_some, ix8, gu_nI, nI_clamp, k346, ap, pk_sub]
        rw [e1]
        refine Eq.trans r1 ?_
        simp only [mj_Mo_fits_232, ap, n1]
  refine lp FU 0 ξ0 (by omega) (by unfold FU; omega) ⟨fun _ _ _ _ => rfl, fun _ _ => rfl, ?_, ?_, Or.inl h52⟩
  · rw [e0]
    exact fun y => ⟨fun q => by omega, fun _ => rfl⟩
  · rw [e0, h52]
    exact ⟨fun q => absurd q (by decide), fun ⟨y, v, q, _⟩ => absurd q (Nat.not_lt_zero y)⟩
theorem behind_C {ν : Mem} {j x s n a : Nat} (hx : x < 2) (hs : s + n ≤ 100) (ha : a < n) (hT : gI ν 502 (2 * j + x) (s + a) ≠ 0) : ∃ d, 1 ≤ d ∧ d ≤ n ∧ m_Fit_touchedBehind j (nI x) (nI (s + a)) (nI s) (nI (s + n)) ν = some (nI (s + wf n a d)) ∧ gI ν 502 (2 * j + x) (s + wf n a d) ≠ 0 ∧ ∀ z, 1 ≤ z → z < d → gI ν 502 (2 * j + x) (s + wf n a z) = 0 := by
  have wl : ∀ z, z ≤ n → wf n a z < n := fun z hz => by unfold wf; split <;> omega
  have wn : wf n a n = a := by unfold wf; rw [if_neg (by omega)]; omega
  have ws : ∀ z, z < n → (if s + n ≤ s + wf n a z + 1 then s else s + wf n a z + 1) = s + wf n a (z + 1) := fun z hz => by
    unfold wf
    by_cases w1 : a + z < n
    · rw [if_pos w1]
      by_cases w2 : a + (z + 1) < n
      · rw [if_pos w2, if_neg (by omega)]; omega
      · rw [if_neg w2, if_pos (by omega)]; omega
    · rw [if_neg w1, if_neg (show ¬ a + (z + 1) < n by omega), if_neg (by omega)]; omega
  have lp : ∀ f m, m < n → n - m < f → (∀ z, 1 ≤ z → z ≤ m → gI ν 502 (2 * j + x) (s + wf n a z) = 0) → ∃ d, 1 ≤ d ∧ d ≤ n ∧ lp_Fit_touchedBehind_20 j (nI x) (nI (s + a)) (nI s) (nI (s + n)) ν f (nI (s + wf n a (m + 1))) (nI (s + m)) = some (nI (s + wf n a d)) ∧ gI ν 502 (2 * j + x) (s + wf n a d) ≠ 0 ∧ ∀ z, 1 ≤ z → z < d → gI ν 502 (2 * j + x) (s + wf n a z) = 0 := by
    intro f
    induction f with
    | zero => intro m h1 h2; omega
    | succ f ih =>
      intro m h1 h2 h3
      have q1 : ¬ s + n ≤ s + m := by omega
      have l1 := wl (m + 1) (by omega)
      have n1 : nI (s + wf n a (m + 1)) + 1 = nI (s + wf n a (m + 1) + 1) := nI_add _ 1
      have n2 : nI (s + m) + 1 = nI (s + (m + 1)) := nI_add _ 1
      by_cases g : gI ν 502 (2 * j + x) (s + wf n a (m + 1)) = 0
      · have hm : m + 1 < n := by
          by_cases w : m + 1 = n
          · rw [w, wn] at g; exact (hT g).elim
          · omega
        obtain ⟨d, d1, d2, d3, d4⟩ := ih (m + 1) hm (by omega) (fun z z1 z2 => by
          by_cases w : z = m + 1
          · rw [w]; exact g
          · exact h3 z z1 (by omega))
        refine ⟨d, d1, d2, ?_, d4⟩
        rw [← d3, ← ws (m + 1) hm]
        simp (disch := omega) only [lp_Fit_touchedBehind_20, nle, q1, if_false, gu_nI, nI_clamp, g, if_true, n1, mj_Fit_touchedBehind_56, ap, n2]
        by_cases w : s + n ≤ s + wf n a (m + 1) + 1
        · simp only [w, if_true]
        · simp only [w, if_false]
      · refine ⟨m + 1, by omega, by omega, ?_, g, fun z z1 z2 => h3 z z1 (by omega)⟩
        simp (disch := omega) only [lp_Fit_touchedBehind_20, nle, q1, if_false, gu_nI, nI_clamp, g]
  obtain ⟨d, d1, d2, d3, d4⟩ := lp FU 0 (by omega) (by unfold FU; omega) (fun z z1 z2 => by omega)
  refine ⟨d, d1, d2, ?_, d4⟩
  rw [← d3]
  have w0 : wf n a 0 = a := by unfold wf; rw [if_pos (by omega)]; rfl
  have := ws 0 (by omega)
  rw [w0] at this
  rw [show (0 : Nat) + 1 = 1 from rfl] at this ⊢
  rw [← this]
  have n1 : nI (s + a) + 1 = nI (s + a + 1) := nI_add _ 1
  unfold m_Fit_touchedBehind mj_Fit_touchedBehind_15
  rw [n1]
  by_cases w : s + n ≤ s + a + 1
  · rw [if_pos w, if_pos (by rw [nle (by omega) (by omega)]; exact w)]; rfl
  · rw [if_neg w, if_neg (by rw [nle (by omega) (by omega)]; exact w)]; rfl
theorem from_C {j x s t : Nat} {c : Int32 → Mem → Option (Bool × Mem)} {ν : Mem} (hx : x < 2) (ht : t ≤ 100) : ∀ f m, m ≤ t → t - m < f → ∃ m', m ≤ m' ∧ m' ≤ t ∧ lp_Fit_fitOutline_3 j (nI x) (nI s) (nI t) c f (nI m) ν = c (nI m') ν ∧ (∀ y, m ≤ y → y < m' → gI ν 502 (2 * j + x) y = 0) ∧ (m' < t → gI ν 502 (2 * j + x) m' ≠ 0) := by
  intro f
  induction f with
  | zero => intro m h1 h2; omega
  | succ f ih =>
    intro m h1 h2
    by_cases h : t ≤ m
    · refine ⟨m, by omega, by omega, ?_, fun y _ _ => by omega, fun _ => by omega⟩
      simp (disch := omega) only [lp_Fit_fitOutline_3, nle, h, if_true]
    · have n1 : nI m + 1 = nI (m + 1) := nI_add m 1
      by_cases g : gI ν 502 (2 * j + x) m = 0
      · obtain ⟨m', a1, a2, a3, a4, a5⟩ := ih (m + 1) (by omega) (by omega)
        refine ⟨m', by omega, a2, ?_, fun y y1 y2 => ?_, a5⟩
        · rw [← a3]
          simp (disch := omega) only [lp_Fit_fitOutline_3, nle, h, if_false, gu_nI, nI_clamp, g, if_true, ap, n1]
        · by_cases w : y = m
          · rw [w]; exact g
          · exact a4 y (by omega) y2
      · refine ⟨m, by omega, by omega, ?_, fun y _ _ => by omega, fun _ => g⟩
        simp (disch := omega) only [lp_Fit_fitOutline_3, nle, h, if_false, gu_nI, nI_clamp, g]
def CI (j x : Nat) (ν0 ν : Mem) (V : Nat → Int64 → Prop) (T : Nat → Int32) (Pr : Nat → Prop) : Prop := (∀ k l b, ¬ (k = 501 ∧ l = 2 * j + x) → gI ν k l b = gI ν0 k l b) ∧ (∀ k, gL ν k = gL ν0 k) ∧ SP V T Int64.toInt32 Pr (gI ν0 501 (2 * j + x)) (gI ν 501 (2 * j + x))
theorem out_C {j x : Nat} {ν0 : Mem} {T : Nat → Int32} {F N0 : Nat → Int64} {c o : Nat} {e : Nat → Nat} {Pr0 : Nat → Prop} {s n f0 : Nat} (hx : x < 2) (hm : ∀ o o', o ≤ o' → o' ≤ c → e o ≤ e o') (ho : o < c) (hs : s = e o) (hn : n = e (o + 1) - e o) (h2 : 2 ≤ n) (hp2 : s + n ≤ 100) (hT : T = gI ν0 502 (2 * j + x)) (hF : F = fun y => (gI ν0 500 (2 * j + x) y).toInt64) (hN : N0 = fun y => (gI ν0 501 (2 * j + x) y).toInt64) (hf0 : f0 < n) (hTf : T (s + f0) ≠ 0) (hPr : ∀ y, Pr0 y → ¬ (s ≤ y ∧ y < s + n)) :
    ∀ f st ν fl a b, st ≤ n → n - st < f → CI j x ν0 ν (VA T F N0 c e) T (fun y => Pr0 y ∨ ∃ z, z < st ∧ y = s + wf n f0 z) → SB (VA T F N0 c e) T (fun y => ∃ z, z < st ∧ y = s + wf n f0 z) (fl = 0) → (fl = 0 ∨ fl = 1) → a < n → b < n →
    (1 ≤ st → ∃ i0 d, i0 < st ∧ 1 ≤ d ∧ d ≤ n ∧ a = wb n (wf n f0 (st - 1)) i0 ∧ T (s + a) ≠ 0 ∧ (∀ z, z < i0 → T (s + wb n (wf n f0 (st - 1)) z) = 0) ∧ b = wf n a d ∧ T (s + b) ≠ 0 ∧ (∀ z, 1 ≤ z → z < d → T (s + wf n a z) = 0)) →
    ∃ fb ν', lp_Fit_fitOutline_41 j (nI x) (nI s) (nI (s + n)) f (nI (s + f0)) fl (nI (s + a)) (nI (s + b)) (nI st) ν = some (fb, ν') ∧ CI j x ν0 ν' (VA T F N0 c e) T (fun y => Pr0 y ∨ (s ≤ y ∧ y < s + n)) ∧ SB (VA T F N0 c e) T (fun y => s ≤ y ∧ y < s + n) (fb = false) := by
  have o1 : ¬ (1 : Int32) = 0 := by decide
  have wl : ∀ z, z < n → wf n f0 z < n := fun z hz => by unfold wf; split <;> omega
  have winj : ∀ z z', z < n → z' < n → wf n f0 z = wf n f0 z' → z = z' := fun z z' h1 h2 => by unfold wf; split <;> split <;> omega
  intro f
  induction f with
  | zero => intro st ν fl a b h1 h3; omega
  | succ f ih =>
    intro st ν fl a b h1 h3 I hB hfl la lb hab
    have q0 : ¬ s + n ≤ s + f0 := by omega
    have n0 : nI (s + n) - nI s = nI n := by rw [pk_sub (by omega)]; congr 1; omega
    by_cases h : n ≤ st
    · obtain rfl : st = n := by omega
      have sur : ∀ y, (∃ z, z < st ∧ y = s + wf st f0 z) ↔ (s ≤ y ∧ y < s + st) := fun y => by
        constructor
        · rintro ⟨z, z1, rfl⟩; have := wl z z1; omega
        · rintro ⟨y1, y2⟩
          by_cases w : s + f0 ≤ y
          · exact ⟨y - s - f0, by omega, by unfold wf; rw [if_pos (by omega)]; omega⟩
          · exact ⟨y - s + st - f0, by omega, by unfold wf; rw [if_neg (by omega)]; omega⟩
      simp only [sur] at I hB
      rcases hfl with rfl | rfl
      · refine ⟨false, ν, ?_, I, ?_⟩
        · simp (disch := omega) only [lp_Fit_fitOutline_41, nle, q0, if_false, n0, h, if_true, zb, Option.bind_some]
        · exact ⟨fun _ => hB.mp rfl, fun _ => rfl⟩
      · refine ⟨true, ν, ?_, I, ?_⟩
        · simp (disch := omega) only [lp_Fit_fitOutline_41, nle, q0, if_false, n0, h, if_true, zb, o1, Option.bind_some]
        · exact ⟨fun q => (by cases q), fun q => (o1 (hB.mpr q)).elim⟩
    · have n1 : nI st + 1 = nI (st + 1) := nI_add st 1
      have n2 : nI (s + f0) + nI st = nI (s + f0 + st) := nI_add _ _
      obtain ⟨y, hy⟩ : ∃ y, y = wf n f0 st := ⟨_, rfl⟩
      have ly : y < n := by rw [hy]; exact wl st (by omega)
      have e0 : lp_Fit_fitOutline_41 j (nI x) (nI s) (nI (s + n)) (f + 1) (nI (s + f0)) fl (nI (s + a)) (nI (s + b)) (nI st) ν = mj_Fit_fitOutline_81 j (nI x) (nI s) (nI (s + n)) (lp_Fit_fitOutline_41 j (nI x) (nI s) (nI (s + n)) f) (nI (s + f0)) fl (nI (s + a)) (nI (s + b)) (nI st) (nI (s + y)) ν := by
        simp (disch := omega) only [lp_Fit_fitOutline_41, nle, q0, if_false, n0, h, n2]
        by_cases w : s + n ≤ s + f0 + st
        · have k1 : nI (s + f0 + st) - nI (s + n) = nI (f0 + st - n) := by rw [pk_sub (by omega)]; congr 1; omega
          have k2 : nI (f0 + st - n) + nI s = nI (s + y) := by rw [nI_add]; congr 1; rw [hy]; unfold wf; rw [if_neg (by omega)]; omega
          simp only [w, if_true, k1, k2]
        · have k2 : s + f0 + st = s + y := by rw [hy]; unfold wf; rw [if_pos (by omega)]; omega
          rw [if_neg w, k2]
      rw [e0]
      have T0 : ∀ z, gI ν 502 (2 * j + x) z = T z := fun z => by rw [I.1 502 _ _ (by omega), hT]
      have V0 : ∀ v, VA T F N0 c e (s + y) v ↔ VP T F N0 s n y v := fun v => by
        have := VA_of (T := T) (F := F) (N := N0) (y := s + y) (v := v) hm ho (by omega) (by omega)
        rw [← hn, ← hs, show s + y - s = y by omega] at this
        exact this
      have pst : ∀ z, (∃ z', z' < st + 1 ∧ z = s + wf n f0 z') ↔ (∃ z', z' < st ∧ z = s + wf n f0 z') ∨ z = s + y := fun z => by
        constructor
        · rintro ⟨z', z1, z2⟩
          by_cases w : z' = st
          · right; rw [z2, w, hy]
          · left; exact ⟨z', by omega, z2⟩
        · rintro (⟨z', z1, z2⟩ | z2)
          · exact ⟨z', by omega, z2⟩
          · exact ⟨st, by omega, by rw [z2, hy]⟩
      unfold mj_Fit_fitOutline_81
      by_cases g : T (s + y) = 0
      · -- not touched
        have s1 : 1 ≤ st := by
          by_cases w : st = 0
          · rw [w] at hy
            have : y = f0 := by rw [hy]; unfold wf; rw [if_pos (by omega)]; rfl
            rw [this] at g; exact (hTf g).elim
          · omega
        obtain ⟨i0, d, i1, d1, d2, a1, a2, a3, b1, b2, b3⟩ := hab s1
        clear hab
        obtain ⟨yp, hyp⟩ : ∃ yp, yp = wf n f0 (st - 1) := ⟨_, rfl⟩
        have lyp : yp < n := by rw [hyp]; exact wl _ (by omega)
        have yy : y = wf n yp 1 := by rw [hy, hyp]; unfold wf; split <;> split <;> split <;> omega
        rw [← hyp] at a1 a3
        have ub : ∀ z, z < n - 1 → wb n y (z + 1) = wb n yp z := fun z hz => by rw [yy]; unfold wb wf; split <;> split <;> split <;> omega
        have uf : ∀ z, z ≤ i0 → wf n a (i0 + 1 - z) = wb n y z := fun z hz => by rw [a1, yy]; unfold wb wf; split <;> split <;> split <;> split <;> omega
        have uf2 : ∀ z, i0 + 1 + z ≤ n → 1 ≤ z → wf n a (i0 + 1 + z) = wf n y z := fun z hz hz1 => by rw [a1, yy]; unfold wb wf; split <;> split <;> split <;> split <;> omega
        have hd : i0 + 1 < d := by
          rcases (show i0 + 1 < d ∨ d ≤ i0 + 1 by omega) with w | w
          · exact w
          · have k1 := uf (i0 + 1 - d) (by omega)
            rw [show i0 + 1 - (i0 + 1 - d) = d by omega] at k1
            rw [b1, k1] at b2
            by_cases w2 : i0 + 1 - d = 0
            · rw [w2] at b2
              exact (b2 (by rw [show wb n y 0 = y by unfold wb; rw [if_pos (by omega)]; rfl]; exact g)).elim
            · have := ub (i0 + 1 - d - 1) (by omega)
              rw [show i0 + 1 - d - 1 + 1 = i0 + 1 - d by omega] at this
              rw [this] at b2
              exact (b2 (a3 _ (by omega))).elim
        have hv : VP T F N0 s n y (fitv (F (s + y)) (F (s + a)) (N0 (s + a)) (F (s + b)) (N0 (s + b))) := by
          refine ⟨i0 + 1, d - (i0 + 1), by omega, by omega, by omega, by omega, ?_, fun z z1 z2 => ?_, ?_, fun z z1 z2 => ?_, ?_⟩
          · rw [ub i0 (by omega), ← a1]; exact a2
          · have := ub (z - 1) (by omega)
            rw [show z - 1 + 1 = z by omega] at this
            rw [this]; exact a3 _ (by omega)
          · have := uf2 (d - (i0 + 1)) (by omega) (by omega)
            rw [show i0 + 1 + (d - (i0 + 1)) = d by omega] at this
            rw [← this, ← b1]; exact b2
          · rw [← uf2 z (by omega) z1]; exact b3 _ (by omega) (by omega)
          · have := uf2 (d - (i0 + 1)) (by omega) (by omega)
            rw [show i0 + 1 + (d - (i0 + 1)) = d by omega, ← b1] at this
            rw [ub i0 (by omega), ← a1, ← this]
        have tN : ∀ z, T z ≠ 0 → (gI ν 501 (2 * j + x) z).toInt64 = N0 z := fun z hz => by rw [(I.2.2 z).2 (Or.inr hz), hN]
        have tF : ∀ z, (gI ν 500 (2 * j + x) z).toInt64 = F z := fun z => by rw [I.1 500 _ _ (by omega), hF]
        have ev := fit_C (ν := ν) (j := j) (x := x) (a := s + a) (b := s + b) (o := F (s + y)) hx (by omega) (by omega)
        rw [tF, tF, tN _ a2, tN _ b2] at ev
        generalize hvv : fitv (F (s + y)) (F (s + a)) (N0 (s + a)) (F (s + b)) (N0 (s + b)) = v at hv ev
        have hu : ∀ v', VA T F N0 c e (s + y) v' → v' = v := fun v' q => VP_un ((V0 v').mp q) hv
        have key : ∀ fl' : Int32, (fl' = 0 ∨ fl' = 1) → (fl' = 0 ↔ fl = 0 ∨ Far v) → ∃ fb ν', mj_Fit_fitOutline_158 j (nI x) (nI s) (nI (s + n)) (lp_Fit_fitOutline_41 j (nI x) (nI s) (nI (s + n)) f) (nI (s + f0)) (nI (s + a)) (nI (s + b)) (nI st) (nI (s + y)) v fl' ν = some (fb, ν') ∧ CI j x ν0 ν' (VA T F N0 c e) T (fun y => Pr0 y ∨ (s ≤ y ∧ y < s + n)) ∧ SB (VA T F N0 c e) T (fun y => s ≤ y ∧ y < s + n) (fb = false) := by
          intro fl' k1 k2
          obtain ⟨fb, ν', r1, r2⟩ := ih (st + 1) (sI ν 501 (2 * j + x) (s + y) v.toInt32) fl' a b (by omega) (by omega) ⟨fun k l b' w => by rw [gI_sI, if_neg (by omega)]; exact I.1 k l b' w, I.2.1, sp_set (y := s + y) (v := v) I.2.2 (fun z => by rw [pst z]; exact or_assoc.symm) g ((V0 v).mpr hv) gI_self (fun z hz => gI_ne2 hz)⟩
            (sb_set hu hB (fun z => pst z) g ((V0 v).mpr hv) k2) k1 la lb (fun _ => ⟨i0 + 1, d, by omega, d1, d2, by rw [show st + 1 - 1 = st by omega, ← hy, ub i0 (by omega)]; exact a1, a2, fun z hz => by
              rw [show st + 1 - 1 = st by omega, ← hy]
              by_cases w : z = 0
              · rw [w, show wb n y 0 = y by unfold wb; rw [if_pos (by omega)]; rfl]; exact g
              · have := ub (z - 1) (by omega)
                rw [show z - 1 + 1 = z by omega] at this
                rw [this]; exact a3 _ (by omega), b1, b2, b3⟩)
          refine ⟨fb, ν', ?_, r2⟩
          rw [← r1]
          simp (disch := omega) only [mj_Fit_fitOutline_158, gu_nI, nI_clamp, ap, mj_Fit_fitOutline_172, n1]
        simp (disch := omega) only [gu_nI, nI_clamp, T0, g, if_true, tF, ev, Option.bind_some, mj_Fit_fitOutline_157]
        rcases hfl with rfl | rfl
        · rw [if_pos rfl]
          exact key 0 (Or.inl rfl) ⟨fun _ => Or.inl rfl, fun _ => rfl⟩
        · rw [if_neg o1, within_b]
          by_cases w : -1000000000 ≤ v.toInt ∧ v.toInt ≤ 1000000000
          · rw [decide_eq_true (show (-1000000000 : Int64).toInt ≤ v.toInt ∧ v.toInt ≤ (1000000000 : Int64).toInt from w), if_pos rfl]
            exact key 1 (Or.inr rfl) ⟨fun q => (o1 q).elim, fun q => by rcases q with q | q; exact (o1 q).elim; exact (q w).elim⟩
          · rw [decide_eq_false (show ¬ ((-1000000000 : Int64).toInt ≤ v.toInt ∧ v.toInt ≤ (1000000000 : Int64).toInt) from w), if_neg (by decide)]
            exact key 0 (Or.inl rfl) ⟨fun _ => Or.inr w, fun _ => rfl⟩
      · -- touched
        obtain ⟨d, d1, d2, d3, d4, d5⟩ := behind_C (ν := ν) (j := j) (x := x) (s := s) (n := n) (a := y) hx hp2 ly (by rw [T0]; exact g)
        have lw : wf n y d < n := by unfold wf; split <;> omega
        simp only [T0] at d4 d5
        obtain ⟨fb, ν', r1, r2⟩ := ih (st + 1) ν fl y (wf n y d) (by omega) (by omega) ⟨I.1, I.2.1, sp_same I.2.2 (fun z hz => by
            rcases hz with hz | hz
            · exact Or.inl hz
            · exact Or.inr ((pst z).mpr (Or.inl hz))) (fun z hz hz2 => by
            rcases hz with hz | hz
            · exact (hz2 (Or.inl hz)).elim
            · rcases (pst z).mp hz with hz | hz
              · exact (hz2 (Or.inr hz)).elim
              · left; rw [hz]; exact g)⟩ (sb_same hB (fun z hz => (pst z).mpr (Or.inl hz)) (fun z hz hz2 => by
            rcases (pst z).mp hz with hz | hz
            · exact (hz2 hz).elim
            · left; rw [hz]; exact g)) hfl ly lw (fun _ => ⟨0, d, by omega, d1, d2, by rw [show st + 1 - 1 = st by omega, ← hy]; unfold wb; rw [if_pos (by omega)]; rfl, g, fun z hz => by omega, rfl, d4, d5⟩)
        refine ⟨fb, ν', ?_, r2⟩
        rw [← r1]
        simp (disch := omega) only [gu_nI, nI_clamp, T0, g, if_false, d3, Option.bind_some, mj_Fit_fitOutline_172, ap, n1]
theorem fitAll_C {j x c : Nat} {e : Nat → Nat} {ν0 : Mem} {T : Nat → Int32} {F N0 : Nat → Int64} {p : Nat} (hx : x < 2) (hc : c ≤ 8) (e0 : e 0 = 0) (hm : ∀ o o', o ≤ o' → o' ≤ c → e o ≤ e o') (hp : e c = p) (hp2 : p ≤ 100) (h2 : ∀ o, o < c → e o + 2 ≤ e (o + 1)) (hT : T = gI ν0 502 (2 * j + x)) (hF : F = fun y => (gI ν0 500 (2 * j + x) y).toInt64) (hN : N0 = fun y => (gI ν0 501 (2 * j + x) y).toInt64)
    (k4 : gI ν0 0 j 4 = nI c) (k103 : ∀ o, o < c → gI ν0 103 j o = nI (e (o + 1))) : ∃ fb ν', m_Fit_fitAll j (nI x) ν0 = some (fb, ν') ∧ CI j x ν0 ν' (VA T F N0 c e) T (fun y => y < p) ∧ SB (VA T F N0 c e) T (fun y => y < p) (fb = false) := by
  have o1 : ¬ (1 : Int32) = 0 := by decide
  have lp : ∀ f o ν fl, o ≤ c → c - o < f → CI j x ν0 ν (VA T F N0 c e) T (fun y => y < e o) → SB (VA T F N0 c e) T (fun y => y < e o) (fl = 0) → (fl = 0 ∨ fl = 1) → ∃ fb ν', lp_Fit_fitAll_7 j (nI x) f fl (nI (e o)) (nI o) ν = some (fb, ν') ∧ CI j x ν0 ν' (VA T F N0 c e) T (fun y => y < p) ∧ SB (VA T F N0 c e) T (fun y => y < p) (fb = false) := by
    intro f
    induction f with
    | zero => intro o ν fl h1 h3; omega
    | succ f ih =>
      intro o ν fl h1 h3 I hB hfl
      have c4 : gI ν 0 j 4 = nI c := by rw [I.1 0 j 4 (by omega)]; exact k4
      have c103 : ∀ o, o < c → gI ν 103 j o = nI (e (o + 1)) := fun o ho => by rw [I.1 103 j o (by omega)]; exact k103 o ho
      by_cases h : c ≤ o
      · obtain rfl : o = c := by omega
        rw [hp] at I hB
        rcases hfl with rfl | rfl
        · refine ⟨false, ν, ?_, I, ⟨fun _ => hB.mp rfl, fun _ => rfl⟩⟩
          simp (disch := omega) only [lp_Fit_fitAll_7, c4, nle, h, if_true, zb, Option.bind_some]
        · refine ⟨true, ν, ?_, I, ⟨fun q => (by cases q), fun q => (o1 (hB.mpr q)).elim⟩⟩
          simp (disch := omega) only [lp_Fit_fitAll_7, c4, nle, h, if_true, zb, o1, if_false, Option.bind_some]
      · have g2 := h2 o (by omega)
        have m1 := hm (o + 1) c (by omega) (by omega)
        have n1 : nI o + 1 = nI (o + 1) := nI_add o 1
        have T0 : ∀ z, gI ν 502 (2 * j + x) z = T z := fun z => by rw [I.1 502 _ _ (by omega), hT]
        -- the outline
        have out : ∃ fb ν', m_Fit_fitOutline j (nI x) (nI (e o)) (nI (e (o + 1))) ν = some (fb, ν') ∧ CI j x ν0 ν' (VA T F N0 c e) T (fun y => y < e o ∨ (e o ≤ y ∧ y < e (o + 1))) ∧ SB (VA T F N0 c e) T (fun y => e o ≤ y ∧ y < e (o + 1)) (fb = false) := by
          obtain ⟨m', a1, a2, a3, a4, a5⟩ := from_C (j := j) (x := x) (s := e o) (t := e (o + 1)) (c := mj_Fit_fitOutline_27 j (nI x) (nI (e o)) (nI (e (o + 1)))) (ν := ν) hx (by omega) FU (e o) (by omega) (by unfold FU; omega)
          rw [show m_Fit_fitOutline j (nI x) (nI (e o)) (nI (e (o + 1))) ν = _ from a3]
          by_cases w : m' < e (o + 1)
          · have hTm := a5 w
            rw [T0] at hTm
            obtain ⟨n, hn⟩ : ∃ n, n = e (o + 1) - e o := ⟨_, rfl⟩
            obtain ⟨fb, ν', r1, r2, r3⟩ := out_C (Pr0 := fun y => y < e o) (s := e o) (n := n) (f0 := m' - e o) hx hm (show o < c by omega) rfl hn (by omega) (by omega) hT hF hN (by omega) (by rw [show e o + (m' - e o) = m' by omega]; exact hTm) (fun y hy => by omega) FU 0 ν 1 (m' - e o) (m' - e o) (by omega) (by unfold FU; omega)
              ⟨I.1, I.2.1, sp_same I.2.2 (fun y hy => Or.inl hy) (fun y hy hy2 => by
                rcases hy with hy | ⟨z, hz, _⟩
                · exact (hy2 hy).elim
                · omega)⟩ ⟨fun q => absurd q o1, fun ⟨y, v, ⟨z, hz, _⟩, _⟩ => by omega⟩ (Or.inr rfl) (by omega) (by omega) (fun q => by omega)
            rw [show e o + (m' - e o) = m' by omega, show e o + n = e (o + 1) by omega] at r1
            simp only [show e o + n = e (o + 1) by omega] at r2 r3
            exact ⟨fb, ν', r1, r2, r3⟩
          · obtain rfl : m' = e (o + 1) := by omega
            have all0 : ∀ y, e o ≤ y → y < e (o + 1) → T y = 0 := fun y y1 y2 => by rw [← T0]; exact a4 y y1 y2
            have nv : ∀ y v, e o ≤ y → y < e (o + 1) → ¬ VA T F N0 c e y v := fun y v y1 y2 q => by
              obtain ⟨i, d, i1, i2, _, _, i3, _⟩ := (VA_of hm (show o < c by omega) y1 y2).mp q
              have : wb (e (o + 1) - e o) (y - e o) i < e (o + 1) - e o := by unfold wb; split <;> omega
              exact i3 (all0 _ (by omega) (by omega))
            refine ⟨true, ν, ?_, ⟨I.1, I.2.1, sp_same I.2.2 (fun y hy => Or.inl hy) (fun y hy hy2 => ?_)⟩, ⟨fun q => (by cases q), fun ⟨y, v, hy, _, q, _⟩ => (nv y v hy.1 hy.2 q).elim⟩⟩
            · unfold mj_Fit_fitOutline_27
              have : ∀ g, lp_Fit_fitOutline_41 j (nI x) (nI (e o)) (nI (e (o + 1))) (g + 1) (nI (e (o + 1))) 1 (nI (e (o + 1))) (nI (e (o + 1))) 0 ν = some (true, ν) := by
                intro g
                simp (disch := omega) only [lp_Fit_fitOutline_41, nle, Nat.le_refl, if_true, zb, o1, if_false, Option.bind_some]
              exact this 99999
            · rcases hy with hy | hy
              · exact (hy2 hy).elim
              · exact Or.inr fun v => nv y v hy.1 hy.2
        obtain ⟨fb, ν', r1, r2, r3⟩ := out
        have d103 : ∀ o, o < c → gI ν' 103 j o = nI (e (o + 1)) := fun o ho => by rw [r2.1 103 j o (by omega)]; exact k103 o ho
        have mg : ∀ y, (y < e o ∨ (e o ≤ y ∧ y < e (o + 1))) ↔ y < e (o + 1) := fun y => by omega
        simp only [mg] at r2
        have key : ∀ fl' : Int32, (fl' = 0 ∨ fl' = 1) → (fl' = 0 ↔ fl = 0 ∨ fb = false) → ∃ fb' ν'', mj_Fit_fitAll_41 j (nI x) (lp_Fit_fitAll_7 j (nI x) f) (nI o) fl' ν' = some (fb', ν'') ∧ CI j x ν0 ν'' (VA T F N0 c e) T (fun y => y < p) ∧ SB (VA T F N0 c e) T (fun y => y < p) (fb' = false) := by
          intro fl' q1 q2
          obtain ⟨fb', ν'', s1, s2⟩ := ih (o + 1) ν' fl' (by omega) (by omega) r2 (by
            refine q2.trans ⟨fun q => ?_, fun ⟨y, v, a, b, c', d⟩ => ?_⟩
            · rcases q with q | q
              · obtain ⟨y, v, a, b⟩ := hB.mp q
                exact ⟨y, v, (show y < e (o + 1) by have : y < e o := a; omega), b⟩
              · obtain ⟨y, v, a, b⟩ := r3.mp q
                exact ⟨y, v, a.2, b⟩
            · by_cases w : y < e o
              · exact Or.inl (hB.mpr ⟨y, v, w, b, c', d⟩)
              · exact Or.inr (r3.mpr ⟨y, v, ⟨by omega, a⟩, b, c', d⟩)) q1
          refine ⟨fb', ν'', ?_, s2⟩
          rw [← s1]
          simp (disch := omega) only [mj_Fit_fitAll_41, gu_nI, nI_clamp, d103, ap, n1]
        have e1 : lp_Fit_fitAll_7 j (nI x) (f + 1) fl (nI (e o)) (nI o) ν = if fb = true then (if fl = 0 then mj_Fit_fitAll_40 j (nI x) (lp_Fit_fitAll_7 j (nI x) f) (nI o) ν' else mj_Fit_fitAll_41 j (nI x) (lp_Fit_fitAll_7 j (nI x) f) (nI o) 1 ν') else mj_Fit_fitAll_40 j (nI x) (lp_Fit_fitAll_7 j (nI x) f) (nI o) ν' := by
          simp (disch := omega) only [lp_Fit_fitAll_7, c4, nle, h, if_false, gu_nI, nI_clamp, c103, r1, Option.bind_some, ap]
        rw [e1]
        unfold mj_Fit_fitAll_40
        rcases fb with _ | _
        · rw [if_neg (by decide)]
          exact key 0 (Or.inl rfl) ⟨fun _ => Or.inr rfl, fun _ => rfl⟩
        · rw [if_pos rfl]
          rcases hfl with rfl | rfl
          · rw [if_pos rfl]
            exact key 0 (Or.inl rfl) ⟨fun _ => Or.inl rfl, fun _ => rfl⟩
          · rw [if_neg o1]
            exact key 1 (Or.inr rfl) ⟨fun q => (o1 q).elim, fun q => (by rcases q with q | q; exact (o1 q).elim; cases q)⟩
  have := lp FU 0 ν0 1 (by omega) (by unfold FU; omega) ⟨fun _ _ _ _ => rfl, fun _ => rfl, by rw [e0]; exact fun y => ⟨fun q => absurd q (Nat.not_lt_zero y), fun _ => rfl⟩⟩ (by rw [e0]; exact ⟨fun q => absurd q o1, fun ⟨y, v, q, _⟩ => absurd q (Nat.not_lt_zero y)⟩) (Or.inr rfl)
  rw [e0] at this
  exact this
