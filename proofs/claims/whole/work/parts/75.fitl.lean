theorem ndiv {x n : Nat} (hx : x < 2147483648) (hn : n < 2147483648) : nI x / nI n = nI (x / n) := by
  have h : x / n ≤ x := Nat.div_le_self x n
  rw [t_eq, Int32.toInt_div, nI_toInt hx, nI_toInt hn, nI_toInt (by omega), ← Int.ofNat_tdiv]
  generalize x / n = w at h ⊢
  rw [Int.bmod_eq_of_le] <;> omega
theorem nmod {x n : Nat} (hx : x < 2147483648) (hn : n < 2147483648) : nI x - nI x / nI n * nI n = nI (x % n) := by
  have h := Nat.div_mul_le_self x n
  rw [ndiv hx hn, pk_mul, pk_sub h]
  congr 1
  have := Nat.div_add_mod x n
  rw [Nat.mul_comm] at this
  omega
theorem mod_wb {n k i : Nat} (hk : k < n) (hi : i ≤ n) (h1 : 1 ≤ i) : (k + n - i) % n = wb n k i := by
  unfold wb
  by_cases w : i ≤ k
  · rw [if_pos w, show k + n - i = k - i + n by omega, Nat.add_mod_right, Nat.mod_eq_of_lt (by omega)]
  · rw [if_neg w, Nat.mod_eq_of_lt (by omega)]
theorem mod_wf {n k i : Nat} (hk : k < n) (hi : i ≤ n) : (k + i) % n = wf n k i := by
  unfold wf
  by_cases w : k + i < n
  · rw [if_pos w, Nat.mod_eq_of_lt w]
  · rw [if_neg w, show k + i = k + i - n + n by omega, Nat.add_mod_right, Nat.mod_eq_of_lt (by omega)]; omega
theorem fb_M {a2k a3k a4k l2 : Nat} {a1 y5 y10 : Int32} {c : Int32 → Int32 → Int32 → Int32 → Int32 → Int32 → Mem → Option Mem} {ξ : Mem} {s n k : Nat} (hs : s + n ≤ 100) (hk : k < n) : ∀ f i, 1 ≤ i → i ≤ n → n - i < f → ∃ i', i - 1 ≤ i' ∧ i' < n ∧ (∀ z, i - 1 ≤ z → z < i' → gI ξ a4k 0 (s + wb n k z) = 0) ∧ (gI ξ a4k 0 (s + wb n k i') ≠ 0 ∨ i' = n - 1) ∧
    lp_Mo_fits_75 a2k 0 100 l2 a3k 0 100 l2 a4k 0 100 l2 a1 c f y5 (nI s) (nI n) (nI k) (nI (wb n k (i - 1))) y10 (nI i) ξ = c y5 (nI s) (nI n) (nI k) (nI (wb n k i')) y10 ξ := by
  intro f
  induction f with
  | zero => intro i h1 h2 h3; omega
  | succ f ih =>
    intro i h1 h2 h3
    have hw : wb n k (i - 1) < n := by unfold wb; split <;> omega
    by_cases h : n ≤ i
    · refine ⟨n - 1, by omega, by omega, fun z _ _ => by omega, Or.inr rfl, ?_⟩
      obtain rfl : i = n := by omega
      simp (disch := omega) only [lp_Mo_fits_75, nle, h, if_true]
    · have n1 : nI i + 1 = nI (i + 1) := nI_add i 1
      have n2 : nI k + nI n = nI (k + n) := nI_add k n
      have n3 : nI s + nI (wb n k (i - 1)) = nI (s + wb n k (i - 1)) := nI_add _ _
      have n4 : nI (k + n) - nI i = nI (k + n - i) := pk_sub (by omega)
      have n5 : nI (k + n - i) - nI (k + n - i) / nI n * nI n = nI (wb n k i) := by rw [nmod (by omega) (by omega), mod_wb hk (by omega) h1]
      have z0 : ¬ nI n = 0 := by rw [show (0 : Int32) = nI 0 from rfl, neq (by omega) (by omega)]; omega
      by_cases g : gI ξ a4k 0 (s + wb n k (i - 1)) = 0
      · obtain ⟨i', k1, k2, k3, k4, k5⟩ := ih (i + 1) (by omega) (by omega) (by omega)
        refine ⟨i', by omega, k2, fun z z1 z2 => ?_, k4, ?_⟩
        · by_cases w : z = i - 1
          · rw [w]; exact g
          · exact k3 z (by omega) z2
        · rw [← k5]
          simp (disch := omega) only [lp_Mo_fits_75, nle, h, if_false, n3, gu_nI, nI_clamp, g, if_true, gz, z0, n2, n4, n5, ap, n1, Nat.add_sub_cancel]
      · refine ⟨i - 1, by omega, by omega, fun z _ _ => by omega, Or.inl g, ?_⟩
        simp (disch := omega) only [lp_Mo_fits_75, nle, h, if_false, n3, gu_nI, nI_clamp, g]
theorem ff_M {a2k a3k a4k l2 : Nat} {a1 y5 y9 : Int32} {c : Int32 → Int32 → Int32 → Int32 → Int32 → Int32 → Mem → Option Mem} {ξ : Mem} {s n k : Nat} (hs : s + n ≤ 100) (hk : k < n) : ∀ f i, 1 ≤ i → i ≤ n → n - i < f → ∃ i', i - 1 ≤ i' ∧ i' < n ∧ (∀ z, i - 1 ≤ z → z < i' → gI ξ a4k 0 (s + wf n k z) = 0) ∧ (gI ξ a4k 0 (s + wf n k i') ≠ 0 ∨ i' = n - 1) ∧
    lp_Mo_fits_115 a2k 0 100 l2 a3k 0 100 l2 a4k 0 100 l2 a1 c f y5 (nI s) (nI n) (nI k) y9 (nI (wf n k (i - 1))) (nI i) ξ = c y5 (nI s) (nI n) (nI k) y9 (nI (wf n k i')) ξ := by
  intro f
  induction f with
  | zero => intro i h1 h2 h3; omega
  | succ f ih =>
    intro i h1 h2 h3
    have hw : wf n k (i - 1) < n := by unfold wf; split <;> omega
    by_cases h : n ≤ i
    · refine ⟨n - 1, by omega, by omega, fun z _ _ => by omega, Or.inr rfl, ?_⟩
      obtain rfl : i = n := by omega
      simp (disch := omega) only [lp_Mo_fits_115, nle, h, if_true]
    · have n1 : nI i + 1 = nI (i + 1) := nI_add i 1
      have n2 : nI k + nI i = nI (k + i) := nI_add k i
      have n3 : nI s + nI (wf n k (i - 1)) = nI (s + wf n k (i - 1)) := nI_add _ _
      have n5 : nI (k + i) - nI (k + i) / nI n * nI n = nI (wf n k i) := by rw [nmod (by omega) (by omega), mod_wf hk (by omega)]
      have z0 : ¬ nI n = 0 := by rw [show (0 : Int32) = nI 0 from rfl, neq (by omega) (by omega)]; omega
      by_cases g : gI ξ a4k 0 (s + wf n k (i - 1)) = 0
      · obtain ⟨i', k1, k2, k3, k4, k5⟩ := ih (i + 1) (by omega) (by omega) (by omega)
        refine ⟨i', by omega, k2, fun z z1 z2 => ?_, k4, ?_⟩
        · by_cases w : z = i - 1
          · rw [w]; exact g
          · exact k3 z (by omega) z2
        · rw [← k5]
          simp (disch := omega) only [lp_Mo_fits_115, nle, h, if_false, n3, gu_nI, nI_clamp, g, if_true, gz, z0, n2, n5, ap, n1, Nat.add_sub_cancel]
      · refine ⟨i - 1, by omega, by omega, fun z _ _ => by omega, Or.inl g, ?_⟩
        simp (disch := omega) only [lp_Mo_fits_115, nle, h, if_false, n3, gu_nI, nI_clamp, g]
def MI (a3k : Nat) (ξ0 ξ : Mem) (V : Nat → Int64 → Prop) (T : Nat → Int32) (Y : Nat) : Prop := (∀ k l b, ¬ (k = 12 ∧ b = 52) → gI ξ k l b = gI ξ0 k l b) ∧ (∀ k, k ≠ a3k → gL ξ k = gL ξ0 k) ∧ SP V T id (fun y => y < Y) (gL ξ0 a3k 0) (gL ξ a3k 0) ∧ SB V T (fun y => y < Y) (gI ξ 12 0 52 = 8) ∧ (gI ξ 12 0 52 = 0 ∨ gI ξ 12 0 52 = 8)
theorem fits_outl {a2k a3k a4k : Nat} {a1 y5 : Int32} {c232 : Int32 → Mem → Option Mem} {ξ0 : Mem} {T : Nat → Int32} {F N0 : Nat → Int64} {c o p : Nat} {e : Nat → Nat} (ha : a2k ≠ a3k) (ha4 : a4k ≠ 12) (hm : ∀ o o', o ≤ o' → o' ≤ c → e o ≤ e o') (ho : o < c) (hp : e c = p) (hp2 : p ≤ 100) (h2 : e o + 2 ≤ e (o + 1)) (hT : ∀ y, y < p → gI ξ0 a4k 0 y = T y) (hF : ∀ y, y < p → gL ξ0 a2k 0 y = F y) (hN : ∀ y, y < p → gL ξ0 a3k 0 y = N0 y) (hb : ∀ y, y < p → -2147483648 ≤ (F y).toInt ∧ (F y).toInt ≤ 2147483648) :
    ∀ f k ξ, k ≤ e (o + 1) - e o → e (o + 1) - e o - k < f → MI a3k ξ0 ξ (VA T F N0 c e) T (e o + k) → ∃ ξ', lp_Mo_fits_43 a2k 0 100 0 a3k 0 100 0 a4k 0 100 0 a1 c232 f y5 (nI (e o)) (nI (e (o + 1) - e o)) (nI k) ξ = c232 y5 ξ' ∧ MI a3k ξ0 ξ' (VA T F N0 c e) T (e (o + 1)) := by
  have m1 := hm (o + 1) c (by omega) (by omega)
  obtain ⟨s, hs⟩ : ∃ s, s = e o := ⟨_, rfl⟩
  obtain ⟨n, hn⟩ : ∃ n, n = e (o + 1) - e o := ⟨_, rfl⟩
  intro f
  induction f with
  | zero => intro k ξ h1 h3; omega
  | succ f ih =>
    intro k ξ h1 h3 I
    obtain ⟨I1, I2, I3, I4, I5⟩ := I
    rw [← hn] at h1 h3 ⊢
    rw [← hs] at ⊢
    simp only [← hn] at ih
    simp only [← hs] at ih
    rw [← hs] at I3 I4
    by_cases h : n ≤ k
    · refine ⟨ξ, ?_, I1, I2, ?_, ?_, I5⟩
      · simp (disch := omega) only [lp_Mo_fits_43, nle, h, if_true]
      · rw [show e (o + 1) = s + k by omega]; exact I3
      · rw [show e (o + 1) = s + k by omega]; exact I4
    · have n1 : nI k + 1 = nI (k + 1) := nI_add k 1
      have n3 : nI s + nI k = nI (s + k) := nI_add _ _
      have tT : ∀ y, y < p → gI ξ a4k 0 y = T y := fun y hy => by rw [I1 a4k 0 y (by omega)]; exact hT y hy
      have V0 : ∀ v, VA T F N0 c e (s + k) v ↔ VP T F N0 s n k v := fun v => by
        have := VA_of (T := T) (F := F) (N := N0) (y := s + k) (v := v) hm ho (by omega) (by omega)
        rw [← hn, ← hs, show s + k - s = k by omega] at this
        exact this
      have next : ∀ ξ', MI a3k ξ0 ξ' (VA T F N0 c e) T (s + (k + 1)) → mj_Mo_fits_226 a2k 0 100 0 a3k 0 100 0 a4k 0 100 0 a1 (lp_Mo_fits_43 a2k 0 100 0 a3k 0 100 0 a4k 0 100 0 a1 c232 f) y5 (nI s) (nI n) (nI k) ξ' = lp_Mo_fits_43 a2k 0 100 0 a3k 0 100 0 a4k 0 100 0 a1 c232 f y5 (nI s) (nI n) (nI (k + 1)) ξ' := by
        intro ξ' _
        simp only [mj_Mo_fits_226, ap, n1]
      have yk : ∀ y, y < s + (k + 1) → ¬ y < s + k → y = s + k := fun y h1 h2 => by omega
      have skip : (T (s + k) ≠ 0 ∨ ∀ v, ¬ VA T F N0 c e (s + k) v) → MI a3k ξ0 ξ (VA T F N0 c e) T (s + (k + 1)) := fun w =>
        ⟨I1, I2, sp_same I3 (fun y (hy : y < s + k) => show y < s + (k + 1) by omega) (fun y hy hy2 => by rw [yk y hy hy2]; exact w), sb_same I4 (fun y (hy : y < s + k) => show y < s + (k + 1) by omega) (fun y hy hy2 => by rw [yk y hy hy2]; exact w), I5⟩
      have e0 : lp_Mo_fits_43 a2k 0 100 0 a3k 0 100 0 a4k 0 100 0 a1 c232 (f + 1) y5 (nI s) (nI n) (nI k) ξ = if T (s + k) = 0 then lp_Mo_fits_75 a2k 0 100 0 a3k 0 100 0 a4k 0 100 0 a1 (mj_Mo_fits_112 a2k 0 100 0 a3k 0 100 0 a4k 0 100 0 a1 (lp_Mo_fits_43 a2k 0 100 0 a3k 0 100 0 a4k 0 100 0 a1 c232 f)) FU y5 (nI s) (nI n) (nI k) (nI k) (nI k) 1 ξ else mj_Mo_fits_226 a2k 0 100 0 a3k 0 100 0 a4k 0 100 0 a1 (lp_Mo_fits_43 a2k 0 100 0 a3k 0 100 0 a4k 0 100 0 a1 c232 f) y5 (nI s) (nI n) (nI k) ξ := by
        simp (disch := omega) only [lp_Mo_fits_43, nle, h, if_false, n3, gu_nI, nI_clamp, tT]
      rw [e0]
      by_cases g : T (s + k) = 0
      rotate_left 1
      · rw [if_neg g, next ξ (skip (Or.inl g))]
        exact ih (k + 1) ξ (by omega) (by omega) (skip (Or.inl g))
      rw [if_pos g]
      have wb0 : wb n k 0 = k := by unfold wb; rw [if_pos (by omega)]; rfl
      have wf0 : wf n k 0 = k := by unfold wf; rw [if_pos (by omega)]; rfl
      obtain ⟨i, i1, i2, i3, i4, i5⟩ := fb_M (a2k := a2k) (a3k := a3k) (a4k := a4k) (l2 := 0) (a1 := a1) (y5 := y5) (y10 := nI k) (c := mj_Mo_fits_112 a2k 0 100 0 a3k 0 100 0 a4k 0 100 0 a1 (lp_Mo_fits_43 a2k 0 100 0 a3k 0 100 0 a4k 0 100 0 a1 c232 f)) (ξ := ξ) (s := s) (n := n) (k := k) (by omega) (by omega) FU 1 (by omega) (by omega) (by unfold FU; omega)
      rw [show nI 1 = 1 from rfl, show (1 : Nat) - 1 = 0 from rfl, wb0] at i5
      rw [i5]
      obtain ⟨d, d1, d2, d3, d4, d5⟩ := ff_M (a2k := a2k) (a3k := a3k) (a4k := a4k) (l2 := 0) (a1 := a1) (y5 := y5) (y9 := nI (wb n k i)) (c := mj_Mo_fits_149 a2k 0 100 0 a3k 0 100 0 a4k 0 100 0 a1 (lp_Mo_fits_43 a2k 0 100 0 a3k 0 100 0 a4k 0 100 0 a1 c232 f)) (ξ := ξ) (s := s) (n := n) (k := k) (by omega) (by omega) FU 1 (by omega) (by omega) (by unfold FU; omega)
      rw [show nI 1 = 1 from rfl, show (1 : Nat) - 1 = 0 from rfl, wf0] at d5
      have e1 : mj_Mo_fits_112 a2k 0 100 0 a3k 0 100 0 a4k 0 100 0 a1 (lp_Mo_fits_43 a2k 0 100 0 a3k 0 100 0 a4k 0 100 0 a1 c232 f) y5 (nI s) (nI n) (nI k) (nI (wb n k i)) (nI k) ξ = _ := d5
      rw [e1]
      have wl : ∀ z, z < n → wb n k z < n := fun z hz => by unfold wb; split <;> omega
      have fl : ∀ z, z < n → wf n k z < n := fun z hz => by unfold wf; split <;> omega
      have bf : ∀ z, z < n → 1 ≤ z → wb n k z = wf n k (n - z) := fun z hz h1 => by unfold wb wf; split <;> split <;> omega
      have i3' : ∀ z, z < i → T (s + wb n k z) = 0 := fun z hz => by have := i3 z (by omega) hz; rw [tT _ (by have := wl z (by omega); omega)] at this; exact this
      have d3' : ∀ z, z < d → T (s + wf n k z) = 0 := fun z hz => by have := d3 z (by omega) hz; rw [tT _ (by have := fl z (by omega); omega)] at this; exact this
      rw [tT _ (by have := wl i i2; omega)] at i4
      rw [tT _ (by have := fl d d2; omega)] at d4
      have na : nI s + nI (wb n k i) = nI (s + wb n k i) := nI_add _ _
      have nb : nI s + nI (wf n k d) = nI (s + wf n k d) := nI_add _ _
      have la := wl i i2
      have lb := fl d d2
      unfold mj_Mo_fits_149
      by_cases g2 : T (s + wb n k i) = 0
      · have all0 : ∀ z, z < n → T (s + wb n k z) = 0 := fun z hz => by
          have : i = n - 1 := i4.resolve_left (fun q => q g2)
          by_cases w : z = i
          · rw [w]; exact g2
          · exact i3' z (by omega)
        have nv : ∀ v, ¬ VA T F N0 c e (s + k) v := fun v q => by
          obtain ⟨z, _, z1, z2, _, _, z3, _⟩ := (V0 v).mp q
          exact z3 (all0 z z2)
        have sk := skip (Or.inr nv)
        obtain ⟨ξ', r1, r2⟩ := ih (k + 1) ξ (by omega) (by omega) sk
        refine ⟨ξ', ?_, r2⟩
        rw [← r1, ← next ξ sk]
        simp (disch := omega) only [na, gu_nI, nI_clamp, tT, g2, if_true]
      · have i0 : 1 ≤ i := by
          rcases i with _ | i
          · rw [wb0] at g2; exact (g2 g).elim
          · omega
        have g3 : T (s + wf n k d) ≠ 0 := by
          intro q
          have : d = n - 1 := d4.resolve_left (fun w => w q)
          rw [bf i i2 i0] at g2
          by_cases w : n - i = d
          · rw [w] at g2; exact g2 q
          · exact g2 (d3' (n - i) (by omega))
        have dd : 1 ≤ d := by
          rcases d with _ | d
          · rw [wf0] at g3; exact (g3 g).elim
          · omega
        have hv : VP T F N0 s n k (fitv (F (s + k)) (F (s + wb n k i)) (N0 (s + wb n k i)) (F (s + wf n k d)) (N0 (s + wf n k d))) := ⟨i, d, i0, i2, dd, d2, g2, fun z _ hz => i3' z hz, g3, fun z _ hz => d3' z hz, rfl⟩
        have tF : ∀ y, y < p → gL ξ a2k 0 y = F y := fun y hy => by rw [I2 a2k ha]; exact hF y hy
        have tN : ∀ y, y < p → T y ≠ 0 → gL ξ a3k 0 y = N0 y := fun y hy hy2 => by rw [(I3 y).2 (Or.inr hy2)]; exact hN y hy
        have ev := fit_M (ξ := ξ) (o := F (s + k)) (oa := F (s + wb n k i)) (na := N0 (s + wb n k i)) (ob := F (s + wf n k d)) (nb := N0 (s + wf n k d)) (hb _ (by omega)) (hb _ (by omega))
        generalize hvv : fitv (F (s + k)) (F (s + wb n k i)) (N0 (s + wb n k i)) (F (s + wf n k d)) (N0 (s + wf n k d)) = v at hv ev
        have hu : ∀ v', VA T F N0 c e (s + k) v' → v' = v := fun v' q => VP_un ((V0 v').mp q) hv
        have key : ∀ ξ1, (∀ k l b, ¬ (k = 12 ∧ b = 52) → gI ξ1 k l b = gI ξ0 k l b) → (∀ k, gL ξ1 k = gL ξ k) → (gI ξ1 12 0 52 = 8 ↔ (gI ξ 12 0 52 = 8 ∨ Far v)) → (gI ξ1 12 0 52 = 0 ∨ gI ξ1 12 0 52 = 8) → MI a3k ξ0 (sL ξ1 a3k 0 (s + k) v) (VA T F N0 c e) T (s + (k + 1)) := by
          intro ξ1 q1 q2 q3 q4
          refine ⟨q1, fun k' hk' => ?_, ?_, ?_, q4⟩
          · funext l b; rw [gL_ne hk', q2, I2 k' hk']
          · refine sp_set (y := s + k) (v := v) I3 (fun z => by show z < s + (k + 1) ↔ z < s + k ∨ z = s + k; omega) g ((V0 v).mpr hv) gL_self fun z hz => by rw [gL_ne2 hz, q2]
          · exact sb_set hu I4 (fun z => by show z < s + (k + 1) ↔ z < s + k ∨ z = s + k; omega) g ((V0 v).mpr hv) q3
        have e2 : ∀ ξ1, mj_Mo_fits_217 a2k 0 100 0 a3k 0 100 0 a4k 0 100 0 a1 (lp_Mo_fits_43 a2k 0 100 0 a3k 0 100 0 a4k 0 100 0 a1 c232 f) y5 (nI s) (nI n) (nI k) v ξ1 = lp_Mo_fits_43 a2k 0 100 0 a3k 0 100 0 a4k 0 100 0 a1 c232 f y5 (nI s) (nI n) (nI (k + 1)) (sL ξ1 a3k 0 (s + k) v) := by
          intro ξ1
          simp (disch := omega) only [mj_Mo_fits_217, n3, gu_nI, nI_clamp, ap, mj_Mo_fits_226, n1]
        simp (disch := first | omega | assumption) only [na, nb, n3, gu_nI, nI_clamp, tT, g2, if_false, tF, tN, ev, Option.bind_some, far_b]
        by_cases w : -1000000000 ≤ v.toInt ∧ v.toInt ≤ 1000000000
        · rw [decide_eq_true w]
          simp only [Bool.not_true, e2]
          exact ih (k + 1) _ (by omega) (by omega) (key ξ I1 (fun _ => rfl) ⟨Or.inl, fun q => q.resolve_right fun q => q w⟩ I5)
        · rw [decide_eq_false w]
          simp only [Bool.not_false, if_true, ap, e2]
          refine ih (k + 1) _ (by omega) (by omega) (key (sI ξ 12 0 52 8) (fun k' l b q => ?_) (fun _ => rfl) ?_ (Or.inr gI_self))
          · rw [gI_sI, if_neg (by omega)]; exact I1 k' l b q
          · rw [gI_self]; exact ⟨fun _ => Or.inr w, fun _ => rfl⟩
