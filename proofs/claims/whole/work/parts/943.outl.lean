theorem segs_both {i l s n st g : Nat} {t a2 a3 a2' a3' : Int32} {b : Nat → Nat} {V : Nat → Int64 × Int64} {kd : Nat → Int32} (hl : l < 32) (ht : 1 ≤ t.toInt ∧ t.toInt ≤ 256) (hn : s + n ≤ 100) (hLC : LC kd s (s + n)) (hb : ∀ k, k < n → nearB 16777216 (V k)) : ∀ f y ν ξ m w fl, y ≤ n → n - y < f → (y < n → kd (s + y) = 0) → FR i ν ξ m w st g fl b → gI ξ 12 0 38 = nI st → gL ν 1 0 5 = t.toInt64 * 1073741824 → (∀ k, k < n → gL ν 122 0 (s + k) = (V k).1 ∧ gL ν 123 0 (s + k) = (V k).2) → (∀ k, k < n → gL ξ 373 0 k = (V k).1 ∧ gL ξ 374 0 k = (V k).2) → (∀ k, k < n → gI ν 302 l (s + k) = kd (s + k) ∧ gI ξ 349 0 (100 * l + s + k) = kd (s + k)) →
    ∃ ν' ξ' m' w' fl', (∀ c, lp_Fl_addOutline_62 l a2 a3 i c f (nI s) (nI (s + n)) (nI (s + y)) ν = c ν') ∧ (∀ c, lp_Mo_outlineOf_257 (nI l) a2' a3' t c f (nI s) (nI n) (nI y) ξ = c ξ') ∧ FR i ν' ξ' m' w' st g fl' b ∧ GC i ν ν' ∧ GMm ξ ξ' := by
  have z1 : ¬ (1 : Int32) = 0 := by decide
  intro f
  induction f with
  | zero => intro y ν ξ m w fl h1 h2; omega
  | succ f ih =>
    intro y ν ξ m w fl h1 h2 hk R h38 h5 hv hx hkd
    have gr : GC i ν ν := ⟨fun _ _ _ _ _ _ => rfl, fun _ _ _ _ => rfl, rfl, rfl⟩
    have mr : GMm ξ ξ := ⟨fun _ _ _ _ _ _ => rfl, fun _ _ _ _ => rfl⟩
    by_cases h : n ≤ y
    · refine ⟨ν, ξ, m, w, fl, fun c => ?_, fun c => ?_, R, gr, mr⟩
      · rw [lp_Fl_addOutline_62, if_pos (by rw [nle (by omega) (by omega)]; omega)]
      · rw [lp_Mo_outlineOf_257, if_pos (by rw [nle (by omega) (by omega)]; exact h)]
    · have q1 : ¬ nI (s + n) ≤ nI (s + y) := by rw [nle (by omega) (by omega)]; omega
      have q2 : ¬ nI n ≤ nI y := by rw [nle (by omega) (by omega)]; exact h
      rcases R.1.2.2.2.1 with rfl | ⟨rfl, _⟩
      · refine ⟨ν, ξ, m, w, 0, fun c => ?_, fun c => ?_, R, gr, mr⟩
        · rw [lp_Fl_addOutline_62, if_neg q1, R.2.2.1.1, if_pos rfl]
        · rw [lp_Mo_outlineOf_257, if_neg q2, R.2.2.1.2, if_pos rfl]
      · have n1 : nI (s + y) + 1 = nI (s + y + 1) := nI_add _ 1
        have n2 : nI y + 1 = nI (y + 1) := nI_add _ 1
        -- the degree
        obtain ⟨d, hd, hyd, hnk, eC, eM⟩ : ∃ d, (d = 1 ∨ d = 2 ∨ d = 3) ∧ y + d ≤ n ∧ (y + d < n → kd (s + (y + d)) = 0) ∧ (∀ c, lp_Fl_addOutline_62 l a2 a3 i c (f + 1) (nI s) (nI (s + n)) (nI (s + y)) ν = mj_Fl_addOutline_102 l a2 a3 i (lp_Fl_addOutline_62 l a2 a3 i c f) (nI s) (nI (s + n)) (nI (s + y)) (nI d) ν) ∧ (∀ c, lp_Mo_outlineOf_257 (nI l) a2' a3' t c (f + 1) (nI s) (nI n) (nI y) ξ = mj_Mo_outlineOf_301 (nI l) a2' a3' t (lp_Mo_outlineOf_257 (nI l) a2' a3' t c f) (nI s) (nI n) (nI y) (nI (d - 1)) ξ) := by
          by_cases w1 : n ≤ y + 1
          · refine ⟨1, Or.inl rfl, by omega, fun q => by omega, fun c => ?_, fun c => ?_⟩
            · rw [lp_Fl_addOutline_62, if_neg q1, R.2.2.1.1, if_neg z1, n1, if_pos (by rw [nle (by omega) (by omega)]; omega)]; rfl
            · rw [lp_Mo_outlineOf_257, if_neg q2, R.2.2.1.2, if_neg z1, n2, if_pos (by rw [nle (by omega) (by omega)]; exact w1)]; rfl
          · obtain ⟨k1, k2⟩ := hkd (y + 1) (by omega)
            rw [show s + (y + 1) = s + y + 1 by omega] at k1 k2
            rw [show 100 * l + s + (y + 1) = 100 * l + s + y + 1 by omega] at k2
            have i1 : (100 : Int32) * nI l + nI s = nI (100 * l + s) := ix100 l s
            have i2 : nI (100 * l + s) + nI y = nI (100 * l + s + y) := nI_add _ _
            have i3 : nI (100 * l + s + y) + 1 = nI (100 * l + s + y + 1) := nI_add _ 1
            obtain ⟨c1, c2, c3⟩ := hLC.2 (s + y + 1) (by omega) (by omega)
            have k0 := hk (by omega)
            rw [show s + y + 1 - 1 = s + y by omega] at c2 c3
            have go : ∀ κ : Nat, κ ≤ 2 → kd (s + y + 1) = nI κ → (∀ c, lp_Fl_addOutline_62 l a2 a3 i c (f + 1) (nI s) (nI (s + n)) (nI (s + y)) ν = mj_Fl_addOutline_102 l a2 a3 i (lp_Fl_addOutline_62 l a2 a3 i c f) (nI s) (nI (s + n)) (nI (s + y)) (nI (κ + 1)) ν) ∧ (∀ c, lp_Mo_outlineOf_257 (nI l) a2' a3' t c (f + 1) (nI s) (nI n) (nI y) ξ = mj_Mo_outlineOf_301 (nI l) a2' a3' t (lp_Mo_outlineOf_257 (nI l) a2' a3' t c f) (nI s) (nI n) (nI y) (nI (κ + 1 - 1)) ξ) := by
              intro κ hκ e
              have n3 : nI κ + 1 = nI (κ + 1) := nI_add _ 1
              refine ⟨fun c => ?_, fun c => ?_⟩
              · rw [lp_Fl_addOutline_62, if_neg q1, R.2.2.1.1, if_neg z1, n1, if_neg (by rw [nle (by omega) (by omega)]; omega), gu_nI (by omega) (by omega), nI_clamp (by omega), k1, e, n3]
              · rw [lp_Mo_outlineOf_257, if_neg q2, R.2.2.1.2, if_neg z1, n2, if_neg (by rw [nle (by omega) (by omega)]; exact w1), i1, i2, i3, gu_nI (by omega) (by omega), nI_clamp (by omega), k2, e, Nat.add_sub_cancel]
            rcases c1 with e | e | e
            · obtain ⟨g1, g2⟩ := go 0 (by omega) e
              exact ⟨1, Or.inl rfl, by omega, fun q => by rw [show s + (y + 1) = s + y + 1 by omega]; exact e, g1, g2⟩
            · obtain ⟨g1, g2⟩ := go 1 (by omega) e
              exact ⟨2, Or.inr (Or.inl rfl), by omega, fun q => by rw [show s + (y + 2) = s + y + 1 + 1 by omega]; exact (c2 e).2 (by omega), g1, g2⟩
            · obtain ⟨g1, g2⟩ := go 2 (by omega) e
              rcases c3 e with ⟨t1, t2, t3, t4⟩ | ⟨t1, t2, t3, t4⟩
              · exact ⟨3, Or.inr (Or.inr rfl), by omega, fun q => by rw [show s + (y + 3) = s + y + 1 + 2 by omega]; exact t4 (by omega), g1, g2⟩
              · rw [k0] at t2; exact absurd t2 (by decide)
        obtain ⟨ν1, ξ1, m1, w1, fl1, s1, s2, s3, s4, s5⟩ := seg_both (l := l) (a1 := nI l) (a2 := a2) (a3 := a3) (a2' := a2') (a3' := a3') ht hd hn (show y < n by omega) hyd R h38 h5 hv hx hb
        obtain ⟨ν2, ξ2, m2, w2, fl2, r1, r2, r3, r4, r5⟩ := ih (y + d) ν1 ξ1 m1 w1 fl1 hyd (by omega) hnk s3 (by rw [s5.1 12 0 38 (by omega) (by omega) (by omega)]; exact h38) (by rw [s4.2.1 1 0 5 (by omega)]; exact h5) (fun k hk => by rw [s4.2.1 122 0 _ (by omega), s4.2.1 123 0 _ (by omega)]; exact hv k hk) (fun k hk => by rw [s5.2 373 0 _ (by omega), s5.2 374 0 _ (by omega)]; exact hx k hk) (fun k hk => by rw [s4.1 302 l _ (by omega) (by omega) (by omega), s5.1 349 0 _ (by omega) (by omega) (by omega)]; exact hkd k hk)
        refine ⟨ν2, ξ2, m2, w2, fl2, fun c => ?_, fun c => ?_, r3, gc_tr s4 r4, gm_tr s5 r5⟩
        · rw [eC, s1, show s + y + d = s + (y + d) by omega]; exact r1 c
        · rw [eM, s2]; exact r2 c
def HC (i : Nat) (ν ν' : Mem) : Prop := (∀ k l b, ¬ (240 ≤ k ∧ k ≤ 243 ∧ l = i) → ¬ (k = 7 ∧ l = i) → ¬ (k = 1 ∧ b = 6) → gI ν' k l b = gI ν k l b) ∧ (∀ a l b, ¬ (120 ≤ a ∧ a ≤ 123) → gL ν' a l b = gL ν a l b) ∧ gR ν' = gR ν ∧ gF ν' = gF ν
def HM (ξ ξ' : Mem) : Prop := ∀ k l b, ¬ (364 ≤ k ∧ k ≤ 366) → ¬ (k = 12 ∧ (b = 22 ∨ b = 23 ∨ b = 31 ∨ b = 32 ∨ b = 37 ∨ b = 38)) → k ≠ 376 → gI ξ' k l b = gI ξ k l b
/-- one outline of a letter -/
theorem outl_both {μ ν ξ : Mem} {pq : Nat → Nat} {i l c p e0 o dep m w g : Nat} {e : Nat → Nat} {t : Int32} {b : Nat → Nat} (hl : l < 32) (ht : 1 ≤ t.toInt ∧ t.toInt ≤ 256) (hSF : SF μ l c p e) (hPT : PT μ l p) (hLC : ∀ o, o < c → LC (gI μ 302 l) (e o) (e (o + 1))) (ho : o < c) (P : PA μ pq dep ν ξ)
    (sC : ∀ k l b, ¬ (240 ≤ k ∧ k ≤ 243) → k ≠ 7 → ¬ (k = 1 ∧ b = 6) → gI ν k l b = gI μ k l b) (sM : ∀ k, k ∈ [343, 346, 347, 348, 349] → gI ξ k = gI μ k) (h5 : gL ν 1 0 5 = t.toInt64 * 1073741824) (R : FR i ν ξ m w m g 1 b) :
    ∃ ν' ξ' m' w' g' fl' b', m_Fl_addOutline l (nI o) (nI dep) i ν = some ν' ∧ m_Mo_outlineOf (nI l) (nI o) (nI dep) t ξ = some ξ' ∧ FR i ν' ξ' m' w' m' g' fl' b' ∧ HC i ν ν' ∧ HM ξ ξ' := by
  obtain ⟨h1, h2, h3, h4, h5', h6, h7, h8, h9, h10, h11, h12, h13, h14⟩ := id hSF
  have mo := sf_mono hSF (o + 1) c (by omega) (by omega)
  have g2 := h10 o ho
  obtain ⟨s, hs⟩ : ∃ s, s = e o := ⟨_, rfl⟩
  obtain ⟨n, hn⟩ : ∃ n, n = e (o + 1) - e o := ⟨_, rfl⟩
  have hsn : s + n = e (o + 1) := by omega
  have n1 : nI o + 1 = nI (o + 1) := nI_add o 1
  have SFν : SF ν l c p e := SF_ag (μ := μ) (fun k a b' hk _ => sC k a b' (by omega) (by omega) (by omega)) hSF
  obtain ⟨ν1, c1, c2, c3, c4, c5, c6⟩ := places_C (μ := μ) (pq := pq) (dep := dep) (l := l) (s := s) (t := s + n) (i := i) (a2 := nI o) (c := mj_Fl_addOutline_39 l (nI o) (nI dep) i) P.1 (by omega) FU s ν (Nat.le_refl s) (by omega) (by unfold FU; omega) P.2.1 (fun q b' => sC 6 q b' (by omega) (by omega) (by omega)) (fun b' => ⟨sC 300 l b' (by omega) (by omega) (by omega), sC 301 l b' (by omega) (by omega) (by omega)⟩) (fun k' _ _ => by omega)
  obtain ⟨ξ1, d1, d2, d3, d4⟩ := places_M (μ := μ) (pq := pq) (dep := dep) (l := l) (s := s) (n := n) (a2 := nI o) (a4 := t) (c := mj_Mo_outlineOf_230 (nI l) (nI o) (nI dep) t) hl P.1 (by omega) FU 0 ξ (by omega) (by unfold FU; omega) P.2.2.1 (fun b' hb' => by rw [sM 347 (by decide), sM 348 (by decide), show 100 * l + s + b' = 100 * l + (s + b') by omega]; have := hPT (s + b') (by omega); exact ⟨this.1, this.2.1⟩) (fun k' _ => by omega)
  have eC : m_Fl_addOutline l (nI o) (nI dep) i ν = mj_Fl_addOutline_39 l (nI o) (nI dep) i (nI s) (nI (s + n)) ν1 := by
    unfold m_Fl_addOutline m_Sh_endOf
    rw [n1, startC SFν (by omega), startC SFν (by omega), Option.bind_some, Option.bind_some, Option.bind_some, ← hs, ← hsn]
    exact c1
  have eM : m_Mo_outlineOf (nI l) (nI o) (nI dep) t ξ = mj_Mo_outlineOf_230 (nI l) (nI o) (nI dep) t (nI s) (nI n) ξ1 := by
    have i8 : (8 : Int32) * nI l + nI o = nI (8 * l + o) := ix8 l o
    have k346 : ∀ o, o < c → gI ξ 346 0 (8 * l + o) = nI (e (o + 1)) := fun o ho => by rw [sM 346 (by decide)]; exact (h14 o ho).2
    unfold m_Mo_outlineOf
    rw [beg_M hl h1 ho h9 k346, Option.bind_some, i8, gu_nI (by omega) (by omega), nI_clamp (by omega), k346 o ho, pk_sub (by omega), ← hs, ← hsn, ap, show s + n - s = n by omega, show (0 : Int32) = nI 0 from rfl]
    exact d1
  rw [eC, eM]
  clear eC eM c1 d1
  -- the first point
  have R1 : FR i ν1 (sI ξ1 12 0 38 (nI m)) m w m g 1 b := fr_congr c2 (fun k l b' q => by rw [gI_sI, if_neg (by omega), d2]) R
  have V0 : ∀ k, k < n → nearB 16777216 (plc μ pq dep l (s + k)) := fun k hk => plc_b P (hPT (s + k) (by omega)).2.2.2.1 (hPT (s + k) (by omega)).2.2.2.2.1
  obtain ⟨ν2, ξ2, m2, fl2, a1, a2, a3, a4, a5⟩ := adds_both R1 gI_self (plc μ pq dep l s).1 (plc μ pq dep l s).2
  have e349 : ∀ k, k < n → gI ν2 302 l (s + k) = gI μ 302 l (s + k) ∧ gI ξ2 349 0 (100 * l + s + k) = gI μ 302 l (s + k) := fun k hk => by
    rw [a4.1 302 l _ (by omega) (by omega), c2, sC 302 l _ (by omega) (by omega) (by omega), a5.1 349 0 _ (by omega) (by omega), gI_ne (by omega), d2, sM 349 (by decide), show 100 * l + s + k = 100 * l + (s + k) by omega]
    exact ⟨rfl, (hPT (s + k) (by omega)).2.2.1⟩
  have lc := hLC o ho
  rw [← hs, ← hsn] at lc
  obtain ⟨ν3, ξ3, m3, w3, fl3, r1, r2, r3, r4, r5⟩ := segs_both (i := i) (l := l) (st := m) (g := g) (a2 := nI o) (a3 := nI dep) (a2' := nI o) (a3' := nI dep) (b := b) (V := fun k => plc μ pq dep l (s + k)) hl ht (show s + n ≤ 100 by omega) lc V0 FU 0 ν2 ξ2 m2 (w + 1) fl2 (by omega) (by unfold FU; omega) (fun _ => lc.1) a3 (by rw [a5.1 12 0 38 (by omega) (by omega)]; exact gI_self)
    (by rw [a4.2.1, c5 1 0 5 (by omega)]; exact h5) (fun k hk => by rw [a4.2.1]; exact c6 (s + k) (by omega) (by omega)) (fun k hk => by rw [a5.2]; exact d4 k hk) e349
  obtain ⟨ν4, ξ4, m4, g4, b4, f1, f2, f3, f4, f5⟩ := fin_both (a1 := nI l) (a2 := nI o) (a3 := nI dep) (a4 := t) r3 (by rw [r5.1 12 0 38 (by omega) (by omega) (by omega), a5.1 12 0 38 (by omega) (by omega)]; exact gI_self)
  refine ⟨ν4, ξ4, m4, w3, g4, fl3, b4, ?_, ?_, f3, ?_, ?_⟩
  · obtain ⟨v1, v2⟩ := c6 s (Nat.le_refl s) (by omega)
    unfold mj_Fl_addOutline_39
    rw [gu_nI (by omega) (by omega), gu_nI (by omega) (by omega), nI_clamp (by omega), v1, v2, a1, Option.bind_some, show nI s = nI (s + 0) from rfl]
    have := r1 (mj_Fl_addOutline_202 l (nI o) (nI dep) i)
    rw [show nI (s + 0) = nI s from rfl] at this ⊢
    rw [this]
    unfold mj_Fl_addOutline_202
    rw [f1]; rfl
  · obtain ⟨v1, v2⟩ := d4 0 (by omega)
    rw [show s + 0 = s from rfl] at v1 v2
    have g0 : ∀ x : Option Mem, gu (0 : Int32) 100 x = x := fun x => gu_nI (l := 0) (by omega) (by omega)
    unfold mj_Mo_outlineOf_230
    rw [ap, g0, g0, show (0 : Int32).toNatClampNeg = 0 from rfl, gL_sI, gL_sI, v1, v2, d2, show gI ξ 12 0 22 = nI m from R.2.1.2, a2, Option.bind_some]
    have := r2 (lp_Mo_outlineOf_368 (nI l) (nI o) (nI dep) t (mj_Mo_outlineOf_440 (nI l) (nI o) (nI dep) t) FU)
    rw [show nI 0 = (0 : Int32) from rfl] at this
    rw [this, f2]
  · refine ⟨fun k l' b' q1 q2 q3 => ?_, fun a l' b' q => ?_, ?_, ?_⟩
    · rw [f4.1 k l' b' q1 q2, r4.1 k l' b' q1 q2 q3, a4.1 k l' b' q1 q2, c2]
    · rw [f4.2.1, r4.2.1 a l' b' (by omega), a4.2.1, c5 a l' b' (by omega)]
    · rw [f4.2.2.1, r4.2.2.1, a4.2.2.1, c3]
    · rw [f4.2.2.2, r4.2.2.2, a4.2.2.2, c4]
  · intro k l' b' q1 q2 q3
    rw [f5.1 k l' b' q1 (by omega), r5.1 k l' b' q1 (by omega) q3, a5.1 k l' b' q1 (by omega), gI_sI, if_neg (by omega), d2]
