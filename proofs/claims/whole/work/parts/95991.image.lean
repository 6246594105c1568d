/-- the polygons told before stay, where nothing is taken over -/
theorem po_keep {μ ν' ξ' : Mem} {i j f g : Nat} {b : Nat → Nat} (hij : (i = 0 ∧ j = 1) ∨ (i = 1 ∧ j = 0)) (g3 : gR ξ' 11 0 3 = some i) (g4 : gR ξ' 11 0 4 = some j) (hPG : PG μ i f g b) (fr1 : ∀ k l b, ¬ (240 ≤ k ∧ k ≤ 243 ∧ l = j) → ¬ (k = 7 ∧ l = j) → ¬ (k = 1 ∧ b = 6) → gI ν' k l b = gI μ k l b) (M : TM 0 ν' ξ') : PO ξ' := by
  refine ⟨i, j, f, g, b, hij, g3, g4, ?_⟩
  have c7 : ∀ b', gI ξ' 7 i b' = gI μ 7 i b' := fun b' => by
    rw [M 7 i b' (by omega) (by omega) (by omega) (by omega), fr1 7 i b' (by omega) (by omega) (by omega)]
  have c24 : ∀ k b', 240 ≤ k → k ≤ 243 → gI ξ' k i b' = gI μ k i b' := fun k b' h1 h2 => by
    rw [M k i b' (by omega) (by omega) (by omega) (by omega), fr1 k i b' (by omega) (by omega) (by omega)]
  have c36 : ∀ k b', 368 ≤ k → k ≤ 370 → gI ξ' k 0 b' = gI μ k 0 b' := fun k b' h1 h2 => by
    rw [M k 0 b' (by omega) (by omega) (by omega) (by omega), fr1 k 0 b' (by omega) (by omega) (by omega)]
  have c27 : gI ξ' 12 0 27 = gI μ 12 0 27 := by
    rw [M 12 0 27 (by omega) (by omega) (by omega) (by omega), fr1 12 0 27 (by omega) (by omega) (by omega)]
  obtain ⟨p1, p2, p3, p4, p5, p6, p7, p8⟩ := hPG
  refine ⟨p1, by rw [c7]; exact p2, by rw [c27]; exact p3, p4, p5, p6, fun k hk => ?_, fun j' k j1 j2 j3 => ?_⟩
  · rw [c36 368 k (by omega) (by omega), c36 369 k (by omega) (by omega), c36 370 k (by omega) (by omega), c24 240 k (by omega) (by omega), c24 241 k (by omega) (by omega), c24 242 k (by omega) (by omega)]
    exact p7 k hk
  · rw [c24 242 k (by omega) (by omega), c24 243 k (by omega) (by omega)]
    exact p8 j' k j1 j2 j3
/-- what FR says of the places of the edges -/
theorem fr_ed {j m w g : Nat} {fl : Int32} {b : Nat → Nat} {ν ξ : Mem} (R : FR j ν ξ m w m g fl b) : ED ν j m (gI ν 240 j) (gI ν 241 j) (fun k => (gI ν 243 j k).toNatClampNeg) ∧ ∀ s y, ts (fun p => sumI (mk (gI ν 240 j) (gI ν 241 j) (fun k => (gI ν 243 j k).toNatClampNeg) s y p) m) 513 = 0 := by
  obtain ⟨r1, r2, r3, r4, r5, r6, r7, r8, r9, r10⟩ := R
  have hbm : ∀ j', j' ≤ g → b j' ≤ m := fun j' h => by
    have := pg_mono r8.2.2 j' g h (Nat.le_refl g)
    omega
  have hn : ∀ j' k, j' < g → b j' ≤ k → k < b (j' + 1) → (gI ν 243 j k).toNatClampNeg = if k + 1 = b (j' + 1) then b j' else k + 1 := fun j' k q1 q2 q3 => by
    have := hbm (j' + 1) (by omega)
    rw [(r9 j' k q1 q2 q3).2, nI_clamp (by split <;> omega)]
  refine ⟨⟨r1.1, r2.1, fun k hk => ?_⟩, fun s y => ?_⟩
  · obtain ⟨j', hj, h1, h2⟩ := pg_of r8.1 g (k := k) (by rw [r8.2.1]; exact hk)
    have e := hn j' k hj h1 h2
    have := hbm (j' + 1) (by omega)
    have lt : (gI ν 243 j k).toNatClampNeg < m := by rw [e]; split <;> omega
    refine ⟨lt, ?_, rfl, rfl, (r7 k hk).2.2.2.1, (r7 k hk).2.2.2.2⟩
    show gI ν 243 j k = nI (gI ν 243 j k).toNatClampNeg
    rw [e]; exact (r9 j' k hj h1 h2).2
  · rw [ts_sum]
    have := closed0 (X := gI ν 240 j) (Y := gI ν 241 j) (nx := fun k => (gI ν 243 j k).toNatClampNeg) (s := s) (y := y) r8.1 r8.2.2 hn g (Nat.le_refl g)
    rw [r8.2.1] at this
    exact this
/-- the model draws the same dots -/
theorem img_M {l m w g j : Nat} {t s rule fl : Int32} {b : Nat → Nat} {ν ξ : Mem} (R : FR j ν ξ m w m g fl b) (hc : ∀ k b', (k = 7 ∨ (240 ≤ k ∧ k ≤ 243)) → gI ξ k j b' = gI ν k j b') (hs : 4 ≤ s.toInt ∧ s.toInt ≤ 32) :
    ∃ ξ2 ξ', m_Mo_told ξ = some ξ2 ∧ lp_Mo_image_68 (nI l) t s rule (mj_Mo_image_90 (nI l) t s rule) FU 0 ξ2 = some (nI (cnt (gI ξ' 379 0) 4096), ξ') ∧ (∀ q, q < 4096 → gI ξ' 379 0 q = nI (PD (gI ν 240 j) (gI ν 241 j) (fun k => (gI ν 243 j k).toNatClampNeg) s.toInt rule m q 512)) ∧ PG ξ' j m g b := by
  obtain ⟨E, hT⟩ := fr_ed R
  obtain ⟨ξ2, d1, d2, d3, d4⟩ := told_M R.1.1 R.2.1.2
  obtain ⟨ξ3, z1, z2, z3⟩ := zero_379 (x1 := nI l) (x2 := t) (x3 := s) (x4 := rule) FU 0 ξ2 (by omega) (by unfold FU; omega)
  have pgx : ∀ ζ, (∀ k l b, k ≠ 380 → k ≠ 379 → gI ζ k l b = gI ξ3 k l b) → PG ζ j m g b := fun ζ hζ => by
    refine pg_fr R (fun k b' q => ?_) ?_ (fun a ha => ?_)
    · rw [hζ k j b' (by omega) (by omega), z3 k j b' (by omega), d3 k j b' (by omega) (by omega), hc k b' q]
    · rw [hζ 12 0 27 (by omega) (by omega), z3 12 0 27 (by omega)]; exact d2
    · rw [hζ 368 0 a (by omega) (by omega), z3 368 0 a (by omega), hζ 369 0 a (by omega) (by omega), z3 369 0 a (by omega), hζ 370 0 a (by omega) (by omega), z3 370 0 a (by omega)]
      exact d4 a ha
  have P3 := pgx ξ3 fun _ _ _ _ _ => rfl
  have c3 : ∀ k b', (k = 7 ∨ (240 ≤ k ∧ k ≤ 243)) → gI ξ3 k j b' = gI ν k j b' := fun k b' q => by
    rw [z3 k j b' (by omega), d3 k j b' (by omega) (by omega), hc k b' q]
  obtain ⟨ξ4, e1, e2, e3⟩ := drawm_lp (ξ0 := ξ3) (m := m) (X := gI ν 240 j) (Y := gI ν 241 j) (nx := fun k => (gI ν 243 j k).toNatClampNeg) (s := s) (rule := rule) (x1 := nI l) (x2 := t) R.1.1 P3.2.2.1 (fun k hk => by
      obtain ⟨p1, p2, p3, p4, p5⟩ := P3.2.2.2.2.2.2.1 k hk
      obtain ⟨x1, x2, x3, x4, x5, x6⟩ := E.2.2 k hk
      exact ⟨by rw [p1, c3 240 k (by omega)], by rw [p2, c3 241 k (by omega)], x1, x5, x6⟩) (fun ζ hζ k hk => by
      obtain ⟨nx, n1, n2, n3⟩ := pg_next (pgx ζ hζ) hk
      have : (gI ν 243 j k).toNatClampNeg = nx := by
        have := R.1.1
        rw [← c3 243 k (by omega), ← hζ 243 j k (by omega) (by omega), n2, nI_clamp (by omega)]
      rw [this]; exact n3) hs (fun y => hT s.toInt y) FU 0 ξ3 (by omega) (by unfold FU; omega) (fun _ _ _ _ _ => rfl) (fun q hq => by rw [z2 q (by omega) hq]; rfl)
  refine ⟨ξ2, ξ4, d1, ?_, e3, pgx ξ4 e2⟩
  rw [show (0 : Int32) = nI 0 from rfl, z1]
  unfold mj_Mo_image_90
  rw [show (-128 : Int32) = nI 0 - 128 from rfl, e1]
  unfold mj_Mo_image_212
  exact cnt_218 FU 0 (by omega) (by unfold FU; omega)
theorem op_image {μ : Mem} {n : Nat} (I : InvN n μ) (a t s rule : Int32) : ∃ r ν1 ν2, m_Fo_image a t s rule μ = some (r, ν1) ∧ m_Mo_image a t s rule ν1 = some (r, ν2) ∧ InvN n ν2 := by
  obtain ⟨i, j, f, g, b, hij, g3, g4, hPG⟩ := I.2.2.2.2.2.2.2.2.2.2.2.1
  have hIM : IM μ := I.2.2.2.2.2.2.2.2.2.2.2.2.1
  by_cases hs : 4 ≤ s.toInt ∧ s.toInt ≤ 32
  rotate_left 1
  · exact ⟨-1, μ, μ, fimg_s hs, mimg_bad fun q => hs (rng.mpr ⟨q.2.2.2.1, q.2.2.2.2.1⟩), I⟩
  by_cases hr : 0 ≤ rule.toInt ∧ rule.toInt ≤ 1
  rotate_left 1
  · exact ⟨-1, μ, μ, fimg_r hs hr, mimg_bad fun q => hr (rng.mpr ⟨q.2.2.2.2.2.1, q.2.2.2.2.2.2⟩), I⟩
  have s1 := (rng (x := s) (a := 4) (b := 32)).mp hs
  have r1 := (rng (x := rule) (a := 0) (b := 1)).mp hr
  have fg := fimg_good (a := a) (t := t) hs hr g4
  rcases lcase I.1 a with ⟨a1, a2⟩ | ⟨l, hl, rfl, a1, a2⟩
  · refine ⟨-1, μ, μ, ?_, mimg_bad fun q => ?_, I⟩
    · rw [fg, a1, Option.bind_some]
      rfl
    · rw [a2 μ rfl] at q; exact (by cases q.1)
  by_cases ht : 1 ≤ t.toInt ∧ t.toInt ≤ 256
  rotate_left 1
  · refine ⟨-1, μ, μ, ?_, mimg_bad fun q => ht (rng.mpr ⟨q.2.1, q.2.2.1⟩), I⟩
    rw [fg, a1, Option.bind_some]
    unfold m_Fl_fill
    rw [oc_some, rg_Fo, decide_eq_false (show ¬ ((1 : Int64).toInt ≤ t.toInt ∧ t.toInt ≤ (256 : Int64).toInt) from ht)]
    rfl
  have t1 := (rng (x := t) (a := 1) (b := 256)).mp ht
  obtain ⟨B, ν', ξx, m, w, g', b', e1, _, R, fr1, fr2, _⟩ := fill_both (j := j) I hl ht μ (fun _ _ => rfl)
  have r3 : gR ν' 11 0 3 = some i := by rw [fr2 11 0 3 (by omega)]; exact g3
  have r4 : gR ν' 11 0 4 = some j := by rw [fr2 11 0 4 (by omega)]; exact g4
  have good : ∀ ν1, gI ν1 12 0 0 = gI μ 12 0 0 → m_Mo_isLetter (nI l) ν1 = true ∧ ¬ t < 1 ∧ ¬ 256 < t ∧ ¬ s < 4 ∧ ¬ 32 < s ∧ ¬ rule < 0 ∧ ¬ 1 < rule := fun ν1 h => ⟨a2 ν1 h, t1.1, t1.2, s1.1, s1.2, r1.1, r1.2⟩
  have fin : ∀ r ν1 ν2, m_Fo_image (nI l) t s rule μ = some (r, ν1) → m_Mo_image (nI l) t s rule ν1 = some (r, ν2) → PO ν2 → IM ν2 → InvN n ν2 := by
    intro r ν1 ν2 q1 q2 hPO hIM
    have u := ((fm_Fo_image q1).mono (S' := [120, 121, 122, 123, 124, 140, 141, 240, 241, 242, 243, 1105, 1106, 1202, 1203, 1204, 1205, 1206, 1207, 1208, 1704, 1705, 1706, 1707, 1708, 2103, 2104, 360, 361, 364, 365, 366, 368, 369, 370, 373, 374, 375, 376, 379, 380, 2222, 2223, 2227, 2231, 2232, 2237, 2238]) (by decide)).tr ((fm_Mo_image q2).mono (S' := [120, 121, 122, 123, 124, 140, 141, 240, 241, 242, 243, 1105, 1106, 1202, 1203, 1204, 1205, 1206, 1207, 1208, 1704, 1705, 1706, 1707, 1708, 2103, 2104, 360, 361, 364, 365, 366, 368, 369, 370, 373, 374, 375, 376, 379, 380, 2222, 2223, 2227, 2231, 2232, 2237, 2238]) (by decide))
    exact inv_PO_IM I (by decide) u hPO hIM
  have st' : ∀ k, k ∈ [343, 346, 347, 348, 349, 352, 353, 354, 355, 356] → gI ν' k = gI μ k := fun k hk => by
    funext l' b'
    simp only [List.mem_cons, List.not_mem_nil, or_false] at hk
    rw [fr1 k l' b' (by omega) (by omega) (by omega)]
  have k12' : gI ν' 12 0 0 = gI μ 12 0 0 := fr1 12 0 0 (by omega) (by omega) (by omega)
  have no : ∀ ξ', m_Fo_image (nI l) t s rule μ = some (-1, ν') → m_Mo_flattens (nI l) t ν' = some (B, ξ') → TM 0 ν' ξ' → m_Mo_image (nI l) t s rule ν' = some (-1, ξ') → ∃ r ν1 ν2, m_Fo_image (nI l) t s rule μ = some (r, ν1) ∧ m_Mo_image (nI l) t s rule ν1 = some (r, ν2) ∧ InvN n ν2 := by
    intro ξ' q1 q0 M q2
    refine ⟨-1, ν', ξ', q1, q2, fin _ _ _ q1 q2 ?_ ?_⟩
    · have um := fm_Mo_image q2
      exact po_keep hij (by rw [(eqF um 11 3 (by decide) (by decide) 0).2]; exact r3) (by rw [(eqF um 11 4 (by decide) (by decide) 0).2]; exact r4) hPG fr1 M
    · have u := ((fm_Fl_fill e1).mono (S' := [120, 121, 122, 123, 124, 240, 241, 242, 243, 1105, 1106, 1704, 1705, 1706, 1707, 1708, 360, 361, 364, 365, 366, 373, 374, 375, 376, 2222, 2223, 2231, 2232, 2237, 2238]) (by decide)).tr ((fm_Mo_flattens q0).mono (S' := [120, 121, 122, 123, 124, 240, 241, 242, 243, 1105, 1106, 1704, 1705, 1706, 1707, 1708, 360, 361, 364, 365, 366, 373, 374, 375, 376, 2222, 2223, 2231, 2232, 2237, 2238]) (by decide))
      exact IM_fr (by decide) u hIM
  cases B with
  | false =>
    obtain ⟨B', ν'', ξ', m', w', g2, b2, e2, e3, _, _, _, M⟩ := fill_both (j := j) I hl ht ν' st'
    rw [e1] at e2
    obtain ⟨rfl, rfl⟩ := Prod.mk.inj (Option.some.inj e2)
    refine no ξ' ?_ e3 M ?_
    · rw [fg, a1, Option.bind_some, e1, Option.bind_some, ap]; rfl
    · rw [mimg_good (good ν' k12'), e3, Option.bind_some, ap]; rfl
  | true =>
    obtain ⟨H, h1, _, _⟩ := holds_both (s := s) R
    have fg2 : m_Fo_image (nI l) t s rule μ = if H then
       (ap (m_Fo_takeSparePolygons  ν') fun r9 =>
        ap (gR r9 11 (0) 3) fun o10 =>
        Option.bind o10 fun y11 =>
        Option.bind (m_Im_draw (y11) s rule r9) fun r12 =>
        some ((gI r12 2 (0) 4, r12)))
       else
       (some ((-1, ν'))) := by
      rw [fg, a1, Option.bind_some, e1, Option.bind_some, ap, if_pos rfl, show gR (true, ν').2 11 0 4 = some j from r4, ap, Option.bind_some, h1, Option.bind_some]
    cases H with
    | false =>
      obtain ⟨B', ν'', ξ', m', w', g2, b2, e2, e3, R', _, _, M⟩ := fill_both (j := j) I hl ht ν' st'
      rw [e1] at e2
      obtain ⟨rfl, rfl⟩ := Prod.mk.inj (Option.some.inj e2)
      obtain ⟨H', h1', h2', _⟩ := holds_both (s := s) R'
      rw [h1] at h1'
      obtain rfl := Option.some.inj h1'
      refine no ξ' ?_ e3 M ?_
      · rw [fg2]; rfl
      · rw [mimg_good (good ν' k12'), e3, Option.bind_some, ap, if_pos rfl, show m_Mo_isImage s (true, ξ').2 = some false from h2', Option.bind_some]; rfl
    | true =>
      obtain ⟨E, hT⟩ := fr_ed R
      obtain ⟨νt, hνt⟩ : ∃ νt, νt = sR (sR ν' 11 0 3 (some j)) 11 0 4 (some i) := ⟨_, rfl⟩
      have tk : m_Fo_takeSparePolygons ν' = νt := by
        show sR (sR ν' 11 0 3 (gR ν' 11 0 4)) 11 0 4 (gR ν' 11 0 3) = νt
        rw [r3, r4, hνt]
      have tI : ∀ k l b, gI νt k l b = gI ν' k l b := fun k l b => by rw [hνt]; rfl
      have E' : ED νt j m (gI ν' 240 j) (gI ν' 241 j) (fun k => (gI ν' 243 j k).toNatClampNeg) := ⟨E.1, by rw [tI]; exact E.2.1, fun k hk => by rw [tI, tI, tI]; exact E.2.2 k hk⟩
      obtain ⟨ν1, c1, c2, c3, c4, c5⟩ := draw_C (rule := rule) E' hs (hT s.toInt) (fun q hq => by rw [tI, fr1 141 0 q (by omega) (by omega) (by omega)]; exact hIM.2.1 q (by omega))
      have kI : ∀ k l b, k ≠ 140 → k ≠ 141 → k ≠ 2 → gI ν1 k l b = gI ν' k l b := fun k l b x1 x2 x3 => by rw [c5 k l b x1 x2 x3, tI]
      have q1 : m_Fo_image (nI l) t s rule μ = some (gI ν1 2 0 4, ν1) := by
        rw [fg2, if_pos rfl, tk, ap, show gR νt 11 0 3 = some j by rw [hνt]; simp [gR_sR], ap, Option.bind_some, c1, Option.bind_some]
      obtain ⟨B', ν'', ξ', m', w', g2, b2, e2, e3, R', _, _, M⟩ := fill_both (j := j) I hl ht ν1 (fun k hk => by
        rw [← st' k hk]
        funext l' b'
        simp only [List.mem_cons, List.not_mem_nil, or_false] at hk
        exact kI k l' b' (by omega) (by omega) (by omega))
      rw [e1] at e2
      obtain ⟨rfl, rfl⟩ := Prod.mk.inj (Option.some.inj e2)
      obtain ⟨H', h1', h2', _⟩ := holds_both (s := s) R'
      rw [h1] at h1'
      obtain rfl := Option.some.inj h1'
      obtain rfl : m = m' := nI_inj (by have := R.1.1; omega) (by have := R'.1.1; omega) (by rw [← R.2.1.1]; exact R'.2.1.1)
      obtain ⟨ξ2, ξ4, d1, d2, d3, d4⟩ := img_M (l := l) (t := t) (rule := rule) R' (fun k b' q => by
        rw [M k j b' (by omega) (by omega) (by omega) (by omega), kI k j b' (by omega) (by omega) (by omega)]) hs
      have q2 : m_Mo_image (nI l) t s rule ν1 = some (nI (cnt (gI ξ4 379 0) 4096), ξ4) := by
        rw [mimg_good (good ν1 (by rw [kI 12 0 0 (by omega) (by omega) (by omega)]; exact k12')), e3, Option.bind_some, ap, if_pos rfl, show m_Mo_isImage s (true, ξ').2 = some true from h2', Option.bind_some, if_pos rfl, show m_Mo_told (true, ξ').2 = some ξ2 from d1, Option.bind_some, d2]
      have um := fm_Mo_image q2
      have u140 : gI ξ4 140 = gI ν1 140 := (eqA um 140 (by decide) (by decide)).1
      have u141 : gI ξ4 141 = gI ν1 141 := (eqA um 141 (by decide) (by decide)).1
      have u24 : gI ξ4 2 0 4 = gI ν1 2 0 4 := (eqF um 2 4 (by decide) (by decide) 0).1
      have u25 : gI ξ4 2 0 5 = gI ν1 2 0 5 := (eqF um 2 5 (by decide) (by decide) 0).1
      have u26 : gI ξ4 2 0 6 = gI ν1 2 0 6 := (eqF um 2 6 (by decide) (by decide) 0).1
      have u27 : gI ξ4 2 0 7 = gI ν1 2 0 7 := (eqF um 2 7 (by decide) (by decide) 0).1
      have u28 : gI ξ4 2 0 8 = gI ν1 2 0 8 := (eqF um 2 8 (by decide) (by decide) 0).1
      have ec : gI ν1 2 0 4 = nI (cnt (gI ξ4 379 0) 4096) := by
        rw [c2.1, cnt_congr (f := gI ξ4 379 0) (g := gI ν1 140 0) 4096 fun k hk => by rw [d3 k hk, c4 k hk]]
      have q2' : m_Mo_image (nI l) t s rule ν1 = some (gI ν1 2 0 4, ξ4) := by rw [ec]; exact q2
      refine ⟨_, ν1, ξ4, q1, q2', fin _ _ _ q1 q2' ?_ ?_⟩
      · have uc := fm_Im_draw c1
        refine ⟨j, i, m, g2, b2, by omega, ?_, ?_, d4⟩
        · rw [(eqF um 11 3 (by decide) (by decide) 0).2, (eqF uc 11 3 (by decide) (by decide) 0).2, hνt]; simp [gR_sR]
        · rw [(eqF um 11 4 (by decide) (by decide) 0).2, (eqF uc 11 4 (by decide) (by decide) 0).2, hνt]; simp [gR_sR]
      · refine me_im (D := gI ν1 140 0) ?_ (by rw [u140]) (fun k hk => ⟨by rw [d3 k hk, c4 k hk], ?_⟩) (fun k hk => by rw [u141]; exact c3 k (by omega))
        · unfold ME at c2 ⊢
          rw [u24, u25, u26, u27, u28]
          exact c2
        · rw [c4 k hk]
          have := pd_64 (X := gI ν' 240 j) (Y := gI ν' 241 j) (nx := fun k => (gI ν' 243 j k).toNatClampNeg) (s := s.toInt) (rule := rule) (m := m) (q := k) (r := 512)
          unfold bI
          rw [nI_toInt (by omega)]
          omega
