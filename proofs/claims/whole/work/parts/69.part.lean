theorem part_M82 {ν : Mem} {n l y : Nat} {a2 a3 a4 : Int32} {pc : Nat → Nat} {tg : Nat → Nat → Nat} {dp : Nat → Nat} {c : Int32 → Mem → Option (Int32 × Mem)} (h32 : n ≤ 32) (T : TR ν n pc tg dp) (hy : y < n) (hl : l < n) : ∀ f k, k ≤ pc y → pc y - k < f →
    ((∃ j, k ≤ j ∧ j < pc y ∧ tg y j = l) ∧ lp_Mo_part_82 (nI l) a2 a3 a4 c f (nI y) (nI k) ν = some (-1, ν)) ∨ ((∀ j, k ≤ j → j < pc y → tg y j ≠ l) ∧ lp_Mo_part_82 (nI l) a2 a3 a4 c f (nI y) (nI k) ν = c (nI y) ν) := by
  obtain ⟨t1, t2, t3, t4, t5, t6⟩ := T y hy
  intro f
  induction f with
  | zero => intro k h1 h2; omega
  | succ f ih =>
    intro k h1 h2
    by_cases h : k = pc y
    · right
      refine ⟨fun j _ _ => by omega, ?_⟩
      simp (disch := omega) only [lp_Mo_part_82, gu_nI, nI_clamp, t2, h, nle, Nat.le_refl, if_true]
    · have hk : k < pc y := by omega
      have q1 : ¬ pc y ≤ k := by omega
      obtain ⟨s1, s2, s3⟩ := t5 k hk
      have n1 : nI k + 1 = nI (k + 1) := nI_add k 1
      have i6 : 6 * nI y + nI k = nI (6 * y + k) := by rw [show (6 : Int32) = nI 6 from rfl, pk_mul, nI_add]
      have e1 : lp_Mo_part_82 (nI l) a2 a3 a4 c (f + 1) (nI y) (nI k) ν = if tg y k = l then some (-1, ν) else lp_Mo_part_82 (nI l) a2 a3 a4 c f (nI y) (nI (k + 1)) ν := by
        simp (disch := omega) only [lp_Mo_part_82, gu_nI, nI_clamp, t2, nle, q1, if_false, i6, s2, neq, ap, n1]
      rw [e1]
      by_cases g : tg y k = l
      · left; exact ⟨⟨k, Nat.le_refl _, hk, g⟩, if_pos g⟩
      · rw [if_neg g]
        rcases ih (k + 1) (by omega) (by omega) with ⟨⟨j, j1, j2, j3⟩, q⟩ | ⟨w, q⟩
        · left; exact ⟨⟨j, by omega, j2, j3⟩, q⟩
        · right
          refine ⟨fun j j1 j2 => ?_, q⟩
          by_cases w2 : j = k
          · subst w2; exact g
          · exact w j (by omega) j2
theorem part_M70 {ν : Mem} {n l : Nat} {a2 a3 a4 : Int32} {pc : Nat → Nat} {tg : Nat → Nat → Nat} {dp : Nat → Nat} {c : Mem → Option (Int32 × Mem)} (h32 : n ≤ 32) (T : TR ν n pc tg dp) (hn : gI ν 12 0 0 = nI n) (hl : l < n) : ∀ f y, y ≤ n → n - y < f →
    ((∃ z j, y ≤ z ∧ z < n ∧ j < pc z ∧ tg z j = l) ∧ lp_Mo_part_70 (nI l) a2 a3 a4 c f (nI y) ν = some (-1, ν)) ∨ ((∀ z j, y ≤ z → z < n → j < pc z → tg z j ≠ l) ∧ lp_Mo_part_70 (nI l) a2 a3 a4 c f (nI y) ν = c ν) := by
  intro f
  induction f with
  | zero => intro y h1 h2; omega
  | succ f ih =>
    intro y h1 h2
    by_cases h : y = n
    · right
      refine ⟨fun z j _ _ => by omega, ?_⟩
      simp (disch := omega) only [lp_Mo_part_70, hn, h, nle, Nat.le_refl, if_true]
    · have q1 : ¬ n ≤ y := by omega
      have n1 : nI y + 1 = nI (y + 1) := nI_add y 1
      have t1 := (T y (by omega)).1
      have e1 : lp_Mo_part_70 (nI l) a2 a3 a4 c (f + 1) (nI y) ν = lp_Mo_part_82 (nI l) a2 a3 a4 (mj_Mo_part_119 (nI l) a2 a3 a4 (lp_Mo_part_70 (nI l) a2 a3 a4 c f)) FU (nI y) 0 ν := by
        simp (disch := omega) only [lp_Mo_part_70, hn, nle, q1, if_false]
      rw [e1]
      rcases part_M82 (a2 := a2) (a3 := a3) (a4 := a4) (c := mj_Mo_part_119 (nI l) a2 a3 a4 (lp_Mo_part_70 (nI l) a2 a3 a4 c f)) h32 T (show y < n by omega) hl FU 0 (by omega) (by unfold FU; omega) with ⟨⟨j, j1, j2, j3⟩, q⟩ | ⟨w, q⟩
      · left; exact ⟨⟨y, j, Nat.le_refl _, by omega, j2, j3⟩, q⟩
      · have q2 : lp_Mo_part_82 (nI l) a2 a3 a4 (mj_Mo_part_119 (nI l) a2 a3 a4 (lp_Mo_part_70 (nI l) a2 a3 a4 c f)) FU (nI y) 0 ν = lp_Mo_part_70 (nI l) a2 a3 a4 c f (nI (y + 1)) ν := by
          rw [← n1]; exact q
        rw [q2]
        rcases ih (y + 1) (by omega) (by omega) with ⟨⟨z, j, j1, j2, j3, j4⟩, q⟩ | ⟨w', q⟩
        · left; exact ⟨⟨z, j, by omega, j2, j3, j4⟩, q⟩
        · right
          refine ⟨fun z j j1 j2 j3 => ?_, q⟩
          by_cases w2 : z = y
          · subst w2; exact w j (by omega) j3
          · exact w' z j (by omega) j2 j3
theorem ix6 (a b : Nat) : (6 : Int32) * nI a + nI b = nI (6 * a + b) := by rw [show (6 : Int32) = nI 6 from rfl, pk_mul, nI_add]
theorem ix4 (a b : Nat) : (4 : Int32) * nI a + nI b = nI (4 * a + b) := by rw [show (4 : Int32) = nI 4 from rfl, pk_mul, nI_add]
theorem part_inv {μ ν : Mem} {n l t p : Nat} {d f : Int32} (I : InvN n μ) (Z : MZ n μ) (hl : l < n) (ht : t < n) (hlt : l ≠ t) (hd : -32000 ≤ d.toInt ∧ d.toInt ≤ 32000) (hf : -32000 ≤ f.toInt ∧ f.toInt ≤ 32000)
    (hc : gI μ 10 l 6 = 0 ∧ gI μ 10 l 7 = 0) (hip : gI μ 4 l 6 = 0) (hp : p < 6) (h5 : gI μ 4 l 5 = nI p) {dl dt : Nat} (hdl : gI μ 4 l 7 = nI dl) (hdt : gI μ 4 t 7 = nI dt) (hdt3 : dt < 4) (hdl4 : dl ≤ 4)
    (R1 : ∀ k, k ∉ [4, 6, 352, 353, 354, 355, 356, 360, 361] → gI ν k = gI μ k) (R2 : ∀ k, k ∉ [6, 184, 360, 361] → gR ν k = gR μ k)
    (R3 : ∀ x j, ¬ (x = l ∧ j = 5) → ¬ (x = t ∧ j = 6) → ¬ (x = l ∧ j = 7) → gI ν 4 x j = gI μ 4 x j) (r5 : gI ν 4 l 5 = nI (p + 1)) (r6 : gI ν 4 t 6 = 1) (r7 : gI ν 4 l 7 = nI (max dl (dt + 1)))
    (R6 : ∀ q, q ≠ 6 * l + p → ∀ j, gI ν 6 q j = gI μ 6 q j) (R6r : ∀ q, q ≠ 6 * l + p → ∀ j, gR ν 6 q j = gR μ 6 q j) (g6 : gR ν 6 (6 * l + p) 0 = some t ∧ gI ν 6 (6 * l + p) 1 = d ∧ gI ν 6 (6 * l + p) 2 = f ∧ gI ν 6 (6 * l + p) 3 = 16384 ∧ gI ν 6 (6 * l + p) 4 = 0 ∧ gI ν 6 (6 * l + p) 5 = 0 ∧ gI ν 6 (6 * l + p) 6 = 16384)
    (R184 : ∀ x j, ¬ (x = l ∧ j = p) → gR ν 184 x j = gR μ 184 x j) (r184 : gR ν 184 l p = some (6 * l + p))
    (R352 : ∀ x, x ≠ l → gI ν 352 0 x = gI μ 352 0 x) (r352 : gI ν 352 0 l = nI (p + 1)) (R353 : ∀ q, q ≠ 6 * l + p → gI ν 353 0 q = gI μ 353 0 q ∧ gI ν 355 0 q = gI μ 355 0 q ∧ gI ν 356 0 q = gI μ 356 0 q ∧ ∀ i, i < 4 → gI ν 354 0 (4 * q + i) = gI μ 354 0 (4 * q + i))
    (r353 : gI ν 353 0 (6 * l + p) = nI t ∧ gI ν 355 0 (6 * l + p) = d ∧ gI ν 356 0 (6 * l + p) = f ∧ gI ν 354 0 (4 * (6 * l + p)) = 16384 ∧ gI ν 354 0 (4 * (6 * l + p) + 1) = 0 ∧ gI ν 354 0 (4 * (6 * l + p) + 2) = 0 ∧ gI ν 354 0 (4 * (6 * l + p) + 3) = 16384)
    (RF : ∀ k q, ¬ (k = 6 ∧ q = 6 * l + p) → gF ν k q = gF μ k q) : InvN n ν ∧ MZ n ν := by
  obtain ⟨i0, i1, i2, i3, i4, i5, i6, i7, i8, i9, i10, i11, i12, i13, i14⟩ := I
  have e4 : ∀ x j, j ≠ 5 → j ≠ 6 → j ≠ 7 → gI ν 4 x j = gI μ 4 x j := fun x j h1 h2 h3 => R3 x j (by omega) (by omega) (by omega)
  refine ⟨⟨?_, ?_, ?_, ?_, ?_, ?_, ?_, ?_, ?_, ?_, ?_, ?_, ?_, ?_, ?_⟩, ?_⟩
  · unfold IA at i0 ⊢
    simp only [R1 11 (by decide), R1 12 (by decide), R2 320 (by decide), R1 341 (by decide), R1 342 (by decide), e4 _ 0 (by decide) (by decide) (by decide), e4 _ 1 (by decide) (by decide) (by decide)]
    exact i0
  · intro x hx
    refine LSh_ag (μ := μ) (fun k a' b' hk ho => ?_) (i1 x hx)
    rw [R1 k]
    simp only [List.mem_cons, List.not_mem_nil, or_false, not_or]
    omega
  · intro x hx
    by_cases w : x = l
    · subst w
      obtain ⟨pc, tg, q1, q2, q3, q4, q5⟩ := i2 x hx
      have hpc : pc = p := nI_inj (by omega) (by omega) (q2.symm.trans h5)
      subst hpc
      refine ⟨pc + 1, fun k => if k = pc then t else tg k, by omega, r5, r352, fun _ => by rw [R1 10 (by decide)]; exact hc, fun k hk => ?_⟩
      by_cases w : k = pc
      · subst w
        obtain ⟨g1, g2, g3, g4, g5, g6', g7⟩ := g6
        obtain ⟨s1, s2, s3, s4, s5, s6, s7⟩ := r353
        dsimp only
        rw [if_pos rfl, r184, g1, g2, g3, g4, g5, g6', g7, s1, s2, s3, s4, s5, s6, s7]
        exact ⟨ht, rfl, rfl, rfl, rfl, rfl, hd, hf, ⟨rfl, rfl, rfl, rfl⟩, by unfold bI; decide, by unfold bI; decide, by unfold bI; decide, by unfold bI; decide⟩
      · have hk' : k < pc := by omega
        obtain ⟨s1, s2, s3, s4⟩ := R353 (6 * x + k) (by omega)
        have s40 := s4 0 (by omega)
        rw [Nat.add_zero] at s40
        dsimp only
        rw [if_neg w, R184 x k (by omega), R6r _ (by omega), s1, s2, s3, s4 1 (by omega), s4 2 (by omega), s4 3 (by omega), s40]
        simp only [R6 (6 * x + k) (by omega)]
        exact q5 k hk'
    · obtain ⟨pc, tg, q1, q2, q3, q4, q5⟩ := i2 x hx
      refine ⟨pc, tg, q1, by rw [R3 x 5 (by omega) (by omega) (by omega)]; exact q2, by rw [R352 x w]; exact q3, by rw [R1 10 (by decide)]; exact q4, fun k hk => ?_⟩
      have ne : 6 * x + k ≠ 6 * l + p := by omega
      obtain ⟨s1, s2, s3, s4⟩ := R353 (6 * x + k) ne
      have s40 := s4 0 (by omega)
      rw [R184 x k (by omega), R6r _ ne, s1, s2, s3, s4 1 (by omega), s4 2 (by omega), s4 3 (by omega)]
      rw [Nat.add_zero] at s40
      rw [s40]
      simp only [R6 (6 * x + k) ne]
      exact q5 k hk
  · obtain ⟨dp, hd⟩ := i3
    have tl : (gI μ 4 l 5).toInt = p := by rw [h5, nI_toInt (by omega)]
    have tl' : (gI ν 4 l 5).toInt = p + 1 := by rw [r5, nI_toInt (by omega)]; rfl
    have d_l : dp l = dl := nI_inj (by have := (hd l hl).2.1; omega) (by omega) ((hd l hl).2.2.1.symm.trans hdl)
    have d_t : dp t = dt := nI_inj (by have := (hd t ht).2.1; omega) (by omega) ((hd t ht).2.2.1.symm.trans hdt)
    have nl : ∀ x k y : Nat, x < n → (k : Int) < (gI μ 4 x 5).toInt → gR μ 6 (6 * x + k) 0 = some y → y ≠ l := by
      rintro x k y hx h1 h2 rfl
      have := ((hd x hx).2.2.2.1 k y h1 h2).2.1
      rw [hip] at this; cases this
    refine ⟨fun x => if x = l then max dl (dt + 1) else dp x, fun x hx => ?_⟩
    obtain ⟨d1, d2, d3, d4, d5, d6, d7⟩ := hd x hx
    have P7 : gI ν 4 x 6 = 1 → ∃ a k : Nat, a < n ∧ (k : Int) < (gI ν 4 a 5).toInt ∧ gR ν 6 (6 * a + k) 0 = some x := by
      intro q
      by_cases w : x = t
      · subst w; exact ⟨l, p, hl, by omega, g6.1⟩
      · rw [R3 x 6 (by omega) (by omega) (by omega)] at q
        obtain ⟨a, k, a1, a2, a3⟩ := d7 q
        by_cases wa : a = l
        · subst wa; exact ⟨a, k, a1, by omega, by rw [R6r _ (by omega)]; exact a3⟩
        · have b6 := ps_cnt ⟨i0, i1, i2, ⟨dp, hd⟩, i4, i5, i6, i7, i8, i9, i10, i11, i12, i13, i14⟩ a1
          obtain ⟨pc, q1, q2, _⟩ := b6
          have : (k : Int) < pc := by rw [q2, nI_toInt (by omega)] at a2; exact a2
          exact ⟨a, k, a1, by rw [R3 a 5 (by omega) (by omega) (by omega)]; exact a2, by rw [R6r _ (by omega)]; exact a3⟩
    have P1 : gI ν 4 x 6 = 0 ∨ gI ν 4 x 6 = 1 := by
      by_cases w : x = t
      · subst w; exact Or.inr r6
      · rw [R3 x 6 (by omega) (by omega) (by omega)]; exact d1
    have up : ∀ y, gI μ 4 y 6 = 1 → gI ν 4 y 6 = 1 := by
      intro y q
      by_cases w : y = t
      · subst w; exact r6
      · rw [R3 y 6 (by omega) (by omega) (by omega)]; exact q
    by_cases w : x = l
    · subst w
      simp only [if_true]
      refine ⟨P1, by omega, r7, fun k y q1 q2 => ?_, fun q => by omega, fun _ => ?_, P7⟩
      · by_cases wk : k = p
        · subst wk
          rw [g6.1] at q2
          obtain rfl := Option.some.inj q2
          exact ⟨ht, r6, by rw [if_neg (Ne.symm hlt), d_t]; omega⟩
        · rw [R6r _ (by omega)] at q2
          obtain ⟨t1, t2, t3⟩ := d4 k y (by omega) q2
          have := nl x k y hx (by omega) q2
          exact ⟨t1, up y t2, by rw [if_neg this]; omega⟩
      · by_cases wm : dl < dt + 1
        · exact ⟨p, t, by omega, g6.1, by rw [if_neg (Ne.symm hlt), d_t]; omega⟩
        · have : 0 < (gI μ 4 x 5).toInt := by
            by_cases w0 : p = 0
            · have := d5 (by omega); omega
            · omega
          obtain ⟨k, y, k1, k2, k3⟩ := d6 this
          have ny := nl x k y hx k1 k2
          exact ⟨k, y, by omega, by rw [R6r _ (by omega)]; exact k2, by rw [if_neg ny]; omega⟩
    · have e5 : gI ν 4 x 5 = gI μ 4 x 5 := R3 x 5 (by omega) (by omega) (by omega)
      obtain ⟨pc, q1, q2, _⟩ := ps_cnt ⟨i0, i1, i2, ⟨dp, hd⟩, i4, i5, i6, i7, i8, i9, i10, i11, i12, i13, i14⟩ hx
      have p6 : (gI μ 4 x 5).toInt ≤ 6 := by rw [q2, nI_toInt (by omega)]; omega
      simp only [if_neg w]
      rw [e5]
      refine ⟨P1, d2, by rw [R3 x 7 (by omega) (by omega) (by omega)]; exact d3, fun k y q1 q2 => ?_, d5, fun q => ?_, P7⟩
      · rw [R6r _ (by omega)] at q2
        obtain ⟨t1, t2, t3⟩ := d4 k y q1 q2
        have := nl x k y hx q1 q2
        exact ⟨t1, up y t2, by rw [if_neg this]; exact t3⟩
      · obtain ⟨k, y, k1, k2, k3⟩ := d6 q
        have ny := nl x k y hx k1 k2
        exact ⟨k, y, k1, by rw [R6r _ (by omega)]; exact k2, by rw [if_neg ny]; exact k3⟩
  · intro x hx
    have := i4 x hx
    unfold LA at this ⊢
    rw [R1 8 (by decide), R1 357 (by decide), R1 358 (by decide), R1 359 (by decide), R1 260 (by decide), R1 261 (by decide)]; exact this
  · intro x hx
    have := i5 x hx
    unfold LK at this ⊢
    rw [R1 399 (by decide), R1 400 (by decide), e4 x 8 (by decide) (by decide) (by decide), e4 x 9 (by decide) (by decide) (by decide)]; exact this
  · unfold KR at i6 ⊢
    rw [R1 401 (by decide), R1 402 (by decide), R1 403 (by decide), R1 560 (by decide), R1 561 (by decide)]; exact i6
  · unfold WT at i7 ⊢
    rw [R1 398 (by decide), R1 329 (by decide)]; exact i7
  · unfold RU at i8 ⊢
    rw [R1 5 (by decide), R1 12 (by decide), R1 405 (by decide), R1 600 (by decide), R1 201 (by decide)]; exact i8
  · unfold SG at i9 ⊢
    rw [R1 5 (by decide), R1 12 (by decide), R1 407 (by decide), R1 203 (by decide)]; exact i9
  · unfold PL at i10 ⊢
    simp only [R1 5 (by decide), R1 12 (by decide), R1 409 (by decide), R1 410 (by decide), R1 411 (by decide), R1 205 (by decide), R1 206 (by decide), R1 207 (by decide), e4 _ 1 (by decide) (by decide) (by decide)]
    exact i10
  · unfold PO PG at i11 ⊢
    rw [R2 11 (by decide), R1 7 (by decide), R1 12 (by decide), R1 368 (by decide), R1 369 (by decide), R1 370 (by decide), R1 240 (by decide), R1 241 (by decide), R1 242 (by decide), R1 243 (by decide)]; exact i11
  · unfold IM at i12 ⊢
    rw [R1 379 (by decide), R1 140 (by decide), R1 141 (by decide), R1 2 (by decide)]; exact i12
  · unfold FI at i13 ⊢
    rw [R2 11 (by decide), R1 0 (by decide), R1 12 (by decide), R1 394 (by decide), R1 395 (by decide), R1 396 (by decide), R1 397 (by decide), R1 501 (by decide), R1 502 (by decide)]; exact i13
  · obtain ⟨f1, f2⟩ := i14
    refine ⟨fun x hx => ?_, fun x k hx hk q => ?_⟩
    · obtain ⟨g1, g2, g3, g4, g5, g6', g7, g8, g9, g10, g11, g12, g13, g14⟩ := f1 x hx
      refine ⟨?_, ?_, ?_, ?_, ?_, ?_, ?_, ?_, ?_, ?_, ?_, ?_, fun k hk => ⟨?_, ?_⟩, fun k hk => ?_⟩ <;> (rw [RF _ _ (by omega)]) <;> first | assumption | exact (g13 k hk).1 | exact (g13 k hk).2 | exact g14 k hk
    · by_cases w : x = l
      · subst w
        rw [r5, nI_toInt (by omega)] at q
        rw [RF _ _ (by omega)]
        exact f2 x k hx hk (by rw [h5, nI_toInt (by omega)]; omega)
      · rw [RF _ _ (by omega)]
        rw [R3 x 5 (by omega) (by omega) (by omega)] at q
        exact f2 x k hx hk q
  · intro x hx
    rw [R1 343 (by decide), R1 344 (by decide), R1 345 (by decide), R352 x (by omega), R1 357 (by decide), R1 399 (by decide), R1 400 (by decide)]
    exact Z x hx
theorem op_part {μ : Mem} {n : Nat} (I : InvN n μ) (Z : MZ n μ) (a b d f : Int32) : ∃ r ν1 ν2, m_Fo_part a b d f μ = some (r, ν1) ∧ m_Mo_part a b d f ν1 = some (r, ν2) ∧ InvN n ν2 ∧ MZ n ν2 := by
  have h32 := I.1.1
  rcases lcase I.1 a with ⟨a1, a2⟩ | ⟨l, hl, rfl, a1, a2⟩
  · refine ⟨-1, μ, μ, ?_, ?_, I, Z⟩
    · unfold m_Fo_part
      rw [a1]
      rcases lcase I.1 b with ⟨b1, b2⟩ | ⟨t, ht, rfl, b1, b2⟩ <;> rw [b1] <;> rfl
    · unfold m_Mo_part
      rw [a2 μ rfl]; rfl
  rcases lcase I.1 b with ⟨b1, b2⟩ | ⟨t, ht, rfl, b1, b2⟩
  · refine ⟨-1, μ, μ, ?_, ?_, I, Z⟩
    · unfold m_Fo_part
      rw [a1, b1]; rfl
    · unfold m_Mo_part
      rw [a2 μ rfl, b2 μ rfl]; rfl
  obtain ⟨c, p, e, hSF, hPT, hLC⟩ := I.2.1 l hl
  obtain ⟨h1, h2, h3, h4, h5, h6, h7, h8, h9, h10, h11, h12, h13, h14⟩ := id hSF
  obtain ⟨pc, tg, dp, T, hPS, hdp⟩ := tr_of I
  obtain ⟨p1, p2, p3, p4, p5⟩ := hPS l hl
  have q4 := (T t ht).2.2.2.1
  have ql4 := (T l hl).2.2.2.1
  have hA : m_Sh_hasAny l μ = decide (¬ (gI μ 10 l 7 = 0 ∧ c = 0)) := by
    unfold m_Sh_hasAny mj_Sh_hasAny_14
    rw [h3]
    by_cases w : gI μ 10 l 7 = 0
    · rw [if_pos w]
      by_cases w2 : c = 0
      · rw [if_pos (by rw [show (0 : Int32) = nI 0 from rfl, nle (by omega) (by omega)]; omega)]
        symm; rw [decide_eq_false_iff_not]; exact fun q => q ⟨w, w2⟩
      · rw [if_neg (by rw [show (0 : Int32) = nI 0 from rfl, nle (by omega) (by omega)]; omega)]
        symm; rw [decide_eq_true_iff]; exact fun q => w2 q.2
    · rw [if_neg w]
      symm; rw [decide_eq_true_iff]; exact fun q => w q.1
  have hip : gI μ 4 l 6 = 0 ↔ ∀ z j, 0 ≤ z → z < n → j < pc z → tg z j ≠ l := by
    obtain ⟨dp', hD⟩ := I.2.2.2.1
    refine ⟨fun w z j _ hz hj q => ?_, fun w => ?_⟩
    · obtain ⟨w1, w2, w3, w4, w5⟩ := hPS z hz
      have := ((hD z hz).2.2.2.1 j (tg z j) (by rw [w2, nI_toInt (by omega)]; omega) (w5 j hj).2.2.1).2.1
      rw [q, w] at this; cases this
    · rcases (hD l hl).1 with q | q
      · exact q
      · obtain ⟨z, j, z1, z2, z3⟩ := (hD l hl).2.2.2.2.2.2 q
        obtain ⟨w1, w2, w3, w4, w5⟩ := hPS z z1
        have hj : j < pc z := by rw [w2, nI_toInt (by omega)] at z2; omega
        have := (w5 j hj).2.2.1
        rw [z3] at this
        exact (w z j (by omega) z1 hj (Option.some.inj this).symm).elim
  by_cases hok : l ≠ t ∧ ((-32000 ≤ d.toInt ∧ d.toInt ≤ 32000) ∧ (-32000 ≤ f.toInt ∧ f.toInt ≤ 32000)) ∧ (gI μ 10 l 7 = 0 ∧ c = 0) ∧ gI μ 4 l 6 = 0 ∧ dp t < 4 ∧ pc l < 6
  · obtain ⟨k1, k2, k3, k4, k5, k6⟩ := hok
    have n1 : ∀ k, nI k + 1 = nI (k + 1) := fun k => nI_add k 1
    have n2 : nI (pc l + 1) - 1 = nI (pc l) := by rw [nsub1 (by omega)]; rfl
    have ne4 : (nI l = nI t) = (l = t) := neq (by omega) (by omega)
    have hfr : gF μ 6 (6 * l + pc l) = false := I.2.2.2.2.2.2.2.2.2.2.2.2.2.2.2 l (pc l) hl k6 (by rw [p2, nI_toInt (by omega)]; omega)
    obtain ⟨ν1, e1, hν⟩ : ∃ ν1, m_Fo_part (nI l) (nI t) d f μ = some (nI (pc l), ν1) ∧ ν1 = sI (sI (sI (sR (sI (sI (sR (sI (sI (sI (sI (nw μ 6 (6 * l + pc l)) 6 (6 * l + pc l) 3 16384) 6 (6 * l + pc l) 4 0) 6 (6 * l + pc l) 5 0) 6 (6 * l + pc l) 6 16384) 6 (6 * l + pc l) 0 (some t)) 6 (6 * l + pc l) 1 d) 6 (6 * l + pc l) 2 f) 184 l (pc l) (some (6 * l + pc l))) 4 l 5 (nI (pc l + 1))) 4 t 6 1) 4 l 7 (nI (max (dp l) (dp t + 1))) := by
      refine ⟨_, ?_, rfl⟩
      have g5 : ∀ x, gI (nw μ 6 x) 4 l 5 = nI (pc l) := fun x => by rw [gI_nw, if_neg (by omega), p2]
      have g7 : ∀ x, gI (nw μ 6 x) 4 l 7 = nI (dp l) := fun x => by rw [gI_nw, if_neg (by omega), hdp l hl]
      have g7' : ∀ x, gI (nw μ 6 x) 4 t 7 = nI (dp t) := fun x => by rw [gI_nw, if_neg (by omega), hdp t ht]
      unfold m_Fo_part
      rw [a1, b1]
      simp only [Option.bind_some, oc_some, ne4, k1, if_false]
      rw [rg_isPlace, decide_eq_true k2, if_pos rfl, hA, decide_eq_false (fun q => q k3), if_neg (by decide), if_pos k4, hdp t ht, if_pos (by rw [show (4 : Int32) = nI 4 from rfl, nlt (by omega) (by omega)]; exact k5)]
      unfold m_Le_addPart m_Pa_init
      simp (disch := omega) only [p2, show (6 : Int32) = nI 6 from rfl, nlt, k6, if_true, nI_clamp, gu_nI, ap, gfr_pos hfr, gI_ne, gI_ne1, gI_ne2, gI_self, gI_sR, g5, g7, g7', n1, n2, Option.bind_some]
      have : m_Ma_max (nI (dp l)) (nI (dp t + 1)) = fun _ => nI (max (dp l) (dp t + 1)) := by
        funext x
        unfold m_Ma_max
        by_cases w : dp l < dp t + 1
        · rw [if_pos (by rw [nlt (by omega) (by omega)]; exact w), show max (dp l) (dp t + 1) = dp t + 1 by omega]
        · rw [if_neg (by rw [nlt (by omega) (by omega)]; exact w), show max (dp l) (dp t + 1) = dp l by omega]
      rw [this]
    have kI : ∀ k q j, k ≠ 4 → k ≠ 6 → gI ν1 k q j = gI μ k q j := fun k q j w1 w2 => by
      rw [hν]
      simp (disch := omega) only [gI_ne, gI_sR]
      rw [gI_nw, if_neg (by omega)]
    have kR : ∀ k q j, k ≠ 6 → k ≠ 184 → gR ν1 k q j = gR μ k q j := fun k q j w1 w2 => by
      rw [hν]
      simp only [gR_sI, gR_sR, gR_nw]
      rw [if_neg (by omega), if_neg (by omega), if_neg (by omega)]
    have T1 : TR ν1 n pc tg dp := by
      intro x hx
      rw [kI 352 0 x (by decide) (by decide)]
      obtain ⟨s1, s2, s3, s4, s5, s6⟩ := T x hx
      exact ⟨s1, s2, s3, s4, fun k hk => by rw [kI 353 0 _ (by decide) (by decide)]; exact s5 k hk, s6⟩
    obtain ⟨ν', w1, w2⟩ := depth_M h32 T1 ht
    have u : ∀ k, 13 ≤ k → k ∉ [360, 361] → gI ν' k = gI ν1 k := fun k h3 hk => (w2.1.1 k h3 hk).1
    have v : ∀ k q j, k ≠ 360 → k ≠ 361 → gI ν' k q j = gI ν1 k q j := fun k q j h1 h2 => by
      by_cases h3 : 13 ≤ k
      · rw [u k h3 (by simp only [List.mem_cons, List.not_mem_nil, or_false, not_or]; omega)]
      · exact (w2.1.2.1 k j (by omega) (by simp only [List.mem_cons, List.not_mem_nil, or_false, not_or]; omega) q).1
    have vR : ∀ k q j, k ≠ 360 → k ≠ 361 → gR ν' k q j = gR ν1 k q j := fun k q j h1 h2 => by
      by_cases h3 : 13 ≤ k
      · rw [(w2.1.1 k h3 (by simp only [List.mem_cons, List.not_mem_nil, or_false, not_or]; omega)).2.2]
      · exact (w2.1.2.1 k j (by omega) (by simp only [List.mem_cons, List.not_mem_nil, or_false, not_or]; omega) q).2.2
    have vF : ∀ k q, gF ν' k q = gF ν1 k q := w2.1.2.2
    have v2 : gI ν' 352 0 l = nI (pc l) := by rw [u 352 (by decide) (by decide), kI _ _ _ (by decide) (by decide), p3]
    have c343 : gI ν1 343 0 l = nI 0 := by rw [kI _ _ _ (by decide) (by decide), h4, k3.2]
    have c344 : gI ν1 344 0 l = 0 := by rw [kI _ _ _ (by decide) (by decide), h5, k3.1]
    have c352 : gI ν1 352 0 l = nI (pc l) := by rw [kI _ _ _ (by decide) (by decide), p3]
    have c12 : gI ν1 12 0 0 = gI μ 12 0 0 := kI _ _ _ (by decide) (by decide)
    have x1 : ¬ pc l = 6 := by omega
    have x0 : ¬ (0 : Nat) < 0 := by omega
    have x3 : dp t ≤ 3 := by omega
    have j4 : ∀ q, (4 : Int32) * nI q = nI (4 * q) := fun q => by rw [show (4 : Int32) = nI 4 from rfl, pk_mul]
    have j5 : ∀ q, nI q + 2 = nI (q + 2) := fun q => nI_add q 2
    have j6 : ∀ q, nI q + 3 = nI (q + 3) := fun q => nI_add q 3
    have e2 : m_Mo_part (nI l) (nI t) d f ν1 = some (nI (pc l), sI (sI (sI (sI (sI (sI (sI (sI ν' 353 0 (6 * l + pc l) (nI t)) 355 0 (6 * l + pc l) d) 356 0 (6 * l + pc l) f) 354 0 (4 * (6 * l + pc l)) 16384) 354 0 (4 * (6 * l + pc l) + 1) 0) 354 0 (4 * (6 * l + pc l) + 2) 0) 354 0 (4 * (6 * l + pc l) + 3) 16384) 352 0 l (nI (pc l + 1))) := by
      unfold m_Mo_part
      rw [a2 ν1 c12, b2 ν1 c12, if_pos rfl, if_pos rfl]
      simp (disch := omega) only [gu_nI, nI_clamp, c343, show (0 : Int32) < nI 0 ↔ (0 : Nat) < 0 from by rw [show (0 : Int32) = nI 0 from rfl, nlt (by omega) (by omega)], x0, if_false, c344, if_true, ne4, k1, rm_isPlace, decide_eq_true k2.1, decide_eq_true k2.2, c352, show (6 : Int32) = nI 6 from rfl, neq, x1]
      rcases part_M70 (a2 := nI t) (a3 := d) (a4 := f) (c := mj_Mo_part_125 (nI l) (nI t) d f) h32 T1 (by rw [c12]; exact I.1.2.2.1) hl FU 0 (by omega) (by unfold FU; omega) with ⟨⟨z, j, z1, z2, z3, z4⟩, -⟩ | ⟨-, q⟩
      · exact (hip.mp k4 z j z1 z2 z3 z4).elim
      · rw [show lp_Mo_part_70 (nI l) (nI t) d f (mj_Mo_part_125 (nI l) (nI t) d f) FU 0 ν1 = _ from q]
        unfold mj_Mo_part_125
        rw [w1]
        simp (disch := omega) only [Option.bind_some, ap, show (3 : Int32) = nI 3 from rfl, nle, x3, if_true, gu_nI, nI_clamp, v2, ix6, j4, n1, j5, gI_ne, gI_self, n2]
        simp (disch := omega) only [show ∀ q, nI q + nI 3 = nI (q + 3) from fun q => nI_add q 3, gu_nI, nI_clamp, gI_ne, gI_self, v2, n1, n2]
    refine ⟨nI (pc l), ν1, _, e1, e2, ?_⟩
    refine part_inv (dl := dp l) (dt := dp t) (p := pc l) (d := d) (f := f) I Z hl ht k1 k2.1 k2.2 ⟨by rw [h3, k3.2]; rfl, k3.1⟩ k4 k6 p2 (hdp l hl) (hdp t ht) k5 ql4 ?_ ?_ ?_ ?_ ?_ ?_ ?_ ?_ ?_ ?_ ?_ ?_ ?_ ?_ ?_ ?_
    · intro k hk
      simp only [List.mem_cons, List.not_mem_nil, or_false, not_or] at hk
      funext q j
      simp (disch := omega) only [gI_ne]
      rw [v k q j (by omega) (by omega), kI k q j (by omega) (by omega)]
    · intro k hk
      simp only [List.mem_cons, List.not_mem_nil, or_false, not_or] at hk
      funext q j
      simp only [gR_sI]
      rw [vR k q j (by omega) (by omega), kR k q j (by omega) (by omega)]
    · intro x j y1 y2 y3
      simp (disch := omega) only [gI_ne]
      rw [v 4 x j (by omega) (by omega), hν, gI_sI, if_neg (by omega), gI_sI, if_neg (by omega), gI_sI, if_neg (by omega)]
      simp (disch := omega) only [gI_ne, gI_sR]
      rw [gI_nw, if_neg (by omega)]
    · simp (disch := omega) only [gI_ne]
      rw [v 4 l 5 (by omega) (by omega), hν]
      simp (disch := omega) only [gI_ne2, gI_self]
    · simp (disch := omega) only [gI_ne]
      rw [v 4 t 6 (by omega) (by omega), hν]
      simp (disch := omega) only [gI_ne2, gI_self]
    · simp (disch := omega) only [gI_ne]
      rw [v 4 l 7 (by omega) (by omega), hν, gI_self]
    · intro q hq j
      simp (disch := omega) only [gI_ne]
      rw [v 6 q j (by omega) (by omega), hν]
      simp (disch := omega) only [gI_ne, gI_ne1, gI_sR]
      rw [gI_nw, if_neg (by omega)]
    · intro q hq j
      simp only [gR_sI]
      rw [vR 6 q j (by omega) (by omega), hν]
      simp only [gR_sI, gR_sR, gR_nw]
      rw [if_neg (by omega), if_neg (by omega), if_neg (by omega)]
    · simp only [gR_sI]
      rw [vR 6 _ 0 (by omega) (by omega)]
      simp (disch := omega) only [gI_ne]
      rw [v 6 _ 1 (by omega) (by omega), v 6 _ 2 (by omega) (by omega), v 6 _ 3 (by omega) (by omega), v 6 _ 4 (by omega) (by omega), v 6 _ 5 (by omega) (by omega), v 6 _ 6 (by omega) (by omega), hν]
      refine ⟨?_, ?_, ?_, ?_, ?_, ?_, ?_⟩
      · simp only [gR_sI, gR_sR]
        rw [if_neg (by omega), if_pos (by simp)]
      · simp (disch := omega) only [gI_ne, gI_ne2, gI_sR, gI_self]
      · simp (disch := omega) only [gI_ne, gI_ne2, gI_sR, gI_self]
      · simp (disch := omega) only [gI_ne, gI_ne2, gI_sR, gI_self]
      · simp (disch := omega) only [gI_ne, gI_ne2, gI_sR, gI_self]
      · simp (disch := omega) only [gI_ne, gI_ne2, gI_sR, gI_self]
      · simp (disch := omega) only [gI_ne, gI_ne2, gI_sR, gI_self]
    · intro x j hx
      simp only [gR_sI]
      rw [vR 184 x j (by omega) (by omega), hν]
      simp only [gR_sI, gR_sR, gR_nw]
      rw [if_neg (by omega), if_neg (by omega), if_neg (by omega)]
    · simp only [gR_sI]
      rw [vR 184 l _ (by omega) (by omega), hν]
      simp only [gR_sI, gR_sR]
      rw [if_pos (by simp)]
    · intro x hx
      simp (disch := omega) only [gI_ne, gI_ne2]
      rw [v 352 0 x (by omega) (by omega), kI _ _ _ (by omega) (by omega)]
    · rw [gI_self]
    · intro q hq
      refine ⟨?_, ?_, ?_, fun i hi => ?_⟩
      · simp (disch := omega) only [gI_ne, gI_ne2]
        rw [v 353 0 q (by omega) (by omega), kI _ _ _ (by omega) (by omega)]
      · simp (disch := omega) only [gI_ne, gI_ne2]
        rw [v 355 0 q (by omega) (by omega), kI _ _ _ (by omega) (by omega)]
      · simp (disch := omega) only [gI_ne, gI_ne2]
        rw [v 356 0 q (by omega) (by omega), kI _ _ _ (by omega) (by omega)]
      · simp (disch := omega) only [gI_ne, gI_ne2]
        rw [v 354 0 _ (by omega) (by omega), kI _ _ _ (by omega) (by omega)]
    · refine ⟨?_, ?_, ?_, ?_, ?_, ?_, ?_⟩ <;> simp (disch := omega) only [gI_ne, gI_ne2, gI_self]
    · intro k q hq
      show gF ν' k q = gF μ k q
      rw [vF, hν]
      simp only [gF_sI, gF_sR, gF_nw]
      rw [if_neg hq]
  · have hC : m_Fo_part (nI l) (nI t) d f μ = some (-1, μ) := by
      unfold m_Fo_part
      rw [a1, b1]
      simp only [Option.bind_some, oc_some]
      by_cases k1 : l = t
      · rw [if_pos (by rw [k1])]
      rw [if_neg (by rw [neq (by omega) (by omega)]; exact k1), rg_isPlace]
      by_cases k2 : (-32000 ≤ d.toInt ∧ d.toInt ≤ 32000) ∧ (-32000 ≤ f.toInt ∧ f.toInt ≤ 32000)
      rotate_left 1
      · rw [decide_eq_false k2]; rfl
      rw [decide_eq_true k2, if_pos rfl, hA]
      by_cases k3 : gI μ 10 l 7 = 0 ∧ c = 0
      rotate_left 1
      · rw [decide_eq_true k3, if_pos rfl]
      rw [decide_eq_false (fun q => q k3), if_neg (by decide)]
      by_cases k4 : gI μ 4 l 6 = 0
      rotate_left 1
      · rw [if_neg k4]
      rw [if_pos k4, hdp t ht]
      by_cases k5 : dp t < 4
      rotate_left 1
      · rw [if_neg (by rw [show (4 : Int32) = nI 4 from rfl, nlt (by omega) (by omega)]; exact k5)]
      rw [if_pos (by rw [show (4 : Int32) = nI 4 from rfl, nlt (by omega) (by omega)]; exact k5)]
      have k6 : ¬ pc l < 6 := fun k6 => hok ⟨k1, k2, k3, k4, k5, k6⟩
      unfold m_Le_addPart
      rw [p2, if_neg (by rw [show (6 : Int32) = nI 6 from rfl, nlt (by omega) (by omega)]; exact k6)]; rfl
    have hM : ∃ ν, m_Mo_part (nI l) (nI t) d f μ = some (-1, ν) ∧ Un [360, 361] μ ν := by
      unfold m_Mo_part
      rw [a2 μ rfl, b2 μ rfl, if_pos rfl, if_pos rfl]
      simp (disch := omega) only [gu_nI, nI_clamp, h4, h5]
      by_cases m1 : 0 < c
      · exact ⟨μ, by rw [if_pos (by rw [show (0 : Int32) = nI 0 from rfl, nlt (by omega) (by omega)]; exact m1)], Un.rf⟩
      rw [if_neg (by rw [show (0 : Int32) = nI 0 from rfl, nlt (by omega) (by omega)]; exact m1)]
      by_cases m2 : gI μ 10 l 7 = 0
      rotate_left 1
      · exact ⟨μ, by rw [if_neg m2], Un.rf⟩
      rw [if_pos m2]
      by_cases k1 : l = t
      · exact ⟨μ, by rw [if_pos (by rw [k1])], Un.rf⟩
      rw [if_neg (by rw [neq (by omega) (by omega)]; exact k1), rm_isPlace, rm_isPlace]
      by_cases k2 : -32000 ≤ d.toInt ∧ d.toInt ≤ 32000
      rotate_left 1
      · exact ⟨μ, by rw [decide_eq_false k2]; rfl, Un.rf⟩
      by_cases k2' : -32000 ≤ f.toInt ∧ f.toInt ≤ 32000
      rotate_left 1
      · exact ⟨μ, by rw [decide_eq_true k2, decide_eq_false k2']; rfl, Un.rf⟩
      rw [decide_eq_true k2, decide_eq_true k2', if_pos rfl, if_pos rfl, p3]
      by_cases k6 : pc l = 6
      · exact ⟨μ, by rw [if_pos (by rw [k6]; rfl)], Un.rf⟩
      rw [if_neg (by rw [show (6 : Int32) = nI 6 from rfl, neq (by omega) (by omega)]; exact k6)]
      rcases part_M70 (a2 := nI t) (a3 := d) (a4 := f) (c := mj_Mo_part_125 (nI l) (nI t) d f) h32 T I.1.2.2.1 hl FU 0 (by omega) (by unfold FU; omega) with ⟨-, q⟩ | ⟨hn, q⟩
      · exact ⟨μ, q, Un.rf⟩
      · rw [show lp_Mo_part_70 (nI l) (nI t) d f (mj_Mo_part_125 (nI l) (nI t) d f) FU 0 μ = _ from q]
        obtain ⟨ν', w1, w2⟩ := depth_M h32 T ht
        unfold mj_Mo_part_125
        rw [w1]
        refine ⟨ν', ?_, w2.1⟩
        simp only [Option.bind_some, ap]
        rw [if_neg]
        rw [show (3 : Int32) = nI 3 from rfl, nle (by omega) (by omega)]
        intro k5
        exact hok ⟨k1, ⟨k2, k2'⟩, ⟨m2, by omega⟩, hip.mpr hn, by omega, by omega⟩
    obtain ⟨ν, hM1, hM2⟩ := hM
    exact ⟨-1, μ, ν, hC, hM1, inv_360 I hM2, MZ_fr (by decide) hM2 Z⟩
