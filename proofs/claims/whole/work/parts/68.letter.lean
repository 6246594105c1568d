/-- the model's rows behind the last letter are blank -/
def MZ (n : Nat) (μ : Mem) : Prop := ∀ l, n ≤ l → gI μ 343 0 l = 0 ∧ gI μ 344 0 l = 0 ∧ gI μ 345 0 l = 0 ∧ gI μ 352 0 l = 0 ∧ gI μ 357 0 l = 0 ∧ gI μ 399 0 l = 0 ∧ gI μ 400 0 l = 0
theorem MZ_fr {S : List Nat} {μ ν : Mem} {n : Nat} (hS : ∀ k ∈ [343, 344, 345, 352, 357, 399, 400], k ∉ S) (u : Un S μ ν) (h : MZ n μ) : MZ n ν := by
  have q0 := (eqA u 343 (by decide) (hS _ (by simp))).1
  have q1 := (eqA u 344 (by decide) (hS _ (by simp))).1
  have q2 := (eqA u 345 (by decide) (hS _ (by simp))).1
  have q3 := (eqA u 352 (by decide) (hS _ (by simp))).1
  have q4 := (eqA u 357 (by decide) (hS _ (by simp))).1
  have q5 := (eqA u 399 (by decide) (hS _ (by simp))).1
  have q6 := (eqA u 400 (by decide) (hS _ (by simp))).1
  unfold MZ at h ⊢
  simp only [q0, q1, q2, q3, q4, q5, q6]
  exact h
theorem let_M {ν : Mem} {n : Nat} {a b : Int32} {c : Int32 → Mem → Option (Int32 × Mem)} (h32 : n ≤ 32) (hn : gI ν 12 0 0 = nI n) : ∀ (f k : Nat) (y3 : Int32), (y3 = 0 ∨ y3 = 1) → k ≤ n → n - k < f → ∃ y, lp_Mo_letter_5 a b c f y3 (nI k) ν = c y ν ∧ (y = 0 ∨ y = 1) ∧ (y = 0 ↔ y3 = 0 ∧ ∀ l, k ≤ l → l < n → gI ν 341 0 l ≠ a) := by
  intro f
  induction f with
  | zero => intro k y3 _ h1 h2; omega
  | succ f ih =>
    intro k y3 hy h1 h2
    by_cases h : k = n
    · subst h
      exact ⟨y3, by simp (disch := omega) only [lp_Mo_letter_5, hn, nle, Nat.le_refl, if_true], hy, fun q => ⟨q, fun l _ _ => by omega⟩, fun q => q.1⟩
    · have q1 : ¬ n ≤ k := by omega
      have n1 : nI k + 1 = nI (k + 1) := nI_add k 1
      have z1 : ¬ (1 : Int32) = 0 := by decide
      rcases hy with rfl | rfl
      · by_cases g : gI ν 341 0 k = a
        · obtain ⟨y, e1, e2, e3⟩ := ih (k + 1) 1 (Or.inr rfl) (by omega) (by omega)
          refine ⟨y, ?_, e2, fun q => (z1 (e3.mp q).1).elim, fun q => (q.2 k (by omega) (by omega) g).elim⟩
          rw [← e1]
          simp (disch := omega) only [lp_Mo_letter_5, hn, nle, q1, if_false, if_true, gu_nI, nI_clamp, g, mj_Mo_letter_29, mj_Mo_letter_34, ap, n1]
        · obtain ⟨y, e1, e2, e3⟩ := ih (k + 1) 0 (Or.inl rfl) (by omega) (by omega)
          refine ⟨y, ?_, e2, ?_⟩
          · rw [← e1]
            simp (disch := omega) only [lp_Mo_letter_5, hn, nle, q1, if_false, if_true, gu_nI, nI_clamp, g, mj_Mo_letter_34, ap, n1]
          · rw [e3]
            refine ⟨fun q => ⟨rfl, fun l w1 w2 => ?_⟩, fun q => ⟨rfl, fun l w1 w2 => q.2 l (by omega) w2⟩⟩
            by_cases w : l = k
            · subst w; exact g
            · exact q.2 l (by omega) w2
      · obtain ⟨y, e1, e2, e3⟩ := ih (k + 1) 1 (Or.inr rfl) (by omega) (by omega)
        refine ⟨y, ?_, e2, fun q => (z1 (e3.mp q).1).elim, fun q => (z1 q.1).elim⟩
        rw [← e1]
        simp (disch := omega) only [lp_Mo_letter_5, hn, nle, q1, if_false, z1, mj_Mo_letter_29, mj_Mo_letter_34, ap, n1]
/-- the cells of a letter that is new -/
def NC (n k l : Nat) : Prop := (l = n ∧ (k = 4 ∨ k = 8 ∨ k = 10 ∨ k = 184 ∨ k = 260 ∨ k = 261 ∨ k = 300 ∨ k = 301 ∨ k = 302 ∨ k = 303 ∨ k = 304 ∨ k = 305)) ∨ ((k = 703 ∨ k = 704) ∧ 3 * n ≤ l ∧ l < 3 * n + 3)
theorem gfr_pos {α : Type} {μ : Mem} {k l : Nat} {x : Option α} (h : gF μ k l = false) : gfr μ k l x = x := if_pos h
theorem gfm_pos {α : Type} {μ : Mem} {k l z n : Nat} {x : Option α} (h : gF μ k l = false) (h2 : ∀ i, i < n → gF μ z (n * l + i) = false) : gfm μ k l z n x = x := if_pos ⟨h, h2⟩
theorem init_cells {μ : Mem} {n : Nat} {a b : Int32} (hF : LF n μ) : ∃ ν, m_Le_init n a b (nw μ 4 n) = some ν ∧ (∀ k l, ¬ NC n k l → gF ν k l = gF μ k l ∧ ∀ j, gI ν k l j = gI μ k l j ∧ gR ν k l j = gR μ k l j) ∧
    (gI ν 4 n 0 = a ∧ gI ν 4 n 1 = b ∧ ∀ j, 2 ≤ j → gI ν 4 n j = 0) ∧ (∀ j, gI ν 10 n j = 0) ∧ ∀ j, gI ν 8 n j = 0 := by
  obtain ⟨f1, f2, f3, f4, f5, f6, f7, f8, f9, f10, f11, f12, f13, f14⟩ := hF.1 n (Nat.le_refl n)
  refine ⟨?w, ?h1, ?h2⟩
  case h1 =>
    simp only [m_Le_init, m_Sh_init, m_Pr_init, ap]
    rw [gfr_pos (by simp [gF_nw, gF_sR, gF_nwm, f2]), gfr_pos (by simp [gF_nw, gF_sR, gF_nwm, f5]), gfr_pos (by simp [gF_nw, gF_sR, gF_nwm, f6]), gfr_pos (by simp [gF_nw, gF_sR, gF_nwm, f7]),
      gfm_pos (by simp [gF_nw, gF_sR, gF_nwm, f8]) (fun i hi => by simp [gF_nw, gF_sR, gF_nwm, f13 i hi]), gfm_pos (by simp [gF_nw, gF_sR, gF_nwm, f9]) (fun i hi => by simp [gF_nw, gF_sR, gF_nwm, f13 i hi]),
      gfr_pos (by simp [gF_nw, gF_sR, gF_nwm, f10])]
    simp only [Option.bind_some]
    rw [gfr_pos (by simp [gF_nw, gF_sR, gF_nwm, f3]), gfr_pos (by simp [gF_nw, gF_sR, gF_nwm, f11]), gfr_pos (by simp [gF_nw, gF_sR, gF_nwm, f12])]
    simp only [Option.bind_some]
    rw [gfr_pos (by simp [gF_nw, gF_sR, gF_nwm, f4])]
  case h2 =>
    refine ⟨fun k l hn => ⟨?_, fun j => ⟨?_, ?_⟩⟩, ⟨?_, ?_, fun j hj => ?_⟩, fun j => ?_, fun j => ?_⟩
    · unfold NC at hn
      simp only [gF_sI, gF_sR, gF_nw, gF_nwm]
      repeat rw [if_neg (by omega)]
    · unfold NC at hn
      simp only [gI_sI, gI_sR, gI_nw, gI_nwm]
      repeat rw [if_neg (by omega)]
    · unfold NC at hn
      simp only [gR_sI, gR_sR, gR_nw, gR_nwm]
      repeat rw [if_neg (by omega)]
    · simp [gI_sI, gI_sR, gI_nw, gI_nwm]
    · simp [gI_sI, gI_sR, gI_nw, gI_nwm]
    · have e1 : ¬ j = 0 := by omega
      have e2 : ¬ j = 1 := by omega
      simp [gI_sI, gI_sR, gI_nw, gI_nwm, e1, e2]
    · simp [gI_sI, gI_sR, gI_nw, gI_nwm]
    · simp [gI_sI, gI_sR, gI_nw, gI_nwm]
theorem letter_inv {μ ν : Mem} {n : Nat} {a b : Int32} (I : InvN n μ) (Z : MZ n μ) (hn : n < 32) (ha : 0 ≤ a.toInt ∧ a.toInt ≤ 65535) (hb : 0 ≤ b.toInt ∧ b.toInt ≤ 32000) (hno : ∀ l, l < n → gI μ 4 l 0 ≠ a)
    (R1 : ∀ k, k ∉ [4, 8, 10, 11, 12, 184, 260, 261, 300, 301, 302, 303, 304, 305, 703, 704, 341, 342] → gI ν k = gI μ k) (R2 : ∀ k, k ∉ [4, 8, 10, 184, 260, 261, 300, 301, 302, 303, 304, 305, 703, 704, 320] → gR ν k = gR μ k)
    (R3 : ∀ k l, ¬ NC n k l → k ≠ 11 → k ≠ 12 → k ≠ 341 → k ≠ 342 → ∀ j, gI ν k l j = gI μ k l j) (R4 : ∀ k l, ¬ NC n k l → k ≠ 320 → ∀ j, gR ν k l j = gR μ k l j) (R5 : ∀ j, j ≠ 0 → gI ν 12 0 j = gI μ 12 0 j)
    (R6 : ∀ k l, ¬ NC n k l → gF ν k l = gF μ k l) (h4 : gI ν 4 n 0 = a ∧ gI ν 4 n 1 = b ∧ ∀ j, 2 ≤ j → gI ν 4 n j = 0) (h10 : ∀ j, gI ν 10 n j = 0) (h8 : ∀ j, gI ν 8 n j = 0)
    (c11 : gI ν 11 0 1 = nI (n + 1)) (c12 : gI ν 12 0 0 = nI (n + 1)) (c320 : gR ν 320 0 n = some n ∧ ∀ l, l ≠ n → gR ν 320 0 l = gR μ 320 0 l) (c341 : gI ν 341 0 n = a ∧ ∀ l, l ≠ n → gI ν 341 0 l = gI μ 341 0 l) (c342 : gI ν 342 0 n = b ∧ ∀ l, l ≠ n → gI ν 342 0 l = gI μ 342 0 l) : InvN (n + 1) ν ∧ MZ (n + 1) ν := by
  obtain ⟨i0, i1, i2, i3, i4, i5, i6, i7, i8, i9, i10, i11, i12, i13, i14⟩ := I
  obtain ⟨z1, z2, z3, z4, z5, z6, z7⟩ := Z n (Nat.le_refl n)
  have e4 : ∀ l, l ≠ n → ∀ j, gI ν 4 l j = gI μ 4 l j := fun l hl => R3 4 l (by unfold NC; omega) (by decide) (by decide) (by decide) (by decide)
  have e8 : ∀ l, l ≠ n → ∀ j, gI ν 8 l j = gI μ 8 l j := fun l hl => R3 8 l (by unfold NC; omega) (by decide) (by decide) (by decide) (by decide)
  have e10 : ∀ l, l ≠ n → ∀ j, gI ν 10 l j = gI μ 10 l j := fun l hl => R3 10 l (by unfold NC; omega) (by decide) (by decide) (by decide) (by decide)
  have e6 : gR ν 6 = gR μ 6 := R2 6 (by decide)
  refine ⟨⟨?_, ?_, ?_, ?_, ?_, ?_, ?_, ?_, ?_, ?_, ?_, ?_, ?_, ?_, ?_⟩, ?_⟩
  · obtain ⟨h32, a1, a2, a3, a4, a5⟩ := i0
    refine ⟨by omega, c11, c12, fun l => ?_, fun l hl => ?_, fun i j hi hj q => ?_⟩
    · by_cases w : l = n
      · subst w; rw [c320.1, if_pos (by omega)]
      · rw [c320.2 l w, a3]
        by_cases w2 : l < n
        · rw [if_pos w2, if_pos (by omega)]
        · rw [if_neg w2, if_neg (by omega)]
    · by_cases w : l = n
      · subst w; rw [c341.1, c342.1, h4.1, h4.2.1]; exact ⟨rfl, rfl, ha, hb⟩
      · rw [c341.2 l w, c342.2 l w, e4 l w, e4 l w]; exact a4 l (by omega)
    · by_cases w : i = n
      · by_cases w2 : j = n
        · omega
        · subst w; rw [h4.1, e4 j w2] at q; exact (hno j (by omega) q.symm).elim
      · by_cases w2 : j = n
        · subst w2; rw [h4.1, e4 i w] at q; exact (hno i (by omega) q).elim
        · rw [e4 i w, e4 j w2] at q; exact a5 i j (by omega) (by omega) q
  · intro l hl
    by_cases w : l = n
    · subst w
      refine ⟨0, 0, fun _ => 0, ⟨by omega, by omega, ?_, ?_, ?_, ?_, ?_, ?_, rfl, fun o ho => by omega, Nat.le_refl 0, fun _ => rfl, fun q => ?_, fun o ho => by omega⟩, fun k hk => by omega, fun o ho => by omega⟩
      · rw [h10]; rfl
      · rw [R1 343 (by decide), z1]; rfl
      · rw [R1 344 (by decide), z2, h10]
      · rw [h10]; exact Or.inl rfl
      · rw [h10]; rfl
      · rw [R1 345 (by decide), z3]; rfl
      · omega
    · refine LSh_ag (μ := μ) (fun k a' b' hk ho => ?_) (i1 l (by omega))
      refine R3 k a' ?_ (by omega) (by omega) (by omega) (by omega) b'
      unfold NC
      rcases hk with rfl | rfl | rfl | rfl | rfl | rfl | rfl | hk
      · simp [own] at ho; omega
      · simp [own] at ho; omega
      · simp [own] at ho; omega
      · simp [own] at ho; omega
      · simp [own] at ho; omega
      · simp [own] at ho; omega
      · simp [own] at ho; omega
      · omega
  · intro l hl
    by_cases w : l = n
    · subst w
      exact ⟨0, fun _ => 0, by omega, by rw [h4.2.2 5 (by omega)]; rfl, by rw [R1 352 (by decide), z4]; rfl, fun q => by omega, fun k hk => by omega⟩
    · obtain ⟨pc, tg, q1, q2, q3, q4, q5⟩ := i2 l (by omega)
      refine ⟨pc, tg, q1, by rw [e4 l w]; exact q2, by rw [R1 352 (by decide)]; exact q3, by rw [e10 l w, e10 l w]; exact q4, fun k hk => ?_⟩
      obtain ⟨s1, s2⟩ := q5 k hk
      rw [R4 184 l (by unfold NC; omega) (by decide), R2 6 (by decide), R1 353 (by decide), R1 354 (by decide), R1 355 (by decide), R1 356 (by decide), R1 6 (by decide)]
      exact ⟨by omega, s2⟩
  · obtain ⟨dp, hd⟩ := i3
    refine ⟨fun l => if l = n then 0 else dp l, fun l hl => ?_⟩
    by_cases w : l = n
    · subst w
      have o5 : (gI ν 4 l 5).toInt = 0 := by rw [h4.2.2 5 (by omega)]; rfl
      refine ⟨Or.inl (h4.2.2 6 (by omega)), by simp, by rw [h4.2.2 7 (by omega)]; simp; rfl, fun k t q _ => by omega, fun _ => by simp, fun q => by omega, fun q => ?_⟩
      rw [h4.2.2 6 (by omega)] at q; cases q
    · obtain ⟨d1, d2, d3, d4, d5, d6, d7⟩ := hd l (by omega)
      rw [e4 l w, e4 l w, e4 l w, e6]
      simp only [if_neg w]
      refine ⟨d1, d2, d3, fun k t q1 q2 => ?_, d5, fun q => ?_, fun q => ?_⟩
      · obtain ⟨t1, t2, t3⟩ := d4 k t q1 q2
        have wt : t ≠ n := by omega
        rw [e4 t wt, if_neg wt]
        exact ⟨by omega, t2, t3⟩
      · obtain ⟨k, t, t1, t2, t3⟩ := d6 q
        have wt : t ≠ n := by have := (d4 k t t1 t2).1; omega
        exact ⟨k, t, t1, t2, by rw [if_neg wt]; exact t3⟩
      · obtain ⟨a', k, t1, t2, t3⟩ := d7 q
        exact ⟨a', k, by omega, by rw [e4 a' (by omega)]; exact t2, t3⟩
  · intro l hl
    by_cases w : l = n
    · subst w
      exact ⟨0, by omega, by rw [h8]; rfl, by rw [R1 357 (by decide), z5]; rfl, fun k hk => by omega⟩
    · obtain ⟨c, q1, q2, q3, q4⟩ := i4 l (by omega)
      refine ⟨c, q1, by rw [e8 l w]; exact q2, by rw [R1 357 (by decide)]; exact q3, fun k hk => ?_⟩
      rw [R1 358 (by decide), R1 359 (by decide), R3 260 l (by unfold NC; omega) (by decide) (by decide) (by decide) (by decide), R3 261 l (by unfold NC; omega) (by decide) (by decide) (by decide) (by decide)]
      exact q4 k hk
  · intro l hl
    unfold LK
    by_cases w : l = n
    · subst w
      rw [R1 399 (by decide), R1 400 (by decide), z6, z7, h4.2.2 8 (by omega), h4.2.2 9 (by omega)]
      exact ⟨rfl, rfl, by unfold bI; decide, by unfold bI; decide⟩
    · rw [R1 399 (by decide), R1 400 (by decide), e4 l w, e4 l w]
      exact i5 l (by omega)
  · unfold KR at i6 ⊢
    rw [R1 401 (by decide), R1 402 (by decide), R1 403 (by decide), R1 560 (by decide), R1 561 (by decide)]; exact i6
  · unfold WT at i7 ⊢
    rw [R1 398 (by decide), R1 329 (by decide)]; exact i7
  · unfold RU at i8 ⊢
    rw [R1 5 (by decide), R5 64 (by decide), R1 405 (by decide), R1 600 (by decide), R1 201 (by decide)]; exact i8
  · unfold SG at i9 ⊢
    rw [R1 5 (by decide), R5 66 (by decide), R1 407 (by decide), R1 203 (by decide)]; exact i9
  · unfold PL at i10 ⊢
    rw [R1 5 (by decide), R5 68 (by decide), R1 409 (by decide), R1 410 (by decide), R1 411 (by decide), R1 205 (by decide), R1 206 (by decide), R1 207 (by decide)]
    obtain ⟨s, s0, s1, s2, s3, s4, s5⟩ := i10
    refine ⟨s, s0, s1, s2, fun k hk => ?_, s4, fun k l ql q1 q2 => ?_⟩
    · obtain ⟨t1, t2, t3, l, t4, t5⟩ := s3 k hk
      exact ⟨t1, t2, t3, l, by omega, t5⟩
    · obtain ⟨t1, t2, t3, l', t4, t5⟩ := s3 k (by omega)
      have : l ≠ n := by
        rintro rfl
        have := nI_inj (by omega) (by omega) (q2.symm.trans t5)
        omega
      rw [e4 l this]; exact s5 k l (by omega) q1 q2
  · unfold PO PG at i11 ⊢
    rw [R2 11 (by decide), R1 7 (by decide), R5 27 (by decide), R1 368 (by decide), R1 369 (by decide), R1 370 (by decide), R1 240 (by decide), R1 241 (by decide), R1 242 (by decide), R1 243 (by decide)]; exact i11
  · unfold IM at i12 ⊢
    rw [R1 379 (by decide), R1 140 (by decide), R1 141 (by decide), R1 2 (by decide)]; exact i12
  · unfold FI at i13 ⊢
    rw [R2 11 (by decide), R1 0 (by decide), R5 53 (by decide), R1 394 (by decide), R1 395 (by decide), R1 396 (by decide), R1 397 (by decide), R1 501 (by decide), R1 502 (by decide)]; exact i13
  · obtain ⟨f1, f2⟩ := i14
    refine ⟨fun l hl => ?_, fun l k hl hk q => ?_⟩
    · obtain ⟨g1, g2, g3, g4, g5, g6, g7, g8, g9, g10, g11, g12, g13, g14⟩ := f1 l (by omega)
      refine ⟨?_, ?_, ?_, ?_, ?_, ?_, ?_, ?_, ?_, ?_, ?_, ?_, fun k hk => ⟨?_, ?_⟩, fun k hk => ?_⟩ <;> (rw [R6 _ _ (by unfold NC; omega)]) <;> first | assumption | exact (g13 k hk).1 | exact (g13 k hk).2 | exact g14 k hk
    · rw [R6 _ _ (by unfold NC; omega)]
      by_cases w : l = n
      · subst w; exact (f1 l (by omega)).2.2.2.2.2.2.2.2.2.2.2.2.2 k hk
      · rw [e4 l w] at q; exact f2 l k (by omega) hk q
  · intro l hl
    rw [R1 343 (by decide), R1 344 (by decide), R1 345 (by decide), R1 352 (by decide), R1 357 (by decide), R1 399 (by decide), R1 400 (by decide)]
    exact Z l (by omega)
theorem op_letter {μ : Mem} {n : Nat} (I : InvN n μ) (Z : MZ n μ) (a b : Int32) : ∃ m r ν1 ν2, m_Fo_letter a b μ = some (r, ν1) ∧ m_Mo_letter a b ν1 = some (r, ν2) ∧ InvN m ν2 ∧ MZ m ν2 := by
  have h32 := I.1.1
  have a1 := I.1.2.1
  have a2 := I.1.2.2.1
  have a4 := I.1.2.2.2.2.1
  obtain ⟨r, r1, r2, r3⟩ := find_both I.1 a
  have hfi : m_Fo_find a μ = some r := by unfold m_Fo_find; rw [a1, r1]; rfl
  have y3 : (∀ l, l < n → gI μ 4 l 0 ≠ a) ↔ r = -1 := by
    rcases r3 with ⟨w, w2⟩ | ⟨l, w1, w2, w3⟩
    · exact ⟨fun _ => w, fun _ => w2⟩
    · refine ⟨fun q => (q l w1 w3).elim, fun q => ?_⟩
      rw [w2] at q
      have := t_eq.mp q
      rw [nI_toInt (by omega)] at this
      exact (by have h1 : (-1 : Int32).toInt = -1 := rfl; omega)
  have hm : ∀ x, m_Mo_isCode x μ = decide (0 ≤ x.toInt ∧ x.toInt ≤ 65535) := fun x => rg_two
  by_cases hok : (0 ≤ a.toInt ∧ a.toInt ≤ 65535) ∧ (0 ≤ b.toInt ∧ b.toInt ≤ 32000) ∧ n < 32 ∧ r = -1
  · obtain ⟨ha, hb, hn, hr⟩ := hok
    subst hr
    have hno := y3.mpr rfl
    obtain ⟨ν, e, hc, hn4, hn10, hn8⟩ := init_cells (a := a) (b := b) I.2.2.2.2.2.2.2.2.2.2.2.2.2.2
    have n1 : nI n + 1 = nI (n + 1) := nI_add n 1
    have n2 : nI (n + 1) - 1 = nI n := by rw [nsub1 (by omega)]; rfl
    have c11 : gI (sR ν 320 0 n (some n)) 11 0 1 = nI n := by rw [gI_sR, ((hc 11 0 (by unfold NC; omega)).2 1).1, a1]
    have e1 : m_Fo_letter a b μ = some (nI n, sI (sR ν 320 0 n (some n)) 11 0 1 (nI (n + 1))) := by
      unfold m_Fo_letter
      rw [rg_isCode, rg_Fo, decide_eq_true ha, decide_eq_true (show (0 : Int64).toInt ≤ b.toInt ∧ b.toInt ≤ (32000 : Int64).toInt from hb), a1, hfi]
      simp (disch := omega) only [if_true, Option.bind_some, show (32 : Int32) = nI 32 from rfl, nlt, hn, nI_clamp, gu_nI, ap]
      rw [gfr_pos (I.2.2.2.2.2.2.2.2.2.2.2.2.2.2.1 n (Nat.le_refl n)).1, e]
      simp only [Option.bind_some, c11, gI_self, n1, n2]
    generalize hν : sI (sR ν 320 0 n (some n)) 11 0 1 (nI (n + 1)) = ν1 at e1
    have k12 : ∀ j, gI ν1 12 0 j = gI μ 12 0 j := fun j => by rw [← hν]; simp (disch := omega) only [gI_ne, gI_sR]; exact ((hc 12 0 (by unfold NC; omega)).2 j).1
    have k341 : ∀ j, gI ν1 341 0 j = gI μ 341 0 j := fun j => by rw [← hν]; simp (disch := omega) only [gI_ne, gI_sR]; exact ((hc 341 0 (by unfold NC; omega)).2 j).1
    have k342 : ∀ j, gI ν1 342 0 j = gI μ 342 0 j := fun j => by rw [← hν]; simp (disch := omega) only [gI_ne, gI_sR]; exact ((hc 342 0 (by unfold NC; omega)).2 j).1
    obtain ⟨y, g1, g2, g3⟩ := let_M (ν := ν1) (a := a) (b := b) (c := mj_Mo_letter_41 a b) h32 (by rw [k12, a2]) FU 0 0 (Or.inl rfl) (by omega) (by unfold FU; omega)
    have y0 : y = 0 := g3.mpr ⟨rfl, fun l _ hl => by rw [k341, (a4 l hl).1]; exact hno l hl⟩
    subst y0
    have hm1 : m_Mo_isCode a ν1 = true := (rg_two (x := a) (a := 0) (b := 65535)).trans (decide_eq_true ha)
    have b1 : ¬ b < 0 := lt_lit (by simpa using hb.1)
    have b2 : ¬ (32000 : Int32) < b := fun q => by have := t_lt.mp q; rw [show (32000 : Int32).toInt = 32000 from rfl] at this; omega
    have b3 : ¬ n = 32 := by omega
    have e2 : m_Mo_letter a b ν1 = some (nI n, sI (sI (sI ν1 341 0 n a) 342 0 n b) 12 0 0 (nI (n + 1))) := by
      rw [show m_Mo_letter a b ν1 = _ from g1]
      unfold mj_Mo_letter_41
      rw [hm1]
      simp (disch := omega) only [if_true, b1, b2, if_false, k12, a2, show (32 : Int32) = nI 32 from rfl, neq, b3, gu_nI, nI_clamp, ap, gI_ne, gI_self, n1, n2]
    refine ⟨n + 1, nI n, ν1, _, e1, e2, ?_⟩
    have kI : ∀ k l, ¬ NC n k l → k ≠ 11 → ∀ j, gI ν1 k l j = gI μ k l j := fun k l h1 h2 j => by rw [← hν, gI_ne h2, gI_sR]; exact ((hc k l h1).2 j).1
    have kR : ∀ k l, ¬ NC n k l → k ≠ 320 → ∀ j, gR ν1 k l j = gR μ k l j := fun k l h1 h2 j => by rw [← hν, gR_sI, gR_sR, if_neg (fun q => h2 q.1)]; exact ((hc k l h1).2 j).2
    have nc : ∀ k l, k ∉ [4, 8, 10, 184, 260, 261, 300, 301, 302, 303, 304, 305, 703, 704] → ¬ NC n k l := fun k l h => by
      simp only [List.mem_cons, List.not_mem_nil, or_false, not_or] at h
      unfold NC; omega
    refine letter_inv I Z hn ha hb hno ?_ ?_ ?_ ?_ ?_ ?_ ?_ ?_ ?_ ?_ ?_ ?_ ?_ ?_
    · intro k hk
      have hk' := hk
      simp only [List.mem_cons, List.not_mem_nil, or_false, not_or] at hk'
      funext l j
      rw [gI_ne (by omega), gI_ne (by omega), gI_ne (by omega)]
      exact kI k l (by unfold NC; omega) (by omega) j
    · intro k hk
      have hk' := hk
      simp only [List.mem_cons, List.not_mem_nil, or_false, not_or] at hk'
      funext l j
      exact kR k l (by unfold NC; omega) (by omega) j
    · intro k l h1 h2 h3 h4 h5 j
      rw [gI_ne h3, gI_ne h5, gI_ne h4]
      exact kI k l h1 h2 j
    · exact kR
    · intro j hj
      rw [gI_ne2 hj, gI_ne (by omega), gI_ne (by omega)]
      exact k12 j
    · intro k l h1
      rw [← (hc k l h1).1, ← hν]; rfl
    · have w : ∀ j, gI ν1 4 n j = gI ν 4 n j := fun j => by rw [← hν, gI_ne (by omega), gI_sR]
      refine ⟨?_, ?_, fun j hj => ?_⟩
      · rw [gI_ne (by omega), gI_ne (by omega), gI_ne (by omega), w]; exact hn4.1
      · rw [gI_ne (by omega), gI_ne (by omega), gI_ne (by omega), w]; exact hn4.2.1
      · rw [gI_ne (by omega), gI_ne (by omega), gI_ne (by omega), w]; exact hn4.2.2 j hj
    · intro j; rw [gI_ne (by omega), gI_ne (by omega), gI_ne (by omega), ← hν, gI_ne (by omega), gI_sR]; exact hn10 j
    · intro j; rw [gI_ne (by omega), gI_ne (by omega), gI_ne (by omega), ← hν, gI_ne (by omega), gI_sR]; exact hn8 j
    · rw [gI_ne (by omega), gI_ne (by omega), gI_ne (by omega), ← hν, gI_self]
    · rw [gI_self]
    · refine ⟨?_, fun l hl => ?_⟩
      · rw [gR_sI, gR_sI, gR_sI, ← hν, gR_sI, gR_sR, if_pos ⟨rfl, rfl, rfl⟩]
      · rw [gR_sI, gR_sI, gR_sI, ← hν, gR_sI, gR_sR, if_neg (fun q => hl q.2.2)]; exact ((hc 320 0 (by unfold NC; omega)).2 l).2
    · refine ⟨?_, fun l hl => ?_⟩
      · rw [gI_ne (by omega), gI_ne (by omega), gI_self]
      · rw [gI_ne (by omega), gI_ne (by omega), gI_ne2 hl, k341]
    · refine ⟨?_, fun l hl => ?_⟩
      · rw [gI_ne (by omega), gI_self]
      · rw [gI_ne (by omega), gI_ne2 hl, gI_ne (by omega), k342]
  · refine ⟨n, -1, μ, μ, ?_, ?_, I, Z⟩
    · unfold m_Fo_letter
      rw [rg_isCode, rg_Fo, a1, hfi]
      by_cases c1 : 0 ≤ a.toInt ∧ a.toInt ≤ 65535
      · rw [decide_eq_true c1, if_pos rfl]
        by_cases c2 : 0 ≤ b.toInt ∧ b.toInt ≤ 32000
        · rw [decide_eq_true (show (0 : Int64).toInt ≤ b.toInt ∧ b.toInt ≤ (32000 : Int64).toInt from c2), if_pos rfl]
          by_cases c3 : n < 32
          · rw [if_pos (by rw [show (32 : Int32) = nI 32 from rfl, nlt (by omega) (by omega)]; exact c3)]
            simp only [Option.bind_some]
            rw [if_neg (fun q => hok ⟨c1, c2, c3, q⟩)]
          · rw [if_neg (by rw [show (32 : Int32) = nI 32 from rfl, nlt (by omega) (by omega)]; exact c3)]
        · rw [decide_eq_false (show ¬ ((0 : Int64).toInt ≤ b.toInt ∧ b.toInt ≤ (32000 : Int64).toInt) from c2)]; rfl
      · rw [decide_eq_false c1]; rfl
    · obtain ⟨y, g1, g2, g3⟩ := let_M (ν := μ) (a := a) (b := b) (c := mj_Mo_letter_41 a b) h32 a2 FU 0 0 (Or.inl rfl) (by omega) (by unfold FU; omega)
      rw [show m_Mo_letter a b μ = _ from g1]
      unfold mj_Mo_letter_41
      by_cases c4 : y = 0
      · rw [if_pos c4, hm]
        have hr := y3.mp (fun l hl => by rw [← (a4 l hl).1]; exact (g3.mp c4).2 l (by omega) hl)
        by_cases c1 : 0 ≤ a.toInt ∧ a.toInt ≤ 65535
        · rw [decide_eq_true c1, if_pos rfl]
          by_cases c2 : b < 0
          · rw [if_pos c2]
          · rw [if_neg c2]
            by_cases c3 : (32000 : Int32) < b
            · rw [if_pos c3]
            · rw [if_neg c3, a2, if_pos]
              have d2 : ¬ b.toInt < (0 : Int32).toInt := fun q => c2 (t_lt.mpr q)
              have d3 : ¬ (32000 : Int32).toInt < b.toInt := fun q => c3 (t_lt.mpr q)
              rw [show (0 : Int32).toInt = 0 from rfl] at d2
              rw [show (32000 : Int32).toInt = 32000 from rfl] at d3
              have : n = 32 := by
                by_cases w : n = 32
                · exact w
                · exact (hok ⟨c1, ⟨by omega, by omega⟩, by omega, hr⟩).elim
              rw [this]; rfl
        · rw [decide_eq_false c1]; rfl
      · rw [if_neg c4]
