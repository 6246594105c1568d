/-- what a tree walk needs of parts and depths -/
def TR (μ : Mem) (n : Nat) (pc : Nat → Nat) (tg : Nat → Nat → Nat) (dp : Nat → Nat) : Prop := ∀ l, l < n → pc l ≤ 6 ∧ gI μ 352 0 l = nI (pc l) ∧ 0 ≤ dp l ∧ dp l ≤ 4 ∧ (∀ k, k < pc l → tg l k < n ∧ gI μ 353 0 (6 * l + k) = nI (tg l k) ∧ dp (tg l k) + 1 ≤ dp l) ∧ (pc l = 0 → dp l = 0) ∧ (0 < pc l → ∃ k, k < pc l ∧ dp l = dp (tg l k) + 1)
theorem tr_of {μ : Mem} {n : Nat} (I : InvN n μ) : ∃ pc tg dp, TR μ n pc tg dp ∧ (∀ l, l < n → PS μ n l (pc l) (tg l)) ∧ ∀ l, l < n → gI μ 4 l 7 = nI (dp l) := by
  obtain ⟨dp, hD⟩ := I.2.2.2.1
  have h1 : ∃ pc : Nat → Nat, ∀ l, l < n → ∃ tg, PS μ n l (pc l) tg := by
    refine ⟨fun l => if h : l < n then Classical.choose (I.2.2.1 l h) else 0, fun l hl => ?_⟩
    simp only [hl, dif_pos]
    exact Classical.choose_spec (I.2.2.1 l hl)
  obtain ⟨pc, h1⟩ := h1
  have h2 : ∃ tg : Nat → Nat → Nat, ∀ l, l < n → PS μ n l (pc l) (tg l) := by
    refine ⟨fun l => if h : l < n then Classical.choose (h1 l h) else fun _ => 0, fun l hl => ?_⟩
    simp only [hl, dif_pos]
    exact Classical.choose_spec (h1 l hl)
  obtain ⟨tg, h2⟩ := h2
  refine ⟨pc, tg, dp, fun l hl => ?_, h2, fun l hl => (hD l hl).2.2.1⟩
  obtain ⟨p1, p2, p3, p4, p5⟩ := h2 l hl
  obtain ⟨d1, d2, d3, d4, d5, d6, d7⟩ := hD l hl
  have pi : (gI μ 4 l 5).toInt = pc l := by rw [p2, nI_toInt (by omega)]
  refine ⟨p1, p3, Nat.zero_le _, d2, fun k hk => ?_, fun w => d5 (by rw [pi, w]; rfl), fun w => ?_⟩
  · obtain ⟨q1, q2, q3, q4, _⟩ := p5 k hk
    exact ⟨q1, q4, (d4 k (tg l k) (by omega) q3).2.2⟩
  · obtain ⟨k, t, w1, w2, w3⟩ := d6 (by omega)
    have hk : k < pc l := by omega
    obtain ⟨q1, q2, q3, _⟩ := p5 k hk
    rw [q3] at w2
    exact ⟨k, hk, by rw [w3, Option.some.inj w2]⟩
def cd : Nat → Nat
  | 0 => 1
  | d + 1 => 1 + 6 * (1 + cd d)
theorem cd_mono {a b : Nat} (h : a ≤ b) : cd a ≤ cd b := by
  induction b with
  | zero => rw [show a = 0 by omega]; exact Nat.le_refl _
  | succ b ih =>
    by_cases q : a = b + 1
    · rw [q]; exact Nat.le_refl _
    · have := ih (by omega)
      show cd a ≤ 1 + 6 * (1 + cd b)
      omega
/-- the stack's cells below a level stay, and so does all but the stack -/
def SK (y : Nat) (μ ν : Mem) : Prop := Un [360, 361] μ ν ∧ ∀ j, j < y → gI ν 360 0 j = gI μ 360 0 j ∧ gI ν 361 0 j = gI μ 361 0 j
theorem sk_refl {y : Nat} {μ : Mem} : SK y μ μ := ⟨Un.rf, fun _ _ => ⟨rfl, rfl⟩⟩
theorem sk_tr {y z : Nat} {μ ν ξ : Mem} (hz : y ≤ z) (h : SK y μ ν) (g : SK z ν ξ) : SK y μ ξ := ⟨h.1.tr g.1, fun j hj => ⟨(g.2 j (by omega)).1.trans (h.2 j hj).1, (g.2 j (by omega)).2.trans (h.2 j hj).2⟩⟩
theorem sk_sI {y k j : Nat} {μ ν : Mem} {v : Int32} (h : SK y μ ν) (hk : k = 360 ∨ k = 361) (hj : y ≤ j) : SK y μ (sI ν k 0 j v) := by
  refine ⟨h.1.tr ?_, fun i hi => ?_⟩
  · rcases hk with rfl | rfl
    · exact ⟨fun k h3 hk => ⟨by funext a b; rw [gI_sI, if_neg]; rintro ⟨rfl, _⟩; simp at hk, rfl, rfl⟩, fun k j h3 hk l => ⟨by rw [gI_sI, if_neg]; rintro ⟨rfl, _⟩; omega, rfl, rfl⟩, fun _ _ => rfl⟩
    · exact ⟨fun k h3 hk => ⟨by funext a b; rw [gI_sI, if_neg]; rintro ⟨rfl, _⟩; simp at hk, rfl, rfl⟩, fun k j h3 hk l => ⟨by rw [gI_sI, if_neg]; rintro ⟨rfl, _⟩; omega, rfl, rfl⟩, fun _ _ => rfl⟩
  · simp (disch := omega) only [gI_ne2]; exact h.2 i hi
theorem tr_un {μ ν : Mem} {n : Nat} {pc : Nat → Nat} {tg : Nat → Nat → Nat} {dp : Nat → Nat} (T : TR μ n pc tg dp) (u : Un [360, 361] μ ν) : TR ν n pc tg dp := by
  have q1 := (eqA u 352 (by decide) (by decide)).1
  have q2 := (eqA u 353 (by decide) (by decide)).1
  have q3 := fun l => (eqF u 4 7 (by decide) (by decide) l).1
  unfold TR at T ⊢
  simp only [q1, q2, q3]
  exact T
theorem dep_in {n : Nat} {pc : Nat → Nat} {tg : Nat → Nat → Nat} {dp : Nat → Nat} {a : Int32} (h32 : n ≤ 32) (d : Nat)
    (ih : ∀ l y B ν, l < n → dp l < d → y + dp l ≤ 4 → TR ν n pc tg dp → gI ν 360 0 y = nI l → gI ν 361 0 y = 0 → B ≤ 4 → y ≤ B → ∃ c ν', c ≤ cd (dp l) ∧ SK y ν ν' ∧ ∀ f, lp_Mo_depth_18 a (f + c) (nI B) (nI y) ν = lp_Mo_depth_18 a f (nI (max B (y + dp l))) (nI y + -1) ν')
    : ∀ r l y B i ν, l < n → dp l ≤ d → y + dp l ≤ 4 → TR ν n pc tg dp → gI ν 360 0 y = nI l → gI ν 361 0 y = nI i → i + r = pc l → B ≤ 4 → y ≤ B → ∃ c ν' B', c ≤ 1 + r * (1 + cd (d - 1)) ∧ SK y ν ν' ∧ B ≤ B' ∧ B' ≤ max B (y + dp l) ∧ (∀ k, i ≤ k → k < pc l → dp l = dp (tg l k) + 1 → y + dp l ≤ B') ∧ ∀ f, lp_Mo_depth_18 a (f + c) (nI B) (nI y) ν = lp_Mo_depth_18 a f (nI B') (nI y + -1) ν' := by
  intro r
  induction r with
  | zero =>
    intro l y B i ν hl hd hy T g1 g2 hi hB hyB
    obtain ⟨t1, t2, t3, t4, t5, t6, t7⟩ := T l hl
    refine ⟨1, ν, B, by omega, sk_refl, Nat.le_refl _, by omega, fun k h1 h2 => by omega, fun f => ?_⟩
    have z : ¬ nI y < 0 := lt_lit (by rw [nI_toInt (by omega)]; show (0 : Int) ≤ _; omega)
    have hi' : i = pc l := by omega
    subst hi'
    simp (disch := omega) only [lp_Mo_depth_18, z, if_false, gu_nI, nI_clamp, g1, g2, t2, if_true, ap]
  | succ r ihr =>
    intro l y B i ν hl hd hy T g1 g2 hi hB hyB
    obtain ⟨t1, t2, t3, t4, t5, t6, t7⟩ := T l hl
    obtain ⟨s1, s2, s3⟩ := t5 i (by omega)
    have z : ¬ nI y < 0 := lt_lit (by rw [nI_toInt (by omega)]; show (0 : Int) ≤ _; omega)
    have ne : ¬ i = pc l := by omega
    have n1 : ∀ k, nI k + 1 = nI (k + 1) := fun k => nI_add k 1
    have i6 : (6 : Int32) * nI l + nI i = nI (6 * l + i) := by rw [show (6 : Int32) = nI 6 from rfl, pk_mul, nI_add]
    generalize hν : sI (sI (sI ν 361 0 y (nI (i + 1))) 360 0 (y + 1) (nI (tg l i))) 361 0 (y + 1) 0 = ν1
    have st : ∀ f, lp_Mo_depth_18 a (f + 1) (nI B) (nI y) ν = lp_Mo_depth_18 a f (nI (max B (y + 1))) (nI (y + 1)) ν1 := by
      intro f
      simp (disch := omega) only [lp_Mo_depth_18, mj_Mo_depth_106, z, if_false, gu_nI, nI_clamp, g1, g2, t2, neq, ne, i6, s2, ap, n1, nle]
      rw [hν]
      by_cases w : y + 1 ≤ B
      · rw [if_pos w, show max B (y + 1) = B by omega]
      · rw [if_neg w, show max B (y + 1) = y + 1 by omega]
    have sk1 : SK y ν ν1 := by
      rw [← hν]
      exact sk_sI (sk_sI (sk_sI sk_refl (by omega) (by omega)) (by omega) (by omega)) (by omega) (by omega)
    obtain ⟨c1, ν2, k1, k2, k3⟩ := ih (tg l i) (y + 1) (max B (y + 1)) ν1 s1 (by omega) (by omega) (tr_un T sk1.1) (by rw [← hν]; simp (disch := omega) only [gI_ne, gI_self]) (by rw [← hν]; simp (disch := omega) only [gI_self]) (by omega) (by omega)
    have sk2 : SK y ν ν2 := sk_tr (by omega) sk1 k2
    have m1 : nI (y + 1) + -1 = nI y := pk_m1 y
    obtain ⟨c2, ν3, B', j1, j2, j3, j4, j5, j6⟩ := ihr l y (max (max B (y + 1)) (y + 1 + dp (tg l i))) (i + 1) ν2 hl hd hy (tr_un T sk2.1)
      (by rw [(k2.2 y (by omega)).1, ← hν]; simp (disch := omega) only [gI_ne, gI_ne2]; exact g1)
      (by rw [(k2.2 y (by omega)).2, ← hν]; simp (disch := omega) only [gI_ne, gI_ne2, gI_self]) (by omega) (by omega) (by omega)
    refine ⟨c2 + c1 + 1, ν3, B', ?_, sk_tr (Nat.le_refl y) sk2 j2, by omega, by omega, fun k h1 h2 h3 => ?_, fun f => ?_⟩
    · have := cd_mono (show dp (tg l i) ≤ d - 1 by omega)
      have e : (r + 1) * (1 + cd (d - 1)) = r * (1 + cd (d - 1)) + (1 + cd (d - 1)) := Nat.succ_mul ..
      omega
    · by_cases w : k = i
      · subst w; omega
      · exact j5 k (by omega) h2 h3
    · rw [show f + (c2 + c1 + 1) = (f + c2 + c1) + 1 by omega, st, k3, m1, j6]
theorem dep_all {n : Nat} {pc : Nat → Nat} {tg : Nat → Nat → Nat} {dp : Nat → Nat} {a : Int32} (h32 : n ≤ 32) : ∀ d l y B ν, l < n → dp l < d → y + dp l ≤ 4 → TR ν n pc tg dp → gI ν 360 0 y = nI l → gI ν 361 0 y = 0 → B ≤ 4 → y ≤ B → ∃ c ν', c ≤ cd (dp l) ∧ SK y ν ν' ∧ ∀ f, lp_Mo_depth_18 a (f + c) (nI B) (nI y) ν = lp_Mo_depth_18 a f (nI (max B (y + dp l))) (nI y + -1) ν' := by
  intro d
  induction d with
  | zero => intro l y B ν _ h; omega
  | succ d ih =>
    intro l y B ν hl hd hy T g1 g2 hB hyB
    obtain ⟨t1, t2, t3, t4, t5, t6, t7⟩ := T l hl
    obtain ⟨c, ν', B', h1, h2, h3, h4, h5, h6⟩ := dep_in (a := a) h32 (dp l) (fun l' y' B'' ν'' a1 a2 a3 a4 a5 a6 a7 a8 => ih l' y' B'' ν'' a1 (by omega) a3 a4 a5 a6 a7 a8) (pc l) l y B 0 ν hl (Nat.le_refl _) hy T g1 g2 (by omega) hB hyB
    refine ⟨c, ν', ?_, h2, fun f => ?_⟩
    · by_cases q : pc l = 0
      · rw [q] at h1
        have : cd 0 ≤ cd (dp l) := cd_mono (by omega)
        have : cd 0 = 1 := rfl
        omega
      · obtain ⟨k, k1, k2⟩ := t7 (by omega)
        obtain ⟨e, he⟩ : ∃ e, dp l = e + 1 := ⟨dp (tg l k), k2⟩
        rw [he] at h1 ⊢
        have : pc l * (1 + cd e) ≤ 6 * (1 + cd e) := Nat.mul_le_mul_right _ t1
        simp only [Nat.add_sub_cancel] at h1
        show c ≤ 1 + 6 * (1 + cd e)
        omega
    · rw [h6 f]
      have : B' = max B (y + dp l) := by
        by_cases q : pc l = 0
        · have := t6 q
          omega
        · obtain ⟨k, k1, k2⟩ := t7 (by omega)
          have := h5 k (by omega) k1 k2
          omega
      rw [this]
/-- the reference's depth is the one that the class keeps -/
theorem depth_M {μ : Mem} {n l : Nat} {pc : Nat → Nat} {tg : Nat → Nat → Nat} {dp : Nat → Nat} (h32 : n ≤ 32) (T : TR μ n pc tg dp) (hl : l < n) : ∃ ν, m_Mo_depth (nI l) μ = some (nI (dp l), ν) ∧ SK 0 μ ν := by
  obtain ⟨t1, t2, t3, t4, t5, t6, t7⟩ := T l hl
  have ga : ∀ x : Option (Int32 × Mem), gu (0 : Int32) 8 x = x := fun x => gu_nI (l := 0) (by omega) (by omega)
  have c0 : (0 : Int32).toNatClampNeg = 0 := rfl
  have sk0 : SK 0 μ (sI (sI μ 360 0 0 (nI l)) 361 0 0 0) := sk_sI (sk_sI sk_refl (by omega) (by omega)) (by omega) (by omega)
  obtain ⟨c, ν', h1, h2, h3⟩ := dep_all (a := nI l) h32 (dp l + 1) l 0 0 (sI (sI μ 360 0 0 (nI l)) 361 0 0 0) hl (by omega) (by omega) (tr_un T sk0.1) (by simp (disch := omega) only [gI_ne, gI_self]) (by simp (disch := omega) only [gI_self]) (by omega) (by omega)
  refine ⟨ν', ?_, sk_tr (Nat.le_refl 0) sk0 h2⟩
  have hc := cd_mono t4
  have c4 : cd 4 = 3109 := rfl
  obtain ⟨F, hF⟩ : ∃ F, FU = F + 1 + c := ⟨FU - c - 1, by unfold FU; omega⟩
  have := h3 (F + 1)
  unfold m_Mo_depth
  rw [hF]
  simp only [ga, c0, ap]
  have t0 : lp_Mo_depth_18 (nI l) (F + 1 + c) 0 0 (sI (sI μ 360 0 0 (nI l)) 361 0 0 0) = lp_Mo_depth_18 (nI l) (F + 1 + c) (nI 0) (nI 0) (sI (sI μ 360 0 0 (nI l)) 361 0 0 0) := by rw [nI_0]
  rw [t0, this]
  simp only [lp_Mo_depth_18]
  rw [if_pos (by decide), show max 0 (0 + dp l) = dp l by omega]
theorem inv_360 {μ ν : Mem} {n : Nat} (I : InvN n μ) (u : Un [360, 361] μ ν) : InvN n ν := inv_all I (by decide) u
theorem op_info {μ : Mem} {n : Nat} (I : InvN n μ) (a b : Int32) : ∃ r ν, m_Fo_info a b μ = some r ∧ m_Mo_info a b μ = some (r, ν) ∧ InvN n ν := by
  have h32 := I.1.1
  rcases lcase I.1 a with ⟨a1, a2⟩ | ⟨x, hx, rfl, a1, a2⟩
  · exact ⟨-2, μ, by simp only [m_Fo_info, a1, oc_n], by simp only [m_Mo_info, a2 μ rfl]; rfl, I⟩
  obtain ⟨c, p, e, hSF, hPT, hLC⟩ := I.2.1 x hx
  obtain ⟨h1, h2, h3, h4, h5, h6, h7, h8, h9, h10, h11, h12, h13, h14⟩ := id hSF
  obtain ⟨pc, tg, dp, T, hPS, hdp⟩ := tr_of I
  obtain ⟨i1, i2, _⟩ := I.1.2.2.2.2.1 x hx
  obtain ⟨t1, t2, _⟩ := T x hx
  have t3 := hdp x hx
  obtain ⟨p1, p2, p3, _⟩ := hPS x hx
  obtain ⟨c', hc', c1, c2, c3⟩ := I.2.2.2.2.1 x hx
  obtain ⟨ν, d1, d2⟩ := depth_M h32 T hx
  unfold m_Fo_info m_Mo_info
  rw [a1, a2 μ rfl, oc_s, if_pos rfl]
  by_cases q0 : b = 0
  · rw [if_pos q0, if_pos q0]; exact ⟨_, _, rfl, by simp (disch := omega) only [gu_nI, nI_clamp, i1], I⟩
  rw [if_neg q0, if_neg q0]
  by_cases q1 : b = 1
  · rw [if_pos q1, if_pos q1]; exact ⟨_, _, rfl, by simp (disch := omega) only [gu_nI, nI_clamp, i2], I⟩
  rw [if_neg q1, if_neg q1]
  by_cases q2 : b = 2
  · rw [if_pos q2, if_pos q2]; exact ⟨_, _, rfl, by simp (disch := omega) only [gu_nI, nI_clamp, h4, h3], I⟩
  rw [if_neg q2, if_neg q2]
  by_cases q3 : b = 3
  · rw [if_pos q3, if_pos q3, clC hSF, clM' (by omega) hSF]; exact ⟨_, _, rfl, rfl, I⟩
  rw [if_neg q3, if_neg q3]
  by_cases q4 : b = 4
  · rw [if_pos q4, if_pos q4]; exact ⟨_, _, rfl, by simp (disch := omega) only [gu_nI, nI_clamp, p2, p3], I⟩
  rw [if_neg q4, if_neg q4]
  by_cases q5 : b = 5
  · rw [if_pos q5, if_pos q5, d1, t3]; exact ⟨_, _, rfl, rfl, inv_360 I d2.1⟩
  rw [if_neg q5, if_neg q5]
  by_cases q6 : b = 6
  · rw [if_pos q6, if_pos q6, clM' (by omega) hSF]
    simp (disch := omega) only [gu_nI, nI_clamp, h5, h8, Option.bind_some, m_Sh_openPoints, clC hSF, h7]
    rcases h6 with w | w
    · rw [if_pos w, if_pos w]; exact ⟨_, _, rfl, rfl, I⟩
    · have w' : ¬ gI μ 10 x 7 = 0 := by rw [w]; decide
      rw [if_neg w', if_neg w']; exact ⟨_, _, rfl, rfl, I⟩
  rw [if_neg q6, if_neg q6]
  by_cases q7 : b = 7
  · rw [if_pos q7, if_pos q7]; exact ⟨_, _, rfl, by simp (disch := omega) only [gu_nI, nI_clamp, c1, c2], I⟩
  rw [if_neg q7, if_neg q7]; exact ⟨_, _, rfl, rfl, I⟩
