/-- how a walk ends -/
def EW (a1 t : Int32) (y : Nat) (ξ ξ' : Mem) (fl : Int32) (N : Nat) : Prop := (fl = 1 ∧ ∀ cc f, lp_Mo_flattens_36 a1 t cc (f + N) (nI y) ξ = lp_Mo_flattens_36 a1 t cc f (nI y - 1) ξ') ∨ (fl = 0 ∧ ∀ cc f, lp_Mo_flattens_36 a1 t cc (f + N + 1) (nI y) ξ = cc ξ')
theorem fl01 {i : Nat} {ν ξ : Mem} {m w st g : Nat} {fl : Int32} {b : Nat → Nat} (R : FR i ν ξ m w st g fl b) : fl = 0 ∨ fl = 1 := by
  rcases R.1.2.2.2.1 with q | q
  · exact Or.inl q
  · exact Or.inr q.1
theorem parts_both {μ : Mem} {n i l y D : Nat} {t a1 : Int32} {pc : Nat → Nat} {tg : Nat → Nat → Nat} {dp : Nat → Nat} {pq : Nat → Nat} (h32 : n ≤ 32) (T : TR μ n pc tg dp) (hPS : ∀ l, l < n → PS μ n l (pc l) (tg l)) (hl : l < n) (hD : dp l = D + 1) (hy : y + dp l ≤ 4)
    (child : ∀ l' pq ν ξ m w g b, l' < n → dp l' ≤ D → (y + 1) + dp l' ≤ 4 → PA μ pq (y + 1) ν ξ → ST μ i t ν ξ → gI ξ 360 0 (y + 1) = nI l' → gI ξ 361 0 (y + 1) = 0 → FR i ν ξ m w m g 1 b → ∃ ν' ξ' m' w' g' fl' b' N, (∀ f, m_Fl_addLetter (f + dp l' + 1) l' (nI (y + 1)) i ν = some ν') ∧ FR i ν' ξ' m' w' m' g' fl' b' ∧ TC i (y + 1) ν ν' ∧ TM (y + 1) ξ ξ' ∧ N ≤ cd D ∧ EW a1 t (y + 1) ξ ξ' fl' N) :
    ∀ r k ν ξ m w g fl b, k + r = pc l → PA μ pq y ν ξ → ST μ i t ν ξ → gI ξ 360 0 y = nI l → gI ξ 361 0 y = nI k → FR i ν ξ m w m g fl b → ∃ ν' ξ' m' w' g' fl' b' N, (∀ f F gf, lp_Fl_addLetter_49 gf (m_Fl_addLetter (f + dp l)) l (nI y) i (F + r + 1) (nI k) ν = some ν') ∧ FR i ν' ξ' m' w' m' g' fl' b' ∧ TC i y ν ν' ∧ TM y ξ ξ' ∧ N ≤ 1 + r * (1 + cd D) ∧ EW a1 t y ξ ξ' fl' N := by
  have z1 : ¬ (1 : Int32) = 0 := by decide
  obtain ⟨p1, p2, p3, p4, p5⟩ := hPS l hl
  obtain ⟨t1, t2, t3, t4, t5, t6, t7⟩ := T l hl
  intro r
  induction r with
  | zero =>
    intro k ν ξ m w g fl b hk P S h360 h361 R
    have tr : TC i y ν ν := ⟨fun _ _ _ _ _ _ => rfl, fun _ _ _ _ => rfl, fun _ _ _ _ => rfl⟩
    have mr : TM y ξ ξ := fun _ _ _ _ _ _ _ => rfl
    have k5 : gI ν 4 l 5 = nI (pc l) := by rw [S.1 4 l 5 (by omega) (by omega) (by omega)]; exact p2
    have k352 : gI ξ 352 0 l = nI (pc l) := by rw [S.2.2.2 352 (by decide)]; exact p3
    have hC : ∀ f F gf, lp_Fl_addLetter_49 gf (m_Fl_addLetter (f + dp l)) l (nI y) i (F + 0 + 1) (nI k) ν = some ν := fun f F gf => by
      rw [lp_Fl_addLetter_49, k5, if_pos (by rw [nle (by omega) (by omega)]; omega)]
    rcases fl01 R with rfl | rfl
    · exact ⟨ν, ξ, m, w, g, 0, b, 0, hC, R, tr, mr, by omega, Or.inr ⟨rfl, fun cc f => stop36 R.2.2.1.2⟩⟩
    · refine ⟨ν, ξ, m, w, g, 1, b, 1, hC, R, tr, mr, by omega, Or.inl ⟨rfl, fun cc f => ?_⟩⟩
      have hpc : 0 < pc l := by
        rcases Nat.eq_zero_or_pos (pc l) with q | q
        · have := t6 q; omega
        · exact q
      have n2 : nI y + -1 = nI y - 1 := by grind
      rw [lp_Mo_flattens_36, if_neg (by rw [show (0 : Int32) = nI 0 from rfl, nlt (by omega) (by omega)]; omega), R.2.2.1.2, if_neg z1, gu_nI (by omega) (by omega), nI_clamp (by omega), h360, ap, gu_nI (by omega) (by omega), nI_clamp (by omega), k352, if_neg (by rw [show (0 : Int32) = nI 0 from rfl, neq (by omega) (by omega)]; omega)]
      unfold mj_Mo_flattens_103
      rw [gu_nI (by omega) (by omega), gu_nI (by omega) (by omega), nI_clamp (by omega), nI_clamp (by omega), h361, k352, if_pos (by rw [show k = pc l by omega]), n2, ap]
  | succ r ih =>
    intro k ν ξ m w g fl b hk P S h360 h361 R
    have tr : TC i y ν ν := ⟨fun _ _ _ _ _ _ => rfl, fun _ _ _ _ => rfl, fun _ _ _ _ => rfl⟩
    have mr : TM y ξ ξ := fun _ _ _ _ _ _ _ => rfl
    have k5 : gI ν 4 l 5 = nI (pc l) := by rw [S.1 4 l 5 (by omega) (by omega) (by omega)]; exact p2
    have k352 : gI ξ 352 0 l = nI (pc l) := by rw [S.2.2.2 352 (by decide)]; exact p3
    have q1 : ¬ nI (pc l) ≤ nI k := by rw [nle (by omega) (by omega)]; omega
    rcases fl01 R with rfl | rfl
    · refine ⟨ν, ξ, m, w, g, 0, b, 0, fun f F gf => ?_, R, tr, mr, by omega, Or.inr ⟨rfl, fun cc f => stop36 R.2.2.1.2⟩⟩
      rw [show F + (r + 1) + 1 = F + r + 1 + 1 from rfl, lp_Fl_addLetter_49, k5, if_neg q1, R.2.2.1.1, if_pos rfl]
    · obtain ⟨s1, s2, s3, s4, s5, s6, s7, s8, ⟨s9, s10, s11, s12⟩, s13, s14, s15, s16⟩ := p5 k (by omega)
      obtain ⟨u1, u2, u3⟩ := t5 k (by omega)
      have n1 : nI k + 1 = nI (k + 1) := nI_add k 1
      have n2 : nI y + 1 = nI (y + 1) := nI_add y 1
      have n6 : (6 : Int32) * nI l + nI k = nI (6 * l + k) := ix6 l k
      obtain ⟨ν0, hν0⟩ : ∃ ν0, ν0 = sR ν 124 0 y (some (6 * l + k)) := ⟨_, rfl⟩
      obtain ⟨ξ0, hξ0⟩ : ∃ ξ0, ξ0 = sI (sI (sI ξ 361 0 y (nI (k + 1))) 360 0 (y + 1) (nI (tg l k))) 361 0 (y + 1) 0 := ⟨_, rfl⟩
      have C0 : TC i y ν ν0 := ⟨fun _ _ _ _ _ _ => by rw [hν0]; rfl, fun _ _ _ _ => by rw [hν0]; rfl, fun k' l' b' q => by rw [hν0, gR_sR, if_neg (by omega)]⟩
      have M0 : TM y ξ ξ0 := fun k' l' b' q1 q2 q3 q4 => by rw [hξ0, gI_sI, if_neg (by omega), gI_sI, if_neg (by omega), gI_sI, if_neg (by omega)]
      have S0 := st_keep S C0 M0
      have R0 : FR i ν0 ξ0 m w m g 1 b := fr_congr (by rw [hν0]; rfl) (fun k' l' b' q => by rw [hξ0, gI_sI, if_neg (by omega), gI_sI, if_neg (by omega), gI_sI, if_neg (by omega)]) R
      have m353 : ∀ x, gI ξ 353 0 x = gI μ 353 0 x := fun x => by rw [S.2.2.2 353 (by decide)]
      have P0 : PA μ (fun j => if j = y then 6 * l + k else pq j) (y + 1) ν0 ξ0 := by
        have hold := pa_keep P C0 M0
        refine ⟨by omega, fun j hj => ?_, fun j hj => ?_, fun j hj => ?_⟩
        · by_cases w' : j = y
          · subst w'; rw [hν0, gR_sR, if_pos ⟨rfl, rfl, rfl⟩]; simp
          · simp only [if_neg w']; exact hold.2.1 j (by omega)
        · by_cases w' : j = y
          · subst w'
            simp only [if_true]
            have e360 : gI ξ0 360 0 j = nI l := by rw [hξ0, gI_ne (by omega), gI_ne2 (by omega), gI_ne (by omega)]; exact h360
            have e361 : gI ξ0 361 0 j = nI (k + 1) := by rw [hξ0, gI_ne2 (by omega), gI_ne (by omega), gI_self]
            have st354 : ∀ x, gI ξ0 354 0 x = gI μ 354 0 x := fun x => by rw [S0.2.2.2 354 (by decide)]
            have st355 : ∀ x, gI ξ0 355 0 x = gI μ 355 0 x := fun x => by rw [S0.2.2.2 355 (by decide)]
            have st356 : ∀ x, gI ξ0 356 0 x = gI μ 356 0 x := fun x => by rw [S0.2.2.2 356 (by decide)]
            have n7 : (6 : Int32) * nI l + nI (k + 1) = nI (6 * l + k + 1) := ix6 l (k + 1)
            rw [e360, e361, n7, nsub1 (by omega), st354, st354, st354, st354, st355, st356]
            exact ⟨by omega, rfl, s9, s10, s11, s12, s5, s6⟩
          · simp only [if_neg w']; exact hold.2.2.1 j (by omega)
        · by_cases w' : j = y
          · subst w'; simp only [if_true]; exact ⟨s7, s8, s13, s14, s15, s16⟩
          · simp only [if_neg w']; exact P.2.2.2 j (by omega)
      obtain ⟨ν1, ξ1, m1, w1, g1, fl1, b1, N1, c1, c2, c3, c4, c5, c6⟩ := child (tg l k) (fun j => if j = y then 6 * l + k else pq j) ν0 ξ0 m w g b u1 (by omega) (by omega) P0 S0 (by rw [hξ0, gI_ne (by omega), gI_self]) (by rw [hξ0, gI_self]) R0
      have C1 : TC i y ν ν1 := tc_tr C0 (tc_mono c3)
      have M1 : TM y ξ ξ1 := tm_tr M0 (tm_mono c4)
      have eC : ∀ f F gf, lp_Fl_addLetter_49 gf (m_Fl_addLetter (f + dp l)) l (nI y) i (F + (r + 1) + 1) (nI k) ν = lp_Fl_addLetter_49 gf (m_Fl_addLetter (f + dp l)) l (nI y) i (F + r + 1) (nI (k + 1)) ν1 := fun f F gf => by
        have hs : m_Fl_addLetter (f + dp l) (tg l k) (nI (y + 1)) i ν0 = some ν1 := by
          rw [show f + dp l = (f + (dp l - dp (tg l k) - 1)) + dp (tg l k) + 1 by omega]; exact c1 _
        rw [show F + (r + 1) + 1 = F + r + 1 + 1 from rfl, lp_Fl_addLetter_49, k5, if_neg q1, R.2.2.1.1, if_neg z1, gu_nI (by omega) (by omega), nI_clamp (by omega), ap, S.2.1 184 l k (by omega), s2, oc_some, gu_nI (by omega) (by omega), nI_clamp (by omega), ap, ← hν0, ap, show gR ν0 6 (6 * l + k) 0 = some (tg l k) by rw [S0.2.1 6 _ 0 (by omega)]; exact s3, Option.bind_some, n2, hs, Option.bind_some]
        unfold mj_Fl_addLetter_100
        rw [ap, n1]
      have eM : ∀ cc f, lp_Mo_flattens_36 a1 t cc (f + 1) (nI y) ξ = lp_Mo_flattens_36 a1 t cc f (nI (y + 1)) ξ0 := fun cc f => by
        rw [lp_Mo_flattens_36, if_neg (by rw [show (0 : Int32) = nI 0 from rfl, nlt (by omega) (by omega)]; omega), R.2.2.1.2, if_neg z1, gu_nI (by omega) (by omega), nI_clamp (by omega), h360, ap, gu_nI (by omega) (by omega), nI_clamp (by omega), k352, if_neg (by rw [show (0 : Int32) = nI 0 from rfl, neq (by omega) (by omega)]; omega)]
        unfold mj_Mo_flattens_103
        rw [gu_nI (by omega) (by omega), gu_nI (by omega) (by omega), nI_clamp (by omega), nI_clamp (by omega), h361, k352, if_neg (by rw [neq (by omega) (by omega)]; omega), gu_nI (by omega) (by omega), n6, gu_nI (by omega) (by omega), nI_clamp (by omega), ap, m353, s4, gu_nI (by omega) (by omega), gu_nI (by omega) (by omega), ap, n2, ap, gu_nI (by omega) (by omega), ap, gu_nI (by omega) (by omega), ap, nI_clamp (by omega), n1, ← hξ0]
      have e361 : gI ξ1 361 0 y = nI (k + 1) := by rw [c4 361 0 y (by omega) (by omega) (by omega) (by omega), hξ0, gI_ne2 (by omega), gI_ne (by omega), gI_self]
      have e360 : gI ξ1 360 0 y = nI l := by rw [c4 360 0 y (by omega) (by omega) (by omega) (by omega), hξ0, gI_ne (by omega), gI_ne2 (by omega), gI_ne (by omega)]; exact h360
      obtain ⟨ν2, ξ2, m2, w2, g2, fl2, b2, N2, d1, d2, d3, d4, d5, d6⟩ := ih (k + 1) ν1 ξ1 m1 w1 g1 fl1 b1 (by omega) (pa_keep P C1 M1) (st_keep S C1 M1) e360 e361 c2
      have nn : (r + 1) * (1 + cd D) = r * (1 + cd D) + (1 + cd D) := by rw [Nat.add_mul, Nat.one_mul]
      rcases c6 with ⟨rfl, x1⟩ | ⟨rfl, x1⟩
      · have y1 : nI (y + 1) - 1 = nI y := pk_sub (b := 1) (by omega)
        refine ⟨ν2, ξ2, m2, w2, g2, fl2, b2, 1 + N1 + N2, fun f F gf => by rw [eC]; exact d1 f F gf, d2, tc_tr C1 d3, tm_tr M1 d4, by omega, ?_⟩
        rcases d6 with ⟨e1, e2⟩ | ⟨e1, e2⟩
        · exact Or.inl ⟨e1, fun cc f => by rw [show f + (1 + N1 + N2) = f + N2 + N1 + 1 by omega, eM, x1, y1, e2]⟩
        · exact Or.inr ⟨e1, fun cc f => by rw [show f + (1 + N1 + N2) + 1 = f + N2 + 1 + N1 + 1 by omega, eM, x1, y1, e2]⟩
      · -- it didn't fit below
        refine ⟨ν1, ξ1, m1, w1, g1, 0, b1, 1 + N1, fun f F gf => ?_, c2, C1, M1, by omega, Or.inr ⟨rfl, fun cc f => by rw [show f + (1 + N1) + 1 = f + N1 + 1 + 1 by omega, eM, x1]⟩⟩
        have k5' : gI ν1 4 l 5 = nI (pc l) := by rw [C1.1 4 l 5 (by omega) (by omega) (by omega)]; exact k5
        rw [eC, lp_Fl_addLetter_49, k5']
        by_cases w' : nI (pc l) ≤ nI (k + 1)
        · rw [if_pos w']
        · rw [if_neg w', c2.2.2.1.1, if_pos rfl]
