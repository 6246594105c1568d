theorem fr_congr {i : Nat} {ν ξ ν' ξ' : Mem} {m w st g : Nat} {fl : Int32} {b : Nat → Nat} (h1 : gI ν' = gI ν) (h2 : ∀ k l b, ((364 ≤ k ∧ k ≤ 366) ∨ (k = 12 ∧ (b = 22 ∨ b = 23 ∨ b = 31 ∨ b = 32))) → gI ξ' k l b = gI ξ k l b) (R : FR i ν ξ m w st g fl b) : FR i ν' ξ' m w st g fl b := by
  unfold FR at R ⊢
  rw [h1, h2 12 0 22 (by omega), h2 12 0 23 (by omega), h2 12 0 31 (by omega), h2 12 0 32 (by omega)]
  obtain ⟨r1, r2, r3, r4, r5, r6, r7, r8⟩ := R
  refine ⟨r1, r2, r3, r4, r5, r6, fun k hk => ?_, r8⟩
  rw [h2 364 0 k (by omega), h2 365 0 k (by omega), h2 366 0 k (by omega)]
  exact r7 k hk
def XC (i h : Nat) (ν ν' : Mem) : Prop := (∀ k l b, ¬ (240 ≤ k ∧ k ≤ 243 ∧ l = i) → ¬ (k = 7 ∧ l = i) → gI ν' k l b = gI ν k l b) ∧ (∀ a l b, ¬ ((a = 120 ∨ a = 121) ∧ 4 * h + 4 ≤ b) → gL ν' a l b = gL ν a l b) ∧ gR ν' = gR ν ∧ gF ν' = gF ν
def XM (v : Nat) (ξ ξ' : Mem) : Prop := (∀ k l b, ¬ (364 ≤ k ∧ k ≤ 366) → ¬ (k = 12 ∧ (b = 22 ∨ b = 23 ∨ b = 31 ∨ b = 32 ∨ b = 37)) → ¬ (k = 376 ∧ v ≤ b) → gI ξ' k l b = gI ξ k l b) ∧ (∀ a l b, ¬ (a = 375 ∧ 8 * v ≤ b) → gL ξ' a l b = gL ξ a l b)
theorem xc_tr {i h : Nat} {ν ν' ν'' : Mem} (a : XC i h ν ν') (b : XC i h ν' ν'') : XC i h ν ν'' := ⟨fun k l c p q => (b.1 k l c p q).trans (a.1 k l c p q), fun x l c p => (b.2.1 x l c p).trans (a.2.1 x l c p), b.2.2.1.trans a.2.2.1, b.2.2.2.trans a.2.2.2⟩
theorem xm_tr {v : Nat} {ξ ξ' ξ'' : Mem} (a : XM v ξ ξ') (b : XM v ξ' ξ'') : XM v ξ ξ'' := ⟨fun k l c p q r => (b.1 k l c p q r).trans (a.1 k l c p q r), fun x l c p => (b.2 x l c p).trans (a.2 x l c p)⟩
theorem xc_mono {i h : Nat} {ν ν' : Mem} (a : XC i (h + 1) ν ν') : XC i h ν ν' := ⟨a.1, fun x l c p => a.2.1 x l c (by omega), a.2.2⟩
theorem xm_mono {v : Nat} {ξ ξ' : Mem} (a : XM (v + 1) ξ ξ') : XM v ξ ξ' := ⟨fun k l c p q r => a.1 k l c p q (by omega), fun x l c p => a.2 x l c (by omega)⟩
theorem xc_row {i h K : Nat} {ν ν' : Mem} (hK : K = 120 ∨ K = 121) (r : ROW K (4 * h + 4) ν ν') : XC i h ν ν' := ⟨fun k l b _ _ => by rw [r.1], fun a l b q => r.2.2.2 a l b (by omega), r.2.1, r.2.2.1⟩
theorem xc_fc {i h : Nat} {ν ν' : Mem} (f : FC i ν ν') : XC i h ν ν' := ⟨f.1, fun a l b _ => by rw [f.2.1], f.2.2.1, f.2.2.2⟩
theorem xm_fm {v : Nat} {ξ ξ' : Mem} (f : FM ξ ξ') : XM v ξ ξ' := ⟨fun k l b p q r => f.1 k l b p (by omega), fun a l b _ => by rw [f.2]⟩
theorem xm_mh {v d h : Nat} {ξ ξ' : Mem} (m : MH v d h ξ ξ') : XM v ξ ξ' := ⟨fun k l b p q r => m.1 k l b (by omega) (by omega), fun a l b p => m.2.2.2.2.1 a l b (by omega)⟩
/-- what a piece needs, and what it leaves -/
def PIN (i d : Nat) (t : Int32) (h v : Nat) (ν ξ : Mem) (m w st g : Nat) (b : Nat → Nat) : Prop := FR i ν ξ m w st g 1 b ∧ gI ξ 12 0 38 = nI st ∧ gI ν 1 0 6 = nI d ∧ gL ν 1 0 5 = t.toInt64 * 1073741824 ∧ CP ν ξ d h v ∧ gI ξ 12 0 37 = nI (v + 1) ∧ gI ξ 376 0 v = nI h ∧ v ≤ h
theorem leaf_both {i d h v m w st g : Nat} {t a1 a2 : Int32} {ν ξ : Mem} {b : Nat → Nat} (hd : d = 2 ∨ d = 3) (hh : h ≤ 10) (P : PIN i d t h v ν ξ m w st g b) :
    ∃ ν' ξ' m' fl', (∀ gf sf a9, mj_Fl_addPiece_26 gf sf a9 i (nI (4 * h)) ν = some ν') ∧ (∀ c, mj_Mo_curve_156 a1 a2 (nI (d + 1)) t c (un d) (nI (8 * v)) ξ = c (un d) ξ') ∧ FR i ν' ξ' m' (w + 1) st g fl' b ∧ XC i h ν ν' ∧ XM v ξ ξ' ∧ gI ξ' 12 0 37 = nI v := by
  obtain ⟨R, h38, h6, h5, C, h37, h376, hvh⟩ := P
  have d3 : d ≤ 3 := by omega
  have R0 : FR i ν (sI ξ 12 0 37 (nI v)) m w st g 1 b := fr_congr rfl (fun k l b' q => by rw [gI_sI, if_neg (by omega)]) R
  have sgd : sg d = 1 ∨ sg d = 1024 := by unfold sg; split; exact Or.inr rfl; exact Or.inl rfl
  have uU : (1073741824 : Int64).toInt = sg d * (un d).toInt := by rcases hd with rfl | rfl <;> decide
  have uV : (un d).toInt = 1048576 ∨ (un d).toInt = 1073741824 := by rcases hd with rfl | rfl; exact Or.inl (by decide); exact Or.inr (by decide)
  have rx : rnd (gL ν 120 0 (4 * h + d)) 1073741824 = rnd (gL ξ 375 0 (8 * v + 2 * d)) (un d) := rnd_sc (C 0 d (by omega) (Nat.le_refl d)) sgd uU uV (by decide)
  have ry : rnd (gL ν 121 0 (4 * h + d)) 1073741824 = rnd (gL ξ 375 0 (8 * v + 2 * d + 1)) (un d) := rnd_sc (C 1 d (by omega) (Nat.le_refl d)) sgd uU uV (by decide)
  obtain ⟨ν', ξ', m', fl', e1, e2, e3, e4, e5⟩ := adds_both R0 (by rw [gI_ne2 (by omega)]; exact h38) (rnd (gL ξ 375 0 (8 * v + 2 * d)) (un d)) (rnd (gL ξ 375 0 (8 * v + 2 * d + 1)) (un d))
  refine ⟨ν', ξ', m', fl', ?_, ?_, e3, xc_fc e4, ?_, ?_⟩
  · intro gf sf a9
    have n1 : nI (4 * h) + nI d = nI (4 * h + d) := nI_add _ _
    unfold mj_Fl_addPiece_26
    rw [h6, n1, gu_nI (by omega) (by omega), nI_clamp (by omega), (rd_both (by decide) (by decide)).1, Option.bind_some, gu_nI (by omega) (by omega), (rd_both (by decide) (by decide)).1, Option.bind_some, rx, ry, e1]
    rfl
  · intro c
    have n1 : (2 : Int32) * nI (d + 1) = nI (2 * (d + 1)) := by rw [show (2 : Int32) = nI 2 from rfl, pk_mul]
    have n2 : nI (8 * v) + nI (2 * (d + 1)) = nI (8 * v + 2 * d + 2) := nI_add _ _
    have n3 : nI (8 * v + 2 * d + 2) - 2 = nI (8 * v + 2 * d) := pk_sub (b := 2) (by omega)
    have n4 : nI (8 * v + 2 * d + 2) - 1 = nI (8 * v + 2 * d + 1) := pk_sub (b := 1) (by omega)
    have n5 : nI (v + 1) - 1 = nI v := pk_sub (b := 1) (by omega)
    have uz : (un d).toInt ≠ 0 := by omega
    unfold mj_Mo_curve_156
    rw [h37, n5, ap, n1, n2, n3, n4, gu_nI (by omega) (by omega), nI_clamp (by omega), nI_clamp (by omega), gL_sI, gL_sI, (rd_both uz (by omega)).2, Option.bind_some, gu_nI (by omega) (by omega), (rd_both uz (by omega)).2, Option.bind_some, e2, Option.bind_some]
  · exact xm_tr (ξ' := sI ξ 12 0 37 (nI v)) ⟨fun k l b' p q r => by rw [gI_sI, if_neg (by omega)], fun _ _ _ _ => rfl⟩ (xm_fm e5)
  · rw [e5.1 12 0 37 (by omega) (by omega), gI_self]
theorem stop91 {a1 a2 a3 a4 : Int32} {u : Int64} {ξ : Mem} {f : Nat} (h : gI ξ 12 0 32 = 0) : lp_Mo_curve_91 a1 a2 a3 a4 (f + 1) u ξ = some ξ := by
  rw [lp_Mo_curve_91]
  by_cases q : gI ξ 12 0 37 ≤ 0
  · rw [if_pos q]
  · rw [if_neg q, if_pos h]
theorem piece_both {i d : Nat} {t a1 a2 : Int32} (hd : d = 2 ∨ d = 3) (ht : 1 ≤ t.toInt ∧ t.toInt ≤ 256) : ∀ k h v ν ξ m w st g b, h + k = 10 → PIN i d t h v ν ξ m w st g b →
    ∃ ν' ξ' m' w' fl' N, (∀ f, m_Fl_addPiece (f + k + 1) (nI h) i ν = some ν') ∧ FR i ν' ξ' m' w' st g fl' b ∧ XC i h ν ν' ∧ XM v ξ ξ' ∧ N < 2 ^ (k + 1) ∧ ((fl' = 1 ∧ gI ξ' 12 0 37 = nI v ∧ ∀ f, lp_Mo_curve_91 a1 a2 (nI (d + 1)) t (f + N) (un d) ξ = lp_Mo_curve_91 a1 a2 (nI (d + 1)) t f (un d) ξ') ∨ (fl' = 0 ∧ ∀ f, lp_Mo_curve_91 a1 a2 (nI (d + 1)) t (f + N + 1) (un d) ξ = some ξ')) := by
  have z1 : ¬ (1 : Int32) = 0 := by decide
  have fl01 : ∀ {i : Nat} {ν ξ : Mem} {m w st g : Nat} {fl : Int32} {b : Nat → Nat}, FR i ν ξ m w st g fl b → fl = 0 ∨ fl = 1 := fun R => by
    rcases R.1.2.2.2.1 with q | q
    · exact Or.inl q
    · exact Or.inr q.1
  have headC : ∀ h i ν f, h ≤ 10 → gI ν 7 i 5 = 1 → m_Fl_addPiece (f + 1) (nI h) i ν = if 10 ≤ h then mj_Fl_addPiece_26 f (m_Fl_addPiece f) (nI h) i (nI (4 * h)) ν else Option.bind (m_Fl_isFlat (nI (4 * h)) ν) fun r7 => if r7 then mj_Fl_addPiece_26 f (m_Fl_addPiece f) (nI h) i (nI (4 * h)) ν else Option.bind (m_Fl_firstHalf 120 0 44 0 (nI (4 * h)) ν) fun r8 => Option.bind (m_Fl_firstHalf 121 0 44 0 (nI (4 * h)) r8) fun r9 => Option.bind (m_Fl_addPiece f (nI (h + 1)) i r9) fun r10 => Option.bind (m_Fl_secondHalf 120 0 44 0 (nI (4 * h)) r10) fun r11 => Option.bind (m_Fl_secondHalf 121 0 44 0 (nI (4 * h)) r11) fun r12 => Option.bind (m_Fl_addPiece f (nI (h + 1)) i r12) fun r13 => some r13 := fun h i ν f hh q => by
    have m4 : nI h * 4 = nI (4 * h) := by rw [show (4 : Int32) = nI 4 from rfl, pk_mul, Nat.mul_comm]
    have n1 : nI h + 1 = nI (h + 1) := nI_add h 1
    rw [m_Fl_addPiece, ap, q, if_neg z1, m4, ap, n1]
    by_cases w : 10 ≤ h
    · rw [if_pos w, if_pos (by rw [show (10 : Int32) = nI 10 from rfl, nle (by omega) (by omega)]; exact w)]
    · rw [if_neg w, if_neg (by rw [show (10 : Int32) = nI 10 from rfl, nle (by omega) (by omega)]; exact w)]
  have headM : ∀ h v ξ f, h ≤ 10 → v ≤ h → gI ξ 12 0 32 = 1 → gI ξ 12 0 37 = nI (v + 1) → gI ξ 376 0 v = nI h → lp_Mo_curve_91 a1 a2 (nI (d + 1)) t (f + 1) (un d) ξ = if 10 ≤ h then mj_Mo_curve_156 a1 a2 (nI (d + 1)) t (lp_Mo_curve_91 a1 a2 (nI (d + 1)) t f) (un d) (nI (8 * v)) ξ else Option.bind (m_Mo_isFlat (nI (8 * v)) (nI (d + 1)) (t.toInt64 * un d) ξ) fun r38 => if r38 then mj_Mo_curve_156 a1 a2 (nI (d + 1)) t (lp_Mo_curve_91 a1 a2 (nI (d + 1)) t f) (un d) (nI (8 * v)) ξ else Option.bind (m_Mo_halves (nI (d + 1)) ξ) fun r39 => lp_Mo_curve_91 a1 a2 (nI (d + 1)) t f (un d) r39 := fun h v ξ f hh hv q1 q2 q3 => by
    have n5 : nI (v + 1) - 1 = nI v := pk_sub (b := 1) (by omega)
    have m8 : (8 : Int32) * nI v = nI (8 * v) := by rw [show (8 : Int32) = nI 8 from rfl, pk_mul]
    rw [lp_Mo_curve_91, q2, if_neg (by rw [show (0 : Int32) = nI 0 from rfl, nle (by omega) (by omega)]; omega), q1, if_neg z1, n5, m8, ap, gu_nI (by omega) (by omega), nI_clamp (by omega), q3]
    by_cases w : 10 ≤ h
    · rw [if_pos w, if_pos (by rw [show (10 : Int32) = nI 10 from rfl, nle (by omega) (by omega)]; exact w)]
    · rw [if_neg w, if_neg (by rw [show (10 : Int32) = nI 10 from rfl, nle (by omega) (by omega)]; exact w)]
  have leaf : ∀ k h v ν ξ m w st g b, h ≤ 10 → PIN i d t h v ν ξ m w st g b → (∀ f, m_Fl_addPiece (f + k + 1) (nI h) i ν = mj_Fl_addPiece_26 (f + k) (m_Fl_addPiece (f + k)) (nI h) i (nI (4 * h)) ν) → (∀ f, lp_Mo_curve_91 a1 a2 (nI (d + 1)) t (f + 1) (un d) ξ = mj_Mo_curve_156 a1 a2 (nI (d + 1)) t (lp_Mo_curve_91 a1 a2 (nI (d + 1)) t f) (un d) (nI (8 * v)) ξ) →
      ∃ ν' ξ' m' w' fl' N, (∀ f, m_Fl_addPiece (f + k + 1) (nI h) i ν = some ν') ∧ FR i ν' ξ' m' w' st g fl' b ∧ XC i h ν ν' ∧ XM v ξ ξ' ∧ N < 2 ^ (k + 1) ∧ ((fl' = 1 ∧ gI ξ' 12 0 37 = nI v ∧ ∀ f, lp_Mo_curve_91 a1 a2 (nI (d + 1)) t (f + N) (un d) ξ = lp_Mo_curve_91 a1 a2 (nI (d + 1)) t f (un d) ξ') ∨ (fl' = 0 ∧ ∀ f, lp_Mo_curve_91 a1 a2 (nI (d + 1)) t (f + N + 1) (un d) ξ = some ξ')) := by
    intro k h v ν ξ m w st g b hh P hC hM
    obtain ⟨ν', ξ', m', fl', e1, e2, e3, e4, e5, e6⟩ := leaf_both (a1 := a1) (a2 := a2) hd hh P
    have np : 1 < 2 ^ (k + 1) := Nat.one_lt_two_pow (by omega)
    refine ⟨ν', ξ', m', w + 1, fl', 1, fun f => by rw [hC, e1], e3, e4, e5, np, ?_⟩
    rcases fl01 e3 with q | q
    · right
      refine ⟨q, fun f => ?_⟩
      rw [hM, e2]
      exact stop91 (by rw [e3.2.2.1.2, q])
    · left
      exact ⟨q, e6, fun f => by rw [hM, e2]⟩
  intro k
  induction k with
  | zero =>
    intro h v ν ξ m w st g b hk P
    have h10 : 10 ≤ h := by omega
    refine leaf 0 h v ν ξ m w st g b (by omega) P (fun f => ?_) (fun f => ?_)
    · rw [show f + 0 + 1 = f + 1 from rfl, headC h i ν f (by omega) P.1.2.2.1.1, if_pos h10]; rfl
    · rw [headM h v ξ f (by omega) P.2.2.2.2.2.2.2 P.1.2.2.1.2 P.2.2.2.2.2.1 P.2.2.2.2.2.2.1, if_pos h10]
  | succ k ih =>
    intro h v ν ξ m w st g b hk P
    have h10 : ¬ 10 ≤ h := by omega
    obtain ⟨R, h38, h6, h5, C, h37, h376, hvh⟩ := id P
    obtain ⟨bb, f1, f2⟩ := flat_both hd (by omega) (by omega) ht h6 h5 C
    rcases bb with _ | _
    rotate_left 1
    · refine leaf (k + 1) h v ν ξ m w st g b (by omega) P (fun f => ?_) (fun f => ?_)
      · rw [headC h i ν (f + (k + 1)) (by omega) R.2.2.1.1, if_neg h10, f1, Option.bind_some, if_pos rfl]
      · rw [headM h v ξ f (by omega) hvh R.2.2.1.2 h37 h376, if_neg h10, f2, Option.bind_some, if_pos rfl]
    -- it is halved
    obtain ⟨ν1, p1, p2, p3, p4, p5, p6⟩ := half1 (K := 120) (h := h) hd (by omega) h6
    obtain ⟨ν2, q1, q2, q3, q4, q5, q6⟩ := half1 (K := 121) (h := h) (μ := ν1) hd (by omega) (by rw [p2.1]; exact h6)
    obtain ⟨ξ1, x1, M⟩ := halves_M hd (by omega) h37 h376
    have gi2 : gI ν2 = gI ν := q2.1.trans p2.1
    have old2 : ∀ a l b', b' < 4 * h + 4 → gL ν2 a l b' = gL ν a l b' := fun a l b' hb => by rw [q2.2.2.2 a l b' (by omega), p2.2.2.2 a l b' (by omega)]
    have n1 : ∀ b', gL ν1 121 0 b' = gL ν 121 0 b' := fun b' => p2.2.2.2 121 0 b' (by omega)
    have n2 : ∀ b', gL ν2 120 0 b' = gL ν1 120 0 b' := fun b' => q2.2.2.2 120 0 b' (by omega)
    have CL : CP ν2 ξ1 d (h + 1) (v + 1) := by
      refine cp_left hd (by omega) C M fun c hc => ?_
      rcases (show c = 0 ∨ c = 1 by omega) with rfl | rfl
      · show gL ν2 120 0 (4 * h + 4) = _ ∧ gL ν2 120 0 (4 * h + 5) = _ ∧ gL ν2 120 0 (4 * h + 6) = _ ∧ (d = 3 → gL ν2 120 0 (4 * h + 7) = _)
        rw [n2, n2, n2, n2]
        exact ⟨p3, p4, p5, p6⟩
      · rw [n1] at q3
        rw [n1, n1] at q4
        rw [n1, n1, n1] at q5
        rw [n1, n1, n1, n1] at q6
        exact ⟨q3, q4, q5, q6⟩
    have PL : PIN i d t (h + 1) (v + 1) ν2 ξ1 m w st g b := ⟨fr_congr gi2 (fun k' l b' q => M.1 k' l b' (by omega) (by omega)) R, by rw [M.1 12 0 38 (by omega) (by omega)]; exact h38, by rw [gi2]; exact h6, by rw [q2.2.2.2 1 0 5 (by omega), p2.2.2.2 1 0 5 (by omega)]; exact h5, CL, M.2.2.2.1, M.2.2.1, by omega⟩
    obtain ⟨ν3, ξ3, m3, w3, fl3, N1, g1, g2, g3, g4, g5, g6⟩ := ih (h + 1) (v + 1) ν2 ξ1 m w st g b (by omega) PL
    have k6 : gI ν3 1 0 6 = nI d := by rw [g3.1 1 0 6 (by omega) (by omega), gi2]; exact h6
    obtain ⟨ν4, r1, r2, r3, r4⟩ := half2 (K := 120) (μ := ν3) hd (show h < 10 by omega) k6
    obtain ⟨ν5, s1, s2, s3, s4⟩ := half2 (K := 121) (μ := ν4) hd (show h < 10 by omega) (by rw [r2.1]; exact k6)
    have gi5 : gI ν5 = gI ν3 := s2.1.trans r2.1
    have old3 : ∀ a l b', b' < 4 * h + 4 → gL ν3 a l b' = gL ν a l b' := fun a l b' hb => by rw [g3.2.1 a l b' (by omega), old2 a l b' hb]
    have n4 : ∀ b', gL ν4 121 0 b' = gL ν3 121 0 b' := fun b' => r2.2.2.2 121 0 b' (by omega)
    have n5 : ∀ b', gL ν5 120 0 b' = gL ν4 120 0 b' := fun b' => s2.2.2.2 120 0 b' (by omega)
    have X5 : XC i h ν ν5 := xc_tr (xc_tr (xc_tr (xc_tr (xc_row (Or.inl rfl) p2) (xc_row (Or.inr rfl) q2)) (xc_mono g3)) (xc_row (Or.inl rfl) r2)) (xc_row (Or.inr rfl) s2)
    have Y3 : XM v ξ ξ3 := xm_tr (xm_mh M) (xm_mono g4)
    have eC : ∀ f, m_Fl_addPiece (f + (k + 1) + 1) (nI h) i ν = Option.bind (m_Fl_addPiece (f + k + 1) (nI (h + 1)) i ν5) fun r13 => some r13 := fun f => by
      rw [headC h i ν (f + (k + 1)) (by omega) R.2.2.1.1, if_neg h10, f1, Option.bind_some, if_neg (by decide), p1, Option.bind_some, q1, Option.bind_some, show f + (k + 1) = f + k + 1 from rfl, g1, Option.bind_some, r1, Option.bind_some, s1, Option.bind_some]
    have eM : ∀ f, lp_Mo_curve_91 a1 a2 (nI (d + 1)) t (f + 1) (un d) ξ = lp_Mo_curve_91 a1 a2 (nI (d + 1)) t f (un d) ξ1 := fun f => by
      rw [headM h v ξ f (by omega) hvh R.2.2.1.2 h37 h376, if_neg h10, f2, Option.bind_some, if_neg (by decide), x1, Option.bind_some]
    have R5 : FR i ν5 ξ3 m3 w3 st g fl3 b := fr_congr gi5 (fun _ _ _ _ => rfl) g2
    have pw : 2 ^ (k + 1 + 1) = 2 * 2 ^ (k + 1) := by rw [Nat.pow_succ, Nat.mul_comm]
    have pp : 1 ≤ 2 ^ (k + 1) := Nat.one_le_two_pow
    rcases g6 with ⟨rfl, t1, t2⟩ | ⟨rfl, t2⟩
    · have CR1 : CP ν5 ξ1 d (h + 1) v := by
        refine cp_right hd (by omega) C M fun c hc => ?_
        rcases (show c = 0 ∨ c = 1 by omega) with rfl | rfl
        · have o : ∀ b', b' < 4 * h + 4 → gL ν3 120 0 b' = gL ν (120 + 0) 0 b' := fun b' hb => old3 120 0 b' hb
          rw [o _ (by omega), o _ (by omega), o _ (by omega)] at r3
          rw [o _ (by omega), o _ (by omega), o _ (by omega), o _ (by omega)] at r4
          refine ⟨fun w' => ?_, fun w' => ?_⟩
          · show gL ν5 120 0 (4 * h + 4) = _ ∧ gL ν5 120 0 (4 * h + 5) = _ ∧ gL ν5 120 0 (4 * h + 6) = _
            rw [n5, n5, n5]; exact r3 w'
          · show gL ν5 120 0 (4 * h + 4) = _ ∧ gL ν5 120 0 (4 * h + 5) = _ ∧ gL ν5 120 0 (4 * h + 6) = _ ∧ gL ν5 120 0 (4 * h + 7) = _
            rw [n5, n5, n5, n5]; exact r4 w'
        · have o : ∀ b', b' < 4 * h + 4 → gL ν4 121 0 b' = gL ν (120 + 1) 0 b' := fun b' hb => by rw [n4]; exact old3 121 0 b' hb
          rw [o _ (by omega), o _ (by omega), o _ (by omega)] at s3
          rw [o _ (by omega), o _ (by omega), o _ (by omega), o _ (by omega)] at s4
          exact ⟨s3, s4⟩
      have CR : CP ν5 ξ3 d (h + 1) v := fun c k' hc hk' => by
        rw [g4.2 375 0 (8 * v + 2 * k' + c) (by omega)]; exact CR1 c k' hc hk'
      have PR' : PIN i d t (h + 1) v ν5 ξ3 m3 w3 st g b := ⟨R5, by rw [g4.1 12 0 38 (by omega) (by omega) (by omega), M.1 12 0 38 (by omega) (by omega)]; exact h38, by rw [gi5]; exact k6, by rw [s2.2.2.2 1 0 5 (by omega), r2.2.2.2 1 0 5 (by omega), g3.2.1 1 0 5 (by omega), q2.2.2.2 1 0 5 (by omega), p2.2.2.2 1 0 5 (by omega)]; exact h5, CR, t1, by rw [g4.1 376 0 v (by omega) (by omega) (by omega)]; exact M.2.1, by omega⟩
      obtain ⟨ν6, ξ6, m6, w6, fl6, N2, u1, u2, u3, u4, u5, u6⟩ := ih (h + 1) v ν5 ξ3 m3 w3 st g b (by omega) PR'
      refine ⟨ν6, ξ6, m6, w6, fl6, 1 + N1 + N2, fun f => by rw [eC, u1]; rfl, u2, xc_tr X5 (xc_mono u3), xm_tr Y3 u4, by omega, ?_⟩
      rcases u6 with ⟨rfl, v1, v2⟩ | ⟨rfl, v2⟩
      · left
        refine ⟨rfl, v1, fun f => ?_⟩
        rw [show f + (1 + N1 + N2) = f + N2 + N1 + 1 by omega, eM, t2, v2]
      · right
        refine ⟨rfl, fun f => ?_⟩
        rw [show f + (1 + N1 + N2) + 1 = f + N2 + 1 + N1 + 1 by omega, eM, t2, v2]
    · refine ⟨ν5, ξ3, m3, w3, 0, 1 + N1, fun f => ?_, R5, X5, Y3, by omega, Or.inr ⟨rfl, fun f => ?_⟩⟩
      · rw [eC]
        have : m_Fl_addPiece (f + k + 1) (nI (h + 1)) i ν5 = some ν5 := by
          rw [m_Fl_addPiece, ap, R5.2.2.1.1, if_pos rfl]
        rw [this]; rfl
      · rw [show f + (1 + N1) + 1 = f + N1 + 1 + 1 by omega, eM, t2]
