theorem fill_both {μ : Mem} {n l j : Nat} {t : Int32} (I : InvN n μ) (hl : l < n) (ht : 1 ≤ t.toInt ∧ t.toInt ≤ 256) : ∀ ξ0, (∀ k, k ∈ [343, 346, 347, 348, 349, 352, 353, 354, 355, 356] → gI ξ0 k = gI μ k) → ∃ B ν' ξ' m w g b, m_Fl_fill (some l) t j μ = some (B, ν') ∧ m_Mo_flattens (nI l) t ξ0 = some (B, ξ') ∧ FR j ν' ξ' m w m g (if B then 1 else 0) b ∧
    (∀ k l b, ¬ (240 ≤ k ∧ k ≤ 243 ∧ l = j) → ¬ (k = 7 ∧ l = j) → ¬ (k = 1 ∧ b = 6) → gI ν' k l b = gI μ k l b) ∧ (∀ k l b, k ≠ 124 → gR ν' k l b = gR μ k l b) ∧ TM 0 ξ0 ξ' := by
  intro ξ0 hξ0
  obtain ⟨pc, tg, dp, T, hPS, hdp⟩ := tr_of I
  have dl := (T l hl).2.2.2.1
  have h32 := I.1.1
  obtain ⟨ν0, hν0⟩ : ∃ ν0, ν0 = m_Po_clear j (sL μ 1 0 5 (t.toInt64 * 1073741824)) := ⟨_, rfl⟩
  have hν0' : ν0 = sI (sI (sI (sI (sI (sL μ 1 0 5 (t.toInt64 * 1073741824)) 7 j 4 0) 7 j 5 1) 7 j 6 0) 7 j 7 0) 7 j 8 0 := hν0
  obtain ⟨ξ1, hξ1⟩ : ∃ ξ1, ξ1 = sI (sI (sI (sI (sI (sI ξ0 12 0 22 0) 12 0 23 0) 12 0 31 0) 12 0 32 1) 360 0 0 (nI l)) 361 0 0 0 := ⟨_, rfl⟩
  have cI : ∀ k l b, ¬ (k = 7 ∧ l = j) → gI ν0 k l b = gI μ k l b := fun k l b q => by
    rw [hν0', gI_sI, if_neg (by omega), gI_sI, if_neg (by omega), gI_sI, if_neg (by omega), gI_sI, if_neg (by omega), gI_sI, if_neg (by omega)]; rfl
  have M0 : TM 0 ξ0 ξ1 := fun k l b q1 q2 q3 q4 => by
    rw [hξ1, gI_sI, if_neg (by omega), gI_sI, if_neg (by omega), gI_sI, if_neg (by omega), gI_sI, if_neg (by omega), gI_sI, if_neg (by omega), gI_sI, if_neg (by omega)]
  have R0 : FR j ν0 ξ1 0 0 0 0 1 (fun _ => 0) := by
    refine ⟨⟨by omega, by omega, by omega, Or.inr ⟨rfl, by omega⟩, by omega⟩, ⟨?_, ?_⟩, ⟨?_, ?_⟩, ⟨?_, ?_⟩, ?_, ⟨?_, ?_⟩, fun k hk => by omega, ⟨rfl, rfl, fun j hj => by omega⟩, fun j k hj => by omega, fun k _ hk => by omega⟩
    · rw [hν0']; simp (disch := omega) only [gI_ne2, gI_self]; rfl
    · rw [hξ1]; simp (disch := omega) only [gI_ne, gI_ne2, gI_self]; rfl
    · rw [hν0']; simp (disch := omega) only [gI_ne2, gI_self]
    · rw [hξ1]; simp (disch := omega) only [gI_ne, gI_ne2, gI_self]
    · rw [hν0']; simp (disch := omega) only [gI_ne2, gI_self]; rfl
    · rw [hξ1]; simp (disch := omega) only [gI_ne, gI_ne2, gI_self]; rfl
    · rw [hν0']; simp (disch := omega) only [gI_ne2, gI_self]; rfl
    · rw [hν0']; simp (disch := omega) only [gI_self]; rfl
    · rw [hξ1]; simp (disch := omega) only [gI_ne, gI_ne2, gI_self]; rfl
  have S0 : ST μ j t ν0 ξ1 := by
    refine ⟨fun k l b q1 q2 q3 => cI k l b (by omega), fun k l b _ => by rw [hν0']; rfl, by rw [hν0']; simp only [gL_sI]; exact gL_self, fun k hk => ?_⟩
    rw [← hξ0 k hk]
    funext l' c
    simp only [List.mem_cons, List.not_mem_nil, or_false] at hk
    exact M0 k l' c (by omega) (by omega) (by omega) (by omega)
  have P0 : PA μ (fun _ => 0) 0 ν0 ξ1 := ⟨by omega, fun j hj => by omega, fun j hj => by omega, fun j hj => by omega⟩
  obtain ⟨ν1, ξ2, m, w, g, fl, b, N, r1, r2, r3, r4, r5, r6⟩ := walk_both (i := j) (a1 := nI l) h32 ht I.2.1 T hPS (dp l) l 0 (fun _ => 0) ν0 ξ1 0 0 0 (fun _ => 0) hl (Nat.le_refl _) (by omega) P0 S0 (by rw [hξ1, gI_ne (by omega), gI_self]) (by rw [hξ1, gI_self]) R0
  have hcd := cd_mono dl
  have c4 : cd 4 = 3109 := rfl
  have zb0 : zb (0 : Int32) = some false := rfl
  have zb1 : zb (1 : Int32) = some true := rfl
  have eC : m_Fl_fill (some l) t j μ = Option.bind (zb fl) fun B5 => some (B5, ν1) := by
    unfold m_Fl_fill
    rw [oc_some, rg_Fo, decide_eq_true (show (1 : Int64).toInt ≤ t.toInt ∧ t.toInt ≤ (256 : Int64).toInt from ht), if_pos rfl, sh30, shl30, ap, ap, ← hν0]
    have := r1 (5 - dp l)
    rw [show 5 - dp l + dp l + 1 = 6 by omega, show nI 0 = (0 : Int32) from rfl] at this
    rw [this, Option.bind_some, r2.2.2.1.1]
  have g0 : ∀ x : Option (Bool × Mem), gu (0 : Int32) 8 x = x := fun x => gu_nI (l := 0) (by omega) (by omega)
  have eM : m_Mo_flattens (nI l) t ξ0 = Option.bind (zb fl) fun B35 => some (B35, ξ2) := by
    have e0 : m_Mo_flattens (nI l) t ξ0 = lp_Mo_flattens_36 (nI l) t (mj_Mo_flattens_175 (nI l) t) FU (nI 0) ξ1 := by
      unfold m_Mo_flattens
      rw [ap, ap, ap, ap, g0, ap, g0, ap, show (0 : Int32).toNatClampNeg = 0 from rfl, ← hξ1, show nI 0 = (0 : Int32) from rfl]
    rw [e0]
    obtain ⟨F, hF⟩ : ∃ F, FU = F + 1 + N + 1 := ⟨FU - N - 2, by unfold FU; omega⟩
    rw [hF]
    have fin : mj_Mo_flattens_175 (nI l) t ξ2 = Option.bind (zb fl) fun B35 => some (B35, ξ2) := by
      unfold mj_Mo_flattens_175; rw [r2.2.2.1.2]
    rcases r6 with ⟨_, v2⟩ | ⟨_, v2⟩
    · rw [show F + 1 + N + 1 = F + 1 + 1 + N by omega, v2, lp_Mo_flattens_36, if_pos (by decide), fin]
    · rw [v2, fin]
  have fr1 : ∀ k l b, ¬ (240 ≤ k ∧ k ≤ 243 ∧ l = j) → ¬ (k = 7 ∧ l = j) → ¬ (k = 1 ∧ b = 6) → gI ν1 k l b = gI μ k l b := fun k l b q1 q2 q3 => by rw [r3.1 k l b q1 q2 q3, cI k l b q2]
  have fr2 : ∀ k l b, k ≠ 124 → gR ν1 k l b = gR μ k l b := fun k l b q => by rw [r3.2.2 k l b (by omega), hν0']; rfl
  rcases fl01 r2 with rfl | rfl
  · exact ⟨false, ν1, ξ2, m, w, g, b, by rw [eC, zb0]; rfl, by rw [eM, zb0]; rfl, r2, fr1, fr2, tm_tr M0 r4⟩
  · exact ⟨true, ν1, ξ2, m, w, g, b, by rw [eC, zb1]; rfl, by rw [eM, zb1]; rfl, r2, fr1, fr2, tm_tr M0 r4⟩
