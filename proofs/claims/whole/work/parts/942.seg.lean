theorem mul30 {v U : Int64} {K : Int} (hU : U.toInt = 1048576 ∨ U.toInt = 1073741824) (h : -16777216 ≤ v.toInt ∧ v.toInt ≤ 16777216) : (v * U).toInt = v.toInt * U.toInt := by
  rw [u_mul]
  rcases hU with q | q <;> rw [q] <;> omega
theorem rnd_int {v : Int64} (h : -16777216 ≤ v.toInt ∧ v.toInt ≤ 16777216) : rnd (v * 1073741824) 1073741824 = v := by
  have e : (1073741824 : Int64).toInt = 1073741824 := by decide
  obtain ⟨q, m, f1, f2, f3⟩ := rnd_q (a := v * 1073741824) (b := 1073741824) (by decide)
  rw [mul30 (K := 0) (Or.inr e) h, e, Int.mul_ediv_cancel _ (by decide)] at f2
  rw [mul30 (K := 0) (Or.inr e) h, e, Int.mul_emod_left] at f3
  have m0 : m = 0 := u_eq.mpr (by rw [f3]; rfl)
  rw [f1, m0, u_eq.mpr f2]
  unfold rdq
  rw [if_neg (by decide), if_neg (by decide)]
theorem line_piece {i : Nat} {ν : Mem} {X Y : Int64} (h5 : gI ν 7 i 5 = 1) (h6 : gI ν 1 0 6 = nI 1) (hX : gL ν 120 0 1 = X * 1073741824) (hY : gL ν 121 0 1 = Y * 1073741824) (bx : -16777216 ≤ X.toInt ∧ X.toInt ≤ 16777216) (bY : -16777216 ≤ Y.toInt ∧ Y.toInt ≤ 16777216) : m_Fl_addPiece (11 + 1) (nI 0) i ν = m_Po_add i X Y ν := by
  have z1 : ¬ (1 : Int32) = 0 := by decide
  have m4 : nI 0 * 4 = nI 0 := by decide
  have fl : m_Fl_isFlat (nI 0) ν = some true := by
    have : ∀ f, lp_Fl_isFlat_2 (nI 0) ν (f + 1) (nI 0) = some true := fun f => by
      rw [lp_Fl_isFlat_2, h6, if_pos (by decide)]
    exact this 99999
  have n1 : nI 0 + nI 1 = nI 1 := by decide
  rw [m_Fl_addPiece, ap, h5, if_neg z1, m4, ap, if_neg (by decide), fl, Option.bind_some, if_pos rfl]
  unfold mj_Fl_addPiece_26
  rw [h6, n1, gu_nI (by omega) (by omega), nI_clamp (by omega), hX, hY, (rd_both (by decide) (by decide)).1, Option.bind_some, gu_nI (by omega) (by omega), (rd_both (by decide) (by decide)).1, Option.bind_some, rnd_int bx, rnd_int bY]
  cases m_Po_add i X Y ν <;> rfl
theorem fr_congr2 {i : Nat} {ν ξ ν' : Mem} {m w st g : Nat} {fl : Int32} {b : Nat → Nat} (h1 : ∀ k l b, (k = 7 ∨ (240 ≤ k ∧ k ≤ 243)) → gI ν' k l b = gI ν k l b) (R : FR i ν ξ m w st g fl b) : FR i ν' ξ m w st g fl b := by
  have e7 : gI ν' 7 = gI ν 7 := funext fun l => funext fun b' => h1 7 l b' (by omega)
  have e0 : gI ν' 240 = gI ν 240 := funext fun l => funext fun b' => h1 240 l b' (by omega)
  have e1 : gI ν' 241 = gI ν 241 := funext fun l => funext fun b' => h1 241 l b' (by omega)
  have e2 : gI ν' 242 = gI ν 242 := funext fun l => funext fun b' => h1 242 l b' (by omega)
  have e3 : gI ν' 243 = gI ν 243 := funext fun l => funext fun b' => h1 243 l b' (by omega)
  unfold FR at R ⊢
  rw [e7, e0, e1, e2, e3]; exact R
theorem seg_both {i l s n y d m w st g : Nat} {t a1 a2 a3 a2' a3' : Int32} {ν ξ : Mem} {b : Nat → Nat} {V : Nat → Int64 × Int64} (ht : 1 ≤ t.toInt ∧ t.toInt ≤ 256) (hd : d = 1 ∨ d = 2 ∨ d = 3) (hn : s + n ≤ 100) (hy : y < n) (hyd : y + d ≤ n) (R : FR i ν ξ m w st g 1 b) (h38 : gI ξ 12 0 38 = nI st) (h5 : gL ν 1 0 5 = t.toInt64 * 1073741824)
    (hv : ∀ k, k < n → gL ν 122 0 (s + k) = (V k).1 ∧ gL ν 123 0 (s + k) = (V k).2) (hx : ∀ k, k < n → gL ξ 373 0 k = (V k).1 ∧ gL ξ 374 0 k = (V k).2) (hb : ∀ k, k < n → nearB 16777216 (V k)) :
    ∃ ν' ξ' m' w' fl', (∀ c, mj_Fl_addOutline_102 l a2 a3 i c (nI s) (nI (s + n)) (nI (s + y)) (nI d) ν = c (nI s) (nI (s + n)) (nI (s + y + d)) ν') ∧ (∀ c, mj_Mo_outlineOf_301 a1 a2' a3' t c (nI s) (nI n) (nI y) (nI (d - 1)) ξ = c (nI s) (nI n) (nI (y + d)) ξ') ∧ FR i ν' ξ' m' w' st g fl' b ∧ GC i ν ν' ∧ GMm ξ ξ' := by
  have d3 : d ≤ 3 := by omega
  have wl : ∀ j, j ≤ d → wf n y j < n := fun j hj => by unfold wf; split <;> omega
  have z1 : ¬ (1 : Int32) = 0 := by decide
  have G0 : GC i ν (sI ν 1 0 6 (nI d)) := ⟨fun k l b' p q r => by rw [gI_sI, if_neg (by omega)], fun _ _ _ _ => rfl, rfl, rfl⟩
  have R0 : FR i (sI ν 1 0 6 (nI d)) ξ m w st g 1 b := fr_congr2 (fun k l b' q => by rw [gI_sI, if_neg (by omega)]) R
  obtain ⟨ν1, e1, e2, e3, e4, e5, e6⟩ := copy108 (l := l) (i := i) (a2 := a2) (a3 := a3) hn hy d3 hyd FU 0 (sI ν 1 0 6 (nI d)) (by omega) (by unfold FU; omega) gI_self (fun j hj => by omega)
  have hC : ∀ c, mj_Fl_addOutline_102 l a2 a3 i c (nI s) (nI (s + n)) (nI (s + y)) (nI d) ν = mj_Fl_addOutline_179 l a2 a3 i c (nI s) (nI (s + n)) (nI (s + y)) ν1 := fun c => by
    unfold mj_Fl_addOutline_102
    rw [ap, show (0 : Int32) = nI 0 from rfl]
    exact e1 _
  have R1 : FR i ν1 ξ m w st g 1 b := fr_congr e2 (fun _ _ _ _ => rfl) R0
  have G1 : GC i ν ν1 := gc_tr G0 ⟨fun _ _ _ _ _ _ => by rw [e2], e5, e3, e4⟩
  have k6 : gI ν1 1 0 6 = nI d := by rw [e2]; exact gI_self
  have k5 : gL ν1 1 0 5 = t.toInt64 * 1073741824 := by rw [e5 1 0 5 (by omega)]; exact h5
  have row : ∀ j, j ≤ d → gL ν1 120 0 j = (V (wf n y j)).1 * 1073741824 ∧ gL ν1 121 0 j = (V (wf n y j)).2 * 1073741824 := fun j hj => by
    have := e6 j hj
    rw [show gL (sI ν 1 0 6 (nI d)) 122 0 (s + wf n y j) = gL ν 122 0 (s + wf n y j) from rfl, show gL (sI ν 1 0 6 (nI d)) 123 0 (s + wf n y j) = gL ν 123 0 (s + wf n y j) from rfl, (hv _ (wl j hj)).1, (hv _ (wl j hj)).2] at this
    exact this
  clear e1 e2 e3 e4 e5 e6
  have e179 : ∀ ν2 c, m_Fl_addPiece 12 0 i ν1 = some ν2 → gI ν2 1 0 6 = nI d → mj_Fl_addOutline_179 l a2 a3 i c (nI s) (nI (s + n)) (nI (s + y)) ν1 = c (nI s) (nI (s + n)) (nI (s + y + d)) ν2 := fun ν2 c q1 q2 => by
    have n1 : nI (s + y) + nI d = nI (s + y + d) := nI_add _ _
    have mx : m_Ma_max 1 (nI d) ν2 = nI d := by
      unfold m_Ma_max
      rcases hd with rfl | rfl | rfl <;> first | rfl | decide +kernel
    unfold mj_Fl_addOutline_179
    rw [q1, Option.bind_some, q2, mx, n1, ap]
  by_cases h1 : d = 1
  · subst h1
    have w1 := wl 1 (by omega)
    obtain ⟨x1, x2⟩ := row 1 (by omega)
    obtain ⟨b1, b2⟩ := hb _ w1
    obtain ⟨ν2, ξ2, m2, fl2, f1, f2, f3, f4, f5⟩ := adds_both R1 h38 (V (wf n y 1)).1 (V (wf n y 1)).2
    refine ⟨ν2, ξ2, m2, w + 1, fl2, fun c => ?_, fun c => ?_, f3, gc_tr G1 (gc_xc (h := 0) (xc_fc f4)), gm_xm (v := 0) (xm_fm f5)⟩
    · rw [hC]
      refine e179 ν2 c ?_ (by rw [f4.1 1 0 6 (by omega) (by omega)]; exact k6)
      rw [← f1]
      exact line_piece R1.2.2.1.1 k6 x1 x2 b1 b2
    · have n1 : nI y + 1 = nI (y + 1) := nI_add y 1
      have n3 : nI (y + 1) - nI (y + 1) / nI n * nI n = nI (wf n y 1) := by rw [nmod (by omega) (by omega), mod_wf hy (by omega)]
      have z0 : ¬ nI n = 0 := by rw [show (0 : Int32) = nI 0 from rfl, neq (by omega) (by omega)]; omega
      unfold mj_Mo_outlineOf_301 mj_Mo_outlineOf_365
      rw [if_pos (show nI (1 - 1) = 0 from rfl), n1, n3]
      unfold gz
      rw [if_neg z0, ap, gu_nI (by omega) (by omega), if_neg z0, ap, gu_nI (by omega) (by omega), nI_clamp (by omega), (hx _ w1).1, (hx _ w1).2, f2, Option.bind_some, ap]
  · have hd2 : d = 2 ∨ d = 3 := by omega
    obtain ⟨ξ0, hξ0⟩ : ∃ ξ0, ξ0 = sI (sI ξ 12 0 37 1) 376 0 0 0 := ⟨_, rfl⟩
    obtain ⟨ξ1, g1, g2, g3, g4⟩ := fill31 (a4 := t) (u := un d) (show n ≤ 100 by omega) hy d3 hyd FU 0 ξ0 (by omega) (by unfold FU; omega) (fun j hj => by omega)
    have uV : (un d).toInt = 1048576 ∨ (un d).toInt = 1073741824 := by rcases hd2 with rfl | rfl; exact Or.inl (by decide); exact Or.inr (by decide)
    have e30 : (1073741824 : Int64).toInt = 1073741824 := by decide
    have cI : ∀ k l b', ¬ (k = 12 ∧ b' = 37) → k ≠ 376 → gI ξ1 k l b' = gI ξ k l b' := fun k l b' q1 q2 => by rw [g2, hξ0, gI_ne q2, gI_sI, if_neg (by omega)]
    have C : CP ν1 ξ1 d 0 0 := by
      intro c k hc hk
      have wk := wl k hk
      obtain ⟨r1, r2⟩ := row k hk
      obtain ⟨t1, t2⟩ := g4 k hk
      obtain ⟨b1, b2⟩ := hb _ wk
      rw [show gL ξ0 373 0 (wf n y k) = gL ξ 373 0 (wf n y k) by rw [hξ0]; rfl, (hx _ wk).1] at t1
      rw [show gL ξ0 374 0 (wf n y k) = gL ξ 374 0 (wf n y k) by rw [hξ0]; rfl, (hx _ wk).2] at t2
      have mk : ∀ v : Int64, (-16777216 ≤ v.toInt ∧ v.toInt ≤ 16777216) → PR (sg d) (dv10 d (10 - 0)) (v * 1073741824) (v * un d) := fun v hv' => by
        have a1' := mul30 (K := 0) (Or.inr e30) hv'
        have a2' := mul30 (K := 0) uV hv'
        rw [e30] at a1'
        refine ⟨?_, ⟨v.toInt, ?_⟩, ?_, ?_⟩
        · rw [a1', a2']; rcases hd2 with rfl | rfl
          · rw [show (un 2).toInt = 1048576 from by decide, show sg 2 = 1024 from rfl]; omega
          · rw [show (un 3).toInt = 1073741824 from by decide, show sg 3 = 1 from rfl]; omega
        · rw [a2']; rcases hd2 with rfl | rfl
          · rw [show (un 2).toInt = 1048576 from by decide, show dv10 2 (10 - 0) = 1048576 from by decide]; omega
          · rw [show (un 3).toInt = 1073741824 from by decide, show dv10 3 (10 - 0) = 1073741824 from by decide]; omega
        · rw [a1']; omega
        · rw [a2']; rcases uV with q | q <;> rw [q] <;> omega
      rcases (show c = 0 ∨ c = 1 by omega) with rfl | rfl
      · rw [show 4 * 0 + k = k by omega, show 8 * 0 + 2 * k + 0 = 2 * k by omega, show (120 + 0 : Nat) = 120 from rfl, r1, t1]; exact mk _ b1
      · rw [show 4 * 0 + k = k by omega, show 8 * 0 + 2 * k + 1 = 2 * k + 1 by omega, show (120 + 1 : Nat) = 121 from rfl, r2, t2]; exact mk _ b2
    have P : PIN i d t 0 0 ν1 ξ1 m w st g b := ⟨fr_congr rfl (fun k l b' q => cI k l b' (by omega) (by omega)) R1, by rw [cI 12 0 38 (by omega) (by omega)]; exact h38, k6, k5, C, by rw [g2, hξ0, gI_ne (by omega), gI_self]; rfl, by rw [g2, hξ0, gI_self]; rfl, Nat.le_refl 0⟩
    obtain ⟨ν2, ξ2, m2, w2, fl2, N, p1, p2, p3, p4, p5, p6⟩ := piece_both (a1 := nI y) (a2 := nI n) hd2 ht 10 0 0 ν1 ξ1 m w st g b rfl P
    have GM1 : GMm ξ ξ1 := ⟨fun k l b' q1 q2 q3 => cI k l b' (by omega) q3, fun a l' b' q => by rw [g3 a l' b' q, hξ0]; rfl⟩
    refine ⟨ν2, ξ2, m2, w2, fl2, fun c => ?_, fun c => ?_, p2, gc_tr G1 (gc_xc p3), gm_tr GM1 (gm_xm p4)⟩
    · rw [hC]
      exact e179 ν2 c (p1 1) (by rw [p3.1 1 0 6 (by omega) (by omega)]; exact k6)
    · have n1 : (2 : Int32) + nI (d - 1) = nI (d + 1) := by rw [show (2 : Int32) = nI 2 from rfl, nI_add]; congr 1; omega
      have n2 : (1 : Int32) + nI (d - 1) = nI d := by rw [show (1 : Int32) = nI 1 from rfl, nI_add]; congr 1; omega
      have n3 : nI y + nI d = nI (y + d) := nI_add _ _
      have fin : lp_Mo_curve_91 (nI y) (nI n) (nI (d + 1)) t FU (un d) ξ1 = some ξ2 := by
        have pw : (2 : Nat) ^ (10 + 1) = 2048 := rfl
        obtain ⟨F, hF⟩ : ∃ F, FU = F + 1 + N + 1 := ⟨FU - N - 2, by unfold FU; omega⟩
        rw [hF]
        rcases p6 with ⟨_, v1, v2⟩ | ⟨_, v2⟩
        · rw [show F + 1 + N + 1 = F + 1 + 1 + N by omega, v2, lp_Mo_curve_91, v1, if_pos (by decide)]
        · exact v2 (F + 1)
      have cur : m_Mo_curve (nI y) (nI n) (nI (d + 1)) t ξ = some ξ2 := by
        unfold m_Mo_curve
        have both : ∀ u, u = un d → mj_Mo_curve_14 (nI y) (nI n) (nI (d + 1)) t u ξ = some ξ2 := fun u hu => by
          subst hu
          unfold mj_Mo_curve_14
          rw [ap, show gu (0 : Int32) 16 (ap (sI (sI ξ 12 0 37 1) 376 0 (0 : Int32).toNatClampNeg 0) fun μ3 => lp_Mo_curve_31 (nI y) (nI n) (nI (d + 1)) t (lp_Mo_curve_91 (nI y) (nI n) (nI (d + 1)) t FU) FU (un d) 0 μ3) = ap (sI (sI ξ 12 0 37 1) 376 0 (0 : Int32).toNatClampNeg 0) (fun μ3 => lp_Mo_curve_31 (nI y) (nI n) (nI (d + 1)) t (lp_Mo_curve_91 (nI y) (nI n) (nI (d + 1)) t FU) FU (un d) 0 μ3) from gu_nI (l := 0) (by omega) (by omega), ap, show (0 : Int32).toNatClampNeg = 0 from rfl, ← hξ0]
          rw [← fin]
          exact g1 _
        rcases hd2 with rfl | rfl
        · rw [if_pos (show nI (2 + 1) = 3 from rfl)]; exact both _ rfl
        · rw [if_neg (show ¬ nI (3 + 1) = 3 from by decide)]; exact both _ rfl
      unfold mj_Mo_outlineOf_301 mj_Mo_outlineOf_365
      rw [if_neg (by rw [show (0 : Int32) = nI 0 from rfl, neq (by omega) (by omega)]; omega), n1, cur, Option.bind_some, ap, n2, n3]
