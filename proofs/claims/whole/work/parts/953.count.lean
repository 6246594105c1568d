/-- the sum of M from 513 - r on -/
def ts (M : Nat → Int32) : Nat → Int32
  | 0 => 0
  | r + 1 => ts M r + M (512 - r)
def fil (rule w : Int32) : Bool := if rule = 0 then decide (w ≠ 0) else decide (w &&& 1 ≠ 0)
/-- how many of the samples below n are filled and lie in dot q -/
def CF (F : Nat → Bool) (D q : Nat) : Nat → Nat
  | 0 => 0
  | c + 1 => CF F D q c + (if F c = true ∧ D + c / 8 = q then 1 else 0)
theorem cf_mono {F : Nat → Bool} {D q : Nat} : ∀ d c, CF F D q c ≤ CF F D q (c + d) := by
  intro d
  induction d with
  | zero => intro c; exact Nat.le_refl _
  | succ d ih => intro c; show _ ≤ CF F D q (c + d) + _; have := ih c; omega
theorem count_lp {M : Nat → Int32} {D lo : Nat} {rule : Int32} {base : Nat → Int32} {F : Nat → Bool} (hF : F = fun c => fil rule (ts M (512 - c))) (hD : D + 63 < 4096) (hlo : lo ≤ 513) : ∀ f r ν, r ≤ 513 → r < f → gI ν 2 0 2 = nI lo → (∀ q, q < r → q ≤ 512 → gI ν 141 0 q = M q) → (∀ q, r ≤ q → q ≤ 512 → gI ν 141 0 q = 0) → (∀ q, q < 4096 → gI ν 140 0 q = base q + nI (CF F D q 512 - CF F D q (r - 1))) →
    ∃ ν', lp_Im_countRow_8 (nI D) rule f (ts M (513 - r)) (nI r - 1) ν = some ν' ∧ (∀ q, q < min r lo → q ≤ 512 → gI ν' 141 0 q = M q) ∧ (∀ q, min r lo ≤ q → q ≤ 512 → gI ν' 141 0 q = 0) ∧ (∀ q, q < 4096 → gI ν' 140 0 q = base q + nI (CF F D q 512 - CF F D q (min r lo - 1))) ∧ (∀ k l b, ¬ (k = 141 ∧ l = 0 ∧ b ≤ 512) → ¬ (k = 140 ∧ l = 0 ∧ b < 4096) → gI ν' k l b = gI ν k l b) := by
  intro f
  induction f with
  | zero => intro r ν h1 h2; omega
  | succ f ih =>
    intro r ν h1 h2 h3 hM hZ hC
    by_cases h : r ≤ lo
    · refine ⟨ν, ?_, ?_, ?_, ?_, fun _ _ _ _ _ => rfl⟩
      · rw [lp_Im_countRow_8, h3]
        rcases r with _ | r
        · rw [if_pos]
          rw [t_lt, nI_toInt (by omega)]
          show (nI 0 - 1).toInt < _
          rw [show (nI 0 - 1).toInt = -1 from by decide]; omega
        · rw [show nI (r + 1) - 1 = nI r from pk_sub (b := 1) (by omega), if_pos (by rw [nlt (by omega) (by omega)]; omega)]
      · rw [show min r lo = r by omega]; exact hM
      · rw [show min r lo = r by omega]; exact hZ
      · rw [show min r lo = r by omega]; exact hC
    · obtain ⟨p, rfl⟩ : ∃ p, r = p + 1 := ⟨r - 1, by omega⟩
      have y1 : nI (p + 1) - 1 = nI p := pk_sub (b := 1) (by omega)
      have m1 : nI p + -1 = nI p - 1 := by grind
      have tsx : ts M (513 - (p + 1)) + M p = ts M (513 - p) := by
        rw [show 513 - p = (513 - (p + 1)) + 1 by omega]
        show _ = ts M (513 - (p + 1)) + M (512 - (513 - (p + 1)))
        rw [show 512 - (513 - (p + 1)) = p by omega]
      obtain ⟨ν0, hν0⟩ : ∃ ν0, ν0 = sI ν 141 0 p 0 := ⟨_, rfl⟩
      have fr0 : ∀ k l b, ¬ (k = 141 ∧ l = 0 ∧ b = p) → gI ν0 k l b = gI ν k l b := fun k l b q => by rw [hν0, gI_sI, if_neg q]
      have head : lp_Im_countRow_8 (nI D) rule (f + 1) (ts M (513 - (p + 1))) (nI (p + 1) - 1) ν = mj_Im_countRow_67 (nI D) rule (lp_Im_countRow_8 (nI D) rule f) (ts M (513 - p)) (nI p) (if fil rule (ts M (513 - p)) = true then 1 else 0) ν0 := by
        rw [lp_Im_countRow_8, h3, y1, if_neg (by rw [nlt (by omega) (by omega)]; omega), if_neg (by rw [show (0 : Int32) = nI 0 from rfl, nlt (by omega) (by omega)]; omega), gu_nI (by omega) (by omega), nI_clamp (by omega), hM p (by omega) (by omega), tsx, ap, gu_nI (by omega) (by omega), ap, ← hν0]
        unfold fil
        by_cases w : rule = 0
        · rw [if_pos w, if_pos w]
          by_cases w2 : ts M (513 - p) = 0
          · rw [if_pos w2, decide_eq_false (fun z => z w2), if_neg (by decide)]
          · rw [if_neg w2, decide_eq_true w2, if_pos rfl]
        · rw [if_neg w, if_neg w]
          by_cases w2 : ts M (513 - p) &&& 1 = 0
          · rw [if_pos w2, decide_eq_false (fun z => z w2), if_neg (by decide)]
          · rw [if_neg w2, decide_eq_true w2, if_pos rfl]
      have go : ∀ ν1, gI ν1 2 0 2 = nI lo → (∀ k l b, ¬ (k = 140 ∧ l = 0 ∧ b < 4096) → gI ν1 k l b = gI ν0 k l b) → (∀ q, q < 4096 → gI ν1 140 0 q = base q + nI (CF F D q 512 - CF F D q (p - 1))) → ∃ ν', mj_Im_countRow_97 (nI D) rule (lp_Im_countRow_8 (nI D) rule f) (ts M (513 - p)) (nI p) ν1 = some ν' ∧ (∀ q, q < min (p + 1) lo → q ≤ 512 → gI ν' 141 0 q = M q) ∧ (∀ q, min (p + 1) lo ≤ q → q ≤ 512 → gI ν' 141 0 q = 0) ∧ (∀ q, q < 4096 → gI ν' 140 0 q = base q + nI (CF F D q 512 - CF F D q (min (p + 1) lo - 1))) ∧ (∀ k l b, ¬ (k = 141 ∧ l = 0 ∧ b ≤ 512) → ¬ (k = 140 ∧ l = 0 ∧ b < 4096) → gI ν' k l b = gI ν k l b) := by
        intro ν1 g1 g2 g3
        obtain ⟨ν', r1, r2, r3, r4, r5⟩ := ih p ν1 (by omega) (by omega) g1 (fun q q1 q2 => by rw [g2 141 0 q (by omega), fr0 141 0 q (by omega)]; exact hM q (by omega) q2) (fun q q1 q2 => by
          rw [g2 141 0 q (by omega)]
          by_cases w : q = p
          · subst w; rw [hν0, gI_self]
          · rw [fr0 141 0 q (by omega)]; exact hZ q (by omega) q2) g3
        rw [show min p lo = min (p + 1) lo by omega] at r2 r3 r4
        refine ⟨ν', ?_, r2, r3, r4, fun k l b q1 q2 => by rw [r5 k l b q1 q2, g2 k l b q2, fr0 k l b (by omega)]⟩
        unfold mj_Im_countRow_97
        rw [ap, m1]; exact r1
      have k2 : gI ν0 2 0 2 = nI lo := by rw [fr0 2 0 2 (by omega)]; exact h3
      have k140 : ∀ q, q < 4096 → gI ν0 140 0 q = base q + nI (CF F D q 512 - CF F D q p) := fun q hq => by rw [fr0 140 0 q (by omega)]; exact hC q hq
      rw [head]
      unfold mj_Im_countRow_67
      have cfs : ∀ q, 1 ≤ p → CF F D q p = CF F D q (p - 1) + (if fil rule (ts M (513 - p)) = true ∧ D + (p - 1) / 8 = q then 1 else 0) := fun q h1 => by
        obtain ⟨p', rfl⟩ : ∃ p', p = p' + 1 := ⟨p - 1, by omega⟩
        show CF F D q p' + (if F p' = true ∧ D + p' / 8 = q then 1 else 0) = _
        have e : F p' = fil rule (ts M (513 - (p' + 1))) := by
          rw [hF]
          show fil rule (ts M (512 - p')) = _
          rw [show 512 - p' = 513 - (p' + 1) by omega]
        rw [e]; rfl
      by_cases w : fil rule (ts M (513 - p)) = true
      · rw [if_pos w, if_neg (by decide)]
        rcases Nat.eq_zero_or_pos p with rfl | hp
        · rw [if_pos (show nI 0 ≤ 0 from by decide)]
          exact go ν0 k2 (fun _ _ _ _ => rfl) k140
        · have i1 : nI p - 1 = nI (p - 1) := pk_sub (b := 1) (by omega)
          have i2 : nI (p - 1) / 8 = nI ((p - 1) / 8) := ndiv (n := 8) (by omega) (by omega)
          have i3 : nI D + nI ((p - 1) / 8) = nI (D + (p - 1) / 8) := nI_add _ _
          rw [if_neg (by rw [show (0 : Int32) = nI 0 from rfl, nle (by omega) (by omega)]; omega), i1, i2, i3, gu_nI (by omega) (by omega), gu_nI (by omega) (by omega), nI_clamp (by omega), ap]
          refine go _ (by rw [gI_ne (by omega)]; exact k2) (fun k l b q => by rw [gI_sI, if_neg (by omega)]) (fun q hq => ?_)
          have le : CF F D q p ≤ CF F D q 512 := by
            have := cf_mono (F := F) (D := D) (q := q) (512 - p) p
            rw [show p + (512 - p) = 512 by omega] at this; exact this
          have c := cfs q hp
          by_cases w2 : q = D + (p - 1) / 8
          · subst w2
            rw [if_pos ⟨w, rfl⟩] at c
            rw [gI_self, k140 _ hq, Int32.add_assoc, show (1 : Int32) = nI 1 from rfl, nI_add]
            congr 2; omega
          · rw [if_neg (fun z => w2 z.2.symm)] at c
            rw [gI_ne2 w2, k140 q hq, c]; rfl
      · rw [if_neg w, if_pos rfl]
        refine go ν0 k2 (fun _ _ _ _ => rfl) (fun q hq => ?_)
        rw [k140 q hq]
        rcases Nat.eq_zero_or_pos p with rfl | hp
        · rfl
        · have c := cfs q hp
          rw [if_neg (fun z => w z.1)] at c
          rw [c]; rfl
