theorem cnt_congr {f g : Nat → Int32} : ∀ n, (∀ k, k < n → f k = g k) → cnt f n = cnt g n := by
  intro n
  induction n with
  | zero => intro _; rfl
  | succ n ih => intro h; rw [cnt, cnt, ih fun k hk => h k (by omega), h n (by omega)]
theorem draw_C {ν : Mem} {j m : Nat} {X Y : Nat → Int32} {nx : Nat → Nat} {s rule : Int32} (E : ED ν j m X Y nx) (hs : 4 ≤ s.toInt ∧ s.toInt ≤ 32) (hT : ∀ y, ts (fun p => sumI (mk X Y nx s.toInt y p) m) 513 = 0) (hz : ∀ q, q ≤ 512 → gI ν 141 0 q = 0) :
    ∃ ν', m_Im_draw j s rule ν = some ν' ∧ ME (gI ν' 140 0) ν' 4096 ∧ (∀ q, q ≤ 512 → gI ν' 141 0 q = 0) ∧ (∀ q, q < 4096 → gI ν' 140 0 q = nI (PD X Y nx s.toInt rule m q 512)) ∧ (∀ k l b, k ≠ 140 → k ≠ 141 → k ≠ 2 → gI ν' k l b = gI ν k l b) := by
  obtain ⟨νf, f1, f2, f3⟩ := fillA (k := 140) (l := 0) (n := 4096) (z := 0) (v := 0) (μ := ν) (by omega)
  have E' : ED νf j m X Y nx := ⟨E.1, by rw [f3 7 j 4 (by omega)]; exact E.2.1, fun k hk => by
    rw [f3 243 j k (by omega), f3 240 j k (by omega), f3 241 j k (by omega)]; exact E.2.2 k hk⟩
  obtain ⟨νd, d1, d2, d3, d4⟩ := draw_lp (rule := rule) E' hs hT FU 0 νf (by omega) (by unfold FU; omega) (fun _ _ _ _ _ _ => rfl) (fun q hq => by rw [f3 141 0 q (by omega)]; exact hz q hq) (fun q hq => by rw [f2 q hq]; rfl)
  obtain ⟨νm, m1, m2, m3⟩ := measure_C (ν := νd)
  have e140 : gI νm 140 0 = gI νd 140 0 := by funext b; exact m3 140 0 b (by omega)
  refine ⟨νm, ?_, by rw [e140]; exact m2, fun q hq => by rw [m3 141 0 q (by omega)]; exact d3 q hq, fun q hq => by rw [e140]; exact d4 q hq, fun k l b q1 q2 q3 => ?_⟩
  · unfold m_Im_draw
    rw [f1, Option.bind_some, show (0 : Int32) = nI 0 from rfl, d1]
    unfold mj_Im_draw_46
    rw [m1]; rfl
  · rw [m3 k l b (by omega), d2 k l b (by omega) (by omega) (by omega), f3 k l b (by omega)]
theorem mimg_bad {a t s rule : Int32} {μ : Mem} (h : ¬ (m_Mo_isLetter a μ = true ∧ ¬ t < 1 ∧ ¬ 256 < t ∧ ¬ s < 4 ∧ ¬ 32 < s ∧ ¬ rule < 0 ∧ ¬ 1 < rule)) : m_Mo_image a t s rule μ = some (-1, μ) := by
  unfold m_Mo_image
  by_cases c1 : m_Mo_isLetter a μ = true
  · rw [if_pos c1]
    by_cases c2 : t < 1
    · rw [if_pos c2]
    · rw [if_neg c2]
      by_cases c3 : 256 < t
      · rw [if_pos c3]
      · rw [if_neg c3]
        by_cases c4 : s < 4
        · rw [if_pos c4]
        · rw [if_neg c4]
          by_cases c5 : 32 < s
          · rw [if_pos c5]
          · rw [if_neg c5]
            by_cases c6 : rule < 0
            · rw [if_pos c6]
            · rw [if_neg c6]
              by_cases c7 : 1 < rule
              · rw [if_pos c7]
              · exact (h ⟨c1, c2, c3, c4, c5, c6, c7⟩).elim
  · rw [if_neg c1]
theorem rng {x : Int32} {a b : Int32} : (a.toInt ≤ x.toInt ∧ x.toInt ≤ b.toInt) ↔ (¬ x < a ∧ ¬ b < x) := by
  constructor
  · intro h
    exact ⟨fun q => by have := t_lt.mp q; omega, fun q => by have := t_lt.mp q; omega⟩
  · intro h
    have h1 : ¬ x.toInt < a.toInt := fun q => h.1 (t_lt.mpr q)
    have h2 : ¬ b.toInt < x.toInt := fun q => h.2 (t_lt.mpr q)
    omega
theorem mimg_good {l : Nat} {t s rule : Int32} {μ : Mem} (h : m_Mo_isLetter (nI l) μ = true ∧ ¬ t < 1 ∧ ¬ 256 < t ∧ ¬ s < 4 ∧ ¬ 32 < s ∧ ¬ rule < 0 ∧ ¬ 1 < rule) : m_Mo_image (nI l) t s rule μ = Option.bind (m_Mo_flattens (nI l) t μ) fun r1 =>
  ap (r1.2) fun μ2 =>
  if r1.1 then
 (Option.bind (m_Mo_isImage s μ2) fun r3 =>
  if r3 then
 (Option.bind (m_Mo_told  μ2) fun r4 =>
  lp_Mo_image_68 (nI l) t s rule (mj_Mo_image_90 (nI l) t s rule) FU (0) r4)
 else
 (some ((-1, μ2))))
 else
 (some ((-1, μ2))) := by
  unfold m_Mo_image
  rw [if_pos h.1, if_neg h.2.1, if_neg h.2.2.1, if_neg h.2.2.2.1, if_neg h.2.2.2.2.1, if_neg h.2.2.2.2.2.1, if_neg h.2.2.2.2.2.2]
theorem fimg_s {a t s rule : Int32} {μ : Mem} (hs : ¬ (4 ≤ s.toInt ∧ s.toInt ≤ 32)) : m_Fo_image a t s rule μ = some (-1, μ) := by
  unfold m_Fo_image m_Fo_isDots
  rw [rg_Fo, decide_eq_false (show ¬ ((4 : Int64).toInt ≤ s.toInt ∧ s.toInt ≤ (32 : Int64).toInt) from hs)]
  rfl
theorem fimg_r {a t s rule : Int32} {μ : Mem} (hs : 4 ≤ s.toInt ∧ s.toInt ≤ 32) (hr : ¬ (0 ≤ rule.toInt ∧ rule.toInt ≤ 1)) : m_Fo_image a t s rule μ = some (-1, μ) := by
  unfold m_Fo_image m_Fo_isDots
  rw [rg_Fo, decide_eq_true (show (4 : Int64).toInt ≤ s.toInt ∧ s.toInt ≤ (32 : Int64).toInt from hs), if_pos rfl, rg_Fo, decide_eq_false (show ¬ ((0 : Int64).toInt ≤ rule.toInt ∧ rule.toInt ≤ (1 : Int64).toInt) from hr)]
  rfl
theorem fimg_good {a t s rule : Int32} {μ : Mem} {j : Nat} (hs : 4 ≤ s.toInt ∧ s.toInt ≤ 32) (hr : 0 ≤ rule.toInt ∧ rule.toInt ≤ 1) (g4 : gR μ 11 0 4 = some j) : m_Fo_image a t s rule μ = Option.bind (m_Fo_letterOf a μ) fun r1 => Option.bind (m_Fl_fill (r1) t j μ) fun r4 =>
  ap (r4.2) fun μ5 =>
  if r4.1 then
 (ap (gR μ5 11 (0) 4) fun o6 =>
  Option.bind o6 fun y7 =>
  Option.bind (m_Im_holds (y7) s μ5) fun r8 =>
  if r8 then
 (ap (m_Fo_takeSparePolygons  μ5) fun r9 =>
  ap (gR r9 11 (0) 3) fun o10 =>
  Option.bind o10 fun y11 =>
  Option.bind (m_Im_draw (y11) s rule r9) fun r12 =>
  some ((gI r12 2 (0) 4, r12)))
 else
 (some ((-1, μ5))))
 else
 (some ((-1, μ5))) := by
  unfold m_Fo_image m_Fo_isDots
  rw [rg_Fo, decide_eq_true (show (4 : Int64).toInt ≤ s.toInt ∧ s.toInt ≤ (32 : Int64).toInt from hs), if_pos rfl, rg_Fo, decide_eq_true (show (0 : Int64).toInt ≤ rule.toInt ∧ rule.toInt ≤ (1 : Int64).toInt from hr), if_pos rfl]
  congr 1
  funext r1
  rw [ap, g4, Option.bind_some]
