theorem ts_hi {M : Nat → Int32} {hi : Nat} (h : ∀ q, hi < q → q ≤ 512 → M q = 0) : ∀ r, r + hi ≤ 512 → ts M r = 0 := by
  intro r
  induction r with
  | zero => intro _; rfl
  | succ r ih =>
    intro hr
    show ts M r + M (512 - r) = 0
    rw [ih (by omega), h (512 - r) (by omega) (by omega)]; rfl
theorem ts_lo {M : Nat → Int32} {lo : Nat} (h : ∀ q, q < lo → q ≤ 512 → M q = 0) (h0 : ts M 513 = 0) : ∀ p, p ≤ lo → p ≤ 513 → ts M (513 - p) = 0 := by
  intro p
  induction p with
  | zero => intro _ _; exact h0
  | succ p ih =>
    intro h1 h2
    have := ih (by omega) (by omega)
    rw [show 513 - p = (513 - (p + 1)) + 1 by omega] at this
    have e : ts M (513 - (p + 1)) + M (512 - (513 - (p + 1))) = 0 := this
    rw [show 512 - (513 - (p + 1)) = p by omega, h p (by omega) (by omega), Int32.add_zero] at e
    exact e
theorem fil0 {rule : Int32} : fil rule 0 = false := by
  unfold fil
  by_cases w : rule = 0
  · rw [if_pos w]; rfl
  · rw [if_neg w]; rfl
theorem cf_flat {F : Nat → Bool} {D q a : Nat} : ∀ d, (∀ c, a ≤ c → c < a + d → F c = false) → CF F D q (a + d) = CF F D q a := by
  intro d
  induction d with
  | zero => intro _; rfl
  | succ d ih =>
    intro h
    show CF F D q (a + d) + (if F (a + d) = true ∧ D + (a + d) / 8 = q then 1 else 0) = _
    rw [if_neg (fun z => by rw [h (a + d) (by omega) (by omega)] at z; exact absurd z.1 (by decide)), ih (fun c h1 h2 => h c h1 (by omega))]; rfl
/-- one row of the picture: what the class does -/
theorem row_C {ν : Mem} {j m row D : Nat} {X Y : Nat → Int32} {nx : Nat → Nat} {s rule : Int32} {y : Int} (E : ED ν j m X Y nx) (hs : 4 ≤ s.toInt ∧ s.toInt ≤ 32) (hrow : row < 512) (hy : y = -16384 + row * 128 + 64) (hD : D + 63 < 4096) (hz : ∀ q, q ≤ 512 → gI ν 141 0 q = 0) (hT : ts (fun p => sumI (mk X Y nx s.toInt y p) m) 513 = 0) :
    ∃ ν1 ν2, m_Im_markRow j s (nI row) ν = some ν1 ∧ m_Im_countRow (nI D) rule ν1 = some ν2 ∧ (∀ q, q ≤ 512 → gI ν2 141 0 q = 0) ∧ (∀ q, q < 4096 → gI ν2 140 0 q = gI ν 140 0 q + nI (CF (fun c => fil rule (ts (fun p => sumI (mk X Y nx s.toInt y p) m) (512 - c))) D q 512)) ∧ (∀ k l b, ¬ (k = 141 ∧ l = 0 ∧ b ≤ 512) → ¬ (k = 140 ∧ l = 0 ∧ b < 4096) → ¬ (k = 2 ∧ (b = 2 ∨ b = 3)) → gI ν2 k l b = gI ν k l b) := by
  obtain ⟨ν0, hν0⟩ : ∃ ν0, ν0 = sI (sI ν 2 0 2 513) 2 0 3 0 := ⟨_, rfl⟩
  have n1 : nI row * 128 = nI (row * 128) := by rw [show (128 : Int32) = nI 128 from rfl, pk_mul]
  have yv : (((-16384 : Int32) + nI row * 128 + 64).toInt64).toInt = y := by
    have a1 : ((-16384 : Int32) + nI (row * 128)).toInt = -16384 + (row * 128 : Nat) := by
      rw [t_add, nI_toInt (by omega)]; rfl
      rw [nI_toInt (by omega), show (-16384 : Int32).toInt = -16384 from by decide]; omega
    rw [i64, n1, t_add, a1, show (64 : Int32).toInt = 64 from by decide]
    · rw [hy]; omega
    · rw [a1, show (64 : Int32).toInt = 64 from by decide]; omega
  generalize hyL : ((-16384 : Int32) + nI row * 128 + 64).toInt64 = yL at yv
  have fr0 : ∀ k l b, ¬ (k = 2 ∧ (b = 2 ∨ b = 3)) → gI ν0 k l b = gI ν k l b := fun k l b q => by rw [hν0, gI_sI, if_neg (by omega), gI_sI, if_neg (by omega)]
  have M0 : MKS ν ν0 X Y nx s.toInt yL.toInt 0 := ⟨513, 0, by omega, by omega, by rw [hν0, gI_ne2 (by omega), gI_self]; rfl, by rw [hν0, gI_self]; rfl, fun p hp => by rw [fr0 141 0 p (by omega), hz p hp]; rfl, fun k' hk' => by omega, fun k' l b _ q2 => fr0 k' l b q2⟩
  obtain ⟨ν1, r1, r2⟩ := markRow_lp (a3 := nI row) E hs (by rw [yv, hy]; omega) FU 0 ν0 (by omega) (by have := E.1; unfold FU; omega) M0
  have e1 : m_Im_markRow j s (nI row) ν = some ν1 := by
    unfold m_Im_markRow
    rw [ap, ap, ← hν0, hyL, ap, show (0 : Int32) = nI 0 from rfl]
    exact r1
  rw [yv] at r2
  obtain ⟨lo, hi, a1, a2, a3, a4, a5, a6, a7⟩ := r2
  have mz : ∀ q, (q < lo ∨ hi < q) → sumI (mk X Y nx s.toInt y q) m = 0 := fun q hq => sum_zero fun k hk => by
    unfold mk
    by_cases w : nk X Y nx s.toInt y k = q
    · rw [if_pos w]
      by_cases w2 : drk X Y nx s.toInt y k = 0
      · exact w2
      · have := a6 k hk w2; omega
    · rw [if_neg w]
  obtain ⟨M, hM⟩ : ∃ M : Nat → Int32, M = fun p => sumI (mk X Y nx s.toInt y p) m := ⟨_, rfl⟩
  rw [← hM] at hT ⊢
  have mhi : ∀ q, hi < q → q ≤ 512 → M q = 0 := fun q h1 _ => by rw [hM]; exact mz q (Or.inr h1)
  have mlo : ∀ q, q < lo → q ≤ 512 → M q = 0 := fun q h1 _ => by rw [hM]; exact mz q (Or.inl h1)
  obtain ⟨F, hF⟩ : ∃ F : Nat → Bool, F = fun c => fil rule (ts M (512 - c)) := ⟨_, rfl⟩
  rw [← hF]
  have Fhi : ∀ c, hi ≤ c → c < 512 → F c = false := fun c h1 h2 => by rw [hF]; show fil rule (ts M (512 - c)) = false; rw [ts_hi mhi (512 - c) (by omega)]; exact fil0
  have Flo : ∀ c, c < lo - 1 → c < 512 → F c = false := fun c h1 h2 => by rw [hF]; show fil rule (ts M (512 - c)) = false; rw [show 512 - c = 513 - (c + 1) by omega, ts_lo mlo hT (c + 1) (by omega) (by omega)]; exact fil0
  have chi : ∀ q, CF F D q 512 = CF F D q hi := fun q => by
    have := cf_flat (F := F) (D := D) (q := q) (a := hi) (512 - hi) (fun c h1 h2 => Fhi c h1 (by omega))
    rw [show hi + (512 - hi) = 512 by omega] at this; exact this
  have clo : ∀ q x, x ≤ lo - 1 → x ≤ 512 → CF F D q x = 0 := fun q x hx hx2 => by
    have := cf_flat (F := F) (D := D) (q := q) (a := 0) x (fun c h1 h2 => Flo c (by omega) (by omega))
    rw [Nat.zero_add] at this; exact this
  obtain ⟨ν2, s1, s2, s3, s4, s5⟩ := count_lp (base := fun q => gI ν 140 0 q) hF hD a1 FU (hi + 1) ν1 (by omega) (by unfold FU; omega) a3 (fun q h1 h2 => by rw [a5 q h2, hM]) (fun q h1 h2 => by rw [a5 q h2]; exact mz q (Or.inr (by omega))) (fun q hq => by
    rw [a7 140 0 q (by omega) (by omega), chi q, show hi + 1 - 1 = hi by omega, Nat.sub_self]
    show gI ν 140 0 q = gI ν 140 0 q + 0
    rw [Int32.add_zero])
  refine ⟨ν1, ν2, e1, ?_, fun q hq => ?_, fun q hq => ?_, fun k l b q1 q2 q3 => by rw [s5 k l b q1 q2, a7 k l b q1 q3]⟩
  · rw [show nI (hi + 1) - 1 = nI hi from pk_sub (b := 1) (by omega), show 513 - (hi + 1) = 512 - hi by omega, ts_hi mhi (512 - hi) (by omega)] at s1
    unfold m_Im_countRow
    rw [ap, a4]; exact s1
  · by_cases w : q < min (hi + 1) lo
    · rw [s2 q w hq]; exact mlo q (by omega) hq
    · exact s3 q (by omega) hq
  · rw [s4 q hq, clo q (min (hi + 1) lo - 1) (by omega) (by omega), Nat.sub_zero]
