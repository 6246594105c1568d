/-- the place of a row of samples -/
def yr (r : Nat) : Int := -16384 + r * 128 + 64
def FRW (X Y : Nat → Int32) (nx : Nat → Nat) (s : Int) (rule : Int32) (m r c : Nat) : Bool := fil rule (ts (fun p => sumI (mk X Y nx s (yr r) p) m) (512 - c))
/-- the count of dot q behind r rows of samples -/
def PD (X Y : Nat → Int32) (nx : Nat → Nat) (s : Int) (rule : Int32) (m q : Nat) : Nat → Nat
  | 0 => 0
  | r + 1 => PD X Y nx s rule m q r + CF (FRW X Y nx s rule m r) (64 * (r / 8)) q 512
theorem draw_lp {ν0 : Mem} {j m : Nat} {X Y : Nat → Int32} {nx : Nat → Nat} {s rule : Int32} (E : ED ν0 j m X Y nx) (hs : 4 ≤ s.toInt ∧ s.toInt ≤ 32) (hT : ∀ y, ts (fun p => sumI (mk X Y nx s.toInt y p) m) 513 = 0) : ∀ f r ν, r ≤ 512 → 512 - r < f → (∀ k l b, ¬ (k = 141 ∧ l = 0 ∧ b ≤ 512) → ¬ (k = 140 ∧ l = 0 ∧ b < 4096) → ¬ (k = 2 ∧ (b = 2 ∨ b = 3)) → gI ν k l b = gI ν0 k l b) → (∀ q, q ≤ 512 → gI ν 141 0 q = 0) → (∀ q, q < 4096 → gI ν 140 0 q = nI (PD X Y nx s.toInt rule m q r)) →
    ∃ ν', (∀ c, lp_Im_draw_11 j s rule c f (nI r) ν = c ν') ∧ (∀ k l b, ¬ (k = 141 ∧ l = 0 ∧ b ≤ 512) → ¬ (k = 140 ∧ l = 0 ∧ b < 4096) → ¬ (k = 2 ∧ (b = 2 ∨ b = 3)) → gI ν' k l b = gI ν0 k l b) ∧ (∀ q, q ≤ 512 → gI ν' 141 0 q = 0) ∧ (∀ q, q < 4096 → gI ν' 140 0 q = nI (PD X Y nx s.toInt rule m q 512)) := by
  intro f
  induction f with
  | zero => intro r ν h1 h2; omega
  | succ f ih =>
    intro r ν h1 h2 hf hz hd
    by_cases h : 512 ≤ r
    · obtain rfl : r = 512 := by omega
      exact ⟨ν, fun c => by rw [lp_Im_draw_11, if_pos (by decide)], hf, hz, hd⟩
    · have n1 : nI r + 1 = nI (r + 1) := nI_add r 1
      have i2 : nI r / 8 = nI (r / 8) := ndiv (n := 8) (by omega) (by omega)
      have i3 : nI (r / 8) * 64 = nI (64 * (r / 8)) := by rw [show (64 : Int32) = nI 64 from rfl, pk_mul, Nat.mul_comm]
      have E' : ED ν j m X Y nx := ⟨E.1, by rw [hf 7 j 4 (by omega) (by omega) (by omega)]; exact E.2.1, fun k hk => by
        rw [hf 243 j k (by omega) (by omega) (by omega), hf 240 j k (by omega) (by omega) (by omega), hf 241 j k (by omega) (by omega) (by omega)]; exact E.2.2 k hk⟩
      obtain ⟨ν1, ν2, r1, r2, r3, r4, r5⟩ := row_C (rule := rule) (D := 64 * (r / 8)) (y := yr r) E' hs (show r < 512 by omega) rfl (by omega) hz (hT (yr r))
      obtain ⟨ν3, s1, s2⟩ := ih (r + 1) ν2 (by omega) (by omega) (fun k l b q1 q2 q3 => by rw [r5 k l b q1 q2 q3]; exact hf k l b q1 q2 q3) r3 (fun q hq => by
        rw [r4 q hq, hd q hq, nI_add]; rfl)
      refine ⟨ν3, fun c => ?_, s2⟩
      rw [lp_Im_draw_11, if_neg (by rw [show (512 : Int32) = nI 512 from rfl, nle (by omega) (by omega)]; exact h), r1, Option.bind_some, i2, i3, r2, Option.bind_some, ap, n1]
      exact s1 c
