theorem cf_b {F : Nat → Bool} {D q : Nat} : ∀ c, CF F D q c ≤ (if D ≤ q then min 8 (c - 8 * (q - D)) else 0) := by
  intro c
  induction c with
  | zero => exact Nat.zero_le _
  | succ c ih =>
    show CF F D q c + (if F c = true ∧ D + c / 8 = q then 1 else 0) ≤ _
    by_cases w : F c = true ∧ D + c / 8 = q
    · have := w.2
      rw [if_pos w]
      rw [if_pos (by omega)] at ih ⊢
      omega
    · rw [if_neg w]
      by_cases w2 : D ≤ q
      · rw [if_pos w2] at ih ⊢; omega
      · rw [if_neg w2] at ih ⊢; omega
theorem pd_b {X Y : Nat → Int32} {nx : Nat → Nat} {s : Int} {rule : Int32} {m q : Nat} : ∀ r, PD X Y nx s rule m q r ≤ 8 * min 8 (r - 8 * (q / 64)) := by
  intro r
  induction r with
  | zero => exact Nat.zero_le _
  | succ r ih =>
    show PD X Y nx s rule m q r + CF (FRW X Y nx s rule m r) (64 * (r / 8)) q 512 ≤ _
    have c := cf_b (F := FRW X Y nx s rule m r) (D := 64 * (r / 8)) (q := q) 512
    by_cases w : 64 * (r / 8) ≤ q
    · rw [if_pos w] at c; omega
    · rw [if_neg w] at c; omega
theorem pd_64 {X Y : Nat → Int32} {nx : Nat → Nat} {s : Int} {rule : Int32} {m q r : Nat} : PD X Y nx s rule m q r ≤ 64 := by
  have := pd_b (X := X) (Y := Y) (nx := nx) (s := s) (rule := rule) (m := m) (q := q) r
  omega
