theorem pure_main (L : Nat) (xs : Nat → Int32) (hL : L ≤ 3584) : ∃ μ1 μ2, m_Fo_init (nw em 11 0) = some μ1 ∧ gF μ1 12 0 = false ∧ m_Mo_init (nw μ1 12 0) = some μ2 ∧ LinkOK μ2 ∧ lp_Law_18 L xs 513 0 μ2 = some true := by
  sorry
