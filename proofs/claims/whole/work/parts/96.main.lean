theorem pure_main (L : Nat) (xs : Nat → Int32) (hL : L ≤ 3584) : ∃ μ1 μ2, m_Fo_init (nw em 11 0) = some μ1 ∧ gF μ1 12 0 = false ∧ m_Mo_init (nw μ1 12 0) = some μ2 ∧ LinkOK μ2 ∧ lp_Law_18 L xs 513 0 μ2 = some true := by
  obtain ⟨μ1, μ2, e1, e2, e3, C⟩ := both_init
  exact ⟨μ1, μ2, e1, e2, e3, cs_link C lnk_ok, law_lp hL 513 0 μ2 (by omega) (by omega) (cs_iz C)⟩
