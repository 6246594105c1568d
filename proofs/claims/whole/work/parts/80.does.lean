theorem st_head {μ : Mem} {j p c : Nat} {e : Nat → Nat} {A : Nat} {ν ξ : Mem} {h q at_ o l : Nat} {ft a : Int32} (hl : l < 32) (hA : A ≤ 100) (hat : at_ < A) (ho : o < 31) (D : DY μ j p c e A ν ξ h q (nI at_) ft) (c260 : gI ν 260 l at_ = nI o) (c261 : gI ν 261 l at_ = a) (c82 : gI ν 8 l 2 = nI A) (d358 : gI ξ 358 0 (100 * l + at_) = nI o) (d359 : gI ξ 359 0 (100 * l + at_) = a)
    (f1 : m_Ru_faultAhead (nI o) a (nI A) j ν = some (nI 0)) (f2 : m_Mo_faultOf (nI l) (nI o) a ξ = some (nI 0)) :
    ((o ≤ 3 ∨ o = 20 ∨ o = 21) → m_Ru_step l j ν = Option.bind (m_Ru_carry (nI o) a (sI ν 9 0 5 (nI (at_ + 1)))) fun r7 => some (0, r7)) ∧
    ((8 ≤ o ∧ o ≤ 11) → m_Ru_step l j ν = Option.bind (m_Ru_pop (sI ν 9 0 5 (nI (at_ + 1)))) fun r16 => Option.bind (m_Ru_ofOne (nI o) r16.1.toInt64 r16.2) fun r19 => Option.bind (m_Ru_pushNumber r19 r16.2) fun r20 => some (r20.1, r20.2)) ∧
    (((4 ≤ o ∧ o ≤ 7) ∨ (12 ≤ o ∧ o ≤ 15)) → m_Ru_step l j ν = Option.bind (m_Ru_reckonTwo (nI o) (sI ν 9 0 5 (nI (at_ + 1)))) fun r13 => some (r13.1, r13.2)) ∧
    (((16 ≤ o ∧ o ≤ 19) ∨ o = 30) → m_Ru_step l j ν = Option.bind (m_Ru_go (nI o) a (nI A) (sI ν 9 0 5 (nI (at_ + 1)))) fun r8 => some (0, r8)) ∧
    ((22 ≤ o ∧ o ≤ 27) → m_Ru_step l j ν = Option.bind (m_Ru_usePoint (nI o) a j (sI ν 9 0 5 (nI (at_ + 1)))) fun r11 => some (0, r11)) ∧
    ((28 ≤ o ∧ o ≤ 29) → m_Ru_step l j ν = Option.bind (m_Fit_fitAll j (nI (o - 28)) (sI ν 9 0 5 (nI (at_ + 1)))) fun r9 => if r9.1 then some (0, r9.2) else some (8, r9.2)) ∧
    ((o < 4 ∨ 15 < o) → m_Mo_does (nI l) (nI at_) ξ = mj_Mo_does_93 (nI l) (nI at_) (nI o) a (sI ξ 12 0 52 0)) ∧
    ((4 ≤ o ∧ o ≤ 15) → m_Mo_does (nI l) (nI at_) ξ = Option.bind (m_Mo_pop (sI ξ 12 0 52 0)) fun r55 => if m_Mo_wants (nI o) r55.2 = 2 then Option.bind (m_Mo_pop r55.2) fun r60 => mj_Mo_does_81 (nI l) (nI at_) r55.1 r60.1 (nI o) r60.2 else mj_Mo_does_81 (nI l) (nI at_) r55.1 0 (nI o) r55.2) := by
  have n1 : nI at_ + 1 = nI (at_ + 1) := nI_add at_ 1
  have i100 : 100 * nI l + nI at_ = nI (100 * l + at_) := ix100 l at_
  have c5 := D.2.2.2.2.2.1.1
  obtain ⟨t1, _⟩ := tab ho
  have l3 : (nI o ≤ 3) = (o ≤ 3) := nle (b := 3) (by omega) (by omega)
  have e20 : (nI o = 20) = (o = 20) := neq (b := 20) (by omega) (by omega)
  have e21 : (nI o = 21) = (o = 21) := neq (b := 21) (by omega) (by omega)
  have g15 : (15 < nI o) = (15 < o) := nlt (a := 15) (by omega) (by omega)
  have l19 : (nI o ≤ 19) = (o ≤ 19) := nle (b := 19) (by omega) (by omega)
  have e30 : (nI o = 30) = (o = 30) := neq (b := 30) (by omega) (by omega)
  have g27 : (27 < nI o) = (27 < o) := nlt (a := 27) (by omega) (by omega)
  have l4 : (nI o < 4) = (o < 4) := nlt (b := 4) (by omega) (by omega)
  have c82' : ∀ x, gI (sI ν 9 0 5 x) 8 l 2 = nI A := fun x => by rw [gI_ne (by omega)]; exact c82
  have HC : m_Ru_step l j ν = (if nI o ≤ 3 then mj_Ru_step_70 l j (nI o) a (sI ν 9 0 5 (nI (at_ + 1))) else if nI o = 20 then mj_Ru_step_70 l j (nI o) a (sI ν 9 0 5 (nI (at_ + 1))) else if nI o = 21 then mj_Ru_step_70 l j (nI o) a (sI ν 9 0 5 (nI (at_ + 1))) else if 15 < nI o then (if nI o ≤ 19 then mj_Ru_step_128 l j (nI o) a (sI ν 9 0 5 (nI (at_ + 1))) else if nI o = 30 then mj_Ru_step_128 l j (nI o) a (sI ν 9 0 5 (nI (at_ + 1))) else if 27 < nI o then (Option.bind (m_Fit_fitAll j (nI o - 28) (sI ν 9 0 5 (nI (at_ + 1)))) fun r9 => if r9.1 then some (0, r9.2) else some (8, r9.2)) else Option.bind (m_Ru_usePoint (nI o) a j (sI ν 9 0 5 (nI (at_ + 1)))) fun r11 => some (0, r11))
      else if nI (tk o) = 1 then (Option.bind (m_Ru_pop (sI ν 9 0 5 (nI (at_ + 1)))) fun r16 => Option.bind (m_Ru_ofOne (nI o) r16.1.toInt64 r16.2) fun r19 => Option.bind (m_Ru_pushNumber r19 r16.2) fun r20 => some (r20.1, r20.2)) else Option.bind (m_Ru_reckonTwo (nI o) (sI ν 9 0 5 (nI (at_ + 1)))) fun r13 => some (r13.1, r13.2)) := by
    unfold m_Ru_step
    simp only [ap]
    rw [c5, nI_clamp (by omega), gu_nI (by omega) (by omega), gu_nI (by omega) (by omega), c260, c261, c82, f1]
    simp only [Option.bind_some]
    rw [if_pos (show nI 0 = 0 from rfl), n1, nI_clamp (by omega), gu_nI (l := o) (n := 31) (by omega) (by omega), t1]
  have HM : m_Mo_does (nI l) (nI at_) ξ = (if nI o < 4 then mj_Mo_does_93 (nI l) (nI at_) (nI o) a (sI ξ 12 0 52 0) else if 15 < nI o then mj_Mo_does_93 (nI l) (nI at_) (nI o) a (sI ξ 12 0 52 0) else Option.bind (m_Mo_pop (sI ξ 12 0 52 0)) fun r55 => if m_Mo_wants (nI o) r55.2 = 2 then Option.bind (m_Mo_pop r55.2) fun r60 => mj_Mo_does_81 (nI l) (nI at_) r55.1 r60.1 (nI o) r60.2 else mj_Mo_does_81 (nI l) (nI at_) r55.1 0 (nI o) r55.2) := by
    unfold m_Mo_does
    simp (disch := omega) only [i100, gu_nI, nI_clamp, ap, d358, d359, f2, Option.bind_some, gI_self]
    rw [if_pos (show nI 0 ≤ 0 from by decide)]
    rfl
  rw [HC, HM]
  refine ⟨fun w => ?_, fun w => ?_, fun w => ?_, fun w => ?_, fun w => ?_, fun w => ?_, fun w => ?_, fun w => ?_⟩
  · by_cases q : o ≤ 3
    · rw [if_pos (by rw [l3]; exact q)]; rfl
    · rw [if_neg (by rw [l3]; exact q)]
      by_cases q2 : o = 20
      · rw [if_pos (by rw [e20]; exact q2)]; rfl
      · rw [if_neg (by rw [e20]; exact q2), if_pos (by rw [e21]; omega)]; rfl
  · have k : tk o = 1 := by rcases (show o = 8 ∨ o = 9 ∨ o = 10 ∨ o = 11 by omega) with rfl | rfl | rfl | rfl <;> rfl
    rw [if_neg (by rw [l3]; omega), if_neg (by rw [e20]; omega), if_neg (by rw [e21]; omega), if_neg (by rw [g15]; omega), if_pos (by rw [k]; rfl)]
  · have k : tk o = 2 := by rcases (show o = 4 ∨ o = 5 ∨ o = 6 ∨ o = 7 ∨ o = 12 ∨ o = 13 ∨ o = 14 ∨ o = 15 by omega) with rfl | rfl | rfl | rfl | rfl | rfl | rfl | rfl <;> rfl
    rw [if_neg (by rw [l3]; omega), if_neg (by rw [e20]; omega), if_neg (by rw [e21]; omega), if_neg (by rw [g15]; omega), if_neg (by rw [k]; decide)]
  · rw [if_neg (by rw [l3]; omega), if_neg (by rw [e20]; omega), if_neg (by rw [e21]; omega), if_pos (by rw [g15]; omega)]
    by_cases q : o ≤ 19
    · rw [if_pos (by rw [l19]; exact q)]; unfold mj_Ru_step_128; rw [c82']
    · rw [if_neg (by rw [l19]; exact q), if_pos (by rw [e30]; omega)]; unfold mj_Ru_step_128; rw [c82']
  · rw [if_neg (by rw [l3]; omega), if_neg (by rw [e20]; omega), if_neg (by rw [e21]; omega), if_pos (by rw [g15]; omega), if_neg (by rw [l19]; omega), if_neg (by rw [e30]; omega), if_neg (by rw [g27]; omega)]
  · have k : nI o - 28 = nI (o - 28) := pk_sub (b := 28) (by omega)
    rw [if_neg (by rw [l3]; omega), if_neg (by rw [e20]; omega), if_neg (by rw [e21]; omega), if_pos (by rw [g15]; omega), if_neg (by rw [l19]; omega), if_neg (by rw [e30]; omega), if_pos (by rw [g27]; omega), k]
  · by_cases q : o < 4
    · rw [if_pos (by rw [l4]; exact q)]
    · rw [if_neg (by rw [l4]; exact q), if_pos (by rw [g15]; omega)]
  · rw [if_neg (by rw [l4]; omega), if_neg (by rw [g15]; omega)]
