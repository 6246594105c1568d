theorem cn_if {c : Prop} {d : Decidable c} {a b : Option Bool} (h1 : c → a = some true) (h2 : ¬ c → b = some true) : @ite (Option Bool) c d a b = some true := by
  by_cases h : c
  · rw [if_pos h]; exact h1 h
  · rw [if_neg h]; exact h2 h
theorem cn_eq {c : Prop} {d : Decidable c} {a b : Option Bool} (hc : c) (h : a = some true) : @ite (Option Bool) c d a b = some true := by
  rw [if_pos hc]; exact h
theorem cn_gu {i : Int32} {n : Nat} {x : Option Bool} (hi : 0 ≤ i.toInt ∧ i.toInt < (n : Int)) (h : x = some true) : gu i n x = some true := by
  rw [gu_ok hi]; exact h
theorem cn_ap {α : Type} {x : α} {f : α → Option Bool} (h : f x = some true) : ap x f = some true := h
theorem cn_bd {α : Type} {x : Option α} {r : α} {f : α → Option Bool} (hx : x = some r) (h : f r = some true) : Option.bind x f = some true := by
  rw [hx]; exact h
theorem law_lp {L : Nat} {xs : Nat → Int32} (hL : L ≤ 3584) : ∀ f k μ, k ≤ 512 → 512 - k < f → IZ μ → lp_Law_18 L xs f (nI (7 * k)) μ = some true := by
  intro f
  induction f with
  | zero => intro k μ h1 h; omega
  | succ f ih =>
    intro k μ h1 h2 Z
    rw [lp_Law_18]
    refine cn_if (fun _ => rfl) (fun hc => ?_)
    have hk : 7 * k + 7 ≤ L := by
      have e1 : (Int32.ofNat L - 7).toInt = (L : Int) - 7 := by
        show (nI L - 7).toInt = _
        rw [t_sub] <;> rw [nI_toInt (by omega)] <;> simp <;> omega
      have e2 : ¬ (Int32.ofNat L - 7).toInt < (nI (7 * k)).toInt := fun q => hc (t_lt.mpr q)
      rw [e1, nI_toInt (by omega)] at e2
      omega
    have gj : ∀ (j : Nat), j < 7 → ∀ y, nI (7 * k + j) = y → 0 ≤ y.toInt ∧ y.toInt < (L : Int) := by
      rintro j hj y rfl
      rw [nI_toInt (by omega)]
      omega
    have g0 := gj 0 (by omega) (nI (7 * k)) rfl
    have g1 := gj 1 (by omega) (nI (7 * k) + 1) (nI_add (7 * k) 1).symm
    have g2 := gj 2 (by omega) (nI (7 * k) + 2) (nI_add (7 * k) 2).symm
    have g3 := gj 3 (by omega) (nI (7 * k) + 3) (nI_add (7 * k) 3).symm
    have g4 := gj 4 (by omega) (nI (7 * k) + 4) (nI_add (7 * k) 4).symm
    have g5 := gj 5 (by omega) (nI (7 * k) + 5) (nI_add (7 * k) 5).symm
    have g6 := gj 6 (by omega) (nI (7 * k) + 6) (nI_add (7 * k) 6).symm
    have K : ∀ ν, IZ ν → mj_Law_1463 L xs (lp_Law_18 L xs f) (nI (7 * k)) ν = some true := fun ν hν => by
      unfold mj_Law_1463
      rw [ap, show nI (7 * k) + 7 = nI (7 * (k + 1)) from nI_add (7 * k) 7]
      exact ih (k + 1) ν (by omega) (by omega) hν
    clear ih gj hc
    generalize lp_Law_18 L xs f = C at K ⊢
    generalize nI (7 * k) = y3 at K g0 g1 g2 g3 g4 g5 g6 ⊢
    refine cn_gu g0 (cn_ap ?_)
    refine cn_if (fun _ => ?_) (fun _ => ?_)
    · obtain ⟨r, ν1, ν2, e1, e2, e3⟩ := oz_letter Z (xs (y3 + 1).toNatClampNeg) (xs (y3 + 2).toNatClampNeg)
      refine cn_gu g1 ?_
      refine cn_gu g2 ?_
      refine cn_bd e1 ?_
      refine cn_ap ?_
      refine cn_ap ?_
      refine cn_gu g1 ?_
      refine cn_gu g2 ?_
      refine cn_bd e2 ?_
      refine cn_ap ?_
      refine cn_ap ?_
      refine cn_eq rfl ?_
      exact K _ e3
    refine cn_if (fun _ => ?_) (fun _ => ?_)
    · have e3 := Z
      obtain ⟨n, I, _⟩ := Z
      obtain ⟨r, e1, e2⟩ := op_find I (xs (y3 + 1).toNatClampNeg)
      refine cn_gu g1 ?_
      refine cn_bd e1 ?_
      refine cn_gu g1 ?_
      refine cn_bd e2 ?_
      refine cn_eq rfl ?_
      exact K _ e3
    refine cn_if (fun _ => ?_) (fun _ => ?_)
    · obtain ⟨r, ν1, ν2, e1, e2, e3⟩ := oz_outline Z (xs (y3 + 1).toNatClampNeg)
      refine cn_gu g1 ?_
      refine cn_bd e1 ?_
      refine cn_ap ?_
      refine cn_ap ?_
      refine cn_gu g1 ?_
      refine cn_bd e2 ?_
      refine cn_ap ?_
      refine cn_ap ?_
      refine cn_eq rfl ?_
      exact K _ e3
    refine cn_if (fun _ => ?_) (fun _ => ?_)
    · obtain ⟨r, ν1, ν2, e1, e2, e3⟩ := oz_point Z (xs (y3 + 1).toNatClampNeg) (xs (y3 + 2).toNatClampNeg) (xs (y3 + 3).toNatClampNeg) (xs (y3 + 4).toNatClampNeg)
      refine cn_gu g1 ?_
      refine cn_gu g2 ?_
      refine cn_gu g3 ?_
      refine cn_gu g4 ?_
      refine cn_bd e1 ?_
      refine cn_ap ?_
      refine cn_ap ?_
      refine cn_gu g1 ?_
      refine cn_gu g2 ?_
      refine cn_gu g3 ?_
      refine cn_gu g4 ?_
      refine cn_bd e2 ?_
      refine cn_ap ?_
      refine cn_ap ?_
      refine cn_eq rfl ?_
      exact K _ e3
    refine cn_if (fun _ => ?_) (fun _ => ?_)
    · obtain ⟨r, ν1, ν2, e1, e2, e3⟩ := oz_close Z (xs (y3 + 1).toNatClampNeg)
      refine cn_gu g1 ?_
      refine cn_bd e1 ?_
      refine cn_ap ?_
      refine cn_ap ?_
      refine cn_gu g1 ?_
      refine cn_bd e2 ?_
      refine cn_ap ?_
      refine cn_ap ?_
      refine cn_eq rfl ?_
      exact K _ e3
    refine cn_if (fun _ => ?_) (fun _ => ?_)
    · obtain ⟨r, ν1, ν2, e1, e2, e3⟩ := oz_drop Z (xs (y3 + 1).toNatClampNeg)
      refine cn_gu g1 ?_
      refine cn_bd e1 ?_
      refine cn_ap ?_
      refine cn_ap ?_
      refine cn_gu g1 ?_
      refine cn_bd e2 ?_
      refine cn_ap ?_
      refine cn_ap ?_
      refine cn_eq rfl ?_
      exact K _ e3
    refine cn_if (fun _ => ?_) (fun _ => ?_)
    · obtain ⟨r, ν1, ν2, e1, e2, e3⟩ := oz_move Z (xs (y3 + 1).toNatClampNeg) (xs (y3 + 2).toNatClampNeg) (xs (y3 + 3).toNatClampNeg) (xs (y3 + 4).toNatClampNeg)
      refine cn_gu g1 ?_
      refine cn_gu g2 ?_
      refine cn_gu g3 ?_
      refine cn_gu g4 ?_
      refine cn_bd e1 ?_
      refine cn_ap ?_
      refine cn_gu g1 ?_
      refine cn_gu g2 ?_
      refine cn_gu g3 ?_
      refine cn_gu g4 ?_
      refine cn_bd e2 ?_
      refine cn_ap ?_
      refine cn_eq rfl ?_
      exact K _ e3
    refine cn_if (fun _ => ?_) (fun _ => ?_)
    · obtain ⟨r, ν1, ν2, e1, e2, e3⟩ := oz_reverse Z (xs (y3 + 1).toNatClampNeg) (xs (y3 + 2).toNatClampNeg)
      refine cn_gu g1 ?_
      refine cn_gu g2 ?_
      refine cn_bd e1 ?_
      refine cn_ap ?_
      refine cn_gu g1 ?_
      refine cn_gu g2 ?_
      refine cn_bd e2 ?_
      refine cn_ap ?_
      refine cn_eq rfl ?_
      exact K _ e3
    refine cn_if (fun _ => ?_) (fun _ => ?_)
    · obtain ⟨r, ν1, ν2, e1, e2, e3⟩ := oz_part Z (xs (y3 + 1).toNatClampNeg) (xs (y3 + 2).toNatClampNeg) (xs (y3 + 3).toNatClampNeg) (xs (y3 + 4).toNatClampNeg)
      refine cn_gu g1 ?_
      refine cn_gu g2 ?_
      refine cn_gu g3 ?_
      refine cn_gu g4 ?_
      refine cn_bd e1 ?_
      refine cn_ap ?_
      refine cn_ap ?_
      refine cn_gu g1 ?_
      refine cn_gu g2 ?_
      refine cn_gu g3 ?_
      refine cn_gu g4 ?_
      refine cn_bd e2 ?_
      refine cn_ap ?_
      refine cn_ap ?_
      refine cn_eq rfl ?_
      exact K _ e3
    refine cn_if (fun _ => ?_) (fun _ => ?_)
    · obtain ⟨r, ν1, ν2, e1, e2, e3⟩ := oz_matrix Z (xs (y3 + 1).toNatClampNeg) (xs (y3 + 2).toNatClampNeg) (xs (y3 + 3).toNatClampNeg) (xs (y3 + 4).toNatClampNeg) (xs (y3 + 5).toNatClampNeg) (xs (y3 + 6).toNatClampNeg)
      refine cn_gu g1 ?_
      refine cn_gu g2 ?_
      refine cn_gu g3 ?_
      refine cn_gu g4 ?_
      refine cn_gu g5 ?_
      refine cn_gu g6 ?_
      refine cn_bd e1 ?_
      refine cn_ap ?_
      refine cn_gu g1 ?_
      refine cn_gu g2 ?_
      refine cn_gu g3 ?_
      refine cn_gu g4 ?_
      refine cn_gu g5 ?_
      refine cn_gu g6 ?_
      refine cn_bd e2 ?_
      refine cn_ap ?_
      refine cn_eq rfl ?_
      exact K _ e3
    refine cn_if (fun _ => ?_) (fun _ => ?_)
    · obtain ⟨r, ν2, e1, e2, e3⟩ := oz_info Z (xs (y3 + 1).toNatClampNeg) (xs (y3 + 2).toNatClampNeg)
      refine cn_gu g1 ?_
      refine cn_gu g2 ?_
      refine cn_bd e1 ?_
      refine cn_gu g1 ?_
      refine cn_gu g2 ?_
      refine cn_bd e2 ?_
      refine cn_ap ?_
      refine cn_ap ?_
      refine cn_eq rfl ?_
      exact K _ e3
    refine cn_if (fun _ => ?_) (fun _ => ?_)
    · have e3 := Z
      obtain ⟨n, I, _⟩ := Z
      obtain ⟨r, e1, e2⟩ := op_at I (xs (y3 + 1).toNatClampNeg) (xs (y3 + 2).toNatClampNeg) (xs (y3 + 3).toNatClampNeg)
      refine cn_gu g1 ?_
      refine cn_gu g2 ?_
      refine cn_gu g3 ?_
      refine cn_bd e1 ?_
      refine cn_gu g1 ?_
      refine cn_gu g2 ?_
      refine cn_gu g3 ?_
      refine cn_bd e2 ?_
      refine cn_eq rfl ?_
      exact K _ e3
    refine cn_if (fun _ => ?_) (fun _ => ?_)
    · obtain ⟨r, ν1, ν2, e1, e2, e3⟩ := oz_flatten Z (xs (y3 + 1).toNatClampNeg) (xs (y3 + 2).toNatClampNeg)
      refine cn_gu g1 ?_
      refine cn_gu g2 ?_
      refine cn_bd e1 ?_
      refine cn_ap ?_
      refine cn_ap ?_
      refine cn_gu g1 ?_
      refine cn_gu g2 ?_
      refine cn_bd e2 ?_
      refine cn_ap ?_
      refine cn_ap ?_
      refine cn_eq rfl ?_
      exact K _ e3
    refine cn_if (fun _ => ?_) (fun _ => ?_)
    · have e3 := Z
      obtain ⟨n, I, _⟩ := Z
      obtain ⟨r, e1, e2⟩ := op_flat I (xs (y3 + 1).toNatClampNeg) (xs (y3 + 2).toNatClampNeg)
      refine cn_gu g1 ?_
      refine cn_gu g2 ?_
      refine cn_bd e1 ?_
      refine cn_gu g1 ?_
      refine cn_gu g2 ?_
      refine cn_bd e2 ?_
      refine cn_eq rfl ?_
      exact K _ e3
    refine cn_if (fun _ => ?_) (fun _ => ?_)
    · have e3 := Z
      obtain ⟨n, I, _⟩ := Z
      obtain ⟨r, e1, e2⟩ := op_area I 
      refine cn_bd e1 ?_
      refine cn_bd e2 ?_
      refine cn_eq rfl ?_
      exact K _ e3
    refine cn_if (fun _ => ?_) (fun _ => ?_)
    · have e3 := Z
      obtain ⟨n, I, _⟩ := Z
      obtain ⟨r, e1, e2⟩ := op_winding I (xs (y3 + 1).toNatClampNeg) (xs (y3 + 2).toNatClampNeg)
      refine cn_gu g1 ?_
      refine cn_gu g2 ?_
      refine cn_bd e1 ?_
      refine cn_gu g1 ?_
      refine cn_gu g2 ?_
      refine cn_bd e2 ?_
      refine cn_eq rfl ?_
      exact K _ e3
    refine cn_if (fun _ => ?_) (fun _ => ?_)
    · have e3 := Z
      obtain ⟨n, I, _⟩ := Z
      obtain ⟨r, e1, e2⟩ := op_crossings I 
      refine cn_bd e1 ?_
      refine cn_bd e2 ?_
      refine cn_eq rfl ?_
      exact K _ e3
    refine cn_if (fun _ => ?_) (fun _ => ?_)
    · obtain ⟨r, ν1, ν2, e1, e2, e3⟩ := oz_image Z (xs (y3 + 1).toNatClampNeg) (xs (y3 + 2).toNatClampNeg) (xs (y3 + 3).toNatClampNeg) (xs (y3 + 4).toNatClampNeg)
      refine cn_gu g1 ?_
      refine cn_gu g2 ?_
      refine cn_gu g3 ?_
      refine cn_gu g4 ?_
      refine cn_bd e1 ?_
      refine cn_ap ?_
      refine cn_ap ?_
      refine cn_gu g1 ?_
      refine cn_gu g2 ?_
      refine cn_gu g3 ?_
      refine cn_gu g4 ?_
      refine cn_bd e2 ?_
      refine cn_ap ?_
      refine cn_ap ?_
      refine cn_eq rfl ?_
      exact K _ e3
    refine cn_if (fun _ => ?_) (fun _ => ?_)
    · have e3 := Z
      obtain ⟨n, I, _⟩ := Z
      obtain ⟨r, e1, e2⟩ := op_dot I (xs (y3 + 1).toNatClampNeg) (xs (y3 + 2).toNatClampNeg)
      refine cn_gu g1 ?_
      refine cn_gu g2 ?_
      refine cn_bd e1 ?_
      refine cn_gu g1 ?_
      refine cn_gu g2 ?_
      refine cn_bd e2 ?_
      refine cn_eq rfl ?_
      exact K _ e3
    refine cn_if (fun _ => ?_) (fun _ => ?_)
    · have e3 := Z
      obtain ⟨n, I, _⟩ := Z
      have e2 := op_box I (xs (y3 + 1).toNatClampNeg)
      refine cn_gu g1 ?_
      refine cn_gu g1 ?_
      refine cn_bd e2 ?_
      refine cn_eq rfl ?_
      exact K _ e3
    refine cn_if (fun _ => ?_) (fun _ => ?_)
    · obtain ⟨r, ν1, ν2, e1, e2, e3⟩ := oz_act Z (xs (y3 + 1).toNatClampNeg) (xs (y3 + 2).toNatClampNeg) (xs (y3 + 3).toNatClampNeg)
      refine cn_gu g1 ?_
      refine cn_gu g2 ?_
      refine cn_gu g3 ?_
      refine cn_bd e1 ?_
      refine cn_ap ?_
      refine cn_ap ?_
      refine cn_gu g1 ?_
      refine cn_gu g2 ?_
      refine cn_gu g3 ?_
      refine cn_bd e2 ?_
      refine cn_ap ?_
      refine cn_ap ?_
      refine cn_eq rfl ?_
      exact K _ e3
    refine cn_if (fun _ => ?_) (fun _ => ?_)
    · obtain ⟨r, ν1, ν2, e1, e2, e3⟩ := oz_wipe Z (xs (y3 + 1).toNatClampNeg)
      refine cn_gu g1 ?_
      refine cn_bd e1 ?_
      refine cn_ap ?_
      refine cn_ap ?_
      refine cn_gu g1 ?_
      refine cn_bd e2 ?_
      refine cn_ap ?_
      refine cn_ap ?_
      refine cn_eq rfl ?_
      exact K _ e3
    refine cn_if (fun _ => ?_) (fun _ => ?_)
    · obtain ⟨r, ν1, ν2, e1, e2, e3⟩ := oz_run Z (xs (y3 + 1).toNatClampNeg) (xs (y3 + 2).toNatClampNeg)
      refine cn_gu g1 ?_
      refine cn_gu g2 ?_
      refine cn_bd e1 ?_
      refine cn_ap ?_
      refine cn_ap ?_
      refine cn_gu g1 ?_
      refine cn_gu g2 ?_
      refine cn_bd e2 ?_
      refine cn_ap ?_
      refine cn_ap ?_
      refine cn_eq rfl ?_
      exact K _ e3
    refine cn_if (fun _ => ?_) (fun _ => ?_)
    · have e3 := Z
      obtain ⟨n, I, _⟩ := Z
      obtain ⟨r, e1, e2⟩ := op_fitted I (xs (y3 + 1).toNatClampNeg) (xs (y3 + 2).toNatClampNeg)
      refine cn_gu g1 ?_
      refine cn_gu g2 ?_
      refine cn_bd e1 ?_
      refine cn_gu g1 ?_
      refine cn_gu g2 ?_
      refine cn_bd e2 ?_
      refine cn_eq rfl ?_
      exact K _ e3
    refine cn_if (fun _ => ?_) (fun _ => ?_)
    · obtain ⟨r, ν1, ν2, e1, e2, e3⟩ := oz_delta Z (xs (y3 + 1).toNatClampNeg) (xs (y3 + 2).toNatClampNeg) (xs (y3 + 3).toNatClampNeg) (xs (y3 + 4).toNatClampNeg) (xs (y3 + 5).toNatClampNeg)
      refine cn_gu g1 ?_
      refine cn_gu g2 ?_
      refine cn_gu g3 ?_
      refine cn_gu g4 ?_
      refine cn_gu g5 ?_
      refine cn_bd e1 ?_
      refine cn_ap ?_
      refine cn_gu g1 ?_
      refine cn_gu g2 ?_
      refine cn_gu g3 ?_
      refine cn_gu g4 ?_
      refine cn_gu g5 ?_
      refine cn_bd e2 ?_
      refine cn_ap ?_
      refine cn_eq rfl ?_
      exact K _ e3
    refine cn_if (fun _ => ?_) (fun _ => ?_)
    · obtain ⟨r, ν1, ν2, e1, e2, e3⟩ := oz_weight Z (xs (y3 + 1).toNatClampNeg) (xs (y3 + 2).toNatClampNeg)
      refine cn_gu g1 ?_
      refine cn_gu g2 ?_
      refine cn_bd e1 ?_
      refine cn_ap ?_
      refine cn_gu g1 ?_
      refine cn_gu g2 ?_
      refine cn_bd e2 ?_
      refine cn_ap ?_
      refine cn_eq rfl ?_
      exact K _ e3
    refine cn_if (fun _ => ?_) (fun _ => ?_)
    · have e3 := Z
      obtain ⟨n, I, _⟩ := Z
      obtain ⟨r, e1, e2⟩ := op_mixed I (xs (y3 + 1).toNatClampNeg) (xs (y3 + 2).toNatClampNeg) (xs (y3 + 3).toNatClampNeg)
      refine cn_gu g1 ?_
      refine cn_gu g2 ?_
      refine cn_gu g3 ?_
      refine cn_bd e1 ?_
      refine cn_gu g1 ?_
      refine cn_gu g2 ?_
      refine cn_gu g3 ?_
      refine cn_bd e2 ?_
      refine cn_eq rfl ?_
      exact K _ e3
    refine cn_if (fun _ => ?_) (fun _ => ?_)
    · obtain ⟨r, ν1, ν2, e1, e2, e3⟩ := oz_classOf Z (xs (y3 + 1).toNatClampNeg) (xs (y3 + 2).toNatClampNeg) (xs (y3 + 3).toNatClampNeg)
      refine cn_gu g1 ?_
      refine cn_gu g2 ?_
      refine cn_gu g3 ?_
      refine cn_bd e1 ?_
      refine cn_ap ?_
      refine cn_gu g1 ?_
      refine cn_gu g2 ?_
      refine cn_gu g3 ?_
      refine cn_bd e2 ?_
      refine cn_ap ?_
      refine cn_eq rfl ?_
      exact K _ e3
    refine cn_if (fun _ => ?_) (fun _ => ?_)
    · obtain ⟨r, ν1, ν2, e1, e2, e3⟩ := oz_kern Z (xs (y3 + 1).toNatClampNeg) (xs (y3 + 2).toNatClampNeg) (xs (y3 + 3).toNatClampNeg)
      refine cn_gu g1 ?_
      refine cn_gu g2 ?_
      refine cn_gu g3 ?_
      refine cn_bd e1 ?_
      refine cn_ap ?_
      refine cn_gu g1 ?_
      refine cn_gu g2 ?_
      refine cn_gu g3 ?_
      refine cn_bd e2 ?_
      refine cn_ap ?_
      refine cn_eq rfl ?_
      exact K _ e3
    refine cn_if (fun _ => ?_) (fun _ => ?_)
    · obtain ⟨r, ν1, ν2, e1, e2, e3⟩ := oz_exception Z (xs (y3 + 1).toNatClampNeg) (xs (y3 + 2).toNatClampNeg) (xs (y3 + 3).toNatClampNeg)
      refine cn_gu g1 ?_
      refine cn_gu g2 ?_
      refine cn_gu g3 ?_
      refine cn_bd e1 ?_
      refine cn_ap ?_
      refine cn_gu g1 ?_
      refine cn_gu g2 ?_
      refine cn_gu g3 ?_
      refine cn_bd e2 ?_
      refine cn_ap ?_
      refine cn_eq rfl ?_
      exact K _ e3
    refine cn_if (fun _ => ?_) (fun _ => ?_)
    · have e3 := Z
      obtain ⟨n, I, _⟩ := Z
      obtain ⟨r, e1, e2⟩ := op_kerning I (xs (y3 + 1).toNatClampNeg) (xs (y3 + 2).toNatClampNeg)
      refine cn_gu g1 ?_
      refine cn_gu g2 ?_
      refine cn_bd e1 ?_
      refine cn_gu g1 ?_
      refine cn_gu g2 ?_
      refine cn_bd e2 ?_
      refine cn_eq rfl ?_
      exact K _ e3
    refine cn_if (fun _ => ?_) (fun _ => ?_)
    · obtain ⟨r, ν1, ν2, e1, e2, e3⟩ := oz_join Z (xs (y3 + 1).toNatClampNeg) (xs (y3 + 2).toNatClampNeg) (xs (y3 + 3).toNatClampNeg) (xs (y3 + 4).toNatClampNeg)
      refine cn_gu g1 ?_
      refine cn_gu g2 ?_
      refine cn_gu g3 ?_
      refine cn_gu g4 ?_
      refine cn_bd e1 ?_
      refine cn_ap ?_
      refine cn_ap ?_
      refine cn_gu g1 ?_
      refine cn_gu g2 ?_
      refine cn_gu g3 ?_
      refine cn_gu g4 ?_
      refine cn_bd e2 ?_
      refine cn_ap ?_
      refine cn_ap ?_
      refine cn_eq rfl ?_
      exact K _ e3
    refine cn_if (fun _ => ?_) (fun _ => ?_)
    · obtain ⟨r, ν1, ν2, e1, e2, e3⟩ := oz_sign Z (xs (y3 + 1).toNatClampNeg)
      refine cn_gu g1 ?_
      refine cn_bd e1 ?_
      refine cn_ap ?_
      refine cn_ap ?_
      refine cn_gu g1 ?_
      refine cn_bd e2 ?_
      refine cn_ap ?_
      refine cn_ap ?_
      refine cn_eq rfl ?_
      exact K _ e3
    refine cn_if (fun _ => ?_) (fun _ => ?_)
    · obtain ⟨r, ν1, ν2, e1, e2, e3⟩ := oz_set Z 
      refine cn_bd e1 ?_
      refine cn_ap ?_
      refine cn_ap ?_
      refine cn_bd e2 ?_
      refine cn_ap ?_
      refine cn_ap ?_
      refine cn_eq rfl ?_
      exact K _ e3
    refine cn_if (fun _ => ?_) (fun _ => ?_)
    · have e3 := Z
      obtain ⟨n, I, _⟩ := Z
      obtain ⟨r, e1, e2⟩ := op_placed I (xs (y3 + 1).toNatClampNeg) (xs (y3 + 2).toNatClampNeg)
      refine cn_gu g1 ?_
      refine cn_gu g2 ?_
      refine cn_bd e1 ?_
      refine cn_gu g1 ?_
      refine cn_gu g2 ?_
      refine cn_bd e2 ?_
      refine cn_eq rfl ?_
      exact K _ e3
    refine cn_if (fun _ => ?_) (fun _ => ?_)
    · have e3 := Z
      obtain ⟨n, I, _⟩ := Z
      have e2 := op_length I 
      refine cn_bd e2 ?_
      refine cn_eq rfl ?_
      exact K _ e3
    exact K _ Z
