/-- the model's steps of a row, with edges below k -/
def MSS (ξ0 ξ : Mem) (X Y : Nat → Int32) (nx : Nat → Nat) (s y : Int) (k : Nat) : Prop := (∀ p, 1 ≤ p → p ≤ 511 → gI ξ 380 0 p = -sumI (mk X Y nx s y p) k) ∧ gI ξ 380 0 0 = sumI (fun k => if nk X Y nx s y k = 0 then 0 else drk X Y nx s y k) k ∧ (∀ k' l b, k' ≠ 380 → gI ξ k' l b = gI ξ0 k' l b)
theorem mss_skip {ξ0 ξ : Mem} {X Y : Nat → Int32} {nx : Nat → Nat} {s y : Int} {k : Nat} (M : MSS ξ0 ξ X Y nx s y k) (h : drk X Y nx s y k = 0 ∨ nk X Y nx s y k = 0) : MSS ξ0 ξ X Y nx s y (k + 1) := by
  obtain ⟨m1, m2, m3⟩ := M
  refine ⟨fun p p1 p2 => ?_, ?_, m3⟩
  · rw [m1 p p1 p2]
    show _ = -(sumI (mk X Y nx s y p) k + mk X Y nx s y p k)
    have : mk X Y nx s y p k = 0 := by
      unfold mk
      rcases h with h | h
      · rw [h]; split <;> rfl
      · rw [if_neg (by omega)]
    rw [this, Int32.add_zero]
  · rw [m2]
    show _ = sumI (fun k => if nk X Y nx s y k = 0 then 0 else drk X Y nx s y k) k + (if nk X Y nx s y k = 0 then 0 else drk X Y nx s y k)
    have : (if nk X Y nx s y k = 0 then 0 else drk X Y nx s y k) = 0 := by
      rcases h with h | h
      · rw [h]; split <;> rfl
      · rw [if_pos h]
    rw [this, Int32.add_zero]
theorem step_edge {ξ0 ξ : Mem} {X Y : Nat → Int32} {nx : Nat → Nat} {s y S : Int} {k : Nat} {a1 a2 y5 up d : Int32} {y3 c : Int64} {cc : Int64 → Int32 → Mem → Option Mem} (M : MSS ξ0 ξ X Y nx s y k) (hc : c.toInt = S - 1) (hN : nk X Y nx s y k = cl S) (hd : drk X Y nx s y k = d) (hup : (up = 0 ∧ d = -1) ∨ (up = 1 ∧ d = 1)) :
    ∃ ξ', (if (0 : Int64) ≤ c then gu (0 : Int32) 514 (if up = 0 then mj_Mo_steps_255 a1 a2 cc y3 y5 up c (-1) (gI ξ 380 0 (0 : Int32).toNatClampNeg) 0 ξ else mj_Mo_steps_255 a1 a2 cc y3 y5 up c 1 (gI ξ 380 0 (0 : Int32).toNatClampNeg) 0 ξ) else mj_Mo_steps_289 a1 a2 cc y3 y5 ξ) = mj_Mo_steps_289 a1 a2 cc y3 y5 ξ' ∧ MSS ξ0 ξ' X Y nx s y (k + 1) := by
  obtain ⟨m1, m2, m3⟩ := id M
  have o1 : ¬ (1 : Int32) = 0 := by decide
  have e0 : (0 : Int64).toInt = 0 := by decide
  have e5 : (512 : Int64).toInt = 512 := by decide
  by_cases w : (0 : Int64) ≤ c
  rotate_left 1
  · have w' : ¬ (0 : Int64).toInt ≤ c.toInt := fun q => w (u_le.mpr q)
    rw [e0] at w'
    exact ⟨ξ, by rw [if_neg w], mss_skip M (Or.inr (by rw [hN]; unfold cl; omega))⟩
  · have w' := u_le.mp w
    rw [e0] at w'
    have g0 : ∀ x : Option Mem, gu (0 : Int32) 514 x = x := fun x => gu_nI (l := 0) (by omega) (by omega)
    have c0 : (0 : Int32).toNatClampNeg = 0 := rfl
    -- both ways are one
    have one : (if up = 0 then mj_Mo_steps_255 a1 a2 cc y3 y5 up c (-1) (gI ξ 380 0 0) 0 ξ else mj_Mo_steps_255 a1 a2 cc y3 y5 up c 1 (gI ξ 380 0 0) 0 ξ) = mj_Mo_steps_255 a1 a2 cc y3 y5 up c d (gI ξ 380 0 0) 0 ξ := by
      rcases hup with ⟨rfl, rfl⟩ | ⟨rfl, rfl⟩
      · rw [if_pos rfl]
      · rw [if_neg o1]
    rw [if_pos w, g0, c0, one]
    unfold mj_Mo_steps_255
    rw [g0, c0, ap]
    have n0 : nk X Y nx s y k ≠ 0 := by rw [hN]; unfold cl; omega
    have st0 : gI ξ 380 0 0 + d = sumI (fun k => if nk X Y nx s y k = 0 then 0 else drk X Y nx s y k) (k + 1) := by
      show _ = sumI (fun k => if nk X Y nx s y k = 0 then 0 else drk X Y nx s y k) k + (if nk X Y nx s y k = 0 then 0 else drk X Y nx s y k)
      rw [m2, if_neg n0, hd]
    by_cases w2 : (512 : Int64) ≤ c
    · have w2' := u_le.mp w2
      rw [e5] at w2'
      refine ⟨_, by rw [if_pos w2], fun p p1 p2 => ?_, by rw [gI_self]; exact st0, fun k' l b q => by rw [gI_ne q]; exact m3 k' l b q⟩
      rw [gI_ne2 (by omega), m1 p p1 p2]
      show _ = -(sumI (mk X Y nx s y p) k + mk X Y nx s y p k)
      have : mk X Y nx s y p k = 0 := by unfold mk; rw [if_neg (by rw [hN]; unfold cl; omega)]
      rw [this, Int32.add_zero]
    · have w2' : ¬ (512 : Int64).toInt ≤ c.toInt := fun q => w2 (u_le.mpr q)
      rw [e5] at w2'
      obtain ⟨N, hNN⟩ : ∃ N, N = nk X Y nx s y k := ⟨_, rfl⟩
      have nb : 1 ≤ N ∧ N ≤ 512 ∧ (N : Int) = S := by rw [hNN, hN]; unfold cl; omega
      have ci : c.toInt32 + 1 = nI N := by
        have b := back (v := c) (by omega)
        rw [t_eq, t_add, b.2, nI_toInt (by omega), hc]
        · show S - 1 + 1 = _; omega
        · rw [b.2, hc]; show _ ≤ S - 1 + 1 ∧ S - 1 + 1 ≤ _; omega
      have two : (if up = 0 then mj_Mo_steps_287 a1 a2 cc y3 y5 (-1) (gI (sI ξ 380 0 0 (gI ξ 380 0 0 + d)) 380 0 N) (nI N) (sI ξ 380 0 0 (gI ξ 380 0 0 + d)) else mj_Mo_steps_287 a1 a2 cc y3 y5 1 (gI (sI ξ 380 0 0 (gI ξ 380 0 0 + d)) 380 0 N) (nI N) (sI ξ 380 0 0 (gI ξ 380 0 0 + d))) = mj_Mo_steps_287 a1 a2 cc y3 y5 d (gI (sI ξ 380 0 0 (gI ξ 380 0 0 + d)) 380 0 N) (nI N) (sI ξ 380 0 0 (gI ξ 380 0 0 + d)) := by
        rcases hup with ⟨rfl, rfl⟩ | ⟨rfl, rfl⟩
        · rw [if_pos rfl]
        · rw [if_neg o1]
      rw [if_neg w2, ci, gu_nI (by omega) (by omega), nI_clamp (by omega), two]
      unfold mj_Mo_steps_287
      rw [gu_nI (by omega) (by omega), nI_clamp (by omega), ap]
      refine ⟨_, rfl, fun p p1 p2 => ?_, by rw [gI_ne2 (by omega), gI_self]; exact st0, fun k' l b q => by rw [gI_ne q, gI_ne q]; exact m3 k' l b q⟩
      show _ = -(sumI (mk X Y nx s y p) k + mk X Y nx s y p k)
      by_cases w3 : p = N
      · subst w3
        rw [gI_self, gI_ne2 (by omega), m1 _ p1 p2]
        unfold mk
        rw [if_pos hNN.symm, hd]
        grind
      · rw [gI_ne2 w3, gI_ne2 (by omega), m1 p p1 p2]
        have : mk X Y nx s y p k = 0 := by unfold mk; rw [if_neg (by rw [← hNN]; omega)]
        rw [this, Int32.add_zero]
