theorem dv_succ {d k : Nat} (hd : d = 2 ∨ d = 3) : (d = 2 → dv10 d (k + 1) = 2 * (2 * dv10 d k)) ∧ (d = 3 → dv10 d (k + 1) = 2 * (2 * (2 * dv10 d k))) := by
  unfold dv10
  refine ⟨fun q => ?_, fun q => ?_⟩
  · subst q; rw [show 2 * (k + 1) = 2 * k + 1 + 1 by omega, Int.pow_succ, Int.pow_succ]; omega
  · subst q; rw [show 3 * (k + 1) = 3 * k + 1 + 1 + 1 by omega, Int.pow_succ, Int.pow_succ, Int.pow_succ]; omega
/-- the left half: the class's row h + 1 is the model's new top -/
theorem cp_left {ν ν' ξ ξ' : Mem} {d h v : Nat} (hd : d = 2 ∨ d = 3) (hh : h < 10) (C : CP ν ξ d h v) (M : MH v d h ξ ξ')
    (H : ∀ c, c < 2 → gL ν' (120 + c) 0 (4 * h + 4) = gL ν (120 + c) 0 (4 * h) ∧ gL ν' (120 + c) 0 (4 * h + 5) = av (gL ν (120 + c) 0 (4 * h)) (gL ν (120 + c) 0 (4 * h + 1)) ∧ gL ν' (120 + c) 0 (4 * h + 6) = av (av (gL ν (120 + c) 0 (4 * h)) (gL ν (120 + c) 0 (4 * h + 1))) (av (gL ν (120 + c) 0 (4 * h + 1)) (gL ν (120 + c) 0 (4 * h + 2))) ∧
      (d = 3 → gL ν' (120 + c) 0 (4 * h + 7) = av (av (av (gL ν (120 + c) 0 (4 * h)) (gL ν (120 + c) 0 (4 * h + 1))) (av (gL ν (120 + c) 0 (4 * h + 1)) (gL ν (120 + c) 0 (4 * h + 2)))) (av (av (gL ν (120 + c) 0 (4 * h + 1)) (gL ν (120 + c) 0 (4 * h + 2))) (av (gL ν (120 + c) 0 (4 * h + 2)) (gL ν (120 + c) 0 (4 * h + 3)))))) : CP ν' ξ' d (h + 1) (v + 1) := by
  intro c k hc hk
  obtain ⟨k', hk'⟩ : ∃ k', 10 - h = k' + 1 := ⟨9 - h, by omega⟩
  have e9 : 10 - (h + 1) = k' := by omega
  rw [e9]
  have C0 := C c 0 hc (by omega)
  have C1 := C c 1 hc (by omega)
  have C2 := C c 2 hc (by omega)
  rw [hk'] at C0 C1 C2
  obtain ⟨h1, h2, h3, h4⟩ := H c hc
  obtain ⟨M2, M3⟩ := M.2.2.2.2.2 c hc
  rcases hd with rfl | rfl
  · obtain ⟨m1, m2, m3, _⟩ := M2 rfl
    rw [(dv_succ (Or.inl rfl)).1 rfl] at C0 C1 C2
    rcases (show k = 0 ∨ k = 1 ∨ k = 2 by omega) with rfl | rfl | rfl
    · rw [show 4 * (h + 1) + 0 = 4 * h + 4 by omega, show 8 * (v + 1) + 2 * 0 + c = 8 * v + 8 + c by omega, h1, m1]
      exact pr_weak (pr_weak C0)
    · rw [show 4 * (h + 1) + 1 = 4 * h + 5 by omega, show 8 * (v + 1) + 2 * 1 + c = 8 * v + 8 + 2 + c by omega, h2, m2]
      exact pr_weak (pr_av C0 C1)
    · rw [show 4 * (h + 1) + 2 = 4 * h + 6 by omega, show 8 * (v + 1) + 2 * 2 + c = 8 * v + 8 + 4 + c by omega, h3, m3]
      exact pr_av (pr_av C0 C1) (pr_av C1 C2)
  · obtain ⟨m1, m2, m3, m4, _⟩ := M3 rfl
    have C3 := C c 3 hc (by omega)
    rw [hk'] at C3
    rw [(dv_succ (Or.inr rfl)).2 rfl] at C0 C1 C2 C3
    rcases (show k = 0 ∨ k = 1 ∨ k = 2 ∨ k = 3 by omega) with rfl | rfl | rfl | rfl
    · rw [show 4 * (h + 1) + 0 = 4 * h + 4 by omega, show 8 * (v + 1) + 2 * 0 + c = 8 * v + 8 + c by omega, h1, m1]
      exact pr_weak (pr_weak (pr_weak C0))
    · rw [show 4 * (h + 1) + 1 = 4 * h + 5 by omega, show 8 * (v + 1) + 2 * 1 + c = 8 * v + 8 + 2 + c by omega, h2, m2]
      exact pr_weak (pr_weak (pr_av C0 C1))
    · rw [show 4 * (h + 1) + 2 = 4 * h + 6 by omega, show 8 * (v + 1) + 2 * 2 + c = 8 * v + 8 + 4 + c by omega, h3, m3]
      exact pr_weak (pr_av (pr_av C0 C1) (pr_av C1 C2))
    · rw [show 4 * (h + 1) + 3 = 4 * h + 7 by omega, show 8 * (v + 1) + 2 * 3 + c = 8 * v + 8 + 6 + c by omega, h4 rfl, m4]
      exact pr_av (pr_av (pr_av C0 C1) (pr_av C1 C2)) (pr_av (pr_av C1 C2) (pr_av C2 C3))
theorem cp_right {ν ν' ξ ξ' : Mem} {d h v : Nat} (hd : d = 2 ∨ d = 3) (hh : h < 10) (C : CP ν ξ d h v) (M : MH v d h ξ ξ')
    (H : ∀ c, c < 2 → (d = 2 → gL ν' (120 + c) 0 (4 * h + 4) = av (av (gL ν (120 + c) 0 (4 * h)) (gL ν (120 + c) 0 (4 * h + 1))) (av (gL ν (120 + c) 0 (4 * h + 1)) (gL ν (120 + c) 0 (4 * h + 2))) ∧ gL ν' (120 + c) 0 (4 * h + 5) = av (gL ν (120 + c) 0 (4 * h + 1)) (gL ν (120 + c) 0 (4 * h + 2)) ∧ gL ν' (120 + c) 0 (4 * h + 6) = gL ν (120 + c) 0 (4 * h + 2)) ∧
      (d = 3 → gL ν' (120 + c) 0 (4 * h + 4) = av (av (av (gL ν (120 + c) 0 (4 * h)) (gL ν (120 + c) 0 (4 * h + 1))) (av (gL ν (120 + c) 0 (4 * h + 1)) (gL ν (120 + c) 0 (4 * h + 2)))) (av (av (gL ν (120 + c) 0 (4 * h + 1)) (gL ν (120 + c) 0 (4 * h + 2))) (av (gL ν (120 + c) 0 (4 * h + 2)) (gL ν (120 + c) 0 (4 * h + 3)))) ∧ gL ν' (120 + c) 0 (4 * h + 5) = av (av (gL ν (120 + c) 0 (4 * h + 1)) (gL ν (120 + c) 0 (4 * h + 2))) (av (gL ν (120 + c) 0 (4 * h + 2)) (gL ν (120 + c) 0 (4 * h + 3))) ∧ gL ν' (120 + c) 0 (4 * h + 6) = av (gL ν (120 + c) 0 (4 * h + 2)) (gL ν (120 + c) 0 (4 * h + 3)) ∧ gL ν' (120 + c) 0 (4 * h + 7) = gL ν (120 + c) 0 (4 * h + 3))) : CP ν' ξ' d (h + 1) v := by
  intro c k hc hk
  obtain ⟨k', hk'⟩ : ∃ k', 10 - h = k' + 1 := ⟨9 - h, by omega⟩
  have e9 : 10 - (h + 1) = k' := by omega
  rw [e9]
  have C0 := C c 0 hc (by omega)
  have C1 := C c 1 hc (by omega)
  have C2 := C c 2 hc (by omega)
  rw [hk'] at C0 C1 C2
  obtain ⟨H2, H3⟩ := H c hc
  obtain ⟨M2, M3⟩ := M.2.2.2.2.2 c hc
  rcases hd with rfl | rfl
  · obtain ⟨h1, h2, h3⟩ := H2 rfl
    obtain ⟨_, _, _, m1, m2, m3⟩ := M2 rfl
    rw [(dv_succ (Or.inl rfl)).1 rfl] at C0 C1 C2
    rcases (show k = 0 ∨ k = 1 ∨ k = 2 by omega) with rfl | rfl | rfl
    · rw [show 4 * (h + 1) + 0 = 4 * h + 4 by omega, show 8 * v + 2 * 0 + c = 8 * v + c by omega, h1, m1]
      exact pr_av (pr_av C0 C1) (pr_av C1 C2)
    · rw [show 4 * (h + 1) + 1 = 4 * h + 5 by omega, show 8 * v + 2 * 1 + c = 8 * v + 2 + c by omega, h2, m2]
      exact pr_weak (pr_av C1 C2)
    · rw [show 4 * (h + 1) + 2 = 4 * h + 6 by omega, show 8 * v + 2 * 2 + c = 8 * v + 4 + c by omega, h3, m3]
      exact pr_weak (pr_weak C2)
  · obtain ⟨h1, h2, h3, h4⟩ := H3 rfl
    obtain ⟨_, _, _, _, m1, m2, m3, m4⟩ := M3 rfl
    have C3 := C c 3 hc (by omega)
    rw [hk'] at C3
    rw [(dv_succ (Or.inr rfl)).2 rfl] at C0 C1 C2 C3
    rcases (show k = 0 ∨ k = 1 ∨ k = 2 ∨ k = 3 by omega) with rfl | rfl | rfl | rfl
    · rw [show 4 * (h + 1) + 0 = 4 * h + 4 by omega, show 8 * v + 2 * 0 + c = 8 * v + c by omega, h1, m1]
      exact pr_av (pr_av (pr_av C0 C1) (pr_av C1 C2)) (pr_av (pr_av C1 C2) (pr_av C2 C3))
    · rw [show 4 * (h + 1) + 1 = 4 * h + 5 by omega, show 8 * v + 2 * 1 + c = 8 * v + 2 + c by omega, h2, m2]
      exact pr_weak (pr_av (pr_av C1 C2) (pr_av C2 C3))
    · rw [show 4 * (h + 1) + 2 = 4 * h + 6 by omega, show 8 * v + 2 * 2 + c = 8 * v + 4 + c by omega, h3, m3]
      exact pr_weak (pr_weak (pr_av C2 C3))
    · rw [show 4 * (h + 1) + 3 = 4 * h + 7 by omega, show 8 * v + 2 * 3 + c = 8 * v + 6 + c by omega, h4, m4]
      exact pr_weak (pr_weak (pr_weak C3))
/-- a number over the unit is rounded alike -/
theorem rnd_sc {s P : Int} {X q U V : Int64} (h : PR s P X q) (hs : s = 1 ∨ s = 1024) (hU : U.toInt = s * V.toInt) (hV : V.toInt = 1048576 ∨ V.toInt = 1073741824) (hU2 : U.toInt = 1073741824) : rnd X U = rnd q V := by
  obtain ⟨a1, _, a2, a3⟩ := h
  obtain ⟨x, m, e1, e2, e3⟩ := rnd_q (a := X) (b := U) (by omega)
  obtain ⟨x', m', f1, f2, f3⟩ := rnd_q (a := q) (b := V) (by omega)
  have hx : x = x' := by
    apply u_eq.mpr
    rw [e2, f2, a1, hU]
    exact Int.mul_ediv_mul_of_pos _ _ (by omega)
  have hm : m.toInt = s * m'.toInt := by
    rw [e3, f3, a1, hU]
    exact Int.mul_emod_mul_of_pos _ _ (by omega)
  have e2' : (2 : Int64).toInt = 2 := by decide
  have m0 : 0 ≤ m'.toInt := by rw [f3]; exact Int.emod_nonneg _ (by omega)
  have m1 : m'.toInt < V.toInt := by rw [f3]; exact Int.emod_lt_of_pos _ (by omega)
  have t1 : (2 * m').toInt = 2 * m'.toInt := by rw [u_mul, e2']; rw [e2']; omega
  have mb : m.toInt < U.toInt ∧ 0 ≤ m.toInt := by rw [e3]; exact ⟨Int.emod_lt_of_pos _ (by omega), Int.emod_nonneg _ (by omega)⟩
  have t2 : (2 * m).toInt = 2 * m.toInt := by rw [u_mul, e2']; rw [e2']; omega
  rw [e1, f1, hx]
  unfold rdq
  have c1 : (U < 2 * m) ↔ (V < 2 * m') := by
    rw [u_lt, u_lt, t1, t2, hm, hU]
    rcases hs with rfl | rfl <;> omega
  have c2 : (2 * m = U) ↔ (2 * m' = V) := by
    rw [u_eq, u_eq, t1, t2, hm, hU]
    rcases hs with rfl | rfl <;> omega
  by_cases w : V < 2 * m'
  · rw [if_pos w, if_pos (c1.mpr w)]
  · rw [if_neg w, if_neg (fun q => w (c1.mp q))]
    by_cases w2 : 2 * m' = V
    · rw [if_pos w2, if_pos (c2.mpr w2)]
    · rw [if_neg w2, if_neg (fun q => w2 (c2.mp q))]
