/-- built, but for the cells in X -/
def LinkX (μ : Mem) (X : Nat → Nat → Prop) : Prop := ∀ k l, gF μ k l = true → k < 13 → ¬ X k l → ∀ j, FIN k j = true → gR μ k l j = some l
theorem LinkOK.x {μ : Mem} {X : Nat → Nat → Prop} (h : LinkOK μ) : LinkX μ X := fun k l h1 h2 _ => h k l h1 h2
theorem LinkX.nwO {μ : Mem} {X : Nat → Nat → Prop} {k l : Nat} (h : LinkX μ X) (hX : X k l) : LinkX (nw μ k l) X := fun a c h1 h2 h3 j hj => by
  have w : ¬ (a = k ∧ c = l) := fun w => h3 (w.1 ▸ w.2 ▸ hX)
  rw [gF_nw, if_neg w] at h1
  rw [gR_nw, if_neg w]
  exact h a c h1 h2 h3 j hj
theorem LinkX.nwA {μ : Mem} {X : Nat → Nat → Prop} {k l : Nat} (h : LinkX μ X) (hk : 13 ≤ k) : LinkX (nw μ k l) X := fun a c h1 h2 h3 j hj => by
  have w : ¬ (a = k ∧ c = l) := fun w => by omega
  rw [gF_nw, if_neg w] at h1
  rw [gR_nw, if_neg w]
  exact h a c h1 h2 h3 j hj
theorem LinkX.nwm {μ : Mem} {X : Nat → Nat → Prop} {k l z n : Nat} (h : LinkX μ X) (hk : 13 ≤ k) (hz : 13 ≤ z) : LinkX (nwm μ k l z n) X := fun a c h1 h2 h3 j hj => by
  have w : ¬ ((a = k ∧ c = l) ∨ (a = z ∧ n * l ≤ c ∧ c < n * l + n)) := fun w => by omega
  rw [gF_nwm, if_neg w] at h1
  rw [gR_nwm, if_neg w]
  exact h a c h1 h2 h3 j hj
theorem linkX_sI {μ : Mem} {X : Nat → Nat → Prop} {k l j : Nat} {v : Int32} (h : LinkX μ X) : LinkX (sI μ k l j v) X := h
theorem linkX_sL {μ : Mem} {X : Nat → Nat → Prop} {k l j : Nat} {v : Int64} (h : LinkX μ X) : LinkX (sL μ k l j v) X := h
theorem linkX_sR {μ : Mem} {X : Nat → Nat → Prop} {k l j : Nat} {v : Option Nat} (h : LinkX μ X) (hX : X k l) : LinkX (sR μ k l j v) X := fun a c h1 h2 h3 i hi => by
  rw [gR_sR, if_neg (show ¬ (a = k ∧ c = l ∧ i = j) from fun w => h3 (w.1 ▸ w.2.1 ▸ hX))]
  exact h a c h1 h2 h3 i hi
theorem LinkX.close {μ : Mem} {X : Nat → Nat → Prop} (h : LinkX μ X) (hX : ∀ k l, X k l → ∀ j, FIN k j = true → gR μ k l j = some l) : LinkOK μ := fun k l h1 h2 j hj => by
  by_cases w : X k l
  · exact hX k l w j hj
  · exact h k l h1 h2 w j hj
theorem fin_4 : ∀ j, FIN 4 j = true → j = 2 ∨ j = 3 ∨ j = 4 := by
  intro j h
  rcases j with _ | _ | _ | _ | _ | j
  · cases h
  · cases h
  · exact Or.inl rfl
  · exact Or.inr (Or.inl rfl)
  · exact Or.inr (Or.inr rfl)
  · cases h
theorem fin_6 : ∀ j, FIN 6 j = true → False := by
  intro j h
  cases h
theorem fin_8 : ∀ j, FIN 8 j = true → j = 0 ∨ j = 1 := by
  intro j h
  rcases j with _ | _ | j
  · exact Or.inl rfl
  · exact Or.inr rfl
  · cases h
theorem fin_10 : ∀ j, FIN 10 j = true → j = 0 ∨ j = 1 ∨ j = 2 ∨ j = 3 ∨ j = 4 ∨ j = 5 := by
  intro j h
  rcases j with _ | _ | _ | _ | _ | _ | j
  · simp
  · simp
  · simp
  · simp
  · simp
  · simp
  · cases h
theorem lk_Pa_init {μ μ5 r : Mem} {o a1 : Nat} {a2 a3 : Int32} (hL : LinkOK μ) (hm : μ5 = nw μ 6 o) (h : m_Pa_init o a1 a2 a3 μ5 = r) : LinkOK r := by
  subst hm
  subst h
  unfold m_Pa_init
  simp only [ap]
  refine LinkX.close (X := fun k l => k = 6 ∧ l = o) ?_ ?_
  · exact linkX_sI (linkX_sI (linkX_sR (linkX_sI (linkX_sI (linkX_sI (linkX_sI (LinkX.nwO hL.x ⟨rfl, rfl⟩))))) ⟨rfl, rfl⟩))
  · rintro k l ⟨rfl, rfl⟩ j hj
    exact (fin_6 j hj).elim
theorem lk_Le_init {μ μ5 r : Mem} {o : Nat} {a1 a2 : Int32} (hL : LinkOK μ) (hm : μ5 = nw μ 4 o) (h : m_Le_init o a1 a2 μ5 = some r) : LinkOK r := by
  subst hm
  unfold m_Le_init at h
  obtain ⟨-, h⟩ := gfr_some h
  simp only [ap] at h
  obtain ⟨r3, h3, h⟩ := bd_some h
  obtain ⟨-, h⟩ := gfr_some h
  obtain ⟨r7, h7, h⟩ := bd_some h
  obtain ⟨-, h⟩ := gfr_some h
  obtain rfl := Option.some.inj h
  unfold m_Sh_init at h3
  obtain ⟨-, h3⟩ := gfr_some h3
  simp only [ap] at h3
  obtain ⟨-, h3⟩ := gfr_some h3
  obtain ⟨-, h3⟩ := gfr_some h3
  obtain ⟨-, h3⟩ := gfm_some h3
  obtain ⟨-, h3⟩ := gfm_some h3
  obtain ⟨-, h3⟩ := gfr_some h3
  obtain rfl := Option.some.inj h3
  unfold m_Pr_init at h7
  obtain ⟨-, h7⟩ := gfr_some h7
  simp only [ap] at h7
  obtain ⟨-, h7⟩ := gfr_some h7
  obtain rfl := Option.some.inj h7
  refine LinkX.close (X := fun k l => l = o ∧ (k = 4 ∨ k = 8 ∨ k = 10)) ?_ ?_
  · have h0 : LinkX (nw μ 4 o) (fun k l => l = o ∧ (k = 4 ∨ k = 8 ∨ k = 10)) := LinkX.nwO hL.x ⟨rfl, Or.inl rfl⟩
    have x4 : (fun k l => l = o ∧ (k = 4 ∨ k = 8 ∨ k = 10)) 4 o := ⟨rfl, Or.inl rfl⟩
    have x8 : (fun k l => l = o ∧ (k = 4 ∨ k = 8 ∨ k = 10)) 8 o := ⟨rfl, Or.inr (Or.inl rfl)⟩
    have x10 : (fun k l => l = o ∧ (k = 4 ∨ k = 8 ∨ k = 10)) 10 o := ⟨rfl, Or.inr (Or.inr rfl)⟩
    refine linkX_sI (linkX_sI (linkX_sR (LinkX.nwA ?_ (by decide)) x4))
    refine linkX_sR (linkX_sR (LinkX.nwA (linkX_sR (LinkX.nwA ?_ (by decide)) x8) (by decide)) x8) x4
    refine LinkX.nwO (linkX_sR ?_ x4) x8
    refine linkX_sR (LinkX.nwA (linkX_sR (LinkX.nwm (linkX_sR (LinkX.nwm (linkX_sR (LinkX.nwA (linkX_sR (LinkX.nwA (linkX_sR (LinkX.nwA ?_ (by decide)) x10) (by decide)) x10) (by decide)) x10) (by decide) (by decide)) x10) (by decide) (by decide)) x10) (by decide)) x10
    exact LinkX.nwO h0 x10
  · rintro k l ⟨rfl, rfl | rfl | rfl⟩ j hj
    · rcases fin_4 j hj with rfl | rfl | rfl <;> simp [gR_sI, gR_sR, gR_nw, gR_nwm]
    · rcases fin_8 j hj with rfl | rfl <;> simp [gR_sI, gR_sR, gR_nw, gR_nwm]
    · rcases fin_10 j hj with rfl | rfl | rfl | rfl | rfl | rfl <;> simp [gR_sI, gR_sR, gR_nw, gR_nwm]
