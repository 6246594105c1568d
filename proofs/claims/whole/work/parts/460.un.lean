/-- nothing changed but in the rows S (of an object's field j: 1000 + 100 k + j) -/
def Un (S : List Nat) (μ ν : Mem) : Prop := (∀ k, 13 ≤ k → k ∉ S → gI ν k = gI μ k ∧ gL ν k = gL μ k ∧ gR ν k = gR μ k) ∧ (∀ k j, k < 13 → 1000 + 100 * k + j ∉ S → ∀ l, gI ν k l j = gI μ k l j ∧ gL ν k l j = gL μ k l j ∧ gR ν k l j = gR μ k l j) ∧ ∀ k l, gF ν k l = gF μ k l
theorem Un.rf {S : List Nat} {μ : Mem} : Un S μ μ := ⟨fun _ _ _ => ⟨rfl, rfl, rfl⟩, fun _ _ _ _ _ => ⟨rfl, rfl, rfl⟩, fun _ _ => rfl⟩
theorem Un.tr {S : List Nat} {μ ν ξ : Mem} (h : Un S μ ν) (g : Un S ν ξ) : Un S μ ξ := ⟨fun k h3 hk => ⟨(g.1 k h3 hk).1.trans (h.1 k h3 hk).1, (g.1 k h3 hk).2.1.trans (h.1 k h3 hk).2.1, (g.1 k h3 hk).2.2.trans (h.1 k h3 hk).2.2⟩, fun k j h3 hk l => ⟨(g.2.1 k j h3 hk l).1.trans (h.2.1 k j h3 hk l).1, (g.2.1 k j h3 hk l).2.1.trans (h.2.1 k j h3 hk l).2.1, (g.2.1 k j h3 hk l).2.2.trans (h.2.1 k j h3 hk l).2.2⟩, fun k l => (g.2.2 k l).trans (h.2.2 k l)⟩
theorem Un.mono {S S' : List Nat} {μ ν : Mem} (h : Un S μ ν) (hs : ∀ k ∈ S, k ∈ S') : Un S' μ ν := ⟨fun k h3 hk => h.1 k h3 (fun w => hk (hs k w)), fun k j h3 hk => h.2.1 k j h3 (fun w => hk (hs _ w)), h.2.2⟩
theorem un_sI {S : List Nat} {μ : Mem} {k l j : Nat} {v : Int32} (hk : k ∈ S ∨ (k < 13 ∧ 1000 + 100 * k + j ∈ S)) (h2 : k ∈ S → 13 ≤ k) : Un S μ (sI μ k l j v) := by
  refine ⟨fun a h3 ha => ⟨?_, rfl, rfl⟩, fun a c h3 ha b => ⟨?_, rfl, rfl⟩, fun _ _ => rfl⟩
  · funext b c; rw [gI_sI, if_neg (show ¬ (a = k ∧ b = l ∧ c = j) from fun w => by
      rcases hk with hk | hk
      · exact ha (w.1 ▸ hk)
      · omega)]
  · rw [gI_sI, if_neg (show ¬ (a = k ∧ b = l ∧ c = j) from fun w => by
      rcases hk with hk | hk
      · have := h2 hk; omega
      · rw [w.1, w.2.2] at ha; exact ha hk.2)]
theorem un_sL {S : List Nat} {μ : Mem} {k l j : Nat} {v : Int64} (hk : k ∈ S ∨ (k < 13 ∧ 1000 + 100 * k + j ∈ S)) (h2 : k ∈ S → 13 ≤ k) : Un S μ (sL μ k l j v) := by
  refine ⟨fun a h3 ha => ⟨rfl, ?_, rfl⟩, fun a c h3 ha b => ⟨rfl, ?_, rfl⟩, fun _ _ => rfl⟩
  · funext b c; rw [gL_sL, if_neg (show ¬ (a = k ∧ b = l ∧ c = j) from fun w => by
      rcases hk with hk | hk
      · exact ha (w.1 ▸ hk)
      · omega)]
  · rw [gL_sL, if_neg (show ¬ (a = k ∧ b = l ∧ c = j) from fun w => by
      rcases hk with hk | hk
      · have := h2 hk; omega
      · rw [w.1, w.2.2] at ha; exact ha hk.2)]
theorem un_sR {S : List Nat} {μ : Mem} {k l j : Nat} {v : Option Nat} (hk : k ∈ S ∨ (k < 13 ∧ 1000 + 100 * k + j ∈ S)) (h2 : k ∈ S → 13 ≤ k) : Un S μ (sR μ k l j v) := by
  refine ⟨fun a h3 ha => ⟨rfl, rfl, ?_⟩, fun a c h3 ha b => ⟨rfl, rfl, ?_⟩, fun _ _ => rfl⟩
  · funext b c; rw [gR_sR, if_neg (show ¬ (a = k ∧ b = l ∧ c = j) from fun w => by
      rcases hk with hk | hk
      · exact ha (w.1 ▸ hk)
      · omega)]
  · rw [gR_sR, if_neg (show ¬ (a = k ∧ b = l ∧ c = j) from fun w => by
      rcases hk with hk | hk
      · have := h2 hk; omega
      · rw [w.1, w.2.2] at ha; exact ha hk.2)]
theorem un_cpL {S : List Nat} {μ : Mem} {k l k' l' sp dp n : Nat} (hk : k' ∈ S) (h2 : k' ∈ S → 13 ≤ k') : Un S μ (cpL μ k l k' l' sp dp n) := by
  refine ⟨fun a h3 ha => ⟨rfl, ?_, rfl⟩, fun a c h3 ha b => ⟨rfl, ?_, rfl⟩, fun _ _ => rfl⟩
  · funext b c; show (if a = k' ∧ b = l' then _ else _) = _; rw [if_neg (show ¬ (a = k' ∧ b = l') from fun w => ha (w.1 ▸ hk))]; rfl
  · show (if a = k' ∧ b = l' then _ else _) = _; rw [if_neg (show ¬ (a = k' ∧ b = l') from fun w => by have := h2 hk; omega)]; rfl
theorem bcase_f (B : Bool) : B = false ∨ B = true := by cases B <;> simp
theorem bcase_t (B : Bool) : B = true ∨ B = false := by cases B <;> simp
theorem ocase_n {α : Type} (o : Option α) : o = none ∨ ∃ y, o = some y := by cases o <;> simp
theorem ocase_s {α : Type} (o : Option α) : (∃ y, o = some y) ∨ o = none := by cases o <;> simp
