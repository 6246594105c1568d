/-- nothing changed but in the roles S -/
def Un (S : List Nat) (μ ν : Mem) : Prop := (∀ k, k ∉ S → gI ν k = gI μ k ∧ gL ν k = gL μ k ∧ gR ν k = gR μ k) ∧ ∀ k l, gF ν k l = gF μ k l
theorem Un.rf {S : List Nat} {μ : Mem} : Un S μ μ := ⟨fun _ _ => ⟨rfl, rfl, rfl⟩, fun _ _ => rfl⟩
theorem Un.tr {S : List Nat} {μ ν ξ : Mem} (h : Un S μ ν) (g : Un S ν ξ) : Un S μ ξ := ⟨fun k hk => ⟨(g.1 k hk).1.trans (h.1 k hk).1, (g.1 k hk).2.1.trans (h.1 k hk).2.1, (g.1 k hk).2.2.trans (h.1 k hk).2.2⟩, fun k l => (g.2 k l).trans (h.2 k l)⟩
theorem Un.mono {S S' : List Nat} {μ ν : Mem} (h : Un S μ ν) (hs : ∀ k ∈ S, k ∈ S') : Un S' μ ν := ⟨fun k hk => h.1 k (fun w => hk (hs k w)), h.2⟩
theorem un_sI {S : List Nat} {μ : Mem} {k l j : Nat} {v : Int32} (hk : k ∈ S) : Un S μ (sI μ k l j v) := ⟨fun a ha => ⟨by funext b c; rw [gI_sI, if_neg (show ¬ (a = k ∧ b = l ∧ c = j) from fun w => ha (w.1 ▸ hk))], rfl, rfl⟩, fun _ _ => rfl⟩
theorem un_sL {S : List Nat} {μ : Mem} {k l j : Nat} {v : Int64} (hk : k ∈ S) : Un S μ (sL μ k l j v) := ⟨fun a ha => ⟨rfl, by funext b c; rw [gL_sL, if_neg (show ¬ (a = k ∧ b = l ∧ c = j) from fun w => ha (w.1 ▸ hk))], rfl⟩, fun _ _ => rfl⟩
theorem un_sR {S : List Nat} {μ : Mem} {k l j : Nat} {v : Option Nat} (hk : k ∈ S) : Un S μ (sR μ k l j v) := ⟨fun a ha => ⟨rfl, rfl, by funext b c; rw [gR_sR, if_neg (show ¬ (a = k ∧ b = l ∧ c = j) from fun w => ha (w.1 ▸ hk))]⟩, fun _ _ => rfl⟩
theorem un_cpL {S : List Nat} {μ : Mem} {k l k' l' sp dp n : Nat} (hk : k' ∈ S) : Un S μ (cpL μ k l k' l' sp dp n) := ⟨fun a ha => ⟨rfl, by funext b c; show (if a = k' ∧ b = l' then _ else _) = _; rw [if_neg (show ¬ (a = k' ∧ b = l') from fun w => ha (w.1 ▸ hk))]; rfl, rfl⟩, fun _ _ => rfl⟩
theorem bcase_f (B : Bool) : B = false ∨ B = true := by cases B <;> simp
theorem bcase_t (B : Bool) : B = true ∨ B = false := by cases B <;> simp
theorem ocase_n {α : Type} (o : Option α) : o = none ∨ ∃ y, o = some y := by cases o <;> simp
theorem ocase_s {α : Type} (o : Option α) : (∃ y, o = some y) ∨ o = none := by cases o <;> simp
